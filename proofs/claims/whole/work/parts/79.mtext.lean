/-! the reference reads a text -/
theorem ro_1 {X : mm_X} {f0 : Nat → Int32} {fl : Nat → Int64} {g : Nat → Nat → Int32} {gl : Nat → Nat → Int64} {hh : Nat → Nat → Option Nat} {v : Nat → Value} {tx : mm_W} {c u S : Nat → Nat} {sec : Bool} {N n : Nat} (hT : TK g c u S N) (hL : LG f0 sec) {i p o K : Nat} {f : Nat → Int32} {P : Option Value → mm_W → Prop} (hi : i ≤ N) (hp : p ≤ 50) (hK : 64 ≤ K) (hn : 12 * N + 10 ≤ n) (hs : sm f f0) (h5 : f 4755 = iI (i : Int)) (h6 : f 4756 = iI (p : Int)) (h7 : f 4757 = -1) (hR : RC f0 fl g gl hh v tx S P (p_clause c u sec n i p o)) : WP X (K + 12) 164 (0, [some (.ref 74)], [], Wd f fl g gl hh v tx) P := by
  have f46 : f 4746 = (if sec = true then 1 else 0) := (hs 4746 (by decide) (by decide) (by decide)).trans hL.1
  refine b_m_readOne_0 (h := ?_) ..
  rw [f46]
  cases sec with
  | false => exact ⟨fun _ => rc_0 hT hL hi hp hK hn hs h5 h6 h7 ⟨fun j p q h f' a b c d => b_m_readOne_18 (h := hR.1 j p q h f' a b c d) .., fun k h f' a b => b_m_readOne_18 (h := hR.2 k h f' a b) ..⟩, fun c => absurd rfl c⟩
  | true => exact ⟨fun c => absurd c (by decide), fun _ => rc_1 hT hL hi hp hK hn hs h5 h6 h7 ⟨fun j p q h f' a b c d => b_m_readOne_11 (h := hR.1 j p q h f' a b c d) .., fun k h f' a b => b_m_readOne_11 (h := hR.2 k h f' a b) ..⟩⟩
/-- a clause ends within the tokens -/
theorem pc_le {c u : Nat → Nat} {sec : Bool} {N n i p o j p' : Nat} {q : pC} (hc : ∀ i, N ≤ i → c i = 0) (h : p_clause c u sec n i p o = some (.inr (j, p', q))) (hi : i ≤ N) (hp : p ≤ 50) : j ≤ N ∧ p' ≤ 50 := by
  have hs : ∀ k, c k ≠ 0 → k < N := fun k hk => by
    by_cases q : N ≤ k
    · exact absurd (hc k q) hk
    · omega
  obtain ⟨k, j1, p1, C1, e1, j2, t, C2, e2, h1, h2, h3, h4, -⟩ := pc_inv h
  have hiN : i < N := hs i fun h => by rw [h] at h1; cases sec <;> cases h1
  have a1 : j1 ≤ N ∧ p1 ≤ 50 := by
    unfold p_sum0 at h2
    split at h2
    · obtain ⟨g1, g2, g3, -⟩ := p_inv hc E00_ok _ _ _ _ _ _ _ _ _ _ _ _ _ h2 (by omega) (by omega) (by omega) hp (fun h => by omega)
      exact ⟨g2, g3⟩
    · cases h2
      exact ⟨hiN, hp⟩
  have a2 : j2 ≤ N := by
    unfold p_times at h3
    split at h3
    · split at h3
      · rename_i q1 q2
        have := hs (j1 + 1) (by rw [q2.1]; decide)
        cases h3
        omega
      · cases h3
    · cases h3
      exact a1.1
  unfold p_test at h4
  split at h4
  · rename_i q1
    have := hs j2 (by rw [q1]; decide)
    obtain ⟨g1, g2, g3, -⟩ := p_inv hc E00_ok _ _ _ _ _ _ _ _ _ _ _ _ _ h4 (by omega) (by omega) (by omega) a1.2 (fun h => by omega)
    exact ⟨g2, g3⟩
  · cases h4
    exact ⟨a2, a1.2⟩
def RT (f0 : Nat → Int32) (fl : Nat → Int64) (g : Nat → Nat → Int32) (gl : Nat → Nat → Int64) (hh : Nat → Nat → Option Nat) (v : Nat → Value) (tx : mm_W) (S : Nat → Nat) (P : Option Value → mm_W → Prop) (r : Option (Nat ⊕ List pC)) : Prop := (∀ cs, r = some (.inr cs) → ∀ f', sm f' f0 → P (some (.int 1)) (Wd (va_up f' 4750 (-1)) fl g gl hh v tx)) ∧ (∀ k, r = some (.inl k) → ∀ f', sm f' f0 → P (some (.int 0)) (Wd (va_up f' 4750 (iI (S k : Int))) fl g gl hh v tx))
theorem fl_34t {X : mm_X} {d : Nat} {f : Nat → Int32} {fl : Nat → Int64} {g : Nat → Nat → Int32} {gl : Nat → Nat → Int64} {hh : Nat → Nat → Option Nat} {v : Nat → Value} {tx : mm_W} {P : Option Value → mm_W → Prop} {S : Nat → Nat} {k : Nat} {l1 : Int32} (hq : ¬ f 4757 = -1) (h7 : f 4757 = iI (S k : Int)) (h : P (some (.int 0)) (Wd (va_up f 4750 (iI (S k : Int))) fl g gl hh v tx)) : WP X (d + 2) 171 (34, [some (.ref 74), some (.int l1)], [], Wd f fl g gl hh v tx) P := by
  refine b_m_readsText_34 (h := fl_157 hq (b_m_readsText_43 (h := ⟨fun _ => ⟨fun _ => ⟨fun _ => ?_, fun c => absurd c hq⟩, fun c => absurd c hq⟩, fun c => absurd rfl c⟩) ..)) ..
  rw [h7]
  exact h
theorem rs_1 {X : mm_X} {f0 : Nat → Int32} {fl : Nat → Int64} {g : Nat → Nat → Int32} {gl : Nat → Nat → Int64} {hh : Nat → Nat → Option Nat} {v : Nat → Value} {tx : mm_W} {c u S : Nat → Nat} {sec : Bool} {N n K : Nat} {P : Option Value → mm_W → Prop} (hT : TK g c u S N) (hL : LG f0 sec) (hK : 64 ≤ K) (hn : 12 * N + 10 ≤ n) (hN : f0 4754 = iI (N : Int)) : ∀ (m l1 j p o : Nat) (q : pC) (f : Nat → Int32), l1 + m = 12 → j ≤ N → p ≤ 50 → sm f f0 → f 4755 = iI (j : Int) → f 4756 = iI (p : Int) → f 4757 = -1 →
    RT f0 fl g gl hh v tx S P (if c j = 159 then (match p_text c u sec n N m (j + 1) p o with
        | none => none
        | some (.inl r) => some (.inl r)
        | some (.inr qs) => some (.inr (q :: qs)))
      else if j = N then some (.inr [q]) else some (.inl j)) → WP X (K + 13) 171 (34, [some (.ref 74), some (.int (iI (l1 : Int)))], [], Wd f fl g gl hh v tx) P := by
  intro m
  induction m with
  | zero =>
    intro l1 j p o q f hm hj hp hs h5 h6 h7 hR
    have f54 : f 4754 = iI (N : Int) := (hs 4754 (by decide) (by decide) (by decide)).trans hN
    have b4 := hT.n4
    refine b_m_readsText_34 (h := ?_) ..
    refine tk_157 (w := 159) hT hj h5 h7 (by decide) (fun ew => ?_) fun n0 => ?_
    · rw [if_pos ew] at hR
      have hjN : j < N := hT.s (by rw [ew]; decide)
      have e12 : l1 = 12 := by omega
      subst e12
      refine b_m_readsText_43 (h := ⟨fun c => absurd c (by decide), fun _ => ⟨fun c => absurd rfl c, fun _ => ⟨fun c => absurd (by rw [va_ne (by decide)]; exact h7) c, fun _ => ?_⟩⟩⟩) ..
      rw [show va_up f 4755 (iI ((j + 1 : Nat) : Int)) 4755 = iI ((j + 1 : Nat) : Int) from va_s, (hT.i (show j + 1 ≤ N from hjN)).2, (hT.at_ (j + 1) hjN).2.2]
      refine ⟨(hT.i (show j + 1 ≤ N from hjN)).1, ?_⟩
      have hq : ¬ (va_up (va_up f 4755 (iI ((j + 1 : Nat) : Int))) 4757 (iI (S (j + 1) : Int))) 4757 = -1 := by rw [va_s]; exact hT.q (j + 1)
      refine b_m_readsText_56 (h := ⟨fun _ => ?_, fun c => absurd c hq⟩) ..
      exact fl_34t hq va_s (hR.2 (j + 1) rfl _ hs.u5.u7)
    · rw [if_neg n0] at hR
      refine b_m_readsText_43 (h := ?_) ..
      rw [h5, f54, h7, (hT.i hj).2, (hT.at_ j hj).2.2]
      refine ⟨fun _ => ⟨fun c => absurd rfl c, fun _ => ⟨fun c => ⟨fun c => absurd rfl c, fun _ => ?_⟩, fun c => ⟨fun c => absurd rfl c, fun _ => ⟨(hT.i hj).1, fun _ => ?_, fun c2 => absurd c2 (hT.q j)⟩⟩⟩⟩, fun c => absurd rfl c⟩
      · have e : j = N := by simp (disch := omega) only [z_lit, z_litl, z_neg, z_negl, z_add, z_sub, z_mul, z_addl, z_subl, z_mull, z_cc, z_cl, z_cr, z_cm, z_cml, z_cmr, z_lt, z_le, z_eq, z_ltl, z_lel, z_eql, z_nat, z_i2l, z_l2i, z_div, z_sh, Int.toNat_natCast, z_ts, z_tsl] at c; omega
        rw [if_pos e] at hR
        exact hR.1 _ rfl f hs
      · have e : ¬ j = N := by
          intro e
          exact c (by rw [e]; exact Int32.le_refl _)
        rw [if_neg e] at hR
        exact hR.2 j rfl _ hs.u7
  | succ m ih =>
    intro l1 j p o q f hm hj hp hs h5 h6 h7 hR
    have f54 : f 4754 = iI (N : Int) := (hs 4754 (by decide) (by decide) (by decide)).trans hN
    have b4 := hT.n4
    refine b_m_readsText_34 (h := ?_) ..
    refine tk_157 (w := 159) hT hj h5 h7 (by decide) (fun ew => ?_) fun n0 => ?_
    · rw [if_pos ew] at hR
      have hjN : j < N := hT.s (by rw [ew]; decide)
      have e12 : ¬ iI (l1 : Int) = (12 : Int32) := by
        intro c
        have c : iI (l1 : Int) = iI 12 := c
        rw [z_eq (by omega) (by omega)] at c
        omega
      refine b_m_readsText_43 (h := ⟨fun c => absurd c (by decide), fun _ => ⟨fun _ => ?_, fun c => absurd c e12⟩⟩) ..
      refine b_m_readsText_56 (h := ⟨fun c => absurd (by rw [va_ne (by decide)]; exact h7) c, fun _ => ?_⟩) ..
      refine ro_1 (o := o) hT hL hjN hp hK hn hs.u5 va_s (by rw [va_ne (by decide)]; exact h6) (by rw [va_ne (by decide)]; exact h7) ⟨fun j2 p2 q2 h2 f' hs' a5 a6 a7 => ?_, fun k h2 f' hs' a7 => ?_⟩
      · obtain ⟨k1, k2⟩ := pc_le hT.c0 h2 hjN hp
        refine b_m_readsText_67 (h := ?_) ..
        rw [i1N]
        refine ih (l1 + 1) j2 p2 (o + q2.2.2.1.length + q2.2.2.2.1.length) q2 f' (by omega) k1 k2 hs' a5 a6 a7 ?_
        rw [p_text, h2] at hR
        dsimp only at hR
        generalize hg : (ite (c j2 = 159) _ _ : Option (Nat ⊕ List pC)) = T at hR
        have hz : RT f0 fl g gl hh v tx S P T := ⟨fun cs hcs => hR.1 (q :: cs) (by rw [hcs]), fun k hk => hR.2 k (by rw [hk])⟩
        exact hz
      · refine b_m_readsText_67 (h := ?_) ..
        rw [p_text, h2] at hR
        exact fl_34t (by rw [a7]; exact hT.q k) a7 (hR.2 k rfl f' hs')
    · rw [if_neg n0] at hR
      refine b_m_readsText_43 (h := ?_) ..
      rw [h5, f54, h7, (hT.i hj).2, (hT.at_ j hj).2.2]
      refine ⟨fun _ => ⟨fun c => absurd rfl c, fun _ => ⟨fun c => ⟨fun c => absurd rfl c, fun _ => ?_⟩, fun c => ⟨fun c => absurd rfl c, fun _ => ⟨(hT.i hj).1, fun _ => ?_, fun c2 => absurd c2 (hT.q j)⟩⟩⟩⟩, fun c => absurd rfl c⟩
      · have e : j = N := by simp (disch := omega) only [z_lit, z_litl, z_neg, z_negl, z_add, z_sub, z_mul, z_addl, z_subl, z_mull, z_cc, z_cl, z_cr, z_cm, z_cml, z_cmr, z_lt, z_le, z_eq, z_ltl, z_lel, z_eql, z_nat, z_i2l, z_l2i, z_div, z_sh, Int.toNat_natCast, z_ts, z_tsl] at c; omega
        rw [if_pos e] at hR
        exact hR.1 _ rfl f hs
      · have e : ¬ j = N := by
          intro e
          exact c (by rw [e]; exact Int32.le_refl _)
        rw [if_neg e] at hR
        exact hR.2 j rfl _ hs.u7
