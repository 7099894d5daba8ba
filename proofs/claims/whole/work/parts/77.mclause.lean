/-! the reference reads a clause -/
def RC (f0 : Nat → Int32) (fl : Nat → Int64) (g : Nat → Nat → Int32) (gl : Nat → Nat → Int64) (hh : Nat → Nat → Option Nat) (v : Nat → Value) (tx : mm_W) (S : Nat → Nat) (P : Option Value → mm_W → Prop) (r : Option (Nat ⊕ (Nat × Nat × pC))) : Prop := (∀ j p q, r = some (.inr (j, p, q)) → ∀ f', sm f' f0 → f' 4755 = iI (j : Int) → f' 4756 = iI (p : Int) → f' 4757 = -1 → P none (Wd f' fl g gl hh v tx)) ∧ (∀ k, r = some (.inl k) → ∀ f', sm f' f0 → f' 4757 = iI (S k : Int) → P none (Wd f' fl g gl hh v tx))
/-- its test -/
theorem rt_0 {X : mm_X} {f0 : Nat → Int32} {fl : Nat → Int64} {g : Nat → Nat → Int32} {gl : Nat → Nat → Int64} {hh : Nat → Nat → Option Nat} {v : Nat → Value} {tx : mm_W} {c u S : Nat → Nat} {sec : Bool} {N n : Nat} (hT : TK g c u S N) (hL : LG f0 sec) {i p o K : Nat} {f : Nat → Int32} {P : Option Value → mm_W → Prop} (hi : i ≤ N) (hp : p ≤ 50) (hK : 64 ≤ K) (hn : 12 * N + 10 ≤ n) (hs : sm f f0) (h5 : f 4755 = iI (i : Int)) (h6 : f 4756 = iI (p : Int)) (h7 : f 4757 = -1) (hR : RR f0 fl g gl hh v tx S P (p_test c u sec n i p o)) : WP X (K + 10) 157 (0, [some (.ref 74), some (.int 4), none], [], Wd f fl g gl hh v tx) (fun rv w2 => WP X (K + 11) 162 (34, [some (.ref 74)], rv.toList ++ [], w2) P) := by
  unfold p_test at hR
  refine tk_157 (w := 4) hT hi h5 h7 (by decide) (fun ew => ?_) fun n0 => ?_
  · rw [if_pos ew] at hR
    have hiN : i < N := hT.s (by rw [ew]; decide)
    refine b_m_readClause_34 (h := ⟨fun c => absurd c (by decide), fun _ => ?_⟩) ..
    have r5 : p_rk 5 = 6 := rfl
    exact rd_all hT hL n 5 0 (i + 1) p o 0 [] p_e0 K _ _ (by omega) (by omega) (by omega) (by omega) hp (by omega) (fun h => by omega) (p_tot hT.c0 n 5 0 (i + 1) p o 0 [] p_e0 (by omega) (by omega) (by omega) hp (fun h => by omega) (by omega)) hs.u5 va_s (by rw [va_ne (by decide)]; exact h6) (by rw [va_ne (by decide)]; exact h7) ⟨fun j p' C' e' h1 f' hs' a5 a6 a7 => b_m_readClause_42 (h := hR.1 j p' C' e' h1 f' hs' a5 a6 a7) .., fun k h1 f' hs' a7 => b_m_readClause_42 (h := hR.2 k h1 f' hs' a7) ..⟩
  · rw [if_neg n0] at hR
    exact b_m_readClause_34 (h := ⟨fun _ => hR.1 i p _ _ rfl f hs h5 h6 h7, fun c => absurd rfl c⟩) ..
theorem fl_34 {X : mm_X} {d : Nat} {f : Nat → Int32} {fl : Nat → Int64} {g : Nat → Nat → Int32} {gl : Nat → Nat → Int64} {hh : Nat → Nat → Option Nat} {v : Nat → Value} {tx : mm_W} {P : Option Value → mm_W → Prop} (hq : ¬ f 4757 = -1) (h : P none (Wd f fl g gl hh v tx)) : WP X (d + 1) 157 (0, [some (.ref 74), some (.int 4), none], [], Wd f fl g gl hh v tx) (fun rv w2 => WP X (d + 2) 162 (34, [some (.ref 74)], rv.toList ++ [], w2) P) :=
  fl_157 hq (b_m_readClause_34 (h := ⟨fun _ => h, fun c => absurd rfl c⟩) ..)
theorem rc_0 {X : mm_X} {f0 : Nat → Int32} {fl : Nat → Int64} {g : Nat → Nat → Int32} {gl : Nat → Nat → Int64} {hh : Nat → Nat → Option Nat} {v : Nat → Value} {tx : mm_W} {c u S : Nat → Nat} {N n : Nat} (hT : TK g c u S N) (hL : LG f0 false) {i p o K : Nat} {f : Nat → Int32} {P : Option Value → mm_W → Prop} (hi : i ≤ N) (hp : p ≤ 50) (hK : 64 ≤ K) (hn : 12 * N + 10 ≤ n) (hs : sm f f0) (h5 : f 4755 = iI (i : Int)) (h6 : f 4756 = iI (p : Int)) (h7 : f 4757 = -1) (hR : RC f0 fl g gl hh v tx S P (p_clause c u false n i p o)) : WP X (K + 11) 162 (0, [some (.ref 74)], [], Wd f fl g gl hh v tx) P := by
  have r2 : p_rk 2 = 3 := rfl
  -- with a sum
  have go : ∀ k, p_kind false (c i) = some k → p_summed false k = true → WP X (K + 10) 168 (0, [some (.ref 74), some (.int 0)], [], Wd (va_up f 4755 (iI ((i + 1 : Nat) : Int))) fl g gl hh v tx) (fun rv w2 => WP X (K + 11) 162 (21, [some (.ref 74)], rv.toList ++ [], w2) P) := by
    intro k hk hsm
    have hiN : i < N := hT.s fun h => by rw [h] at hk; cases hk
    refine rd_all hT hL n 2 0 (i + 1) p o 0 [] p_e0 (K + 4) _ _ (by omega) (by omega) (by omega) (by omega) hp (by omega) (fun h => by omega) (p_tot hT.c0 n 2 0 (i + 1) p o 0 [] p_e0 (by omega) (by omega) (by omega) hp (fun h => by omega) (by omega)) hs.u5 va_s (by rw [va_ne (by decide)]; exact h6) (by rw [va_ne (by decide)]; exact h7) ⟨fun j p' C' e' h1 f' hs' a5 a6 a7 => ?_, fun q h1 f' hs' a7 => ?_⟩
    · obtain ⟨g1, g2, g3, g4, g5, g6, g7, g8, g9, g10⟩ := p_inv hT.c0 E00_ok _ _ _ _ _ _ _ _ _ _ _ _ _ h1 (by omega) (by omega) (by omega) hp (fun h => by omega)
      have es : p_sum0 c u false n k (i + 1) p o = some (.inr (j, p', C', e')) := by unfold p_sum0; rw [if_pos hsm]; exact h1
      have et : p_times c u false j = .inr (j, 1) := by unfold p_times; rw [if_neg fun h => absurd h.1 (by decide)]
      refine b_m_readClause_21 (h := ?_) ..
      refine rt_0 (o := o + C'.length) hT hL g2 g3 hK hn hs' a5 a6 a7 ⟨fun j3 p3 C2 e2 h2 => hR.1 j3 p3 (k, 1, C', C2, e', e2) ?_, fun q h2 => hR.2 q ?_⟩
      · unfold p_clause; rw [hk]; simp only [es, et, h2]
      · unfold p_clause; rw [hk]; simp only [es, et, h2]
    · have es : p_sum0 c u false n k (i + 1) p o = some (.inl q) := by unfold p_sum0; rw [if_pos hsm]; exact h1
      refine b_m_readClause_21 (h := ?_) ..
      exact fl_34 (by rw [a7]; exact hT.q q) (hR.2 q (by unfold p_clause; rw [hk]; simp only [es]) f' hs' a7)
  refine b_m_readClause_0 (h := ?_) ..
  refine tk_157 (w := 1) hT hi h5 h7 (by decide) (fun ew => ?_) fun n1 => ?_
  · exact b_m_readClause_5 (h := ⟨fun _ => go 0 (by rw [ew]; rfl) rfl, fun c => absurd c (by decide)⟩) ..
  refine b_m_readClause_5 (h := ⟨fun c => absurd rfl c, fun _ => ?_⟩) ..
  refine tk_157 (w := 2) hT hi h5 h7 (by decide) (fun ew => ?_) fun n2 => ?_
  · exact b_m_readClause_13 (h := ⟨fun c => absurd c (by decide), fun _ => go 1 (by rw [ew]; rfl) rfl⟩) ..
  refine b_m_readClause_13 (h := ⟨fun _ => ?_, fun c => absurd rfl c⟩) ..
  refine tk_158 (w := 3) hT hi h5 h7 (by decide) (fun ew => ?_) fun n3 => ?_
  · have hiN : i < N := hT.s (by rw [ew]; decide)
    have hk : p_kind false (c i) = some 2 := by rw [ew]; rfl
    have es : p_sum0 c u false n 2 (i + 1) p o = some (.inr (i + 1, p, [], fun _ => some 1)) := rfl
    have et : p_times c u false (i + 1) = .inr (i + 1, 1) := by unfold p_times; rw [if_neg fun h => absurd h.1 (by decide)]
    refine b_m_readClause_29 (h := ?_) ..
    refine rt_0 (o := o + ([] : List Nat).length) hT hL hiN hp hK hn hs.u5 va_s (by rw [va_ne (by decide)]; exact h6) (by rw [va_ne (by decide)]; exact h7) ⟨fun j3 p3 C2 e2 h2 => hR.1 j3 p3 (2, 1, [], C2, fun _ => some 1, e2) ?_, fun q h2 => hR.2 q ?_⟩
    · unfold p_clause; rw [hk]; simp only [es, et, h2]
    · unfold p_clause; rw [hk]; simp only [es, et, h2]
  · have hk : p_kind false (c i) = none := by show (if false = true then _ else _) = _; rw [if_neg (by decide), if_neg n1, if_neg n2, if_neg n3]
    refine b_m_readClause_29 (h := ?_) ..
    exact fl_34 (by rw [va_s]; exact hT.q i) (hR.2 i (by unfold p_clause; rw [hk]) _ hs.u7 va_s)
