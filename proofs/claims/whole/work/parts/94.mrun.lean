/-! the reference runs orders: clause by clause -/
def fmO (f' f : Nat → Int32) : Prop := ∀ a, (a < 4758 ∨ 4764 < a) → a ≠ 4777 → (a < 4779 ∨ 4784 < a) → f' a = f a
def gmO (g' g : Nat → Nat → Int32) : Prop := ∀ a, a ≠ 76 → (a < 86 ∨ 90 < a) → a ≠ 97 → g' a = g a
/-- from 23 on as κ0 -/
def msH (K : Nat → Int32) (κ0 : Nat → Nat) : Prop := (∀ i, 23 ≤ i → i ≠ 59 → K i = iI (κ0 i : Int)) ∧ K 59 = iI ((κ0 59 : Int) - 1)
theorem ms.hi {K : Nat → Int32} {κ κ0 : Nat → Nat} (h : ms K κ) (e : ∀ i, 23 ≤ i → κ i = κ0 i) : msH K κ0 := ⟨fun i h1 h2 => by rw [← e i h1]; exact h.1 i h2, by rw [← e 59 (by decide)]; exact h.2⟩
def mO (f0 : Nat → Int32) (g0 : Nat → Nat → Int32) (σ : oS) (D : Nat) (f : Nat → Int32) (g : Nat → Nat → Int32) : Prop := fmO f f0 ∧ gmO g g0 ∧ ms (g 76) σ.1 ∧ f 4777 = iI (σ.2.1 : Int) ∧ mA (g 97) σ ∧ f 4763 = iI (D : Int) ∧ f 4764 = iI σ.2.2.2.2.2
theorem oPush_L {σ : oS} {k : Nat} {r : (Nat → Nat) × Nat × Nat} : (oPush σ k r).2.2.2.2.2 = if k = 2 then (r.2.1 : Int) else σ.2.2.2.2.2 := rfl
/-- the sum as a small number -/
theorem oAct_z {cs : List pC} {k : Nat} {z z' : Int} {κ : Nat → Nat} (h : k = 1 ∨ k = 3) : oAct cs k z κ = oAct cs k z' κ := by
  rcases h with rfl | rfl
  · unfold oAct
    rw [if_neg (show ¬ (1 : Nat) = 0 by decide), if_neg (show ¬ (1 : Nat) = 0 by decide), if_pos (show (1 : Nat) = 1 from rfl), if_pos (show (1 : Nat) = 1 from rfl)]
  · unfold oAct
    rw [if_neg (show ¬ (3 : Nat) = 0 by decide), if_neg (show ¬ (3 : Nat) = 0 by decide), if_neg (show ¬ (3 : Nat) = 1 by decide), if_neg (show ¬ (3 : Nat) = 1 by decide), if_neg (show ¬ (3 : Nat) = 2 by decide), if_neg (show ¬ (3 : Nat) = 2 by decide)]
theorem mo_small {s : Int} (hs : -2147483648 ≤ s ∧ s < 2147483648) : (if lg_cmp (lI s) 0 < 0 then (-1 : Int32) else if lg_cmp (lI s) 1000000 ≤ 0 then (lI s).toInt32 else -1) = iI (if 0 ≤ s ∧ s ≤ 1000000 then s else -1) := by
  have e0 : (lg_cmp (lI s) 0 < 0) = (s < 0) := by rw [show (0 : Int64) = lI 0 from rfl]; exact z_cmp_lt (by omega) (by omega)
  have e1 : (lg_cmp (lI s) 1000000 ≤ 0) = (s ≤ 1000000) := by rw [show (1000000 : Int64) = lI 1000000 from rfl]; exact z_cmp_le (by omega) (by omega)
  by_cases c : s < 0
  · rw [if_pos (by rw [e0]; exact c), if_neg (by omega)]; rfl
  · rw [if_neg (by rw [e0]; exact c)]
    by_cases c2 : s ≤ 1000000
    · rw [if_pos (by rw [e1]; exact c2), if_pos (by omega), z_l2i]
    · rw [if_neg (by rw [e1]; exact c2), if_neg (by omega)]; rfl
theorem mo_act {X : mm_X} {f : Nat → Int32} {fl : Nat → Int64} {g : Nat → Nat → Int32} {gl : Nat → Nat → Int64} {hh : Nat → Nat → Option Nat} {v : Nat → Value} {tx : mm_W} {P : Option Value → mm_W → Prop} {f0 : Nat → Int32} {g0 : Nat → Nat → Int32} {cs : List pC} {κ0 : Nat → Nat} {m K k : Nat} {σ : oS} {s : Int} (hO : oOK κ0 m σ) (hx : mO f0 g0 σ σ.2.2.2.2.1 f g) (hok : csOK cs) (hR : ∀ κ : Nat → Nat, (∀ i, 23 ≤ i → κ i = κ0 i) → rfX κ (κ 59) cs) (hK : 64 ≤ K) (hk : k ≤ 3) (hs : (k = 0 ∨ k = 2) → -2147483648 ≤ s ∧ s < 2147483648) (h81 : f 4781 = iI ((20 + k : Nat) : Int)) (h84 : fl 4784 = lI s)
    (h1 : ∀ r, oAct cs k s σ.1 = some r → r.2.1 ≤ 1000 → ∀ f' g', mO f0 g0 (oPush σ k r) σ.2.2.2.2.1 f' g' → f' 4779 = f 4779 → P (some (.int (iI (r.2.1 : Int)))) (Wd f' fl g' gl hh v tx))
    (h0 : oAct cs k s σ.1 = none → ∀ e : Int32, ¬ 0 ≤ e → ∀ f' g', fmO f' f0 → gmO g' g0 → g' 76 = g 76 → P (some (.int e)) (Wd f' fl g' gl hh v tx)) : WP X (K + 16) 248 (0, [some (.ref 74), none], [], Wd f fl g gl hh v tx) P := by
  obtain ⟨κ, a, c, R, D, L⟩ := σ
  have hO' := hO
  obtain ⟨hw, k2, ha, k4, k5, k6⟩ := hO
  obtain ⟨q1, q2, q3, q4, q5, q6, q7⟩ := hx
  have hw : wf κ := hw
  have hw' := hw
  have ha : a ≤ 16 := ha
  have k4 : ∀ i, i < 23 → R a i = κ i := k4
  have q3 : ms (g 76) κ := q3
  have q6 : f 4763 = iI (D : Int) := q6
  have q7 : f 4764 = iI L := q7
  obtain ⟨hS, hH, hL, hD, hW, hT, hB⟩ := hw
  have b12 := hL.1
  have b56 := hH.1
  have hRκ := hR κ k2
  have kk : ∀ n : Nat, n ≤ 3 → ((f 4781 = iI ((20 + n : Nat) : Int)) = (k = n)) := fun n hn => by
    rw [h81, z_eq (by omega) (by omega)]
    exact propext ⟨fun a => by omega, fun a => by omega⟩
  have k21 : (f 4781 = (21 : Int32)) = (k = 1) := kk 1 (by decide)
  have k22 : (f 4781 = (22 : Int32)) = (k = 2) := kk 2 (by decide)
  have k23 : (f 4781 = (23 : Int32)) = (k = 3) := kk 3 (by decide)
  have fm78 : ∀ x : Int32, fmO (va_up f 4777 x) f0 := fun x b r1 r2 r3 => by rw [va_ne r2]; exact q1 b r1 r2 r3
  refine b_m_obeys_0 (h := ?_) ..
  rw [k21, k22, k23, h84]
  have hkk : k = 0 ∨ k = 1 ∨ k = 2 ∨ k = 3 := by omega
  rcases hkk with rfl | rfl | rfl | rfl
  · -- hang
    have hs := hs (Or.inl rfl)
    refine ⟨fun c => absurd c (by decide), fun _ => ⟨fun c => absurd c (by decide), fun _ => ⟨fun c => absurd c (by decide), fun _ => ?_⟩⟩⟩
    have ea : ∀ z : Int, oAct cs 0 z κ = if 0 ≤ z ∧ z ≤ 3 ∧ κ 12 < 12 then some (va_up (va_up κ (κ 12) z.toNat) 12 (κ 12 + 1), κ 12 + 1, 0) else none := fun z => by unfold oAct; rw [if_pos rfl]
    have go : ∀ z : Int, (z = s ∨ (z = -1 ∧ ¬ (0 ≤ s ∧ s ≤ 1000000))) → WP X (K + 15) 236 (0, [some (.ref 74), some (.int (iI z))], [], Wd f fl g gl hh v tx) (fun rv w2 => WP X (K + 16) 248 (83, [some (.ref 74), none], rv.toList ++ [], w2) P) := by
      intro z hz
      refine c_m_hangsKept (d := K + 13) (κ := κ) (a := a) q3 hL ha q4 (by omega) (fun c => b_m_obeys_83 (h := h0 ?_ _ (by decide) f g q1 q2 rfl) ..) (fun c1 c2 c3 => b_m_obeys_83 (h := h0 ?_ _ (by decide) f g q1 q2 rfl) ..) fun c1 c2 c3 le' hp => b_m_obeys_83 (h := ?_) ..
      · exact (ea s).trans (if_neg (by omega))
      · exact (ea s).trans (if_neg (by omega))
      · have ez : z = s := by omega
        subst ez
        have er := (ea z).trans (if_pos ⟨c1, c2, c3⟩)
        refine h1 _ er (by show κ 12 + 1 ≤ 1000; omega) _ _ ⟨fm78 _, fun b r1 r2 r3 => by rw [va_ne r1, va_ne r3]; exact q2 b r1 r2 r3, ?_, rfl, ?_, q6, q7⟩ (va_ne (by decide))
        · have hz : iI z = iI ((z.toNat : Nat) : Int) := by congr 1; omega
          show ms (upd (upd (g 76) (κ 12) (iI z)) 12 (iI ((κ 12 + 1 : Nat) : Int))) _
          rw [hz]
          exact (q3.up z.toNat (by omega)).up _ (by decide)
        · exact q5.push (r := (va_up (va_up κ (κ 12) z.toNat) 12 (κ 12 + 1), κ 12 + 1, 0)) ha k4 (fun i hi => q3.1 i (by omega)) hp
    have e0 : (lg_cmp (lI s) 0 < 0) = (s < 0) := by rw [show (0 : Int64) = lI 0 from rfl]; exact z_cmp_lt (by omega) (by omega)
    have e1 : (lg_cmp (lI s) 1000000 ≤ 0) = (s ≤ 1000000) := by rw [show (1000000 : Int64) = lI 1000000 from rfl]; exact z_cmp_le (by omega) (by omega)
    rw [e0, e1, z_l2i]
    have gm := go (-1)
    rw [show iI (-1) = (-1 : Int32) from rfl] at gm
    exact ⟨fun c => gm (by omega), fun c => ⟨fun c2 => go s (Or.inl rfl), fun c2 => gm (by omega)⟩⟩
  · -- take
    have ea : oAct cs 1 s κ = if κ 12 = 0 then none else some (va_up κ 12 (κ 12 - 1), κ (κ 12 - 1), 1 + 4 * κ (κ 12 - 1)) := by unfold oAct; rw [if_neg (by decide), if_pos rfl]
    refine ⟨fun _ => ?_, fun c => absurd rfl c⟩
    refine c_m_takesKept (d := K + 13) (κ := κ) (a := a) q3 hL ha q4 (fun c => b_m_obeys_36 (h := h0 ?_ _ (by decide) f g q1 q2 rfl) ..) fun n hn le' hp => b_m_obeys_36 (h := ?_) ..
    · exact ea.trans (if_pos c)
    · have en1 : κ 12 - 1 = n := by omega
      have er : oAct cs 1 s κ = some (va_up κ 12 n, κ n, 1 + 4 * κ n) := by rw [ea, if_neg (by omega), en1]
      have hkn := hL.2 n (by omega)
      refine h1 _ er (by show κ n ≤ 1000; omega) _ _ ⟨fm78 _, fun b r1 r2 r3 => by rw [va_ne r1, va_ne r3]; exact q2 b r1 r2 r3, q3.up _ (by decide), rfl, ?_, q6, q7⟩ (va_ne (by decide))
      exact q5.push (r := (va_up κ 12 n, κ n, 1 + 4 * κ n)) ha k4 (fun i hi => q3.1 i (by omega)) (by show pushM a ((1 + 4 * κ n) % 4) (g 76) (g 97) le'; rw [show (1 + 4 * κ n) % 4 = 1 by omega]; exact hp)
  · -- sail
    have hs := hs (Or.inr rfl)
    refine ⟨fun c => absurd c (by decide), fun _ => ⟨fun _ => ?_, fun c => absurd rfl c⟩⟩
    have ea : oAct cs 2 s κ = if 0 ≤ s ∧ s < κ 56 ∧ lyF κ false (wgt κ cs s.toNat) 0 < 1000000 then some (slK κ s.toNat (thn κ cs s.toNat), pln κ false (wgt κ cs s.toNat), 2 + 4 * s.toNat + 16 * spot κ s.toNat) else none := by unfold oAct; rw [if_neg (by decide), if_neg (by decide), if_pos rfl]
    have bad : oAct cs 2 s κ = none → ∀ e : Int32, ¬ 0 ≤ e → ∀ (x y z u : Int32) (A a l w r : Nat → Int32), WP X (K + 16) 248 (48, [some (.ref 74), none], [.int e], (Wd (va_up (va_up (va_up (va_up f 4758 x) 4759 y) 4760 z) 4761 u) fl (va_up (va_up (va_up (va_up (va_up g 86 A) 87 a) 88 l) 89 w) 90 r) gl hh v tx)) P := fun hno e he x y z u A a l w r => by
      refine b_m_obeys_48 (h := ⟨fun c => absurd c he, fun _ => h0 hno e he _ _ (fun b r1 r2 r3 => ?_) (fun b r1 r2 r3 => ?_) rfl⟩) ..
      · rw [va_ne (by omega), va_ne (by omega), va_ne (by omega), va_ne (by omega), va_ne (by omega)]; exact q1 b r1 r2 r3
      · rw [va_ne (by omega), va_ne (by omega), va_ne (by omega), va_ne (by omega), va_ne (by omega)]; exact q2 b r1 r2 r3
    have go : ∀ z : Int, (z = s ∨ (z = -1 ∧ ¬ (0 ≤ s ∧ s ≤ 1000000))) → WP X (K + 15) 238 (0, [some (.ref 74), some (.int (iI z)), none], [], Wd f fl g gl hh v tx) (fun rv w2 => WP X (K + 16) 248 (48, [some (.ref 74), none], rv.toList ++ [], w2) P) := by
      intro z hz
      refine c_m_sailsKept (K := K) (κ := κ) (cs := cs) (a0 := a) hK q3 hS hL hH hT hB hRκ hok ha q4 (by omega) (fun c => ?_) (fun p hpz hp hl x y z u A a' l w r => bad ?_ _ (by decide) x y z u A a' l w r) fun p hpz hp hl x y z' u A a' l w r le' hpu => ?_
      · have hno : oAct cs 2 s κ = none := ea.trans (if_neg (by omega))
        refine b_m_obeys_48 (h := ⟨fun c => absurd c (by decide), fun _ => h0 hno _ (by decide) _ _ (fun b r1 r2 r3 => ?_) q2 rfl⟩) ..
        rw [va_ne (by omega)]; exact q1 b r1 r2 r3
      · refine ea.trans (if_neg fun h => hl ?_)
        have := h.2.2
        rw [show s.toNat = p by omega] at this
        exact this
      · have es : s = p := by omega
        subst es
        have htl := thn_lt (cs := cs) hH (p := p) (by omega)
        have er : oAct cs 2 (p : Int) κ = some (slK κ p (thn κ cs p), pln κ false (wgt κ cs p), 2 + 4 * p + 16 * spot κ p) := by
          rw [ea, Int.toNat_natCast, if_pos ⟨by omega, by omega, hl⟩]
        have hpl : pln κ false (wgt κ cs p) ≤ 12 := pln_le
        generalize thn κ cs p = T at htl er ⊢
        generalize pln κ false (wgt κ cs p) = L2 at er hpl ⊢
        refine b_m_obeys_48 (h := ⟨fun _ => ?_, fun c => absurd (by simp (disch := omega) only [z_lit, z_litl, z_neg, z_negl, z_add, z_sub, z_mul, z_addl, z_subl, z_mull, z_cc, z_cl, z_cr, z_cm, z_cml, z_cmr, z_lt, z_le, z_eq, z_ltl, z_lel, z_eql, z_nat, z_i2l, z_l2i, z_div, z_sh, Int.toNat_natCast, z_ts, z_tsl]; omega) c⟩) ..
        refine h1 _ er (by show L2 ≤ 1000; omega) _ _ ⟨fun b r1 r2 r3 => ?_, fun b r1 r2 r3 => ?_, slK_ms q3 p _ (by omega), ?_, ?_, ?_, va_s⟩ (by rw [va_ne (by decide), va_ne (by decide), va_ne (by decide), va_ne (by decide), va_ne (by decide), va_ne (by decide)])
        · rw [va_ne (by omega), va_ne r2, va_ne (by omega), va_ne (by omega), va_ne (by omega), va_ne (by omega)]; exact q1 b r1 r2 r3
        · rw [va_ne r3, va_ne (by omega), va_ne (by omega), va_ne (by omega), va_ne (by omega), va_ne (by omega), va_ne r1]; exact q2 b r1 r2 r3
        · rw [va_ne (by decide), va_s]; rfl
        · exact q5.push (r := (slK κ p T, L2, 2 + 4 * p + 16 * spot κ p)) ha k4 (fun i hi => q3.1 i (by omega)) (by show pushM a ((2 + 4 * p + 16 * spot κ p) % 4) (g 76) (g 97) le'; rw [show (2 + 4 * p + 16 * spot κ p) % 4 = 2 by omega]; exact hpu)
        · rw [va_ne (by decide), va_ne (by decide), va_ne (by decide), va_ne (by decide), va_ne (by decide), va_ne (by decide)]; exact q6
    have e0 : (lg_cmp (lI s) 0 < 0) = (s < 0) := by rw [show (0 : Int64) = lI 0 from rfl]; exact z_cmp_lt (by omega) (by omega)
    have e1 : (lg_cmp (lI s) 1000000 ≤ 0) = (s ≤ 1000000) := by rw [show (1000000 : Int64) = lI 1000000 from rfl]; exact z_cmp_le (by omega) (by omega)
    rw [e0, e1, z_l2i]
    have gm := go (-1)
    rw [show iI (-1) = (-1 : Int32) from rfl] at gm
    exact ⟨fun c => gm (by omega), fun c => ⟨fun c2 => go s (Or.inl rfl), fun c2 => gm (by omega)⟩⟩
  · -- pass
    have ea : oAct cs 3 s κ = if κ 22 < 999 then some (va_up κ 22 (κ 22 + 1), κ 22 + 1, 3) else none := by unfold oAct; rw [if_neg (by decide), if_neg (by decide), if_neg (by decide)]
    refine ⟨fun c => absurd c (by decide), fun _ => ⟨fun c => absurd c (by decide), fun _ => ⟨fun _ => ?_, fun c => absurd rfl c⟩⟩⟩
    refine c_m_passesKept (d := K + 13) (κ := κ) (a := a) q3 hT ha q4 (fun c => b_m_obeys_71 (h := h0 ?_ _ (by decide) f g q1 q2 rfl) ..) fun c le' hp => b_m_obeys_71 (h := ?_) ..
    · exact ea.trans (if_neg (by omega))
    · have er := ea.trans (if_pos c)
      refine h1 _ er (by show κ 22 + 1 ≤ 1000; omega) _ _ ⟨fm78 _, fun b r1 r2 r3 => by rw [va_ne r1, va_ne r3]; exact q2 b r1 r2 r3, q3.up _ (by decide), rfl, ?_, q6, q7⟩ (va_ne (by decide))
      exact q5.push (r := (va_up κ 22 (κ 22 + 1), κ 22 + 1, 3)) ha k4 (fun i hi => q3.1 i (by omega)) hp
/-- what is asked in a state -/
theorem oE_ev {κ : Nat → Nat} {D : Nat} {L : Int} {f : Nat → Int32} {g : Nat → Nat → Int32} (h61 : f 4761 = 1) (h63 : f 4763 = iI (D : Int)) (h64 : f 4764 = iI L) : evE true f g κ (oE κ D L) :=
  ⟨h61, h63, h64, rfl, rfl, oE_4.2.2.2.2, fun s hs => (oE_5 hs).1, fun s hs => (oE_5 hs).2⟩
theorem mO.go {f0 : Nat → Int32} {g0 : Nat → Nat → Int32} {σ : oS} {D : Nat} {f f' : Nat → Int32} {g g' : Nat → Nat → Int32} (h : mO f0 g0 σ D f g) (hf : fG f' f) (hg : gE g' g) : mO f0 g0 σ D f' g' := by
  obtain ⟨q1, q2, q3, q4, q5, q6, q7⟩ := h
  refine ⟨fun a r1 r2 r3 => (hf a (by omega) (by omega) (by omega) (by omega) (by omega)).trans (q1 a r1 r2 r3), fun a r1 r2 r3 => (hg a (by omega)).trans (q2 a r1 r2 r3), ?_, (hf 4777 (by decide) (by decide) (by decide) (by decide) (by decide)).trans q4, ?_, (hf 4763 (by decide) (by decide) (by decide) (by decide) (by decide)).trans q6, (hf 4764 (by decide) (by decide) (by decide) (by decide) (by decide)).trans q7⟩
  · rw [hg 76 (by decide)]; exact q3
  · rw [hg 97 (by decide)]; exact q5
theorem tk_cg {κ κ0 : Nat → Nat} (h : ∀ i, 23 ≤ i → κ i = κ0 i) : tkC κ 6 = tkC κ0 6 ∧ tkV κ 6 = tkV κ0 6 := by
  refine ⟨funext fun k => ?_, funext fun k => ?_⟩
  · unfold tkC
    rw [h _ (by omega), h _ (by omega)]
  · unfold tkV
    rw [h _ (by omega), h _ (by omega)]
theorem mo_rep {X : mm_X} {K : Nat} {gl : Nat → Nat → Int64} {hh : Nat → Nat → Option Nat} {v : Nat → Value} {tx : mm_W} {P : Option Value → mm_W → Prop} {f0 : Nat → Int32} {g0 : Nat → Nat → Int32} {lw : List pC} {κ0 : Nat → Nat} {q : pC} {n i p o j p' : Nat} (h66 : κ0 66 ≤ 400) (hok : csOK lw) (hR : ∀ κ : Nat → Nat, (∀ i, 23 ≤ i → κ i = κ0 i) → rfX κ (κ 59) lw) (hK : 64 ≤ K) (hq : p_clause (tkC κ0 6) (tkV κ0 6) true n i p o = some (.inr (j, p', q))) (hi : i ≤ κ0 66) (hp : p ≤ 50) (hk3 : q.1 ≤ 3) (hk1 : q.1 = 1 ∨ q.1 = 3 → q.2.2.2.2.1 = fun _ => some 1) (hpX : pcX (tkC κ0 6) (tkV κ0 6) true (κ0 66) 2 o q.2.2.1 q.2.2.2.2.1) (h20 : q.2.1 ≤ 20) :
    ∀ (n' t m : Nat) (σ : oS) (f : Nat → Int32) (fl : Nat → Int64) (g : Nat → Nat → Int32), t + n' = q.2.1 → m + n' ≤ 1000 → oOK κ0 m σ → mO f0 g0 σ σ.2.2.2.2.1 f g → f 4779 = iI ((2400 + i : Nat) : Int) →
    (∀ σ', oRep lw q n' σ = some σ' → ∀ f' fl' g', mO f0 g0 σ' σ'.2.2.2.2.1 f' g' → f' 4779 = iI ((2400 + j + 1 : Nat) : Int) → P (some (.int 1)) (Wd f' fl' g' gl hh v tx)) →
    (oRep lw q n' σ = none → ∀ f' fl' g', fmO f' f0 → gmO g' g0 → msH (g' 76) κ0 → P (some (.int 0)) (Wd f' fl' g' gl hh v tx)) →
    WP X (K + 17) 249 (19, [some (.ref 74), some (.int (iI ((2400 + κ0 66 : Nat) : Int))), some (.int (iI (q.2.1 : Int))), some (.int (iI ((2400 + j + 1 : Nat) : Int))), some (.int (iI (t : Int)))], [], Wd f fl g gl hh v tx) P := by
  intro n'
  induction n' with
  | zero =>
    intro t m σ f fl g ht hm hO hx h79 h1 h0
    have ht : t = q.2.1 := by omega
    subst ht
    refine b_m_runs_19 (h := ⟨fun _ => h1 σ rfl _ fl g ?_ va_s, fun c => absurd (Int32.le_refl _) c⟩) ..
    obtain ⟨q1, q2, q3, q4, q5, q6, q7⟩ := hx
    exact ⟨fun a r1 r2 r3 => by rw [va_ne (by omega)]; exact q1 a r1 r2 r3, q2, q3, q4, q5, q6, q7⟩
  | succ n' ih =>
    intro t m σ f fl g ht hm hO hx h79 h1 h0
    obtain ⟨c1, c2⟩ := tk_cg hO.2.1
    have e66 := hO.2.1 66 (by omega)
    have hE := oE_rg (κ := σ.1) (D := σ.2.2.2.2.1) (L := σ.2.2.2.2.2) hO.1.2.2.2.2.2.2 (by have := hO.2.2.2.2.2.1; omega) hO.2.2.2.2.2.2
    have hc0 : ∀ i, κ0 66 ≤ i → tkC κ0 6 i = 0 := fun i hi => tkC_0 (t := 6) hi
    obtain ⟨q1, q2, q3, q4, q5, q6, q7⟩ := hx
    refine b_m_runs_19 (h := ⟨fun c => by simp (disch := omega) only [z_lit, z_litl, z_neg, z_negl, z_add, z_sub, z_mul, z_addl, z_subl, z_mull, z_cc, z_cl, z_cr, z_cm, z_cml, z_cmr, z_lt, z_le, z_eq, z_ltl, z_lel, z_eql, z_nat, z_i2l, z_l2i, z_div, z_sh, Int.toNat_natCast, z_ts, z_tsl] at c; omega, fun _ => ?_⟩) ..
    rw [← e66]
    refine c_m_gooff (K := K + 5) (κ := σ.1) (E := oE σ.1 σ.2.2.2.2.1 σ.2.2.2.2.2) (n := n) (i := i) (p := p) (o := o) (j := j) (p' := p') (lv := 1) q3 hO.1 (by rw [e66]; exact h66) (oE_ev va_s (by rw [va_ne (by decide)]; exact q6) (by rw [va_ne (by decide)]; exact q7)) hE (by rw [c1, c2]; exact hq) (by rw [e66]; exact hi) hp (by omega) (by omega) h79 fun F fl' G s b hF hfl hG f58 f80 f81 f84 hsum htest => ?_
    rw [e66]
    have hx1 : mO f0 g0 σ σ.2.2.2.2.1 F G := mO.go ⟨q1, q2, q3, q4, q5, q6, q7⟩ hF hG
    have f79 : F 4779 = iI ((2400 + i : Nat) : Int) := (hF 4779 (by decide) (by decide) (by decide) (by decide) (by decide)).trans h79
    have hsum := hsum rfl
    refine b_m_runs_31 (h := ?_) ..
    rw [i1N]
    rcases htest rfl with ⟨t1, t2⟩ | ⟨t1, t2⟩
    · rw [t2]
      refine ⟨fun _ => ?_, fun c => absurd c (by decide)⟩
      have bad : oStep lw q σ = none → ∀ f' fl' g', fmO f' f0 → gmO g' g0 → msH (g' 76) κ0 → P (some (.int 0)) (Wd f' fl' g' gl hh v tx) := fun hs => h0 (oRep_n hs)
      have run : ∀ s' : Int, fl' 4784 = lI s' → ((q.1 = 0 ∨ q.1 = 2) → -2147483648 ≤ s' ∧ s' < 2147483648) → (∀ r', oAct lw q.1 s' σ.1 = some r' → oStep lw q σ = some (oPush σ q.1 r')) → (oAct lw q.1 s' σ.1 = none → oStep lw q σ = none) → WP X (K + 16) 248 (0, [some (.ref 74), none], [], Wd F fl' G gl hh v tx) (fun rv w2 => WP X (K + 17) 249 (52, [some (.ref 74), some (.int (iI ((2400 + κ0 66 : Nat) : Int))), some (.int (iI (q.2.1 : Int))), some (.int (iI ((2400 + j + 1 : Nat) : Int))), some (.int (iI (t : Int)))], rv.toList ++ [], w2) P) := by
        intro s' hs4 hsr hd1 hd0
        refine mo_act (K := K) (cs := lw) hO hx1 hok hR hK hk3 hsr f81 hs4 (fun r' hr hr1000 f' g' hx' e79 => ?_) fun hr e he f' g' hf hg e76 => ?_
        · have hs := hd1 r' hr
          refine b_m_runs_52 (h := ⟨fun _ => ?_, fun c => absurd (by simp (disch := omega) only [z_lit, z_litl, z_neg, z_negl, z_add, z_sub, z_mul, z_addl, z_subl, z_mull, z_cc, z_cl, z_cr, z_cm, z_cml, z_cmr, z_lt, z_le, z_eq, z_ltl, z_lel, z_eql, z_nat, z_i2l, z_l2i, z_div, z_sh, Int.toNat_natCast, z_ts, z_tsl]; omega) c⟩) ..
          rw [i1N]
          obtain ⟨w1, w2, w3, w4, w5, w6, w7⟩ := hx'
          refine ih (t + 1) (m + 1) (oPush σ q.1 r') _ fl' g' (by omega) (by omega) (oStep_ok hO hs) ⟨fun a r1 r2 r3 => by rw [va_ne (by omega)]; exact w1 a r1 r2 r3, w2, w3, (va_ne (by decide)).trans w4, w5, ?_, (va_ne (by decide)).trans w7⟩ ((va_ne (by decide)).trans (e79.trans f79)) (fun σ' h => h1 σ' ((oRep_s hs).trans h)) fun h => h0 ((oRep_s hs).trans h)
          rw [va_s, w6, i1N]
          rfl
        · exact b_m_runs_52 (h := ⟨fun c => absurd c he, fun _ => bad (hd0 hr) f' fl' g' hf hg (by rw [e76]; exact hx1.2.2.1.hi hO.2.1)⟩) ..
      rcases hsum with ⟨s1, s2⟩ | ⟨s1, s2⟩ | ⟨s1, s2⟩
      · rw [s2]
        refine ⟨fun c => absurd c (by decide), fun _ => ?_⟩
        obtain ⟨d1, d2⟩ := oStep_do (cs := lw) t1 s1
        exact run s f84 (fun _ => (pcX_rg (Or.inl rfl) hc0 hE hpX).1 s s1) d1 d2
      · rw [s2]
        exact ⟨fun _ => bad (oStep_bad t1 s1) F fl' G hx1.1 hx1.2.1 (hx1.2.2.1.hi hO.2.1), fun c => absurd rfl c⟩
      · rw [s2]
        refine ⟨fun c => absurd c (by decide), fun _ => ?_⟩
        have e1 : q.2.2.2.2.1 (oE σ.1 σ.2.2.2.2.1 σ.2.2.2.2.2) = some 1 := by rw [hk1 s1]
        obtain ⟨d1, d2⟩ := oStep_do (cs := lw) t1 e1
        have ei : ∀ z : Int, oAct lw q.1 z σ.1 = oAct lw q.1 1 σ.1 := fun z => oAct_z s1
        exact run s f84 (fun h => by omega) (fun r' hr => d1 r' ((ei s).symm.trans hr)) fun hr => d2 ((ei s).symm.trans hr)
    · rw [t2]
      refine ⟨fun c => absurd rfl c, fun _ => ?_⟩
      have es := oStep_skip (cs := lw) t1
      exact ih (t + 1) m σ F fl' G (by omega) (by omega) hO hx1 f79 (fun σ' h => h1 σ' ((oRep_s es).trans h)) fun h => h0 ((oRep_s es).trans h)
theorem mo_run {X : mm_X} {K : Nat} {gl : Nat → Nat → Int64} {hh : Nat → Nat → Option Nat} {v : Nat → Value} {tx : mm_W} {P : Option Value → mm_W → Prop} {f0 : Nat → Int32} {g0 : Nat → Nat → Int32} {lw : List pC} {κ0 : Nat → Nat} {n : Nat} {l1 : Int32} (h66 : κ0 66 ≤ 400) (hok : csOK lw) (hR : ∀ κ : Nat → Nat, (∀ i, 23 ≤ i → κ i = κ0 i) → rfX κ (κ 59) lw) (hK : 64 ≤ K) :
    ∀ (m i p o : Nat) (r : List pC) (k : Nat) (σ : oS) (f : Nat → Int32) (fl : Nat → Int64) (g : Nat → Nat → Int32), p_text (tkC κ0 6) (tkV κ0 6) true n (κ0 66) m i p o = some (.inr r) → i ≤ κ0 66 → p ≤ 50 → k + m = 12 → oOK κ0 (20 * k) σ → mO f0 g0 σ σ.2.2.2.2.1 f g → f 4779 = iI ((2400 + i : Nat) : Int) →
    (∀ σ', oRun lw r k σ = .inl σ' → oOK κ0 240 σ' → ∀ f' fl' g', mO f0 g0 σ' σ'.2.2.2.2.1 f' g' → P (some (.int (iI (σ'.2.2.2.2.1 : Int)))) (Wd (va_up f' 4736 0) fl' g' gl hh v tx)) →
    (∀ k', oRun lw r k σ = .inr k' → ∀ f' fl' g', fmO f' f0 → gmO g' g0 → msH (g' 76) κ0 → WP X (K + 17) 126 (0, [some (.ref 74), some (.int 1), none], [], Wd f' fl' g' gl hh v tx) (fun rv w2 => WP X (K + 18) 245 (119, [some (.ref 74), some (.int l1), none, some (.int (iI (k' : Int))), none], rv.toList ++ [], w2) P)) →
    WP X (K + 18) 245 (95, [some (.ref 74), some (.int l1), some (.int (iI ((2400 + κ0 66 : Nat) : Int))), some (.int (iI (k : Int))), none], [], Wd f fl g gl hh v tx) P := by
  have hc0 : ∀ i, κ0 66 ≤ i → tkC κ0 6 i = 0 := fun i hi => tkC_0 (t := 6) hi
  have hsz : ∀ {k}, tkC κ0 6 k ≠ 0 → k < κ0 66 := fun {k} hk => tkC_s (t := 6) hk
  intro m
  induction m with
  | zero => intro i p o r k σ f fl g h; cases h
  | succ m ih =>
    intro i p o r k σ f fl g h hi hp hk hO hx h79 h1 h0
    obtain ⟨j, p', q, hq, h2⟩ := pt_inv h
    have hkd := pt_k2 _ _ _ _ _ h
    obtain ⟨b1, b2, b3, b4, b5, b6⟩ := pc_ok hc0 hi hp hq
    have hiN : i < κ0 66 := by omega
    have hmem : q ∈ r := by
      rcases h2 with ⟨_, qs, _, rfl⟩ | ⟨_, _, rfl⟩
      · exact List.mem_cons_self ..
      · exact List.mem_singleton.mpr rfl
    obtain ⟨hk3, hk20, hk1⟩ := hkd q hmem
    obtain ⟨c1, c2⟩ := tk_cg hO.2.1
    have e66 := hO.2.1 66 (by omega)
    have hE := oE_rg (κ := σ.1) (D := σ.2.2.2.2.1) (L := σ.2.2.2.2.2) hO.1.2.2.2.2.2.2 (by have := hO.2.2.2.2.2.1; omega) hO.2.2.2.2.2.2
    -- how the rest is run
    have er : ∃ qs, r = q :: qs ∧ ((tkC κ0 6 j = 159 ∧ p_text (tkC κ0 6) (tkV κ0 6) true n (κ0 66) m (j + 1) p' (o + q.2.2.1.length + q.2.2.2.1.length) = some (.inr qs)) ∨ (j = κ0 66 ∧ qs = [])) := by
      rcases h2 with ⟨w1, qs, w2, rfl⟩ | ⟨w1, w2, rfl⟩
      · exact ⟨qs, rfl, Or.inl ⟨w1, w2⟩⟩
      · exact ⟨[], rfl, Or.inr ⟨w2, rfl⟩⟩
    obtain ⟨qs, rfl, er⟩ := er
    have run_s : ∀ σ', oRep lw q q.2.1 σ = some σ' → oRun lw (q :: qs) k σ = oRun lw qs (k + 1) σ' := fun σ' hs => by
      show (match oRep lw q q.2.1 σ with | none => Sum.inr k | some σ' => oRun lw qs (k + 1) σ') = _
      rw [hs]
    have run_n : oRep lw q q.2.1 σ = none → oRun lw (q :: qs) k σ = .inr k := fun hs => by
      show (match oRep lw q q.2.1 σ with | none => Sum.inr k | some σ' => oRun lw qs (k + 1) σ') = _
      rw [hs]
    refine b_m_orders_95 (h := ?_) ..
    rw [h79]
    refine ⟨fun c => by simp (disch := omega) only [z_lit, z_litl, z_neg, z_negl, z_add, z_sub, z_mul, z_addl, z_subl, z_mull, z_cc, z_cl, z_cr, z_cm, z_cml, z_cmr, z_lt, z_le, z_eq, z_ltl, z_lel, z_eql, z_nat, z_i2l, z_l2i, z_div, z_sh, Int.toNat_natCast, z_ts, z_tsl] at c; omega, fun _ => ?_⟩
    refine b_m_runs_0 (h := ?_) ..
    obtain ⟨q1, q2, q3, q4, q5, q6, q7⟩ := hx
    rw [← e66]
    refine c_m_gooff (K := K + 5) (κ := σ.1) (E := oE σ.1 σ.2.2.2.2.1 σ.2.2.2.2.2) (n := n) (i := i) (p := p) (o := o) (j := j) (p' := p') (lv := 0) q3 hO.1 (by rw [e66]; exact h66) (oE_ev va_s (by rw [va_ne (by decide)]; exact q6) (by rw [va_ne (by decide)]; exact q7)) hE (by rw [c1, c2]; exact hq) (by rw [e66]; exact hi) hp (by omega) (by omega) h79 fun F fl' G s b hF hfl hG f58 f80 f81 f84 hsum htest => ?_
    rw [e66]
    have hx1 : mO f0 g0 σ σ.2.2.2.2.1 F G := mO.go ⟨q1, q2, q3, q4, q5, q6, q7⟩ hF hG
    have f79 : F 4779 = iI ((2400 + i : Nat) : Int) := (hF 4779 (by decide) (by decide) (by decide) (by decide) (by decide)).trans h79
    refine b_m_runs_6 (h := ?_) ..
    rw [f80, f58]
    refine mo_rep (K := K) h66 hok hR hK hq hi hp hk3 hk1 b4 hk20 q.2.1 0 (20 * k) σ F fl' G (by omega) (by omega) hO hx1 f79 (fun σ' hs f' fl2 g' hx' e79 => ?_) fun hs f' fl2 g' hf hg h76 => ?_
    · refine b_m_orders_108 (h := ⟨fun c => absurd c (by decide), fun _ => ?_⟩) ..
      rw [i1N]
      have hO' := oRep_ok _ _ hO hs
      rcases er with ⟨w1, w2⟩ | ⟨w1, rfl⟩
      · have hj := hsz (k := j) (by omega)
        exact ih (j + 1) p' _ qs (k + 1) σ' f' fl2 g' w2 hj b3 (by omega) (hO'.mono (by omega)) hx' e79 (fun σ2 h2 => h1 σ2 ((run_s σ' hs).trans h2)) fun k' h2 => h0 k' ((run_s σ' hs).trans h2)
      · refine b_m_orders_95 (h := ?_) ..
        rw [e79, hx'.2.2.2.2.2.1]
        exact ⟨fun _ => h1 σ' (run_s σ' hs) (hO'.mono (by omega)) f' fl2 g' hx', fun c => absurd (by simp (disch := omega) only [z_lit, z_litl, z_neg, z_negl, z_add, z_sub, z_mul, z_addl, z_subl, z_mull, z_cc, z_cl, z_cr, z_cm, z_cml, z_cmr, z_lt, z_le, z_eq, z_ltl, z_lel, z_eql, z_nat, z_i2l, z_l2i, z_div, z_sh, Int.toNat_natCast, z_ts, z_tsl]; omega) c⟩
    · refine b_m_orders_108 (h := ⟨fun _ => ?_, fun c => absurd rfl c⟩) ..
      exact h0 k (run_n hs) f' fl2 g' hf hg h76
