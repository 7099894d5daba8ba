/-! .. its rounds -/
def sumF (F : Nat → Nat) : Nat → Nat
  | 0 => 0
  | n + 1 => sumF F n + F n
theorem sumF_le {F F' : Nat → Nat} : ∀ n, (∀ i, i < n → F' i ≤ F i) → sumF F' n ≤ sumF F n
  | 0, _ => Nat.le_refl _
  | n + 1, h => by
    have := sumF_le n fun i hi => h i (by omega)
    have := h n (by omega)
    rw [sumF, sumF]
    omega
theorem sumF_lt {F F' : Nat → Nat} {z : Nat} (hz : F' z < F z) : ∀ n, (∀ i, i < n → F' i ≤ F i) → z < n → sumF F' n < sumF F n
  | 0, _, h => absurd h (Nat.not_lt_zero z)
  | n + 1, h, hn => by
    rw [sumF, sumF]
    by_cases e : z = n
    · subst e
      have := sumF_le (F := F) (F' := F') z fun i hi => h i (by omega)
      omega
    · have := sumF_lt hz n (fun i hi => h i (by omega)) (by omega)
      have := h n (by omega)
      omega
/-- what the reference's row holds -/
def tfI (κ : Nat → Nat) (kept : Nat) (F : Nat → Nat) (g : Nat → Nat → Int32) : Prop := (∀ v, v < 125 → g 93 v = iI (F v : Int)) ∧ (∀ v, F v ≤ 1000000) ∧ (∀ v, 0 < v → v < 125 → F v < 1000000 → ∃ (c : Nat → Nat) (n : Nat), 1 ≤ n ∧ n ≤ 3 ∧ (∀ k, k < n → c k ≤ 3) ∧ v = k5F c n ∧ Rch (sgS κ kept) (Kc c n) (F v)) ∧ (F 0 < 1000000 → ∃ a, sgS κ kept a ∧ Rch (sgS κ kept) a (F 0))
def g93 (g' g : Nat → Nat → Int32) : Prop := ∀ a, a ≠ 93 → g' a = g a
/-- one cost nearer -/
theorem tfI.near {κ : Nat → Nat} {kept v c : Nat} {F : Nat → Nat} {g : Nat → Nat → Int32} (h : tfI κ kept F g) (hv : v < 125) (hc : c ≤ 2000000) (hs : c < 1000000 → (0 < v → ∃ (w : Nat → Nat) (n : Nat), 1 ≤ n ∧ n ≤ 3 ∧ (∀ k, k < n → w k ≤ 3) ∧ v = k5F w n ∧ Rch (sgS κ kept) (Kc w n) c) ∧ (v = 0 → ∃ a, sgS κ kept a ∧ Rch (sgS κ kept) a c)) : tfI κ kept (fun i => if i = v then min c (F v) else F i) (va_up g 93 (upd (g 93) v (iI ((min c (F v) : Nat) : Int)))) := by
  obtain ⟨h1, h2, h3, h4⟩ := h
  refine ⟨fun i hi => ?_, fun i => ?_, fun i i1 i2 i3 => ?_, fun i3 => ?_⟩
  · rw [va_s]
    by_cases e : i = v
    · subst e; rw [upd_s]; simp only [if_true]
    · rw [upd_ne e]; simp only [if_neg e]; exact h1 i hi
  · have := h2 i
    have := h2 v
    show (if i = v then min c (F v) else F i) ≤ 1000000
    split <;> omega
  · by_cases e : i = v
    · subst e
      simp only [if_true] at i3 ⊢
      by_cases q : c ≤ F i
      · rw [Nat.min_eq_left q] at i3 ⊢
        exact (hs i3).1 i1
      · rw [Nat.min_eq_right (by omega)] at i3 ⊢
        exact h3 i i1 i2 i3
    · simp only [if_neg e] at i3 ⊢
      exact h3 i i1 i2 i3
  · by_cases e : 0 = v
    · subst e
      simp only [if_true] at i3 ⊢
      by_cases q : c ≤ F 0
      · rw [Nat.min_eq_left q] at i3 ⊢
        exact (hs i3).2 rfl
      · rw [Nat.min_eq_right (by omega)] at i3 ⊢
        exact h4 i3
    · simp only [if_neg e] at i3 ⊢
      exact h4 i3
/-- the world behind comesNear -/
theorem near_w {g : Nat → Nat → Int32} {F : Nat → Nat} {v c : Nat} (h1 : g 93 v = iI (F v : Int)) (hF : F v ≤ 1000000) (hc : c ≤ 2000000) : (c ≤ F v → upd (g 93) v (iI (c : Int)) = upd (g 93) v (iI ((min c (F v) : Nat) : Int))) ∧ (¬ c ≤ F v → upd (g 93) v (g 93 v) = upd (g 93) v (iI ((min c (F v) : Nat) : Int))) := by
  refine ⟨fun q => by rw [Nat.min_eq_left q], fun q => by rw [Nat.min_eq_right (by omega), h1]⟩
/-- a sign g goes on from v -/
def clR (κ : Nat → Nat) (F F' : Nat → Nat) (v j : Nat) : Prop := F v < 1000000 → ∀ (c : Nat → Nat) (n : Nat), 1 ≤ n → n ≤ 3 → (∀ k, k < n → c k ≤ 3) → v = k5F c n → (∀ k, k < n → k < κ (31 + j) → c k = clo κ j k) → (κ (31 + j) ≤ n → F' (k5F (fun k => c (κ (31 + j) + k)) (n - κ (31 + j))) ≤ F v) ∧ (n < κ (31 + j) → F' (k5F (fun k => clo κ j (n + k)) (κ (31 + j) - n)) ≤ F v + (κ (31 + j) - n))
theorem c_goesOnWith {X : mm_X} {d : Nat} {f : Nat → Int32} {fl : Nat → Int64} {g : Nat → Nat → Int32} {gl : Nat → Nat → Int64} {hh : Nat → Nat → Option Nat} {v : Nat → Value} {tx : mm_W} {P : Option Value → mm_W → Prop} {κ : Nat → Nat} {kept j vv : Nat} {F : Nat → Nat} (hm : ms (g 76) κ) (hwS : wS κ) (hj : j < κ 55) (hb : kept / 2 ^ j % 2 = 1) (hI : tfI κ kept F g) (hv0 : 0 < vv) (hv : vv < 125) (hF : F vv < 1000000)
    (h : ∀ (F' : Nat → Nat) (g' : Nat → Nat → Int32) (r : Nat), tfI κ kept F' g' → g93 g' g → (∀ i, F' i ≤ F i) → clR κ F F' vv j → (r = 0 ∧ F' = F ∨ r = 1 ∧ sumF F' 125 < sumF F 125) → P (some (.int (iI (r : Int)))) (Wd f fl g' gl hh v tx)) :
    WP X (d + 3) 223 (0, [some (.ref 74), some (.int (iI (vv : Int))), some (.int (iI (j : Int))), none], [], Wd f fl g gl hh v tx) P := by
  obtain ⟨c, n, n1, n3, hc, rfl, hR⟩ := hI.2.2.1 vv hv0 hv hF
  have b55 := hwS.1
  have l1 := (hwS.2.1 j hj).1
  have l2 := (hwS.2.1 j hj).2.1
  have e31 := hm.1 (31 + j) (by omega)
  have tn : ((31 : Int32) + iI (j : Int)).toNatClampNeg = 31 + j := by simp (disch := omega) only [z_lit, z_litl, z_neg, z_negl, z_add, z_sub, z_mul, z_addl, z_subl, z_mull, z_cc, z_cl, z_cr, z_cm, z_cml, z_cmr, z_lt, z_le, z_eq, z_ltl, z_lel, z_eql, z_nat, z_i2l, z_l2i, z_div, z_sh, Int.toNat_natCast, z_ts, z_tsl]
  have ob : ¬ ((31 : Int32) + iI (j : Int) < 0 ∨ 5667 ≤ 31 + j) := by simp (disch := omega) only [z_lit, z_litl, z_neg, z_negl, z_add, z_sub, z_mul, z_addl, z_subl, z_mull, z_cc, z_cl, z_cr, z_cm, z_cml, z_cmr, z_lt, z_le, z_eq, z_ltl, z_lel, z_eql, z_nat, z_i2l, z_l2i, z_div, z_sh, Int.toNat_natCast, z_ts, z_tsl]; omega
  have d1 : ∀ k, k < κ (31 + j) → clo κ j k ≤ 3 := fun k hk => clo_le hwS hj hk
  have hsg : sgS κ kept (Kc (clo κ j) (κ (31 + j))) := ⟨j, hj, hb, rfl⟩
  have tv : (iI (k5F c n : Nat)).toNatClampNeg = k5F c n := by rw [z_nat (by omega)]; omega
  have obv : ¬ (iI (k5F c n : Nat) < 0 ∨ 125 ≤ k5F c n) := by simp (disch := omega) only [z_lit, z_litl, z_neg, z_negl, z_add, z_sub, z_mul, z_addl, z_subl, z_mull, z_cc, z_cl, z_cr, z_cm, z_cml, z_cmr, z_lt, z_le, z_eq, z_ltl, z_lel, z_eql, z_nat, z_i2l, z_l2i, z_div, z_sh, Int.toNat_natCast, z_ts, z_tsl]; omega
  have e93 := hI.1 (k5F c n) hv
  -- every way to write the row is this one
  have rep : ∀ (c' : Nat → Nat) (n' : Nat), 1 ≤ n' → n' ≤ 3 → (∀ k, k < n' → c' k ≤ 3) → k5F c n = k5F c' n' → n = n' ∧ ∀ k, k < n → c k = c' k := fun c' n' _ _ h2 h3 => k5_inj hc h2 h3
  -- a cost laid at y
  have put : ∀ (y cost : Nat), y < 125 → cost ≤ 2000000 → (cost < 1000000 → (0 < y → ∃ (w : Nat → Nat) (n : Nat), 1 ≤ n ∧ n ≤ 3 ∧ (∀ k, k < n → w k ≤ 3) ∧ y = k5F w n ∧ Rch (sgS κ kept) (Kc w n) cost) ∧ (y = 0 → ∃ a, sgS κ kept a ∧ Rch (sgS κ kept) a cost)) → (∀ F' : Nat → Nat, F' y ≤ cost → clR κ F F' (k5F c n) j) →
      ((F y ≤ cost → P (some (.int 0)) (Wd f fl (va_up g 93 (upd (g 93) y (iI ((min cost (F y) : Nat) : Int)))) gl hh v tx)) ∧ (¬ F y ≤ cost → P (some (.int 1)) (Wd f fl (va_up g 93 (upd (g 93) y (iI ((min cost (F y) : Nat) : Int)))) gl hh v tx))) := by
    intro y cost hy hcost hs hcl
    have hn := hI.near hy hcost hs
    have hle : ∀ i, (if i = y then min cost (F y) else F i) ≤ F i := fun i => by
      by_cases e : i = y
      · subst e; rw [if_pos rfl]; exact Nat.min_le_right _ _
      · rw [if_neg e]; exact Nat.le_refl _
    have hy2 : (fun i => if i = y then min cost (F y) else F i) y ≤ cost := by
      show (if y = y then min cost (F y) else F y) ≤ cost
      rw [if_pos rfl]
      exact Nat.min_le_left _ _
    refine ⟨fun q => ?_, fun q => ?_⟩
    · refine h _ _ 0 hn (fun a ha => va_ne ha) hle (hcl _ hy2) (Or.inl ⟨rfl, ?_⟩)
      funext i
      by_cases e : i = y
      · subst e; rw [if_pos rfl, Nat.min_eq_right q]
      · rw [if_neg e]
    · refine h _ _ 1 hn (fun a ha => va_ne ha) hle (hcl _ hy2) (Or.inr ⟨rfl, sumF_lt (z := y) ?_ 125 (fun i _ => hle i) hy⟩)
      show (if y = y then min cost (F y) else F y) < F y
      rw [if_pos rfl, Nat.min_eq_left (by omega)]
      omega
  refine b_m_goesOnWith_0 (h := ?_) ..
  refine c_longFive (by omega) hc ?_
  refine b_m_goesOnWith_4 (h := ?_) ..
  refine c_alike (d := d + 1) hm hwS hj (by omega) hc (fun hal => ?_) fun hal => ?_
  · refine b_m_goesOnWith_11 (h := ⟨fun _ => ?_, fun c => absurd c (by decide)⟩) ..
    rw [tn, e31]
    refine ⟨ob, fun hlt => ?_, fun hlt => ⟨ob, ?_⟩⟩
    · have hlt : n < κ (31 + j) := by simp (disch := omega) only [z_lit, z_litl, z_neg, z_negl, z_add, z_sub, z_mul, z_addl, z_subl, z_mull, z_cc, z_cl, z_cr, z_cm, z_cml, z_cmr, z_lt, z_le, z_eq, z_ltl, z_lel, z_eql, z_nat, z_i2l, z_l2i, z_div, z_sh, Int.toNat_natCast, z_ts, z_tsl] at hlt; omega
      refine c_restOf (d := d + 1) hm hwS hj (by omega) ?_
      refine b_m_goesOnWith_61 (h := ?_) ..
      have hy := (k5_lt (c := fun k => clo κ j (n + k)) (n := κ (31 + j) - n) (by omega) fun k hk => d1 _ (by omega))
      have hy1 := hy.2.1 (by omega)
      have hy2 := hy.2.2 (by omega)
      have hRy := hR.s2 hsg (lf_y hlt l2 hc d1 fun k hk => (hal k hk (by omega)).symm)
      have hsz := (siz_K (c := fun k => clo κ j (n + k)) (n := κ (31 + j) - n) (by omega) fun k hk => d1 _ (by omega)).1
      rw [hsz] at hRy
      generalize hyy : k5F (fun k => clo κ j (n + k)) (κ (31 + j) - n) = y at hy1 hy2
      have ty : (iI (y : Int)).toNatClampNeg = y := by rw [z_nat (by omega)]; omega
      have eFy := hI.1 y hy1
      have hFy := hI.2.1 y
      have ecost : iI (F (k5F c n) : Int) + iI (κ (31 + j) : Int) - iI (n : Int) = iI ((F (k5F c n) + (κ (31 + j) - n) : Nat) : Int) := by
        rw [z_add, z_sub]
        congr 1
        omega
      have oby : ¬ (iI (y : Int) < 0 ∨ 125 ≤ y) := by simp (disch := omega) only [z_lit, z_litl, z_neg, z_negl, z_add, z_sub, z_mul, z_addl, z_subl, z_mull, z_cc, z_cl, z_cr, z_cm, z_cml, z_cmr, z_lt, z_le, z_eq, z_ltl, z_lel, z_eql, z_nat, z_i2l, z_l2i, z_div, z_sh, Int.toNat_natCast, z_ts, z_tsl]; omega
      obtain ⟨nw1, nw2⟩ := near_w (c := F (k5F c n) + (κ (31 + j) - n)) eFy hFy (by omega)
      obtain ⟨p0, p1⟩ := put y (F (k5F c n) + (κ (31 + j) - n)) hy1 (by omega) (fun _ => ⟨fun _ => ⟨_, _, by omega, by omega, fun k hk => d1 _ (by omega), hyy.symm, hRy⟩, fun e => by omega⟩) fun F' hF' _ c' n' h1' h3' hc' hv' hal' => by
        obtain ⟨rfl, hcc⟩ := rep c' n' h1' h3' hc' hv'
        refine ⟨fun h => by omega, fun _ => ?_⟩
        rw [hyy]
        exact hF'
      rw [tv, tn, e31, e93, ty, ecost, eFy]
      have q1 : (iI (F y : Int) ≤ iI ((F (k5F c n) + (κ (31 + j) - n) : Nat) : Int)) = (F y ≤ F (k5F c n) + (κ (31 + j) - n)) := by rw [z_le (by omega) (by omega)]; exact propext ⟨fun a => by omega, fun a => by omega⟩
      have q2 : (iI ((F (k5F c n) + (κ (31 + j) - n) : Nat) : Int) ≤ iI (F y : Int)) = (F (k5F c n) + (κ (31 + j) - n) ≤ F y) := by rw [z_le (by omega) (by omega)]; exact propext ⟨fun a => by omega, fun a => by omega⟩
      rw [q1, q2]
      rw [← eFy]
      refine ⟨obv, ob, oby, fun a => ⟨oby, fun b => ⟨oby, ?_⟩, fun b => ⟨oby, ?_⟩⟩, fun a => ⟨oby, fun b => ⟨oby, ?_⟩, fun b => ⟨oby, ?_⟩⟩⟩
      · rw [nw1 b]; exact p0 a
      · rw [nw2 b]; exact p0 a
      · rw [nw1 b]; exact p1 a
      · rw [nw2 b]; exact p1 a
    · have hlt : κ (31 + j) ≤ n := by simp (disch := omega) only [z_lit, z_litl, z_neg, z_negl, z_add, z_sub, z_mul, z_addl, z_subl, z_mull, z_cc, z_cl, z_cr, z_cm, z_cml, z_cmr, z_lt, z_le, z_eq, z_ltl, z_lel, z_eql, z_nat, z_i2l, z_l2i, z_div, z_sh, Int.toNat_natCast, z_ts, z_tsl] at hlt; omega
      refine c_without (d := d + 1) (by omega) hc hlt ?_
      refine b_m_goesOnWith_44 (h := ?_) ..
      have hcs : ∀ k, k < n - κ (31 + j) → c (κ (31 + j) + k) ≤ 3 := fun k hk => hc _ (by omega)
      have hy := k5_lt (c := fun k => c (κ (31 + j) + k)) (n := n - κ (31 + j)) (by omega) hcs
      have hy1 := hy.2.1 (by omega)
      generalize hyy : k5F (fun k => c (κ (31 + j) + k)) (n - κ (31 + j)) = y at hy hy1
      have ty : (iI (y : Int)).toNatClampNeg = y := by rw [z_nat (by omega)]; omega
      have eFy := hI.1 y hy1
      have hFy := hI.2.1 y
      have oby : ¬ (iI (y : Int) < 0 ∨ 125 ≤ y) := by simp (disch := omega) only [z_lit, z_litl, z_neg, z_negl, z_add, z_sub, z_mul, z_addl, z_subl, z_mull, z_cc, z_cl, z_cr, z_cm, z_cml, z_cmr, z_lt, z_le, z_eq, z_ltl, z_lel, z_eql, z_nat, z_i2l, z_l2i, z_div, z_sh, Int.toNat_natCast, z_ts, z_tsl]; omega
      obtain ⟨nw1, nw2⟩ := near_w (c := F (k5F c n)) eFy hFy (by omega)
      have hs1 : F (k5F c n) < 1000000 → (0 < y → ∃ (w : Nat → Nat) (n2 : Nat), 1 ≤ n2 ∧ n2 ≤ 3 ∧ (∀ k, k < n2 → w k ≤ 3) ∧ y = k5F w n2 ∧ Rch (sgS κ kept) (Kc w n2) (F (k5F c n))) ∧ (y = 0 → ∃ a, sgS κ kept a ∧ Rch (sgS κ kept) a (F (k5F c n))) := fun hlt2 => by
        refine ⟨fun y0 => ?_, fun y0 => ?_⟩
        · have hn' : κ (31 + j) < n := by
            by_cases e : κ (31 + j) = n
            · rw [e, Nat.sub_self] at hyy
              rw [← hyy] at y0
              exact absurd y0 (Nat.lt_irrefl 0)
            · omega
          exact ⟨_, _, by omega, by omega, hcs, hyy.symm, hR.s1 hsg (lf_y hn' (by omega) d1 hc fun k hk => hal k (by omega) hk)⟩
        · have hn' : κ (31 + j) = n := by
            by_cases e : κ (31 + j) = n
            · exact e
            · have := hy.2.2 (by omega)
              omega
          refine ⟨_, hsg, ?_⟩
          rw [show Kc (clo κ j) (κ (31 + j)) = Kc c n by rw [hn']; exact Kc_cg fun k hk => (hal k hk (by omega)).symm]
          exact hR
      obtain ⟨p0, p1⟩ := put y (F (k5F c n)) hy1 (by omega) hs1 fun F' hF' _ c' n' h1' h3' hc' hv' hal' => by
        obtain ⟨rfl, hcc⟩ := rep c' n' h1' h3' hc' hv'
        refine ⟨fun _ => ?_, fun h => by omega⟩
        rw [show k5F (fun k => c' (κ (31 + j) + k)) (n - κ (31 + j)) = y by rw [← hyy]; exact k5_cg fun k hk => (hcc _ (by omega)).symm]
        exact hF'
      rw [tv, e93, ty, eFy]
      have q1 : (iI (F y : Int) ≤ iI (F (k5F c n) : Int)) = (F y ≤ F (k5F c n)) := by rw [z_le (by omega) (by omega)]; exact propext ⟨fun a => by omega, fun a => by omega⟩
      have q2 : (iI (F (k5F c n) : Int) ≤ iI (F y : Int)) = (F (k5F c n) ≤ F y) := by rw [z_le (by omega) (by omega)]; exact propext ⟨fun a => by omega, fun a => by omega⟩
      rw [q1, q2]
      rw [← eFy]
      refine ⟨obv, oby, fun a => ⟨oby, fun b => ⟨oby, ?_⟩, fun b => ⟨oby, ?_⟩⟩, fun a => ⟨oby, fun b => ⟨oby, ?_⟩, fun b => ⟨oby, ?_⟩⟩⟩
      · rw [nw1 b]; exact p0 a
      · rw [nw2 b]; exact p0 a
      · rw [nw1 b]; exact p1 a
      · rw [nw2 b]; exact p1 a
  · refine b_m_goesOnWith_11 (h := ⟨fun c => absurd rfl c, fun _ => ?_⟩) ..
    refine h F g 0 hI (fun _ _ => rfl) (fun _ => Nat.le_refl _) (fun _ c' n' h1' h3' hc' hv' hal' => ?_) (Or.inl ⟨rfl, rfl⟩)
    obtain ⟨rfl, hcc⟩ := rep c' n' h1' h3' hc' hv'
    exact absurd (fun k hk hk2 => (hcc k hk).trans (hal' k hk hk2)) hal
