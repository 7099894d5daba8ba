/-! tokens: both programs split the tape's bytes b (n of them) in the same way -/
def isL (x : Nat) : Bool := decide (97 ≤ x ∧ x ≤ 122)
def isD (x : Nat) : Bool := decide (48 ≤ x ∧ x ≤ 57)
def isB (x : Nat) : Bool := decide (x = 32)
theorem isL_t {x : Nat} : isL x = true ↔ (97 ≤ x ∧ x ≤ 122) := decide_eq_true_iff
theorem isD_t {x : Nat} : isD x = true ↔ (48 ≤ x ∧ x ≤ 57) := decide_eq_true_iff
theorem isB_t {x : Nat} : isB x = true ↔ x = 32 := decide_eq_true_iff
theorem isL_f {x : Nat} : isL x = false ↔ ¬ (97 ≤ x ∧ x ≤ 122) := decide_eq_false_iff_not
theorem isD_f {x : Nat} : isD x = false ↔ ¬ (48 ≤ x ∧ x ≤ 57) := decide_eq_false_iff_not
theorem isB_f {x : Nat} : isB x = false ↔ ¬ x = 32 := decide_eq_false_iff_not
def runF (b : Nat → Nat) (q : Nat → Bool) : Nat → Nat → Nat
  | 0, i => i
  | m + 1, i => if q (b i) = true then runF b q m (i + 1) else i
/-- from i on, as long as q holds, below n -/
def run (b : Nat → Nat) (q : Nat → Bool) (n i : Nat) : Nat := runF b q (n - i) i
theorem run_y {b : Nat → Nat} {q : Nat → Bool} {n i : Nat} (h : i < n) (hq : q (b i) = true) : run b q n i = run b q n (i + 1) := by
  unfold run
  rw [show n - i = (n - (i + 1)) + 1 by omega, runF, if_pos hq]
theorem run_n {b : Nat → Nat} {q : Nat → Bool} {n i : Nat} (h : n ≤ i ∨ q (b i) = false) : run b q n i = i := by
  unfold run
  cases hm : n - i with
  | zero => rfl
  | succ m =>
    rw [runF, if_neg]
    rcases h with h | h
    · omega
    · rw [h]; exact Bool.false_ne_true
theorem run_ok {b : Nat → Nat} {q : Nat → Bool} {n : Nat} : ∀ (m i : Nat), n - i = m → i ≤ n → i ≤ run b q n i ∧ run b q n i ≤ n ∧ (∀ j, i ≤ j → j < run b q n i → q (b j) = true) ∧ (run b q n i < n → q (b (run b q n i)) = false) := by
  intro m
  induction m with
  | zero =>
    intro i h1 h2
    rw [run_n (Or.inl (by omega))]
    exact ⟨Nat.le_refl _, h2, fun j _ _ => by omega, fun c => by omega⟩
  | succ m ih =>
    intro i h1 h2
    cases hq : q (b i) with
    | false =>
      rw [run_n (Or.inr hq)]
      exact ⟨Nat.le_refl _, h2, fun j _ _ => by omega, fun _ => hq⟩
    | true =>
      obtain ⟨g1, g2, g3, g4⟩ := ih (i + 1) (by omega) (by omega)
      rw [run_y (by omega) hq]
      refine ⟨by omega, g2, fun j hj hj2 => ?_, g4⟩
      by_cases e : j = i
      · rw [e]; exact hq
      · exact g3 j (by omega) hj2
/-- where a token begins, and ends -/
def tS (b : Nat → Nat) (n e : Nat) : Nat := run b isB n e
def tE (b : Nat → Nat) (n s : Nat) : Nat := if n ≤ s then s else if isL (b s) = true then run b isL n (s + 1) else if isD (b s) = true then run b isD n (s + 1) else s + 1
theorem tS_ok {b : Nat → Nat} {n e : Nat} (h : e ≤ n) : e ≤ tS b n e ∧ tS b n e ≤ n ∧ (tS b n e < n → b (tS b n e) ≠ 32) := by
  obtain ⟨g1, g2, -, g4⟩ := run_ok (b := b) (q := isB) (n := n) _ e rfl h
  exact ⟨g1, g2, fun c => isB_f.mp (g4 c)⟩
theorem tE_ok {b : Nat → Nat} {n s : Nat} (h : s < n) : s < tE b n s ∧ tE b n s ≤ n := by
  unfold tE
  rw [if_neg (by omega)]
  split
  · obtain ⟨g1, g2, -⟩ := run_ok (b := b) (q := isL) (n := n) _ (s + 1) rfl (by omega)
    omega
  · split
    · obtain ⟨g1, g2, -⟩ := run_ok (b := b) (q := isD) (n := n) _ (s + 1) rfl (by omega)
      omega
    · omega
/-- token k begins here -/
def ts (b : Nat → Nat) (n : Nat) : Nat → Nat
  | 0 => tS b n 0
  | k + 1 => tS b n (tE b n (ts b n k))
theorem ts_le {b : Nat → Nat} {n : Nat} : ∀ k, ts b n k ≤ n
  | 0 => (tS_ok (by omega)).2.1
  | k + 1 => by
    have := ts_le (b := b) (n := n) k
    rw [ts]
    refine (tS_ok ?_).2.1
    by_cases c : ts b n k < n
    · exact (tE_ok c).2
    · unfold tE
      rw [if_pos (by omega)]
      exact this
theorem ts_up {b : Nat → Nat} {n k : Nat} (h : ts b n k < n) : ts b n k < tE b n (ts b n k) ∧ tE b n (ts b n k) ≤ ts b n (k + 1) := by
  obtain ⟨g1, g2⟩ := tE_ok h
  exact ⟨g1, by rw [ts]; exact (tS_ok g2).1⟩
/-- the number that j digits from s on make -/
def vlF (b : Nat → Nat) (s : Nat) : Nat → Nat
  | 0 => 0
  | j + 1 => if vlF b s j ≤ 1000000 then 10 * vlF b s j + b (s + j) - 48 else vlF b s j
theorem vlF_lt {b : Nat → Nat} {s : Nat} (hb : ∀ i, b i < 256) : ∀ j, vlF b s j < 10001000
  | 0 => by rw [vlF]; omega
  | j + 1 => by
    have := vlF_lt (s := s) hb j
    have := hb (s + j)
    rw [vlF]
    split <;> omega
/-- the class's number -/
def vxF (b : Nat → Nat) (s j : Nat) : Nat := min (vlF b s j) 1001
theorem vxF_s {b : Nat → Nat} {s j : Nat} (h : 48 ≤ b (s + j)) : vxF b s (j + 1) = min (10 * vxF b s j + b (s + j) - 48) 1001 := by
  unfold vxF
  rw [vlF]
  split <;> omega
/-- the token's bytes -/
def bts (b : Nat → Nat) (s l : Nat) : List Nat := (List.range l).map fun j => b (s + j)
theorem bts_len {b : Nat → Nat} {s l : Nat} : (bts b s l).length = l := by unfold bts; rw [List.length_map, List.length_range]
theorem bts_at {b : Nat → Nat} {s l j : Nat} (h : j < l) : (bts b s l).getD j 0 = b (s + j) := by
  unfold bts
  rw [List.getD_eq_getElem?_getD, List.getElem?_map, List.getElem?_range h]
  rfl
theorem bts_eq {b : Nat → Nat} {s l : Nat} {w : List Nat} (h1 : w.length = l) (h2 : ∀ j, j < l → w.getD j 0 = b (s + j)) : w = bts b s l := by
  refine List.ext_getElem? fun j => ?_
  by_cases c : j < l
  · have := (h2 j c).trans (bts_at (b := b) (s := s) c).symm
    rw [List.getD_eq_getElem?_getD, List.getD_eq_getElem?_getD, List.getElem?_eq_getElem (by omega), List.getElem?_eq_getElem (by rw [bts_len]; omega)] at this
    rw [List.getElem?_eq_getElem (by omega), List.getElem?_eq_getElem (by rw [bts_len]; omega)]
    exact congrArg some this
  · rw [List.getElem?_eq_none (by omega), List.getElem?_eq_none (by rw [bts_len]; omega)]
/-- which word of a list it is -/
def fnd (x : List Nat) : List (List Nat) → Nat → Option Nat
  | [], _ => none
  | w :: ws, k => if w = x then some k else fnd x ws (k + 1)
def wds : List (List Nat) := [[119, 101, 105, 103, 104, 115], [103, 111, 101, 115], [98, 97, 114, 115], [105, 102], [111, 114], [97, 110, 100], [110, 111, 116], [115, 104, 105, 112], [115, 105, 103, 110], [108, 111, 110, 103], [109, 101, 97, 110, 115], [109, 111, 111, 100], [99, 101, 108, 108], [112, 111, 119, 100, 101, 114], [100, 97, 121], [100, 111, 110, 101], [108, 97, 116, 101, 115, 116], [104, 117, 110, 103], [119, 97, 121, 115], [104, 97, 110, 103], [116, 97, 107, 101], [115, 97, 105, 108], [112, 97, 115, 115], [116, 105, 109, 101, 115]]
def wdk (sec : Bool) : List (List Nat) := if sec then [[104, 97, 110, 103], [116, 97, 107, 101], [115, 97, 105, 108], [112, 97, 115, 115]] else [[119, 101, 105, 103, 104, 115], [103, 111, 101, 115], [98, 97, 114, 115]]
def wdw (sec : Bool) : List (List Nat) := if sec then [[100, 97, 121], [100, 111, 110, 101], [108, 97, 116, 101, 115, 116], [104, 117, 110, 103], [119, 97, 121, 115], [99, 101, 108, 108], [112, 111, 119, 100, 101, 114]] else [[115, 104, 105, 112], [115, 105, 103, 110], [108, 111, 110, 103], [109, 101, 97, 110, 115], [99, 101, 108, 108], [112, 111, 119, 100, 101, 114], [100, 97, 121], [109, 111, 111, 100]]
/-- the reference's code of a word -/
def wdc (x : List Nat) : Nat := (fnd x wds 1).getD 0
theorem fnd_no {x : List Nat} : ∀ {ws : List (List Nat)} {k : Nat}, (∀ w, w ∈ ws → w ≠ x) → fnd x ws k = none
  | [], _, _ => rfl
  | w :: ws, k, h => by
    rw [fnd, if_neg (h w (List.mem_cons_self ..))]
    exact fnd_no fun w hw => h w (List.mem_cons_of_mem _ hw)
theorem wds_all {x : List Nat} {p : List Nat → Prop} (h1 : ∀ c, c < 24 → p (wds.getD c [])) (h2 : (∀ w, w ∈ wds → w ≠ x) → p x) : p x := by
  by_cases hm : x ∈ wds
  · obtain ⟨c, hc, rfl⟩ := List.getElem_of_mem hm
    have hc' : c < 24 := hc
    have := h1 c hc'
    rw [List.getD_eq_getElem?_getD, List.getElem?_eq_getElem hc] at this
    exact this
  · exact h2 fun w hw e => hm (e ▸ hw)
theorem wdc_kind (sec : Bool) (x : List Nat) : p_kind sec (wdc x) = fnd x (wdk sec) 0 := by
  refine wds_all (p := fun x => p_kind sec (wdc x) = fnd x (wdk sec) 0) (by cases sec <;> decide) fun h => ?_
  rw [show wdc x = 0 by unfold wdc; rw [fnd_no h]; rfl, fnd_no fun w hw => h w (by revert w; cases sec <;> decide)]
  cases sec <;> rfl
theorem wdc_word (sec : Bool) (x : List Nat) : p_word sec (wdc x) = (fnd x (wdw sec) 0).map fun k => if sec = true ∧ k = 6 then 8 else k := by
  refine wds_all (p := fun x => p_word sec (wdc x) = (fnd x (wdw sec) 0).map fun k => if sec = true ∧ k = 6 then 8 else k) (by cases sec <;> decide) fun h => ?_
  rw [show wdc x = 0 by unfold wdc; rw [fnd_no h]; rfl, fnd_no fun w hw => h w (by revert w; cases sec <;> decide)]
  cases sec <;> rfl
theorem wdc_one {c : Nat} (hc : c < 24) (x : List Nat) : fnd x [wds.getD c []] 0 = if wdc x = c + 1 then some 0 else none := by
  refine wds_all (p := fun x => fnd x [wds.getD c []] 0 = if wdc x = c + 1 then some 0 else none) (by revert c; decide) fun h => ?_
  rw [show wdc x = 0 by unfold wdc; rw [fnd_no h]; rfl, if_neg (by omega), fnd_no fun w hw => h w ?_]
  rw [List.mem_singleton] at hw
  rw [hw, List.getD_eq_getElem?_getD, List.getElem?_eq_getElem (show c < wds.length from hc)]
  exact List.getElem_mem _
/-- what the class's reader holds of the token that begins at s -/
def tM (b : Nat → Nat) (n s : Nat) : Int := if n ≤ s then -1 else if isL (b s) = true then 97 else if isD (b s) = true then 48 else b s
def tN (b : Nat → Nat) (n s : Nat) : Nat := if n ≤ s then 0 else if isL (b s) = true then 0 else if isD (b s) = true then vxF b s (tE b n s - s) else 0
theorem c_step {X : mm_X} {d : Nat} {f : Nat → Int32} {fl : Nat → Int64} {g : Nat → Nat → Int32} {gl : Nat → Nat → Int64} {hh : Nat → Nat → Option Nat} {v : Nat → Value} {tx : mm_W} {P : Option Value → mm_W → Prop} {b : Nat → Nat} {n e : Nat} (hn : n ≤ 400) (hb : ∀ i, b i < 256) (hx : ∀ i, i < n → g 30 i = iI (b i : Int)) (e0 : v 1986 = .ref 30) (h87 : f 1987 = iI (n : Int)) (h92 : f 1992 = iI (e : Int)) (he : e ≤ n)
    (h : P none (Wd (va_up (va_up (va_up (va_up f 1990 (iI (tM b n (tS b n e)))) 1991 (iI (tS b n e : Nat))) 1992 (iI (tE b n (tS b n e) : Nat))) 1993 (iI (tN b n (tS b n e) : Nat))) fl g gl hh v tx)) : WP X d 42 (0, [some (.ref 31), none], [], Wd f fl g gl hh v tx) P := by
  obtain ⟨s1, s2, s3⟩ := tS_ok (b := b) he
  generalize hS : tS b n e = S at h s1 s2 s3
  have blanks : ∀ (m i : Nat), n - i = m → i ≤ n → tS b n i = S → WP X d 42 (30, [some (.ref 31), some (.int (iI (S : Int)))], [], Wd f fl g gl hh v tx) P → WP X d 42 (5, [some (.ref 31), some (.int (iI (i : Int)))], [], Wd f fl g gl hh v tx) P := by
    intro m
    induction m with
    | zero =>
      intro i h1 h2 h3 h4
      have e1 : i = S := by rw [← h3]; unfold tS; rw [run_n (Or.inl (by omega))]
      subst e1
      refine b_yre_step_31_5 (e0 := e0) (h := ?_) ..
      rw [h87]
      simp (disch := omega) only [z_lit, z_litl, z_neg, z_negl, z_add, z_sub, z_mul, z_addl, z_subl, z_mull, z_cc, z_cl, z_cr, z_cm, z_cml, z_cmr, z_lt, z_le, z_eq, z_ltl, z_lel, z_eql, z_nat, z_i2l, z_l2i, z_div, z_sh, Int.toNat_natCast, z_ts, z_tsl]
      exact ⟨fun _ => h4, fun c => by omega⟩
    | succ m ih =>
      intro i h1 h2 h3 h4
      have hbi := hb i
      refine b_yre_step_31_5 (e0 := e0) (h := ?_) ..
      simp (disch := omega) only [z_lit, z_litl, z_neg, z_negl, z_add, z_sub, z_mul, z_addl, z_subl, z_mull, z_cc, z_cl, z_cr, z_cm, z_cml, z_cmr, z_lt, z_le, z_eq, z_ltl, z_lel, z_eql, z_nat, z_i2l, z_l2i, z_div, z_sh, Int.toNat_natCast, z_ts, z_tsl, h87, hx i (by omega)]
      refine ⟨fun c => by omega, fun _ => ⟨by omega, fun c => ?_, fun c => ?_⟩⟩
      · have e1 : i = S := by rw [← h3]; unfold tS; rw [run_n (Or.inr (isB_f.mpr (by omega)))]
        subst e1
        exact h4
      · refine ih (i + 1) (by omega) (by omega) ?_ h4
        rw [← h3]
        unfold tS
        rw [run_y (i := i) (by omega) (isB_t.mpr (by omega))]
  refine b_yre_step_31_0 (h := ?_) ..
  rw [h92]
  refine blanks _ e rfl he hS ?_
  refine b_yre_step_31_30 (e0 := e0) (h := ?_) ..
  by_cases cn : n ≤ S
  · have e1 : S = n := by omega
    subst e1
    simp (disch := omega) only [z_lit, z_litl, z_neg, z_negl, z_add, z_sub, z_mul, z_addl, z_subl, z_mull, z_cc, z_cl, z_cr, z_cm, z_cml, z_cmr, z_lt, z_le, z_eq, z_ltl, z_lel, z_eql, z_nat, z_i2l, z_l2i, z_div, z_sh, Int.toNat_natCast, z_ts, z_tsl, h87]
    refine ⟨fun _ => ?_, fun c => by omega⟩
    refine b_yre_step_31_54 (h := ?_) ..
    refine ⟨fun _ => ?_, fun c => absurd (by decide) c⟩
    refine b_yre_step_31_122 (h := ?_) ..
    refine ⟨fun _ => ?_, fun c => absurd (by rw [va_ne (by decide), va_s]; decide) c⟩
    refine b_yre_step_31_209 (h := ?_) ..
    refine ⟨fun _ => ?_, fun c => absurd (by rw [va_ne (by decide), va_s]; rfl) c⟩
    rw [show tM b S S = -1 by unfold tM; rw [if_pos (Nat.le_refl _)], show tN b S S = 0 by unfold tN; rw [if_pos (Nat.le_refl _)], show tE b S S = S by unfold tE; rw [if_pos (Nat.le_refl _)]] at h
    simp (disch := decide) only [va_ne, va_s, va_cm, va_tw]
    exact h
  · have hbi := hb S
    simp (disch := omega) only [z_lit, z_litl, z_neg, z_negl, z_add, z_sub, z_mul, z_addl, z_subl, z_mull, z_cc, z_cl, z_cr, z_cm, z_cml, z_cmr, z_lt, z_le, z_eq, z_ltl, z_lel, z_eql, z_nat, z_i2l, z_l2i, z_div, z_sh, Int.toNat_natCast, z_ts, z_tsl, h87, hx S (by omega)]
    refine ⟨fun c => by omega, fun _ => ⟨by omega, ?_⟩⟩
    by_cases cl : isL (b S) = true
    · have cl2 := isL_t.mp cl
      have eE : tE b n S = run b isL n (S + 1) := by unfold tE; rw [if_neg cn, if_pos cl]
      rw [show tM b n S = 97 by unfold tM; rw [if_neg cn, if_pos cl], show tN b n S = 0 by unfold tN; rw [if_neg cn, if_pos cl], eE, ← run_y (b := b) (q := isL) (by omega) cl] at h
      refine b_yre_step_31_54 (h := ?_) ..
      simp (disch := omega) only [z_lit, z_litl, z_neg, z_negl, z_add, z_sub, z_mul, z_addl, z_subl, z_mull, z_cc, z_cl, z_cr, z_cm, z_cml, z_cmr, z_lt, z_le, z_eq, z_ltl, z_lel, z_eql, z_nat, z_i2l, z_l2i, z_div, z_sh, Int.toNat_natCast, z_ts, z_tsl]
      refine ⟨fun c => by omega, fun _ => ⟨fun c => by omega, fun _ => ?_⟩⟩
      have loop : ∀ (m i : Nat) (f : Nat → Int32), n - i = m → i ≤ n → run b isL n i = run b isL n S → f 1987 = iI (n : Int) → P none (Wd (va_up f 1992 (iI (run b isL n S : Nat))) fl g gl hh v tx) → WP X d 42 (86, [some (.ref 31), some (.int (iI (i : Int)))], [], Wd f fl g gl hh v tx) P := by
        intro m
        induction m with
        | zero =>
          intro i f h1 h2 h3 h87 h4
          rw [← h3, run_n (Or.inl (by omega))] at h4
          refine b_yre_step_31_86 (e0 := e0) (h := ?_) ..
          simp (disch := omega) only [z_lit, z_litl, z_neg, z_negl, z_add, z_sub, z_mul, z_addl, z_subl, z_mull, z_cc, z_cl, z_cr, z_cm, z_cml, z_cmr, z_lt, z_le, z_eq, z_ltl, z_lel, z_eql, z_nat, z_i2l, z_l2i, z_div, z_sh, Int.toNat_natCast, z_ts, z_tsl, h87]
          exact ⟨fun _ => h4, fun c => by omega⟩
        | succ m ih =>
          intro i f h1 h2 h3 h87 h4
          have hbi := hb i
          refine b_yre_step_31_86 (e0 := e0) (h := ?_) ..
          simp (disch := omega) only [z_lit, z_litl, z_neg, z_negl, z_add, z_sub, z_mul, z_addl, z_subl, z_mull, z_cc, z_cl, z_cr, z_cm, z_cml, z_cmr, z_lt, z_le, z_eq, z_ltl, z_lel, z_eql, z_nat, z_i2l, z_l2i, z_div, z_sh, Int.toNat_natCast, z_ts, z_tsl, h87, hx i (by omega)]
          by_cases c : isL (b i) = true
          · have c2 := isL_t.mp c
            refine ⟨fun c => by omega, fun _ => ⟨by omega, fun c => by omega, fun _ => ⟨by omega, fun c => by omega, fun _ => ?_⟩⟩⟩
            exact ih (i + 1) f (by omega) (by omega) (by rw [← h3, run_y (i := i) (by omega) c]) h87 h4
          · have c := eq_false_of_ne_true c
            have c2 := isL_f.mp c
            rw [← h3, run_n (Or.inr c)] at h4
            refine ⟨fun c => by omega, fun _ => ⟨by omega, fun _ => h4, fun _ => ⟨by omega, fun _ => h4, fun c => by omega⟩⟩⟩
      refine loop _ S _ rfl (by omega) rfl (by rw [va_ne (by decide), va_ne (by decide), va_ne (by decide)]; exact h87) ?_
      simp (disch := decide) only [va_ne, va_s, va_cm, va_tw]
      exact h
    · have cl := eq_false_of_ne_true cl
      have cl2 := isL_f.mp cl
      have nl : ¬ isL (b S) = true := by rw [cl]; exact Bool.false_ne_true
      have to122 : WP X d 42 (122, [some (.ref 31), some (.int (iI (S : Int)))], [], Wd (va_up (va_up (va_up f 1991 (iI (S : Int))) 1990 (iI (b S : Int))) 1993 0) fl g gl hh v tx) P := by
        refine b_yre_step_31_122 (h := ?_) ..
        rw [show va_up (va_up (va_up f 1991 (iI (S : Int))) 1990 (iI (b S : Int))) 1993 0 1990 = iI (b S : Int) by rw [va_ne (by decide), va_s]]
        simp (disch := omega) only [z_lit, z_litl, z_neg, z_negl, z_add, z_sub, z_mul, z_addl, z_subl, z_mull, z_cc, z_cl, z_cr, z_cm, z_cml, z_cmr, z_lt, z_le, z_eq, z_ltl, z_lel, z_eql, z_nat, z_i2l, z_l2i, z_div, z_sh, Int.toNat_natCast, z_ts, z_tsl]
        by_cases cd : isD (b S) = true
        · have cd2 := isD_t.mp cd
          have eE : tE b n S = run b isD n (S + 1) := by unfold tE; rw [if_neg cn, if_neg nl, if_pos cd]
          rw [show tM b n S = 48 by unfold tM; rw [if_neg cn, if_neg nl, if_pos cd], show tN b n S = vxF b S (tE b n S - S) by unfold tN; rw [if_neg cn, if_neg nl, if_pos cd], eE, ← run_y (b := b) (q := isD) (by omega) cd] at h
          refine ⟨fun c => by omega, fun _ => ⟨fun c => by omega, fun _ => ?_⟩⟩
          have loop : ∀ (m i : Nat) (f : Nat → Int32), n - i = m → i ≤ n → S ≤ i → run b isD n i = run b isD n S → f 1987 = iI (n : Int) → f 1993 = iI (vxF b S (i - S) : Nat) → P none (Wd (va_up (va_up f 1992 (iI (run b isD n S : Nat))) 1993 (iI (vxF b S (run b isD n S - S) : Nat))) fl g gl hh v tx) → WP X d 42 (146, [some (.ref 31), some (.int (iI (i : Int)))], [], Wd f fl g gl hh v tx) P := by
            intro m
            induction m with
            | zero =>
              intro i f h1 h2 hSi h3 h87 h93 h4
              rw [← h3, run_n (Or.inl (by omega)), ← h93] at h4
              rw [va_id (show va_up f 1992 (iI (i : Int)) 1993 = f 1993 from rfl)] at h4
              refine b_yre_step_31_146 (e0 := e0) (h := ?_) ..
              simp (disch := omega) only [z_lit, z_litl, z_neg, z_negl, z_add, z_sub, z_mul, z_addl, z_subl, z_mull, z_cc, z_cl, z_cr, z_cm, z_cml, z_cmr, z_lt, z_le, z_eq, z_ltl, z_lel, z_eql, z_nat, z_i2l, z_l2i, z_div, z_sh, Int.toNat_natCast, z_ts, z_tsl, h87]
              exact ⟨fun _ => h4, fun c => by omega⟩
            | succ m ih =>
              intro i f h1 h2 hSi h3 h87 h93 h4
              have hbi := hb i
              refine b_yre_step_31_146 (e0 := e0) (h := ?_) ..
              by_cases c : isD (b i) = true
              · have c2 := isD_t.mp c
                have hv : vxF b S (i - S) ≤ 1001 := by unfold vxF; omega
                have hs := vxF_s (b := b) (s := S) (j := i - S) (by rw [show S + (i - S) = i by omega]; exact c2.1)
                rw [show S + (i - S) = i by omega, show i - S + 1 = i + 1 - S by omega] at hs
                simp (disch := omega) only [z_lit, z_litl, z_neg, z_negl, z_add, z_sub, z_mul, z_addl, z_subl, z_mull, z_cc, z_cl, z_cr, z_cm, z_cml, z_cmr, z_lt, z_le, z_eq, z_ltl, z_lel, z_eql, z_nat, z_i2l, z_l2i, z_div, z_sh, Int.toNat_natCast, z_ts, z_tsl, h87, h93, hx i (by omega)]
                refine ⟨fun c => by omega, fun _ => ⟨by omega, fun c => by omega, fun _ => ⟨by omega, fun c => by omega, fun _ => ⟨by omega, ?_⟩⟩⟩⟩
                refine ih (i + 1) _ (by omega) (by omega) (by omega) (by rw [← h3, run_y (i := i) (by omega) c]) (by rw [va_ne (by decide)]; exact h87) ?_ ?_
                · rw [va_s, hs]
                  split
                  · rw [show min (10 * vxF b S (i - S) + b i - 48) 1001 = 1001 by omega]; rfl
                  · congr 1; omega
                · simp (disch := decide) only [va_ne, va_s, va_cm, va_tw]
                  exact h4
              · have c := eq_false_of_ne_true c
                have c2 := isD_f.mp c
                rw [← h3, run_n (Or.inr c), ← h93] at h4
                rw [va_id (show va_up f 1992 (iI (i : Int)) 1993 = f 1993 from rfl)] at h4
                simp (disch := omega) only [z_lit, z_litl, z_neg, z_negl, z_add, z_sub, z_mul, z_addl, z_subl, z_mull, z_cc, z_cl, z_cr, z_cm, z_cml, z_cmr, z_lt, z_le, z_eq, z_ltl, z_lel, z_eql, z_nat, z_i2l, z_l2i, z_div, z_sh, Int.toNat_natCast, z_ts, z_tsl, h87, hx i (by omega)]
                refine ⟨fun c => by omega, fun _ => ⟨by omega, fun _ => h4, fun _ => ⟨by omega, fun _ => h4, fun c => by omega⟩⟩⟩
          refine loop _ S _ rfl (by omega) (by omega) rfl (by rw [va_ne (by decide), va_ne (by decide), va_ne (by decide), va_ne (by decide)]; exact h87) ?_ ?_
          · rw [va_ne (by decide), va_s, Nat.sub_self]; rfl
          · simp (disch := decide) only [va_ne, va_s, va_cm, va_tw]
            exact h
        · have cd := eq_false_of_ne_true cd
          have cd2 := isD_f.mp cd
          have nd : ¬ isD (b S) = true := by rw [cd]; exact Bool.false_ne_true
          have eE : tE b n S = S + 1 := by unfold tE; rw [if_neg cn, if_neg nl, if_neg nd]
          rw [show tM b n S = (b S : Int) by unfold tM; rw [if_neg cn, if_neg nl, if_neg nd], show tN b n S = 0 by unfold tN; rw [if_neg cn, if_neg nl, if_neg nd], eE] at h
          have fin : WP X d 42 (209, [some (.ref 31), some (.int (iI (S : Int)))], [], Wd (va_up (va_up (va_up f 1991 (iI (S : Int))) 1990 (iI (b S : Int))) 1993 0) fl g gl hh v tx) P := by
            refine b_yre_step_31_209 (h := ?_) ..
            rw [show va_up (va_up (va_up f 1991 (iI (S : Int))) 1990 (iI (b S : Int))) 1993 0 1990 = iI (b S : Int) by rw [va_ne (by decide), va_s], show iI (S : Int) + (1 : Int32) = iI ((S + 1 : Nat) : Int) by rw [show (1 : Int32) = iI 1 from rfl, z_add]; rfl]
            simp (disch := omega) only [z_lit, z_litl, z_neg, z_negl, z_add, z_sub, z_mul, z_addl, z_subl, z_mull, z_cc, z_cl, z_cr, z_cm, z_cml, z_cmr, z_lt, z_le, z_eq, z_ltl, z_lel, z_eql, z_nat, z_i2l, z_l2i, z_div, z_sh, Int.toNat_natCast, z_ts, z_tsl]
            refine ⟨fun c => by omega, fun _ => ?_⟩
            simp (disch := decide) only [va_ne, va_s, va_cm, va_tw]
            exact h
          exact ⟨fun _ => fin, fun _ => ⟨fun _ => fin, fun c => by omega⟩⟩
      refine b_yre_step_31_54 (h := ?_) ..
      simp (disch := omega) only [z_lit, z_litl, z_neg, z_negl, z_add, z_sub, z_mul, z_addl, z_subl, z_mull, z_cc, z_cl, z_cr, z_cm, z_cml, z_cmr, z_lt, z_le, z_eq, z_ltl, z_lel, z_eql, z_nat, z_i2l, z_l2i, z_div, z_sh, Int.toNat_natCast, z_ts, z_tsl]
      exact ⟨fun _ => to122, fun _ => ⟨fun _ => to122, fun c => by omega⟩⟩
/-- a list of words as the class writes it, a blank behind each -/
def stW : List (List Nat) → List Int32
  | [] => []
  | w :: ws => w.map (fun x : Nat => iI (x : Int)) ++ (32 : Int32) :: stW ws
theorem getD_mid {α : Type} {p r : List α} {c d : α} : (p ++ c :: r).getD p.length d = c := by
  rw [List.getD_eq_getElem?_getD, List.getElem?_append_right (Nat.le_refl _), Nat.sub_self]
  rfl
theorem ofN (n : Nat) : Int32.ofNat n = iI (n : Int) := (Int32.ofInt_eq_ofNat).symm
def pkV (x : Option Nat) : Int := match x with
  | none => -1
  | some k => k
theorem c_pick {X : mm_X} {d : Nat} {f : Nat → Int32} {fl : Nat → Int64} {g : Nat → Nat → Int32} {gl : Nat → Nat → Int64} {hh : Nat → Nat → Option Nat} {v : Nat → Value} {tx : mm_W} {P : Option Value → mm_W → Prop} {b : Nat → Nat} {n s l : Nat} {z0 : UInt32} {tS : List Int32} {ws : List (List Nat)} (hn : n ≤ 400) (hb : ∀ i, b i < 256) (hx : ∀ i, i < n → g 30 i = iI (b i : Int)) (e0 : v 1986 = .ref 30) (eS : mk_S[z0.toNat - 16]? = some tS) (eZ : 16 ≤ z0.toNat) (hS : tS = stW ws) (hL : tS.length < 1000) (hw : ∀ w, w ∈ ws → ∀ x, x ∈ w → x < 256 ∧ x ≠ 32) (h90 : f 1990 = 97) (h91 : f 1991 = iI (s : Int)) (h92 : f 1992 = iI ((s + l : Nat) : Int)) (hsl : s + l ≤ n)
    (h : P (some (.int (iI (pkV (fnd (bts b s l) ws 0))))) (Wd f fl g gl hh v tx)) : WP X d 43 (0, [some (.ref 31), some (.float z0), none, none, none, none, none], [], Wd f fl g gl hh v tx) P := by
  have i1 : ∀ i : Nat, iI (i : Int) + (1 : Int32) = iI ((i + 1 : Nat) : Int) := fun i => by rw [show (1 : Int32) = iI 1 from rfl, z_add]; rfl
  have loop : ∀ (ws' : List (List Nat)) (pre : List Int32) (k : Nat), tS = pre ++ stW ws' → k ≤ pre.length → (∀ w, w ∈ ws' → ∀ x, x ∈ w → x < 256 ∧ x ≠ 32) → fnd (bts b s l) ws' k = fnd (bts b s l) ws 0 → WP X d 43 (24, [some (.ref 31), some (.float z0), some (.int (iI (k : Int))), some (.int (iI (s : Int))), some (.int (iI 1)), some (.int (iI (pre.length : Int))), none], [], Wd f fl g gl hh v tx) P := by
    intro ws'
    induction ws' with
    | nil =>
      intro pre k h1 hk h2 h3
      have el : tS.length = pre.length := by rw [h1]; simp [stW]
      refine b_yre_pick_31_24 (eS := eS) (eZ := eZ) (e2 := e0) (h := ?_) ..
      rw [ofN, el]
      refine ⟨fun _ => ?_, fun c => absurd (Int32.le_refl _) c⟩
      rw [← h3] at h
      exact h
    | cons w ws' ih =>
      intro pre0 k h1 hk h2 h3
      have inner : ∀ (w2 w1 : List Nat) (pre : List Int32) (fl4 : Nat), tS = pre ++ (w2.map (fun x : Nat => iI (x : Int)) ++ (32 : Int32) :: stW ws') → w = w1 ++ w2 → k ≤ pre.length → w1.length ≤ pre.length → ((fl4 = 1 ∧ ∀ j, j < w1.length → j < l ∧ w1.getD j 0 = b (s + j)) ∨ (fl4 = 0 ∧ ¬ ∀ j, j < w1.length → j < l ∧ w1.getD j 0 = b (s + j))) → WP X d 43 (24, [some (.ref 31), some (.float z0), some (.int (iI (k : Int))), some (.int (iI ((s + w1.length : Nat) : Int))), some (.int (iI (fl4 : Int))), some (.int (iI (pre.length : Int))), none], [], Wd f fl g gl hh v tx) P := by
        intro w2
        induction w2 with
        | nil =>
          intro w1 pre fl4 g1 g2 gk gw g3
          have g2 : w = w1 := by rw [g2, List.append_nil]
          subst g2
          have g1 : tS = pre ++ (32 : Int32) :: stW ws' := g1
          have el : pre.length < tS.length := by rw [g1, List.length_append, List.length_cons]; omega
          have ec : tS.getD pre.length 0 = 32 := by rw [g1]; exact getD_mid
          have next : ¬ w = bts b s l → WP X d 43 (24, [some (.ref 31), some (.float z0), some (.int (iI ((k + 1 : Nat) : Int))), some (.int (iI (s : Int))), some (.int (iI 1)), some (.int (iI ((pre.length + 1 : Nat) : Int))), none], [], Wd f fl g gl hh v tx) P := by
            intro hne
            have := ih (pre ++ [(32 : Int32)]) (k + 1) (by rw [g1, List.append_assoc]; rfl) (by rw [List.length_append]; show k + 1 ≤ pre.length + 1; omega) (fun w' hw' => h2 w' (List.mem_cons_of_mem _ hw')) (by rw [← h3, fnd, if_neg hne])
            rw [List.length_append] at this
            exact this
          refine b_yre_pick_31_24 (eS := eS) (eZ := eZ) (e2 := e0) (h := ?_) ..
          rw [ofN, show (iI (pre.length : Int)).toNatClampNeg = pre.length by rw [z_nat (by omega)]; omega, ec, h91, h92]
          simp only [i1]
          refine ⟨fun c => by simp (disch := omega) only [z_lit, z_litl, z_neg, z_negl, z_add, z_sub, z_mul, z_addl, z_subl, z_mull, z_cc, z_cl, z_cr, z_cm, z_cml, z_cmr, z_lt, z_le, z_eq, z_ltl, z_lel, z_eql, z_nat, z_i2l, z_l2i, z_div, z_sh, Int.toNat_natCast, z_ts, z_tsl] at c; omega, fun _ => ⟨by simp (disch := omega) only [z_lit, z_litl, z_neg, z_negl, z_add, z_sub, z_mul, z_addl, z_subl, z_mull, z_cc, z_cl, z_cr, z_cm, z_cml, z_cmr, z_lt, z_le, z_eq, z_ltl, z_lel, z_eql, z_nat, z_i2l, z_l2i, z_div, z_sh, Int.toNat_natCast, z_ts, z_tsl]; omega, fun _ => ⟨fun c => next ?_, fun c => ⟨fun c2 => next ?_, fun c2 => ?_⟩⟩, fun c => absurd trivial c⟩⟩
          · rcases g3 with ⟨q1, -⟩ | ⟨-, q2⟩
            · rw [q1] at c; exact absurd c (by decide)
            · intro e
              refine q2 fun j hj => ?_
              have e2 : w.length = l := by rw [e, bts_len]
              exact ⟨by omega, by rw [e]; exact bts_at (by omega)⟩
          · intro e
            have e2 : w.length = l := by rw [e, bts_len]
            exact c2 (by rw [e2])
          · have e2 : w.length = l := by simp (disch := omega) only [z_lit, z_litl, z_neg, z_negl, z_add, z_sub, z_mul, z_addl, z_subl, z_mull, z_cc, z_cl, z_cr, z_cm, z_cml, z_cmr, z_lt, z_le, z_eq, z_ltl, z_lel, z_eql, z_nat, z_i2l, z_l2i, z_div, z_sh, Int.toNat_natCast, z_ts, z_tsl] at c2; omega
            rcases g3 with ⟨-, q2⟩ | ⟨q1, -⟩
            · have e3 : w = bts b s l := bts_eq e2 fun j hj => (q2 j (by omega)).2
              rw [← h3, fnd, if_pos e3] at h
              exact h
            · rw [q1] at c; exact absurd rfl c
        | cons y w2 ihw =>
          intro w1 pre fl4 g1 g2 gk gw g3
          have hy := h2 w (List.mem_cons_self ..) y (by rw [g2]; exact List.mem_append_right _ (List.mem_cons_self ..))
          have g1 : tS = pre ++ iI (y : Int) :: (w2.map (fun x : Nat => iI (x : Int)) ++ (32 : Int32) :: stW ws') := g1
          have el : pre.length < tS.length := by rw [g1, List.length_append, List.length_cons]; omega
          have ec : tS.getD pre.length 0 = iI (y : Int) := by rw [g1]; exact getD_mid
          have el1 : (w1 ++ [y]).length = w1.length + 1 := by rw [List.length_append]; rfl
          have next : ∀ q : Nat, ((q = 1 ∧ ∀ j, j < (w1 ++ [y]).length → j < l ∧ (w1 ++ [y]).getD j 0 = b (s + j)) ∨ (q = 0 ∧ ¬ ∀ j, j < (w1 ++ [y]).length → j < l ∧ (w1 ++ [y]).getD j 0 = b (s + j))) → WP X d 43 (24, [some (.ref 31), some (.float z0), some (.int (iI (k : Int))), some (.int (iI ((s + w1.length + 1 : Nat) : Int))), some (.int (iI (q : Int))), some (.int (iI ((pre.length + 1 : Nat) : Int))), none], [], Wd f fl g gl hh v tx) P := by
            intro q hq
            have := ihw (w1 ++ [y]) (pre ++ [iI (y : Int)]) q (by rw [g1, List.append_assoc]; rfl) (by rw [g2, List.append_assoc]; rfl) (by rw [List.length_append]; omega) (by rw [el1, List.length_append]; show w1.length + 1 ≤ pre.length + 1; omega) hq
            rw [el1, List.length_append] at this
            exact this
          have old : ∀ j, j < w1.length → (w1 ++ [y]).getD j 0 = w1.getD j 0 := fun j hj => by
            rw [List.getD_eq_getElem?_getD, List.getElem?_append_left hj, ← List.getD_eq_getElem?_getD]
          have new : (w1 ++ [y]).getD w1.length 0 = y := getD_mid
          refine b_yre_pick_31_24 (eS := eS) (eZ := eZ) (e2 := e0) (h := ?_) ..
          rw [ofN, show (iI (pre.length : Int)).toNatClampNeg = pre.length by rw [z_nat (by omega)]; omega, ec, h92]
          simp only [i1]
          refine ⟨fun c => by simp (disch := omega) only [z_lit, z_litl, z_neg, z_negl, z_add, z_sub, z_mul, z_addl, z_subl, z_mull, z_cc, z_cl, z_cr, z_cm, z_cml, z_cmr, z_lt, z_le, z_eq, z_ltl, z_lel, z_eql, z_nat, z_i2l, z_l2i, z_div, z_sh, Int.toNat_natCast, z_ts, z_tsl] at c; omega, fun _ => ⟨by simp (disch := omega) only [z_lit, z_litl, z_neg, z_negl, z_add, z_sub, z_mul, z_addl, z_subl, z_mull, z_cc, z_cl, z_cr, z_cm, z_cml, z_cmr, z_lt, z_le, z_eq, z_ltl, z_lel, z_eql, z_nat, z_i2l, z_l2i, z_div, z_sh, Int.toNat_natCast, z_ts, z_tsl]; omega, fun c => ?_, fun _ => ⟨fun c => next 0 ?_, fun c => ⟨fun c2 => next 0 ?_, fun c2 => ?_⟩⟩⟩⟩
          · have c : iI (y : Int) = iI 32 := c
            rw [z_eq (by omega) (by omega)] at c
            omega
          · rcases g3 with ⟨q1, -⟩ | ⟨-, q2⟩
            · rw [q1] at c; exact absurd c (by decide)
            · refine Or.inr ⟨rfl, fun hq => q2 fun j hj => ?_⟩
              have := hq j (by omega)
              rw [old j hj] at this
              exact this
          · refine Or.inr ⟨rfl, fun hq => ?_⟩
            have := hq w1.length (by omega)
            simp (disch := omega) only [z_lit, z_litl, z_neg, z_negl, z_add, z_sub, z_mul, z_addl, z_subl, z_mull, z_cc, z_cl, z_cr, z_cm, z_cml, z_cmr, z_lt, z_le, z_eq, z_ltl, z_lel, z_eql, z_nat, z_i2l, z_l2i, z_div, z_sh, Int.toNat_natCast, z_ts, z_tsl] at c2
            omega
          · have hlt : w1.length < l := by simp (disch := omega) only [z_lit, z_litl, z_neg, z_negl, z_add, z_sub, z_mul, z_addl, z_subl, z_mull, z_cc, z_cl, z_cr, z_cm, z_cml, z_cmr, z_lt, z_le, z_eq, z_ltl, z_lel, z_eql, z_nat, z_i2l, z_l2i, z_div, z_sh, Int.toNat_natCast, z_ts, z_tsl] at c2; omega
            have hbs := hb (s + w1.length)
            rw [show (iI ((s + w1.length : Nat) : Int)).toNatClampNeg = s + w1.length by rw [z_nat (by omega)]; omega, hx (s + w1.length) (by omega)]
            refine ⟨by simp (disch := omega) only [z_lit, z_litl, z_neg, z_negl, z_add, z_sub, z_mul, z_addl, z_subl, z_mull, z_cc, z_cl, z_cr, z_cm, z_cml, z_cmr, z_lt, z_le, z_eq, z_ltl, z_lel, z_eql, z_nat, z_i2l, z_l2i, z_div, z_sh, Int.toNat_natCast, z_ts, z_tsl]; omega, fun c3 => next 0 (Or.inr ⟨rfl, fun hq => ?_⟩), fun c3 => next 1 (Or.inl ⟨rfl, fun j hj => ?_⟩)⟩
            · have := (hq w1.length (by omega)).2
              rw [new] at this
              exact c3 (by rw [this])
            · rcases g3 with ⟨-, q2⟩ | ⟨q1, -⟩
              · by_cases e : j = w1.length
                · subst e
                  rw [z_eq (by omega) (by omega)] at c3
                  exact ⟨hlt, by rw [new]; omega⟩
                · rw [old j (by omega)]
                  exact q2 j (by omega)
              · rw [q1] at c; exact absurd rfl c
      exact inner w [] pre0 1 h1 rfl hk (Nat.zero_le _) (Or.inl ⟨rfl, fun j hj => absurd hj (Nat.not_lt_zero j)⟩)
  refine b_yre_pick_31_0 (h := ?_) ..
  rw [h91]
  exact ⟨fun _ => loop ws [] 0 hS (Nat.zero_le _) hw rfl, fun c => absurd h90 c⟩
