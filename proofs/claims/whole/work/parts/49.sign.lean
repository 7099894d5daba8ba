/-! signs come: sign, row -/
theorem byt_int (y : Int32) : ((byt y : Nat) : Int) = y.toInt % 256 := by
  have e : y.toInt = (y.toBitVec.toNat : Int).bmod (2 ^ 32) := BitVec.toInt_eq_toNat_bmod y.toBitVec
  have hl := y.toBitVec.isLt
  rw [e, Int.bmod_def]
  unfold byt
  generalize y.toBitVec.toNat = n at hl
  split <;> omega
theorem tb_of {r : Int32} {b : Nat → Nat} (hb : ∀ k, k < 4 → b k < 256) (h : r.toBitVec.toNat = 16777216 * b 0 + 65536 * b 1 + 256 * b 2 + b 3) : ∀ k, k < 4 → tb r k = b k := by
  have h0 := hb 0 (by omega)
  have h1 := hb 1 (by omega)
  have h2 := hb 2 (by omega)
  have h3 := hb 3 (by omega)
  have hr : r.toInt = (r.toBitVec.toNat : Int).bmod (2 ^ 32) := BitVec.toInt_eq_toNat_bmod r.toBitVec
  rw [h, Int.bmod_def] at hr
  have e0 : ((tb r 0 : Nat) : Int) = r.toInt / 16777216 % 256 := by
    unfold tb
    rw [byt_int, pk_shr _ _ 24 (z_smod (k := 24 - 8 * ((0 : Nat) : Int)) (by omega)), Int.shiftRight_eq_div_pow]
    rfl
  have e1 : ((tb r 1 : Nat) : Int) = r.toInt / 65536 % 256 := by
    unfold tb
    rw [byt_int, pk_shr _ _ 16 (z_smod (k := 24 - 8 * ((1 : Nat) : Int)) (by omega)), Int.shiftRight_eq_div_pow]
    rfl
  have e2 : ((tb r 2 : Nat) : Int) = r.toInt / 256 % 256 := by
    unfold tb
    rw [byt_int, pk_shr _ _ 8 (z_smod (k := 24 - 8 * ((2 : Nat) : Int)) (by omega)), Int.shiftRight_eq_div_pow]
    rfl
  have e3 : ((tb r 3 : Nat) : Int) = r.toInt % 256 := by
    unfold tb
    rw [byt_int, pk_shr _ _ 0 (z_smod (k := 24 - 8 * ((3 : Nat) : Int)) (by omega)), Int.shiftRight_eq_div_pow, show ((2 ^ 0 : Nat) : Int) = 1 from rfl, Int.ediv_one]
  intro k hk
  have hk' : k = 0 ∨ k = 1 ∨ k = 2 ∨ k = 3 := by omega
  rcases hk' with rfl | rfl | rfl | rfl
  all_goals (split at hr <;> omega)
theorem or_add {a b k : Nat} (hb : b < 2 ^ k) : a * 2 ^ k ||| b = a * 2 ^ k + b := by
  rw [Nat.mul_comm]
  exact (Nat.two_pow_add_eq_or_of_lt hb a).symm
theorem row_or {b0 b1 b2 b3 : Nat} (h0 : b0 < 256) (h1 : b1 < 256) (h2 : b2 < 256) (h3 : b3 < 256) : ((((iI b0 <<< iI 24) ||| (iI b1 <<< iI 16)) ||| (iI b2 <<< iI 8)) ||| iI b3).toBitVec.toNat = 16777216 * b0 + 65536 * b1 + 256 * b2 + b3 := by
  rw [Int32.toBitVec_or, Int32.toBitVec_or, Int32.toBitVec_or, BitVec.toNat_or, BitVec.toNat_or, BitVec.toNat_or, pk_shl _ _ 24 (z_smod (k := 24) (by omega)), pk_shl _ _ 16 (z_smod (k := 16) (by omega)), pk_shl _ _ 8 (z_smod (k := 8) (by omega)), z_bv (by omega), z_bv (by omega), z_bv (by omega), z_bv (by omega)]
  simp only [Int.toNat_natCast]
  rw [Nat.mod_eq_of_lt (by omega), Nat.mod_eq_of_lt (by omega), Nat.mod_eq_of_lt (by omega)]
  have e1 : b0 * 2 ^ 24 ||| b1 * 2 ^ 16 = (b0 * 256 + b1) * 2 ^ 16 := by
    rw [or_add (by omega)]
    omega
  have e2 : (b0 * 256 + b1) * 2 ^ 16 ||| b2 * 2 ^ 8 = ((b0 * 256 + b1) * 256 + b2) * 2 ^ 8 := by
    rw [or_add (by omega)]
    omega
  have e3 : ((b0 * 256 + b1) * 256 + b2) * 2 ^ 8 ||| b3 = ((b0 * 256 + b1) * 256 + b2) * 2 ^ 8 + b3 := or_add (by omega)
  rw [e1, e2, e3]
  omega
theorem digF_1 (c : Nat → Nat) : digF c 1 = 10 * 0 + (c 0 + 1) := rfl
theorem digF_2 (c : Nat → Nat) : digF c 2 = 10 * (10 * 0 + (c 0 + 1)) + (c 1 + 1) := rfl
theorem digF_3 (c : Nat → Nat) : digF c 3 = 10 * (10 * (10 * 0 + (c 0 + 1)) + (c 1 + 1)) + (c 2 + 1) := rfl
theorem digF_4 (c : Nat → Nat) : digF c 4 = 10 * (10 * (10 * (10 * 0 + (c 0 + 1)) + (c 1 + 1)) + (c 2 + 1)) + (c 3 + 1) := rfl
theorem codF_1 (c : Nat → Nat) : codF c 1 = 4 * 0 + c 0 := rfl
theorem codF_2 (c : Nat → Nat) : codF c 2 = 4 * (4 * 0 + c 0) + c 1 := rfl
theorem codF_3 (c : Nat → Nat) : codF c 3 = 4 * (4 * (4 * 0 + c 0) + c 1) + c 2 := rfl
theorem codF_4 (c : Nat → Nat) : codF c 4 = 4 * (4 * (4 * (4 * 0 + c 0) + c 1) + c 2) + c 3 := rfl
theorem one4 {l : Nat} (h1 : 1 ≤ l) (h2 : l ≤ 4) : l = 1 ∨ l = 2 ∨ l = 3 ∨ l = 4 := by omega
theorem digF_cg {c c' : Nat → Nat} : ∀ {n : Nat}, (∀ i, i < n → c' i = c i) → digF c' n = digF c n
  | 0, _ => rfl
  | n + 1, h => by rw [digF, digF, digF_cg (n := n) fun i hi => h i (by omega), h n (by omega)]
theorem digF_lt {c : Nat → Nat} {l : Nat} (h1 : 1 ≤ l) (h2 : l ≤ 4) (hc : ∀ k, k < l → c k ≤ 3) : 1 ≤ digF c l ∧ digF c l < 10 ^ l ∧ digF c l ≤ 4444 := by
  rcases one4 h1 h2 with rfl | rfl | rfl | rfl
  · have := hc 0 (by omega)
    rw [digF_1]; omega
  · have := hc 0 (by omega)
    have := hc 1 (by omega)
    rw [digF_2]; omega
  · have := hc 0 (by omega)
    have := hc 1 (by omega)
    have := hc 2 (by omega)
    rw [digF_3]; omega
  · have := hc 0 (by omega)
    have := hc 1 (by omega)
    have := hc 2 (by omega)
    have := hc 3 (by omega)
    rw [digF_4]; omega
/-- the digits of such a number -/
theorem digF_dig {c : Nat → Nat} {l : Nat} (h2 : l ≤ 4) (hc : ∀ k, k < l → c k ≤ 3) {k : Nat} (hk : k < l) : digF c l / 10 ^ (l - 1 - k) % 10 = c k + 1 := by
  rcases one4 (by omega) h2 with rfl | rfl | rfl | rfl
  · have hk' : k = 0 := by omega
    have := hc 0 (by omega)
    subst hk'
    rw [digF_1]; simp only [show 1 - 1 - 0 = 0 from rfl, Nat.pow_zero]; omega
  · have hk' : k = 0 ∨ k = 1 := by omega
    have := hc 0 (by omega)
    have := hc 1 (by omega)
    rcases hk' with rfl | rfl
    · rw [digF_2, show (10 : Nat) ^ (2 - 1 - 0) = 10 from rfl]; omega
    · rw [digF_2, show (10 : Nat) ^ (2 - 1 - 1) = 1 from rfl]; omega
  · have hk' : k = 0 ∨ k = 1 ∨ k = 2 := by omega
    have := hc 0 (by omega)
    have := hc 1 (by omega)
    have := hc 2 (by omega)
    rcases hk' with rfl | rfl | rfl
    · rw [digF_3, show (10 : Nat) ^ (3 - 1 - 0) = 100 from rfl]; omega
    · rw [digF_3, show (10 : Nat) ^ (3 - 1 - 1) = 10 from rfl]; omega
    · rw [digF_3, show (10 : Nat) ^ (3 - 1 - 2) = 1 from rfl]; omega
  · have hk' : k = 0 ∨ k = 1 ∨ k = 2 ∨ k = 3 := by omega
    have := hc 0 (by omega)
    have := hc 1 (by omega)
    have := hc 2 (by omega)
    have := hc 3 (by omega)
    rcases hk' with rfl | rfl | rfl | rfl
    · rw [digF_4, show (10 : Nat) ^ (4 - 1 - 0) = 1000 from rfl]; omega
    · rw [digF_4, show (10 : Nat) ^ (4 - 1 - 1) = 100 from rfl]; omega
    · rw [digF_4, show (10 : Nat) ^ (4 - 1 - 2) = 10 from rfl]; omega
    · rw [digF_4, show (10 : Nat) ^ (4 - 1 - 3) = 1 from rfl]; omega
/-- a number all of whose digits (so many) are 1 to 4 is of such a row -/
theorem digF_of {N : Nat} {l : Nat} (h1 : 1 ≤ l) (h2 : l ≤ 4) (hN : N < 10 ^ l) (hd : ∀ k, k < l → 1 ≤ N / 10 ^ k % 10 ∧ N / 10 ^ k % 10 ≤ 4) : digF (fun k => N / 10 ^ (l - 1 - k) % 10 - 1) l = N := by
  rcases one4 h1 h2 with rfl | rfl | rfl | rfl
  · have q0 := hd 0 (by omega)
    rw [digF_1]
    simp only [show 1 - 1 - 0 = 0 from rfl, Nat.pow_zero, Nat.pow_one] at *
    omega
  · have q0 := hd 0 (by omega)
    have q1 := hd 1 (by omega)
    rw [digF_2]
    simp only [show (10 : Nat) ^ (2 - 1 - 0) = 10 from rfl, show (10 : Nat) ^ (2 - 1 - 1) = 1 from rfl, show (10 : Nat) ^ 2 = 100 from rfl, Nat.pow_zero, Nat.pow_one] at *
    omega
  · have q0 := hd 0 (by omega)
    have q1 := hd 1 (by omega)
    have q2 := hd 2 (by omega)
    rw [digF_3]
    simp only [show (10 : Nat) ^ (3 - 1 - 0) = 100 from rfl, show (10 : Nat) ^ (3 - 1 - 1) = 10 from rfl, show (10 : Nat) ^ (3 - 1 - 2) = 1 from rfl, show (10 : Nat) ^ 2 = 100 from rfl, show (10 : Nat) ^ 3 = 1000 from rfl, Nat.pow_zero, Nat.pow_one] at *
    omega
  · have q0 := hd 0 (by omega)
    have q1 := hd 1 (by omega)
    have q2 := hd 2 (by omega)
    have q3 := hd 3 (by omega)
    rw [digF_4]
    simp only [show (10 : Nat) ^ (4 - 1 - 0) = 1000 from rfl, show (10 : Nat) ^ (4 - 1 - 1) = 100 from rfl, show (10 : Nat) ^ (4 - 1 - 2) = 10 from rfl, show (10 : Nat) ^ (4 - 1 - 3) = 1 from rfl, show (10 : Nat) ^ 2 = 100 from rfl, show (10 : Nat) ^ 3 = 1000 from rfl, show (10 : Nat) ^ 4 = 10000 from rfl, Nat.pow_zero, Nat.pow_one] at *
    omega
theorem digF_inj {c c' : Nat → Nat} {l l' : Nat} (h1 : 1 ≤ l) (h2 : l ≤ 4) (h1' : 1 ≤ l') (h2' : l' ≤ 4) (hc : ∀ k, k < l → c k ≤ 3) (hc' : ∀ k, k < l' → c' k ≤ 3) (h : digF c l = digF c' l') : l = l' ∧ ∀ k, k < l → c k = c' k := by
  have lo : ∀ {c : Nat → Nat} {l : Nat}, 1 ≤ l → l ≤ 4 → 10 ^ (l - 1) ≤ digF c l := by
    intro c l h1 h2
    rcases one4 h1 h2 with rfl | rfl | rfl | rfl
    · rw [digF_1]; show 1 ≤ _; omega
    · rw [digF_2]; show 10 ≤ _; omega
    · rw [digF_3]; show 100 ≤ _; omega
    · rw [digF_4]; show 1000 ≤ _; omega
  have e : l = l' := by
    have a1 := lo (c := c) h1 h2
    have a2 := lo (c := c') h1' h2'
    have b1 := (digF_lt h1 h2 hc).2.1
    have b2 := (digF_lt h1' h2' hc').2.1
    by_cases x : l < l'
    · have : 10 ^ l ≤ 10 ^ (l' - 1) := Nat.pow_le_pow_right (by decide) (by omega)
      omega
    · by_cases y : l' < l
      · have : 10 ^ l' ≤ 10 ^ (l - 1) := Nat.pow_le_pow_right (by decide) (by omega)
        omega
      · omega
  subst e
  refine ⟨rfl, fun k hk => ?_⟩
  have q1 := digF_dig h2 hc hk
  have q2 := digF_dig h2 hc' hk
  rw [h] at q1
  omega
theorem codF_inj {c c' : Nat → Nat} : ∀ {l : Nat}, (∀ k, k < l → c k ≤ 3) → (∀ k, k < l → c' k ≤ 3) → codF c l = codF c' l → ∀ k, k < l → c k = c' k
  | 0, _, _, _ => fun k hk => absurd hk (Nat.not_lt_zero k)
  | n + 1, hc, hc', h => by
    have a := hc n (by omega)
    have b := hc' n (by omega)
    rw [codF, codF] at h
    have ih := codF_inj (l := n) (fun k hk => hc k (by omega)) (fun k hk => hc' k (by omega)) (by omega)
    intro k hk
    by_cases e : k = n
    · rw [e]; omega
    · exact ih k (by omega)
theorem clo_dig {κ : Nat → Nat} (h : wS κ) {j : Nat} (hj : j < κ 55) : digF (clo κ j) (κ (31 + j)) = κ (23 + j) := by
  obtain ⟨h1, h2, h3, h4, h5⟩ := h.2.1 j hj
  exact digF_of h1 h2 h4 h5
/-- four bytes of a row: so many cloths, then 0s -/
def vld (b : Nat → Nat) (l : Nat) : Prop := 1 ≤ l ∧ l ≤ 4 ∧ (∀ k, k < l → 1 ≤ b k ∧ b k ≤ 4) ∧ ∀ k, l ≤ k → k < 4 → b k = 0
abbrev b_1 (b : Nat → Nat) : Nat → Nat := fun k => b k - 1
theorem vld.one {b : Nat → Nat} {l l' : Nat} (h : vld b l) (h' : vld b l') : l = l' := by
  obtain ⟨a1, a2, a3, a4⟩ := h
  obtain ⟨c1, c2, c3, c4⟩ := h'
  by_cases x : l < l'
  · have := c3 l x
    have := a4 l (by omega) (by omega)
    omega
  · by_cases y : l' < l
    · have := a3 l' y
      have := c4 l' (by omega) (by omega)
      omega
    · omega
theorem vld.le {b : Nat → Nat} {l : Nat} (h : vld b l) {k : Nat} (hk : k < l) : b_1 b k ≤ 3 := by
  have := h.2.2.1 k hk
  show b k - 1 ≤ 3
  omega
def tkn (κ b : Nat → Nat) (l : Nat) : Prop := ∃ j, j < κ 55 ∧ κ (31 + j) = l ∧ codF (clo κ j) l = codF (b_1 b) l
def tkD (κ : Nat → Nat) (N : Nat) : Prop := ∃ j, j < κ 55 ∧ κ (23 + j) = N
theorem tkn_D {κ b : Nat → Nat} {l : Nat} (hw : wS κ) (hb : vld b l) : tkn κ b l ↔ tkD κ (digF (b_1 b) l) := by
  constructor
  · rintro ⟨j, hj, e1, e2⟩
    refine ⟨j, hj, ?_⟩
    have hc : ∀ k, k < l → clo κ j k ≤ 3 := fun k hk => clo_le hw hj (by omega)
    have := codF_inj hc (fun k hk => hb.le hk) e2
    rw [← clo_dig hw hj, e1]
    exact digF_cg this
  · rintro ⟨j, hj, e⟩
    obtain ⟨h1, h2, -⟩ := hw.2.1 j hj
    rw [← clo_dig hw hj] at e
    obtain ⟨e1, e2⟩ := digF_inj h1 h2 hb.1 hb.2.1 (fun k hk => clo_le hw hj hk) (fun k hk => hb.le hk) e
    refine ⟨j, hj, e1, ?_⟩
    rw [← e1]
    exact codF_cg e2
/-- the class takes a sign in -/
theorem c_enter {X : mm_X} {d : Nat} {f : Nat → Int32} {fl : Nat → Int64} {g : Nat → Nat → Int32} {gl : Nat → Nat → Int64} {hh : Nat → Nat → Option Nat} {v : Nat → Value} {tx : mm_W} {P : Option Value → mm_W → Prop} {κ : Nat → Nat} (hwS : wS κ) (hxS : xS (f 64) (g 2) (g 3) (g 4) κ) {r : Int32} {b : Nat → Nat} (hb : ∀ k, k < 4 → b k < 256) (hr : ∀ k, k < 4 → tb r k = b k) {mn : Int} (hmn : -2147483648 ≤ mn ∧ mn < 2147483648)
    (h1 : (¬ (0 ≤ mn ∧ mn ≤ 5) ∨ ∀ l, ¬ vld b l) → P (some (.int (iI (-1)))) (Wd f fl g gl hh v tx))
    (h2 : ∀ l, vld b l → 0 ≤ mn → mn ≤ 5 → tkn κ b l → P (some (.int (iI (-3)))) (Wd f fl g gl hh v tx))
    (h3 : ∀ l, vld b l → 0 ≤ mn → mn ≤ 5 → ¬ tkn κ b l → κ 55 = 8 → P (some (.int (iI (-5)))) (Wd f fl g gl hh v tx))
    (h4 : ∀ l, vld b l → 0 ≤ mn → mn ≤ 5 → ¬ tkn κ b l → κ 55 < 8 → P (some (.int (iI (κ 55)))) (Wd (va_up f 64 (iI ((κ 55 + 1 : Nat) : Int))) fl (va_up (va_up (va_up g 2 (upd (g 2) (κ 55) (iI (codF (b_1 b) l)))) 3 (upd (g 3) (κ 55) (iI l))) 4 (upd (g 4) (κ 55) (iI mn))) gl hh v tx)) : WP X (d + 1) 47 (0, [some (.ref 1), some (.int (iI mn)), some (.int r), none, none, none, none], [], Wd f fl g gl hh v tx) P := by
  have b55 := hwS.1
  refine b_yst_enter_1_0 (h := ?_) ..
  -- the signs that stand
  have two : ∀ l, vld b l → 0 ≤ mn → mn ≤ 5 → ∀ j, j ≤ κ 55 → (∀ i, i < j → ¬ (κ (31 + i) = l ∧ codF (clo κ i) l = codF (b_1 b) l)) → WP X (d + 1) 47 (92, [some (.ref 1), some (.int (iI mn)), none, some (.int (iI l)), some (.int (iI (codF (b_1 b) l))), some (.int (iI j)), none], [], Wd f fl g gl hh v tx) P := by
    intro l hv m1 m2
    have hl2 := hv.2.1
    have hcod := codF_lt (c := b_1 b) (n := l) fun k hk => hv.le hk
    have hc4 : (4 : Nat) ^ l ≤ 4 ^ 4 := Nat.pow_le_pow_right (by decide) hl2
    apply k_up (Q := fun j => (∀ i, i < j → ¬ (κ (31 + i) = l ∧ codF (clo κ i) l = codF (b_1 b) l)) → WP X (d + 1) 47 (92, [some (.ref 1), some (.int (iI mn)), none, some (.int (iI l)), some (.int (iI (codF (b_1 b) l))), some (.int (iI j)), none], [], Wd f fl g gl hh v tx) P)
    · intro hn
      have hnt : ¬ tkn κ b l := fun ⟨j, hj, e⟩ => hn j hj e
      refine b_yst_enter_1_92 (h := ?_) ..
      simp (disch := omega) only [z_lit, z_litl, z_neg, z_negl, z_add, z_sub, z_mul, z_addl, z_subl, z_mull, z_cc, z_cl, z_cr, z_cm, z_cml, z_cmr, z_lt, z_le, z_eq, z_ltl, z_lel, z_eql, z_nat, z_i2l, z_l2i, z_div, z_sh, Int.toNat_natCast, z_ts, z_tsl, hxS.1]
      refine ⟨fun _ => ⟨fun c => ⟨by omega, by omega, by omega, ?_⟩, fun c => h3 l hv m1 m2 hnt (by omega)⟩, fun c => by omega⟩
      have := h4 l hv m1 m2 hnt (by omega)
      rw [show (((κ 55 + 1 : Nat) : Int) - 1) = (κ 55 : Int) by omega]
      exact this
    · intro i hi ih hn
      obtain ⟨s1, s2, -⟩ := hwS.2.1 i hi
      obtain ⟨x1, x2, x3⟩ := hxS.2 i hi
      have hcod2 := codF_lt (c := clo κ i) (n := κ (31 + i)) fun k hk => clo_le hwS hi hk
      have hc5 : (4 : Nat) ^ κ (31 + i) ≤ 4 ^ 4 := Nat.pow_le_pow_right (by decide) s2
      refine b_yst_enter_1_92 (h := ?_) ..
      simp (disch := omega) only [z_lit, z_litl, z_neg, z_negl, z_add, z_sub, z_mul, z_addl, z_subl, z_mull, z_cc, z_cl, z_cr, z_cm, z_cml, z_cmr, z_lt, z_le, z_eq, z_ltl, z_lel, z_eql, z_nat, z_i2l, z_l2i, z_div, z_sh, Int.toNat_natCast, z_ts, z_tsl, hxS.1, x1, x2]
      have next : ¬ (κ (31 + i) = l ∧ codF (clo κ i) l = codF (b_1 b) l) → WP X (d + 1) 47 (92, [some (.ref 1), some (.int (iI mn)), none, some (.int (iI l)), some (.int (iI (codF (b_1 b) l))), some (.int (iI ((i + 1 : Nat) : Int))), none], [], Wd f fl g gl hh v tx) P := by
        intro hne
        refine ih fun q hq => ?_
        by_cases e : q = i
        · rw [e]; exact hne
        · exact hn q (by omega)
      refine ⟨fun c => by omega, fun _ => ⟨by omega, fun c => next (by omega), fun c => ⟨by omega, fun c2 => next ?_, fun c2 => ?_⟩⟩⟩
      · rintro ⟨q1, q2⟩
        rw [q1] at c2
        omega
      · have e : κ (31 + i) = l := by omega
        rw [e] at c2
        exact h2 l hv m1 m2 ⟨i, hi, e, by omega⟩
  have one : ∀ k, k ≤ 4 → ∀ s, s ≤ k → (∀ i, i < s → 1 ≤ b i ∧ b i ≤ 4) → (∀ i, s ≤ i → i < k → b i = 0) → WP X (d + 1) 47 (8, [some (.ref 1), some (.int (iI mn)), some (.int r), some (.int (iI s)), some (.int (iI (codF (b_1 b) s))), some (.int (iI k)), none], [], Wd f fl g gl hh v tx) P := by
    apply k_up (Q := fun k => ∀ s, s ≤ k → (∀ i, i < s → 1 ≤ b i ∧ b i ≤ 4) → (∀ i, s ≤ i → i < k → b i = 0) → WP X (d + 1) 47 (8, [some (.ref 1), some (.int (iI mn)), some (.int r), some (.int (iI s)), some (.int (iI (codF (b_1 b) s))), some (.int (iI k)), none], [], Wd f fl g gl hh v tx) P)
    · intro s hs q1 q2
      refine b_yst_enter_1_8 (h := ?_) ..
      refine ⟨fun _ => ⟨fun c => ?_, fun c => ⟨fun c2 => ?_, fun c2 => ?_⟩⟩, fun c => absurd (Int32.le_refl _) c⟩
      · simp (disch := omega) only [z_lit, z_litl, z_neg, z_negl, z_add, z_sub, z_mul, z_addl, z_subl, z_mull, z_cc, z_cl, z_cr, z_cm, z_cml, z_cmr, z_lt, z_le, z_eq, z_ltl, z_lel, z_eql, z_nat, z_i2l, z_l2i, z_div, z_sh, Int.toNat_natCast, z_ts, z_tsl] at c
        refine h1 (Or.inr fun l hv => ?_)
        have := hv.2.2.1 0 hv.1
        have := q2 0 (by omega) (by omega)
        omega
      · simp (disch := omega) only [z_lit, z_litl, z_neg, z_negl, z_add, z_sub, z_mul, z_addl, z_subl, z_mull, z_cc, z_cl, z_cr, z_cm, z_cml, z_cmr, z_lt, z_le, z_eq, z_ltl, z_lel, z_eql, z_nat, z_i2l, z_l2i, z_div, z_sh, Int.toNat_natCast, z_ts, z_tsl] at c2
        simp (disch := omega) only [z_lit, z_litl, z_neg, z_negl, z_add, z_sub, z_mul, z_addl, z_subl, z_mull, z_cc, z_cl, z_cr, z_cm, z_cml, z_cmr, z_lt, z_le, z_eq, z_ltl, z_lel, z_eql, z_nat, z_i2l, z_l2i, z_div, z_sh, Int.toNat_natCast, z_ts, z_tsl] at c
        exact two s ⟨by omega, hs, q1, q2⟩ (by omega) (by omega) 0 (Nat.zero_le _) fun i hi => absurd hi (Nat.not_lt_zero i)
      · simp (disch := omega) only [z_lit, z_litl, z_neg, z_negl, z_add, z_sub, z_mul, z_addl, z_subl, z_mull, z_cc, z_cl, z_cr, z_cm, z_cml, z_cmr, z_lt, z_le, z_eq, z_ltl, z_lel, z_eql, z_nat, z_i2l, z_l2i, z_div, z_sh, Int.toNat_natCast, z_ts, z_tsl] at c2
        exact h1 (Or.inl (by omega))
    · intro k hk ih s hs q1 q2
      have ed : ((r >>> (((24 : Int32) - ((8 : Int32) * iI k)) &&& (31 : Int32))) : Int32) &&& (255 : Int32) = iI (b k) := by
        rw [show (24 : Int32) = iI 24 from rfl, show (8 : Int32) = iI 8 from rfl, show (31 : Int32) = iI 31 from rfl, show (255 : Int32) = iI 255 from rfl, z_mul, z_sub, z_sh (by omega), byt_and, ← hr k hk]
        rfl
      have hbk := hb k hk
      have hcs := codF_lt (c := b_1 b) (n := s) fun i hi => by
        have := q1 i hi
        show b i - 1 ≤ 3
        omega
      have hc4 : (4 : Nat) ^ s ≤ 4 ^ 4 := Nat.pow_le_pow_right (by decide) (by omega)
      refine b_yst_enter_1_8 (h := ?_) ..
      rw [ed]
      simp (disch := omega) only [z_lit, z_litl, z_neg, z_negl, z_add, z_sub, z_mul, z_addl, z_subl, z_mull, z_cc, z_cl, z_cr, z_cm, z_cml, z_cmr, z_lt, z_le, z_eq, z_ltl, z_lel, z_eql, z_nat, z_i2l, z_l2i, z_div, z_sh, Int.toNat_natCast, z_ts, z_tsl]
      have z49 : b k = 0 → WP X (d + 1) 47 (49, [some (.ref 1), some (.int (iI mn)), some (.int r), some (.int (iI s)), some (.int (iI (codF (b_1 b) s))), some (.int (iI k)), some (.int (iI (b k)))], [], Wd f fl g gl hh v tx) P := by
        intro hz
        refine b_yst_enter_1_49 (h := ?_) ..
        simp (disch := omega) only [z_lit, z_litl, z_neg, z_negl, z_add, z_sub, z_mul, z_addl, z_subl, z_mull, z_cc, z_cl, z_cr, z_cm, z_cml, z_cmr, z_lt, z_le, z_eq, z_ltl, z_lel, z_eql, z_nat, z_i2l, z_l2i, z_div, z_sh, Int.toNat_natCast, z_ts, z_tsl]
        refine ⟨fun _ => ih s (by omega) q1 fun i i1 i2 => ?_, fun c => by omega⟩
        by_cases e : i = k
        · rw [e]; exact hz
        · exact q2 i i1 (by omega)
      refine ⟨fun c => by omega, fun _ => ⟨fun c => h1 (Or.inr fun l hv => ?_), fun c => ⟨fun c2 => z49 (by omega), fun c2 => ⟨fun c3 => ?_, fun c3 => h1 (Or.inr fun l hv => ?_)⟩⟩⟩⟩
      · by_cases x : k < l
        · have := hv.2.2.1 k x; omega
        · have := hv.2.2.2 k (by omega) (by omega); omega
      · have e : s = k := by omega
        subst e
        refine b_yst_enter_1_49 (h := ?_) ..
        simp (disch := omega) only [z_lit, z_litl, z_neg, z_negl, z_add, z_sub, z_mul, z_addl, z_subl, z_mull, z_cc, z_cl, z_cr, z_cm, z_cml, z_cmr, z_lt, z_le, z_eq, z_ltl, z_lel, z_eql, z_nat, z_i2l, z_l2i, z_div, z_sh, Int.toNat_natCast, z_ts, z_tsl]
        refine ⟨fun c => by omega, fun _ => ?_⟩
        have := ih (s + 1) (by omega) (fun i hi => by
          by_cases e : i = s
          · rw [e]; omega
          · exact q1 i (by omega)) fun i i1 i2 => by omega
        rw [codF] at this
        rw [show (((4 * codF (b_1 b) s + b s : Nat) : Int) - 1) = ((4 * codF (b_1 b) s + b_1 b s : Nat) : Int) by
          show (((4 * codF (b_1 b) s + b s : Nat) : Int) - 1) = ((4 * codF (b_1 b) s + (b s - 1) : Nat) : Int)
          omega]
        exact this
      · have z0 := q2 s (Nat.le_refl _) (by omega)
        by_cases x : k < l
        · have := hv.2.2.1 s (by omega); omega
        · have := hv.2.2.2 k (by omega) (by omega); omega
  exact one 0 (by omega) 0 (Nat.le_refl _) (fun i hi => absurd hi (Nat.not_lt_zero i)) fun i _ hi => absurd hi (Nat.not_lt_zero i)
/-- a sign more -/
def addS (κ : Nat → Nat) (N l mn : Nat) : Nat → Nat := va_up (va_up (va_up (va_up κ (23 + κ 55) N) (31 + κ 55) l) (39 + κ 55) mn) 55 (κ 55 + 1)
theorem addS_55 {κ : Nat → Nat} {N l mn : Nat} : addS κ N l mn 55 = κ 55 + 1 := va_s
theorem addS_o {κ : Nat → Nat} {N l mn i : Nat} (h0 : i ≠ 55) (h1 : i ≠ 23 + κ 55) (h2 : i ≠ 31 + κ 55) (h3 : i ≠ 39 + κ 55) : addS κ N l mn i = κ i := by
  rw [addS, va_ne h0, va_ne h3, va_ne h2, va_ne h1]
theorem addS_23 {κ : Nat → Nat} {N l mn : Nat} (h : κ 55 < 8) : addS κ N l mn (23 + κ 55) = N := by
  rw [addS, va_ne (by omega), va_ne (by omega), va_ne (by omega), va_s]
theorem addS_31 {κ : Nat → Nat} {N l mn : Nat} (h : κ 55 < 8) : addS κ N l mn (31 + κ 55) = l := by
  rw [addS, va_ne (by omega), va_ne (by omega), va_s]
theorem addS_39 {κ : Nat → Nat} {N l mn : Nat} (h : κ 55 < 8) : addS κ N l mn (39 + κ 55) = mn := by
  rw [addS, va_ne (by omega), va_s]
theorem addS_w {κ c : Nat → Nat} {l mn : Nat} (hw : wS κ) (h8 : κ 55 < 8) (h1 : 1 ≤ l) (h2 : l ≤ 4) (hc : ∀ k, k < l → c k ≤ 3) (hmn : mn ≤ 5) (hn : ¬ tkD κ (digF c l)) : wS (addS κ (digF c l) l mn) := by
  have hlt := digF_lt h1 h2 hc
  refine ⟨by rw [addS_55]; omega, fun j hj => ?_, fun i j hi hj => ?_⟩
  · rw [addS_55] at hj
    by_cases e : j = κ 55
    · subst e
      rw [addS_23 h8, addS_31 h8, addS_39 h8]
      refine ⟨h1, h2, hmn, hlt.2.1, fun k hk => ?_⟩
      have q := digF_dig h2 hc (k := l - 1 - k) (by omega)
      have := hc (l - 1 - k) (by omega)
      rw [show l - 1 - (l - 1 - k) = k by omega] at q
      omega
    · rw [addS_o (by omega) (by omega) (by omega) (by omega), addS_o (by omega) (by omega) (by omega) (by omega), addS_o (by omega) (by omega) (by omega) (by omega)]
      exact hw.2.1 j (by omega)
  · rw [addS_55] at hi hj
    by_cases e : i = κ 55
    · by_cases e2 : j = κ 55
      · omega
      · rw [e, addS_23 h8, addS_o (by omega) (by omega) (by omega) (by omega)]
        exact fun h => absurd ⟨j, by omega, h.symm⟩ hn
    · by_cases e2 : j = κ 55
      · rw [e2, addS_23 h8, addS_o (by omega) (by omega) (by omega) (by omega)]
        exact fun h => absurd ⟨i, by omega, h⟩ hn
      · rw [addS_o (by omega) (by omega) (by omega) (by omega), addS_o (by omega) (by omega) (by omega) (by omega)]
        exact hw.2.2 i j (by omega) (by omega)
theorem addS_x {κ c : Nat → Nat} {l mn : Nat} {n : Int32} {ro lo me : Nat → Int32} (hx : xS n ro lo me κ) (h8 : κ 55 < 8) (h2 : l ≤ 4) (hc : ∀ k, k < l → c k ≤ 3) : xS (iI ((κ 55 + 1 : Nat) : Int)) (upd ro (κ 55) (iI (codF c l))) (upd lo (κ 55) (iI l)) (upd me (κ 55) (iI mn)) (addS κ (digF c l) l mn) := by
  refine ⟨by rw [addS_55], fun j hj => ?_⟩
  rw [addS_55] at hj
  by_cases e : j = κ 55
  · subst e
    rw [upd_s, upd_s, upd_s, addS_31 h8, addS_39 h8]
    refine ⟨?_, rfl, rfl⟩
    congr 2
    refine (codF_cg fun k hk => ?_).symm
    rw [clo, addS_23 h8, addS_31 h8, digF_dig h2 hc hk]
    omega
  · rw [upd_ne e, upd_ne e, upd_ne e, clo_cg (κ := κ) (addS_o (by omega) (by omega) (by omega) (by omega)) (addS_o (by omega) (by omega) (by omega) (by omega)), addS_o (i := 31 + j) (by omega) (by omega) (by omega) (by omega), addS_o (i := 39 + j) (by omega) (by omega) (by omega) (by omega)]
    exact hx.2 j (by omega)
/-- the reference: digits -/
def isR (z : Int) : Prop := ∃ (l : Nat) (c : Nat → Nat), 1 ≤ l ∧ l ≤ 4 ∧ (∀ k, k < l → c k ≤ 3) ∧ z = (digF c l : Int)
theorem c_m_longOf {X : mm_X} {d : Nat} {f : Nat → Int32} {fl : Nat → Int64} {g : Nat → Nat → Int32} {gl : Nat → Nat → Int64} {hh : Nat → Nat → Option Nat} {v : Nat → Value} {tx : mm_W} {P : Option Value → mm_W → Prop} {z : Int} (hz : -2147483648 ≤ z ∧ z < 2147483648) (h1 : ∀ (l : Nat) (c : Nat → Nat), 1 ≤ l → l ≤ 4 → (∀ k, k < l → c k ≤ 3) → z = (digF c l : Int) → P (some (.int (iI l))) (Wd f fl g gl hh v tx)) (h2 : ¬ isR z → P (some (.int (iI (-1)))) (Wd f fl g gl hh v tx)) : WP X (d + 1) 133 (0, [some (.int (iI z)), none, none, none], [], Wd f fl g gl hh v tx) P := by
  by_cases c0 : z ≤ 0
  · have hn : ¬ isR z := by
      rintro ⟨l, c, q1, q2, q3, q4⟩
      have := digF_lt q1 q2 q3
      omega
    refine b_m_longOf_0 (h := ?_) ..
    simp (disch := omega) only [z_lit, z_litl, z_neg, z_negl, z_add, z_sub, z_mul, z_addl, z_subl, z_mull, z_cc, z_cl, z_cr, z_cm, z_cml, z_cmr, z_lt, z_le, z_eq, z_ltl, z_lel, z_eql, z_nat, z_i2l, z_l2i, z_div, z_sh, Int.toNat_natCast, z_ts, z_tsl]
    refine ⟨fun _ => ?_, fun c => by omega⟩
    refine b_m_longOf_14 (h := ?_) ..
    simp (disch := omega) only [z_lit, z_litl, z_neg, z_negl, z_add, z_sub, z_mul, z_addl, z_subl, z_mull, z_cc, z_cl, z_cr, z_cm, z_cml, z_cmr, z_lt, z_le, z_eq, z_ltl, z_lel, z_eql, z_nat, z_i2l, z_l2i, z_div, z_sh, Int.toNat_natCast, z_ts, z_tsl]
    repeat (first | refine ⟨fun c9 => by omega, fun _ => ?_⟩ | refine ⟨fun _ => ?_, fun c9 => by omega⟩ | refine ⟨by omega, ?_⟩ | refine ⟨fun c9 => absurd trivial c9, fun _ => ?_⟩ | refine ⟨fun _ => ?_, fun c9 => absurd trivial c9⟩)
    exact h2 hn
  · obtain ⟨N, rfl⟩ : ∃ N : Nat, z = N := ⟨z.toNat, by omega⟩
    have key : ∀ r i : Nat, i + r = 10 → (∀ j : Nat, j < i → N / 10 ^ j ≠ 0) →
        ((∀ j : Nat, j < i → 1 ≤ N / 10 ^ j % 10 ∧ N / 10 ^ j % 10 ≤ 4) → WP X (d + 1) 133 (14, [none, some (.int (iI i)), some (.int (iI 1)), some (.int (iI ((N / 10 ^ i : Nat) : Int)))], [], Wd f fl g gl hh v tx) P) ∧
        ((¬ ∀ j : Nat, j < i → 1 ≤ N / 10 ^ j % 10 ∧ N / 10 ^ j % 10 ≤ 4) → WP X (d + 1) 133 (14, [none, some (.int (iI i)), some (.int (iI 0)), some (.int (iI ((N / 10 ^ i : Nat) : Int)))], [], Wd f fl g gl hh v tx) P) := by
      have dg : ∀ (l : Nat) (c : Nat → Nat), l ≤ 4 → (∀ k, k < l → c k ≤ 3) → (N : Int) = (digF c l : Int) → ∀ j : Nat, j < l → N / 10 ^ j % 10 = c (l - 1 - j) + 1 := by
        intro l c q2 q3 q4 j hj
        have q := digF_dig q2 q3 (k := l - 1 - j) (by omega)
        rw [show l - 1 - (l - 1 - j) = j by omega] at q
        rw [show N = digF c l by omega]
        exact q
      intro r
      induction r with
      | zero =>
        intro i hi hp
        have h9 := hp 9 (by omega)
        have : i = 10 := by omega
        subst this
        have e : N / 10 ^ 10 = 0 := Nat.div_eq_of_lt (by omega)
        have hn : ¬ isR N := by
          rintro ⟨l, c, q1, q2, q3, q4⟩
          have := digF_lt q1 q2 q3
          have : N / 10 ^ 9 = 0 := Nat.div_eq_of_lt (by omega)
          exact h9 this
        rw [e]
        refine ⟨fun _ => ?_, fun _ => ?_⟩
        · refine b_m_longOf_14 (h := ?_) ..
          simp (disch := omega) only [z_lit, z_litl, z_neg, z_negl, z_add, z_sub, z_mul, z_addl, z_subl, z_mull, z_cc, z_cl, z_cr, z_cm, z_cml, z_cmr, z_lt, z_le, z_eq, z_ltl, z_lel, z_eql, z_nat, z_i2l, z_l2i, z_div, z_sh, Int.toNat_natCast, z_ts, z_tsl]
          repeat (first | refine ⟨fun c9 => by omega, fun _ => ?_⟩ | refine ⟨fun _ => ?_, fun c9 => by omega⟩ | refine ⟨by omega, ?_⟩ | refine ⟨fun c9 => absurd trivial c9, fun _ => ?_⟩ | refine ⟨fun _ => ?_, fun c9 => absurd trivial c9⟩)
          exact h2 hn
        · refine b_m_longOf_14 (h := ?_) ..
          simp (disch := omega) only [z_lit, z_litl, z_neg, z_negl, z_add, z_sub, z_mul, z_addl, z_subl, z_mull, z_cc, z_cl, z_cr, z_cm, z_cml, z_cmr, z_lt, z_le, z_eq, z_ltl, z_lel, z_eql, z_nat, z_i2l, z_l2i, z_div, z_sh, Int.toNat_natCast, z_ts, z_tsl]
          repeat (first | refine ⟨fun c9 => by omega, fun _ => ?_⟩ | refine ⟨fun _ => ?_, fun c9 => by omega⟩ | refine ⟨by omega, ?_⟩ | refine ⟨fun c9 => absurd trivial c9, fun _ => ?_⟩ | refine ⟨fun _ => ?_, fun c9 => absurd trivial c9⟩)
          exact h2 hn
      | succ r ih =>
        intro i hi hp
        by_cases ez : N / 10 ^ i = 0
        · rw [ez]
          have hle : ∀ (l : Nat), N < 10 ^ l → i ≤ l := by
            intro l hl
            by_cases x : l < i
            · have := hp l x
              rw [Nat.div_eq_of_lt hl] at this
              omega
            · omega
          refine ⟨fun hd => ?_, fun hd => ?_⟩
          · refine b_m_longOf_14 (h := ?_) ..
            simp (disch := omega) only [z_lit, z_litl, z_neg, z_negl, z_add, z_sub, z_mul, z_addl, z_subl, z_mull, z_cc, z_cl, z_cr, z_cm, z_cml, z_cmr, z_lt, z_le, z_eq, z_ltl, z_lel, z_eql, z_nat, z_i2l, z_l2i, z_div, z_sh, Int.toNat_natCast, z_ts, z_tsl]
            refine ⟨fun _ => ⟨fun c => by omega, fun _ => ⟨fun c => h2 ?_, fun c => ?_⟩⟩, fun c => by omega⟩
            · rintro ⟨l, cc, q1, q2, q3, q4⟩
              have := digF_lt q1 q2 q3
              have := hle l (by omega)
              omega
            · have hN : N < 10 ^ i := by
                by_cases x : N < 10 ^ i
                · exact x
                · have := Nat.div_pos (by omega : 10 ^ i ≤ N) (Nat.pow_pos (by decide)); omega
              have i1 : 1 ≤ i := by
                by_cases x : i = 0
                · rw [x, Nat.pow_zero] at hN; omega
                · omega
              exact h1 i _ i1 (by omega) (fun k hk => by
                have := hd (i - 1 - k) (by omega)
                show N / 10 ^ (i - 1 - k) % 10 - 1 ≤ 3
                omega) (by rw [digF_of i1 (by omega) hN hd])
          · refine b_m_longOf_14 (h := ?_) ..
            simp (disch := omega) only [z_lit, z_litl, z_neg, z_negl, z_add, z_sub, z_mul, z_addl, z_subl, z_mull, z_cc, z_cl, z_cr, z_cm, z_cml, z_cmr, z_lt, z_le, z_eq, z_ltl, z_lel, z_eql, z_nat, z_i2l, z_l2i, z_div, z_sh, Int.toNat_natCast, z_ts, z_tsl]
            repeat (first | refine ⟨fun c9 => by omega, fun _ => ?_⟩ | refine ⟨fun _ => ?_, fun c9 => by omega⟩ | refine ⟨by omega, ?_⟩ | refine ⟨fun c9 => absurd trivial c9, fun _ => ?_⟩ | refine ⟨fun _ => ?_, fun c9 => absurd trivial c9⟩)
            refine h2 ?_
            rintro ⟨l, cc, q1, q2, q3, q4⟩
            have := digF_lt q1 q2 q3
            have := hle l (by omega)
            refine hd fun j hj => ?_
            have q := dg l cc q2 q3 q4 j (by omega)
            have := q3 (l - 1 - j) (by omega)
            omega
        · obtain ⟨g1, g2⟩ := ih (i + 1) (by omega) fun j hj => by
            by_cases e : j = i
            · rw [e]; exact ez
            · exact hp j (by omega)
          obtain ⟨x, hx⟩ : ∃ x, x = N / 10 ^ i := ⟨_, rfl⟩
          have hx2 : x ≤ N := by rw [hx]; exact Nat.div_le_self _ _
          rw [Nat.pow_succ, ← Nat.div_div_eq_div_mul] at g1 g2
          rw [← hx] at g1 g2 ez ⊢
          have es : ∀ (Q : Nat → Prop), (∀ j, j < i → Q j) → Q i → ∀ j, j < i + 1 → Q j := by
            intro Q a b j hj
            by_cases e : j = i
            · rw [e]; exact b
            · exact a j (by omega)
          have e10 : (x : Int) / 10 = ((x / 10 : Nat) : Int) := by omega
          refine ⟨fun hd => ?_, fun hd => ?_⟩
          · refine b_m_longOf_14 (h := ?_) ..
            simp (disch := omega) only [z_lit, z_litl, z_neg, z_negl, z_add, z_sub, z_mul, z_addl, z_subl, z_mull, z_cc, z_cl, z_cr, z_cm, z_cml, z_cmr, z_lt, z_le, z_eq, z_ltl, z_lel, z_eql, z_nat, z_i2l, z_l2i, z_div, z_sh, Int.toNat_natCast, z_ts, z_tsl, e10]
            refine ⟨fun c => by omega, fun _ => ⟨fun c => by omega, fun _ => ⟨fun c => g1 (es _ hd ?_), fun c => g2 fun h => ?_⟩⟩⟩
            · rw [← hx]; omega
            · have := h i (by omega)
              rw [← hx] at this
              omega
          · refine b_m_longOf_14 (h := ?_) ..
            simp (disch := omega) only [z_lit, z_litl, z_neg, z_negl, z_add, z_sub, z_mul, z_addl, z_subl, z_mull, z_cc, z_cl, z_cr, z_cm, z_cml, z_cmr, z_lt, z_le, z_eq, z_ltl, z_lel, z_eql, z_nat, z_i2l, z_l2i, z_div, z_sh, Int.toNat_natCast, z_ts, z_tsl, e10]
            refine ⟨fun c => by omega, fun _ => ⟨fun _ => g2 fun h => hd fun j hj => h j (by omega), fun c => absurd trivial c⟩⟩
    have := (key 10 0 (by omega) fun j hj => absurd hj (Nat.not_lt_zero j)).1 fun j hj => absurd hj (Nat.not_lt_zero j)
    refine b_m_longOf_0 (h := ?_) ..
    simp (disch := omega) only [z_lit, z_litl, z_neg, z_negl, z_add, z_sub, z_mul, z_addl, z_subl, z_mull, z_cc, z_cl, z_cr, z_cm, z_cml, z_cmr, z_lt, z_le, z_eq, z_ltl, z_lel, z_eql, z_nat, z_i2l, z_l2i, z_div, z_sh, Int.toNat_natCast, z_ts, z_tsl]
    refine ⟨fun c => by omega, fun _ => ?_⟩
    rw [Nat.pow_zero, Nat.div_one] at this
    exact this
theorem c_m_isTaken {X : mm_X} {d : Nat} {f : Nat → Int32} {fl : Nat → Int64} {g : Nat → Nat → Int32} {gl : Nat → Nat → Int64} {hh : Nat → Nat → Option Nat} {v : Nat → Value} {tx : mm_W} {P : Option Value → mm_W → Prop} {κ : Nat → Nat} (hm : ms (g 76) κ) (hwS : wS κ) (hwB : wB κ) {N : Nat} (hN : N < 2147483648) (h1 : tkD κ N → P (some (.int (iI 1))) (Wd f fl g gl hh v tx)) (h0 : ¬ tkD κ N → P (some (.int (iI 0))) (Wd f fl g gl hh v tx)) : WP X (d + 1) 135 (0, [some (.ref 74), some (.int (iI N)), none, none], [], Wd f fl g gl hh v tx) P := by
  have b55 := hwS.1
  have e55 := hm.1 55 (by decide)
  refine b_m_isTaken_0 (h := ?_) ..
  have key : ∀ j, j ≤ κ 55 → ((∃ i, i < j ∧ κ (23 + i) = N) → WP X (d + 1) 135 (4, [some (.ref 74), some (.int (iI N)), some (.int (iI 1)), some (.int (iI j))], [], Wd f fl g gl hh v tx) P) ∧ ((¬ ∃ i, i < j ∧ κ (23 + i) = N) → WP X (d + 1) 135 (4, [some (.ref 74), some (.int (iI N)), some (.int (iI 0)), some (.int (iI j))], [], Wd f fl g gl hh v tx) P) := by
    apply k_up (Q := fun j => ((∃ i, i < j ∧ κ (23 + i) = N) → WP X (d + 1) 135 (4, [some (.ref 74), some (.int (iI N)), some (.int (iI 1)), some (.int (iI j))], [], Wd f fl g gl hh v tx) P) ∧ ((¬ ∃ i, i < j ∧ κ (23 + i) = N) → WP X (d + 1) 135 (4, [some (.ref 74), some (.int (iI N)), some (.int (iI 0)), some (.int (iI j))], [], Wd f fl g gl hh v tx) P))
    · refine ⟨fun h => ?_, fun h => ?_⟩
      · refine b_m_isTaken_4 (h := ?_) ..
        simp (disch := omega) only [z_lit, z_litl, z_neg, z_negl, z_add, z_sub, z_mul, z_addl, z_subl, z_mull, z_cc, z_cl, z_cr, z_cm, z_cml, z_cmr, z_lt, z_le, z_eq, z_ltl, z_lel, z_eql, z_nat, z_i2l, z_l2i, z_div, z_sh, Int.toNat_natCast, z_ts, z_tsl, e55]
        exact ⟨fun _ => ⟨by first | omega | exact Or.inr trivial | exact Or.inl trivial | exact Or.inr rfl | exact Or.inl rfl, h1 h⟩, fun c => by omega⟩
      · refine b_m_isTaken_4 (h := ?_) ..
        simp (disch := omega) only [z_lit, z_litl, z_neg, z_negl, z_add, z_sub, z_mul, z_addl, z_subl, z_mull, z_cc, z_cl, z_cr, z_cm, z_cml, z_cmr, z_lt, z_le, z_eq, z_ltl, z_lel, z_eql, z_nat, z_i2l, z_l2i, z_div, z_sh, Int.toNat_natCast, z_ts, z_tsl, e55]
        exact ⟨fun _ => ⟨by first | omega | exact Or.inr trivial | exact Or.inl trivial | exact Or.inr rfl | exact Or.inl rfl, h0 h⟩, fun c => by omega⟩
    · intro j hj ih
      have e23 := hm.1 (23 + j) (by omega)
      have hB := hwB (23 + j)
      refine ⟨fun h => ?_, fun h => ?_⟩
      · have n1 := ih.1 (by obtain ⟨i, hi, e⟩ := h; exact ⟨i, by omega, e⟩)
        refine b_m_isTaken_4 (h := ?_) ..
        simp (disch := omega) only [z_lit, z_litl, z_neg, z_negl, z_add, z_sub, z_mul, z_addl, z_subl, z_mull, z_cc, z_cl, z_cr, z_cm, z_cml, z_cmr, z_lt, z_le, z_eq, z_ltl, z_lel, z_eql, z_nat, z_i2l, z_l2i, z_div, z_sh, Int.toNat_natCast, z_ts, z_tsl, e55]
        exact ⟨fun c => by omega, fun _ => ⟨fun _ => n1, fun c => by omega⟩⟩
      · refine b_m_isTaken_4 (h := ?_) ..
        simp (disch := omega) only [z_lit, z_litl, z_neg, z_negl, z_add, z_sub, z_mul, z_addl, z_subl, z_mull, z_cc, z_cl, z_cr, z_cm, z_cml, z_cmr, z_lt, z_le, z_eq, z_ltl, z_lel, z_eql, z_nat, z_i2l, z_l2i, z_div, z_sh, Int.toNat_natCast, z_ts, z_tsl, e55, e23]
        refine ⟨fun c => by omega, fun _ => ⟨fun c => absurd trivial c, fun _ => ⟨by omega, fun c => ih.2 ?_, fun c => ih.1 ⟨j, by omega, by omega⟩⟩⟩⟩
        rintro ⟨i, hi, e⟩
        by_cases e2 : i = j
        · subst e2; omega
        · exact h ⟨i, by omega, e⟩
  exact (key 0 (Nat.zero_le _)).2 fun ⟨i, hi, _⟩ => absurd hi (Nat.not_lt_zero i)
theorem c_m_adds {X : mm_X} {d : Nat} {f : Nat → Int32} {fl : Nat → Int64} {g : Nat → Nat → Int32} {gl : Nat → Nat → Int64} {hh : Nat → Nat → Option Nat} {v : Nat → Value} {tx : mm_W} {P : Option Value → mm_W → Prop} {κ : Nat → Nat} (hm : ms (g 76) κ) (h8 : κ 55 < 8) {c : Nat → Nat} {l mn : Nat} (hl1 : 1 ≤ l) (hl2 : l ≤ 4) (hc : ∀ k, k < l → c k ≤ 3) (h : P none (Wd f fl (va_up g 76 (upd (upd (upd (upd (g 76) (23 + κ 55) (iI (digF c l))) (31 + κ 55) (iI l)) (39 + κ 55) (iI mn)) 55 (iI ((κ 55 + 1 : Nat) : Int)))) gl hh v tx)) : WP X (d + 2) 134 (0, [some (.ref 74), some (.int (iI (digF c l))), some (.int (iI mn)), none], [], Wd f fl g gl hh v tx) P := by
  have e55 := hm.1 55 (by decide)
  have hlt := digF_lt hl1 hl2 hc
  refine b_m_adds_0 (h := ?_) ..
  simp (disch := omega) only [z_lit, z_litl, z_neg, z_negl, z_add, z_sub, z_mul, z_addl, z_subl, z_mull, z_cc, z_cl, z_cr, z_cm, z_cml, z_cmr, z_lt, z_le, z_eq, z_ltl, z_lel, z_eql, z_nat, z_i2l, z_l2i, z_div, z_sh, Int.toNat_natCast, z_ts, z_tsl, e55]
  refine ⟨by omega, ?_⟩
  refine c_m_longOf (z := (digF c l : Int)) (by omega) (fun l' c' q1 q2 q3 q4 => ?_) fun hn => absurd ⟨l, c, hl1, hl2, hc, rfl⟩ hn
  have el : l' = l := (digF_inj q1 q2 hl1 hl2 q3 hc (by omega)).1
  subst el
  refine b_m_adds_27 (h := ?_) ..
  simp (disch := omega) only [z_lit, z_litl, z_neg, z_negl, z_add, z_sub, z_mul, z_addl, z_subl, z_mull, z_cc, z_cl, z_cr, z_cm, z_cml, z_cmr, z_lt, z_le, z_eq, z_ltl, z_lel, z_eql, z_nat, z_i2l, z_l2i, z_div, z_sh, Int.toNat_natCast, z_ts, z_tsl, va_s, va_tw, e55, upd_ne, upd_s]
  exact ⟨by omega, by omega, h⟩
theorem addS_ms {K : Nat → Int32} {κ : Nat → Nat} (hm : ms K κ) (h8 : κ 55 < 8) (N l mn : Nat) : ms (upd (upd (upd (upd K (23 + κ 55) (iI N)) (31 + κ 55) (iI l)) (39 + κ 55) (iI mn)) 55 (iI ((κ 55 + 1 : Nat) : Int))) (addS κ N l mn) :=
  (((hm.up N (by omega)).up l (by omega)).up mn (by omega)).up (κ 55 + 1) (by decide)
theorem addS_B {κ : Nat → Nat} (hB : wB κ) {N l mn : Nat} (h1 : N < 2147483648) (h2 : l < 2147483648) (h3 : mn < 2147483648) (h4 : κ 55 < 8) : wB (addS κ N l mn) := (((hB.up h1).up h2).up h3).up (by omega)
/-- the padded number's digits: bytes of the class's row -/
def pad (N : Nat) : Nat := if N < 10 then N * 1000 else if N < 100 then N * 100 else if N < 1000 then N * 10 else N
def pdB (N k : Nat) : Nat := if k = 0 then pad N / 1000 else if k = 1 then pad N / 100 % 10 else if k = 2 then pad N / 10 % 10 else pad N % 10
theorem pad_vld {N l : Nat} (hN : N ≤ 4444) (h0 : N % 10 ≠ 0) (h : vld (pdB N) l) : digF (b_1 (pdB N)) l = N := by
  obtain ⟨h1, h2, h3, h4⟩ := h
  have v0 : pdB N 0 = pad N / 1000 := rfl
  have v1 : pdB N 1 = pad N / 100 % 10 := rfl
  have v2 : pdB N 2 = pad N / 10 % 10 := rfl
  have v3 : pdB N 3 = pad N % 10 := rfl
  have w0 : b_1 (pdB N) 0 = pdB N 0 - 1 := rfl
  have w1 : b_1 (pdB N) 1 = pdB N 1 - 1 := rfl
  have w2 : b_1 (pdB N) 2 = pdB N 2 - 1 := rfl
  have w3 : b_1 (pdB N) 3 = pdB N 3 - 1 := rfl
  have vp : pad N = if N < 10 then N * 1000 else if N < 100 then N * 100 else if N < 1000 then N * 10 else N := rfl
  rcases one4 h1 h2 with rfl | rfl | rfl | rfl
  · have a0 := h3 0 (by omega)
    have a1 := h4 1 (by omega) (by omega)
    have a2 := h4 2 (by omega) (by omega)
    have a3 := h4 3 (by omega) (by omega)
    rw [digF_1, w0]
    repeat' (split at vp)
    all_goals omega
  · have a0 := h3 0 (by omega)
    have a1 := h3 1 (by omega)
    have a2 := h4 2 (by omega) (by omega)
    have a3 := h4 3 (by omega) (by omega)
    rw [digF_2, w0, w1]
    repeat' (split at vp)
    all_goals omega
  · have a0 := h3 0 (by omega)
    have a1 := h3 1 (by omega)
    have a2 := h3 2 (by omega)
    have a3 := h4 3 (by omega) (by omega)
    rw [digF_3, w0, w1, w2]
    repeat' (split at vp)
    all_goals omega
  · have a0 := h3 0 (by omega)
    have a1 := h3 1 (by omega)
    have a2 := h3 2 (by omega)
    have a3 := h3 3 (by omega)
    rw [digF_4, w0, w1, w2, w3]
    repeat' (split at vp)
    all_goals omega
theorem pad_of {N l : Nat} {c : Nat → Nat} (h1 : 1 ≤ l) (h2 : l ≤ 4) (hc : ∀ k, k < l → c k ≤ 3) (hN : N = digF c l) : N % 10 ≠ 0 ∧ N ≤ 4444 ∧ vld (pdB N) l := by
  have v0 : pdB N 0 = pad N / 1000 := rfl
  have v1 : pdB N 1 = pad N / 100 % 10 := rfl
  have v2 : pdB N 2 = pad N / 10 % 10 := rfl
  have v3 : pdB N 3 = pad N % 10 := rfl
  have vp : pad N = if N < 10 then N * 1000 else if N < 100 then N * 100 else if N < 1000 then N * 10 else N := rfl
  rcases one4 h1 h2 with rfl | rfl | rfl | rfl
  · have a0 := hc 0 (by omega)
    rw [digF_1] at hN
    rw [if_pos (by omega)] at vp
    refine ⟨by omega, by omega, by omega, by omega, fun k hk => ?_, fun k hk hk2 => ?_⟩
    · rw [show k = 0 by omega]; omega
    · have : k = 1 ∨ k = 2 ∨ k = 3 := by omega
      rcases this with rfl | rfl | rfl <;> omega
  · have a0 := hc 0 (by omega)
    have a1 := hc 1 (by omega)
    rw [digF_2] at hN
    rw [if_neg (by omega), if_pos (by omega)] at vp
    refine ⟨by omega, by omega, by omega, by omega, fun k hk => ?_, fun k hk hk2 => ?_⟩
    · have : k = 0 ∨ k = 1 := by omega
      rcases this with rfl | rfl <;> omega
    · have : k = 2 ∨ k = 3 := by omega
      rcases this with rfl | rfl <;> omega
  · have a0 := hc 0 (by omega)
    have a1 := hc 1 (by omega)
    have a2 := hc 2 (by omega)
    rw [digF_3] at hN
    rw [if_neg (by omega), if_neg (by omega), if_pos (by omega)] at vp
    refine ⟨by omega, by omega, by omega, by omega, fun k hk => ?_, fun k hk hk2 => ?_⟩
    · have : k = 0 ∨ k = 1 ∨ k = 2 := by omega
      rcases this with rfl | rfl | rfl <;> omega
    · rw [show k = 3 by omega]; omega
  · have a0 := hc 0 (by omega)
    have a1 := hc 1 (by omega)
    have a2 := hc 2 (by omega)
    have a3 := hc 3 (by omega)
    rw [digF_4] at hN
    rw [if_neg (by omega), if_neg (by omega), if_neg (by omega)] at vp
    refine ⟨by omega, by omega, by omega, by omega, fun k hk => ?_, fun k hk hk2 => by omega⟩
    have : k = 0 ∨ k = 1 ∨ k = 2 ∨ k = 3 := by omega
    rcases this with rfl | rfl | rfl | rfl <;> omega

theorem pdB_lt (N : Nat) (hN : N ≤ 4444) (h1 : 1 ≤ N) : pad N < 10000 ∧ ∀ k, k < 4 → pdB N k < 256 := by
  have vp : pad N = if N < 10 then N * 1000 else if N < 100 then N * 100 else if N < 1000 then N * 10 else N := rfl
  have hp : pad N < 10000 := by
    repeat' (split at vp)
    all_goals omega
  refine ⟨hp, fun k hk => ?_⟩
  unfold pdB
  repeat' split
  all_goals omega
theorem pad_row {N : Nat} (hN : N ≤ 4444) (h1 : 1 ≤ N) {M : Nat} (hM : M = pad N) : ∀ k, k < 4 → tb ((((((iI M / (1000 : Int32)) <<< ((24 : Int32) &&& (31 : Int32))) : Int32) ||| ((((iI M / (100 : Int32)) - ((iI M / (100 : Int32)) / (10 : Int32)) * (10 : Int32)) <<< ((16 : Int32) &&& (31 : Int32))) : Int32)) ||| ((((iI M / (10 : Int32)) - ((iI M / (10 : Int32)) / (10 : Int32)) * (10 : Int32)) <<< ((8 : Int32) &&& (31 : Int32))) : Int32)) ||| (iI M - (iI M / (10 : Int32)) * (10 : Int32))) k = pdB N k := by
  obtain ⟨hp, hl⟩ := pdB_lt N hN h1
  subst hM
  have s24 : (24 : Int32) &&& (31 : Int32) = iI 24 := by decide
  have s16 : (16 : Int32) &&& (31 : Int32) = iI 16 := by decide
  have s8 : (8 : Int32) &&& (31 : Int32) = iI 8 := by decide
  have e0 : iI (pad N) / (1000 : Int32) = iI ((pdB N 0 : Nat) : Int) := by
    have v0 : pdB N 0 = pad N / 1000 := rfl
    simp (disch := omega) only [z_lit, z_litl, z_neg, z_negl, z_add, z_sub, z_mul, z_addl, z_subl, z_mull, z_cc, z_cl, z_cr, z_cm, z_cml, z_cmr, z_lt, z_le, z_eq, z_ltl, z_lel, z_eql, z_nat, z_i2l, z_l2i, z_div, z_sh, Int.toNat_natCast, z_ts, z_tsl]
    congr 1 <;> omega
  have e1 : iI (pad N) / (100 : Int32) - iI (pad N) / (100 : Int32) / (10 : Int32) * (10 : Int32) = iI ((pdB N 1 : Nat) : Int) := by
    have v1 : pdB N 1 = pad N / 100 % 10 := rfl
    simp (disch := omega) only [z_lit, z_litl, z_neg, z_negl, z_add, z_sub, z_mul, z_addl, z_subl, z_mull, z_cc, z_cl, z_cr, z_cm, z_cml, z_cmr, z_lt, z_le, z_eq, z_ltl, z_lel, z_eql, z_nat, z_i2l, z_l2i, z_div, z_sh, Int.toNat_natCast, z_ts, z_tsl]
    congr 1 <;> omega
  have e2 : iI (pad N) / (10 : Int32) - iI (pad N) / (10 : Int32) / (10 : Int32) * (10 : Int32) = iI ((pdB N 2 : Nat) : Int) := by
    have v1 : pdB N 2 = pad N / 10 % 10 := rfl
    simp (disch := omega) only [z_lit, z_litl, z_neg, z_negl, z_add, z_sub, z_mul, z_addl, z_subl, z_mull, z_cc, z_cl, z_cr, z_cm, z_cml, z_cmr, z_lt, z_le, z_eq, z_ltl, z_lel, z_eql, z_nat, z_i2l, z_l2i, z_div, z_sh, Int.toNat_natCast, z_ts, z_tsl]
    congr 1 <;> omega
  have e3 : iI (pad N) - iI (pad N) / (10 : Int32) * (10 : Int32) = iI ((pdB N 3 : Nat) : Int) := by
    have v1 : pdB N 3 = pad N % 10 := rfl
    simp (disch := omega) only [z_lit, z_litl, z_neg, z_negl, z_add, z_sub, z_mul, z_addl, z_subl, z_mull, z_cc, z_cl, z_cr, z_cm, z_cml, z_cmr, z_lt, z_le, z_eq, z_ltl, z_lel, z_eql, z_nat, z_i2l, z_l2i, z_div, z_sh, Int.toNat_natCast, z_ts, z_tsl]
    congr 1 <;> omega
  rw [e1, e2, e3, e0, s24, s16, s8]
  exact tb_of hl (row_or (hl 0 (by omega)) (hl 1 (by omega)) (hl 2 (by omega)) (hl 3 (by omega)))
theorem c_x_sign30 {X : mm_X} {d : Nat} {f : Nat → Int32} {fl : Nat → Int64} {g : Nat → Nat → Int32} {gl : Nat → Nat → Int64} {hh : Nat → Nat → Option Nat} {v : Nat → Value} {tx : mm_W} {P : Option Value → mm_W → Prop} {N : Nat} (hN : N ≤ 4444) (h1 : 1 ≤ N) {p1 : Int32} (hc : ∀ r M : Int32, (∀ k, k < 4 → tb r k = pdB N k) → WP X (d + 1) 47 (0, [some (.ref 1), some (.int p1), some (.int r), none, none, none, none], [], Wd f fl g gl hh v tx) (fun rv w2 => WP X (d + 2) 58 (102, [some (.ref 0), none, some (.int p1), some (.int M), some (.int r)], rv.toList ++ [.ref 0], w2) P)) : WP X (d + 2) 58 (30, [some (.ref 0), none, some (.int p1), some (.int (iI N)), some (.int 1)], [], Wd f fl g gl hh v tx) P := by
  have vp : pad N = if N < 10 then N * 1000 else if N < 100 then N * 100 else if N < 1000 then N * 10 else N := rfl
  have m10 : ∀ M : Nat, iI M * (10 : Int32) = iI ((M * 10 : Nat) : Int) := by
    intro M
    rw [show (10 : Int32) = iI 10 from rfl, z_mul]
    congr 1
  refine b_x_sign_30 (h := ?_) ..
  refine ⟨fun c => absurd c (by decide), fun _ => ⟨fun c2 => ?_, fun c2 => ?_⟩⟩
  · simp (disch := omega) only [z_lit, z_litl, z_neg, z_negl, z_add, z_sub, z_mul, z_addl, z_subl, z_mull, z_cc, z_cl, z_cr, z_cm, z_cml, z_cmr, z_lt, z_le, z_eq, z_ltl, z_lel, z_eql, z_nat, z_i2l, z_l2i, z_div, z_sh, Int.toNat_natCast, z_ts, z_tsl] at c2
    refine hc _ _ (pad_row hN h1 ?_)
    repeat' (split at vp)
    all_goals omega
  · simp (disch := omega) only [z_lit, z_litl, z_neg, z_negl, z_add, z_sub, z_mul, z_addl, z_subl, z_mull, z_cc, z_cl, z_cr, z_cm, z_cml, z_cmr, z_lt, z_le, z_eq, z_ltl, z_lel, z_eql, z_nat, z_i2l, z_l2i, z_div, z_sh, Int.toNat_natCast, z_ts, z_tsl] at c2
    rw [m10]
    refine b_x_sign_30 (h := ?_) ..
    refine ⟨fun c => absurd c (by decide), fun _ => ⟨fun c3 => ?_, fun c3 => ?_⟩⟩
    · simp (disch := omega) only [z_lit, z_litl, z_neg, z_negl, z_add, z_sub, z_mul, z_addl, z_subl, z_mull, z_cc, z_cl, z_cr, z_cm, z_cml, z_cmr, z_lt, z_le, z_eq, z_ltl, z_lel, z_eql, z_nat, z_i2l, z_l2i, z_div, z_sh, Int.toNat_natCast, z_ts, z_tsl] at c3
      refine hc _ _ (pad_row hN h1 ?_)
      repeat' (split at vp)
      all_goals omega
    · simp (disch := omega) only [z_lit, z_litl, z_neg, z_negl, z_add, z_sub, z_mul, z_addl, z_subl, z_mull, z_cc, z_cl, z_cr, z_cm, z_cml, z_cmr, z_lt, z_le, z_eq, z_ltl, z_lel, z_eql, z_nat, z_i2l, z_l2i, z_div, z_sh, Int.toNat_natCast, z_ts, z_tsl] at c3
      rw [m10]
      refine b_x_sign_30 (h := ?_) ..
      refine ⟨fun c => absurd c (by decide), fun _ => ⟨fun c4 => ?_, fun c4 => ?_⟩⟩
      · simp (disch := omega) only [z_lit, z_litl, z_neg, z_negl, z_add, z_sub, z_mul, z_addl, z_subl, z_mull, z_cc, z_cl, z_cr, z_cm, z_cml, z_cmr, z_lt, z_le, z_eq, z_ltl, z_lel, z_eql, z_nat, z_i2l, z_l2i, z_div, z_sh, Int.toNat_natCast, z_ts, z_tsl] at c4
        refine hc _ _ (pad_row hN h1 ?_)
        repeat' (split at vp)
        all_goals omega
      · simp (disch := omega) only [z_lit, z_litl, z_neg, z_negl, z_add, z_sub, z_mul, z_addl, z_subl, z_mull, z_cc, z_cl, z_cr, z_cm, z_cml, z_cmr, z_lt, z_le, z_eq, z_ltl, z_lel, z_eql, z_nat, z_i2l, z_l2i, z_div, z_sh, Int.toNat_natCast, z_ts, z_tsl] at c4
        rw [m10]
        refine b_x_sign_30 (h := ?_) ..
        refine ⟨fun _ => ?_, fun c => absurd (by decide) c⟩
        refine hc _ _ (pad_row hN h1 ?_)
        repeat' (split at vp)
        all_goals omega
theorem c_m_sign {X : mm_X} {d : Nat} {f : Nat → Int32} {fl : Nat → Int64} {g : Nat → Nat → Int32} {gl : Nat → Nat → Int64} {hh : Nat → Nat → Option Nat} {v : Nat → Value} {tx : mm_W} {P : Option Value → mm_W → Prop} {κ : Nat → Nat} (hm : ms (g 76) κ) (hwS : wS κ) (hwB : wB κ) {z y : Int} (hz : -2147483648 ≤ z ∧ z < 2147483648) (hy : -2147483648 ≤ y ∧ y < 2147483648)
    (h1 : (¬ isR z ∨ ¬ (0 ≤ y ∧ y ≤ 5)) → P (some (.int (iI (-1)))) (Wd (va_up f 4736 (iI (-1))) fl (va_up g 75 (upd (g 75) 1 (g 75 1 + iI 1))) gl hh v tx))
    (h3 : ∀ (l : Nat) (c : Nat → Nat), 1 ≤ l → l ≤ 4 → (∀ k, k < l → c k ≤ 3) → z = (digF c l : Int) → 0 ≤ y → y ≤ 5 → tkD κ (digF c l) → P (some (.int (iI (-3)))) (Wd (va_up f 4736 (iI (-3))) fl (va_up g 75 (upd (g 75) 3 (g 75 3 + iI 1))) gl hh v tx))
    (h5 : ∀ (l : Nat) (c : Nat → Nat), 1 ≤ l → l ≤ 4 → (∀ k, k < l → c k ≤ 3) → z = (digF c l : Int) → 0 ≤ y → y ≤ 5 → ¬ tkD κ (digF c l) → κ 55 = 8 → P (some (.int (iI (-5)))) (Wd (va_up f 4736 (iI (-5))) fl (va_up g 75 (upd (g 75) 5 (g 75 5 + iI 1))) gl hh v tx))
    (h0 : ∀ (l : Nat) (c : Nat → Nat), 1 ≤ l → l ≤ 4 → (∀ k, k < l → c k ≤ 3) → z = (digF c l : Int) → 0 ≤ y → y ≤ 5 → ¬ tkD κ (digF c l) → κ 55 < 8 → P (some (.int (iI (κ 55)))) (Wd (va_up f 4736 (iI 0)) fl (va_up g 76 (upd (upd (upd (upd (g 76) (23 + κ 55) (iI (digF c l))) (31 + κ 55) (iI l)) (39 + κ 55) (iI y)) 55 (iI ((κ 55 + 1 : Nat) : Int)))) gl hh v tx)) : WP X (d + 3) 136 (0, [some (.ref 74), some (.int (iI z)), some (.int (iI y))], [], Wd f fl g gl hh v tx) P := by
  have b55 := hwS.1
  have e55 := hm.1 55 (by decide)
  refine b_m_sign_0 (h := ?_) ..
  refine c_m_longOf hz (fun l cc q1 q2 q3 q4 => ?_) fun hn => ?_
  · have hlt := digF_lt q1 q2 q3
    refine b_m_sign_4 (h := ?_) ..
    simp (disch := omega) only [z_lit, z_litl, z_neg, z_negl, z_add, z_sub, z_mul, z_addl, z_subl, z_mull, z_cc, z_cl, z_cr, z_cm, z_cml, z_cmr, z_lt, z_le, z_eq, z_ltl, z_lel, z_eql, z_nat, z_i2l, z_l2i, z_div, z_sh, Int.toNat_natCast, z_ts, z_tsl]
    refine ⟨fun c => by omega, fun _ => ⟨fun c => ?_, fun c => h1 (Or.inr c)⟩⟩
    have hzz : iI z = iI (digF cc l) := by rw [q4]
    obtain ⟨w, rfl⟩ : ∃ w : Nat, y = w := ⟨y.toNat, by omega⟩
    rw [hzz]
    refine c_m_isTaken hm hwS hwB (N := digF cc l) (by omega) (fun ht => ?_) fun ht => ?_
    · refine b_m_sign_28 (h := ?_) ..
      simp (disch := omega) only [z_lit, z_litl, z_neg, z_negl, z_add, z_sub, z_mul, z_addl, z_subl, z_mull, z_cc, z_cl, z_cr, z_cm, z_cml, z_cmr, z_lt, z_le, z_eq, z_ltl, z_lel, z_eql, z_nat, z_i2l, z_l2i, z_div, z_sh, Int.toNat_natCast, z_ts, z_tsl]
      exact ⟨fun c => by omega, fun _ => h3 l cc q1 q2 q3 q4 (by omega) (by omega) ht⟩
    · refine b_m_sign_28 (h := ?_) ..
      simp (disch := omega) only [z_lit, z_litl, z_neg, z_negl, z_add, z_sub, z_mul, z_addl, z_subl, z_mull, z_cc, z_cl, z_cr, z_cm, z_cml, z_cmr, z_lt, z_le, z_eq, z_ltl, z_lel, z_eql, z_nat, z_i2l, z_l2i, z_div, z_sh, Int.toNat_natCast, z_ts, z_tsl, e55]
      refine ⟨fun _ => ⟨fun c8 => ?_, fun c8 => h5 l cc q1 q2 q3 q4 (by omega) (by omega) ht (by omega)⟩, fun c => absurd trivial c⟩
      refine c_m_adds hm (by omega) q1 q2 q3 ?_
      refine b_m_sign_60 (h := ?_) ..
      have := h0 l cc q1 q2 q3 q4 (by omega) (by omega) ht (by omega)
      simp (disch := omega) only [z_lit, z_litl, z_neg, z_negl, z_add, z_sub, z_mul, z_addl, z_subl, z_mull, z_cc, z_cl, z_cr, z_cm, z_cml, z_cmr, z_lt, z_le, z_eq, z_ltl, z_lel, z_eql, z_nat, z_i2l, z_l2i, z_div, z_sh, Int.toNat_natCast, z_ts, z_tsl, va_s, upd_s]
      rw [show (((κ 55 + 1 : Nat) : Int) - 1) = (κ 55 : Int) by omega]
      exact this
  · refine b_m_sign_4 (h := ?_) ..
    simp (disch := omega) only [z_lit, z_litl, z_neg, z_negl, z_add, z_sub, z_mul, z_addl, z_subl, z_mull, z_cc, z_cl, z_cr, z_cm, z_cml, z_cmr, z_lt, z_le, z_eq, z_ltl, z_lel, z_eql, z_nat, z_i2l, z_l2i, z_div, z_sh, Int.toNat_natCast, z_ts, z_tsl]
    repeat (first | refine ⟨fun c9 => by omega, fun _ => ?_⟩ | refine ⟨fun _ => ?_, fun c9 => by omega⟩ | refine ⟨by omega, ?_⟩ | refine ⟨fun c9 => absurd trivial c9, fun _ => ?_⟩ | refine ⟨fun _ => ?_, fun c9 => absurd trivial c9⟩)
    exact h1 (Or.inl hn)
theorem sgn_cl {f : Nat → Int32} {fl : Nat → Int64} {g : Nat → Nat → Int32} {gl : Nat → Nat → Int64} {hh : Nat → Nat → Option Nat} {v : Nat → Value} {tx : mm_W} {κ κ' : Nat → Nat} (hw : wf κ) (hw' : wS κ') (hB : wB κ') (e : ∀ i, (i < 23 ∨ 47 ≤ i) → i ≠ 55 → κ' i = κ i) : wf κ' ∧ (xH (f 68) (g 5) κ → xH (f 68) (g 5) κ') ∧ (xL (f 70) (f 71) κ → xL (f 70) (f 71) κ') ∧ (xD (f 72) (g 6) κ → xD (f 72) (g 6) κ') ∧ (xW (f 74) (hh 7) (f 76) tx κ → xW (f 74) (hh 7) (f 76) tx κ') ∧ (xT (g 8) κ → xT (g 8) κ') ∧ (i_acts (f 78) (f 4777) (g 9) (g 97) κ → i_acts (f 78) (f 4777) (g 9) (g 97) κ') := by
  obtain ⟨wS, wH, wL, wD, wW, wT, wB⟩ := hw
  exact ⟨⟨hw', wH.cg fun i hi => e i (by omega) (by omega), wL.cg fun i hi => e i (by omega) (by omega), wD.cg fun i hi => e i (by omega) (by omega), wW.cg fun i hi => e i (by omega) (by omega), wT.cg fun i hi => e i (by omega) (by omega), hB⟩,
    fun h => h.cg wH.1 fun i hi => e i (by omega) (by omega), fun h => h.cg wL.1 fun i hi => e i (by omega) (by omega), fun h => h.cg wD.1 fun i hi => e i (by omega) (by omega), fun h => h.cg fun i hi => e i (by omega) (by omega), fun h => h.cg fun i hi => e i (by omega) (by omega), fun h => h.cg fun i hi => e i (by omega) (by omega)⟩
theorem o_sign : k_op0 k_Inv := by
  intro a0 a1 X f fl g gl hh v tx hI
  have hI' := hI
  obtain ⟨κ, ⟨wS, wH, wL, wD, wW, wT, wB⟩, hm, ⟨xS, xH, xL, xD, xW, xT⟩, he, ht', ha, hi0, hi1, hd, hr'⟩ := hI
  obtain ⟨z, hz, rfl⟩ := z_ex a0
  obtain ⟨y, hy, rfl⟩ := z_ex a1
  have b55 := wS.1
  have bad : (¬ isR z ∨ ¬ (0 ≤ y ∧ y ≤ 5)) → WP X 1999 136 (0, [some (.ref 74), some (.int (iI z)), some (.int (iI y))], [], Wd (va_up f 18 (iI (-1))) fl (va_up g 55 (upd (g 55) 1 (g 55 1 + iI 1))) gl hh v tx) (k_fn (.int (iI (-1))) k_Inv tx) := by
    intro hb
    refine c_m_sign (κ := κ) (by exact hm) wS wB hz hy (fun _ => ?_) (fun l c q1 q2 q3 q4 q5 q6 _ => ?_) (fun l c q1 q2 q3 q4 q5 q6 _ _ => ?_) fun l c q1 q2 q3 q4 q5 q6 _ _ => ?_
    · exact k_fin0 rfl (hI'.rf (iI (-1)) 1 (by decide))
    all_goals (rcases hb with hb | hb; exact absurd ⟨l, c, q1, q2, q3, q4⟩ hb; exact absurd ⟨q5, q6⟩ hb)
  have lo : ∀ (l : Nat) (c : Nat → Nat), 1 ≤ l → l ≤ 4 → (∀ k, k < l → c k ≤ 3) → z = (digF c l : Int) → 1 ≤ z ∧ z ≤ 4444 ∧ z % 10 ≠ 0 := by
    intro l c q1 q2 q3 q4
    have := digF_lt q1 q2 q3
    obtain ⟨p1, p2, -⟩ := pad_of q1 q2 q3 rfl
    omega
  refine b_x_sign_0 (h := ?_) ..
  by_cases hz1 : 1 ≤ z ∧ z ≤ 4444 ∧ z % 10 ≠ 0
  · obtain ⟨N, rfl⟩ : ∃ N : Nat, z = N := ⟨z.toNat, by omega⟩
    simp (disch := omega) only [z_lit, z_litl, z_neg, z_negl, z_add, z_sub, z_mul, z_addl, z_subl, z_mull, z_cc, z_cl, z_cr, z_cm, z_cml, z_cmr, z_lt, z_le, z_eq, z_ltl, z_lel, z_eql, z_nat, z_i2l, z_l2i, z_div, z_sh, Int.toNat_natCast, z_ts, z_tsl]
    refine ⟨fun c => by omega, fun _ => ⟨fun c => by omega, fun _ => ⟨fun _ => ?_, fun c => by omega⟩⟩⟩
    refine c_x_sign30 (N := N) (by omega) (by omega) fun r M hr => ?_
    obtain ⟨hp, hpl⟩ := pdB_lt N (by omega) (by omega)
    refine c_enter (κ := κ) wS xS hpl hr hy (fun c => ?_) (fun l hv c1 c2 ht => ?_) (fun l hv c1 c2 ht h8 => ?_) fun l hv c1 c2 ht h8 => ?_
    · refine b_x_sign_102 (h := ?_) ..
      simp (disch := omega) only [z_lit, z_litl, z_neg, z_negl, z_add, z_sub, z_mul, z_addl, z_subl, z_mull, z_cc, z_cl, z_cr, z_cm, z_cml, z_cmr, z_lt, z_le, z_eq, z_ltl, z_lel, z_eql, z_nat, z_i2l, z_l2i, z_div, z_sh, Int.toNat_natCast, z_ts, z_tsl]
      repeat (first | refine ⟨fun c9 => by omega, fun _ => ?_⟩ | refine ⟨fun _ => ?_, fun c9 => by omega⟩ | refine ⟨by omega, ?_⟩ | refine ⟨fun c9 => absurd trivial c9, fun _ => ?_⟩ | refine ⟨fun _ => ?_, fun c9 => absurd trivial c9⟩)
      refine k_mid (bad ?_)
      rcases c with c | c
      · exact Or.inr c
      · refine Or.inl ?_
        rintro ⟨l, cc, q1, q2, q3, q4⟩
        exact c l (pad_of q1 q2 q3 (by omega)).2.2
    all_goals have hNd := pad_vld (by omega) (by omega) hv
    all_goals have hle : ∀ k, k < l → b_1 (pdB N) k ≤ 3 := fun k hk => hv.le hk
    all_goals rw [tkn_D wS hv] at ht
    · refine b_x_sign_102 (h := ?_) ..
      simp (disch := omega) only [z_lit, z_litl, z_neg, z_negl, z_add, z_sub, z_mul, z_addl, z_subl, z_mull, z_cc, z_cl, z_cr, z_cm, z_cml, z_cmr, z_lt, z_le, z_eq, z_ltl, z_lel, z_eql, z_nat, z_i2l, z_l2i, z_div, z_sh, Int.toNat_natCast, z_ts, z_tsl]
      repeat (first | refine ⟨fun c9 => by omega, fun _ => ?_⟩ | refine ⟨fun _ => ?_, fun c9 => by omega⟩ | refine ⟨by omega, ?_⟩ | refine ⟨fun c9 => absurd trivial c9, fun _ => ?_⟩ | refine ⟨fun _ => ?_, fun c9 => absurd trivial c9⟩)
      refine k_mid ?_
      refine c_m_sign (κ := κ) (by exact hm) wS wB hz hy (fun c => ?_) (fun l' c' q1 q2 q3 q4 q5 q6 _ => ?_) (fun l' c' q1 q2 q3 q4 q5 q6 hn _ => ?_) fun l' c' q1 q2 q3 q4 q5 q6 hn _ => ?_
      · rcases c with c | c
        · exact absurd ⟨l, _, hv.1, hv.2.1, hle, by rw [hNd]⟩ c
        · omega
      · exact k_fin0 rfl (hI'.rf (iI (-3)) 3 (by decide))
      all_goals (rw [show digF c' l' = digF (b_1 (pdB N)) l by omega] at hn; exact absurd ht hn)
    · refine b_x_sign_102 (h := ?_) ..
      simp (disch := omega) only [z_lit, z_litl, z_neg, z_negl, z_add, z_sub, z_mul, z_addl, z_subl, z_mull, z_cc, z_cl, z_cr, z_cm, z_cml, z_cmr, z_lt, z_le, z_eq, z_ltl, z_lel, z_eql, z_nat, z_i2l, z_l2i, z_div, z_sh, Int.toNat_natCast, z_ts, z_tsl]
      repeat (first | refine ⟨fun c9 => by omega, fun _ => ?_⟩ | refine ⟨fun _ => ?_, fun c9 => by omega⟩ | refine ⟨by omega, ?_⟩ | refine ⟨fun c9 => absurd trivial c9, fun _ => ?_⟩ | refine ⟨fun _ => ?_, fun c9 => absurd trivial c9⟩)
      refine k_mid ?_
      refine c_m_sign (κ := κ) (by exact hm) wS wB hz hy (fun c => ?_) (fun l' c' q1 q2 q3 q4 q5 q6 hn => ?_) (fun l' c' q1 q2 q3 q4 q5 q6 hn _ => ?_) fun l' c' q1 q2 q3 q4 q5 q6 hn _ => by omega
      · rcases c with c | c
        · exact absurd ⟨l, _, hv.1, hv.2.1, hle, by rw [hNd]⟩ c
        · omega
      · rw [show digF c' l' = digF (b_1 (pdB N)) l by omega] at hn; exact absurd hn ht
      · exact k_fin0 rfl (hI'.rf (iI (-5)) 5 (by decide))
    · refine b_x_sign_102 (h := ?_) ..
      simp (disch := omega) only [z_lit, z_litl, z_neg, z_negl, z_add, z_sub, z_mul, z_addl, z_subl, z_mull, z_cc, z_cl, z_cr, z_cm, z_cml, z_cmr, z_lt, z_le, z_eq, z_ltl, z_lel, z_eql, z_nat, z_i2l, z_l2i, z_div, z_sh, Int.toNat_natCast, z_ts, z_tsl]
      repeat (first | refine ⟨fun c9 => by omega, fun _ => ?_⟩ | refine ⟨fun _ => ?_, fun c9 => by omega⟩ | refine ⟨by omega, ?_⟩ | refine ⟨fun c9 => absurd trivial c9, fun _ => ?_⟩ | refine ⟨fun _ => ?_, fun c9 => absurd trivial c9⟩)
      refine k_mid ?_
      refine c_m_sign (κ := κ) (by exact hm) wS wB hz hy (fun c => ?_) (fun l' c' q1 q2 q3 q4 q5 q6 hn => ?_) (fun l' c' q1 q2 q3 q4 q5 q6 hn _ => by omega) fun l' c' q1 q2 q3 q4 q5 q6 hn _ => ?_
      · rcases c with c | c
        · exact absurd ⟨l, _, hv.1, hv.2.1, hle, by rw [hNd]⟩ c
        · omega
      · rw [show digF c' l' = digF (b_1 (pdB N)) l by omega] at hn; exact absurd hn ht
      · obtain ⟨w, rfl⟩ : ∃ w : Nat, y = w := ⟨y.toNat, by omega⟩
        have ed : digF c' l' = digF (b_1 (pdB N)) l := by omega
        obtain ⟨el, -⟩ := digF_inj q1 q2 hv.1 hv.2.1 q3 hle ed
        rw [ed, el]
        have hw' := addS_w (mn := w) wS h8 hv.1 hv.2.1 hle (by omega) ht
        obtain ⟨c1, c2, c3, c4, c5, c6, c7⟩ := sgn_cl (f := f) (fl := fl) (g := g) (gl := gl) (hh := hh) (v := v) (tx := tx) (κ' := addS κ (digF (b_1 (pdB N)) l) l w) ⟨wS, wH, wL, wD, wW, wT, wB⟩ hw' (addS_B wB (by omega) (by have := hv.2.1; omega) (by omega) h8) fun i hi hi2 => addS_o hi2 (by omega) (by omega) (by omega)
        exact k_fin0 rfl ⟨_, c1, addS_ms hm h8 _ l w, ⟨addS_x xS h8 hv.2.1 hle, c2 xH, c3 xL, c4 xD, c5 xW, c6 xT⟩, ⟨he.1, he.2.1, he.2.2.1, rfl, he.2.2.2.2⟩, ht', c7 ha, hi0, hi1, hd, hr'⟩
  · have hb : ¬ isR z ∨ ¬ (0 ≤ y ∧ y ≤ 5) := Or.inl fun ⟨l, c, q1, q2, q3, q4⟩ => hz1 (lo l c q1 q2 q3 q4)
    by_cases c1 : z < 1
    · simp (disch := omega) only [z_lit, z_litl, z_neg, z_negl, z_add, z_sub, z_mul, z_addl, z_subl, z_mull, z_cc, z_cl, z_cr, z_cm, z_cml, z_cmr, z_lt, z_le, z_eq, z_ltl, z_lel, z_eql, z_nat, z_i2l, z_l2i, z_div, z_sh, Int.toNat_natCast, z_ts, z_tsl]
      exact ⟨fun _ => k_mid (bad hb), fun c => absurd c1 c⟩
    · obtain ⟨N, rfl⟩ : ∃ N : Nat, z = N := ⟨z.toNat, by omega⟩
      simp (disch := omega) only [z_lit, z_litl, z_neg, z_negl, z_add, z_sub, z_mul, z_addl, z_subl, z_mull, z_cc, z_cl, z_cr, z_cm, z_cml, z_cmr, z_lt, z_le, z_eq, z_ltl, z_lel, z_eql, z_nat, z_i2l, z_l2i, z_div, z_sh, Int.toNat_natCast, z_ts, z_tsl]
      refine ⟨fun c => absurd c c1, fun _ => ⟨fun _ => k_mid (bad hb), fun c => ⟨fun c2 => by omega, fun c2 => k_mid (bad hb)⟩⟩⟩
