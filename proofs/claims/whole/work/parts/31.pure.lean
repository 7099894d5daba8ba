/-! rows of cloths as numbers -/
theorem codF_lt {c : Nat → Nat} : ∀ {n : Nat}, (∀ i, i < n → c i ≤ 3) → codF c n < 4 ^ n
  | 0, _ => by show (0 : Nat) < 1; omega
  | n + 1, h => by
    have h1 := codF_lt (n := n) fun i hi => h i (by omega)
    have h2 := h n (by omega)
    rw [codF, Nat.pow_succ]
    omega
theorem codF_div {c : Nat → Nat} (n : Nat) : ∀ m : Nat, (∀ i, i < n + m → c i ≤ 3) → codF c (n + m) / 4 ^ m = codF c n
  | 0, _ => by simp
  | m + 1, h => by
    have h2 := h (n + m) (by omega)
    rw [← Nat.add_assoc, codF, Nat.pow_succ, Nat.mul_comm (4 ^ m) 4, ← Nat.div_div_eq_div_mul, show (4 * codF c (n + m) + c (n + m)) / 4 = codF c (n + m) by omega]
    exact codF_div n m fun i hi => h i (by omega)
theorem codF_mod {c : Nat → Nat} (a : Nat) : ∀ n : Nat, (∀ i, i < a + n → c i ≤ 3) → codF c (a + n) % 4 ^ n = codF (fun k => c (a + k)) n
  | 0, _ => by rw [Nat.pow_zero, Nat.mod_one]; rfl
  | n + 1, h => by
    have h2 := h (a + n) (by omega)
    have ih := codF_mod a n fun i hi => h i (by omega)
    rw [← Nat.add_assoc, codF, codF, ← ih, Nat.pow_succ, Nat.mul_comm (4 ^ n) 4, Nat.mod_mul, show (4 * codF c (a + n) + c (a + n)) % 4 = c (a + n) by omega, show (4 * codF c (a + n) + c (a + n)) / 4 = codF c (a + n) by omega]
    omega
/-- how many cloths of two rows are other ones -/
def mis (a b : Nat → Nat) : Nat → Nat
  | 0 => 0
  | n + 1 => mis a b n + if a n = b n then 0 else 1
theorem mis_le {a b : Nat → Nat} : ∀ n, mis a b n ≤ n
  | 0 => Nat.le_refl _
  | n + 1 => by
    have := mis_le (a := a) (b := b) n
    rw [mis]
    split <;> omega
theorem mis_zero {a b : Nat → Nat} : ∀ {n : Nat}, mis a b n = 0 ↔ ∀ i, i < n → a i = b i
  | 0 => ⟨fun _ i hi => absurd hi (Nat.not_lt_zero i), fun _ => rfl⟩
  | n + 1 => by
    have ih := mis_zero (a := a) (b := b) (n := n)
    rw [mis]
    constructor
    · intro h i hi
      have h0 : mis a b n = 0 := by omega
      by_cases e : i = n
      · subst e
        by_cases e2 : a i = b i
        · exact e2
        · rw [if_neg e2] at h; omega
      · exact ih.mp h0 i (by omega)
    · intro h
      rw [ih.mpr fun i hi => h i (by omega), if_pos (h n (by omega))]
def pop8 (n : Nat) : Nat := n % 2 + n / 2 % 2 + n / 4 % 2 + n / 8 % 2 + n / 16 % 2 + n / 32 % 2 + n / 64 % 2 + n / 128 % 2
def popx (p : Nat) : Nat := pop8 ((p ||| p / 2) &&& 85)
theorem popx_step : ∀ q, q < 64 → ∀ r, r < 4 → popx (4 * q + r) = popx q + if r = 0 then 0 else 1 := by decide +kernel
theorem xor4 (x y a b : Nat) (ha : a < 4) (hb : b < 4) : (4 * x + a) ^^^ (4 * y + b) = 4 * (x ^^^ y) + (a ^^^ b) := by
  have h1 : ((4 * x + a) ^^^ (4 * y + b)) / 4 = x ^^^ y := by
    have := Nat.shiftRight_xor_distrib (a := 4 * x + a) (b := 4 * y + b) (i := 2)
    rw [Nat.shiftRight_eq_div_pow, Nat.shiftRight_eq_div_pow, Nat.shiftRight_eq_div_pow] at this
    rw [show (2 : Nat) ^ 2 = 4 from rfl] at this
    rw [this, show (4 * x + a) / 4 = x by omega, show (4 * y + b) / 4 = y by omega]
  have h2 : ((4 * x + a) ^^^ (4 * y + b)) % 4 = a ^^^ b := by
    have := Nat.xor_mod_two_pow (a := 4 * x + a) (b := 4 * y + b) (n := 2)
    rw [show (2 : Nat) ^ 2 = 4 from rfl] at this
    rw [this, show (4 * x + a) % 4 = a by omega, show (4 * y + b) % 4 = b by omega]
  omega
theorem xor_z : ∀ a, a < 4 → ∀ b, b < 4 → ((a ^^^ b < 4) ∧ (a ^^^ b = 0 ↔ a = b)) := by decide
theorem popx_cod {a b : Nat → Nat} : ∀ {n : Nat}, n ≤ 4 → (∀ i, i < n → a i ≤ 3) → (∀ i, i < n → b i ≤ 3) → popx (codF a n ^^^ codF b n) = mis a b n
  | 0, _, _, _ => by show popx (0 ^^^ 0) = 0; decide
  | n + 1, hn, ha, hb => by
    have ih := popx_cod (n := n) (by omega) (fun i hi => ha i (by omega)) (fun i hi => hb i (by omega))
    have hx := codF_lt (c := a) (n := n) fun i hi => ha i (by omega)
    have hy := codF_lt (c := b) (n := n) fun i hi => hb i (by omega)
    have han := ha n (by omega)
    have hbn := hb n (by omega)
    have h4 : (4 : Nat) ^ n ≤ 4 ^ 3 := Nat.pow_le_pow_right (by decide) (by omega)
    have hxy : codF a n ^^^ codF b n < 2 ^ 6 := Nat.xor_lt_two_pow (by omega) (by omega)
    obtain ⟨z1, z2⟩ := xor_z (a n) (by omega) (b n) (by omega)
    rw [codF, codF, xor4 _ _ _ _ (by omega) (by omega), popx_step _ (by omega) _ z1, ih, mis]
    by_cases e : a n = b n
    · rw [if_pos e, if_pos (z2.mpr e)]
    · rw [if_neg e, if_neg fun h => e (z2.mp h)]
/-- how many cloths of the line from a place on a sign has not; 1000000: it goes beyond -/
def dif (κ : Nat → Nat) (j at_ : Nat) : Nat := if κ 12 < at_ + κ (31 + j) then 1000000 else mis (fun k => κ (at_ + k)) (clo κ j) (κ (31 + j))
theorem clo_le {κ : Nat → Nat} (h : wS κ) {j k : Nat} (hj : j < κ 55) (hk : k < κ (31 + j)) : clo κ j k ≤ 3 := by
  obtain ⟨-, h2, -⟩ := h
  obtain ⟨h3, h4, h5, h6, h7⟩ := h2 j hj
  have := h7 (κ (31 + j) - 1 - k) (by omega)
  rw [clo]
  omega
/-- sums and least ones over so many signs -/
def sS (t : Nat → Int32) : Nat → Int32
  | 0 => 0
  | n + 1 => sS t n + t n
def mS (t : Nat → Nat) : Nat → Nat
  | 0 => 1000000
  | n + 1 => min (mS t n) (t n)
theorem sS_cg {t t' : Nat → Int32} : ∀ {n : Nat}, (∀ i, i < n → t' i = t i) → sS t' n = sS t n
  | 0, _ => rfl
  | n + 1, h => by rw [sS, sS, sS_cg (n := n) fun i hi => h i (by omega), h n (by omega)]
theorem mS_cg {t t' : Nat → Nat} : ∀ {n : Nat}, (∀ i, i < n → t' i = t i) → mS t' n = mS t n
  | 0, _ => rfl
  | n + 1, h => by rw [mS, mS, mS_cg (n := n) fun i hi => h i (by omega), h n (by omega)]
theorem mS_le {t : Nat → Nat} : ∀ n, mS t n ≤ 1000000
  | 0 => Nat.le_refl _
  | n + 1 => by rw [mS]; have := mS_le (t := t) n; omega
theorem mS_ex {t : Nat → Nat} : ∀ n, mS t n < 1000000 → ∃ i, i < n ∧ t i = mS t n
  | 0, h => by rw [mS] at h; omega
  | n + 1, h => by
    rw [mS] at h ⊢
    by_cases c : mS t n ≤ t n
    · rw [Nat.min_eq_left c] at h ⊢
      obtain ⟨i, hi, e⟩ := mS_ex n h
      exact ⟨i, by omega, e⟩
    · exact ⟨n, by omega, by omega⟩
/-- how many readings there are from each place on, r places from the line's end being known -/
def wy (κ : Nat → Nat) : Nat → Nat → Int32
  | 0 => upd (fun _ => 0) (κ 12) 1
  | r + 1 => upd (wy κ r) (κ 12 - (r + 1)) (sS (fun j => if dif κ j (κ 12 - (r + 1)) = 0 then wy κ r (κ 12 - (r + 1) + κ (31 + j)) else 0) (κ 55))
/-- .. that begin with the orders done from the k-th on: q known -/
def fy (κ : Nat → Nat) : Nat → Nat → Int32
  | 0 => wy κ (κ 12)
  | q + 1 => fun at_ => if at_ < κ 12 then sS (fun j => if κ (39 + j) = κ (47 + (κ 57 - (q + 1))) ∧ dif κ j at_ = 0 then fy κ q (at_ + κ (31 + j)) else 0) (κ 55) else 0
/-- what is least to be paid from a place on: by weights, or (md) by cloths that are other ones -/
def prc (κ : Nat → Nat) (md : Bool) (wt : Nat → Nat) (a : Nat → Nat) (at_ j : Nat) : Nat := if dif κ j at_ = 1000000 ∨ (md = false ∧ 0 < dif κ j at_) then 1000000 else min 1000000 ((if md then dif κ j at_ else wt j) + a (at_ + κ (31 + j)))
def ly (κ : Nat → Nat) (md : Bool) (wt : Nat → Nat) : Nat → Nat → Nat
  | 0 => va_up (fun _ => 0) (κ 12) 0
  | r + 1 => va_up (ly κ md wt r) (κ 12 - (r + 1)) (mS (prc κ md wt (ly κ md wt r) (κ 12 - (r + 1))) (κ 55))
theorem prc_le {κ : Nat → Nat} {md : Bool} {wt a : Nat → Nat} {at_ j : Nat} : prc κ md wt a at_ j ≤ 1000000 := by
  unfold prc
  split <;> omega
theorem prc_cg {κ : Nat → Nat} {md : Bool} {wt a a' : Nat → Nat} {at_ j : Nat} (h : at_ + κ (31 + j) ≤ κ 12 → a' (at_ + κ (31 + j)) = a (at_ + κ (31 + j))) : prc κ md wt a' at_ j = prc κ md wt a at_ j := by
  unfold prc
  split
  · rfl
  · rename_i hc
    have : ¬ κ 12 < at_ + κ (31 + j) := fun h2 => hc (Or.inl (if_pos h2))
    rw [h (by omega)]
theorem wy_last {κ : Nat → Nat} : ∀ r, r ≤ κ 12 → wy κ r (κ 12) = 1
  | 0, _ => upd_s
  | r + 1, h => by rw [wy, upd_ne (by omega)]; exact wy_last r (by omega)
theorem wy_keep {κ : Nat → Nat} (i : Nat) : ∀ (k r : Nat), r + k ≤ κ 12 → κ 12 - r ≤ i → wy κ (r + k) i = wy κ r i
  | 0, _, _, _ => rfl
  | k + 1, r, h, hi => by
    rw [← Nat.add_assoc, wy, upd_ne (by omega)]
    exact wy_keep i k r (by omega) hi
/-- at every place that is known the value is the sum by the places behind it -/
theorem wy_at {κ : Nat → Nat} {R at_ : Nat} (hR : R ≤ κ 12) (h1 : at_ < κ 12) (h2 : κ 12 ≤ at_ + R) (hl : ∀ j, j < κ 55 → 1 ≤ κ (31 + j)) : wy κ R at_ = sS (fun j => if dif κ j at_ = 0 then wy κ R (at_ + κ (31 + j)) else 0) (κ 55) := by
  obtain ⟨r, hr⟩ : ∃ r, κ 12 - at_ = r + 1 := ⟨κ 12 - at_ - 1, by omega⟩
  obtain ⟨k, rfl⟩ : ∃ k, R = r + 1 + k := ⟨R - (r + 1), by omega⟩
  rw [wy_keep at_ k (r + 1) hR (by omega), wy, show κ 12 - (r + 1) = at_ by omega, upd_s]
  apply sS_cg
  intro j hj
  have := hl j hj
  split
  · rw [Nat.add_assoc r 1 k, wy_keep _ (1 + k) r (by omega) (by omega)]
  · rfl
theorem ly_last {κ : Nat → Nat} {md : Bool} {wt : Nat → Nat} : ∀ r, r ≤ κ 12 → ly κ md wt r (κ 12) = 0
  | 0, _ => va_s
  | r + 1, h => by rw [ly, va_ne (by omega)]; exact ly_last r (by omega)
theorem ly_keep {κ : Nat → Nat} {md : Bool} {wt : Nat → Nat} (i : Nat) : ∀ (k r : Nat), r + k ≤ κ 12 → κ 12 - r ≤ i → ly κ md wt (r + k) i = ly κ md wt r i
  | 0, _, _, _ => rfl
  | k + 1, r, h, hi => by
    rw [← Nat.add_assoc, ly, va_ne (by omega)]
    exact ly_keep i k r (by omega) hi
theorem ly_at {κ : Nat → Nat} {md : Bool} {wt : Nat → Nat} {R at_ : Nat} (hR : R ≤ κ 12) (h1 : at_ < κ 12) (h2 : κ 12 ≤ at_ + R) (hl : ∀ j, j < κ 55 → 1 ≤ κ (31 + j)) : ly κ md wt R at_ = mS (prc κ md wt (ly κ md wt R) at_) (κ 55) := by
  obtain ⟨r, hr⟩ : ∃ r, κ 12 - at_ = r + 1 := ⟨κ 12 - at_ - 1, by omega⟩
  obtain ⟨k, rfl⟩ : ∃ k, R = r + 1 + k := ⟨R - (r + 1), by omega⟩
  rw [ly_keep at_ k (r + 1) hR (by omega), ly, show κ 12 - (r + 1) = at_ by omega, va_s]
  apply mS_cg
  intro j hj
  have := hl j hj
  apply prc_cg
  intro h
  rw [Nat.add_assoc r 1 k, ly_keep _ (1 + k) r (by omega) (by omega)]
theorem ly_le {κ : Nat → Nat} {md : Bool} {wt : Nat → Nat} (i : Nat) : ∀ r, ly κ md wt r i ≤ 1000000
  | 0 => by
    rw [ly]
    unfold va_up
    split
    · omega
    · exact Nat.zero_le _
  | r + 1 => by
    rw [ly]
    unfold va_up
    split
    · exact mS_le _
    · exact ly_le i r
