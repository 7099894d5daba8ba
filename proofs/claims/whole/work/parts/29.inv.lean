/-! the whole relation; how an operation is shown -/
def i_eq (a a' b b' c c' e e' : Int32) (r r' : Nat → Int32) : Prop := a = a' ∧ b = b' ∧ c = c' ∧ e = e' ∧ ∀ j, j < 7 → r j = r' j
/-- the tape: n bytes b -/
def i_tape (xn mn : Int32) (xt mt : Nat → Int32) : Prop := ∃ (n : Nat) (b : Nat → Nat), n ≤ 400 ∧ xn = iI (n : Int) ∧ mn = iI (n : Int) ∧ ∀ i, i < n → b i < 256 ∧ xt i = iI (b i : Int) ∧ mt i = iI (if b i < 128 then (b i : Int) else (b i : Int) - 256)
/-- what an act's code (the class's) takes to be undone: R was ahead of it, S behind -/
def i_act (m c : Nat) (R S : Nat → Nat) : Prop :=
  (c % 4 = 0 ∧ S 12 = R 12 + 1 ∧ (∀ i, i < R 12 → S i = R i) ∧ (∀ p, p < m → spot S p = spot R p) ∧ S 22 = R 22) ∨
  (c % 4 = 1 ∧ R 12 = S 12 + 1 ∧ (∀ i, i < S 12 → S i = R i) ∧ R (S 12) = c / 4 ∧ (∀ p, p < m → spot S p = spot R p) ∧ S 22 = R 22) ∨
  (c % 4 = 2 ∧ S 12 = R 12 ∧ (∀ i, i < R 12 → S i = R i) ∧ c / 4 % 4 < m ∧ (∀ p, p < m → p ≠ c / 4 % 4 → spot S p = spot R p) ∧ c / 16 = spot R (c / 4 % 4) ∧ S 22 = R 22) ∨
  (c % 4 = 3 ∧ S 12 = R 12 ∧ (∀ i, i < R 12 → S i = R i) ∧ (∀ p, p < m → spot S p = spot R p) ∧ S 22 = R 22 + 1)
/-- what can be undone: so many acts a; the rows that the reference keeps (24 numbers each), the class's codes; the last one leads to κ -/
def i_acts (xa ma : Int32) (ac le : Nat → Int32) (κ : Nat → Nat) : Prop := ∃ (a : Nat) (c : Nat → Nat) (R : Nat → Nat → Nat), a ≤ 16 ∧ xa = iI (a : Int) ∧ ma = iI (a : Int) ∧ (∀ i, i < 23 → R a i = κ i) ∧
  ∀ k, k < a → c k < 2147483648 ∧ ac k = iI (c k : Int) ∧ (∀ i, i < 23 → le (24 * k + i) = iI (R k i : Int)) ∧ le (24 * k + 23) = iI ((c k % 4 : Nat) : Int) ∧ wH (fun i => if i < 23 then R k i else κ i) ∧ wL (R k) ∧ R k 22 ≤ 999 ∧ i_act (κ 56) (c k) (R k) (R (k + 1))
/-- an image -/
def i_img (xk mk : Int32) (n : Int32) (ro lo me : Nat → Int32) (m : Int32) (sp : Nat → Int32) (hu cl dn : Int32) (dd : Nat → Int32) (la : Int32) (lw : Nat → Option Nat) (fo : Int32) (te : Nat → Int32) (tx : mm_W) (K : Nat → Int32) : Prop :=
  xk = mk ∧ (xk = 0 ∨ (xk = 1 ∧ ∃ κ : Nat → Nat, wf κ ∧ ((∀ i, i < 5667 → i ≠ 59 → K i = iI (κ i)) ∧ K 59 = iI ((κ 59 : Int) - 1)) ∧ xs n ro lo me m sp hu cl dn dd la lw fo te tx κ))
/-- the latest months (and the words that the reference knows, which never change) -/
def i_drawn (xm mm : Int32) (sp dr wd : Nat → Int32) : Prop := ((xm = 0 ∧ mm = -1) ∨ ∃ (m : Nat) (κ : Nat → Nat), m ≤ 3 ∧ xm = iI (m : Int) ∧ mm = iI (m : Int) ∧ ∀ p, p < m → κ (13 + p) ≤ 24 ∧ κ (16 + p) ≤ 3 ∧ κ (19 + p) ≤ 9 ∧ sp p = iI (spot κ p) ∧ dr (13 + p) = iI (κ (13 + p)) ∧ dr (16 + p) = iI (κ (16 + p)) ∧ dr (19 + p) = iI (κ (19 + p))) ∧ wd = k_g 80
/-- a row of laws: each is none or a Text -/
def i_lw (tx : mm_W) (lw : Nat → Option Nat) : Prop := ∀ t o, lw t = some o → ∃ tt fs, o = tt + 100 ∧ tx[tt]? = some (.inr (6, fs))
def i_refs (hh : Nat → Nat → Option Nat) (tx : mm_W) : Prop := hh 28 0 = some 56 ∧ hh 28 1 = some 65 ∧ i_lw tx (hh 7) ∧ i_lw tx (hh 16) ∧ i_lw tx (hh 25) ∧ i_lw tx (hh 62) ∧ i_lw tx (hh 71)
def k_Inv : k_I := fun f fl g gl hh v tx => ∃ κ, wf κ ∧ ms (g 76) κ ∧ xs (f 64) (g 2) (g 3) (g 4) (f 68) (g 5) (f 70) (f 71) (f 72) (g 6) (f 74) (hh 7) (f 76) (g 8) tx κ ∧ i_eq (f 14) (f 4750) (f 15) (f 4742) (f 16) (f 4778) (f 18) (f 4736) (g 55) (g 75) ∧ i_tape (f 6) (f 4749) (g 30) (g 81) ∧ i_acts (f 78) (f 4777) (g 9) (g 97) κ ∧
  i_img (g 29 0) (g 78 0) (f 3584) (g 57) (g 58) (g 59) (f 3588) (g 60) (f 3590) (f 3591) (f 3592) (g 61) (f 3594) (hh 62) (f 3596) (g 63) tx (fun i => g 77 i) ∧
  i_img (g 29 1) (g 78 1) (f 4160) (g 66) (g 67) (g 68) (f 4164) (g 69) (f 4166) (f 4167) (f 4168) (g 70) (f 4170) (hh 71) (f 4172) (g 72) tx (fun i => g 77 (5667 + i)) ∧
  i_drawn (f 1220) (f 4786) (g 23) (g 99) (g 80) ∧ i_refs hh tx
/-- what the second half of an operation has to come to -/
def k_fn (E : Value) (Inv : k_I) (tx : mm_W) : Option Value → mm_W → Prop := fun r2 w2 => r2 = some E ∧ ∃ (f2 : Nat → Int32) (fl2 : Nat → Int64) (g2 : Nat → Nat → Int32) (gl2 : Nat → Nat → Int64) (hh2 : Nat → Nat → Option Nat) (v2 : Nat → Value) (tx2 : mm_W), w2 = Wd f2 fl2 g2 gl2 hh2 v2 tx2 ∧ Inv f2 fl2 g2 gl2 hh2 v2 tx2 ∧ tx2.length ≤ tx.length + 3 ∧ mm_sl tx2 ≤ mm_sl tx + 464
theorem k_mid {Inv : k_I} {X : mm_X} {mi : Nat} {Lm : mm_L} {tx0 : mm_W} {f : Nat → Int32} {fl : Nat → Int64} {g : Nat → Nat → Int32} {gl : Nat → Nat → Int64} {hh : Nat → Nat → Option Nat} {v : Nat → Value} {tx : mm_W} {e : Int32} (h : WP X 1999 mi (0, Lm, [], Wd f fl g gl hh v tx) (k_fn (.int e) Inv tx0)) :
    ∃ (a : Int64) (f1 : Nat → Int32) (fl1 : Nat → Int64) (g1 : Nat → Nat → Int32) (gl1 : Nat → Nat → Int64) (hh1 : Nat → Nat → Option Nat) (v1 : Nat → Value) (tx1 : mm_W), some (Value.int e) = some (k_mi a) ∧ Wd f fl g gl hh v tx = Wd f1 fl1 g1 gl1 hh1 v1 tx1 ∧ WP X 1999 mi (0, Lm, [], Wd f fl g gl hh v tx) (fun r2 w2 => r2 = some (k_mi a) ∧ ∃ (f2 : Nat → Int32) (fl2 : Nat → Int64) (g2 : Nat → Nat → Int32) (gl2 : Nat → Nat → Int64) (hh2 : Nat → Nat → Option Nat) (v2 : Nat → Value) (tx2 : mm_W), w2 = Wd f2 fl2 g2 gl2 hh2 v2 tx2 ∧ Inv f2 fl2 g2 gl2 hh2 v2 tx2 ∧ tx2.length ≤ tx0.length + 3 ∧ mm_sl tx2 ≤ mm_sl tx0 + 464) :=
  ⟨e.toInt64, f, fl, g, gl, hh, v, tx, by rw [k_i64], rfl, by rw [k_i64]; exact h⟩
theorem k_midl {Inv : k_I} {X : mm_X} {mi : Nat} {Lm : mm_L} {tx0 : mm_W} {f : Nat → Int32} {fl : Nat → Int64} {g : Nat → Nat → Int32} {gl : Nat → Nat → Int64} {hh : Nat → Nat → Option Nat} {v : Nat → Value} {tx : mm_W} {e : Int64} (h : WP X 1999 mi (0, Lm, [], Wd f fl g gl hh v tx) (k_fn (.long e) Inv tx0)) :
    ∃ (a : Int64) (f1 : Nat → Int32) (fl1 : Nat → Int64) (g1 : Nat → Nat → Int32) (gl1 : Nat → Nat → Int64) (hh1 : Nat → Nat → Option Nat) (v1 : Nat → Value) (tx1 : mm_W), some (Value.long e) = some (k_ml a) ∧ Wd f fl g gl hh v tx = Wd f1 fl1 g1 gl1 hh1 v1 tx1 ∧ WP X 1999 mi (0, Lm, [], Wd f fl g gl hh v tx) (fun r2 w2 => r2 = some (k_ml a) ∧ ∃ (f2 : Nat → Int32) (fl2 : Nat → Int64) (g2 : Nat → Nat → Int32) (gl2 : Nat → Nat → Int64) (hh2 : Nat → Nat → Option Nat) (v2 : Nat → Value) (tx2 : mm_W), w2 = Wd f2 fl2 g2 gl2 hh2 v2 tx2 ∧ Inv f2 fl2 g2 gl2 hh2 v2 tx2 ∧ tx2.length ≤ tx0.length + 3 ∧ mm_sl tx2 ≤ mm_sl tx0 + 464) :=
  ⟨e, f, fl, g, gl, hh, v, tx, rfl, rfl, h⟩
theorem k_fin {Inv : k_I} {tx0 : mm_W} {f : Nat → Int32} {fl : Nat → Int64} {g : Nat → Nat → Int32} {gl : Nat → Nat → Int64} {hh : Nat → Nat → Option Nat} {v : Nat → Value} {tx : mm_W} {e e2 : Int32} (he : e2 = e) (hI : Inv f fl g gl hh v tx) (h1 : tx.length ≤ tx0.length + 3) (h2 : mm_sl tx ≤ mm_sl tx0 + 464) : k_fn (.int e) Inv tx0 (some (.int e2)) (Wd f fl g gl hh v tx) := by
  subst he
  exact ⟨rfl, f, fl, g, gl, hh, v, tx, rfl, hI, h1, h2⟩
theorem k_finl {Inv : k_I} {tx0 : mm_W} {f : Nat → Int32} {fl : Nat → Int64} {g : Nat → Nat → Int32} {gl : Nat → Nat → Int64} {hh : Nat → Nat → Option Nat} {v : Nat → Value} {tx : mm_W} {e e2 : Int64} (he : e2 = e) (hI : Inv f fl g gl hh v tx) (h1 : tx.length ≤ tx0.length + 3) (h2 : mm_sl tx ≤ mm_sl tx0 + 464) : k_fn (.long e) Inv tx0 (some (.long e2)) (Wd f fl g gl hh v tx) := by
  subst he
  exact ⟨rfl, f, fl, g, gl, hh, v, tx, rfl, hI, h1, h2⟩
/-- the same world behind an operation that changes nothing that is told -/
theorem k_fin0 {Inv : k_I} {f : Nat → Int32} {fl : Nat → Int64} {g : Nat → Nat → Int32} {gl : Nat → Nat → Int64} {hh : Nat → Nat → Option Nat} {v : Nat → Value} {tx : mm_W} {e e2 : Int32} (he : e2 = e) (hI : Inv f fl g gl hh v tx) : k_fn (.int e) Inv tx (some (.int e2)) (Wd f fl g gl hh v tx) := k_fin he hI (by omega) (by omega)
theorem k_finl0 {Inv : k_I} {f : Nat → Int32} {fl : Nat → Int64} {g : Nat → Nat → Int32} {gl : Nat → Nat → Int64} {hh : Nat → Nat → Option Nat} {v : Nat → Value} {tx : mm_W} {e e2 : Int64} (he : e2 = e) (hI : Inv f fl g gl hh v tx) : k_fn (.long e) Inv tx (some (.long e2)) (Wd f fl g gl hh v tx) := k_finl he hI (by omega) (by omega)
/-- the start -/
def k_κ0 : Nat → Nat := fun i => if i = 53 then 5 else 0
theorem k_κ0_z {i : Nat} (h : i ≠ 53) : k_κ0 i = 0 := if_neg h
theorem k_init : k_Inv k_f (fun _ => 0) k_g (fun _ _ => 0) k_hh (fun _ => .null) [] := by
  have hz : ∀ {i : Nat}, i ≠ 53 → k_κ0 i = 0 := fun h => k_κ0_z h
  have hw : wf k_κ0 := by
    refine ⟨⟨by rw [hz (by decide)]; omega, fun j hj => ?_, fun i j hi hj => ?_⟩, ⟨by rw [hz (by decide)]; omega, fun p hp => ?_⟩, ⟨by rw [hz (by decide)]; omega, fun i hi => ?_⟩, ⟨by rw [hz (by decide)]; omega, fun i hi => ?_⟩, ⟨by rw [hz (by decide)]; omega, by rw [hz (by decide), hz (by decide)]; omega⟩, ⟨by rw [hz (by decide)]; omega, by show (5 : Nat) ≤ 10; omega, by rw [hz (by decide)]; omega⟩, fun i => ?_⟩
    · rw [hz (by decide)] at hj; omega
    · rw [hz (by decide)] at hi; omega
    · rw [hz (by omega), hz (by omega), hz (by omega)]; omega
    · rw [hz (by omega)]; omega
    · by_cases h : 47 + i = 53
      · omega
      · rw [hz h]; omega
    · unfold k_κ0; split <;> omega
  have e76 : ∀ i, k_g 76 i = if i = 59 then -1 else if i = 53 then 5 else 0 := fun i => rfl
  refine ⟨k_κ0, hw, ⟨fun i hi => ?_, ?_⟩, ⟨⟨?_, fun j hj => ?_⟩, ⟨?_, fun p hp => ?_⟩, ⟨?_, ?_⟩, ⟨?_, fun i hi => ?_⟩, ⟨?_, ?_, fun t ht => ?_⟩, ?_, ?_, ?_⟩, ⟨rfl, rfl, rfl, rfl, fun j hj => ?_⟩, ⟨0, fun _ => 0, by omega, rfl, rfl, fun i hi => absurd hi (Nat.not_lt_zero _)⟩, ⟨0, fun _ => 0, fun _ => k_κ0, by omega, rfl, rfl, fun i _ => rfl, fun k hk => absurd hk (Nat.not_lt_zero _)⟩, ⟨rfl, Or.inl rfl⟩, ⟨rfl, Or.inl rfl⟩, ⟨Or.inl ⟨rfl, rfl⟩, rfl⟩, ⟨rfl, rfl, ?_, ?_, ?_, ?_, ?_⟩⟩
  · rw [e76, if_neg hi, k_κ0]
    by_cases h : i = 53
    · rw [if_pos h, if_pos h]; rfl
    · rw [if_neg h, if_neg h]; rfl
  · rfl
  · rfl
  · rw [hz (by decide)] at hj; omega
  · rfl
  · rw [hz (by decide)] at hp; omega
  · rfl
  · rfl
  · rfl
  · rw [hz (by decide)] at hi; omega
  · rfl
  · rfl
  · rw [hz (by decide)] at ht; omega
  · rfl
  · rfl
  · rfl
  · match j, hj with
    | 0, _ | 1, _ | 2, _ | 3, _ | 4, _ | 5, _ | 6, _ => rfl
  all_goals (intro t o h; exact absurd h (by simp [k_hh, va_up]))
theorem i_acts.cg {xa ma : Int32} {ac le : Nat → Int32} {κ κ' : Nat → Nat} (h : i_acts xa ma ac le κ) (e : ∀ i, i < 23 ∨ i = 56 → κ' i = κ i) : i_acts xa ma ac le κ' := by
  obtain ⟨a, c, R, h1, h2, h3, h4, h5⟩ := h
  refine ⟨a, c, R, h1, h2, h3, fun i hi => (h4 i hi).trans (e i (Or.inl hi)).symm, fun k hk => ?_⟩
  obtain ⟨g1, g2, g3, g4, g5, g6⟩ := h5 k hk
  rw [e 56 (Or.inr rfl)]
  refine ⟨g1, g2, g3, g4, g5.cg fun i hi => ?_, g6⟩
  rcases hi with hi | rfl
  · show (if i < 23 then R k i else κ' i) = (if i < 23 then R k i else κ i)
    rw [if_pos (by omega), if_pos (by omega)]
  · exact e 56 (Or.inr rfl)
