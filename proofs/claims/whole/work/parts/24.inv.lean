/-! THE RELATION between class and reference (in pieces); the reference's kept row K is the abstract state -/
def k_le (x : Int32) (n : Nat) : Prop := ∃ m : Nat, m ≤ n ∧ x = nI m
/-- a row of cloths as the reference's digits, as the class's number to the base 4 -/
def k_dig : List Nat → Nat
  | [] => 0
  | c :: r => (c + 1) * 10 ^ r.length + k_dig r
def k_cod : List Nat → Nat
  | [] => 0
  | c :: r => c * 4 ^ r.length + k_cod r
/-- sign number j of the row K: its cloths cs, what it means -/
def k_sign (K : Nat → Int32) (j : Nat) (cs : List Nat) (mn : Nat) : Prop := 1 ≤ cs.length ∧ cs.length ≤ 4 ∧ (∀ c ∈ cs, c ≤ 3) ∧ mn ≤ 5 ∧ K (23 + j) = nI (k_dig cs) ∧ K (31 + j) = nI cs.length ∧ K (39 + j) = nI mn
/-- the ranges of what the reference keeps, but for laws -/
def k_wf (K : Nat → Int32) : Prop :=
  k_le (K 12) 12 ∧ (∀ i, i < 12 → k_le (K i) 3) ∧ (∀ p, p < 3 → k_le (K (13 + p)) 24 ∧ k_le (K (16 + p)) 3 ∧ k_le (K (19 + p)) 9) ∧ k_le (K 22) 999 ∧ k_le (K 53) 10 ∧ k_le (K 54) 9 ∧ k_le (K 56) 3 ∧ k_le (K 57) 6 ∧ (∀ i, i < 6 → k_le (K (47 + i)) 5) ∧ k_le (K 58) 6 ∧ (K 59 = -1 ∨ ∃ j n : Nat, n ≤ 6 ∧ K 58 = nI n ∧ j < n ∧ K 59 = nI j) ∧
  ∃ S : List (List Nat × Nat), S.length ≤ 8 ∧ K 55 = nI S.length ∧ (S.map Prod.fst).Nodup ∧ ∀ (j : Nat) (q : List Nat × Nat), S[j]? = some q → k_sign K j q.1 q.2
/-- the class's State at cell b is the row K, but for its laws and what can be undone -/
def k_xs (f : Nat → Int32) (g : Nat → Nat → Int32) (b : Nat) (K : Nat → Int32) : Prop :=
  f (64 * b) = K 55 ∧ (∀ (j : Nat) (cs : List Nat) (mn n : Nat), n ≤ 8 → K 55 = nI n → j < n → k_sign K j cs mn → g (b + 1) j = nI (k_cod cs) ∧ g (b + 2) j = K (31 + j) ∧ g (b + 3) j = K (39 + j)) ∧
  f (64 * b + 4) = K 56 ∧ (∀ p n : Nat, n ≤ 3 → K 56 = nI n → p < n → g (b + 4) p = (K (13 + p) * 4 + K (16 + p)) * 10 + K (19 + p)) ∧
  f (64 * b + 6) = K 12 ∧ (∀ cs : List Nat, cs.length ≤ 12 → K 12 = nI cs.length → (∀ (i c : Nat), cs[i]? = some c → K i = nI c) → f (64 * b + 7) = nI (k_cod cs)) ∧
  f (64 * b + 8) = K 57 ∧ (∀ i n : Nat, n ≤ 6 → K 57 = nI n → i < n → g (b + 5) i = K (47 + i)) ∧ f (64 * b + 10) = K 58 ∧ f (64 * b + 12) = K 59 ∧ g (b + 7) 0 = K 22 ∧ g (b + 7) 1 = K 53 ∧ g (b + 7) 2 = K 54
/-- numbers that both hold as they are -/
def k_eqs (f : Nat → Int32) (g : Nat → Nat → Int32) : Prop := f 14 = f 4750 ∧ f 15 = f 4742 ∧ f 16 = f 4778 ∧ f 18 = f 4736 ∧ f 6 = f 4749 ∧ k_le (f 6) 400 ∧ (∀ j, j < 7 → g 55 j = g 75 j) ∧ f 78 = f 4777 ∧ k_le (f 78) 16
theorem k_wf0 : k_wf (k_g 76) := by
  have z : ∀ n, k_le 0 n := fun n => ⟨0, Nat.zero_le _, rfl⟩
  refine ⟨z _, fun i hi => ?_, fun p hp => ?_, z _, ⟨5, by decide, rfl⟩, z _, z _, z _, fun i hi => ?_, z _, Or.inl rfl, [], by decide, rfl, by simp, fun j q h => by simp at h⟩
  · have : k_g 76 i = 0 := by
      match i, hi with
      | 0, _ | 1, _ | 2, _ | 3, _ | 4, _ | 5, _ | 6, _ | 7, _ | 8, _ | 9, _ | 10, _ | 11, _ => rfl
    rw [this]; exact z _
  · match p, hp with
    | 0, _ | 1, _ | 2, _ => exact ⟨z _, z _, z _⟩
  · match i, hi with
    | 0, _ | 1, _ | 2, _ | 3, _ | 4, _ | 5, _ => exact z _
theorem k_eqs0 : k_eqs k_f k_g := by
  refine ⟨rfl, rfl, rfl, rfl, rfl, ⟨0, by decide, rfl⟩, fun j hj => ?_, rfl, ⟨0, by decide, rfl⟩⟩
  match j, hj with
  | 0, _ | 1, _ | 2, _ | 3, _ | 4, _ | 5, _ | 6, _ => rfl
theorem k_z {n m : Nat} (hm : n ≤ m) (hs : m < 2 ^ 31) (h : (0 : Int32) = nI n) : n = 0 := by
  have h1 := (nI_eq (a := 0) (b := n) (by decide) (by omega)).mp h
  omega
theorem k_xs0 : k_xs k_f k_g 1 (k_g 76) := by
  refine ⟨rfl, fun j cs mn n hn h hj => ?_, rfl, fun p n hn h hp => ?_, rfl, fun cs hn h _ => ?_, rfl, fun i n hn h hi => ?_, rfl, rfl, rfl, rfl, rfl⟩
  · have := k_z hn (by decide) h
    omega
  · have := k_z hn (by decide) h
    omega
  · have := k_z hn (by decide) h
    have : cs = [] := List.length_eq_zero_iff.mp this
    subst this
    rfl
  · have := k_z hn (by decide) h
    omega
