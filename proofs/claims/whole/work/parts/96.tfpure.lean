/-! two readings: what one is ahead of the other by; pure -/
/-- a row of n cloths as the class's code: a 1 above them -/
def Kc (c : Nat → Nat) (n : Nat) : Nat := 4 ^ n + codF c n
def siz (i : Nat) : Nat := if 4 ≤ i then (if 16 ≤ i then (if 64 ≤ i then (if 256 ≤ i then 4 else 3) else 2) else 1) else 0
/-- what is left of r behind p -/
def lf (p r : Nat) : Option Nat := if siz p < siz r ∧ r / 4 ^ (siz r - siz p) = p then some (4 ^ (siz r - siz p) + r % 4 ^ (siz r - siz p)) else none
theorem siz_K {c : Nat → Nat} {n : Nat} (hn : n ≤ 4) (hc : ∀ k, k < n → c k ≤ 3) : siz (Kc c n) = n ∧ 4 ^ n ≤ Kc c n ∧ Kc c n < 2 * 4 ^ n := by
  have := codF_lt hc
  unfold Kc siz
  have h : n = 0 ∨ n = 1 ∨ n = 2 ∨ n = 3 ∨ n = 4 := by omega
  rcases h with rfl | rfl | rfl | rfl | rfl
  all_goals (refine ⟨?_, by omega, by omega⟩; repeat' split)
  all_goals omega
theorem Kc_split {c : Nat → Nat} {m d : Nat} (hc : ∀ k, k < m + d → c k ≤ 3) : Kc c (m + d) / 4 ^ d = Kc c m ∧ Kc c (m + d) % 4 ^ d = codF (fun k => c (m + k)) d := by
  have h1 := codF_div (c := c) m d hc
  have h2 := codF_mod (c := c) m d hc
  have hp : 0 < 4 ^ d := Nat.pow_pos (by decide)
  unfold Kc
  rw [Nat.pow_add, Nat.mul_comm (4 ^ m) (4 ^ d)]
  refine ⟨?_, ?_⟩
  · rw [Nat.mul_add_div hp, h1]
  · rw [Nat.mul_add_mod, h2]
theorem Kc_inj {c c' : Nat → Nat} {m : Nat} (hc : ∀ k, k < m → c k ≤ 3) (hc' : ∀ k, k < m → c' k ≤ 3) : Kc c m = Kc c' m ↔ ∀ k, k < m → c k = c' k := by
  refine ⟨fun h => codF_inj hc hc' (by unfold Kc at h; omega), fun h => ?_⟩
  unfold Kc
  rw [codF_cg h]
theorem Kc_cg {c c' : Nat → Nat} {n : Nat} (h : ∀ k, k < n → c k = c' k) : Kc c n = Kc c' n := by
  unfold Kc
  rw [codF_cg h]
theorem lf_y {c c' : Nat → Nat} {m n : Nat} (hmn : m < n) (hn : n ≤ 4) (hc : ∀ k, k < m → c k ≤ 3) (hc' : ∀ k, k < n → c' k ≤ 3) (he : ∀ k, k < m → c' k = c k) : lf (Kc c m) (Kc c' n) = some (Kc (fun k => c' (m + k)) (n - m)) := by
  obtain ⟨d, rfl⟩ : ∃ d, n = m + d := ⟨n - m, by omega⟩
  have s1 := (siz_K (n := m) (by omega) hc).1
  have s2 := (siz_K hn hc').1
  obtain ⟨k1, k2⟩ := Kc_split hc'
  unfold lf
  rw [s1, s2, show m + d - m = d by omega, k1, k2, if_pos ⟨by omega, (Kc_inj (fun k hk => hc' k (by omega)) hc).mpr he⟩]
  rfl
theorem lf_n {c c' : Nat → Nat} {m n : Nat} (hm : m ≤ 4) (hn : n ≤ 4) (hc : ∀ k, k < m → c k ≤ 3) (hc' : ∀ k, k < n → c' k ≤ 3) (he : ¬ (m < n ∧ ∀ k, k < m → c' k = c k)) : lf (Kc c m) (Kc c' n) = none := by
  have s1 := (siz_K hm hc).1
  have s2 := (siz_K hn hc').1
  unfold lf
  rw [s1, s2]
  by_cases c1 : m < n
  · obtain ⟨d, rfl⟩ : ∃ d, n = m + d := ⟨n - m, by omega⟩
    obtain ⟨k1, k2⟩ := Kc_split hc'
    rw [show m + d - m = d by omega, k1]
    refine if_neg fun h => he ⟨c1, (Kc_inj (fun k hk => hc' k (by omega)) hc).mp h.2⟩
  · exact if_neg fun h => c1 h.1
theorem siz_rg (i : Nat) : siz i ≤ 4 ∧ (4 ≤ i → 1 ≤ siz i) := by
  unfold siz
  repeat' split
  all_goals omega
theorem lf_rng {p r y : Nat} (hp : 4 ≤ p) (h : lf p r = some y) : 4 ≤ y ∧ y < 128 ∧ siz y = siz r - siz p := by
  unfold lf at h
  split at h
  · rename_i c
    cases h
    have h1 := siz_rg r
    have h2 := (siz_rg p).2 hp
    have hd : siz r - siz p = 1 ∨ siz r - siz p = 2 ∨ siz r - siz p = 3 := by omega
    have hm := Nat.mod_lt r (show 0 < 4 ^ (siz r - siz p) from Nat.pow_pos (by decide))
    rcases hd with e | e | e
    all_goals
      rw [e] at hm ⊢
      refine ⟨by omega, by omega, ?_⟩
      unfold siz
      repeat' split
      all_goals omega
  · cases h
/-- a row is one reading ahead by with so many cloths -/
def Rch (S : Nat → Prop) (x c : Nat) : Prop := ∀ Q : Nat → Nat → Prop, (∀ a b y, S a → S b → lf a b = some y → Q y (siz b)) → (∀ x c a y, Q x c → S a → lf a x = some y → Q y c) → (∀ x c a y, Q x c → S a → lf x a = some y → Q y (c + siz y)) → Q x c
theorem Rch.b {S : Nat → Prop} {a b y : Nat} (h1 : S a) (h2 : S b) (h3 : lf a b = some y) : Rch S y (siz b) := fun _ q1 _ _ => q1 a b y h1 h2 h3
theorem Rch.s1 {S : Nat → Prop} {x c a y : Nat} (h : Rch S x c) (h2 : S a) (h3 : lf a x = some y) : Rch S y c := fun Q q1 q2 q3 => q2 x c a y (h Q q1 q2 q3) h2 h3
theorem Rch.s2 {S : Nat → Prop} {x c a y : Nat} (h : Rch S x c) (h2 : S a) (h3 : lf x a = some y) : Rch S y (c + siz y) := fun Q q1 q2 q3 => q3 x c a y (h Q q1 q2 q3) h2 h3
theorem Rch.rng {S : Nat → Prop} (hS : ∀ a, S a → 4 ≤ a) {x c : Nat} (h : Rch S x c) : 4 ≤ x ∧ x < 128 := by
  refine h (fun x _ => 4 ≤ x ∧ x < 128) (fun a b y h1 h2 h3 => ?_) (fun x c a y q h2 h3 => ?_) fun x c a y q h2 h3 => ?_
  · obtain ⟨g1, g2, -⟩ := lf_rng (hS a h1) h3
    exact ⟨g1, g2⟩
  · obtain ⟨g1, g2, -⟩ := lf_rng (hS a h2) h3
    exact ⟨g1, g2⟩
  · obtain ⟨g1, g2, -⟩ := lf_rng q.1 h3
    exact ⟨g1, g2⟩
theorem least {p : Nat → Prop} (h : ∃ n, p n) : ∃ n, p n ∧ ∀ m, p m → n ≤ m := by
  obtain ⟨n, hn⟩ := h
  induction n using Nat.strongRecOn with
  | ind n ih =>
    by_cases c : ∃ m, m < n ∧ p m
    · obtain ⟨m, hm, hp⟩ := c
      exact ih m hm hp
    · refine ⟨n, hn, fun m hm => ?_⟩
      by_cases c2 : n ≤ m
      · exact c2
      · exact absurd ⟨m, by omega, hm⟩ c
theorem D_ex (S : Nat → Prop) : ∃ D : Nat → Nat, ∀ x, D x ≤ 1000000 ∧ (D x < 1000000 → Rch S x (D x)) ∧ ∀ c, Rch S x c → D x ≤ c := by
  have one : ∀ x, ∃ d, d ≤ 1000000 ∧ (d < 1000000 → Rch S x d) ∧ ∀ c, Rch S x c → d ≤ c := by
    intro x
    obtain ⟨d, h1, h2⟩ := least (p := fun c => Rch S x c ∨ c = 1000000) ⟨1000000, Or.inr rfl⟩
    refine ⟨d, h2 _ (Or.inr rfl), fun c => ?_, fun c hc => h2 c (Or.inl hc)⟩
    rcases h1 with h1 | h1
    · exact h1
    · omega
  exact ⟨fun x => (one x).choose, fun x => (one x).choose_spec⟩
/-- an array of such costs: each is one, the beginnings are there -/
def gdA (S : Nat → Prop) (A : Nat → Nat) : Prop := (∀ x, A x ≤ 1000000) ∧ (∀ x, A x < 1000000 → Rch S x (A x)) ∧ ∀ a b y, S a → S b → lf a b = some y → A y ≤ siz b
/-- A' goes on from A by every sign -/
def prA (S : Nat → Prop) (A A' : Nat → Nat) : Prop := ∀ x a y, S a → A x < 1000000 → (lf a x = some y → A' y ≤ A x) ∧ (lf x a = some y → A' y ≤ A x + siz y)
theorem fix_le {S : Nat → Prop} {A : Nat → Nat} (h : gdA S A) (hc : prA S A A) {x c : Nat} (hr : Rch S x c) : A x ≤ c := by
  refine hr (fun x c => A x ≤ c) (fun a b y h1 h2 h3 => h.2.2 a b y h1 h2 h3) (fun x c a y q h2 h3 => ?_) fun x c a y q h2 h3 => ?_
  · have := h.1 y
    by_cases e : A x < 1000000
    · have := (hc x a y h2 e).1 h3
      omega
    · omega
  · have := h.1 y
    by_cases e : A x < 1000000
    · have := (hc x a y h2 e).2 h3
      omega
    · omega
theorem fix_eq {S : Nat → Prop} {A D : Nat → Nat} (hD : ∀ x, D x ≤ 1000000 ∧ (D x < 1000000 → Rch S x (D x)) ∧ ∀ c, Rch S x c → D x ≤ c) (h : gdA S A) (hc : prA S A A) (x : Nat) : A x = D x := by
  obtain ⟨d1, d2, d3⟩ := hD x
  have a1 := h.1 x
  have l1 : A x ≤ D x := by
    by_cases e : D x < 1000000
    · exact fix_le h hc (d2 e)
    · omega
  have l2 : D x ≤ A x := by
    by_cases e : A x < 1000000
    · exact d3 _ (h.2.1 x e)
    · omega
  omega
/-- a round brings one more to its least -/
theorem pr_more {S : Nat → Prop} {A A' D : Nat → Nat} (hD : ∀ x, D x ≤ 1000000 ∧ (D x < 1000000 → Rch S x (D x)) ∧ ∀ c, Rch S x c → D x ≤ c) (h : gdA S A) (h' : gdA S A') (hp : prA S A A') {x : Nat} (hx : A x ≠ D x) : ∃ z, A z ≠ D z ∧ A' z = D z ∧ D z < 1000000 := by
  have lo : ∀ (B : Nat → Nat), gdA S B → ∀ z, D z ≤ B z := fun B hB z => by
    by_cases e : B z < 1000000
    · exact (hD z).2.2 _ (hB.2.1 z e)
    · have := (hD z).1
      omega
  have hx1 := lo A h x
  have hx2 := h.1 x
  have hr := (hD x).2.1 (by omega)
  have key : Rch S x (D x) ∧ (D x = D x → A x = D x ∨ ∃ z, A z ≠ D z ∧ A' z = D z ∧ D z < 1000000) := by
    refine hr (fun x c => Rch S x c ∧ (c = D x → A x = D x ∨ ∃ z, A z ≠ D z ∧ A' z = D z ∧ D z < 1000000)) (fun a b y h1 h2 h3 => ⟨Rch.b h1 h2 h3, fun hc => ?_⟩) (fun x c a y q h2 h3 => ⟨q.1.s1 h2 h3, fun hc => ?_⟩) fun x c a y q h2 h3 => ⟨q.1.s2 h2 h3, fun hc => ?_⟩
    · have g1 := h.2.2 a b y h1 h2 h3
      have g2 := lo A h y
      exact Or.inl (by omega)
    · have e1 := (hD x).2.2 c q.1
      have e2 : D y ≤ D x := by
        by_cases e : D x < 1000000
        · exact (hD y).2.2 _ (((hD x).2.1 e).s1 h2 h3)
        · have := (hD y).1
          omega
      rcases q.2 (by omega) with k | k
      · by_cases e : A y = D y
        · exact Or.inl e
        · have b1 := lo A h y
          have b2 := h.1 y
          have b3 := lo A' h' y
          have b4 := (hp x a y h2 (by omega)).1 h3
          exact Or.inr ⟨y, e, by omega, by omega⟩
      · exact Or.inr k
    · have e1 := (hD x).2.2 c q.1
      have e2 : D y ≤ D x + siz y := by
        by_cases e : D x < 1000000
        · exact (hD y).2.2 _ (((hD x).2.1 e).s2 h2 h3)
        · have := (hD y).1
          omega
      rcases q.2 (by omega) with k | k
      · by_cases e : A y = D y
        · exact Or.inl e
        · have b1 := lo A h y
          have b2 := h.1 y
          have b3 := lo A' h' y
          have b4 := (hp x a y h2 (by omega)).2 h3
          exact Or.inr ⟨y, e, by omega, by omega⟩
      · exact Or.inr k
  rcases key.2 rfl with k | k
  · exact absurd k hx
  · exact k
/-- how many below n -/
def cnt (p : Nat → Bool) : Nat → Nat
  | 0 => 0
  | n + 1 => cnt p n + if p n = true then 1 else 0
theorem cnt_le {p : Nat → Bool} : ∀ n, cnt p n ≤ n
  | 0 => Nat.le_refl _
  | n + 1 => by
    have := cnt_le (p := p) n
    rw [cnt]
    split <;> omega
theorem cnt_mono {p q : Nat → Bool} : ∀ n, (∀ i, i < n → p i = true → q i = true) → cnt p n ≤ cnt q n
  | 0, _ => Nat.le_refl _
  | n + 1, h => by
    have := cnt_mono (p := p) (q := q) n fun i hi => h i (by omega)
    have h2 := h n (by omega)
    rw [cnt, cnt]
    by_cases e : p n = true
    · rw [if_pos e, if_pos (h2 e)]; omega
    · rw [if_neg e]; split <;> omega
theorem cnt_lt {p q : Nat → Bool} {z : Nat} (hp : ¬ p z = true) (hq : q z = true) : ∀ n, (∀ i, i < n → p i = true → q i = true) → z < n → cnt p n + 1 ≤ cnt q n
  | 0, _, h => absurd h (Nat.not_lt_zero z)
  | n + 1, h, hz => by
    rw [cnt, cnt]
    by_cases e : z = n
    · subst e
      have := cnt_mono (p := p) (q := q) z fun i hi => h i (by omega)
      rw [if_neg hp, if_pos hq]
      omega
    · have := cnt_lt hp hq n (fun i hi => h i (by omega)) (by omega)
      have h2 := h n (by omega)
      by_cases e : p n = true
      · rw [if_pos e, if_pos (h2 e)]; omega
      · rw [if_neg e]; split <;> omega
theorem cnt_full {p : Nat → Bool} : ∀ n, n ≤ cnt p n → ∀ i, i < n → p i = true
  | 0, _, i, hi => absurd hi (Nat.not_lt_zero i)
  | n + 1, h, i, hi => by
    have hl := cnt_le (p := p) n
    rw [cnt] at h
    by_cases e : p n = true
    · rw [if_pos e] at h
      by_cases e2 : i = n
      · rw [e2]; exact e
      · exact cnt_full n (by omega) i (by omega)
    · rw [if_neg e] at h
      omega
theorem cnt_eq {p q : Nat → Bool} : ∀ n, (∀ i, i < n → p i = q i) → cnt p n = cnt q n
  | 0, _ => rfl
  | n + 1, h => by rw [cnt, cnt, cnt_eq n fun i hi => h i (by omega), h n (by omega)]
theorem cnt_add {p q : Nat → Bool} {z : Nat} (hp : p z = false) (hq : q z = true) : ∀ n, (∀ i, i < n → i ≠ z → q i = p i) → z < n → cnt q n = cnt p n + 1
  | 0, _, h => absurd h (Nat.not_lt_zero z)
  | n + 1, h, hz => by
    rw [cnt, cnt]
    by_cases e : z = n
    · subst e
      rw [cnt_eq (p := q) (q := p) z fun i hi => h i (by omega) (by omega), hp, hq]
      rfl
    · rw [cnt_add hp hq n (fun i hi => h i (by omega)) (by omega), h n (by omega) (by omega)]
      omega
/-- the fewest cloths of a line with two readings -/
def Tw (S : Nat → Prop) (r : Nat) : Prop := r ≤ 1000000 ∧ (r < 1000000 → ∃ a, S a ∧ Rch S a r) ∧ ∀ a c, S a → Rch S a c → r ≤ c
theorem Tw.uniq {S : Nat → Prop} {r r' : Nat} (h : Tw S r) (h' : Tw S r') : r = r' := by
  have one : ∀ r r', Tw S r → Tw S r' → r ≤ r' := fun r r' h h' => by
    by_cases e : r' < 1000000
    · obtain ⟨a, h1, h2⟩ := h'.2.1 e
      exact h.2.2 a r' h1 h2
    · have := h.1
      omega
  have := one r r' h h'
  have := one r' r h' h
  omega
theorem Rch.cg {S S' : Nat → Prop} (h : ∀ a, S a ↔ S' a) {x c : Nat} (hr : Rch S x c) : Rch S' x c := fun Q q1 q2 q3 => hr Q (fun a b y h1 h2 h3 => q1 a b y ((h a).mp h1) ((h b).mp h2) h3) (fun x c a y q h2 h3 => q2 x c a y q ((h a).mp h2) h3) fun x c a y q h2 h3 => q3 x c a y q ((h a).mp h2) h3
theorem Tw.cg {S S' : Nat → Prop} (h : ∀ a, S a ↔ S' a) {r : Nat} (ht : Tw S r) : Tw S' r :=
  ⟨ht.1, fun e => by obtain ⟨a, h1, h2⟩ := ht.2.1 e; exact ⟨a, (h a).mp h1, h2.cg h⟩, fun a c h1 h2 => ht.2.2 a c ((h a).mpr h1) (h2.cg fun x => (h x).symm)⟩
/-- the signs kept, as codes -/
def sgS (κ : Nat → Nat) (kept : Nat) (a : Nat) : Prop := ∃ j, j < κ 55 ∧ kept / 2 ^ j % 2 = 1 ∧ a = Kc (clo κ j) (κ (31 + j))
