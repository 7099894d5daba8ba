/-! plans: pure -/
def RsP (N : Nat → Nat → Nat) (ln : Nat → Nat) (J st : Nat) (x c : Nat) : Prop := ∀ Q : Nat → Nat → Prop, Q st 0 → (∀ x c j, Q x c → j < J → Q (N x j) (c + ln j)) → Q x c
def RlP (N : Nat → Nat → Nat) (ln : Nat → Nat) (J ce : Nat) (x c : Nat) : Prop := ∀ Q : Nat → Nat → Prop, (∀ x, x / 40 = ce → Q x 0) → (∀ x c j, j < J → Q (N x j) c → Q x (c + ln j)) → Q x c
def isDs (R : Nat → Nat → Prop) (D : Nat → Nat) : Prop := ∀ x, D x ≤ 1000000 ∧ (D x < 1000000 → R x (D x)) ∧ ∀ c, R x c → D x ≤ c
def NLok (N : Nat → Nat → Nat) (ln : Nat → Nat) (J : Nat) : Prop := (∀ x j, x < 1000 → N x j < 1000) ∧ ∀ j, j < J → 1 ≤ ln j ∧ ln j ≤ 4
theorem isDs_ex (R : Nat → Nat → Prop) : ∃ D : Nat → Nat, isDs R D := by
  have one : ∀ x, ∃ d, d ≤ 1000000 ∧ (d < 1000000 → R x d) ∧ ∀ c, R x c → d ≤ c := by
    intro x
    obtain ⟨d, h1, h2⟩ := least (p := fun c => R x c ∨ c = 1000000) ⟨1000000, Or.inr rfl⟩
    refine ⟨d, h2 _ (Or.inr rfl), fun c => ?_, fun c hc => h2 c (Or.inl hc)⟩
    rcases h1 with h1 | h1
    · exact h1
    · omega
  exact ⟨fun x => Classical.choose (one x), fun x => Classical.choose_spec (one x)⟩
theorem RsP.z {N : Nat → Nat → Nat} {ln : Nat → Nat} {J st : Nat} : RsP N ln J st st 0 := fun _ h _ => h
theorem RsP.s {N : Nat → Nat → Nat} {ln : Nat → Nat} {J st x c j : Nat} (h : RsP N ln J st x c) (hj : j < J) : RsP N ln J st (N x j) (c + ln j) := fun Q q1 q2 => q2 x c j (h Q q1 q2) hj
theorem RlP.z {N : Nat → Nat → Nat} {ln : Nat → Nat} {J ce x : Nat} (h : x / 40 = ce) : RlP N ln J ce x 0 := fun _ q _ => q x h
theorem RlP.s {N : Nat → Nat → Nat} {ln : Nat → Nat} {J ce x c j : Nat} (hj : j < J) (h : RlP N ln J ce (N x j) c) : RlP N ln J ce x (c + ln j) := fun Q q1 q2 => q2 x c j hj (h Q q1 q2)
theorem RsP.inv {N : Nat → Nat → Nat} {ln : Nat → Nat} {J st x c : Nat} (h : RsP N ln J st x c) : (x = st ∧ c = 0) ∨ ∃ y c' j, RsP N ln J st y c' ∧ j < J ∧ x = N y j ∧ c = c' + ln j :=
  (h (fun x c => RsP N ln J st x c ∧ ((x = st ∧ c = 0) ∨ ∃ y c' j, RsP N ln J st y c' ∧ j < J ∧ x = N y j ∧ c = c' + ln j)) ⟨RsP.z, Or.inl ⟨rfl, rfl⟩⟩ fun x c j q hj => ⟨q.1.s hj, Or.inr ⟨x, c, j, q.1, hj, rfl, rfl⟩⟩).2
theorem RlP.inv {N : Nat → Nat → Nat} {ln : Nat → Nat} {J ce x c : Nat} (h : RlP N ln J ce x c) : (x / 40 = ce ∧ c = 0) ∨ ∃ c' j, RlP N ln J ce (N x j) c' ∧ j < J ∧ c = c' + ln j :=
  (h (fun x c => RlP N ln J ce x c ∧ ((x / 40 = ce ∧ c = 0) ∨ ∃ c' j, RlP N ln J ce (N x j) c' ∧ j < J ∧ c = c' + ln j)) (fun x hx => ⟨RlP.z hx, Or.inl ⟨hx, rfl⟩⟩) fun x c j hj q => ⟨RlP.s hj q.1, Or.inr ⟨c, j, q.1, hj, rfl⟩⟩).2
theorem RsP.lt {N : Nat → Nat → Nat} {ln : Nat → Nat} {J st x c : Nat} (hN : NLok N ln J) (hs : st < 1000) (h : RsP N ln J st x c) : x < 1000 := h (fun x _ => x < 1000) hs fun x _ j q _ => hN.1 x j q
theorem RsP.join {N : Nat → Nat → Nat} {ln : Nat → Nat} {J st ce x a : Nat} (h : RsP N ln J st x a) : ∀ c, RlP N ln J ce x c → RlP N ln J ce st (a + c) :=
  h (fun x a => ∀ c, RlP N ln J ce x c → RlP N ln J ce st (a + c)) (fun c hc => by rw [Nat.zero_add]; exact hc) fun x a j q hj c hc => by
    have := q _ (RlP.s (x := x) hj hc)
    rw [show a + ln j + c = a + (c + ln j) by omega]
    exact this
theorem RlP.split {N : Nat → Nat → Nat} {ln : Nat → Nat} {J st ce x c : Nat} (h : RlP N ln J ce x c) : ∀ a, RsP N ln J st x a → ∃ y, y / 40 = ce ∧ RsP N ln J st y (a + c) :=
  h (fun x c => ∀ a, RsP N ln J st x a → ∃ y, y / 40 = ce ∧ RsP N ln J st y (a + c)) (fun x hx a ha => ⟨x, hx, ha⟩) fun x c j hj q a ha => by
    obtain ⟨y, h1, h2⟩ := q _ (ha.s hj)
    exact ⟨y, h1, by rw [show a + (c + ln j) = a + ln j + c by omega]; exact h2⟩
/-- all that is wanted of the costs from the beginning (D) and to the cell (E) -/
def DE (N : Nat → Nat → Nat) (ln : Nat → Nat) (J st ce : Nat) (D E : Nat → Nat) : Prop :=
  NLok N ln J ∧ st < 1000 ∧ (∀ x, D x = 0 ↔ x = st) ∧ (∀ x, D x < 1000000 → x < 1000) ∧ (∀ x, D x ≤ 1000000) ∧ (∀ x, E x ≤ 1000000) ∧
  (∀ x j, j < J → D x < 1000000 → D (N x j) ≤ D x + ln j) ∧ (∀ x, D x < 1000000 → D x ≠ 0 → ∃ y j, j < J ∧ N y j = x ∧ D y + ln j = D x) ∧
  (∀ x, E x = 0 ↔ x / 40 = ce) ∧ (∀ x j, j < J → E (N x j) < 1000000 → E x ≤ E (N x j) + ln j) ∧ (∀ x, E x < 1000000 → E x ≠ 0 → ∃ j, j < J ∧ E (N x j) + ln j = E x) ∧
  (∀ x, D x < 1000000 → E x < 1000000 → E st ≤ D x + E x) ∧ (E st < 1000000 → ∃ y, y / 40 = ce ∧ D y = E st)
theorem DE_of {N : Nat → Nat → Nat} {ln : Nat → Nat} {J st ce : Nat} {D E : Nat → Nat} (hN : NLok N ln J) (hs : st < 1000) (hD : isDs (RsP N ln J st) D) (hE : isDs (RlP N ln J ce) E) : DE N ln J st ce D E := by
  have gz : ∀ x, E x = 0 ↔ x / 40 = ce := fun x => ⟨fun e => by
    have h := (hE x).2.1 (by omega)
    rw [e] at h
    rcases h.inv with ⟨h1, -⟩ | ⟨c', j, -, hj, hc⟩
    · exact h1
    · have := (hN.2 j hj).1
      omega, fun e => by have := (hE x).2.2 0 (RlP.z e); omega⟩
  refine ⟨hN, hs, fun x => ⟨fun e => ?_, fun e => by subst e; have := (hD x).2.2 0 RsP.z; omega⟩, fun x h => ((hD x).2.1 h).lt hN hs, fun x => (hD x).1, fun x => (hE x).1, fun x j hj h => (hD _).2.2 _ (((hD x).2.1 h).s hj), fun x h h0 => ?_, gz, fun x j hj h => (hE x).2.2 _ (RlP.s hj ((hE _).2.1 h)), fun x h h0 => ?_, fun x h1 h2 => (hE st).2.2 _ (((hD x).2.1 h1).join _ ((hE x).2.1 h2)), fun h => ?_⟩
  · have h := (hD x).2.1 (by omega)
    rw [e] at h
    rcases h.inv with ⟨h1, -⟩ | ⟨y, c', j, -, hj, -, hc⟩
    · exact h1
    · have := (hN.2 j hj).1
      omega
  · rcases ((hD x).2.1 h).inv with ⟨-, h2⟩ | ⟨y, c', j, h1, hj, hx, hc⟩
    · exact absurd h2 h0
    · have q1 := (hD y).2.2 c' h1
      have q2 := (hD x).2.2 _ (hx ▸ ((hD y).2.1 (by omega)).s hj)
      exact ⟨y, j, hj, hx.symm, by omega⟩
  · rcases ((hE x).2.1 h).inv with ⟨h1, h2⟩ | ⟨c', j, h1, hj, hc⟩
    · exact absurd h2 h0
    · have q1 := (hE _).2.2 c' h1
      have q2 := (hE x).2.2 _ (RlP.s hj ((hE _).2.1 (by omega)))
      exact ⟨j, hj, by omega⟩
  · obtain ⟨y, h1, h2⟩ := ((hE st).2.1 h).split (st := st) 0 RsP.z
    rw [Nat.zero_add] at h2
    have q1 := (hD y).2.2 _ h2
    have q2 := (hE st).2.2 _ (((hD y).2.1 (by omega)).join _ (RlP.z h1))
    exact ⟨y, h1, by omega⟩
/-- a row of costs that can't be bettered is E -/
theorem fixE {N : Nat → Nat → Nat} {ln : Nat → Nat} {J ce : Nat} {E F : Nat → Nat} (hN : NLok N ln J) (hE : isDs (RlP N ln J ce) E) (h1 : ∀ x, x < 1000 → F x ≤ 1000000 ∧ (F x < 1000000 → RlP N ln J ce x (F x)) ∧ (x / 40 = ce → F x = 0)) (h2 : ∀ x j, x < 1000 → j < J → F x ≤ F (N x j) + ln j) : ∀ x, x < 1000 → F x = E x := by
  intro x hx
  have key : ∀ c, RlP N ln J ce x c → x < 1000 → F x ≤ c := fun c hc => hc (fun x c => x < 1000 → F x ≤ c) (fun x hx h => by have := (h1 x h).2.2 hx; omega) fun x c j hj q h => by
    have := q (hN.1 x j h)
    have := h2 x j h hj
    omega
  obtain ⟨a1, a2, a3⟩ := h1 x hx
  obtain ⟨b1, b2, b3⟩ := hE x
  by_cases c : E x < 1000000
  · have := key _ (b2 c) hx
    by_cases c2 : F x < 1000000
    · have := b3 _ (a2 c2); omega
    · omega
  · by_cases c2 : F x < 1000000
    · have := b3 _ (a2 c2); omega
    · omega
/-- how many are nearer than e -/
def bgD (D : Nat → Nat) (e : Nat) : Nat := cnt (fun x => decide (D x < e)) 1000
theorem bgD_mono {D : Nat → Nat} {e e' : Nat} (h : e ≤ e') : bgD D e ≤ bgD D e' := cnt_mono 1000 fun i _ hi => decide_eq_true (by have := of_decide_eq_true hi; omega)
theorem bgD_le {D : Nat → Nat} {e : Nat} : bgD D e ≤ 1000 := cnt_le 1000
theorem bgD_none {D : Nat → Nat} {e e' : Nat} (h : bgD D e' ≤ bgD D e) (he : e ≤ e') {x : Nat} (hx : x < 1000) (hD : e ≤ D x) : e' ≤ D x := by
  by_cases c : D x < e'
  · have := cnt_lt (p := fun x => decide (D x < e)) (q := fun x => decide (D x < e')) (z := x) (fun q => by have := of_decide_eq_true q; omega) (decide_eq_true c) 1000 (fun i _ hi => decide_eq_true (by have := of_decide_eq_true hi; omega)) hx
    unfold bgD at h
    omega
  · omega
theorem bgD_0 {D : Nat → Nat} : bgD D 0 = 0 := by
  have : ∀ n, cnt (fun x => decide (D x < 0)) n = 0 := by
    intro n
    induction n with
    | zero => rfl
    | succ n ih =>
      have := cnt_eq (p := fun x => decide (D x < 0)) (q := fun _ => false) (n + 1) fun i _ => decide_eq_false (Nat.not_lt_zero _)
      rw [this]
      clear this ih
      induction n with
      | zero => rfl
      | succ n ih => rw [cnt]; exact ih
  exact this 1000
/-- no new one among four distances: there is none behind -/
theorem DE.far {N : Nat → Nat → Nat} {ln : Nat → Nat} {J st ce : Nat} {D E : Nat → Nat} (h : DE N ln J st ce D E) {d : Nat} (hb : bgD D (d + 1) ≤ bgD D (d - 3)) : ∀ n x, D x = n → n < 1000000 → n < d - 3 := by
  obtain ⟨hN, hs, d0, dl, dm, em, dn, di, ez, en, ei, jo, go⟩ := h
  intro n
  induction n using Nat.strongRecOn with
  | ind n ih =>
    intro x hx hn
    have hx1 := dl x (by omega)
    by_cases c : d - 3 ≤ n
    · have q := bgD_none hb (by omega) hx1 (by omega)
      by_cases c0 : n = 0
      · omega
      · obtain ⟨y, j, hj, -, hy⟩ := di x (by omega) (by omega)
        have hl := hN.2 j hj
        have := ih (D y) (by omega) y rfl (by omega)
        omega
    · omega
theorem DE.none {N : Nat → Nat → Nat} {ln : Nat → Nat} {J st ce : Nat} {D E : Nat → Nat} (h : DE N ln J st ce D E) {d : Nat} (hg : ∀ y, y < 1000 → y / 40 = ce → d < D y) (hb : bgD D (d + 1) ≤ bgD D (d - 3)) : E st = 1000000 := by
  have hf := h.far hb
  obtain ⟨hN, hs, d0, dl, dm, em, dn, di, ez, en, ei, jo, go⟩ := h
  by_cases c : E st < 1000000
  · obtain ⟨y, h1, h2⟩ := go c
    have := hf (D y) y rfl (by omega)
    have := hg y (dl y (by omega)) h1
    omega
  · have := em st
    omega
/-- which signs lead on -/
theorem DE.lead {N : Nat → Nat → Nat} {ln : Nat → Nat} {J st ce : Nat} {D E : Nat → Nat} (h : DE N ln J st ce D E) (hd : E st < 1000000) {x j : Nat} (hx : D x < 1000000) (hj : j < J) : (D (N x j) + E (N x j) = E st ∧ D (N x j) = D x + ln j) ↔ D x + ln j + E (N x j) = E st := by
  obtain ⟨hN, hs, d0, dl, dm, em, dn, di, ez, en, ei, jo, go⟩ := h
  refine ⟨fun ⟨a, b⟩ => by omega, fun a => ?_⟩
  have q1 := dn x j hj hx
  have q2 := jo (N x j) (by omega) (by omega)
  exact ⟨by omega, by omega⟩
theorem DE.on {N : Nat → Nat → Nat} {ln : Nat → Nat} {J st ce : Nat} {D E : Nat → Nat} (h : DE N ln J st ce D E) (hd : E st < 1000000) {x : Nat} (hx : D x < E st) : (∃ j, j < J ∧ D x + ln j + E (N x j) = E st) ↔ D x + E x = E st := by
  obtain ⟨hN, hs, d0, dl, dm, em, dn, di, ez, en, ei, jo, go⟩ := h
  refine ⟨fun ⟨j, hj, a⟩ => ?_, fun a => ?_⟩
  · have q1 := en x j hj (by omega)
    have q2 := jo x (by omega) (by omega)
    omega
  · obtain ⟨j, hj, hc⟩ := ei x (by omega) (by omega)
    exact ⟨j, hj, by omega⟩
theorem DE.at_end {N : Nat → Nat → Nat} {ln : Nat → Nat} {J st ce : Nat} {D E : Nat → Nat} (h : DE N ln J st ce D E) {x : Nat} (hx : D x = E st) : D x + E x = E st ↔ x / 40 = ce := by
  obtain ⟨hN, hs, d0, dl, dm, em, dn, di, ez, en, ei, jo, go⟩ := h
  have := ez x
  exact ⟨fun a => this.mp (by omega), fun a => by have := this.mpr a; omega⟩
/-- the sign that leads on from x; the i-th of a way -/
def isLd (N : Nat → Nat → Nat) (ln : Nat → Nat) (J : Nat) (E : Nat → Nat) (x j : Nat) : Prop := j < J ∧ E (N x j) + ln j = E x ∧ ∀ i, i < j → E (N x i) + ln i ≠ E x
def pthR (N : Nat → Nat → Nat) (ln : Nat → Nat) (J : Nat) (E : Nat → Nat) : Nat → Nat → Int → Prop
  | 0, x, r => (E x = 0 ∧ r = -1) ∨ (E x ≠ 0 ∧ ∃ j : Nat, isLd N ln J E x j ∧ r = j)
  | i + 1, x, r => (E x = 0 ∧ r = -1) ∨ (E x ≠ 0 ∧ ∃ j : Nat, isLd N ln J E x j ∧ pthR N ln J E i (N x j) r)
theorem isLd.uniq {N : Nat → Nat → Nat} {ln : Nat → Nat} {J : Nat} {E : Nat → Nat} {x j j' : Nat} (h : isLd N ln J E x j) (h' : isLd N ln J E x j') : j = j' := by
  by_cases c : j < j'
  · exact absurd h.2.1 (h'.2.2 j c)
  · by_cases c2 : j' < j
    · exact absurd h'.2.1 (h.2.2 j' c2)
    · omega
theorem pthR.uniq {N : Nat → Nat → Nat} {ln : Nat → Nat} {J : Nat} {E : Nat → Nat} : ∀ {i x : Nat} {r r' : Int}, pthR N ln J E i x r → pthR N ln J E i x r' → r = r'
  | 0, x, r, r', h, h' => by
    rcases h with ⟨h1, h2⟩ | ⟨h1, j, h2, h3⟩
    · rcases h' with ⟨k1, k2⟩ | ⟨k1, -⟩
      · rw [h2, k2]
      · exact absurd h1 k1
    · rcases h' with ⟨k1, -⟩ | ⟨k1, j', k2, k3⟩
      · exact absurd k1 h1
      · rw [h3, k3, h2.uniq k2]
  | i + 1, x, r, r', h, h' => by
    rcases h with ⟨h1, h2⟩ | ⟨h1, j, h2, h3⟩
    · rcases h' with ⟨k1, k2⟩ | ⟨k1, -⟩
      · rw [h2, k2]
      · exact absurd h1 k1
    · rcases h' with ⟨k1, -⟩ | ⟨k1, j', k2, k3⟩
      · exact absurd k1 h1
      · rw [← h2.uniq k2] at k3
        exact h3.uniq k3
theorem pthR.z {N : Nat → Nat → Nat} {ln : Nat → Nat} {J : Nat} {E : Nat → Nat} {x : Nat} (h : E x = 0) : ∀ i, pthR N ln J E i x (-1)
  | 0 => Or.inl ⟨h, rfl⟩
  | _ + 1 => Or.inl ⟨h, rfl⟩
/-- the least that is so, if there is one -/
theorem fstN {p : Nat → Prop} {J : Nat} (h : ∃ j, j < J ∧ p j) : ∃ j, j < J ∧ p j ∧ ∀ i, i < j → ¬ p i := by
  obtain ⟨j, hj, hm⟩ := least (p := fun j => j < J ∧ p j) h
  exact ⟨j, hj.1, hj.2, fun i hi hp => by have := hm i ⟨by omega, hp⟩; omega⟩
theorem DE.ld {N : Nat → Nat → Nat} {ln : Nat → Nat} {J st ce : Nat} {D E : Nat → Nat} (h : DE N ln J st ce D E) {x : Nat} (h1 : E x < 1000000) (h0 : E x ≠ 0) : ∃ j, isLd N ln J E x j := by
  obtain ⟨hN, hs, d0, dl, dm, em, dn, di, ez, en, ei, jo, go⟩ := h
  obtain ⟨j, a, b, c⟩ := fstN (ei x h1 h0)
  exact ⟨j, a, b, c⟩
