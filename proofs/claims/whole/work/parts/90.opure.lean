/-! orders as they are run: pure -/
abbrev oS : Type := (Nat → Nat) × Nat × (Nat → Nat) × (Nat → Nat → Nat) × Nat × Int
def oE (κ : Nat → Nat) (D : Nat) (L : Int) : pE := fun w => if w = 0 then (κ 22 : Int) else if w = 1 then (D : Int) else if w = 2 then L else if w = 3 then (κ 12 : Int) else if w = 4 then (wy κ (κ 12) 0).toInt else if w < 8 then (if w - 5 < κ 56 then (κ (13 + (w - 5)) : Int) else -1) else if w < 11 then (if w - 8 < κ 56 then (κ (19 + (w - 8)) : Int) else -1) else 0
def oAct (cs : List pC) (k : Nat) (s : Int) (κ : Nat → Nat) : Option ((Nat → Nat) × Nat × Nat) :=
  if k = 0 then (if 0 ≤ s ∧ s ≤ 3 ∧ κ 12 < 12 then some (va_up (va_up κ (κ 12) s.toNat) 12 (κ 12 + 1), κ 12 + 1, 0) else none)
  else if k = 1 then (if κ 12 = 0 then none else some (va_up κ 12 (κ 12 - 1), κ (κ 12 - 1), 1 + 4 * κ (κ 12 - 1)))
  else if k = 2 then (if 0 ≤ s ∧ s < κ 56 ∧ lyF κ false (wgt κ cs s.toNat) 0 < 1000000 then some (slK κ s.toNat (thn κ cs s.toNat), pln κ false (wgt κ cs s.toNat), 2 + 4 * s.toNat + 16 * spot κ s.toNat) else none)
  else (if κ 22 < 999 then some (va_up κ 22 (κ 22 + 1), κ 22 + 1, 3) else none)
def oPush (σ : oS) (k : Nat) (r : (Nat → Nat) × Nat × Nat) : oS := (r.1, σ.2.1 - aS σ.2.1 + 1, (fun j => if j = σ.2.1 - aS σ.2.1 then r.2.2 else σ.2.2.1 (j + aS σ.2.1)), (fun j => if j = σ.2.1 - aS σ.2.1 + 1 then r.1 else σ.2.2.2.1 (j + aS σ.2.1)), σ.2.2.2.2.1 + 1, if k = 2 then (r.2.1 : Int) else σ.2.2.2.2.2)
def oStep (cs : List pC) (q : pC) (σ : oS) : Option oS :=
  if q.2.2.2.2.2 (oE σ.1 σ.2.2.2.2.1 σ.2.2.2.2.2) = some 1 then
    (match q.2.2.2.2.1 (oE σ.1 σ.2.2.2.2.1 σ.2.2.2.2.2) with
      | none => none
      | some s => match oAct cs q.1 s σ.1 with
        | none => none
        | some r => some (oPush σ q.1 r))
  else some σ
def oRep (cs : List pC) (q : pC) : Nat → oS → Option oS
  | 0, σ => some σ
  | n + 1, σ => match oStep cs q σ with
    | none => none
    | some σ' => oRep cs q n σ'
def oRun (cs : List pC) : List pC → Nat → oS → oS ⊕ Nat
  | [], _, σ => .inl σ
  | q :: qs, i, σ => match oRep cs q q.2.1 σ with
    | none => .inr i
    | some σ' => oRun cs qs (i + 1) σ'
/-- what holds of a state; κ0: the row at the beginning; m: how many clauses were run at most -/
def oOK (κ0 : Nat → Nat) (m : Nat) (σ : oS) : Prop := wf σ.1 ∧ (∀ i, 23 ≤ i → σ.1 i = κ0 i) ∧ σ.2.1 ≤ 16 ∧ (∀ i, i < 23 → σ.2.2.2.1 σ.2.1 i = σ.1 i) ∧ (∀ k, k < σ.2.1 → σ.2.2.1 k < 2147483648 ∧ wH (fun i => if i < 23 then σ.2.2.2.1 k i else σ.1 i) ∧ wL (σ.2.2.2.1 k) ∧ σ.2.2.2.1 k 22 ≤ 999 ∧ i_act (σ.1 56) (σ.2.2.1 k) (σ.2.2.2.1 k) (σ.2.2.2.1 (k + 1))) ∧ σ.2.2.2.2.1 ≤ m ∧ -1 ≤ σ.2.2.2.2.2 ∧ σ.2.2.2.2.2 ≤ 12
theorem oE_rg {κ : Nat → Nat} {D : Nat} {L : Int} (hB : wB κ) (hD : D ≤ 1000000) (hL : -1 ≤ L ∧ L ≤ 12) : ∀ w, -2147483648 ≤ oE κ D L w ∧ oE κ D L w < 2147483648 := by
  intro w
  unfold oE
  have h1 := hB 22
  have h2 := hB 12
  have h3 := hB (13 + (w - 5))
  have h4 := hB (19 + (w - 8))
  have h5 := Int32.le_toInt (wy κ (κ 12) 0)
  have h6 := Int32.toInt_lt (wy κ (κ 12) 0)
  repeat' split
  all_goals omega
theorem some3 {α β γ : Type} {a a2 : α} {b b2 : β} {c c2 : γ} (h : some (a, b, c) = some (a2, b2, c2)) : a = a2 ∧ b = b2 ∧ c = c2 := by
  have h := Option.some.inj h
  exact ⟨congrArg (fun q => q.1) h, congrArg (fun q => q.2.1) h, congrArg (fun q => q.2.2) h⟩
theorem oAct_ok {cs : List pC} {k : Nat} {s : Int} {κ κ' : Nat → Nat} {t c : Nat} (hw : wf κ) (h : oAct cs k s κ = some (κ', t, c)) : wf κ' ∧ (∀ i, 23 ≤ i → κ' i = κ i) ∧ c < 2147483648 ∧ i_act (κ 56) c κ κ' ∧ (k = 2 → t ≤ 12) ∧ t ≤ 1000 := by
  obtain ⟨hS, hH, hL, hD, hW, hT, hB⟩ := hw
  have b12 := hL.1
  have b56 := hH.1
  unfold oAct at h
  by_cases k0 : k = 0
  · rw [if_pos k0] at h
    by_cases c : 0 ≤ s ∧ s ≤ 3 ∧ κ 12 < 12
    · rw [if_pos c] at h
      obtain ⟨rfl, rfl, rfl⟩ := some3 h
      obtain ⟨y, rfl⟩ : ∃ y : Nat, s = y := ⟨s.toNat, by omega⟩
      rw [Int.toNat_natCast]
      have en : ∀ i, ¬ i = 12 → ¬ i = κ 12 → va_up (va_up κ (κ 12) y) 12 (κ 12 + 1) i = κ i := fun i h1 h2 => (va_ne h1).trans (va_ne h2)
      have e1 : va_up (va_up κ (κ 12) y) 12 (κ 12 + 1) (κ 12) = y := (va_ne (by omega)).trans va_s
      have hL' : wL (va_up (va_up κ (κ 12) y) 12 (κ 12 + 1)) := by
        refine ⟨by rw [va_s]; omega, fun i hi => ?_⟩
        by_cases e : i = κ 12
        · rw [e, e1]; omega
        · rw [en i (by omega) e]; exact hL.2 i hi
      refine ⟨⟨hS.cg fun i hi => en i (by omega) (by omega), hH.cg fun i hi => en i (by omega) (by omega), hL', hD.cg fun i hi => en i (by omega) (by omega), hW.cg fun i hi => en i (by omega) (by omega), hT.cg fun i hi => en i (by omega) (by omega), (hB.up (by omega)).up (by omega)⟩, fun i hi => en i (by omega) (by omega), by omega, Or.inl ⟨rfl, va_s, fun i hi => en i (by omega) (by omega), fun p hp => ?_, en 22 (by omega) (by omega)⟩, fun h => by omega, by omega⟩
      rw [spot, spot, en _ (by omega) (by omega), en _ (by omega) (by omega), en _ (by omega) (by omega)]
    · rw [if_neg c] at h
      exact absurd h.symm (Option.some_ne_none _)
  · rw [if_neg k0] at h
    by_cases k1 : k = 1
    · rw [if_pos k1] at h
      by_cases c : κ 12 = 0
      · rw [if_pos c] at h
        exact absurd h.symm (Option.some_ne_none _)
      · rw [if_neg c] at h
        obtain ⟨rfl, rfl, rfl⟩ := some3 h
        have hk := hL.2 (κ 12 - 1) (by omega)
        have en : ∀ i, ¬ i = 12 → va_up κ 12 (κ 12 - 1) i = κ i := fun i h1 => va_ne h1
        have hL' : wL (va_up κ 12 (κ 12 - 1)) := by
          refine ⟨by rw [va_s]; omega, fun i hi => ?_⟩
          rw [en i (by omega)]; exact hL.2 i hi
        refine ⟨⟨hS.cg fun i hi => en i (by omega), hH.cg fun i hi => en i (by omega), hL', hD.cg fun i hi => en i (by omega), hW.cg fun i hi => en i (by omega), hT.cg fun i hi => en i (by omega), hB.up (by omega)⟩, fun i hi => en i (by omega), by omega, Or.inr (Or.inl ⟨by omega, by rw [va_s]; omega, fun i hi => ?_, ?_, fun p hp => ?_, en 22 (by omega)⟩), fun h => by omega, by omega⟩
        · rw [va_s] at hi; exact en i (by omega)
        · rw [va_s]; omega
        · rw [spot, spot, en _ (by omega), en _ (by omega), en _ (by omega)]
    · rw [if_neg k1] at h
      by_cases k2 : k = 2
      · rw [if_pos k2] at h
        by_cases c : 0 ≤ s ∧ s < κ 56 ∧ lyF κ false (wgt κ cs s.toNat) 0 < 1000000
        · rw [if_pos c] at h
          obtain ⟨rfl, rfl, rfl⟩ := some3 h
          obtain ⟨p, rfl⟩ : ∃ p : Nat, s = p := ⟨s.toNat, by omega⟩
          rw [Int.toNat_natCast] at c ⊢
          have htl := thn_lt (cs := cs) hH (p := p) (by omega)
          have hsl := (spot_lt hH (p := p) (by omega)).1
          have en : ∀ i, (i < 13 ∨ 22 ≤ i) → slK κ p (thn κ cs p) i = κ i := fun i hi => slK_o (by omega) (by omega) (by omega)
          exact ⟨slK_wf ⟨hS, hH, hL, hD, hW, hT, hB⟩ (by omega) htl, fun i hi => en i (by omega), by omega, slK_act hH hL (by omega) htl, fun _ => pln_le, Nat.le_trans pln_le (by decide)⟩
        · rw [if_neg c] at h
          exact absurd h.symm (Option.some_ne_none _)
      · rw [if_neg k2] at h
        by_cases c : κ 22 < 999
        · rw [if_pos c] at h
          obtain ⟨rfl, rfl, rfl⟩ := some3 h
          have en : ∀ i, ¬ i = 22 → va_up κ 22 (κ 22 + 1) i = κ i := fun i h1 => va_ne h1
          refine ⟨⟨hS.cg fun i hi => en i (by omega), hH.cg fun i hi => en i (by omega), hL.cg fun i hi => en i (by omega), hD.cg fun i hi => en i (by omega), hW.cg fun i hi => en i (by omega), ⟨by rw [va_s]; omega, by rw [en _ (by decide)]; exact hT.2.1, by rw [en _ (by decide)]; exact hT.2.2⟩, hB.up (by omega)⟩, fun i hi => en i (by omega), by omega, Or.inr (Or.inr (Or.inr ⟨rfl, en 12 (by omega), fun i hi => en i (by omega), fun p hp => ?_, va_s⟩)), fun h => by omega, by omega⟩
          rw [spot, spot, en _ (by omega), en _ (by omega), en _ (by omega)]
        · rw [if_neg c] at h
          exact absurd h.symm (Option.some_ne_none _)
theorem oPush_ok {cs : List pC} {κ0 : Nat → Nat} {m k : Nat} {s : Int} {σ : oS} {r : (Nat → Nat) × Nat × Nat} (h : oOK κ0 m σ) (hr : oAct cs k s σ.1 = some r) : oOK κ0 (m + 1) (oPush σ k r) := by
  obtain ⟨κ, a, c, R, D, L⟩ := σ
  obtain ⟨κ', t, cc⟩ := r
  obtain ⟨h1, h2, h3, h4, h5, h6, h7, h8⟩ := h
  have hr : oAct cs k s κ = some (κ', t, cc) := hr
  obtain ⟨g1, g2, g3, g4, g5, g6⟩ := oAct_ok h1 hr
  have h3 : a ≤ 16 := h3
  have h4 : ∀ i, i < 23 → R a i = κ i := h4
  have h6 : D ≤ m := h6
  have hs := aS_le h3
  have e56 := g2 56 (by omega)
  obtain ⟨hS, hH, hL, hD, hW, hT, hB⟩ := h1
  have b56 := hH.1
  refine ⟨g1, fun i hi => (g2 i hi).trans (h2 i hi), ?_, fun i hi => ?_, fun j hj => ?_, ?_, ?_, ?_⟩
  · show a - aS a + 1 ≤ 16
    omega
  · show (if a - aS a + 1 = a - aS a + 1 then κ' else R (a - aS a + 1 + aS a)) i = κ' i
    rw [if_pos rfl]
  · have hj : j < a - aS a + 1 := hj
    show (if j = a - aS a then cc else c (j + aS a)) < 2147483648 ∧ wH (fun i => if i < 23 then (if j = a - aS a + 1 then κ' else R (j + aS a)) i else κ' i) ∧ wL (if j = a - aS a + 1 then κ' else R (j + aS a)) ∧ (if j = a - aS a + 1 then κ' else R (j + aS a)) 22 ≤ 999 ∧ i_act (κ' 56) (if j = a - aS a then cc else c (j + aS a)) (if j = a - aS a + 1 then κ' else R (j + aS a)) (if j + 1 = a - aS a + 1 then κ' else R (j + 1 + aS a))
    rw [if_neg (show ¬ j = a - aS a + 1 by omega), e56]
    by_cases e : j = a - aS a
    · subst e
      rw [if_pos rfl, if_pos rfl, show a - aS a + aS a = a by omega]
      refine ⟨g3, hH.cg fun i hi => ?_, hL.cg fun i hi => h4 i (by omega), ?_, g4.cg b56 hL.1 g1.2.2.1.1 (fun i hi => h4 i hi) fun i hi => rfl⟩
      · show (if i < 23 then R a i else κ' i) = κ i
        split
        · rename_i h; exact h4 i h
        · rw [show i = 56 by omega]; exact e56
      · rw [h4 22 (by omega)]; exact hT.1
    · obtain ⟨q1, q2, q3, q4, q5⟩ := h5 (j + aS a) (by show j + aS a < a; omega)
      rw [if_neg e, if_neg (by omega), show j + 1 + aS a = j + aS a + 1 by omega]
      refine ⟨q1, q2.cg fun i hi => ?_, q3, q4, q5⟩
      show (if i < 23 then R (j + aS a) i else κ' i) = (if i < 23 then R (j + aS a) i else κ i)
      split
      · rfl
      · rw [show i = 56 by omega]; exact e56
  · show D + 1 ≤ m + 1
    omega
  · show -1 ≤ (if k = 2 then (t : Int) else L)
    have : -1 ≤ L := h7
    split <;> omega
  · show (if k = 2 then (t : Int) else L) ≤ 12
    have : L ≤ 12 := h8
    split
    · rename_i e
      have := g5 e
      omega
    · omega
theorem oOK.mono {κ0 : Nat → Nat} {m m' : Nat} {σ : oS} (h : oOK κ0 m σ) (hm : m ≤ m') : oOK κ0 m' σ := ⟨h.1, h.2.1, h.2.2.1, h.2.2.2.1, h.2.2.2.2.1, by have := h.2.2.2.2.2.1; omega, h.2.2.2.2.2.2⟩
theorem oStep_ok {cs : List pC} {κ0 : Nat → Nat} {m : Nat} {q : pC} {σ σ' : oS} (h : oOK κ0 m σ) (hr : oStep cs q σ = some σ') : oOK κ0 (m + 1) σ' := by
  unfold oStep at hr
  split at hr
  · split at hr
    · cases hr
    · split at hr
      · cases hr
      · rename_i r hr2
        cases hr
        exact oPush_ok h hr2
  · cases hr
    exact h.mono (by omega)
/-- the acts in the class, in the reference -/
def xA (ac : Nat → Int32) (σ : oS) : Prop := ∀ k, k < σ.2.1 → ac k = iI (σ.2.2.1 k : Int)
def mA (le : Nat → Int32) (σ : oS) : Prop := ∀ k, k < σ.2.1 → (∀ i, i < 23 → le (24 * k + i) = iI (σ.2.2.2.1 k i : Int)) ∧ le (24 * k + 23) = iI ((σ.2.2.1 k % 4 : Nat) : Int)
theorem xA.push {ac ac' : Nat → Int32} {σ : oS} {k : Nat} {r : (Nat → Nat) × Nat × Nat} (ha : σ.2.1 ≤ 16) (h : xA ac σ) (hp : pushC σ.2.1 r.2.2 ac ac') : xA ac' (oPush σ k r) := by
  intro j hj
  have hj : j < σ.2.1 - aS σ.2.1 + 1 := hj
  have hs := aS_le ha
  show ac' j = iI ((if j = σ.2.1 - aS σ.2.1 then r.2.2 else σ.2.2.1 (j + aS σ.2.1) : Nat) : Int)
  by_cases e : j = σ.2.1 - aS σ.2.1
  · rw [if_pos e, e]; exact hp.2
  · rw [if_neg e, hp.1 j (by omega)]
    exact h _ (by omega)
theorem mA.push {le le' K : Nat → Int32} {σ : oS} {k : Nat} {r : (Nat → Nat) × Nat × Nat} (ha : σ.2.1 ≤ 16) (h : mA le σ) (hR : ∀ i, i < 23 → σ.2.2.2.1 σ.2.1 i = σ.1 i) (hK : ∀ i, i < 23 → K i = iI (σ.1 i : Int)) (hp : pushM σ.2.1 (r.2.2 % 4) K le le') : mA le' (oPush σ k r) := by
  intro j hj
  have hj : j < σ.2.1 - aS σ.2.1 + 1 := hj
  have hs := aS_le ha
  show (∀ i, i < 23 → le' (24 * j + i) = iI (((if j = σ.2.1 - aS σ.2.1 + 1 then r.1 else σ.2.2.2.1 (j + aS σ.2.1)) i : Nat) : Int)) ∧ le' (24 * j + 23) = iI (((if j = σ.2.1 - aS σ.2.1 then r.2.2 else σ.2.2.1 (j + aS σ.2.1)) % 4 : Nat) : Int)
  rw [if_neg (show ¬ j = σ.2.1 - aS σ.2.1 + 1 by omega)]
  by_cases e : j = σ.2.1 - aS σ.2.1
  · subst e
    rw [if_pos rfl, show σ.2.1 - aS σ.2.1 + aS σ.2.1 = σ.2.1 by omega]
    exact ⟨fun i hi => by rw [hp.2.1 i hi, hK i hi, hR i hi], hp.2.2⟩
  · rw [if_neg e]
    obtain ⟨g1, g2⟩ := h (j + aS σ.2.1) (by omega)
    refine ⟨fun i hi => ?_, ?_⟩
    · rw [hp.1 _ (by omega), show 24 * j + i + 24 * aS σ.2.1 = 24 * (j + aS σ.2.1) + i by omega]; exact g1 i hi
    · rw [hp.1 _ (by omega), show 24 * j + 23 + 24 * aS σ.2.1 = 24 * (j + aS σ.2.1) + 23 by omega]; exact g2
/-- together -/
theorem acts_of {κ0 : Nat → Nat} {m : Nat} {σ : oS} {ac le : Nat → Int32} (h : oOK κ0 m σ) (h1 : xA ac σ) (h2 : mA le σ) : i_acts (iI (σ.2.1 : Int)) (iI (σ.2.1 : Int)) ac le σ.1 := by
  obtain ⟨q1, q2, q3, q4, q5, q6⟩ := h
  refine ⟨σ.2.1, σ.2.2.1, σ.2.2.2.1, q3, rfl, rfl, q4, fun k hk => ?_⟩
  obtain ⟨p1, p2, p3, p4, p5⟩ := q5 k hk
  exact ⟨p1, h1 k hk, (h2 k hk).1, (h2 k hk).2, p2, p3, p4, p5⟩
theorem of_acts {κ : Nat → Nat} {xa ma : Int32} {ac le : Nat → Int32} (hw : wf κ) (h : i_acts xa ma ac le κ) : ∃ (a : Nat) (c : Nat → Nat) (R : Nat → Nat → Nat), xa = iI (a : Int) ∧ ma = iI (a : Int) ∧ oOK κ 0 (κ, a, c, R, 0, -1) ∧ xA ac (κ, a, c, R, 0, -1) ∧ mA le (κ, a, c, R, 0, -1) := by
  obtain ⟨a, c, R, h1, h2, h3, h4, h5⟩ := h
  refine ⟨a, c, R, h2, h3, ⟨hw, fun _ _ => rfl, h1, h4, fun k hk => ?_, Nat.le_refl _, (by show (-1 : Int) ≤ -1; omega), (by show (-1 : Int) ≤ 12; omega)⟩, fun k hk => (h5 k hk).2.1, fun k hk => ⟨(h5 k hk).2.2.1, (h5 k hk).2.2.2.1⟩⟩
  obtain ⟨g1, g2, g3, g4, g5, g6, g7, g8⟩ := h5 k hk
  exact ⟨g1, g5, g6, g7, g8⟩
theorem oRep_s {cs : List pC} {q : pC} {n : Nat} {σ σ' : oS} (h : oStep cs q σ = some σ') : oRep cs q (n + 1) σ = oRep cs q n σ' := by
  show (match oStep cs q σ with | none => none | some σ' => oRep cs q n σ') = _
  rw [h]
theorem oRep_n {cs : List pC} {q : pC} {n : Nat} {σ : oS} (h : oStep cs q σ = none) : oRep cs q (n + 1) σ = none := by
  show (match oStep cs q σ with | none => none | some σ' => oRep cs q n σ') = _
  rw [h]
theorem oRep_ok {cs : List pC} {κ0 : Nat → Nat} {q : pC} : ∀ (n m : Nat) {σ σ' : oS}, oOK κ0 m σ → oRep cs q n σ = some σ' → oOK κ0 (m + n) σ'
  | 0, m, σ, σ', h, hr => by cases hr; exact h
  | n + 1, m, σ, σ', h, hr => by
    cases hs : oStep cs q σ with
    | none => rw [oRep_n hs] at hr; cases hr
    | some σ2 =>
      rw [oRep_s hs] at hr
      have := oRep_ok n (m + 1) (oStep_ok h hs) hr
      rw [show m + (n + 1) = m + 1 + n by omega]
      exact this
/-- what a clause's step comes to -/
theorem oStep_skip {cs : List pC} {q : pC} {σ : oS} (h : ¬ q.2.2.2.2.2 (oE σ.1 σ.2.2.2.2.1 σ.2.2.2.2.2) = some 1) : oStep cs q σ = some σ := by unfold oStep; rw [if_neg h]
theorem oStep_do {cs : List pC} {q : pC} {σ : oS} {s : Int} (h : q.2.2.2.2.2 (oE σ.1 σ.2.2.2.2.1 σ.2.2.2.2.2) = some 1) (h2 : q.2.2.2.2.1 (oE σ.1 σ.2.2.2.2.1 σ.2.2.2.2.2) = some s) : (∀ r, oAct cs q.1 s σ.1 = some r → oStep cs q σ = some (oPush σ q.1 r)) ∧ (oAct cs q.1 s σ.1 = none → oStep cs q σ = none) := by
  refine ⟨fun r hr => ?_, fun hr => ?_⟩
  · unfold oStep
    rw [if_pos h]
    simp only [h2, hr]
  · unfold oStep
    rw [if_pos h]
    simp only [h2, hr]
theorem oStep_bad {cs : List pC} {q : pC} {σ : oS} (h : q.2.2.2.2.2 (oE σ.1 σ.2.2.2.2.1 σ.2.2.2.2.2) = some 1) (h2 : q.2.2.2.2.1 (oE σ.1 σ.2.2.2.2.1 σ.2.2.2.2.2) = none) : oStep cs q σ = none := by
  unfold oStep
  rw [if_pos h]
  simp only [h2]
/-- the clauses of orders: kinds, times -/
theorem pt_k2 {c v : Nat → Nat} {n size : Nat} : ∀ (m i p o : Nat) (cs : List pC), p_text c v true n size m i p o = some (.inr cs) → ∀ q, q ∈ cs → q.1 ≤ 3 ∧ q.2.1 ≤ 20 ∧ (q.1 = 1 ∨ q.1 = 3 → q.2.2.2.2.1 = fun _ => some 1) := by
  intro m
  induction m with
  | zero => intro i p o cs h; cases h
  | succ m ih =>
    intro i p o cs h q hq
    obtain ⟨j, p', q0, h1, h2⟩ := pt_inv h
    have hq0 : q0.1 ≤ 3 ∧ q0.2.1 ≤ 20 ∧ (q0.1 = 1 ∨ q0.1 = 3 → q0.2.2.2.2.1 = fun _ => some 1) := by
      obtain ⟨k, j1, p1, C1, e1, j2, t, C2, e2, hk, g1, g2, g3, rfl⟩ := pc_inv h1
      refine ⟨(p_kind_n hk).2.1, ?_, fun h2 => ?_⟩
      · show t ≤ 20
        unfold p_times at g2
        split at g2
        · split at g2
          · rename_i q1 q2
            cases g2
            exact q2.2.2
          · cases g2
        · cases g2
          omega
      · have h2 : k = 1 ∨ k = 3 := h2
        unfold p_sum0 at g1
        rw [if_neg (by rcases h2 with rfl | rfl <;> decide)] at g1
        cases g1
        rfl
    rcases h2 with ⟨c1, qs, h2, rfl⟩ | ⟨c1, c2, rfl⟩
    · rcases List.mem_cons.mp hq with rfl | hq
      · exact hq0
      · exact ih _ _ _ _ h2 q hq
    · rcases List.mem_singleton.mp hq with rfl
      exact hq0
