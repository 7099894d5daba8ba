/-! PURE REASONING about runs of the small machine -/
abbrev mm_C : Type := Nat × mm_L × List Value × mm_W
/-- some fuel is enough -/
def Ex (X : mm_X) (d mi : Nat) (c : mm_C) (r : Option Value) (w' : mm_W) : Prop := ∃ n, mm_exec X mk_G mk_S mk_P n d mi c.1 c.2.1 c.2.2.1 c.2.2.2 = some (r, w')
def mm_stp (X : mm_X) (C : List (Nat × mm_I)) (rt : Option FieldType) (c : mm_C) : Option mm_R := match C.lookup c.1 with
  | none => none
  | some q => mm_step X mk_G mk_S rt q c.1 (mm_clr q.2.2.2.2.1 c.2.1) c.2.2.1 c.2.2.2
def mm_run (X : mm_X) (C : List (Nat × mm_I)) (rt : Option FieldType) : Nat → mm_C → Option mm_C
  | 0, c => some c
  | n + 1, c => match mm_stp X C rt c with
    | some (.inl c') => mm_run X C rt n c'
    | _ => none
theorem mm_more {X : mm_X} {G : List (List Value)} {S : List (List Int32)} {P : List mm_M} : ∀ (n d mi pc : Nat) (L : mm_L) (st : List Value) (w : mm_W) (r : Option Value × mm_W), mm_exec X G S P n d mi pc L st w = some r → mm_exec X G S P (n + 1) d mi pc L st w = some r := by
  intro n
  induction n with
  | zero => intro d mi pc L st w r h; cases h
  | succ n ih =>
    intro d mi pc L st w r h
    rw [mm_exec] at h
    rw [mm_exec]
    cases hM : P[mi]? with
    | none => simp only [hM] at h; cases h
    | some M =>
      simp only [hM] at h ⊢
      cases hq : M.2.2.2.2.lookup pc with
      | none => simp only [hq] at h; cases h
      | some q =>
        simp only [hq] at h ⊢
        cases hs : mm_step X G S M.2.2.2.1 q pc (mm_clr q.2.2.2.2.1 L) st w with
        | none => simp only [hs] at h; cases h
        | some res =>
          rcases res with ⟨pc1, L1, st1, w1⟩ | r1 | ⟨k, as, pc1, L1, st1, w1⟩
          · simp only [hs] at h ⊢
            exact ih _ _ _ _ _ _ _ h
          · simp only [hs] at h ⊢
            exact h
          · simp only [hs] at h ⊢
            cases d with
            | zero => cases h
            | succ d' =>
              simp only at h ⊢
              cases hM' : P[k]? with
              | none => simp only [hM'] at h; cases h
              | some M' =>
                simp only [hM'] at h ⊢
                split at h
                · rename_i hc
                  rw [if_pos hc]
                  split at h
                  · cases h
                  · rename_i rv w2 he
                    simp only [ih _ _ _ _ _ _ _ he]
                    exact ih _ _ _ _ _ _ _ h
                · cases h
theorem mm_mores {X : mm_X} {G : List (List Value)} {S : List (List Int32)} {P : List mm_M} (k n d mi pc : Nat) (L : mm_L) (st : List Value) (w : mm_W) (r : Option Value × mm_W) (h : mm_exec X G S P n d mi pc L st w = some r) : mm_exec X G S P (n + k) d mi pc L st w = some r := by
  induction k with
  | zero => exact h
  | succ k ih => exact mm_more _ _ _ _ _ _ _ _ ih
theorem Ex.step {X : mm_X} {d mi : Nat} {M : mm_M} (hM : mk_P[mi]? = some M) {c c' : mm_C} {r : Option Value} {w' : mm_W} (hs : mm_stp X M.2.2.2.2 M.2.2.2.1 c = some (.inl c')) (h : Ex X d mi c' r w') : Ex X d mi c r w' := by
  obtain ⟨n, h⟩ := h
  refine ⟨n + 1, ?_⟩
  unfold mm_stp at hs
  split at hs
  · cases hs
  · rename_i q hq
    rw [mm_exec, hM]
    simp only [hq, hs]
    exact h
theorem Ex.run {X : mm_X} {d mi : Nat} {M : mm_M} (hM : mk_P[mi]? = some M) {r : Option Value} {w' : mm_W} : ∀ (k : Nat) {c c' : mm_C}, mm_run X M.2.2.2.2 M.2.2.2.1 k c = some c' → Ex X d mi c' r w' → Ex X d mi c r w'
  | 0, c, c', hr, h => by cases hr; exact h
  | k + 1, c, c', hr, h => by
    rw [mm_run] at hr
    split at hr
    · rename_i c1 hs
      exact Ex.step hM hs (Ex.run hM k hr h)
    · cases hr
theorem Ex.ret {X : mm_X} {d mi : Nat} {M : mm_M} (hM : mk_P[mi]? = some M) {c : mm_C} {r : Option Value} {w' : mm_W} (hs : mm_stp X M.2.2.2.2 M.2.2.2.1 c = some (.inr (.inl (r, w')))) : Ex X d mi c r w' := by
  refine ⟨1, ?_⟩
  unfold mm_stp at hs
  split at hs
  · cases hs
  · rename_i q hq
    rw [mm_exec, hM]
    simp only [hq, hs]
theorem Ex.br {X : mm_X} {d mi : Nat} {M : mm_M} (hM : mk_P[mi]? = some M) {c : mm_C} {r : Option Value} {w' : mm_W} {b : Bool} {t f : Nat} {L : mm_L} {st : List Value} {w : mm_W} (hs : mm_stp X M.2.2.2.2 M.2.2.2.1 c = mm_if b t f L st w) (ht : b = true → Ex X d mi (t, L, st, w) r w') (hf : b = false → Ex X d mi (f, L, st, w) r w') : Ex X d mi c r w' := by
  cases b with
  | true => exact Ex.step hM (hs.trans rfl) (ht rfl)
  | false => exact Ex.step hM (hs.trans rfl) (hf rfl)
theorem Ex.call {X : mm_X} {d mi k : Nat} {M M' : mm_M} (hM : mk_P[mi]? = some M) (hM' : mk_P[k]? = some M') {c c' : mm_C} {as : List Value} {r rv : Option Value} {w2 w3 : mm_W} (hs : mm_stp X M.2.2.2.2 M.2.2.2.1 c = some (.inr (.inr (k, as, c')))) (hl : (mm_ent as).length ≤ M'.2.2.1 ∧ M'.2.2.1 ≤ 20)
    (hc : Ex X d k (0, mm_ent as ++ List.replicate (M'.2.2.1 - (mm_ent as).length) none, [], c'.2.2.2) rv w2) (h : Ex X (d + 1) mi (c'.1, c'.2.1, rv.toList ++ c'.2.2.1, w2) r w3) : Ex X (d + 1) mi c r w3 := by
  obtain ⟨n1, hc⟩ := hc
  obtain ⟨n2, h⟩ := h
  obtain ⟨pc', L', st', w1⟩ := c'
  refine ⟨n1 + n2 + 1, ?_⟩
  unfold mm_stp at hs
  split at hs
  · cases hs
  · rename_i q hq
    have h1 := mm_mores n2 _ _ _ _ _ _ _ _ hc
    have h2 := mm_mores n1 _ _ _ _ _ _ _ _ h
    rw [Nat.add_comm] at h2
    rw [mm_exec, hM]
    simp only [hq, hs, hM']
    rw [if_pos hl]
    simp only [h1]
    exact h2
/-- deeper room does no harm: a run that needs d calls within one another has them with more -/
theorem mm_deep {X : mm_X} {G : List (List Value)} {S : List (List Int32)} {P : List mm_M} : ∀ (n d mi pc : Nat) (L : mm_L) (st : List Value) (w : mm_W) (r : Option Value × mm_W), mm_exec X G S P n d mi pc L st w = some r → mm_exec X G S P n (d + 1) mi pc L st w = some r := by
  intro n
  induction n with
  | zero => intro d mi pc L st w r h; cases h
  | succ n ih =>
    intro d mi pc L st w r h
    rw [mm_exec] at h
    rw [mm_exec]
    cases hM : P[mi]? with
    | none => simp only [hM] at h; cases h
    | some M =>
      simp only [hM] at h ⊢
      cases hq : M.2.2.2.2.lookup pc with
      | none => simp only [hq] at h; cases h
      | some q =>
        simp only [hq] at h ⊢
        cases hs : mm_step X G S M.2.2.2.1 q pc (mm_clr q.2.2.2.2.1 L) st w with
        | none => simp only [hs] at h; cases h
        | some res =>
          rcases res with ⟨pc1, L1, st1, w1⟩ | r1 | ⟨k, as, pc1, L1, st1, w1⟩
          · simp only [hs] at h ⊢
            exact ih _ _ _ _ _ _ _ h
          · simp only [hs] at h ⊢
            exact h
          · simp only [hs] at h ⊢
            cases d with
            | zero => cases h
            | succ d' =>
              simp only at h ⊢
              cases hM' : P[k]? with
              | none => simp only [hM'] at h; cases h
              | some M' =>
                simp only [hM'] at h ⊢
                split at h
                · rename_i hc
                  rw [if_pos hc]
                  split at h
                  · cases h
                  · rename_i rv w2 he
                    simp only [ih _ _ _ _ _ _ _ he]
                    exact ih _ _ _ _ _ _ _ h
                · cases h
theorem Ex.deep {X : mm_X} {d mi : Nat} {c : mm_C} {r : Option Value} {w' : mm_W} (h : Ex X d mi c r w') : Ex X (d + 1) mi c r w' := by
  obtain ⟨n, h⟩ := h
  exact ⟨n, mm_deep _ _ _ _ _ _ _ _ h⟩
/-- the world that both constructors make: fields (f ints, fl longs, v references that change), arrays (g ints, gl longs, hh references), what came later (tx) -/
def Wd (f : Nat → Int32) (fl : Nat → Int64) (g : Nat → Nat → Int32) (gl : Nat → Nat → Int64) (hh : Nat → Nat → Option Nat) (v : Nat → Value) (tx : mm_W) : mm_W :=
  .inr (7, [.ref 1, .ref 10, .ref 19, .ref 28, .ref 29, .ref 30, .int (f 6), .ref 31, .ref 35, .ref 37, .ref 38, .ref 45, .ref 50, .ref 54, .int (f 14), .int (f 15), .int (f 16), .ref 55, .int (f 18)]) ::
  .inr (5, [.int (f 64), .ref 2, .ref 3, .ref 4, .int (f 68), .ref 5, .int (f 70), .int (f 71), .int (f 72), .ref 6, .int (f 74), .ref 7, .int (f 76), .ref 8, .int (f 78), .ref 9]) ::
  .inl (0, 8, .inl (g 2)) ::
  .inl (0, 8, .inl (g 3)) ::
  .inl (0, 8, .inl (g 4)) ::
  .inl (0, 3, .inl (g 5)) ::
  .inl (0, 6, .inl (g 6)) ::
  .inl (4, 6, .inr (.inr (.inr (.inr (hh 7))))) ::
  .inl (0, 3, .inl (g 8)) ::
  .inl (0, 16, .inl (g 9)) ::
  .inr (5, [.int (f 640), .ref 11, .ref 12, .ref 13, .int (f 644), .ref 14, .int (f 646), .int (f 647), .int (f 648), .ref 15, .int (f 650), .ref 16, .int (f 652), .ref 17, .int (f 654), .ref 18]) ::
  .inl (0, 8, .inl (g 11)) ::
  .inl (0, 8, .inl (g 12)) ::
  .inl (0, 8, .inl (g 13)) ::
  .inl (0, 3, .inl (g 14)) ::
  .inl (0, 6, .inl (g 15)) ::
  .inl (4, 6, .inr (.inr (.inr (.inr (hh 16))))) ::
  .inl (0, 3, .inl (g 17)) ::
  .inl (0, 16, .inl (g 18)) ::
  .inr (5, [.int (f 1216), .ref 20, .ref 21, .ref 22, .int (f 1220), .ref 23, .int (f 1222), .int (f 1223), .int (f 1224), .ref 24, .int (f 1226), .ref 25, .int (f 1228), .ref 26, .int (f 1230), .ref 27]) ::
  .inl (0, 8, .inl (g 20)) ::
  .inl (0, 8, .inl (g 21)) ::
  .inl (0, 8, .inl (g 22)) ::
  .inl (0, 3, .inl (g 23)) ::
  .inl (0, 6, .inl (g 24)) ::
  .inl (4, 6, .inr (.inr (.inr (.inr (hh 25))))) ::
  .inl (0, 3, .inl (g 26)) ::
  .inl (0, 16, .inl (g 27)) ::
  .inl (5, 2, .inr (.inr (.inr (.inr (hh 28))))) ::
  .inl (3, 2, .inl (g 29)) ::
  .inl (0, 400, .inl (g 30)) ::
  .inr (4, [.ref 32, .int (f 1985), v 1986, .int (f 1987), .int (f 1988), .int (f 1989), .int (f 1990), .int (f 1991), .int (f 1992), .int (f 1993)]) ::
  .inr (6, [.int (f 2048), .int (f 2049), .ref 34, .ref 33]) ::
  .inl (0, 60, .inl (g 33)) ::
  .inl (0, 400, .inl (g 34)) ::
  .inr (3, [.ref 36]) ::
  .inl (1, 64, .inr (.inl (gl 36))) ::
  .inl (0, 11, .inl (g 37)) ::
  .inr (0, [.ref 39, .ref 41, .ref 42, .ref 43, .ref 44, .int (f 2437), .int (f 2438), v 2439, .int (f 2440)]) ::
  .inr (3, [.ref 40]) ::
  .inl (1, 64, .inr (.inl (gl 40))) ::
  .inl (0, 8, .inl (g 41)) ::
  .inl (0, 8, .inl (g 42)) ::
  .inl (0, 13, .inl (g 43)) ::
  .inl (0, 12, .inl (g 44)) ::
  .inr (2, [.ref 46, .ref 47, .int (f 2882), .ref 48, .ref 49]) ::
  .inl (0, 1000, .inl (g 46)) ::
  .inl (0, 1000, .inl (g 47)) ::
  .inl (0, 8, .inl (g 48)) ::
  .inl (0, 250, .inl (g 49)) ::
  .inr (1, [.ref 51, .ref 52, .ref 53, .int (f 3203)]) ::
  .inl (0, 8, .inl (g 51)) ::
  .inl (0, 128, .inl (g 52)) ::
  .inl (0, 128, .inl (g 53)) ::
  .inl (1, 21, .inr (.inl (gl 54))) ::
  .inl (0, 7, .inl (g 55)) ::
  .inr (5, [.int (f 3584), .ref 57, .ref 58, .ref 59, .int (f 3588), .ref 60, .int (f 3590), .int (f 3591), .int (f 3592), .ref 61, .int (f 3594), .ref 62, .int (f 3596), .ref 63, .int (f 3598), .ref 64]) ::
  .inl (0, 8, .inl (g 57)) ::
  .inl (0, 8, .inl (g 58)) ::
  .inl (0, 8, .inl (g 59)) ::
  .inl (0, 3, .inl (g 60)) ::
  .inl (0, 6, .inl (g 61)) ::
  .inl (4, 6, .inr (.inr (.inr (.inr (hh 62))))) ::
  .inl (0, 3, .inl (g 63)) ::
  .inl (0, 16, .inl (g 64)) ::
  .inr (5, [.int (f 4160), .ref 66, .ref 67, .ref 68, .int (f 4164), .ref 69, .int (f 4166), .int (f 4167), .int (f 4168), .ref 70, .int (f 4170), .ref 71, .int (f 4172), .ref 72, .int (f 4174), .ref 73]) ::
  .inl (0, 8, .inl (g 66)) ::
  .inl (0, 8, .inl (g 67)) ::
  .inl (0, 8, .inl (g 68)) ::
  .inl (0, 3, .inl (g 69)) ::
  .inl (0, 6, .inl (g 70)) ::
  .inl (4, 6, .inr (.inr (.inr (.inr (hh 71))))) ::
  .inl (0, 3, .inl (g 72)) ::
  .inl (0, 16, .inl (g 73)) ::
  .inr (8, [.int (f 4736), .ref 75, .ref 76, .ref 77, .ref 78, .ref 79, .int (f 4742), .ref 80, .int (f 4744), .int (f 4745), .int (f 4746), .ref 81, .ref 82, .int (f 4749), .int (f 4750), .ref 83, .ref 84, .ref 85, .int (f 4754), .int (f 4755), .int (f 4756), .int (f 4757), .int (f 4758), .int (f 4759), .int (f 4760), .int (f 4761), .ref 86, .int (f 4763), .int (f 4764), .ref 87, .ref 88, .ref 89, .ref 90, .ref 91, .ref 92, .ref 93, .ref 94, .ref 95, .ref 96, .ref 97, .ref 98, .int (f 4777), .int (f 4778), .int (f 4779), .int (f 4780), .int (f 4781), .int (f 4782), .int (f 4783), .long (fl 4784), .ref 99, .int (f 4786), .int (f 4787)]) ::
  .inl (0, 7, .inl (g 75)) ::
  .inl (0, 5667, .inl (g 76)) ::
  .inl (0, 11334, .inl (g 77)) ::
  .inl (3, 2, .inl (g 78)) ::
  .inl (0, 46, .inl (g 79)) ::
  .inl (2, 121, .inl (g 80)) ::
  .inl (2, 400, .inl (g 81)) ::
  .inl (0, 5, .inl (g 82)) ::
  .inl (0, 401, .inl (g 83)) ::
  .inl (0, 401, .inl (g 84)) ::
  .inl (0, 401, .inl (g 85)) ::
  .inl (0, 8, .inl (g 86)) ::
  .inl (0, 13, .inl (g 87)) ::
  .inl (0, 13, .inl (g 88)) ::
  .inl (0, 8, .inl (g 89)) ::
  .inl (0, 12, .inl (g 90)) ::
  .inl (0, 6000, .inl (g 91)) ::
  .inl (0, 1000, .inl (g 92)) ::
  .inl (0, 125, .inl (g 93)) ::
  .inl (1, 21, .inr (.inl (gl 94))) ::
  .inl (0, 91, .inl (g 95)) ::
  .inl (1, 21, .inr (.inl (gl 96))) ::
  .inl (0, 384, .inl (g 97)) ::
  .inl (0, 384, .inl (g 98)) ::
  .inl (0, 23, .inl (g 99)) :: tx
