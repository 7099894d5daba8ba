theorem Ex.iald {X : mm_X} {d mi : Nat} {M : mm_M} (hM : mk_P[mi]? = some M) {pc a b : Nat} {v : Value} {dead tg : List Nat} {L : mm_L} {st : List Value} {w : mm_W} {r : Option Value} {w' : mm_W} {j : Int32} {k n : Nat} {f : Nat → Int32} (hq : M.2.2.2.2.lookup pc = some (.iaload, a, b, v, dead, tg)) (hw : w[k]? = some (.inl (0, n, .inl f))) (hin : ¬ (j < 0 ∨ n ≤ j.toNatClampNeg)) (h : Ex X d mi (pc + 1, mm_clr dead L, .int (f j.toNatClampNeg) :: st, w) r w') : Ex X d mi (pc, L, .int j :: .ref k :: st, w) r w' := by
  refine Ex.step hM ?_ h
  unfold mm_stp
  simp only [hq, mm_step, mm_nx]
  simp only [hw]
  rw [if_pos (by first | exact ⟨trivial, hin⟩ | exact ⟨rfl, hin⟩)]
theorem Ex.bald {X : mm_X} {d mi : Nat} {M : mm_M} (hM : mk_P[mi]? = some M) {pc a b : Nat} {v : Value} {dead tg : List Nat} {L : mm_L} {st : List Value} {w : mm_W} {r : Option Value} {w' : mm_W} {j : Int32} {k n : Nat} {f : Nat → Int32} (hq : M.2.2.2.2.lookup pc = some (.baload, a, b, v, dead, tg)) (hw : w[k]? = some (.inl (2, n, .inl f))) (hin : ¬ (j < 0 ∨ n ≤ j.toNatClampNeg)) (h : Ex X d mi (pc + 1, mm_clr dead L, .int (f j.toNatClampNeg) :: st, w) r w') : Ex X d mi (pc, L, .int j :: .ref k :: st, w) r w' := by
  refine Ex.step hM ?_ h
  unfold mm_stp
  simp only [hq, mm_step, mm_nx]
  simp only [hw]
  rw [if_pos (by first | exact ⟨Or.inl trivial, hin⟩ | exact ⟨Or.inl rfl, hin⟩)]
theorem Ex.zald {X : mm_X} {d mi : Nat} {M : mm_M} (hM : mk_P[mi]? = some M) {pc a b : Nat} {v : Value} {dead tg : List Nat} {L : mm_L} {st : List Value} {w : mm_W} {r : Option Value} {w' : mm_W} {j : Int32} {k n : Nat} {f : Nat → Int32} (hq : M.2.2.2.2.lookup pc = some (.baload, a, b, v, dead, tg)) (hw : w[k]? = some (.inl (3, n, .inl f))) (hin : ¬ (j < 0 ∨ n ≤ j.toNatClampNeg)) (h : Ex X d mi (pc + 1, mm_clr dead L, .int (f j.toNatClampNeg) :: st, w) r w') : Ex X d mi (pc, L, .int j :: .ref k :: st, w) r w' := by
  refine Ex.step hM ?_ h
  unfold mm_stp
  simp only [hq, mm_step, mm_nx]
  simp only [hw]
  rw [if_pos (by first | exact ⟨Or.inr trivial, hin⟩ | exact ⟨Or.inr rfl, hin⟩)]
theorem Ex.lald {X : mm_X} {d mi : Nat} {M : mm_M} (hM : mk_P[mi]? = some M) {pc a b : Nat} {v : Value} {dead tg : List Nat} {L : mm_L} {st : List Value} {w : mm_W} {r : Option Value} {w' : mm_W} {j : Int32} {k n : Nat} {f : Nat → Int64} (hq : M.2.2.2.2.lookup pc = some (.laload, a, b, v, dead, tg)) (hw : w[k]? = some (.inl (1, n, .inr (.inl f)))) (hin : ¬ (j < 0 ∨ n ≤ j.toNatClampNeg)) (h : Ex X d mi (pc + 1, mm_clr dead L, .long (f j.toNatClampNeg) :: st, w) r w') : Ex X d mi (pc, L, .int j :: .ref k :: st, w) r w' := by
  refine Ex.step hM ?_ h
  unfold mm_stp
  simp only [hq, mm_step, mm_nx]
  simp only [hw]
  rw [if_pos (by first | exact ⟨trivial, hin⟩ | exact ⟨rfl, hin⟩)]
theorem Ex.aald4 {X : mm_X} {d mi : Nat} {M : mm_M} (hM : mk_P[mi]? = some M) {pc a b : Nat} {v : Value} {dead tg : List Nat} {L : mm_L} {st : List Value} {w : mm_W} {r : Option Value} {w' : mm_W} {j : Int32} {k n : Nat} {f : Nat → Option Nat} (hq : M.2.2.2.2.lookup pc = some (.aaload, a, b, v, dead, tg)) (hw : w[k]? = some (.inl (4, n, .inr (.inr (.inr (.inr f)))))) (hin : ¬ (j < 0 ∨ n ≤ j.toNatClampNeg)) (h : Ex X d mi (pc + 1, mm_clr dead L, mm_rf (f j.toNatClampNeg) :: st, w) r w') : Ex X d mi (pc, L, .int j :: .ref k :: st, w) r w' := by
  refine Ex.step hM ?_ h
  unfold mm_stp
  simp only [hq, mm_step, mm_nx]
  simp only [hw]
  rw [if_pos (by first | exact ⟨Or.inl trivial, hin⟩ | exact ⟨Or.inl rfl, hin⟩)]
theorem Ex.aald5 {X : mm_X} {d mi : Nat} {M : mm_M} (hM : mk_P[mi]? = some M) {pc a b : Nat} {v : Value} {dead tg : List Nat} {L : mm_L} {st : List Value} {w : mm_W} {r : Option Value} {w' : mm_W} {j : Int32} {k n : Nat} {f : Nat → Option Nat} (hq : M.2.2.2.2.lookup pc = some (.aaload, a, b, v, dead, tg)) (hw : w[k]? = some (.inl (5, n, .inr (.inr (.inr (.inr f)))))) (hin : ¬ (j < 0 ∨ n ≤ j.toNatClampNeg)) (h : Ex X d mi (pc + 1, mm_clr dead L, mm_rf (f j.toNatClampNeg) :: st, w) r w') : Ex X d mi (pc, L, .int j :: .ref k :: st, w) r w' := by
  refine Ex.step hM ?_ h
  unfold mm_stp
  simp only [hq, mm_step, mm_nx]
  simp only [hw]
  rw [if_pos (by first | exact ⟨Or.inr trivial, hin⟩ | exact ⟨Or.inr rfl, hin⟩)]
theorem Ex.iast {X : mm_X} {d mi : Nat} {M : mm_M} (hM : mk_P[mi]? = some M) {pc a b : Nat} {v : Value} {dead tg : List Nat} {L : mm_L} {st : List Value} {w : mm_W} {r : Option Value} {w' : mm_W} {j x : Int32} {k n : Nat} {f : Nat → Int32} {w2 : mm_W} (hq : M.2.2.2.2.lookup pc = some (.iastore, a, b, v, dead, tg)) (hw : w[k]? = some (.inl (0, n, .inl f))) (hin : ¬ (j < 0 ∨ n ≤ j.toNatClampNeg)) (hs : w.set k (.inl (0, n, .inl (upd f j.toNatClampNeg x))) = w2) (h : Ex X d mi (pc + 1, mm_clr dead L, st, w2) r w') : Ex X d mi (pc, L, .int x :: .int j :: .ref k :: st, w) r w' := by
  refine Ex.step hM ?_ h
  unfold mm_stp
  simp only [hq, mm_step, mm_nx]
  simp only [hw]
  rw [if_pos (by first | exact ⟨trivial, hin⟩ | exact ⟨rfl, hin⟩), hs]
theorem Ex.bast {X : mm_X} {d mi : Nat} {M : mm_M} (hM : mk_P[mi]? = some M) {pc a b : Nat} {v : Value} {dead tg : List Nat} {L : mm_L} {st : List Value} {w : mm_W} {r : Option Value} {w' : mm_W} {j x : Int32} {k n : Nat} {f : Nat → Int32} {w2 : mm_W} (hq : M.2.2.2.2.lookup pc = some (.bastore, a, b, v, dead, tg)) (hw : w[k]? = some (.inl (2, n, .inl f))) (hin : ¬ (j < 0 ∨ n ≤ j.toNatClampNeg)) (hs : w.set k (.inl (2, n, .inl (upd f j.toNatClampNeg (vp_nar .byte x)))) = w2) (h : Ex X d mi (pc + 1, mm_clr dead L, st, w2) r w') : Ex X d mi (pc, L, .int x :: .int j :: .ref k :: st, w) r w' := by
  refine Ex.step hM ?_ h
  unfold mm_stp
  simp only [hq, mm_step, mm_nx]
  simp only [hw]
  rw [if_pos hin, if_pos (by first | trivial | rfl), hs]
theorem Ex.zast {X : mm_X} {d mi : Nat} {M : mm_M} (hM : mk_P[mi]? = some M) {pc a b : Nat} {v : Value} {dead tg : List Nat} {L : mm_L} {st : List Value} {w : mm_W} {r : Option Value} {w' : mm_W} {j x : Int32} {k n : Nat} {f : Nat → Int32} {w2 : mm_W} (hq : M.2.2.2.2.lookup pc = some (.bastore, a, b, v, dead, tg)) (hw : w[k]? = some (.inl (3, n, .inl f))) (hin : ¬ (j < 0 ∨ n ≤ j.toNatClampNeg)) (hs : w.set k (.inl (3, n, .inl (upd f j.toNatClampNeg (vp_nar .boolean x)))) = w2) (h : Ex X d mi (pc + 1, mm_clr dead L, st, w2) r w') : Ex X d mi (pc, L, .int x :: .int j :: .ref k :: st, w) r w' := by
  refine Ex.step hM ?_ h
  unfold mm_stp
  simp only [hq, mm_step, mm_nx]
  simp only [hw]
  rw [if_pos hin, if_neg (by decide), if_pos (by first | trivial | rfl), hs]
theorem Ex.last {X : mm_X} {d mi : Nat} {M : mm_M} (hM : mk_P[mi]? = some M) {pc a b : Nat} {v : Value} {dead tg : List Nat} {L : mm_L} {st : List Value} {w : mm_W} {r : Option Value} {w' : mm_W} {j : Int32} {x : Int64} {k n : Nat} {f : Nat → Int64} {w2 : mm_W} (hq : M.2.2.2.2.lookup pc = some (.lastore, a, b, v, dead, tg)) (hw : w[k]? = some (.inl (1, n, .inr (.inl f)))) (hin : ¬ (j < 0 ∨ n ≤ j.toNatClampNeg)) (hs : w.set k (.inl (1, n, .inr (.inl (vp_updL f j.toNatClampNeg x)))) = w2) (h : Ex X d mi (pc + 1, mm_clr dead L, st, w2) r w') : Ex X d mi (pc, L, .long x :: .int j :: .ref k :: st, w) r w' := by
  refine Ex.step hM ?_ h
  unfold mm_stp
  simp only [hq, mm_step, mm_nx]
  simp only [hw]
  rw [if_pos (by first | exact ⟨trivial, hin⟩ | exact ⟨rfl, hin⟩), hs]
theorem Ex.sald {X : mm_X} {d mi : Nat} {M : mm_M} (hM : mk_P[mi]? = some M) {pc a b : Nat} {v : Value} {dead tg : List Nat} {L : mm_L} {st : List Value} {w : mm_W} {r : Option Value} {w' : mm_W} {j : Int32} (hq : M.2.2.2.2.lookup pc = some (.iaload, a, b, v, dead, tg)) (hin : ¬ (j < 0 ∨ X.1 ≤ j.toNatClampNeg)) (h : Ex X d mi (pc + 1, mm_clr dead L, .int (X.2 j.toNatClampNeg) :: st, w) r w') : Ex X d mi (pc, L, .int j :: .float 0 :: st, w) r w' := by
  refine Ex.step hM ?_ h
  unfold mm_stp
  simp only [hq, mm_step, mm_nx]
  rw [if_pos (by first | exact ⟨trivial, hin⟩ | exact ⟨rfl, hin⟩)]
theorem Ex.idiv {X : mm_X} {d mi : Nat} {M : mm_M} (hM : mk_P[mi]? = some M) {pc a b : Nat} {v : Value} {dead tg : List Nat} {L : mm_L} {st : List Value} {w : mm_W} {r : Option Value} {w' : mm_W} {x y : Int32} (hq : M.2.2.2.2.lookup pc = some (.idiv, a, b, v, dead, tg)) (hy : ¬ y = 0) (h : Ex X d mi (pc + 1, mm_clr dead L, .int (x / y) :: st, w) r w') : Ex X d mi (pc, L, .int y :: .int x :: st, w) r w' := by
  refine Ex.step hM ?_ h
  unfold mm_stp
  simp only [hq, mm_step, mm_nx]
  rw [if_neg hy]
theorem Ex.irem {X : mm_X} {d mi : Nat} {M : mm_M} (hM : mk_P[mi]? = some M) {pc a b : Nat} {v : Value} {dead tg : List Nat} {L : mm_L} {st : List Value} {w : mm_W} {r : Option Value} {w' : mm_W} {x y : Int32} (hq : M.2.2.2.2.lookup pc = some (.irem, a, b, v, dead, tg)) (hy : ¬ y = 0) (h : Ex X d mi (pc + 1, mm_clr dead L, .int (x - x / y * y) :: st, w) r w') : Ex X d mi (pc, L, .int y :: .int x :: st, w) r w' := by
  refine Ex.step hM ?_ h
  unfold mm_stp
  simp only [hq, mm_step, mm_nx]
  rw [if_neg hy]
theorem Ex.ldiv {X : mm_X} {d mi : Nat} {M : mm_M} (hM : mk_P[mi]? = some M) {pc a b : Nat} {v : Value} {dead tg : List Nat} {L : mm_L} {st : List Value} {w : mm_W} {r : Option Value} {w' : mm_W} {x y : Int64} (hq : M.2.2.2.2.lookup pc = some (.ldiv, a, b, v, dead, tg)) (hy : ¬ y = 0) (h : Ex X d mi (pc + 1, mm_clr dead L, .long (x / y) :: st, w) r w') : Ex X d mi (pc, L, .long y :: .long x :: st, w) r w' := by
  refine Ex.step hM ?_ h
  unfold mm_stp
  simp only [hq, mm_step, mm_nx]
  rw [if_neg hy]
theorem Ex.lrem {X : mm_X} {d mi : Nat} {M : mm_M} (hM : mk_P[mi]? = some M) {pc a b : Nat} {v : Value} {dead tg : List Nat} {L : mm_L} {st : List Value} {w : mm_W} {r : Option Value} {w' : mm_W} {x y : Int64} (hq : M.2.2.2.2.lookup pc = some (.lrem, a, b, v, dead, tg)) (hy : ¬ y = 0) (h : Ex X d mi (pc + 1, mm_clr dead L, .long (x - x / y * y) :: st, w) r w') : Ex X d mi (pc, L, .long y :: .long x :: st, w) r w' := by
  refine Ex.step hM ?_ h
  unfold mm_stp
  simp only [hq, mm_step, mm_nx]
  rw [if_neg hy]
theorem Ex.putZ {X : mm_X} {d mi : Nat} {M : mm_M} (hM : mk_P[mi]? = some M) {pc a b : Nat} {v : Value} {dead tg : List Nat} {L : mm_L} {st : List Value} {w : mm_W} {r : Option Value} {w' : mm_W} {x : Int32} {k c : Nat} {fs : List Value} {w2 : mm_W} {z : Nat} (hq : M.2.2.2.2.lookup pc = some (.putfield z, a, b, v, dead, tg)) (hw : w[k]? = some (.inr (c, fs))) (hc : c = a) (hb : b < fs.length) (hv : v = .int 1) (hx : x = 0 ∨ x = 1) (hs : w.set k (.inr (c, fs.set b (.int x))) = w2) (h : Ex X d mi (pc + 3, mm_clr dead L, st, w2) r w') : Ex X d mi (pc, L, .int x :: .ref k :: st, w) r w' := by
  refine Ex.step hM ?_ h
  unfold mm_stp
  simp only [hq, mm_step, mm_nx]
  simp only [hw]
  rw [if_pos ⟨hc, hb, by rw [hv]; simp [mm_fit]; exact hx⟩, hs]
theorem Ex.retZ {X : mm_X} {d mi : Nat} {M : mm_M} (hM : mk_P[mi]? = some M) {pc a b : Nat} {v : Value} {dead tg : List Nat} {L : mm_L} {w : mm_W} {x : Int32} (hq : M.2.2.2.2.lookup pc = some (.ireturn, a, b, v, dead, tg)) (hr : M.2.2.2.1 = some .boolean) (hx : x = 0 ∨ x = 1) : Ex X d mi (pc, L, [.int x], w) (some (.int x)) w := by
  refine Ex.ret hM ?_
  unfold mm_stp
  simp only [hq, mm_step, mm_ret, hr]
  rw [if_pos (by rcases hx with rfl | rfl <;> decide)]
