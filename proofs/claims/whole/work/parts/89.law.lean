/-! a law is kept: the class's Text of its own -/
theorem Ex.newi {X : mm_X} {d mi : Nat} {M : mm_M} (hM : mk_P[mi]? = some M) {pc b : Nat} {v : Value} {dead tg : List Nat} {L : mm_L} {st : List Value} {w : mm_W} {r : Option Value} {w' : mm_W} {n : Int32} {t : Nat} {ty : _} (hq : M.2.2.2.2.lookup pc = some (.newarray ty, 0, b, v, dead, tg)) (hn : ¬ n < 0 ∧ n.toNatClampNeg ≤ 60000) (ht : n.toNatClampNeg = t) (h : Ex X d mi (pc + 2, mm_clr dead L, .ref w.length :: st, w ++ [.inl (0, t, .inl fun _ => 0)]) r w') : Ex X d mi (pc, L, .int n :: st, w) r w' := by
  refine Ex.step hM ?_ h
  unfold mm_stp
  simp only [hq, mm_step, mm_nx]
  rw [if_pos hn, ht]
  rfl
theorem Ex.clone {X : mm_X} {d mi : Nat} {M : mm_M} (hM : mk_P[mi]? = some M) {pc a b z : Nat} {dead tg : List Nat} {L : mm_L} {st : List Value} {w : mm_W} {r : Option Value} {w' : mm_W} {k n : Nat} {F : Nat → Int32} (hq : M.2.2.2.2.lookup pc = some (.invokevirtual z, a, b, .null, dead, tg)) (hw : w[k]? = some (.inl (0, n, .inl F))) (hc : mm_cat st ≤ 8) (h : Ex X d mi (pc + 3, mm_clr dead L, .ref w.length :: st, w ++ [.inl (0, n, .inl F)]) r w') : Ex X d mi (pc, L, .ref k :: st, w) r w' := by
  refine Ex.step hM ?_ h
  unfold mm_stp
  simp only [hq, mm_step, mm_nx]
  rw [if_pos (by first | trivial | rfl)]
  simp only [hw]
  rw [if_pos ⟨by first | trivial | rfl, hc⟩]
theorem Ex.castA {X : mm_X} {d mi : Nat} {M : mm_M} (hM : mk_P[mi]? = some M) {pc a b z : Nat} {v : Value} {dead tg : List Nat} {L : mm_L} {st : List Value} {w : mm_W} {r : Option Value} {w' : mm_W} {k n : Nat} {F : Nat → Int32} (hq : M.2.2.2.2.lookup pc = some (.checkcast z, a, b, v, dead, tg)) (hw : w[k]? = some (.inl (0, n, .inl F))) (h : Ex X d mi (pc + 3, mm_clr dead L, .ref k :: st, w) r w') : Ex X d mi (pc, L, .ref k :: st, w) r w' := by
  refine Ex.step hM ?_ h
  unfold mm_stp
  simp only [hq, mm_step, mm_nx]
  simp only [hw]
  rw [if_pos (by first | trivial | rfl)]
theorem Ex.putf {X : mm_X} {d mi : Nat} {M : mm_M} (hM : mk_P[mi]? = some M) {pc a b : Nat} {v : Value} {dead tg : List Nat} {L : mm_L} {st : List Value} {w : mm_W} {r : Option Value} {w' : mm_W} {x : Value} {k c : Nat} {fs : List Value} {w2 : mm_W} {z : Nat} (hq : M.2.2.2.2.lookup pc = some (.putfield z, a, b, v, dead, tg)) (hw : w[k]? = some (.inr (c, fs))) (hc : c = a) (hb : b < fs.length) (hv : mm_fit v x = true) (hs : w.set k (.inr (c, fs.set b x)) = w2) (h : Ex X d mi (pc + 3, mm_clr dead L, st, w2) r w') : Ex X d mi (pc, L, x :: .ref k :: st, w) r w' := by
  refine Ex.step hM ?_ h
  unfold mm_stp
  simp only [hq, mm_step, mm_nx]
  simp only [hw]
  rw [if_pos ⟨hc, hb, hv⟩, hs]
theorem Ex.newo {X : mm_X} {d mi : Nat} {M : mm_M} (hM : mk_P[mi]? = some M) {pc a b z : Nat} {v : Value} {dead tg : List Nat} {L : mm_L} {st : List Value} {w : mm_W} {r : Option Value} {w' : mm_W} {fs : List Value} (hq : M.2.2.2.2.lookup pc = some (.new z, a, b, v, dead, tg)) (hG : mk_G[a]? = some fs) (h : Ex X d mi (pc + 3, mm_clr dead L, .ref w.length :: st, w ++ [.inr (a, fs)]) r w') : Ex X d mi (pc, L, st, w) r w' := by
  refine Ex.step hM ?_ h
  unfold mm_stp
  simp only [hq, mm_step, mm_nx]
  simp only [hG]
theorem get_end {α : Type} {w : List α} {e : α} : (w ++ [e])[w.length]? = some e := by
  rw [List.getElem?_append_right (Nat.le_refl _), Nat.sub_self]
  rfl
theorem set_end {α : Type} {w : List α} {e e2 : α} : (w ++ [e]).set w.length e2 = w ++ [e2] := by
  rw [List.set_append_right _ _ (Nat.le_refl _), Nat.sub_self]
  rfl
theorem c_copyOf {X : mm_X} {d r n0 m : Nat} {F : Nat → Int32} {w : mm_W} {P : Option Value → mm_W → Prop} (hw : w[r]? = some (.inl (0, n0, .inl F))) (hm : m ≤ n0) (h0 : n0 ≤ 60000)
    (h : ∀ a : Nat → Int32, (∀ i, i < m → a i = F i) → P (some (.ref w.length)) (w ++ [.inl (0, m, .inl a)])) : WP X d 259 (0, [some (.ref r), some (.int (iI (m : Int))), none], [], w) P := by
  have eN : Int32.ofNat n0 = iI (n0 : Int) := ofN n0
  refine WP.run hP_259 2 (c' := (2, [some (.ref r), some (.int (iI (m : Int))), none], [.ref r, .int (iI (m : Int))], w)) rfl ?_
  refine WP.of (fun _ _ => Ex.alen hP_259 rfl hw (by decide)) ?_
  rw [eN]
  refine WP.br hP_259 (q := ¬ iI (m : Int) = iI (n0 : Int)) (t := 14) (f := 6) (L := [some (.ref r), some (.int (iI (m : Int))), none]) (st := []) (w := w) rfl (fun c => ?_) fun c => ?_
  · refine WP.run hP_259 1 (c' := (15, [some (.ref r), some (.int (iI (m : Int))), none], [.int (iI (m : Int))], w)) rfl ?_
    refine WP.of (fun _ _ => Ex.newi hP_259 (t := m) rfl ⟨by simp (disch := omega) only [z_lit, z_litl, z_neg, z_negl, z_add, z_sub, z_mul, z_addl, z_subl, z_mull, z_cc, z_cl, z_cr, z_cm, z_cml, z_cmr, z_lt, z_le, z_eq, z_ltl, z_lel, z_eql, z_nat, z_i2l, z_l2i, z_div, z_sh, Int.toNat_natCast, z_ts, z_tsl]; omega, by rw [z_nat (by omega)]; omega⟩ (by rw [z_nat (by omega)]; omega)) ?_
    refine WP.run hP_259 6 (c' := (23, [some (.ref r), some (.int (iI (m : Int))), some (.ref w.length)], [.ref r, .int 0, .ref w.length, .int 0, .ref r], w ++ [.inl (0, m, .inl fun _ => 0)])) rfl ?_
    refine WP.of (fun _ _ => Ex.alen hP_259 rfl (get_app hw) (by decide)) ?_
    rw [eN]
    refine WP.run hP_259 2 (c' := (28, [some (.ref r), some (.int (iI (m : Int))), some (.ref w.length)], [.int (if iI (m : Int) < iI (n0 : Int) then iI (m : Int) else iI (n0 : Int)), .int 0, .ref w.length, .int 0, .ref r], w ++ [.inl (0, m, .inl fun _ => 0)])) rfl ?_
    have emin : (if iI (m : Int) < iI (n0 : Int) then iI (m : Int) else iI (n0 : Int)) = iI (m : Int) := by
      split
      · rfl
      · rename_i q
        simp (disch := omega) only [z_lit, z_litl, z_neg, z_negl, z_add, z_sub, z_mul, z_addl, z_subl, z_mull, z_cc, z_cl, z_cr, z_cm, z_cml, z_cmr, z_lt, z_le, z_eq, z_ltl, z_lel, z_eql, z_nat, z_i2l, z_l2i, z_div, z_sh, Int.toNat_natCast, z_ts, z_tsl] at q
        congr 1
        omega
    have tm : (iI (m : Int)).toNatClampNeg = m := by rw [z_nat (by omega)]; omega
    rw [emin]
    refine WP.of (fun _ _ => Ex.acopy hP_259 rfl rfl (get_app hw) get_end ⟨by decide, by decide, by simp (disch := omega) only [z_lit, z_litl, z_neg, z_negl, z_add, z_sub, z_mul, z_addl, z_subl, z_mull, z_cc, z_cl, z_cr, z_cm, z_cml, z_cmr, z_lt, z_le, z_eq, z_ltl, z_lel, z_eql, z_nat, z_i2l, z_l2i, z_div, z_sh, Int.toNat_natCast, z_ts, z_tsl]; omega, by rw [tm]; show 0 + m ≤ n0; omega, by rw [tm]; show 0 + m ≤ m; omega, by decide⟩ set_end) ?_
    refine WP.run hP_259 1 (c' := (32, [some (.ref r), some (.int (iI (m : Int))), some (.ref w.length)], [.ref w.length], _)) rfl ?_
    refine WP.ret hP_259 (r := some (.ref w.length)) rfl ?_
    rw [tm]
    refine h _ fun i hi => ?_
    show va_cpy F (fun _ => 0) 0 0 m i = F i
    unfold va_cpy
    rw [if_pos ⟨by omega, by omega⟩]
    congr 1
    omega
  · have e : m = n0 := by
      simp (disch := omega) only [z_lit, z_litl, z_neg, z_negl, z_add, z_sub, z_mul, z_addl, z_subl, z_mull, z_cc, z_cl, z_cr, z_cm, z_cml, z_cmr, z_lt, z_le, z_eq, z_ltl, z_lel, z_eql, z_nat, z_i2l, z_l2i, z_div, z_sh, Int.toNat_natCast, z_ts, z_tsl] at c
      omega
    subst e
    refine WP.run hP_259 1 (c' := (7, [some (.ref r), some (.int (iI (m : Int))), none], [.ref r], w)) rfl ?_
    refine WP.of (fun _ _ => Ex.clone hP_259 rfl hw (by decide)) ?_
    refine WP.of (fun _ _ => Ex.castA hP_259 rfl get_end) ?_
    exact WP.ret hP_259 (r := some (.ref w.length)) rfl (h F fun i _ => rfl)
/-- the fields of a Text are laid -/
theorem c_textinit {X : mm_X} {d t th tc : Nat} {k z : Int32} {a b : Int32} {x y : Value} {w : mm_W} {P : Option Value → mm_W → Prop} (hw : w[t]? = some (.inr (6, [.int a, .int b, x, y]))) (h : P none (w.set t (.inr (6, [.int k, .int z, .ref tc, .ref th])))) : WP X d 53 (0, [some (.ref t), some (.ref th), some (.int k), some (.ref tc), some (.int z)], [], w) P := by
  have ht : t < w.length := (List.getElem?_eq_some_iff.mp hw).1
  have at_ : ∀ e, (w.set t e)[t]? = some e := fun e => List.getElem?_set_self ht
  have tw : ∀ e e2 : mm_E, (w.set t e).set t e2 = w.set t e2 := fun e e2 => List.set_set ..
  refine WP.run hP_53 4 (c' := (6, [some (.ref t), some (.ref th), some (.int k), some (.ref tc), some (.int z)], [.ref th, .ref t], w)) rfl ?_
  refine WP.of (fun _ _ => Ex.putf hP_53 rfl hw rfl (Nat.le_of_ble_eq_true rfl) rfl rfl) ?_
  refine WP.run hP_53 2 (c' := (11, [some (.ref t), some (.ref th), some (.int k), some (.ref tc), some (.int z)], [.int k, .ref t], w.set t (.inr (6, [.int a, .int b, x, .ref th])))) rfl ?_
  refine WP.of (fun _ _ => Ex.putf hP_53 rfl (at_ _) rfl (Nat.le_of_ble_eq_true rfl) rfl (tw _ _)) ?_
  refine WP.run hP_53 2 (c' := (16, [some (.ref t), some (.ref th), some (.int k), some (.ref tc), some (.int z)], [.ref tc, .ref t], w.set t (.inr (6, [.int k, .int b, x, .ref th])))) rfl ?_
  refine WP.of (fun _ _ => Ex.putf hP_53 rfl (at_ _) rfl (Nat.le_of_ble_eq_true rfl) rfl (tw _ _)) ?_
  refine WP.run hP_53 2 (c' := (22, [some (.ref t), some (.ref th), some (.int k), some (.ref tc), some (.int z)], [.int z, .ref t], w.set t (.inr (6, [.int k, .int b, .ref tc, .ref th])))) rfl ?_
  refine WP.of (fun _ _ => Ex.putf hP_53 rfl (at_ _) rfl (Nat.le_of_ble_eq_true rfl) rfl (tw _ _)) ?_
  exact WP.ret hP_53 (r := none) rfl h
theorem c_trimmed {X : mm_X} {d : Nat} {f : Nat → Int32} {fl : Nat → Int64} {g : Nat → Nat → Int32} {gl : Nat → Nat → Int64} {hh : Nat → Nat → Option Nat} {v : Nat → Value} {tx : mm_W} {P : Option Value → mm_W → Prop} {k z : Nat} (hk : k ≤ 12) (hz : z ≤ 400) (h48 : f 2048 = iI (k : Int)) (h49 : f 2049 = iI (z : Int))
    (h : ∀ ah ac : Nat → Int32, (∀ i, i < 5 * k → ah i = g 33 i) → (∀ i, i < z → ac i = g 34 i) → P (some (.ref (tx.length + 1 + 100))) (Wd f fl g gl hh v (tx ++ [.inl (0, 5 * k, .inl ah), .inr (6, [.int (iI (k : Int)), .int (iI (z : Int)), .ref (tx.length + 2 + 100), .ref (tx.length + 100)]), .inl (0, z, .inl ac)]))) : WP X (d + 1) 54 (0, [some (.ref 32), none], [], Wd f fl g gl hh v tx) P := by
  have eL : ∀ q : mm_W, (Wd f fl g gl hh v q).length = q.length + 100 := fun q => rfl
  have eA : ∀ q r : mm_W, Wd f fl g gl hh v q ++ r = Wd f fl g gl hh v (q ++ r) := fun q r => rfl
  have e5 : (if (0 : Int32) < f 2048 then f 2048 else 0) * (5 : Int32) = iI ((5 * k : Nat) : Int) := by
    rw [h48]
    by_cases c : k = 0
    · subst c; rfl
    · rw [if_pos (by simp (disch := omega) only [z_lit, z_litl, z_neg, z_negl, z_add, z_sub, z_mul, z_addl, z_subl, z_mull, z_cc, z_cl, z_cr, z_cm, z_cml, z_cmr, z_lt, z_le, z_eq, z_ltl, z_lel, z_eql, z_nat, z_i2l, z_l2i, z_div, z_sh, Int.toNat_natCast, z_ts, z_tsl]; omega)]
      simp (disch := omega) only [z_lit, z_litl, z_neg, z_negl, z_add, z_sub, z_mul, z_addl, z_subl, z_mull, z_cc, z_cl, z_cr, z_cm, z_cml, z_cmr, z_lt, z_le, z_eq, z_ltl, z_lel, z_eql, z_nat, z_i2l, z_l2i, z_div, z_sh, Int.toNat_natCast, z_ts, z_tsl]
      congr 1
      omega
  have e9 : (if (0 : Int32) < f 2049 then f 2049 else 0) = iI (z : Int) := by
    rw [h49]
    by_cases c : z = 0
    · subst c; rfl
    · rw [if_pos (by simp (disch := omega) only [z_lit, z_litl, z_neg, z_negl, z_add, z_sub, z_mul, z_addl, z_subl, z_mull, z_cc, z_cl, z_cr, z_cm, z_cml, z_cmr, z_lt, z_le, z_eq, z_ltl, z_lel, z_eql, z_nat, z_i2l, z_l2i, z_div, z_sh, Int.toNat_natCast, z_ts, z_tsl]; omega)]
  have t1 : ∀ (q : mm_E) , (tx ++ [q]).length = tx.length + 1 := fun q => by rw [List.length_append]; rfl
  refine WP.run hP_54 6 (c' := (12, [some (.ref 32), none], [.int (if (0 : Int32) < f 2048 then f 2048 else 0), .ref 33], Wd f fl g gl hh v tx)) rfl ?_
  refine WP.run hP_54 2 (c' := (14, [some (.ref 32), none], [.int ((if (0 : Int32) < f 2048 then f 2048 else 0) * (5 : Int32)), .ref 33], Wd f fl g gl hh v tx)) rfl ?_
  rw [e5]
  refine WP.call hP_54 hP_259 (as := [.ref 33, .int (iI ((5 * k : Nat) : Int))]) (pc' := 17) (L' := [some (.ref 32), none]) (st' := []) (w1 := Wd f fl g gl hh v tx) rfl ⟨Nat.le_of_ble_eq_true rfl, Nat.le_of_ble_eq_true rfl⟩ rfl ?_
  refine c_copyOf (m := 5 * k) (Wa_33 f fl g gl hh v tx) (by omega) (by decide) fun ah hah => ?_
  rw [eL, eA]
  refine WP.run hP_54 1 (c' := (18, [some (.ref 32), some (.ref (tx.length + 100))], [], Wd f fl g gl hh v (tx ++ [.inl (0, 5 * k, .inl ah)]))) rfl ?_
  refine WP.of (fun _ _ => Ex.newo hP_54 (fs := [.int 0, .int 0, .null, .null]) rfl rfl) ?_
  rw [eL, eA, t1]
  refine WP.run hP_54 4 (c' := (27, [some (.ref 32), some (.ref (tx.length + 100))], [.int (f 2048), .ref (tx.length + 100), .ref (tx.length + 1 + 100), .ref (tx.length + 1 + 100)], Wd f fl g gl hh v (tx ++ [.inl (0, 5 * k, .inl ah)] ++ [.inr (6, [.int 0, .int 0, .null, .null])]))) rfl ?_
  refine WP.run hP_54 6 (c' := (39, [some (.ref 32), some (.ref (tx.length + 100))], [.int (if (0 : Int32) < f 2049 then f 2049 else 0), .ref 34, .int (f 2048), .ref (tx.length + 100), .ref (tx.length + 1 + 100), .ref (tx.length + 1 + 100)], Wd f fl g gl hh v (tx ++ [.inl (0, 5 * k, .inl ah)] ++ [.inr (6, [.int 0, .int 0, .null, .null])]))) rfl ?_
  rw [e9]
  refine WP.call hP_54 hP_259 (as := [.ref 34, .int (iI (z : Int))]) (pc' := 42) (L' := [some (.ref 32), some (.ref (tx.length + 100))]) (st' := [.int (f 2048), .ref (tx.length + 100), .ref (tx.length + 1 + 100), .ref (tx.length + 1 + 100)]) (w1 := Wd f fl g gl hh v (tx ++ [.inl (0, 5 * k, .inl ah)] ++ [.inr (6, [.int 0, .int 0, .null, .null])])) rfl ⟨Nat.le_of_ble_eq_true rfl, Nat.le_of_ble_eq_true rfl⟩ rfl ?_
  refine c_copyOf (m := z) (Wa_34 f fl g gl hh v _) hz (by decide) fun ac hac => ?_
  rw [eL, eA, List.length_append, t1]
  refine WP.run hP_54 2 (c' := (46, [some (.ref 32), some (.ref (tx.length + 100))], [.int (f 2049), .ref (tx.length + 1 + 1 + 100), .int (f 2048), .ref (tx.length + 100), .ref (tx.length + 1 + 100), .ref (tx.length + 1 + 100)], Wd f fl g gl hh v (tx ++ [.inl (0, 5 * k, .inl ah)] ++ [.inr (6, [.int 0, .int 0, .null, .null])] ++ [.inl (0, z, .inl ac)]))) rfl ?_
  refine WP.call hP_54 hP_53 (as := [.ref (tx.length + 1 + 100), .ref (tx.length + 100), .int (f 2048), .ref (tx.length + 1 + 1 + 100), .int (f 2049)]) (pc' := 49) (L' := [some (.ref 32), some (.ref (tx.length + 100))]) (st' := [.ref (tx.length + 1 + 100)]) (w1 := Wd f fl g gl hh v (tx ++ [.inl (0, 5 * k, .inl ah)] ++ [.inr (6, [.int 0, .int 0, .null, .null])] ++ [.inl (0, z, .inl ac)])) rfl ⟨Nat.le_of_ble_eq_true rfl, Nat.le_of_ble_eq_true rfl⟩ rfl ?_
  have eT : ∀ e : mm_E, (Wd f fl g gl hh v (tx ++ [.inl (0, 5 * k, .inl ah)] ++ [.inr (6, [.int 0, .int 0, .null, .null])] ++ [.inl (0, z, .inl ac)])).set (tx.length + 1 + 100) e = Wd f fl g gl hh v (tx ++ [.inl (0, 5 * k, .inl ah), e, .inl (0, z, .inl ac)]) := fun e => by
    show Wd f fl g gl hh v ((tx ++ ([.inl (0, 5 * k, .inl ah)] : mm_W) ++ ([.inr (6, [.int 0, .int 0, .null, .null])] : mm_W) ++ ([.inl (0, z, .inl ac)] : mm_W)).set (tx.length + 1) e) = _
    rw [List.append_assoc, List.append_assoc, List.set_append_right _ _ (by omega)]
    rw [show tx.length + 1 - tx.length = 1 by omega]
    rfl
  refine c_textinit (a := 0) (b := 0) (x := .null) (y := .null) ?_ ?_
  · show (tx ++ [.inl (0, 5 * k, .inl ah)] ++ [.inr (6, [.int 0, .int 0, .null, .null])] ++ [.inl (0, z, .inl ac)])[tx.length + 1]? = _
    rw [List.append_assoc, List.append_assoc, List.getElem?_append_right (by omega), show tx.length + 1 - tx.length = 1 by omega]
    rfl
  · rw [eT, h48, h49]
    exact WP.ret hP_54 (r := some (.ref (tx.length + 1 + 100))) rfl (h ah ac hah hac)
/-! the reference lays its tokens -/
def lkK (κ : Nat → Nat) (t N : Nat) (c u : Nat → Nat) (m : Nat) : Nat → Nat := fun i => if i = 60 + t then N else if 67 + 400 * t ≤ i ∧ i < 67 + 400 * t + m then c (i - (67 + 400 * t)) else if 2867 + 400 * t ≤ i ∧ i < 2867 + 400 * t + m then u (i - (2867 + 400 * t)) else κ i
theorem lkK_at {κ : Nat → Nat} {t N : Nat} {c u : Nat → Nat} {m j : Nat} : lkK κ t N c u m j = if j = 60 + t then N else if 67 + 400 * t ≤ j ∧ j < 67 + 400 * t + m then c (j - (67 + 400 * t)) else if 2867 + 400 * t ≤ j ∧ j < 2867 + 400 * t + m then u (j - (2867 + 400 * t)) else κ j := rfl
theorem c_m_lays {X : mm_X} {d : Nat} {f : Nat → Int32} {fl : Nat → Int64} {g : Nat → Nat → Int32} {gl : Nat → Nat → Int64} {hh : Nat → Nat → Option Nat} {v : Nat → Value} {tx : mm_W} {P : Option Value → mm_W → Prop} {κ : Nat → Nat} {t N : Nat} {c u : Nat → Nat} (ht : t ≤ 6) (hN : N ≤ 400) (h54 : f 4754 = iI (N : Int)) (h83 : ∀ k, k < N → g 83 k = iI (c k : Int) ∧ g 84 k = iI (u k : Int)) (hm : ms (g 76) κ)
    (h : ∀ K, ms K (lkK κ t N c u N) → P none (Wd f fl (va_up g 76 K) gl hh v tx)) : WP X d 173 (0, [some (.ref 74), some (.int (iI (t : Int))), none], [], Wd f fl g gl hh v tx) P := by
  have loop : ∀ i, i ≤ N → ∀ K, ms K (lkK κ t N c u i) → WP X d 173 (15, [some (.ref 74), some (.int (iI (t : Int))), some (.int (iI (i : Int)))], [], Wd f fl (va_up g 76 K) gl hh v tx) P := by
    refine k_up (Q := fun i => ∀ K, ms K (lkK κ t N c u i) → WP X d 173 (15, [some (.ref 74), some (.int (iI (t : Int))), some (.int (iI (i : Int)))], [], Wd f fl (va_up g 76 K) gl hh v tx) P) (fun K hK => ?_) fun i hi ih K hK => ?_
    · refine b_m_lays_15 (h := ?_) ..
      rw [h54]
      exact ⟨fun _ => h K hK, fun c => absurd (Int32.le_refl _) c⟩
    · refine b_m_lays_15 (h := ?_) ..
      obtain ⟨e83, e84⟩ := h83 i hi
      have k1 : ((67 : Int32) + (400 : Int32) * iI (t : Int) + iI (i : Int)).toNatClampNeg = 67 + 400 * t + i := by simp (disch := omega) only [z_lit, z_litl, z_neg, z_negl, z_add, z_sub, z_mul, z_addl, z_subl, z_mull, z_cc, z_cl, z_cr, z_cm, z_cml, z_cmr, z_lt, z_le, z_eq, z_ltl, z_lel, z_eql, z_nat, z_i2l, z_l2i, z_div, z_sh, Int.toNat_natCast, z_ts, z_tsl]
      have k2 : ((2867 : Int32) + (400 : Int32) * iI (t : Int) + iI (i : Int)).toNatClampNeg = 2867 + 400 * t + i := by simp (disch := omega) only [z_lit, z_litl, z_neg, z_negl, z_add, z_sub, z_mul, z_addl, z_subl, z_mull, z_cc, z_cl, z_cr, z_cm, z_cml, z_cmr, z_lt, z_le, z_eq, z_ltl, z_lel, z_eql, z_nat, z_i2l, z_l2i, z_div, z_sh, Int.toNat_natCast, z_ts, z_tsl]
      have k3 : (iI (i : Int)).toNatClampNeg = i := by rw [z_nat (by omega)]; omega
      simp (disch := decide) only [h54, k1, k2, k3, va_s, va_tw, va_ne, e83, e84, i1N]
      refine ⟨fun c => by simp (disch := omega) only [z_lit, z_litl, z_neg, z_negl, z_add, z_sub, z_mul, z_addl, z_subl, z_mull, z_cc, z_cl, z_cr, z_cm, z_cml, z_cmr, z_lt, z_le, z_eq, z_ltl, z_lel, z_eql, z_nat, z_i2l, z_l2i, z_div, z_sh, Int.toNat_natCast, z_ts, z_tsl] at c; omega, fun _ => ⟨by simp (disch := omega) only [z_lit, z_litl, z_neg, z_negl, z_add, z_sub, z_mul, z_addl, z_subl, z_mull, z_cc, z_cl, z_cr, z_cm, z_cml, z_cmr, z_lt, z_le, z_eq, z_ltl, z_lel, z_eql, z_nat, z_i2l, z_l2i, z_div, z_sh, Int.toNat_natCast, z_ts, z_tsl]; omega, by simp (disch := omega) only [z_lit, z_litl, z_neg, z_negl, z_add, z_sub, z_mul, z_addl, z_subl, z_mull, z_cc, z_cl, z_cr, z_cm, z_cml, z_cmr, z_lt, z_le, z_eq, z_ltl, z_lel, z_eql, z_nat, z_i2l, z_l2i, z_div, z_sh, Int.toNat_natCast, z_ts, z_tsl]; omega, by simp (disch := omega) only [z_lit, z_litl, z_neg, z_negl, z_add, z_sub, z_mul, z_addl, z_subl, z_mull, z_cc, z_cl, z_cr, z_cm, z_cml, z_cmr, z_lt, z_le, z_eq, z_ltl, z_lel, z_eql, z_nat, z_i2l, z_l2i, z_div, z_sh, Int.toNat_natCast, z_ts, z_tsl]; omega, by simp (disch := omega) only [z_lit, z_litl, z_neg, z_negl, z_add, z_sub, z_mul, z_addl, z_subl, z_mull, z_cc, z_cl, z_cr, z_cm, z_cml, z_cmr, z_lt, z_le, z_eq, z_ltl, z_lel, z_eql, z_nat, z_i2l, z_l2i, z_div, z_sh, Int.toNat_natCast, z_ts, z_tsl]; omega, ih _ ?_⟩⟩
      have h1 := (hK.up (c i) (i := 67 + 400 * t + i) (by omega)).up (u i) (i := 2867 + 400 * t + i) (by omega)
      have e : lkK κ t N c u (i + 1) = va_up (va_up (lkK κ t N c u i) (67 + 400 * t + i) (c i)) (2867 + 400 * t + i) (u i) := by
        funext j
        by_cases q1 : j = 2867 + 400 * t + i
        · rw [q1, va_s, lkK_at, if_neg (by omega), if_neg (by omega), if_pos (by omega)]
          congr 1; omega
        · rw [va_ne q1]
          by_cases q2 : j = 67 + 400 * t + i
          · rw [q2, va_s, lkK_at, if_neg (by omega), if_pos (by omega)]
            congr 1; omega
          · rw [va_ne q2, lkK_at, lkK_at]
            by_cases q3 : j = 60 + t
            · rw [if_pos q3, if_pos q3]
            · rw [if_neg q3, if_neg q3]
              by_cases q4 : 67 + 400 * t ≤ j ∧ j < 67 + 400 * t + i
              · rw [if_pos (by omega), if_pos q4]
              · rw [if_neg (by omega), if_neg q4]
                by_cases q5 : 2867 + 400 * t ≤ j ∧ j < 2867 + 400 * t + i
                · rw [if_pos (by omega), if_pos q5]
                · rw [if_neg (by omega), if_neg q5]
      rw [e]
      exact h1
  refine b_m_lays_0 (h := ?_) ..
  have k1 : ((60 : Int32) + iI (t : Int)).toNatClampNeg = 60 + t := by simp (disch := omega) only [z_lit, z_litl, z_neg, z_negl, z_add, z_sub, z_mul, z_addl, z_subl, z_mull, z_cc, z_cl, z_cr, z_cm, z_cml, z_cmr, z_lt, z_le, z_eq, z_ltl, z_lel, z_eql, z_nat, z_i2l, z_l2i, z_div, z_sh, Int.toNat_natCast, z_ts, z_tsl]
  rw [k1, h54]
  refine ⟨by simp (disch := omega) only [z_lit, z_litl, z_neg, z_negl, z_add, z_sub, z_mul, z_addl, z_subl, z_mull, z_cc, z_cl, z_cr, z_cm, z_cml, z_cmr, z_lt, z_le, z_eq, z_ltl, z_lel, z_eql, z_nat, z_i2l, z_l2i, z_div, z_sh, Int.toNat_natCast, z_ts, z_tsl]; omega, loop 0 (Nat.zero_le _) _ ?_⟩
  have h1 := hm.up N (i := 60 + t) (by omega)
  have e : lkK κ t N c u 0 = va_up κ (60 + t) N := by
    funext j
    by_cases q3 : j = 60 + t
    · rw [q3, va_s, lkK_at, if_pos rfl]
    · rw [va_ne q3, lkK_at, if_neg q3, if_neg (by omega), if_neg (by omega)]
  rw [e]
  exact h1
/-! what reading leaves as it was -/
def okf (a : Nat) : Bool := decide (a ≠ 6 ∧ a ≠ 14 ∧ ¬ (1985 ≤ a ∧ a ≤ 1993) ∧ a ≠ 2048 ∧ a ≠ 2049 ∧ ¬ (4744 ≤ a ∧ a ≤ 4757))
def okg (a : Nat) : Bool := decide (a ≠ 33 ∧ a ≠ 34 ∧ a ≠ 83 ∧ a ≠ 84 ∧ a ≠ 85)
/-- what holds, of this row κ -/
def k_InvB (κ : Nat → Nat) (f : Nat → Int32) (g : Nat → Nat → Int32) (hh : Nat → Nat → Option Nat) (tx : mm_W) : Prop := wf κ ∧ ms (g 76) κ ∧ xs (f 64) (g 2) (g 3) (g 4) (f 68) (g 5) (f 70) (f 71) (f 72) (g 6) (f 74) (hh 7) (f 76) (g 8) tx κ ∧ i_eq (f 14) (f 4750) (f 15) (f 4742) (f 16) (f 4778) (f 18) (f 4736) (g 55) (g 75) ∧ i_tape (f 6) (f 4749) (g 30) (g 81) ∧ i_acts (f 78) (f 4777) (g 9) (g 97) κ ∧
  i_img (g 29 0) (g 78 0) (f 3584) (g 57) (g 58) (g 59) (f 3588) (g 60) (f 3590) (f 3591) (f 3592) (g 61) (f 3594) (hh 62) (f 3596) (g 63) tx (fun i => g 77 i) ∧
  i_img (g 29 1) (g 78 1) (f 4160) (g 66) (g 67) (g 68) (f 4164) (g 69) (f 4166) (f 4167) (f 4168) (g 70) (f 4170) (hh 71) (f 4172) (g 72) tx (fun i => g 77 (5667 + i)) ∧
  i_drawn (f 1220) (f 4786) (g 23) (g 99) (g 80) ∧ i_refs hh tx
theorem k_InvB.inv {κ : Nat → Nat} {f : Nat → Int32} {fl : Nat → Int64} {g : Nat → Nat → Int32} {gl : Nat → Nat → Int64} {hh : Nat → Nat → Option Nat} {v : Nat → Value} {tx : mm_W} (h : k_InvB κ f g hh tx) : k_Inv f fl g gl hh v tx := ⟨κ, h⟩
theorem k_InvB.read {κ : Nat → Nat} {f f' : Nat → Int32} {g g' : Nat → Nat → Int32} {hh : Nat → Nat → Option Nat} {tx : mm_W} (h : k_InvB κ f g hh tx) (hf : ∀ a, okf a = true → f' a = f a) (hg : ∀ a, okg a = true → g' a = g a) (h6 : f' 6 = 0) (h49 : f' 4749 = 0) (h14 : f' 14 = f' 4750) : k_InvB κ f' g' hh tx := by
  obtain ⟨hw, hm, hx, he, ht, ha, hi0, hi1, hd, hr⟩ := h
  unfold k_InvB
  simp (disch := decide) only [hf, hg]
  exact ⟨hw, hm, hx, ⟨h14, he.2⟩, ⟨0, fun _ => 0, by omega, h6, h49, fun i hi => absurd hi (Nat.not_lt_zero i)⟩, ha, hi0, hi1, hd, hr⟩
theorem i_lw.app {tx tx2 : mm_W} {lw : Nat → Option Nat} (h : i_lw tx lw) : i_lw (tx ++ tx2) lw := fun t o ho => by
  obtain ⟨tt, fs, h1, h2⟩ := h t o ho
  exact ⟨tt, fs, h1, get_app h2⟩
theorem xW.app {la : Int32} {lw : Nat → Option Nat} {fo : Int32} {tx tx2 : mm_W} {κ : Nat → Nat} (h : xW la lw fo tx κ) : xW la lw fo (tx ++ tx2) κ := ⟨h.1, h.2.1, fun t ht => (h.2.2 t ht).app⟩
theorem i_img.app {xk mk n : Int32} {ro lo me : Nat → Int32} {m : Int32} {sp : Nat → Int32} {hu cl dn : Int32} {dd : Nat → Int32} {la : Int32} {lw : Nat → Option Nat} {fo : Int32} {te : Nat → Int32} {tx tx2 : mm_W} {K : Nat → Int32} (h : i_img xk mk n ro lo me m sp hu cl dn dd la lw fo te tx K) : i_img xk mk n ro lo me m sp hu cl dn dd la lw fo te (tx ++ tx2) K := by
  refine ⟨h.1, ?_⟩
  rcases h.2 with h | ⟨h1, κ, h2, h3, h4, h5, h6, h7, h8, h9⟩
  · exact Or.inl h
  · exact Or.inr ⟨h1, κ, h2, h3, h4, h5, h6, h7, h8.app, h9⟩
/-- a law more -/
theorem law_inv {f : Nat → Int32} {fl : Nat → Int64} {g : Nat → Nat → Int32} {gl : Nat → Nat → Int64} {hh : Nat → Nat → Option Nat} {v : Nat → Value} {tx : mm_W} {κ : Nat → Nat} {b : Nat → Nat} {n N : Nat} {cs : List pC} {K ah ac : Nat → Int32} (hn : n ≤ 400) (hb : ∀ i, b i < 256) (hN : N ≤ n) (hE : ts b n N = n)
    (hB : k_InvB κ f g hh tx)
    (h6 : κ 58 < 6) (hp : p_text (tcK b n) (tvK b n) false 4900 N 12 0 0 0 = some (.inr cs)) (hph : p_heads ah 0 0 cs) (hcd : cd ac 0 (p_code cs)) (hK : ms K (lkK κ (κ 58) N (tcK b n) (tvK b n) N)) :
    k_Inv (va_up (va_up (va_up f 74 (iI ((κ 58 + 1 : Nat) : Int))) 18 0) 4736 0) fl (va_up g 76 (upd K 58 (iI ((κ 58 + 1 : Nat) : Int)))) gl (va_up hh 7 (va_up (hh 7) (κ 58) (some (tx.length + 1 + 100)))) v (tx ++ [.inl (0, 5 * cs.length, .inl ah), .inr (6, [.int (iI (cs.length : Int)), .int (iI ((p_code cs).length : Int)), .ref (tx.length + 2 + 100), .ref (tx.length + 100)]), .inl (0, (p_code cs).length, .inl ac)]) := by
  obtain ⟨⟨wS, wH, wL, wD, wW, wT, wB⟩, hm, ⟨xS, xH, xL, xD, xW, xT⟩, he, ht, ha, hi0, hi1, hd, hr⟩ := hB
  have lo : ∀ i, i < 58 → va_up (lkK κ (κ 58) N (tcK b n) (tvK b n) N) 58 (κ 58 + 1) i = κ i := fun i hi => by
    rw [va_ne (by omega)]
    unfold lkK
    rw [if_neg (by omega), if_neg (by omega), if_neg (by omega)]
  have l59 : va_up (lkK κ (κ 58) N (tcK b n) (tvK b n) N) 58 (κ 58 + 1) 59 = κ 59 := by
    rw [va_ne (by omega)]
    unfold lkK
    rw [if_neg (by omega), if_neg (by omega), if_neg (by omega)]
  have l58 : va_up (lkK κ (κ 58) N (tcK b n) (tvK b n) N) 58 (κ 58 + 1) 58 = κ 58 + 1 := va_s
  have ex : ∀ e1 e2 e3 : mm_E, (tx ++ [e1, e2, e3])[tx.length]? = some e1 ∧ (tx ++ [e1, e2, e3])[tx.length + 1]? = some e2 ∧ (tx ++ [e1, e2, e3])[tx.length + 2]? = some e3 := fun e1 e2 e3 => by
    refine ⟨?_, ?_, ?_⟩
    · rw [List.getElem?_append_right (by omega), show tx.length - tx.length = 0 by omega]; rfl
    · rw [List.getElem?_append_right (by omega), show tx.length + 1 - tx.length = 1 by omega]; rfl
    · rw [List.getElem?_append_right (by omega), show tx.length + 2 - tx.length = 2 by omega]; rfl
  have hkk := hK.up (κ 58 + 1) (i := 58) (by decide)
  have tc0 : ∀ k, N ≤ k → tcK b n k = 0 ∧ tvK b n k = 0 := fun k hk => by
    have := ts_end hE (k - N)
    rw [show N + (k - N) = k by omega] at this
    refine ⟨?_, ?_⟩
    · show tc b n (ts b n k) = 0
      rw [this, tc, if_pos (Nat.le_refl _)]
    · show tv b n (ts b n k) = 0
      rw [this, tv, if_pos (Nat.le_refl _)]
  generalize hκ : va_up (lkK κ (κ 58) N (tcK b n) (tvK b n) N) 58 (κ 58 + 1) = κ' at lo l59 l58 hkk
  have new60 : κ' (60 + κ 58) = N := by
    rw [← hκ, va_ne (by omega)]
    unfold lkK
    rw [if_pos rfl]
  have newC : tkC κ' (κ 58) = tcK b n := by
    funext k
    unfold tkC
    rw [new60]
    by_cases c : k < N
    · rw [if_pos c, ← hκ, va_ne (by omega)]
      unfold lkK
      rw [if_neg (by omega), if_pos (by omega)]
      congr 1; omega
    · rw [if_neg c, (tc0 k (by omega)).1]
  have newV : tkV κ' (κ 58) = tvK b n := by
    funext k
    unfold tkV
    rw [new60]
    by_cases c : k < N
    · rw [if_pos c, ← hκ, va_ne (by omega)]
      unfold lkK
      rw [if_neg (by omega), if_neg (by omega), if_pos (by omega)]
      congr 1; omega
    · rw [if_neg c, (tc0 k (by omega)).2]
  have old : ∀ t, t < κ 58 → ∀ o, txt tx o κ t → txt tx o κ' t := fun t ht o ho => by
    have h400 : κ (60 + t) ≤ 400 := by
      obtain ⟨tt, tc, th, n, cs, ac, ah, q0, q1, q2, q3, q4, -⟩ := ho
      exact q4
    refine ho.cg ?_ fun k hk => ⟨?_, ?_⟩
    · rw [← hκ, va_ne (by omega)]; unfold lkK; rw [if_neg (by omega), if_neg (by omega), if_neg (by omega)]
    · rw [← hκ, va_ne (by omega)]; unfold lkK; rw [if_neg (by omega), if_neg (by omega), if_neg (by omega)]
    · rw [← hκ, va_ne (by omega)]; unfold lkK; rw [if_neg (by omega), if_neg (by omega), if_neg (by omega)]
  have wB' : ∀ i, κ' i < 2147483648 := by
    intro i
    rw [← hκ]
    by_cases e : i = 58
    · rw [e, va_s]; omega
    · rw [va_ne e, lkK_at]
      split
      · omega
      · split
        · have := tc_lt hb n (ts b n (i - (67 + 400 * κ 58)))
          show tc b n _ < _
          omega
        · split
          · exact tv_lt hb n _
          · exact wB i
  obtain ⟨r1, r2, r3, r4, r5, r6, r7⟩ := hr
  refine ⟨κ', ⟨wS.cg fun i hi => lo i (by omega), wH.cg fun i hi => lo i (by omega), wL.cg fun i hi => lo i (by omega), wD.cg fun i hi => lo i (by omega), ⟨by rw [l58]; omega, by rw [l58, l59]; have := wW.2; omega⟩, wT.cg fun i hi => lo i (by omega), wB'⟩, hkk, ⟨xS.cg wS.1 fun i hi => lo i (by omega), xH.cg wH.1 fun i hi => lo i (by omega), xL.cg wL.1 fun i hi => lo i (by omega), xD.cg wD.1 fun i hi => lo i (by omega), ⟨by rw [l58]; rfl, by rw [l59]; exact xW.2.1, fun t ht2 => ?_⟩, xT.cg fun i hi => lo i (by omega)⟩, ⟨he.1, he.2.1, he.2.2.1, rfl, he.2.2.2.2⟩, ht, ha.cg fun i hi => lo i (by omega), hi0.app, hi1.app, hd, ⟨r1, r2, ?_, r4.app, r5.app, r6.app, r7.app⟩⟩
  · rw [l58] at ht2
    show txt _ (va_up (hh 7) (κ 58) (some (tx.length + 1 + 100)) t) κ' t
    by_cases e : t = κ 58
    · subst e
      rw [va_s]
      obtain ⟨x1, x2, x3⟩ := ex (.inl (0, 5 * cs.length, .inl ah)) (.inr (6, [.int (iI (cs.length : Int)), .int (iI ((p_code cs).length : Int)), .ref (tx.length + 2 + 100), .ref (tx.length + 100)])) (.inl (0, (p_code cs).length, .inl ac))
      refine ⟨tx.length + 1, tx.length + 2, tx.length, 4900, cs, ac, ah, rfl, x2, x3, x1, by rw [new60]; omega, by rw [newC, newV, new60]; exact hp, hph, fun k x hk => ?_⟩
      have := hcd k x hk
      rw [Nat.zero_add] at this
      exact this
    · rw [va_ne e]
      exact (old t (by omega) _ (xW.2.2 t (by omega))).app
  · intro t o ho
    have ho : va_up (hh 7) (κ 58) (some (tx.length + 1 + 100)) t = some o := ho
    by_cases e : t = κ 58
    · subst e
      rw [va_s] at ho
      cases ho
      exact ⟨tx.length + 1, _, rfl, (ex _ _ _).2.1⟩
    · rw [va_ne e] at ho
      exact r3.app t o ho
/-- the tape's bytes -/
theorem tape_b {xn mn : Int32} {xt mt : Nat → Int32} (h : i_tape xn mn xt mt) : ∃ (n N : Nat) (b : Nat → Nat), n ≤ 400 ∧ xn = iI (n : Int) ∧ mn = iI (n : Int) ∧ (∀ i, b i < 256) ∧ (∀ i, i < n → xt i = iI (b i : Int)) ∧ (∀ i, i < n → mt i = iI (sb (b i))) ∧ N ≤ n ∧ ts b n N = n ∧ (∀ k, k < N → ts b n k < n) ∧ ∀ N2, ts b n N2 = n → (∀ k, k < N2 → ts b n k < n) → N2 = N := by
  obtain ⟨n, b0, t1, t2, t3, t4⟩ := h
  obtain ⟨N, hNn, hE, hlt⟩ := ts_ex (b := fun i => if i < n then b0 i else 0) (n := n)
  refine ⟨n, N, fun i => if i < n then b0 i else 0, t1, t2, t3, fun i => ?_, fun i hi => ?_, fun i hi => ?_, hNn, hE, hlt, fun N2 q1 q2 => ?_⟩
  · show (if i < n then b0 i else 0) < 256
    split
    · rename_i c; exact (t4 i c).1
    · omega
  · show _ = iI ((if i < n then b0 i else 0 : Nat) : Int)
    rw [if_pos hi]
    exact (t4 i hi).2.1
  · show _ = iI (sb (if i < n then b0 i else 0))
    rw [if_pos hi]
    exact (t4 i hi).2.2
  · by_cases c : N2 < N
    · have := hlt N2 c; omega
    · by_cases c2 : N < N2
      · have := q2 N c2; omega
      · omega
/-- a refused text: both say so -/
theorem k_InvB.rfT {κ : Nat → Nat} {f f2 : Nat → Int32} {fl : Nat → Int64} {g g2 : Nat → Nat → Int32} {gl : Nat → Nat → Int64} {hh : Nat → Nat → Option Nat} {v : Nat → Value} {tx : mm_W} {k : Nat} {e : Int32} (h : k_InvB κ f g hh tx) (hk : k < 7) (hf : ∀ a, okf a = true → a ≠ 18 → f2 a = f a) (hg : ∀ a, okg a = true → a ≠ 55 → g2 a = g a) (h6 : f2 6 = 0) (h49 : f2 4749 = 0) (h14 : f2 14 = f2 4750) (h18 : f2 18 = e) (h55 : g2 55 = upd (g 55) k (g 55 k + iI 1)) : k_Inv (va_up f2 4736 e) fl (va_up g2 75 (upd (g2 75) k (g2 75 k + iI 1))) gl hh v tx := by
  have hF : k_InvB κ (va_up f2 18 (f 18)) (va_up g2 55 (g 55)) hh tx := by
    refine h.read (fun a ha => ?_) (fun a ha => ?_) ?_ ?_ ?_
    · by_cases c : a = 18
      · rw [c, va_s]
      · rw [va_ne c]; exact hf a ha c
    · by_cases c : a = 55
      · rw [c, va_s]
      · rw [va_ne c]; exact hg a ha c
    · rw [va_ne (by decide)]; exact h6
    · rw [va_ne (by decide)]; exact h49
    · rw [va_ne (by decide), va_ne (by decide)]; exact h14
  have := (hF.inv (fl := fl) (gl := gl) (v := v)).rf e k hk
  rw [va_tw, va_id h18, va_s, va_tw, va_id h55, va_ne (by decide)] at this
  exact this
theorem o_law : k_op11 k_Inv := by
  intro X f fl g gl hh v tx hI
  obtain ⟨κ, hB⟩ := hI
  have hB : k_InvB κ f g hh tx := hB
  have hB' := hB
  obtain ⟨hw, hm, ⟨xS, xH, xL, xD, xW, xT⟩, he, ht, ha, hi0, hi1, hd, hr⟩ := hB'
  obtain ⟨n, N, b, t1, t2, t3, hb, hx30, hx81, hNn, hE, hlt, uniq⟩ := tape_b ht
  have hwW := hw.2.2.2.2.1
  have b58 := hwW.1
  have e58 := hm.1 58 (by decide)
  have h80 : g 80 = k_g 80 := hd.2
  have hX : CX g b n N := ⟨t1, hb, hx30, hNn, hE, hlt⟩
  refine b_x_law_0 (d := 1997) (h := ?_) ..
  rw [xW.1, t2]
  refine ⟨fun c6 => ?_, fun c6 => ?_⟩
  · have h6 : κ 58 < 6 := by simp (disch := omega) only [z_lit, z_litl, z_neg, z_negl, z_add, z_sub, z_mul, z_addl, z_subl, z_mull, z_cc, z_cl, z_cr, z_cm, z_cml, z_cmr, z_lt, z_le, z_eq, z_ltl, z_lel, z_eql, z_nat, z_i2l, z_l2i, z_div, z_sh, Int.toNat_natCast, z_ts, z_tsl] at c6; omega
    have n6 : ¬ g 76 58 = (6 : Int32) := by
      rw [e58]
      intro c
      have c : iI (κ 58 : Int) = iI 6 := c
      rw [z_eq (by omega) (by omega)] at c
      omega
    refine c_x_parse (K := 1991) (sec := false) (f := va_up f 6 0) (by decide) hX (fun cs f' a33 a34 hcs hs' p85 p48 p49 hph hcd => ?_) fun k f' a33 a34 hk hs' p85 => ?_
    · -- it was read
      have hlen : cs.length ≤ 12 ∧ (p_code cs).length ≤ 400 := by
        obtain ⟨-, q1, q2, -⟩ := pt_ok hX.c0 _ _ _ _ _ (Nat.zero_le _) (Nat.zero_le _) hcs
        have := hX.N4
        omega
      have hs : ∀ a, okf a = true → f' a = f a := fun a h => by
        have h := of_decide_eq_true h
        exact (hs' a (by omega)).trans (va_ne (by omega))
      have f6 : f' 6 = 0 := (hs' 6 (by omega)).trans va_s
      have f49 : f' 4749 = iI (n : Int) := (hs' 4749 (by omega)).trans ((va_ne (by decide)).trans t3)
      have f74 : f' 74 = iI (κ 58 : Int) := (hs 74 (by decide)).trans xW.1
      refine b_x_law_42 (h := ⟨fun _ => ?_, fun c => absurd c (by decide)⟩) ..
      refine c_trimmed hlen.1 hlen.2 (by rw [va_ne (by decide)]; exact p48) (by rw [va_ne (by decide)]; exact p49) fun ah ac hah hac => ?_
      have hah : ∀ i, i < 5 * cs.length → ah i = a33 i := fun i hi => (hah i hi).trans (by rw [va_ne (by decide), va_s])
      have hac : ∀ i, i < (p_code cs).length → ac i = a34 i := fun i hi => (hac i hi).trans (by rw [va_s])
      refine b_x_law_89a (h := ?_) ..
      have tn : (iI (κ 58 : Int)).toNatClampNeg = κ 58 := by rw [z_nat (by omega)]; omega
      have eA : iI (κ 58 : Int) + (1 : Int32) - (1 : Int32) = iI (κ 58 : Int) := by simp (disch := omega) only [z_lit, z_litl, z_neg, z_negl, z_add, z_sub, z_mul, z_addl, z_subl, z_mull, z_cc, z_cl, z_cr, z_cm, z_cml, z_cmr, z_lt, z_le, z_eq, z_ltl, z_lel, z_eql, z_nat, z_i2l, z_l2i, z_div, z_sh, Int.toNat_natCast, z_ts, z_tsl]; congr 1; omega
      rw [p85, show va_up f' 14 (-1) 74 = iI (κ 58 : Int) from f74, f74, tn, i1N]
      refine ⟨by simp (disch := omega) only [z_lit, z_litl, z_neg, z_negl, z_add, z_sub, z_mul, z_addl, z_subl, z_mull, z_cc, z_cl, z_cr, z_cm, z_cml, z_cmr, z_lt, z_le, z_eq, z_ltl, z_lel, z_eql, z_nat, z_i2l, z_l2i, z_div, z_sh, Int.toNat_natCast, z_ts, z_tsl]; omega, ⟨[.int (iI (cs.length : Int)), .int (iI ((p_code cs).length : Int)), .ref (tx.length + 2 + 100), .ref (tx.length + 100)], ?_⟩, ?_⟩
      · show (tx ++ _)[tx.length + 1]? = _
        rw [List.getElem?_append_right (by omega), show tx.length + 1 - tx.length = 1 by omega]
        rfl
      · generalize hf1 : va_up (va_up (va_up f' 14 (-1)) 74 (iI ((κ 58 + 1 : Nat) : Int))) 18 0 = f1
        have s1 : ∀ a, okf a = true → a ≠ 74 → a ≠ 18 → f1 a = f a := fun a h h74 h18 => by
          have h' := of_decide_eq_true h
          rw [← hf1, va_ne h18, va_ne h74, va_ne (by omega)]
          exact hs a h
        have s74 : f1 74 = iI ((κ 58 + 1 : Nat) : Int) := by rw [← hf1]; rfl
        have s18 : f1 18 = 0 := by rw [← hf1]; rfl
        have s14 : f1 14 = -1 := by rw [← hf1]; rfl
        have s6 : f1 6 = 0 := by rw [← hf1]; exact f6
        have s49 : f1 4749 = iI (n : Int) := by rw [← hf1]; exact f49
        refine k_mid ?_
        refine b_m_law_0 (d := 1998) (h := ⟨fun _ => ?_, fun c => absurd c n6⟩) ..
        refine c_m_readsAs (K := 1984) (sec := false) (by decide) t1 hb (by exact hx81) (by exact h80) s49 (fun N2 cs2 f2 a83 a84 a85 hN2 hE2 hlt2 hOK hcs2 hs2 q49 q50 q54 => ?_) fun N2 k f2 a83 a84 a85 hN2 hE2 hlt2 hOK hk2 hs2 q49 q50 => ?_
        · have eN := uniq N2 hE2 hlt2
          subst eN
          have s2 : ∀ a, okf a = true → f2 a = f1 a := fun a h => by
            have h := of_decide_eq_true h
            exact hs2 a (by omega)
          refine b_m_law_29 (h := ⟨fun _ => ?_, fun c => absurd c (by decide)⟩) ..
          rw [show va_up (va_up (va_up (va_up (va_up g 33 a33) 34 a34) 83 a83) 84 a84) 85 a85 76 58 = iI (κ 58 : Int) from e58]
          refine c_m_lays (κ := κ) (t := κ 58) (N := N2) (c := tcK b n) (u := tvK b n) (by omega) (by omega) q54 (fun k hk => ?_) (by exact hm) fun K hK => ?_
          · obtain ⟨o1, o2, o3⟩ := hOK k (by omega)
            exact ⟨o1, o2⟩
          refine b_m_law_50 (h := ?_) ..
          have eK : K 58 = iI (κ 58 : Int) := by
            rw [hK.1 58 (by decide)]
            unfold lkK
            rw [if_neg (by omega), if_neg (by omega), if_neg (by omega)]
          rw [va_s, eK, upd_s, eA, va_tw, i1N]
          have hBF : k_InvB κ (va_up (va_up f2 74 (f 74)) 18 (f 18)) (va_up (va_up (va_up (va_up (va_up g 33 a33) 34 a34) 83 a83) 84 a84) 85 a85) hh tx := by
            refine hB.read (fun a h => ?_) (fun a h => ?_) ?_ ?_ ?_
            · by_cases c : a = 18
              · rw [c, va_s]
              · by_cases c2 : a = 74
                · rw [c2, va_ne (by decide), va_s]
                · rw [va_ne c, va_ne c2, s2 a h]; exact s1 a h c2 c
            · have h := of_decide_eq_true h
              rw [va_ne (by omega), va_ne (by omega), va_ne (by omega), va_ne (by omega), va_ne (by omega)]
            · rw [va_ne (by decide), va_ne (by decide), hs2 6 (by omega)]; exact s6
            · rw [va_ne (by decide), va_ne (by decide)]; exact q49
            · rw [va_ne (by decide), va_ne (by decide), va_ne (by decide), va_ne (by decide), hs2 14 (by omega), q50]; exact s14
          have hin := law_inv (fl := fl) (gl := gl) (v := va_up v 1986 (.ref 30)) t1 hb hNn hE hBF h6 hcs (ph_cg hph fun q hq => hah q (by omega)) (fun i x hx => (hac _ (by have := (List.getElem?_eq_some_iff.mp hx).1; omega)).trans (hcd i x hx)) hK
          have eF : va_up (va_up (va_up (va_up f2 74 (f 74)) 18 (f 18)) 74 (iI ((κ 58 + 1 : Nat) : Int))) 18 0 = f2 := by
            funext a
            by_cases c : a = 18
            · rw [c, va_s]; exact ((hs2 18 (by omega)).trans s18).symm
            · by_cases c2 : a = 74
              · rw [c2, va_ne (by decide), va_s]; exact ((hs2 74 (by omega)).trans s74).symm
              · rw [va_ne c, va_ne c2, va_ne c, va_ne c2]
          rw [eF] at hin
          refine k_fin (by rw [← i1N]; exact eA.symm) hin ?_ ?_
          · rw [List.length_append]; exact Nat.le_refl _
          · unfold mm_sl
            rw [List.map_append, List.sum_append]
            show _ + (5 * cs.length + (4 + ((p_code cs).length + 0))) ≤ _
            omega
        · have eN := uniq N2 hE2 hlt2
          subst eN
          rw [hcs] at hk2
          cases hk2
    · -- it could not be read
      have hs : ∀ a, okf a = true → f' a = f a := fun a h => by
        have h := of_decide_eq_true h
        exact (hs' a (by omega)).trans (va_ne (by omega))
      have f6 : f' 6 = 0 := (hs' 6 (by omega)).trans va_s
      have f49 : f' 4749 = iI (n : Int) := (hs' 4749 (by omega)).trans ((va_ne (by decide)).trans t3)
      refine b_x_law_42 (h := ⟨fun c => absurd rfl c, fun _ => ?_⟩) ..
      rw [p85]
      generalize hf1 : va_up (va_up f' 14 (iI (ts b n k : Int))) 18 (-6) = f1
      have s1 : ∀ a, okf a = true → a ≠ 18 → f1 a = f a := fun a h h18 => by
        have h' := of_decide_eq_true h
        rw [← hf1, va_ne h18, va_ne (by omega)]
        exact hs a h
      have s18 : f1 18 = -6 := by rw [← hf1]; rfl
      have s14 : f1 14 = iI (ts b n k : Int) := by rw [← hf1]; rfl
      have s6 : f1 6 = 0 := by rw [← hf1]; exact f6
      have s49 : f1 4749 = iI (n : Int) := by rw [← hf1]; exact f49
      refine k_mid ?_
      refine b_m_law_0 (d := 1998) (h := ⟨fun _ => ?_, fun c => absurd c n6⟩) ..
      refine c_m_readsAs (K := 1984) (sec := false) (by decide) t1 hb (by exact hx81) (by exact h80) s49 (fun N2 cs2 f2 a83 a84 a85 hN2 hE2 hlt2 hOK hcs2 hs2 q49 q50 q54 => ?_) fun N2 k2 f2 a83 a84 a85 hN2 hE2 hlt2 hOK hk2 hs2 q49 q50 => ?_
      · have eN := uniq N2 hE2 hlt2
        subst eN
        rw [hk] at hcs2
        cases hcs2
      · have eN := uniq N2 hE2 hlt2
        subst eN
        rw [hk] at hk2
        cases hk2
        have s2 : ∀ a, okf a = true → f2 a = f1 a := fun a h => by
          have h := of_decide_eq_true h
          exact hs2 a (by omega)
        refine b_m_law_29 (h := ⟨fun c => absurd rfl c, fun _ => ?_⟩) ..
        refine k_fin0 rfl (hB.rfT (k := 6) (e := -6) (by decide) (fun a h h18 => (s2 a h).trans (s1 a h h18)) (fun a h h55 => ?_) ((hs2 6 (by omega)).trans s6) q49 (((hs2 14 (by omega)).trans s14).trans q50.symm) ((hs2 18 (by omega)).trans s18) rfl)
        have h := of_decide_eq_true h
        rw [va_ne (by omega), va_ne (by omega), va_ne (by omega), va_ne h55, va_ne (by omega), va_ne (by omega)]
  · have h6 : κ 58 = 6 := by
      have := hwW.1
      simp (disch := omega) only [z_lit, z_litl, z_neg, z_negl, z_add, z_sub, z_mul, z_addl, z_subl, z_mull, z_cc, z_cl, z_cr, z_cm, z_cml, z_cmr, z_lt, z_le, z_eq, z_ltl, z_lel, z_eql, z_nat, z_i2l, z_l2i, z_div, z_sh, Int.toNat_natCast, z_ts, z_tsl] at c6
      omega
    refine k_mid ?_
    refine b_m_law_0 (d := 1998) (h := ⟨fun c => absurd (e58.trans (by rw [h6]; rfl)) c, fun _ => ?_⟩) ..
    have hin := hB.rfT (fl := fl) (gl := gl) (v := v) (f2 := va_up (va_up (va_up f 6 0) 18 (-5)) 4749 0) (g2 := va_up g 55 (upd (g 55) 5 (g 55 5 + iI 1))) (k := 5) (e := -5) (by decide) (fun a h h18 => ?_) (fun a h h55 => va_ne h55) rfl rfl he.1 rfl rfl
    · exact k_fin0 rfl hin
    · have h := of_decide_eq_true h
      by_cases c : a = 4749
      · omega
      · rw [va_ne c, va_ne h18, va_ne (by omega)]
