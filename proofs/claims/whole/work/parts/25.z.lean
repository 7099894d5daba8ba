/-! numbers as Ints; blocks' helpers -/
def iI (z : Int) : Int32 := Int32.ofInt z
def lI (z : Int) : Int64 := Int64.ofInt z
theorem z_nI (n : Nat) : nI n = iI (n : Int) := Int32.ofInt_eq_ofNat.symm
theorem z_lit (n : Nat) : (OfNat.ofNat n : Int32) = iI (OfNat.ofNat n : Int) := (Int32.ofInt_eq_ofNat (n := n)).symm
theorem z_litl (n : Nat) : (OfNat.ofNat n : Int64) = lI (OfNat.ofNat n : Int) := (Int64.ofInt_eq_ofNat (n := n)).symm
theorem z_neg (a : Int) : -iI a = iI (-a) := Int32.neg_ofInt
theorem z_negl (a : Int) : -lI a = lI (-a) := Int64.neg_ofInt
theorem z_add (a b : Int) : iI a + iI b = iI (a + b) := (Int32.ofInt_add a b).symm
theorem z_sub (a b : Int) : iI a - iI b = iI (a - b) := (Int32.ofInt_sub a b).symm
theorem z_mul (a b : Int) : iI a * iI b = iI (a * b) := (Int32.ofInt_mul a b).symm
theorem z_addl (a b : Int) : lI a + lI b = lI (a + b) := (Int64.ofInt_add a b).symm
theorem z_subl (a b : Int) : lI a - lI b = lI (a - b) := (Int64.ofInt_sub a b).symm
theorem z_mull (a b : Int) : lI a * lI b = lI (a * b) := (Int64.ofInt_mul a b).symm
theorem z_toInt {a : Int} (h : -2147483648 ≤ a ∧ a < 2147483648) : (iI a).toInt = a := Int32.toInt_ofInt_of_le (by omega) (by omega)
theorem z_toIntl {a : Int} (h : -9223372036854775808 ≤ a ∧ a < 9223372036854775808) : (lI a).toInt = a := Int64.toInt_ofInt_of_le (by omega) (by omega)
theorem z_lt {a b : Int} (ha : -2147483648 ≤ a ∧ a < 2147483648) (hb : -2147483648 ≤ b ∧ b < 2147483648) : (iI a < iI b) = (a < b) := by
  rw [Int32.lt_iff_toInt_lt, z_toInt ha, z_toInt hb]
theorem z_le {a b : Int} (ha : -2147483648 ≤ a ∧ a < 2147483648) (hb : -2147483648 ≤ b ∧ b < 2147483648) : (iI a ≤ iI b) = (a ≤ b) := by
  rw [Int32.le_iff_toInt_le, z_toInt ha, z_toInt hb]
theorem z_eq {a b : Int} (ha : -2147483648 ≤ a ∧ a < 2147483648) (hb : -2147483648 ≤ b ∧ b < 2147483648) : (iI a = iI b) = (a = b) := by
  rw [← Int32.toInt_inj, z_toInt ha, z_toInt hb]
theorem z_ltl {a b : Int} (ha : -9223372036854775808 ≤ a ∧ a < 9223372036854775808) (hb : -9223372036854775808 ≤ b ∧ b < 9223372036854775808) : (lI a < lI b) = (a < b) := by
  rw [Int64.lt_iff_toInt_lt, z_toIntl ha, z_toIntl hb]
theorem z_lel {a b : Int} (ha : -9223372036854775808 ≤ a ∧ a < 9223372036854775808) (hb : -9223372036854775808 ≤ b ∧ b < 9223372036854775808) : (lI a ≤ lI b) = (a ≤ b) := by
  rw [Int64.le_iff_toInt_le, z_toIntl ha, z_toIntl hb]
theorem z_eql {a b : Int} (ha : -9223372036854775808 ≤ a ∧ a < 9223372036854775808) (hb : -9223372036854775808 ≤ b ∧ b < 9223372036854775808) : (lI a = lI b) = (a = b) := by
  rw [← Int64.toInt_inj, z_toIntl ha, z_toIntl hb]
theorem z_nat {a : Int} (h : -2147483648 ≤ a ∧ a < 2147483648) : (iI a).toNatClampNeg = a.toNat := Int32.toNatClampNeg_ofInt_of_le (by omega) (by omega)
theorem z_i2l {a : Int} (h : -2147483648 ≤ a ∧ a < 2147483648) : (iI a).toInt64 = lI a := Int32.toInt64_ofInt (by show (-2147483648 : Int) ≤ a; omega) (by show a ≤ (2147483647 : Int); omega)
theorem z_l2i (a : Int) : (lI a).toInt32 = iI a := Int64.toInt32_ofInt
theorem z_ex (x : Int32) : ∃ a : Int, (-2147483648 ≤ a ∧ a < 2147483648) ∧ x = iI a := ⟨x.toInt, ⟨Int32.le_toInt x, Int32.toInt_lt x⟩, (Int32.ofInt_toInt x).symm⟩
theorem z_exl (x : Int64) : ∃ a : Int, (-9223372036854775808 ≤ a ∧ a < 9223372036854775808) ∧ x = lI a := ⟨x.toInt, ⟨Int64.le_toInt x, Int64.toInt_lt x⟩, (Int64.ofInt_toInt x).symm⟩
theorem z_tdiv {a b : Int} (ha : -2147483648 ≤ a ∧ a < 2147483648) (hb : -2147483648 ≤ b ∧ b < 2147483648) : iI a / iI b = iI (a.tdiv b) := (Int32.ofInt_tdiv (by show (-2147483648 : Int) ≤ a; omega) (by show a ≤ (2147483647 : Int); omega) (by show (-2147483648 : Int) ≤ b; omega) (by show b ≤ (2147483647 : Int); omega)).symm
theorem z_div {a b : Int} (ha : 0 ≤ a ∧ a < 2147483648) (hb : 0 < b ∧ b < 2147483648) : iI a / iI b = iI (a / b) := by
  rw [z_tdiv (by omega) (by omega), Int.tdiv_eq_ediv_of_nonneg ha.1]
theorem z_tdivl {a b : Int} (ha : -9223372036854775808 ≤ a ∧ a < 9223372036854775808) (hb : -9223372036854775808 ≤ b ∧ b < 9223372036854775808) : lI a / lI b = lI (a.tdiv b) := (Int64.ofInt_tdiv (by show (-9223372036854775808 : Int) ≤ a; omega) (by show a ≤ (9223372036854775807 : Int); omega) (by show (-9223372036854775808 : Int) ≤ b; omega) (by show b ≤ (9223372036854775807 : Int); omega)).symm
theorem z_divl {a b : Int} (ha : 0 ≤ a ∧ a < 9223372036854775808) (hb : 0 < b ∧ b < 9223372036854775808) : lI a / lI b = lI (a / b) := by
  rw [z_tdivl (by omega) (by omega), Int.tdiv_eq_ediv_of_nonneg ha.1]
theorem z_cmp_lt {a b : Int} (ha : -9223372036854775808 ≤ a ∧ a < 9223372036854775808) (hb : -9223372036854775808 ≤ b ∧ b < 9223372036854775808) : (lg_cmp (lI a) (lI b) < 0) = (a < b) := by
  unfold lg_cmp
  simp only [gt_iff_lt, z_ltl hb ha, z_eql ha hb]
  split
  · simp only [eq_iff_iff]; exact ⟨fun h => absurd h (by decide), fun h => by omega⟩
  · split
    · simp only [eq_iff_iff]; exact ⟨fun h => absurd h (by decide), fun h => by omega⟩
    · simp only [eq_iff_iff]; exact ⟨fun _ => by omega, fun _ => by decide⟩
theorem z_cmp_le {a b : Int} (ha : -9223372036854775808 ≤ a ∧ a < 9223372036854775808) (hb : -9223372036854775808 ≤ b ∧ b < 9223372036854775808) : (lg_cmp (lI a) (lI b) ≤ 0) = (a ≤ b) := by
  unfold lg_cmp
  simp only [gt_iff_lt, z_ltl hb ha, z_eql ha hb]
  split
  · simp only [eq_iff_iff]; exact ⟨fun h => absurd h (by decide), fun h => by omega⟩
  · split
    · simp only [eq_iff_iff]; exact ⟨fun _ => by omega, fun _ => by decide⟩
    · simp only [eq_iff_iff]; exact ⟨fun _ => by omega, fun _ => by decide⟩
theorem z_cmp_gt {a b : Int} (ha : -9223372036854775808 ≤ a ∧ a < 9223372036854775808) (hb : -9223372036854775808 ≤ b ∧ b < 9223372036854775808) : (0 < lg_cmp (lI a) (lI b)) = (b < a) := by
  unfold lg_cmp
  simp only [gt_iff_lt, z_ltl hb ha, z_eql ha hb]
  split
  · simp only [eq_iff_iff]; exact ⟨fun _ => by omega, fun _ => by decide⟩
  · split
    · simp only [eq_iff_iff]; exact ⟨fun h => absurd h (by decide), fun h => by omega⟩
    · simp only [eq_iff_iff]; exact ⟨fun h => absurd h (by decide), fun h => by omega⟩
theorem z_cmp_ge {a b : Int} (ha : -9223372036854775808 ≤ a ∧ a < 9223372036854775808) (hb : -9223372036854775808 ≤ b ∧ b < 9223372036854775808) : (0 ≤ lg_cmp (lI a) (lI b)) = (b ≤ a) := by
  unfold lg_cmp
  simp only [gt_iff_lt, z_ltl hb ha, z_eql ha hb]
  split
  · simp only [eq_iff_iff]; exact ⟨fun _ => by omega, fun _ => by decide⟩
  · split
    · simp only [eq_iff_iff]; exact ⟨fun _ => by omega, fun _ => by decide⟩
    · simp only [eq_iff_iff]; exact ⟨fun h => absurd h (by decide), fun h => by omega⟩
theorem z_cmp_eq {a b : Int} (ha : -9223372036854775808 ≤ a ∧ a < 9223372036854775808) (hb : -9223372036854775808 ≤ b ∧ b < 9223372036854775808) : (lg_cmp (lI a) (lI b) = 0) = (a = b) := by
  unfold lg_cmp
  simp only [gt_iff_lt, z_ltl hb ha, z_eql ha hb]
  split
  · simp only [eq_iff_iff]; exact ⟨fun h => absurd h (by decide), fun h => by omega⟩
  · split
    · simp only [eq_iff_iff]; exact ⟨fun _ => by omega, fun _ => by first | trivial | rfl⟩
    · simp only [eq_iff_iff]; exact ⟨fun h => absurd h (by decide), fun h => by omega⟩
theorem z_bv {a : Int} (h : 0 ≤ a ∧ a < 2147483648) : (iI a).toBitVec.toNat = a.toNat := by
  rw [iI, Int32.toBitVec_ofInt, BitVec.toNat_ofInt]
  omega
theorem z_mk (x : Int32) {n : Nat} (h : x.toBitVec.toNat = n) (hn : n < 2147483648) : x = iI (n : Int) := by
  apply Int32.toBitVec.inj
  apply BitVec.eq_of_toNat_eq
  rw [h, z_bv (by omega)]
  omega
theorem z_and {a b : Int} (ha : 0 ≤ a ∧ a < 2147483648) (hb : 0 ≤ b ∧ b < 2147483648) : iI a &&& iI b = iI ((a.toNat &&& b.toNat : Nat) : Int) := by
  apply z_mk
  · rw [Int32.toBitVec_and, BitVec.toNat_and, z_bv ha, z_bv hb]
  · exact Nat.lt_of_le_of_lt Nat.and_le_left (by omega)
theorem z_or {a b : Int} (ha : 0 ≤ a ∧ a < 2147483648) (hb : 0 ≤ b ∧ b < 2147483648) : iI a ||| iI b = iI ((a.toNat ||| b.toNat : Nat) : Int) := by
  apply z_mk
  · rw [Int32.toBitVec_or, BitVec.toNat_or, z_bv ha, z_bv hb]
  · exact Nat.or_lt_two_pow (n := 31) (by omega) (by omega)
theorem z_xor {a b : Int} (ha : 0 ≤ a ∧ a < 2147483648) (hb : 0 ≤ b ∧ b < 2147483648) : iI a ^^^ iI b = iI ((a.toNat ^^^ b.toNat : Nat) : Int) := by
  apply z_mk
  · rw [Int32.toBitVec_xor, BitVec.toNat_xor, z_bv ha, z_bv hb]
  · exact Nat.xor_lt_two_pow (n := 31) (by omega) (by omega)
theorem z_sh {k : Int} (h : 0 ≤ k ∧ k < 32) : iI k &&& iI 31 = iI k := by
  rw [z_and (by omega) (by omega)]
  have e : k.toNat &&& (31 : Int).toNat = k.toNat := by
    show k.toNat &&& 31 = k.toNat
    rw [show (31 : Nat) = 2 ^ 5 - 1 from rfl, Nat.and_two_pow_sub_one_eq_mod]
    omega
  rw [e]
  congr 1
  omega
theorem z_smod {k : Int} (h : 0 ≤ k ∧ k < 32) : ((iI k).toBitVec.smod 32).toNat = k.toNat := by
  have : ∀ n : Nat, n < 32 → ((Int32.ofInt (n : Int)).toBitVec.smod 32).toNat = n := by decide
  have h2 := this k.toNat (by omega)
  rw [show ((k.toNat : Nat) : Int) = k by omega] at h2
  exact h2
theorem z_shl {a k : Int} (h : 0 ≤ k ∧ k < 32) : iI a <<< iI k = iI (a * 2 ^ k.toNat) := by
  apply Int32.toBitVec.inj
  apply BitVec.eq_of_toNat_eq
  rw [pk_shl _ _ _ (z_smod h), iI, iI, Int32.toBitVec_ofInt, Int32.toBitVec_ofInt, BitVec.toNat_ofInt, BitVec.toNat_ofInt]
  have e1 : (((a % ((2 ^ 32 : Nat) : Int)).toNat : Nat) : Int) = a % ((2 ^ 32 : Nat) : Int) := Int.toNat_of_nonneg (Int.emod_nonneg _ (by decide))
  have e2 : (((a * 2 ^ k.toNat % ((2 ^ 32 : Nat) : Int)).toNat : Nat) : Int) = a * 2 ^ k.toNat % ((2 ^ 32 : Nat) : Int) := Int.toNat_of_nonneg (Int.emod_nonneg _ (by decide))
  apply Int.ofNat.inj
  show (((a % ((2 ^ 32 : Nat) : Int)).toNat * 2 ^ k.toNat % 2 ^ 32 : Nat) : Int) = (((a * 2 ^ k.toNat % ((2 ^ 32 : Nat) : Int)).toNat : Nat) : Int)
  rw [e2, Int.natCast_emod, Int.natCast_mul, e1, Int.natCast_pow]
  simp [Int.mul_emod]
theorem z_shr {a k : Int} (ha : 0 ≤ a ∧ a < 2147483648) (h : 0 ≤ k ∧ k < 32) : iI a >>> iI k = iI (a / 2 ^ k.toNat) := by
  have e : iI a = nI a.toNat := by rw [z_nI]; congr 1; omega
  rw [e, pk_shrN (by omega) _ _ (z_smod h), z_nI]
  congr 1
  rw [Int.natCast_ediv, Int.natCast_pow]
  congr 1
  omega
/-- dead locals -/
theorem mm_clr_at (dead : List Nat) : ∀ (L : mm_L) (i : Nat), i < L.length → (mm_clr dead L)[i]? = if i ∈ dead then some none else L[i]? := by
  induction dead with
  | nil => intro L i _; simp [mm_clr]
  | cons j r ih =>
    intro L i hi
    rw [mm_clr, ih _ _ (by rw [List.length_set]; exact hi)]
    by_cases h : i ∈ r
    · rw [if_pos h, if_pos (List.mem_cons_of_mem _ h)]
    · rw [if_neg h]
      by_cases h2 : j = i
      · subst h2
        rw [if_pos List.mem_cons_self, List.getElem?_set_self hi]
      · rw [List.getElem?_set_ne h2, if_neg (by simp only [List.mem_cons]; rintro (rfl | h3); exact h2 rfl; exact h h3)]
theorem mm_clr_idem (dead : List Nat) (L : mm_L) : mm_clr dead (mm_clr dead L) = mm_clr dead L := by
  apply List.ext_getElem?
  intro i
  by_cases hi : i < L.length
  · rw [mm_clr_at _ _ _ (by rw [mm_clr_len]; exact hi), mm_clr_at _ _ _ hi]
    split <;> rfl
  · rw [List.getElem?_eq_none (by rw [mm_clr_len, mm_clr_len]; omega), List.getElem?_eq_none (by rw [mm_clr_len]; omega)]
theorem WP.clr {X : mm_X} {d mi : Nat} {M : mm_M} (hM : mk_P[mi]? = some M) {pc : Nat} {q : mm_I} {L : mm_L} {st : List Value} {w : mm_W} {P : Option Value → mm_W → Prop} (hq : M.2.2.2.2.lookup pc = some q) (h : WP X d mi (pc, mm_clr q.2.2.2.2.1 L, st, w) P) : WP X d mi (pc, L, st, w) P := by
  obtain ⟨r, w', ⟨n, h1⟩, h2⟩ := h
  refine ⟨r, w', ⟨n, ?_⟩, h2⟩
  cases n with
  | zero => cases h1
  | succ n =>
    rw [mm_exec, hM] at h1 ⊢
    simp only [hq] at h1 ⊢
    rw [mm_clr_idem] at h1
    exact h1
theorem WP.deep {X : mm_X} {d mi : Nat} {c : mm_C} {P : Option Value → mm_W → Prop} (k : Nat) (h : WP X d mi c P) : WP X (d + k) mi c P := by
  induction k with
  | zero => exact h
  | succ k ih =>
    obtain ⟨r, w', h1, h2⟩ := ih
    exact ⟨r, w', h1.deep, h2⟩
theorem WP.retV {X : mm_X} {d mi : Nat} {M : mm_M} (hM : mk_P[mi]? = some M) {P : Option Value → mm_W → Prop} {pc a b : Nat} {v : Value} {dead tg : List Nat} {L : mm_L} {w : mm_W} {x : Option Nat} {s : String} (hq : M.2.2.2.2.lookup pc = some (.areturn, a, b, v, dead, tg)) (hr : M.2.2.2.1 = some (.object s)) (h : P (some (mm_rf x)) w) : WP X d mi (pc, L, [mm_rf x], w) P := by
  refine ⟨_, _, Ex.ret hM (r := some (mm_rf x)) (w' := w) ?_, h⟩
  unfold mm_stp
  cases x <;> simp only [hq, mm_step, mm_ret, hr, mm_rf]
theorem Ex.getf {X : mm_X} {d mi : Nat} {M : mm_M} (hM : mk_P[mi]? = some M) {pc a b z : Nat} {v x : Value} {dead tg : List Nat} {L : mm_L} {st : List Value} {w : mm_W} {r : Option Value} {w' : mm_W} {k c : Nat} {fs : List Value} (hq : M.2.2.2.2.lookup pc = some (.getfield z, a, b, v, dead, tg)) (hw : w[k]? = some (.inr (c, fs))) (hc : c = a) (hb : fs[b]? = some x) (h : Ex X d mi (pc + 3, mm_clr dead L, x :: st, w) r w') : Ex X d mi (pc, L, .ref k :: st, w) r w' := by
  refine Ex.step hM ?_ h
  unfold mm_stp
  simp only [hq, mm_step, mm_nx]
  simp only [hw, hc, hb, if_true]
theorem Ex.alen {X : mm_X} {d mi : Nat} {M : mm_M} (hM : mk_P[mi]? = some M) {pc a b : Nat} {v : Value} {dead tg : List Nat} {L : mm_L} {st : List Value} {w : mm_W} {r : Option Value} {w' : mm_W} {k t n : Nat} {o : (Nat → Int32) ⊕ (Nat → Int64) ⊕ (Nat → UInt32) ⊕ (Nat → UInt64) ⊕ (Nat → Option Nat)} (hq : M.2.2.2.2.lookup pc = some (.arraylength, a, b, v, dead, tg)) (hw : w[k]? = some (.inl (t, n, o))) (ht : t < 6) (h : Ex X d mi (pc + 1, mm_clr dead L, .int (Int32.ofNat n) :: st, w) r w') : Ex X d mi (pc, L, .ref k :: st, w) r w' := by
  refine Ex.step hM ?_ h
  unfold mm_stp
  simp only [hq, mm_step, mm_nx]
  simp only [hw, if_pos ht]
theorem Ex.aastN {X : mm_X} {d mi : Nat} {M : mm_M} (hM : mk_P[mi]? = some M) {pc a b : Nat} {v : Value} {dead tg : List Nat} {L : mm_L} {st : List Value} {w : mm_W} {r : Option Value} {w' : mm_W} {j : Int32} {k n : Nat} {f : Nat → Option Nat} {w2 : mm_W} (hq : M.2.2.2.2.lookup pc = some (.aastore, a, b, v, dead, tg)) (hw : w[k]? = some (.inl (4, n, .inr (.inr (.inr (.inr f)))))) (hin : ¬ (j < 0 ∨ n ≤ j.toNatClampNeg)) (hs : w.set k (.inl (4, n, .inr (.inr (.inr (.inr (va_up f j.toNatClampNeg none)))))) = w2) (h : Ex X d mi (pc + 1, mm_clr dead L, st, w2) r w') : Ex X d mi (pc, L, .null :: .int j :: .ref k :: st, w) r w' := by
  refine Ex.step hM ?_ h
  unfold mm_stp
  simp only [hq, mm_step, mm_nx]
  simp only [hw]
  rw [if_pos ⟨Or.inl (by first | trivial | rfl), hin⟩, hs]
theorem Ex.aastR {X : mm_X} {d mi : Nat} {M : mm_M} (hM : mk_P[mi]? = some M) {pc a b : Nat} {v : Value} {dead tg : List Nat} {L : mm_L} {st : List Value} {w : mm_W} {r : Option Value} {w' : mm_W} {j : Int32} {k n o : Nat} {fs : List Value} {f : Nat → Option Nat} {w2 : mm_W} (hq : M.2.2.2.2.lookup pc = some (.aastore, a, b, v, dead, tg)) (hw : w[k]? = some (.inl (4, n, .inr (.inr (.inr (.inr f)))))) (hin : ¬ (j < 0 ∨ n ≤ j.toNatClampNeg)) (ho : w[o]? = some (.inr (6, fs))) (hs : w.set k (.inl (4, n, .inr (.inr (.inr (.inr (va_up f j.toNatClampNeg (some o))))))) = w2) (h : Ex X d mi (pc + 1, mm_clr dead L, st, w2) r w') : Ex X d mi (pc, L, .ref o :: .int j :: .ref k :: st, w) r w' := by
  refine Ex.step hM ?_ h
  unfold mm_stp
  simp only [hq, mm_step, mm_nx]
  simp only [hw]
  rw [if_pos ⟨Or.inl (by first | trivial | rfl), hin⟩]
  simp only [ho]
  rw [if_pos (Or.inl ⟨by first | trivial | rfl, by first | trivial | rfl⟩), hs]
theorem Ex.aastV {X : mm_X} {d mi : Nat} {M : mm_M} (hM : mk_P[mi]? = some M) {pc a b : Nat} {v : Value} {dead tg : List Nat} {L : mm_L} {st : List Value} {w : mm_W} {r : Option Value} {w' : mm_W} {j : Int32} {k n : Nat} {x : Option Nat} {f : Nat → Option Nat} {w2 : mm_W} (hq : M.2.2.2.2.lookup pc = some (.aastore, a, b, v, dead, tg)) (hw : w[k]? = some (.inl (4, n, .inr (.inr (.inr (.inr f)))))) (hin : ¬ (j < 0 ∨ n ≤ j.toNatClampNeg)) (ho : ∀ o, x = some o → ∃ fs, w[o]? = some (.inr (6, fs))) (hs : w.set k (.inl (4, n, .inr (.inr (.inr (.inr (va_up f j.toNatClampNeg x)))))) = w2) (h : Ex X d mi (pc + 1, mm_clr dead L, st, w2) r w') : Ex X d mi (pc, L, mm_rf x :: .int j :: .ref k :: st, w) r w' := by
  cases x with
  | none => exact Ex.aastN hM hq hw hin hs h
  | some o =>
    obtain ⟨fs, h2⟩ := ho o rfl
    exact Ex.aastR hM hq hw hin h2 hs h
theorem b_within_m (X : mm_X) (d : Nat) (f : Nat → Int32) (fl : Nat → Int64) (g : Nat → Nat → Int32) (gl : Nat → Nat → Int64) (hh : Nat → Nat → Option Nat) (v : Nat → Value) (tx : mm_W) (p0 : Int32) (p1 : Int32) (P : Option Value → mm_W → Prop) (h : ((0 ≤ p0 ∧ p0 < p1) → P (some (.int 1)) (Wd f fl g gl hh v tx)) ∧ (¬ (0 ≤ p0 ∧ p0 < p1) → P (some (.int 0)) (Wd f fl g gl hh v tx))) : WP X d 99 (0, [some (.int p0), some (.int p1)], [], Wd f fl g gl hh v tx) P :=
  x_within X d f fl g gl hh v tx p0 p1 P (fun c => h.2 fun hc => absurd c (Int32.not_lt.mpr hc.1)) (fun _ c => h.2 fun hc => absurd hc.2 (Int32.not_lt.mpr c)) (fun c c2 => h.1 ⟨Int32.not_lt.mp c, Int32.not_le.mp c2⟩)
theorem b_lies_m (X : mm_X) (d : Nat) (f : Nat → Int32) (fl : Nat → Int64) (g : Nat → Nat → Int32) (gl : Nat → Nat → Int64) (hh : Nat → Nat → Option Nat) (v : Nat → Value) (tx : mm_W) (p0 : Int32) (p1 : Int32) (p2 : Int32) (P : Option Value → mm_W → Prop) (h : ((p1 ≤ p0 ∧ p0 ≤ p2) → P (some (.int 1)) (Wd f fl g gl hh v tx)) ∧ (¬ (p1 ≤ p0 ∧ p0 ≤ p2) → P (some (.int 0)) (Wd f fl g gl hh v tx))) : WP X d 116 (0, [some (.int p0), some (.int p1), some (.int p2)], [], Wd f fl g gl hh v tx) P :=
  m_lies X d f fl g gl hh v tx p0 p1 p2 P (fun c => h.2 fun hc => absurd c (Int32.not_lt.mpr hc.1)) (fun _ c => h.2 fun hc => absurd hc.2 (Int32.not_le.mpr c)) (fun c c2 => h.1 ⟨Int32.not_lt.mp c, Int32.not_lt.mp c2⟩)
/-- upwards loops -/
theorem k_up {n : Nat} (Q : Nat → Prop) (h0 : Q n) (hs : ∀ i, i < n → Q (i + 1) → Q i) : ∀ i, i ≤ n → Q i := by
  intro i hi
  obtain ⟨k, rfl⟩ : ∃ k, n = i + k := ⟨n - i, by omega⟩
  clear hi
  induction k generalizing i with
  | zero => exact h0
  | succ k ih => exact hs i (by omega) (ih (i + 1) (by rw [show i + 1 + k = i + (k + 1) by omega]; exact h0) (fun j hj => hs j (by omega)))
/-- downwards loops: from n to 0 -/
theorem k_down (Q : Nat → Prop) (h0 : Q 0) (hs : ∀ i, Q i → Q (i + 1)) : ∀ i, Q i
  | 0 => h0
  | i + 1 => hs i (k_down Q h0 hs i)
theorem va_ne {α : Type} {f : Nat → α} {k j : Nat} {x : α} (h : j ≠ k) : va_up f k x j = f j := if_neg h
theorem va_s {α : Type} {f : Nat → α} {k : Nat} {x : α} : va_up f k x k = x := if_pos rfl
theorem upd_ne {f : Nat → Int32} {k j : Nat} {x : Int32} (h : j ≠ k) : upd f k x j = f j := if_neg h
theorem upd_s {f : Nat → Int32} {k : Nat} {x : Int32} : upd f k x k = x := if_pos rfl
theorem z_cc (a b : Nat) : (a : Int) + (b : Int) = ((a + b : Nat) : Int) := (Int.natCast_add a b).symm
theorem z_cl (n a : Nat) : (no_index (OfNat.ofNat n : Int)) + (a : Int) = ((OfNat.ofNat n + a : Nat) : Int) := rfl
theorem z_cr (n a : Nat) : (a : Int) + (no_index (OfNat.ofNat n : Int)) = ((a + OfNat.ofNat n : Nat) : Int) := rfl
theorem z_cm (a b : Nat) : (a : Int) * (b : Int) = ((a * b : Nat) : Int) := (Int.natCast_mul a b).symm
theorem z_cml (n a : Nat) : (no_index (OfNat.ofNat n : Int)) * (a : Int) = ((OfNat.ofNat n * a : Nat) : Int) := (Int.natCast_mul n a).symm
theorem z_cmr (n a : Nat) : (a : Int) * (no_index (OfNat.ofNat n : Int)) = ((a * OfNat.ofNat n : Nat) : Int) := (Int.natCast_mul a n).symm
theorem z_ts (a b : Nat) : ((a : Int) - (b : Int)).toNat = a - b := by omega
theorem z_tsl (n a : Nat) : ((a : Int) - (no_index (OfNat.ofNat n : Int))).toNat = a - OfNat.ofNat n := by
  have : ((OfNat.ofNat n : Int)) = ((OfNat.ofNat n : Nat) : Int) := rfl
  rw [this]
  omega
theorem Ex.slen {X : mm_X} {d mi : Nat} {M : mm_M} (hM : mk_P[mi]? = some M) {pc a b z : Nat} {v : Value} {dead tg : List Nat} {L : mm_L} {st : List Value} {w : mm_W} {r : Option Value} {w' : mm_W} {x : UInt32} {t : List Int32} (hq : M.2.2.2.2.lookup pc = some (.invokevirtual z, a, b, v, dead, tg)) (hS : mk_S[x.toNat - 16]? = some t) (hx : 16 ≤ x.toNat) (hv : v = .int 0 ∧ mm_cat st ≤ 8) (h : Ex X d mi (pc + 3, mm_clr dead L, .int (Int32.ofNat t.length) :: st, w) r w') : Ex X d mi (pc, L, .float x :: st, w) r w' := by
  refine Ex.step hM ?_ h
  unfold mm_stp
  simp only [hq, mm_step, mm_nx]
  rw [hv.1, if_neg (by decide), if_pos rfl]
  simp only [hS]
  rw [if_pos ⟨hx, hv.2⟩]
theorem Ex.schr {X : mm_X} {d mi : Nat} {M : mm_M} (hM : mk_P[mi]? = some M) {pc a b z : Nat} {v : Value} {dead tg : List Nat} {L : mm_L} {st : List Value} {w : mm_W} {r : Option Value} {w' : mm_W} {x : UInt32} {j : Int32} {t : List Int32} (hq : M.2.2.2.2.lookup pc = some (.invokevirtual z, a, b, v, dead, tg)) (hS : mk_S[x.toNat - 16]? = some t) (hx : 16 ≤ x.toNat) (hv : v = .int 1 ∧ mm_cat st ≤ 8) (hj : ¬ (j < 0 ∨ t.length ≤ j.toNatClampNeg)) (h : Ex X d mi (pc + 3, mm_clr dead L, .int (t.getD j.toNatClampNeg 0) :: st, w) r w') : Ex X d mi (pc, L, .int j :: .float x :: st, w) r w' := by
  refine Ex.step hM ?_ h
  unfold mm_stp
  simp only [hq, mm_step, mm_nx]
  rw [hv.1, if_neg (by decide), if_neg (by decide), if_pos rfl]
  simp only [hS]
  rw [if_pos ⟨hx, hv.2, hj⟩]
theorem Ex.acopy {X : mm_X} {d mi : Nat} {M : mm_M} (hM : mk_P[mi]? = some M) {pc a b z : Nat} {v : Value} {dead tg : List Nat} {L : mm_L} {st : List Value} {w : mm_W} {r : Option Value} {w' : mm_W} {n dp sp : Int32} {j k n0 n1 : Nat} {f g : Nat → Int32} {w2 : mm_W} (hq : M.2.2.2.2.lookup pc = some (.invokestatic z, a, b, v, dead, tg)) (hv : v = .null) (hj : w[j]? = some (.inl (0, n0, .inl f))) (hk : w[k]? = some (.inl (0, n1, .inl g))) (hc : ¬ sp < 0 ∧ ¬ dp < 0 ∧ ¬ n < 0 ∧ sp.toNatClampNeg + n.toNatClampNeg ≤ n0 ∧ dp.toNatClampNeg + n.toNatClampNeg ≤ n1 ∧ mm_cat st ≤ 8) (hs : w.set k (.inl (0, n1, .inl (va_cpy f g sp.toNatClampNeg dp.toNatClampNeg n.toNatClampNeg))) = w2) (h : Ex X d mi (pc + 3, mm_clr dead L, st, w2) r w') : Ex X d mi (pc, L, .int n :: .int dp :: .ref k :: .int sp :: .ref j :: st, w) r w' := by
  refine Ex.step hM ?_ h
  unfold mm_stp
  simp only [hq, mm_step, mm_nx]
  rw [if_pos hv]
  simp only [hj, hk]
  rw [if_pos ⟨by first | trivial | rfl, by first | trivial | rfl, hc⟩, hs]
