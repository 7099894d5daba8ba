/-! how the small machine's world lies in the real heap: cell k at address z + k; outer things (script, text constants) at E -/
def mm_tv (z : Nat) (E : Nat → Nat) (v : Value) : Value := match v with
  | .ref k => .ref (z + k)
  | .float x => .ref (E x.toNat)
  | v => v
theorem mm_tv_cat (z : Nat) (E : Nat → Nat) (v : Value) : (mm_tv z E v).category = v.category := by cases v <;> rfl
def mm_tA (z : Nat) (x : vp_A) : vp_A := match x with
  | (n, .inr (.inr (.inr (.inr f)))) => (n, .inr (.inr (.inr (.inr fun j => (f j).map (fun q => z + q)))))
  | x => x
def mm_tE (cA : Nat → ClassId) (z : Nat) (E : Nat → Nat) (e : mm_E) : va_E := match e with
  | .inl (t, x) => .inl (cA t, mm_tA z x)
  | .inr (c, fs) => .inr (c, fs.map (mm_tv z E))
def mm_HR (D : va_G) (cl : List vw_C) (cA : Nat → ClassId) (z : Nat) (E : Nat → Nat) (w : mm_W) (H : Heap) : Prop :=
  H.size = z + w.length ∧ ∀ (k : Nat) (e : mm_E), w[k]? = some e → va_at D cl (z + k, mm_tE cA z E e) H
theorem mm_HR.P {D : va_G} {cl : List vw_C} {cA : Nat → ClassId} {z : Nat} {E : Nat → Nat} {w : mm_W} {H : Heap} (h : mm_HR D cl cA z E w H) {k : Nat} {e : mm_E} (hk : w[k]? = some e) : va_P D cl [(z + k, mm_tE cA z E e)] H := by
  intro j q hq
  have hj : j < 1 := (List.getElem?_eq_some_iff.mp hq).1
  rw [show j = 0 by omega] at hq
  cases hq
  exact h.2 k e hk
theorem mm_HR.set {D : va_G} {cl : List vw_C} {cA : Nat → ClassId} {z : Nat} {E : Nat → Nat} {w : mm_W} {H H1 : Heap} (h : mm_HR D cl cA z E w H) {k : Nat} {e0 e : mm_E} (hk : w[k]? = some e0) (he : va_at D cl (z + k, mm_tE cA z E e) H1) (hz : H1.size = H.size) (oq : ∀ q : Nat, q ≠ z + k → H1[q]? = H[q]?) : mm_HR D cl cA z E (w.set k e) H1 := by
  refine ⟨by rw [hz, h.1, List.length_set], fun j e' hj => ?_⟩
  have hl := (List.getElem?_eq_some_iff.mp hk).1
  by_cases hjk : j = k
  · subst hjk
    rw [List.getElem?_set_self hl] at hj
    cases hj
    exact he
  · rw [List.getElem?_set_ne (Ne.symm hjk)] at hj
    exact (h.2 j e' hj).kept (oq (z + j) (by omega))
theorem mm_HR.push {D : va_G} {cl : List vw_C} {cA : Nat → ClassId} {z : Nat} {E : Nat → Nat} {w : mm_W} {H H1 : Heap} (h : mm_HR D cl cA z E w H) {e : mm_E} (he : va_at D cl (H.size, mm_tE cA z E e) H1) (hz : H1.size = H.size + 1) (oq : ∀ q : Nat, q < H.size → H1[q]? = H[q]?) : mm_HR D cl cA z E (w ++ [e]) H1 := by
  refine ⟨by rw [hz, h.1, List.length_append]; rfl, fun j e' hj => ?_⟩
  by_cases hl : j < w.length
  · rw [List.getElem?_append_left hl] at hj
    exact (h.2 j e' hj).kept (oq (z + j) (by rw [h.1]; omega))
  · rw [List.getElem?_append_right (by omega)] at hj
    have hz0 : j - w.length < 1 := (List.getElem?_eq_some_iff.mp hj).1
    rw [show j - w.length = 0 by omega] at hj
    cases hj
    rw [show z + j = H.size by rw [h.1]; omega]
    exact he
/-! locals -/
def mm_al (z : Nat) (E : Nat → Nat) : Nat → mm_L → List (Nat × Value)
  | _, [] => []
  | k, none :: L => mm_al z E (k + 1) L
  | k, some v :: L => (k, mm_tv z E v) :: mm_al z E (k + 1) L
theorem mm_al_in {z : Nat} {E : Nat → Nat} : ∀ (L : mm_L) (k : Nat) (q : Nat × Value), q ∈ mm_al z E k L ↔ ∃ (j : Nat) (v : Value), L[j]? = some (some v) ∧ q = (k + j, mm_tv z E v)
  | [], k, q => by simp [mm_al]
  | none :: L, k, q => by
    rw [mm_al, mm_al_in L (k + 1) q]
    constructor
    · rintro ⟨j, v, h, e⟩
      exact ⟨j + 1, v, by simpa using h, by rw [e]; congr 1; omega⟩
    · rintro ⟨j, v, h, e⟩
      cases j with
      | zero => simp at h
      | succ j => exact ⟨j, v, by simpa using h, by rw [e]; congr 1; omega⟩
  | some u :: L, k, q => by
    rw [mm_al, List.mem_cons, mm_al_in L (k + 1) q]
    constructor
    · rintro (h | ⟨j, v, h, e⟩)
      · exact ⟨0, u, by simp, by simpa using h⟩
      · exact ⟨j + 1, v, by simpa using h, by rw [e]; congr 1; omega⟩
    · rintro ⟨j, v, h, e⟩
      cases j with
      | zero => left; simp at h; subst h; simpa using e
      | succ j => right; exact ⟨j, v, by simpa using h, by rw [e]; congr 1; omega⟩
def mm_RL (z : Nat) (E : Nat → Nat) (nL : Nat) (L : mm_L) (ls : Array Slot) : Prop := L.length = nL ∧ lv_has ls nL (mm_al z E 0 L)
theorem mm_has_sub {ls : Array Slot} {nL : Nat} {l l' : List (Nat × Value)} (h : lv_has ls nL l) (hs : ∀ q ∈ l', q ∈ l) : lv_has ls nL l' := ⟨h.1, h.2.1, fun q hq => h.2.2 q (hs q hq)⟩
theorem mm_RL.ld {z : Nat} {E : Nat → Nat} {nL : Nat} {L : mm_L} {ls : Array Slot} (h : mm_RL z E nL L ls) {i : Nat} {v : Value} (hv : mm_ld L i = some v) : ls[i]? = some (.val (mm_tv z E v)) := by
  unfold mm_ld at hv
  split at hv
  · rename_i o ho
    subst hv
    exact h.2.2.2 (i, mm_tv z E v) ((mm_al_in L 0 _).mpr ⟨i, v, ho, by simp⟩)
  · cases hv
theorem mm_RL.mem {z : Nat} {E : Nat → Nat} {L : mm_L} {i : Nat} {v : Value} (hv : mm_ld L i = some v) : (i, mm_tv z E v) ∈ mm_al z E 0 L := by
  unfold mm_ld at hv
  split at hv
  · rename_i o ho
    subst hv
    exact (mm_al_in L 0 _).mpr ⟨i, v, ho, by simp⟩
  · cases hv
theorem mm_clr_len : ∀ (dead : List Nat) (L : mm_L), (mm_clr dead L).length = L.length
  | [], L => rfl
  | i :: r, L => by rw [mm_clr, mm_clr_len r, List.length_set]
theorem mm_clr_get : ∀ (dead : List Nat) (L : mm_L) (j : Nat) (v : Value), (mm_clr dead L)[j]? = some (some v) → L[j]? = some (some v)
  | [], L, j, v, h => h
  | i :: r, L, j, v, h => by
    have h1 := mm_clr_get r (L.set i none) j v h
    rw [List.getElem?_set] at h1
    by_cases hij : i = j
    · subst hij
      by_cases hl : i < L.length <;> simp [hl] at h1
    · simpa [hij] using h1
theorem mm_RL.clr {z : Nat} {E : Nat → Nat} {nL : Nat} {L : mm_L} {ls : Array Slot} (h : mm_RL z E nL L ls) (dead : List Nat) : mm_RL z E nL (mm_clr dead L) ls := by
  refine ⟨by rw [mm_clr_len]; exact h.1, mm_has_sub h.2 fun q hq => ?_⟩
  obtain ⟨j, v, h1, h2⟩ := (mm_al_in _ 0 q).mp hq
  exact (mm_al_in _ 0 q).mpr ⟨j, v, mm_clr_get dead L j v h1, h2⟩
theorem mm_prv_get {L : mm_L} {i j : Nat} {v : Value} (h : (mm_prv L i)[j]? = some (some v)) : L[j]? = some (some v) ∧ (j + 1 = i → ¬ v.category = 2) := by
  unfold mm_prv at h
  split at h
  · exact ⟨h, fun q => by omega⟩
  · rename_i k
    split at h
    · rename_i u hu
      split at h
      · rename_i hc
        rw [List.getElem?_set] at h
        by_cases hkj : k = j
        · subst hkj
          by_cases hl : k < L.length <;> simp [hl] at h
        · rw [if_neg hkj] at h
          exact ⟨h, fun q => by omega⟩
      · rename_i hc
        refine ⟨h, fun q => ?_⟩
        have : j = k := by omega
        subst this
        rw [h] at hu
        cases hu
        exact hc
    · rename_i hn
      refine ⟨h, fun q => ?_⟩
      have : j = k := by omega
      subst this
      exact absurd h (hn v)
theorem mm_prv_len {L : mm_L} {i : Nat} : (mm_prv L i).length = L.length := by
  unfold mm_prv
  split
  · rfl
  · split
    · split
      · rw [List.length_set]
      · rfl
    · rfl
theorem mm_RL.st1 {z : Nat} {E : Nat → Nat} {nL : Nat} {L L' : mm_L} {ls ls' : Array Slot} (h : mm_RL z E nL L ls) {i : Nat} {v : Value} (hs : mm_st1 L i v = some L') (hl : lv_has ls' nL ((i, mm_tv z E v) :: (mm_al z E 0 L).filter (fun q => !(q.1 == i) && !(q.1 + 1 == i && q.2.category == 2)))) : mm_RL z E nL L' ls' := by
  unfold mm_st1 at hs
  split at hs
  · rename_i hi
    cases hs
    refine ⟨by rw [List.length_set, mm_prv_len]; exact h.1, mm_has_sub hl fun q hq => ?_⟩
    obtain ⟨j, u, h1, h2⟩ := (mm_al_in _ 0 q).mp hq
    rw [List.getElem?_set] at h1
    by_cases hij : i = j
    · subst hij
      rw [if_pos rfl, mm_prv_len, if_pos hi] at h1
      cases h1
      rw [h2]
      simp
    · rw [if_neg hij] at h1
      obtain ⟨h3, h4⟩ := mm_prv_get h1
      refine List.mem_cons_of_mem _ (List.mem_filter.mpr ⟨(mm_al_in _ 0 q).mpr ⟨j, u, h3, h2⟩, ?_⟩)
      rw [h2]
      simp only [Nat.zero_add, mm_tv_cat, Bool.and_eq_true, Bool.not_eq_true', beq_eq_false_iff_ne, ne_eq, Bool.and_eq_false_iff]
      refine ⟨fun q => hij q.symm, ?_⟩
      by_cases hj : j + 1 = i
      · exact Or.inr (h4 hj)
      · exact Or.inl hj
  · cases hs
theorem mm_RL.st2 {z : Nat} {E : Nat → Nat} {nL : Nat} {L L' : mm_L} {ls ls' : Array Slot} (h : mm_RL z E nL L ls) {i : Nat} {v : Value} (hs : mm_st2 L i v = some L') (hl : lv_has ls' nL ((i, mm_tv z E v) :: (mm_al z E 0 L).filter (fun q => !(q.1 == i) && (!(q.1 == i + 1) && !(q.1 + 1 == i && q.2.category == 2))))) : mm_RL z E nL L' ls' := by
  unfold mm_st2 at hs
  split at hs
  · rename_i hi
    cases hs
    refine ⟨by rw [List.length_set, List.length_set, mm_prv_len]; exact h.1, mm_has_sub hl fun q hq => ?_⟩
    obtain ⟨j, u, h1, h2⟩ := (mm_al_in _ 0 q).mp hq
    rw [List.getElem?_set] at h1
    by_cases hij1 : i + 1 = j
    · subst hij1
      rw [if_pos rfl, List.length_set, mm_prv_len, if_pos hi] at h1
      cases h1
    rw [if_neg hij1, List.getElem?_set] at h1
    by_cases hij : i = j
    · subst hij
      rw [if_pos rfl, mm_prv_len, if_pos (by omega)] at h1
      cases h1
      rw [h2]
      simp
    · rw [if_neg hij] at h1
      obtain ⟨h3, h4⟩ := mm_prv_get h1
      refine List.mem_cons_of_mem _ (List.mem_filter.mpr ⟨(mm_al_in _ 0 q).mpr ⟨j, u, h3, h2⟩, ?_⟩)
      rw [h2]
      simp only [Nat.zero_add, mm_tv_cat, Bool.and_eq_true, Bool.not_eq_true', beq_eq_false_iff_ne, ne_eq, Bool.and_eq_false_iff]
      refine ⟨fun q => hij q.symm, fun q => hij1 q.symm, ?_⟩
      by_cases hj : j + 1 = i
      · exact Or.inr (h4 hj)
      · exact Or.inl hj
  · cases hs
theorem mm_st1_lt {L L' : mm_L} {i : Nat} {v : Value} (hs : mm_st1 L i v = some L') : i < L.length := by
  unfold mm_st1 at hs
  split at hs
  · assumption
  · cases hs
theorem mm_st2_lt {L L' : mm_L} {i : Nat} {v : Value} (hs : mm_st2 L i v = some L') : i + 1 < L.length := by
  unfold mm_st2 at hs
  split at hs
  · assumption
  · cases hs
/-! how large a world is -/
def mm_sl1 (e : mm_E) : Nat := match e with
  | .inl (_, n, _) => n
  | .inr (_, fs) => fs.length
def mm_sl (w : mm_W) : Nat := (w.map mm_sl1).sum
theorem mm_sl_set : ∀ (w : mm_W) (k : Nat) (e0 e : mm_E), w[k]? = some e0 → mm_sl1 e = mm_sl1 e0 → mm_sl (w.set k e) = mm_sl w
  | [], k, e0, e, h, _ => by simp at h
  | x :: w, 0, e0, e, h, hs => by
    simp at h
    subst h
    simp [mm_sl, hs]
  | x :: w, k + 1, e0, e, h, hs => by
    have := mm_sl_set w k e0 e (by simpa using h) hs
    simp [mm_sl] at this ⊢
    exact this
theorem mm_sl_push (w : mm_W) (e : mm_E) : mm_sl (w ++ [e]) = mm_sl w + mm_sl1 e := by simp [mm_sl]
