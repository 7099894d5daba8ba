/-! THE SMALL MACHINE IS SOUND: where it comes to an end, the real machine comes to that end -/
def mm_nk (w : Cond) : Prop := (∃ a i x h, w = .methodLinkNest a i x h) ∨ (∃ C T, w = .castable C T) ∨ ∃ C, w = .arrayOver (.object C)
/-- the words that a contract can't carry, as facts of a state -/
def mm_N (TB : List Cond) (U : State) : Prop := ∀ w ∈ TB, mm_nk w → w.before #[] U = true
theorem mm_N.warm {TB : List Cond} {s U : State} (hW : s.WarmedH U.vm) (h : mm_N TB s) : mm_N TB U := by
  intro w hw hk
  have h1 := h w hw hk
  rcases hk with ⟨a, i, x, b, rfl⟩ | ⟨C, T, rfl⟩ | ⟨C, rfl⟩
  · exact va_Nw.warmM hW h1
  · exact va_Nw.warmC hW h1
  · exact va_AO.moved hW.alike h1
theorem mm_N.same {TB : List Cond} {s U : State} (hv : s.vm = U.vm) (h : mm_N TB s) : mm_N TB U := by
  intro w hw hk
  have h1 := h w hw hk
  rcases hk with ⟨a, i, x, b, rfl⟩ | ⟨C, T, rfl⟩ | ⟨C, rfl⟩
  · exact va_Nw.same rfl hv h1
  · exact va_Nw.same rfl hv h1
  · exact va_AO.moved (u := s) (by rw [hv]; exact Vm.Alike.refl _) h1
/-- what the text constants hold, and the two statics of the JDK that are asked -/
def mm_Y (S : List (List Int32)) (z : Nat) (E : Nat → Nat) (U : State) (H : Heap) : Prop := (∃ adV : Nat → Nat, vk_S S.length (S.map List.length) S (fun i => E (16 + i)) adV (fun a : Nat => z ≤ a) U H) ∧ va_Z "java/lang/String" "COMPACT_STRINGS" "Z" (.int 1) (fun a : Nat => z ≤ a) U H ∧ va_Zq "jdk/internal/util/Preconditions" "SIOOBE_FORMATTER" "Ljava/util/function/BiFunction;" (fun a : Nat => z ≤ a) U H
theorem mm_Y.moved {S : List (List Int32)} {z : Nat} {E : Nat → Nat} {u U : State} {H : Heap} (hvm : u.vm.Alike U.vm) (h : mm_Y S z E u H) : mm_Y S z E U H := ⟨⟨h.1.choose, h.1.choose_spec.moved hvm⟩, h.2.1.moved hvm, h.2.2.moved hvm⟩
theorem mm_Y.kept {S : List (List Int32)} {z : Nat} {E : Nat → Nat} {U : State} {H H1 : Heap} (h : mm_Y S z E U H) (hq : ∀ a : Nat, a < H.size → ¬ z ≤ a → H1[a]? = H[a]?) : mm_Y S z E U H1 := ⟨⟨h.1.choose, h.1.choose_spec.kept hq⟩, h.2.1.kept hq, h.2.2.kept hq⟩
/-- all that a method's start knows -/
def mm_B (TB : List Cond) (D : va_G) (cl : List vw_C) (cA : Nat → ClassId) (X : mm_X) (SR : List (String × Nat × String)) (S : List (List Int32)) (z : Nat) (E : Nat → Nat) (U : State) (H : Heap) : Prop := mm_K D cl cA mm_tys U ∧ mm_X1 X SR z E U H ∧ mm_Y S z E U H ∧ mm_N TB U
theorem mm_B.same {TB : List Cond} {D : va_G} {cl : List vw_C} {cA : Nat → ClassId} {X : mm_X} {SR : List (String × Nat × String)} {S : List (List Int32)} {z : Nat} {E : Nat → Nat} {u U : State} {H : Heap} (hv : U.vm = u.vm) (h : mm_B TB D cl cA X SR S z E u H) : mm_B TB D cl cA X SR S z E U H := by
  have hal : u.vm.Alike U.vm := by rw [hv]; exact Vm.Alike.refl _
  exact ⟨h.1.moved hal, ⟨h.2.1.1.moved hal, h.2.1.2.1, fun j q hq => (h.2.1.2.2 j q hq).same hv⟩, h.2.2.1.moved hal, h.2.2.2.same hv.symm⟩
theorem mm_B.warm {TB : List Cond} {D : va_G} {cl : List vw_C} {cA : Nat → ClassId} {X : mm_X} {SR : List (String × Nat × String)} {S : List (List Int32)} {z : Nat} {E : Nat → Nat} {s U : State} {H : Heap} (hW : s.WarmedH U.vm) (h : mm_B TB D cl cA X SR S z E s H) : mm_B TB D cl cA X SR S z E U H :=
  ⟨h.1.moved hW.alike, ⟨h.2.1.1.moved hW.alike, h.2.1.2.1, fun j q hq => (h.2.1.2.2 j q hq).warm hW⟩, h.2.2.1.moved hW.alike, h.2.2.2.warm hW⟩
theorem mm_B.kept {TB : List Cond} {D : va_G} {cl : List vw_C} {cA : Nat → ClassId} {X : mm_X} {SR : List (String × Nat × String)} {S : List (List Int32)} {z : Nat} {E : Nat → Nat} {s : State} {H H1 : Heap} (hz : z ≤ H.size) (h : mm_B TB D cl cA X SR S z E s H) (hq : ∀ a : Nat, a < H.size → ¬ z ≤ a → H1[a]? = H[a]?) : mm_B TB D cl cA X SR S z E s H1 :=
  ⟨h.1, ⟨h.2.1.1.kept (hq _ (Nat.lt_of_lt_of_le h.2.1.2.1 hz) (Nat.not_le.mpr h.2.1.2.1)), h.2.1.2.1, h.2.1.2.2⟩, h.2.2.1.kept hq, h.2.2.2⟩
def mm_Pre (TB : List Cond) (D : va_G) (cl : List vw_C) (cA : Nat → ClassId) (X : mm_X) (SR : List (String × Nat × String)) (S : List (List Int32)) (z : Nat) (E : Nat → Nat) (w : mm_W) (vs : List Value) : Array Value → State → Prop :=
  va_Pc (vs.map (mm_tv z E)) (fun U => mm_HR D cl cA z E w U.heap ∧ mm_B TB D cl cA X SR S z E U U.heap)
def mm_Post (D : va_G) (cl : List vw_C) (cA : Nat → ClassId) (z : Nat) (E : Nat → Nat) (r : Option Value) (w : mm_W) : Array Value → State → Outcome → State → Prop := fun _ st oc t => oc = .returned (r.map (mm_tv z E)) ∧ mm_HR D cl cA z E w t.heap ∧ va_F (fun a : Nat => z ≤ a) st t
theorem mm_blind {TB : List Cond} {D : va_G} {cl : List vw_C} {cA : Nat → ClassId} {X : mm_X} {SR : List (String × Nat × String)} {S : List (List Int32)} {z : Nat} {E : Nat → Nat} {w : mm_W} {vs : List Value} : FrameBlind (mm_Pre TB D cl cA X SR S z E w vs) := by
  rintro a U g mk ⟨h1, h2, h3⟩
  exact ⟨h1, h2, mm_B.same (u := U) (U := U.calling g mk a) (H := U.heap) rfl h3⟩
def mm_room (d mc ms : Nat) : Room := { frames := d + 8, cells := mc, slots := ms, locals := 40 * d + 400 }
def mm_ws (TB : List Cond) (M : mm_M) : List Cond := Cond.code M.1 M.2.1 M.2.2.1 M.2.2.2.1 :: TB.filter goodWord
/-- what the tables say of the program -/
def mm_okP (TB : List Cond) (cl : List vw_C) (SR : List (String × Nat × String)) (P : List mm_M) : Prop := ∀ (k : Nat) (M : mm_M), P[k]? = some M →
  plainName M.1.cls = true ∧ (M.1.cls ≠ "java/lang/invoke/MethodHandle" ∧ M.1.cls ≠ "java/lang/invoke/VarHandle") ∧ Cond.code M.1 M.2.1 M.2.2.1 M.2.2.2.1 ∈ TB ∧
  ∀ (pc : Nat) (q : mm_I), M.2.2.2.2.lookup pc = some q → decode M.2.1 pc = .ok (q.1, mm_ln q) ∧ mm_lnk TB cl mm_tys SR P M.1 pc q
/-! worlds only grow -/
set_option maxHeartbeats 4000000 in
theorem mm_step_grow {X : mm_X} {G : List (List Value)} {S : List (List Int32)} {rt : Option FieldType} {q : mm_I} {pc : Nat} {L : mm_L} {st : List Value} {w : mm_W} {r : mm_R} (h : mm_step X G S rt q pc L st w = some r) : (∀ pc' L' st' w', r = .inl (pc', L', st', w') → w.length ≤ w'.length ∧ mm_sl w ≤ mm_sl w') ∧ (∀ v w', r = .inr (.inl (v, w')) → w' = w) ∧ ∀ k as pc' L' st' w', r = .inr (.inr (k, as, pc', L', st', w')) → w' = w := by
  have hset : ∀ (k : Nat) (e0 e : mm_E), w[k]? = some e0 → mm_sl1 e = mm_sl1 e0 → w.length ≤ (w.set k e).length ∧ mm_sl w ≤ mm_sl (w.set k e) := fun k e0 e h1 h2 => ⟨by rw [List.length_set]; exact Nat.le_refl _, by rw [mm_sl_set w k e0 e h1 h2]; exact Nat.le_refl _⟩
  have hpush : ∀ e : mm_E, w.length ≤ (w ++ [e]).length ∧ mm_sl w ≤ mm_sl (w ++ [e]) := fun e => ⟨by simp, by rw [mm_sl_push]; omega⟩
  obtain ⟨i, a, b, v, dead, tg⟩ := q
  cases i <;> simp only [mm_step, mm_nx, mm_ret, mm_if] at h <;> (repeat' split at h) <;> (try cases h) <;>
    (refine ⟨?_, ?_, ?_⟩ <;> intros <;> (rename_i he; cases he) <;> first | rfl | exact ⟨Nat.le_refl _, Nat.le_refl _⟩ | exact hpush _ | (refine hset _ _ _ (by assumption) ?_; simp [mm_sl1]))
theorem mm_grow {X : mm_X} {G : List (List Value)} {S : List (List Int32)} {P : List mm_M} : ∀ (n d mi pc : Nat) (L : mm_L) (st : List Value) (w : mm_W) (r : Option Value) (w' : mm_W), mm_exec X G S P n d mi pc L st w = some (r, w') → w.length ≤ w'.length ∧ mm_sl w ≤ mm_sl w' := by
  intro n
  induction n with
  | zero => intro d mi pc L st w r w' h; cases h
  | succ n ih =>
    intro d mi pc L st w r w' h
    rw [mm_exec] at h
    split at h
    · cases h
    · rename_i M hM
      split at h
      · cases h
      · rename_i q hq
        split at h
        · cases h
        · rename_i pc1 L1 st1 w1 hs
          have h1 := (mm_step_grow hs).1 _ _ _ _ rfl
          have h2 := ih _ _ _ _ _ _ _ _ h
          omega
        · rename_i r1 hs
          obtain ⟨v, w1⟩ := r1
          have h1 := (mm_step_grow hs).2.1 _ _ rfl
          cases h
          rw [h1]
          exact ⟨Nat.le_refl _, Nat.le_refl _⟩
        · rename_i k as pc1 L1 st1 w1 hs
          have h1 := (mm_step_grow hs).2.2 _ _ _ _ _ _ rfl
          subst h1
          split at h
          · cases h
          · split at h
            · cases h
            · split at h
              · split at h
                · cases h
                · rename_i rv w2 hc
                  have h2 := ih _ _ _ _ _ _ _ _ hc
                  have h3 := ih _ _ _ _ _ _ _ _ h
                  omega
              · cases h
