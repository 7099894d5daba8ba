section MM6
variable {p : Program} {l : Launch} {e : Env} {R : Room} {s : State} {m : MethodId} {args : Array Value} {below : List Frame} {meth : Method} {c : Code} {Q : State → Prop}
/-- behind a call -/
theorem mm_goes {D : va_G} {cl : List vw_C} {cA : Nat → ClassId} {z : Nat} {E : Nat → Nat} {H : Heap} {locs : List Loc} {cells slots mc ms pc : Nat} {ls : Array Slot} {st0 : List Value} {r : Option Value} {w2 : mm_W} {st' : List Value} {a : Array Value}
    (hr : va_Run p l e R s m args below meth c H locs cells slots mc ms (F0 m pc ls st0) (st'.map (mm_tv z E)) (mm_Post D cl cA z E r w2 a) (fun a : Nat => z ≤ a)) (hS : va_S (fun a : Nat => z ≤ a) s.heap H locs)
    (kk : ∀ (H1 : Heap) (locs1 : List Loc), mm_HR D cl cA z E w2 H1 → va_S (fun a : Nat => z ≤ a) s.heap H1 locs1 → W p l e R s m args below meth c H1 locs1 (cells + mc) (slots + ms) Q (F0 m (pc + 3) ls ((r.toList ++ st').map (mm_tv z E)))) : W p l e R s m args below meth c H locs cells slots Q (F0 m pc ls st0) := by
  intro T hT X
  obtain ⟨v, st₀, t, T', L, h0, X', hL, e1, e2, ⟨hv, hp, hz, hk⟩, st⟩ := hr T hT X
  cases hv
  rw [h0] at hz hk
  obtain ⟨t2, a1, b1⟩ := kk T'.heap (locs ++ L) (by rw [e1]; exact hp) ⟨Nat.le_trans hS.1 (by rw [e1]; exact hz), fun q h1 h2 => by rw [e1, hk q (Nat.lt_of_lt_of_le h1 hS.1) h2]; exact hS.2.1 q h1 h2, fun q hq => by
      rcases List.mem_append.mp hq with h | h
      · exact hS.2.2 q h
      · exact hL q h⟩ T' rfl X'
  refine ⟨t2, st t2 ?_, b1⟩
  have e9 : (r.toList ++ st').map (mm_tv z E) = (r.map (mm_tv z E)).toList ++ st'.map (mm_tv z E) := by cases r <;> simp
  rw [e9] at a1
  exact a1
/-- an end of a method -/
theorem mm_end {D : va_G} {cl : List vw_C} {cA : Nat → ClassId} {z : Nat} {E : Nat → Nat} {X : mm_X} {G : List (List Value)} {S : List (List Int32)} {cc : ByteArray} {rt : Option FieldType} {q : mm_I} {pc : Nat} {L : mm_L} {st : List Value} {w w' : mm_W} {ls : Array Slot} {H : Heap} {locs : List Loc} {cells slots : Nat} {v : Option Value}
    (hx : p.tables.exec = Jvm.exec) (hb : c.code = cc) (hr : meth.sig.returnType = rt) (hlocks : meth.locks = false) (hd : decode cc pc = .ok (q.1, mm_ln q)) (hH : mm_HR D cl cA z E w H) (hS : va_S (fun a : Nat => z ≤ a) s.heap H locs)
    (hstep : mm_step X G S rt q pc L st w = some (.inr (.inl (v, w')))) : W p l e R s m args below meth c H locs cells slots (MQ below (mm_Post D cl cA z E v w') args s cells slots (fun a : Nat => z ≤ a)) (F0 m pc ls (st.map (mm_tv z E))) := by
  have hw := (mm_step_grow hstep).2.1 _ _ rfl
  subst hw
  have fin : ∀ t : State, t.heap = H → s.WarmedH t.vm → mm_Post D cl cA z E v w' args s (.returned (v.map (mm_tv z E))) t := fun t ht _ => ⟨rfl, by rw [ht]; exact hH, hS.F ht⟩
  obtain ⟨i, a, b, v0, dead, tg⟩ := q
  cases i with
  | return_ =>
    simp only [mm_step, mm_ret] at hstep
    split at hstep
    · split at hstep
      · cases hstep
        exact W.vret hx hb hr fin hS.2.2 hd hlocks
      · cases hstep
    · cases hstep
  | ireturn =>
    simp only [mm_step, mm_ret] at hstep
    split at hstep
    · split at hstep
      · split at hstep
        · rename_i hn
          cases hstep
          exact W.zret hx hb hr hn fin hS.2.2 hd hlocks
        · cases hstep
      · cases hstep
    · cases hstep
  | lreturn =>
    simp only [mm_step, mm_ret] at hstep
    split at hstep
    · split at hstep
      · rename_i hrt
        cases hstep
        exact W.lret hx hb (hr.trans hrt) fin hS.2.2 hd hlocks
      · cases hstep
    · cases hstep
  | areturn =>
    simp only [mm_step, mm_ret] at hstep
    split at hstep
    · split at hstep
      · cases hstep
        exact W.aret hx hb hr (Or.inl ⟨_, rfl⟩) (Or.inr ⟨_, rfl⟩) fin hS.2.2 hd hlocks
      · cases hstep
        exact W.aret hx hb hr (Or.inr ⟨_, rfl⟩) (Or.inr ⟨_, rfl⟩) fin hS.2.2 hd hlocks
      · cases hstep
    · split at hstep
      · cases hstep
        exact W.aret hx hb hr (Or.inl ⟨_, rfl⟩) (Or.inl rfl) fin hS.2.2 hd hlocks
      · cases hstep
        exact W.aret hx hb hr (Or.inr ⟨_, rfl⟩) (Or.inl rfl) fin hS.2.2 hd hlocks
      · cases hstep
    · cases hstep
  | _ =>
    exfalso
    simp only [mm_step, mm_nx, mm_if] at hstep
    (repeat' split at hstep) <;> first | (cases hstep; done) | contradiction
end MM6
