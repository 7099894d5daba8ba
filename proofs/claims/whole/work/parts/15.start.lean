def R_law : String := "WashLineLaw"
def lw_P (b : Addr) (xs : List Int32) (args : Array Value) (s : State) : Prop := args = #[.ref b] ∧ s.IntsAt b xs ∧ xs.length ≤ 3072 ∧ (Jvm.Cond.and given_1 narrow_1).before args s = true
def lw_Q (_ : Array Value) (s : State) (o : Outcome) (t : State) : Prop := o = .returned (some (.int 1)) ∧ Framed s o t [] 600000 7302250
def lw_Z (below : List Frame) (a : Array Value) (s : State) : State → Prop := fun t => ∃ o, t.status = .running ∧ Ended t below o ∧ lw_Q a s o t
def sx_F : List Cond := flatC (Jvm.Cond.and given_1 narrow_1)
def sx_k : List Nat := [32, 34, 119, 121, 54, 60, 114, 101, 103]
def sx_t (i : Nat) : Term := .string "WashLine$Reader" (sx_k.getD i 0)
def sx_n (i : Nat) : Nat := (mk_S.map List.length).getD i 0
theorem sx_ex : ((List.range 9).all fun i => decide (sx_F[([27, 51, 73, 117, 166, 180, 192, 206, 221] : List Nat).getD i 0]? = some (.exactly (sx_t i) "java/lang/String"))) = true := by decide +kernel
theorem sx_co : ((List.range 9).all fun i => decide (sx_F[([28, 52, 74, 118, 167, 181, 193, 207, 222] : List Nat).getD i 0]? = some (.eq (.field (sx_t i) "java/lang/String" "coder" "B") (.int 0)))) = true := by decide +kernel
theorem sx_ar : ((List.range 9).all fun i => decide (sx_F[([29, 53, 75, 119, 168, 182, 194, 208, 223] : List Nat).getD i 0]? = some (.arrayOf (.field (sx_t i) "java/lang/String" "value" "[B") .byte))) = true := by decide +kernel
theorem sx_le : ((List.range 9).all fun i => decide (sx_F[([30, 54, 76, 120, 169, 183, 195, 209, 224] : List Nat).getD i 0]? = some (.eq (.length (.field (sx_t i) "java/lang/String" "value" "[B")) (.int (Int32.ofNat (sx_n i)))))) = true := by decide +kernel
theorem sx_el : ((List.range 9).all fun i => (List.range (sx_n i)).all fun j => decide (sx_F[(([[31, 32, 33, 34, 35, 36, 37, 38, 39, 40, 41, 42, 43, 44, 45, 46, 47, 48, 49, 50], [55, 56, 57, 58, 59, 60, 61, 62, 63, 64, 65, 66, 67, 68, 69, 70, 71], [77, 78, 79, 80, 81, 82, 83, 84, 85, 86, 87, 88, 89, 90, 91, 92, 93, 94, 95, 96, 97, 98, 99, 100, 101, 102, 103, 104, 105, 106, 107, 108, 109, 110, 111, 112, 113, 114], [121, 122, 123, 124, 125, 126, 127, 128, 129, 130, 131, 132, 133, 134, 135, 136, 137, 138, 139, 140, 141, 142, 143, 144, 145, 146, 147, 148, 149, 150, 151, 152, 153, 154, 155, 156, 157, 158, 159, 160, 161, 162], [170, 171, 172, 173, 174, 175], [184, 185, 186], [196, 197, 198, 199], [210, 211, 212, 213], [225, 226, 227]] : List (List Nat)).getD i []).getD j 0]? = some (.eq (.elem (.field (sx_t i) "java/lang/String" "value" "[B") (.int (Int32.ofNat j))) (.int ((mk_S.getD i []).getD j 0))))) = true := by decide +kernel
theorem sx_ne : ((List.range 9).all fun i => (List.range 9).all fun j => decide (i = j) || decide (sx_F[(([[0, 72, 115, 163, 176, 187, 200, 214, 228], [0, 0, 116, 164, 177, 188, 201, 215, 229], [0, 0, 0, 165, 178, 189, 202, 216, 230], [0, 0, 0, 0, 179, 190, 203, 217, 231], [0, 0, 0, 0, 0, 191, 204, 218, 232], [0, 0, 0, 0, 0, 0, 205, 219, 233], [0, 0, 0, 0, 0, 0, 0, 220, 234], [0, 0, 0, 0, 0, 0, 0, 0, 235], [0, 0, 0, 0, 0, 0, 0, 0, 0]] : List (List Nat)).getD i []).getD j 0]? = some (.not (.eq (sx_t i) (sx_t j)))) || decide (sx_F[(([[0, 72, 115, 163, 176, 187, 200, 214, 228], [0, 0, 116, 164, 177, 188, 201, 215, 229], [0, 0, 0, 165, 178, 189, 202, 216, 230], [0, 0, 0, 0, 179, 190, 203, 217, 231], [0, 0, 0, 0, 0, 191, 204, 218, 232], [0, 0, 0, 0, 0, 0, 205, 219, 233], [0, 0, 0, 0, 0, 0, 0, 220, 234], [0, 0, 0, 0, 0, 0, 0, 0, 235], [0, 0, 0, 0, 0, 0, 0, 0, 0]] : List (List Nat)).getD j []).getD i 0]? = some (.not (.eq (sx_t j) (sx_t i))))) = true := by decide +kernel
theorem sx_cs : Cond.eq (.static "java/lang/String" "COMPACT_STRINGS" "Z") (.int 1) ∈ sx_F := List.mem_of_getElem? (i := 4) (by decide +kernel)
theorem sx_si : Cond.isRef (.static "jdk/internal/util/Preconditions" "SIOOBE_FORMATTER" "Ljava/util/function/BiFunction;") ∈ sx_F := List.mem_of_getElem? (i := 5) (by decide +kernel)
theorem sx_ls1 : Cond.laysStatic "java/lang/String" "COMPACT_STRINGS" "Z" ∈ mk_LT := List.mem_of_getElem? (i := 608) (by decide +kernel)
theorem sx_ls2 : Cond.laysStatic "jdk/internal/util/Preconditions" "SIOOBE_FORMATTER" "Ljava/util/function/BiFunction;" ∈ mk_LT := List.mem_of_getElem? (i := 624) (by decide +kernel)
def sx_p : List Nat := [593, 594, 659, 660, 665, 670, 679, 680, 681]
theorem sx_sr : (mk_SR.zip sx_p).all (fun q => decide (mk_LT[q.2]? = some (.stringRef q.1.1 q.1.2.1 q.1.2.2))) = true := by decide +kernel
theorem sx_a0 : Cond.arrayClass .int ∈ mk_LT := List.mem_of_getElem? (i := 223) (by decide +kernel)
theorem sx_a1 : Cond.arrayClass .long ∈ mk_LT := List.mem_of_getElem? (i := 300) (by decide +kernel)
theorem sx_a2 : Cond.arrayClass .byte ∈ mk_LT := List.mem_of_getElem? (i := 707) (by decide +kernel)
theorem sx_a3 : Cond.arrayClass .boolean ∈ mk_LT := List.mem_of_getElem? (i := 256) (by decide +kernel)
theorem sx_a4 : Cond.arrayOver (.object "WashLine$Text") ∈ mk_LT := List.mem_of_getElem? (i := 145) (by decide +kernel)
theorem sx_a5 : Cond.arrayOver (.object "WashLine$State") ∈ mk_LT := List.mem_of_getElem? (i := 224) (by decide +kernel)
theorem sx_in {pl : Nat → Nat} {f : Nat → Cond} (h : ((List.range 9).all fun i => decide (sx_F[pl i]? = some (f i))) = true) : ∀ i, i < 9 → f i ∈ sx_F := fun i hi => List.mem_of_getElem? (of_decide_eq_true (List.all_eq_true.mp h i (List.mem_range.mpr hi)))
/-- what holds at the law's entry -/
def mk_At (p : Program) (s : State) (m : MethodId) (meth : Method) (c : Code) (b L : Nat) (xs : Nat → Int32) : Prop :=
  p.tables.exec = Jvm.exec ∧ c.code = code ∧ meth.sig.returnType = ret ∧ c.maxLocals = 4 ∧ s.vm.findClass "WashLineLaw" = some m.cls ∧ (∀ w ∈ mk_LT, w.before #[Value.ref b] s = true) ∧ va_X b L xs s s.heap ∧ b < s.heap.size ∧ meth.locks = false ∧ (Jvm.Cond.and given_1 narrow_1).before #[Value.ref b] s = true ∧ meth.name = "law"
/-- THE PURE STATEMENT: on every script the small machine's run of the law ends with 1, within the room -/
def mk_Pure : Prop := ∀ (L : Nat) (xs : Nat → Int32), L ≤ 3072 → ∃ (n : Nat) (w' : mm_W), mm_exec (L, xs) mk_G mk_S mk_P n 2000 0 0 [some (.float 0), none, none, none] [] [] = some (some (.int 1), w') ∧ w'.length ≤ 600000 ∧ mm_sl w' ≤ 7302250
theorem sx_world {s : State} {b L : Nat} {xs : Nat → Int32} (hts : ∀ w ∈ mk_LT, w.before #[Value.ref b] s = true) (hX : va_X b L xs s s.heap) (hbl : b < s.heap.size) (hgv : (Jvm.Cond.and given_1 narrow_1).before #[Value.ref b] s = true) :
    ∃ (D : va_G) (cA : Nat → ClassId) (E : Nat → Nat), E 0 = b ∧ mm_B mk_TB D mk_cl cA (L, xs) mk_SR mk_S s.heap.size E s s.heap := by
  have hfl : ∀ w ∈ sx_F, w.before #[Value.ref b] s = true := flat_of_before _ hgv
  have htb : ∀ w ∈ mk_TB, w.before #[Value.ref b] s = true := fun w hw => hts w (List.mem_filter.mp hw).1
  have hA : ∀ a : Nat, a < s.heap.size → ¬ s.heap.size ≤ a := fun a h => Nat.not_le.mpr h
  -- classes
  have h1 : ∀ k : Nat, ∃ r : ClassId × (Nat → Nat), ∀ q : vw_C, mk_cl[k]? = some q → u_Kn s q.1 q.2.1 q.2.2 r.1 r.2 := by
    intro k
    cases hk : mk_cl[k]? with
    | none => exact ⟨(0, fun _ => 0), fun q h => by cases h⟩
    | some q =>
      obtain ⟨g1, -, g2, -⟩ := mk_clsOK k q hk
      obtain ⟨cC, iS, h⟩ := u_known htb g1 (htb _ g2)
      exact ⟨(cC, iS), fun q' h' => by cases h'; exact h⟩
  obtain ⟨f, hf⟩ := Classical.axiomOfChoice h1
  have h2 : ∀ t : Nat, ∃ cA : ClassId, ∀ ty : FieldType, mm_tys[t]? = some ty → ArrOfT s cA ty ∧ va_RA s cA ty := by
    have prim : ∀ ty : FieldType, Cond.arrayClass ty ∈ mk_LT → (∀ cA, s.vm.findClass ("[" ++ ty.toString) = some cA → va_RA s cA ty) → ∃ cA : ClassId, ArrOfT s cA ty ∧ va_RA s cA ty := by
      intro ty hty hra
      obtain ⟨cA, kA, comp, g1, g2, g3⟩ := Cond.arrayClass_spec (hts _ hty)
      exact ⟨cA, fun n z => ⟨(fun k h => by cases h), kA, g2, comp, g3⟩, hra cA g1⟩
    have obj : ∀ C : String, Cond.arrayOver (.object C) ∈ mk_LT → ∃ cA : ClassId, ArrOfT s cA (.object C) ∧ va_RA s cA (.object C) := by
      intro C hC
      obtain ⟨comp, cA, kA, g0, g1, g2, g3, g4⟩ := Cond.arrayOver_spec (hts _ hC)
      exact ⟨cA, fun n z => ⟨(fun k h => by cases h), kA, g2, comp, g3⟩, kA, comp, g2, g3, g0, g4⟩
    intro t
    match t with
    | 0 => obtain ⟨cA, h⟩ := prim .int sx_a0 (fun _ h => h); exact ⟨cA, fun ty e => by cases e; exact h⟩
    | 1 => obtain ⟨cA, h⟩ := prim .long sx_a1 (fun _ h => h); exact ⟨cA, fun ty e => by cases e; exact h⟩
    | 2 => obtain ⟨cA, h⟩ := prim .byte sx_a2 (fun _ h => h); exact ⟨cA, fun ty e => by cases e; exact h⟩
    | 3 => obtain ⟨cA, h⟩ := prim .boolean sx_a3 (fun _ h => h); exact ⟨cA, fun ty e => by cases e; exact h⟩
    | 4 => obtain ⟨cA, h⟩ := obj _ sx_a4; exact ⟨cA, fun ty e => by cases e; exact h⟩
    | 5 => obtain ⟨cA, h⟩ := obj _ sx_a5; exact ⟨cA, fun ty e => by cases e; exact h⟩
    | k + 6 => exact ⟨0, fun ty e => by simp [mm_tys] at e⟩
  obtain ⟨cA, hcA⟩ := Classical.axiomOfChoice h2
  -- text constants
  obtain ⟨adK, adV, hVS, hev⟩ := vk_Sof (args := #[Value.ref b]) (s := s) (N := 9) (tm := sx_t) (len := mk_S.map List.length) (byt := mk_S) (A := fun a : Nat => s.heap.size ≤ a)
    (fun i _ => by
      by_cases hi : i < (mk_S.map List.length).length
      · rw [List.getD_eq_getElem?_getD, List.getElem?_eq_getElem hi]
        have hm : (mk_S.map List.length)[i] ∈ mk_S.map List.length := List.getElem_mem hi
        obtain ⟨tx, ht, he⟩ := List.mem_map.mp hm
        have := (jm_signs tx ht).1
        simp only [Option.getD_some]
        omega
      · rw [List.getD_eq_getElem?_getD, List.getElem?_eq_none (by omega)]
        decide)
    (fun i hi => hfl _ (sx_in sx_ex i hi)) (fun i hi => hfl _ (sx_in sx_co i hi)) (fun i hi => hfl _ (sx_in sx_ar i hi)) (fun i hi => hfl _ (sx_in sx_le i hi))
    (fun i hi j hj => hfl _ (List.mem_of_getElem? (of_decide_eq_true (List.all_eq_true.mp (List.all_eq_true.mp sx_el i (List.mem_range.mpr hi)) j (List.mem_range.mpr hj)))))
    (fun i j hi hj hij => by
      have h := List.all_eq_true.mp (List.all_eq_true.mp sx_ne i (List.mem_range.mpr hi)) j (List.mem_range.mpr hj)
      simp only [Bool.or_eq_true, decide_eq_true_eq] at h
      rcases h with (h | h) | h
      · exact absurd h hij
      · exact Or.inl (hfl _ (List.mem_of_getElem? h))
      · exact Or.inr (hfl _ (List.mem_of_getElem? h))) hA
  let E : Nat → Nat := fun n => if n < 16 then b else adK (n - 16)
  have hE : (fun i => E (16 + i)) = adK := by
    funext i
    show (if 16 + i < 16 then b else adK (16 + i - 16)) = adK i
    rw [if_neg (by omega)]
    congr 1
    omega
  have hE1 : ∀ j, E (16 + j) = adK j := fun j => congrFun hE j
  refine ⟨(fun k => (f k).1, fun k => (f k).2), cA, E, rfl, ⟨fun k q hk => hf k q hk, fun t ty ht => hcA t ty ht⟩, ⟨hX, hbl, fun j q hq => ?_⟩, ⟨⟨adV, by rw [hE]; exact hVS⟩, ?_, ?_⟩, ?_⟩
  · rw [hE1]
    have hj : j < 9 := (List.getElem?_eq_some_iff.mp hq).1
    obtain ⟨pj, hpj⟩ : ∃ pj, sx_p[j]? = some pj := ⟨_, List.getElem?_eq_getElem (show j < sx_p.length from hj)⟩
    have hz : (mk_SR.zip sx_p)[j]? = some (q, pj) := List.getElem?_zip_eq_some.mpr ⟨hq, hpj⟩
    have h3 := of_decide_eq_true (List.all_eq_true.mp sx_sr _ (List.mem_of_getElem? hz))
    refine vk_R.of (hts _ (List.mem_of_getElem? h3)) ?_
    have h4 := hev j hj
    match j, hq with
    | 0, hq => cases hq; exact h4
    | 1, hq => cases hq; exact h4
    | 2, hq => cases hq; exact h4
    | 3, hq => cases hq; exact h4
    | 4, hq => cases hq; exact h4
    | 5, hq => cases hq; exact h4
    | 6, hq => cases hq; exact h4
    | 7, hq => cases hq; exact h4
    | 8, hq => cases hq; exact h4
    | k + 9, hq => omega
  · exact va_Zof (hts _ sx_ls1) (htb _ jn_str) (va_eqt (hfl _ sx_cs)) hA
  · exact va_Zqof (hts _ sx_ls2) (htb _ jn_pre) (hfl _ sx_si) hA
  · intro w hw hk
    have h3 := htb w hw
    rcases hk with ⟨a, i, x, h, rfl⟩ | ⟨C, T, rfl⟩ | ⟨C, rfl⟩
    · exact va_Nw.of rfl h3
    · exact va_Nw.of rfl h3
    · exact va_AO.of h3
set_option maxHeartbeats 1000000 in
theorem mk_start (hpure : mk_Pure) {p : Program} {e : Env} {s : State} {m : MethodId} {below : List Frame} {meth : Method} {c : Code} (l : Launch) {b L : Nat} {xs : Nat → Int32} (hL : L ≤ 3072) (C0 : mk_At p s m meth c b L xs) : W p l e room_1 s m #[Value.ref b] below meth c s.heap [] 0 0 (lw_Z below #[Value.ref b] s) (entryFrame m ([Value.ref b] : List Value).toArray 4) := by
  obtain ⟨hx, hb, hr, hml, hown, hts, hX, hbl, hlocks, hgv, hnm⟩ := C0
  obtain ⟨n, w', he, hw1, hw2⟩ := hpure L xs hL
  obtain ⟨D, cA, E, hE, hB⟩ := sx_world hts hX hbl hgv
  have htb : ∀ w ∈ mk_TB, w.before #[Value.ref b] s = true := fun w hw => hts w (List.mem_filter.mp hw).1
  have hl := lv_entry ([.ref b]) (n := 4) (Nat.le_of_ble_eq_true rfl)
  rw [lg_entry_eq]
  generalize (lg_sl ([.ref b]) ++ List.replicate (4 - (lg_sl ([.ref b])).length) Slot.unset).toArray = ls at hl ⊢
  have hl : lv_has ls 4 [(0, .ref b)] := hl
  have hRL : mm_RL s.heap.size E 4 [some (.float 0), none, none, none] ls := by
    refine ⟨rfl, ?_⟩
    have e1 : mm_al s.heap.size E 0 [some (.float 0), none, none, none] = [(0, .ref (E 0))] := rfl
    rw [e1, hE]
    exact hl
  have hHR : mm_HR D mk_cl cA s.heap.size E [] s.heap := ⟨rfl, fun k e h => by simp at h⟩
  have K := mm_sound (D := D) (cA := cA) (X := (L, xs)) (mk_stat l s.heap.size E) n 2000 0 0 mM_0 _ [] [] (some (.int 1)) w' rfl he p e room_1 s m #[Value.ref b] below meth c hx hb hml hr hlocks hown hnm htb hB (Nat.le_refl _) (by decide) (by decide) ls s.heap [] 0 0 w'.length (mm_sl w') hRL hHR va_S.rf (by simp) (by simp [mm_sl]) hw1 hw2
  intro T hT X
  obtain ⟨t, st, o, h1, h2, ⟨h3, -, -⟩, Ls, h4, h5⟩ := K T hT X
  refine ⟨t, st, o, h1, h2, h3, h4.1, h4.2.1, ?_⟩
  exact h4.2.2.weaken (fun y hy hlt => absurd hlt (Nat.not_lt.mpr (h5 y hy))) hw1 hw2
