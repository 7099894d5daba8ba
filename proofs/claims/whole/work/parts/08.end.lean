section MM8
variable {p : Program} {l : Launch} {e : Env} {R : Room} {s : State} {m : MethodId} {args : Array Value} {below : List Frame} {meth : Method} {c : Code} {Q : State → Prop}
set_option maxHeartbeats 4000000 in
/-- a call, by the callee's contract -/
theorem mm_call {TB : List Cond} {cl : List vw_C} {SR : List (String × Nat × String)} {P : List mm_M} {G : List (List Value)} {S : List (List Int32)} {D : va_G} {cA : Nat → ClassId} {z : Nat} {E : Nat → Nat} {X : mm_X} {y : MethodName} {cc : ByteArray} {nL d : Nat} {rt : Option FieldType}
    (hP : mm_okP TB cl SR P) (hx : p.tables.exec = Jvm.exec) (hb : c.code = cc) (hml : c.maxLocals = nL) (hown : s.vm.findClass y.cls = some m.cls) (hts : ∀ w ∈ TB, w.before args s = true) (hB : mm_B TB D cl cA X SR S z E s s.heap) (hzs : z ≤ s.heap.size) (hfr : d + 1 + 8 ≤ R.frames) (hlo : 40 * (d + 1) + 400 ≤ R.locals)
    {q : mm_I} {pc : Nat} {L L' : mm_L} {st st' : List Value} {w w1 w2 : mm_W} {ls : Array Slot} {H : Heap} {locs : List Loc} {cells slots pc' k mc ms : Nat} {as : List Value} {M : mm_M} {r : Option Value}
    (hd : decode cc pc = .ok (q.1, mm_ln q)) (hk : mm_lnk TB cl mm_tys SR P y pc q) (hl : mm_RL z E nL L ls) (hH : mm_HR D cl cA z E w H) (hS : va_S (fun a : Nat => z ≤ a) s.heap H locs)
    (hstep : mm_step X G S rt q pc L st w = some (.inr (.inr (k, as, pc', L', st', w1)))) (hM : P[k]? = some M) (hml2 : M.2.2.1 ≤ 20)
    (hMet : Met l M.1 (mm_ws TB M) (mm_room d mc ms) (mm_Pre TB D cl cA X SR S z E w as) (mm_Post D cl cA z E r w2) mc ms (fun a : Nat => z ≤ a)) (hcells : cells + mc ≤ R.cells) (hslots : slots + ms ≤ R.slots)
    (kk : ∀ (H1 : Heap) (locs1 : List Loc), mm_RL z E nL L' ls → mm_HR D cl cA z E w2 H1 → va_S (fun a : Nat => z ≤ a) s.heap H1 locs1 → W p l e R s m args below meth c H1 locs1 (cells + mc) (slots + ms) Q (F0 m pc' ls ((r.toList ++ st').map (mm_tv z E)))) :
    W p l e R s m args below meth c H locs cells slots Q (F0 m pc ls (st.map (mm_tv z E))) := by
  obtain ⟨hpl, hmh, hcode, -⟩ := hP k M hM
  have hG : GoodIn TB (mm_ws TB M) := mm_good hcode
  have hS0 : ∀ q, q < s.heap.size → ¬ z ≤ q → H[q]? = s.heap[q]? := hS.2.1
  have hpre : ∀ (vs : List Value), vs = as.map (mm_tv z E) → PreS s H (mm_Pre TB D cl cA X SR S z E w as) vs := by
    intro vs hvs
    subst hvs
    refine ⟨mm_blind, fun U hU hW => ⟨rfl, by rw [hU]; exact hH, ?_⟩⟩
    rw [hU]
    exact (hB.kept hzs hS0).warm hW
  have hR : (mm_room d mc ms).frames + 1 ≤ R.frames ∧ 8 + (M.2.2.1 + 11) + (mm_room d mc ms).locals ≤ R.locals := by simp only [mm_room]; omega
  have hcat : ∀ (pc0 : Nat) (ls0 : Array Slot) (r0 : List Value), mm_cat st' ≤ 8 → 2 * (F0 m pc0 ls0 r0).monitorRoom + ((st'.map (mm_tv z E)).map fun v => v.category).sum ≤ 8 := by
    intro pc0 ls0 r0 h
    exact lv_room (by rw [mm_cat_tv]; exact h)
  obtain ⟨i, a, b, v, dead, tg⟩ := q
  cases i with
  | invokespecial x =>
    simp only [mm_lnk] at hk
    simp only [mm_step, mm_nx] at hstep
    split at hstep
    · exfalso
      repeat' split at hstep
      all_goals first | (cases hstep; done) | contradiction
    · rename_i hv
      rcases hk with ⟨hv', -⟩ | ⟨-, M', hM', hnm, hrt, hin, hini, hnp, hlk⟩
      · exact absurd hv' hv
      · split at hstep
        · rename_i hlen
          split at hstep
          · rename_i k1 r1 hdrop
            split at hstep
            · rename_i hc
              cases hstep
              cases hM.symm.trans hM'
              have hst : st.map (mm_tv z E) = (((st.take b).reverse).map (mm_tv z E)).reverse ++ .ref (z + k1) :: st'.map (mm_tv z E) := by
                conv => lhs; rw [← List.take_append_drop b st, hdrop]
                simp [mm_tv]
              rw [hst]
              have hn : (((st.take b).reverse).map (mm_tv z E)).length = b := by rw [List.length_map, List.length_reverse]; exact hlen
              refine mm_goes (a := #[]) (r := r) (w2 := w2) (mc := mc) (ms := ms) ?_ hS (fun H1 locs1 h1 h2 => kk H1 locs1 hl h1 h2)
              rcases hlk with hlk | ⟨host, hlk⟩
              · exact va_runI ⟨hx, hb, hml, hown, hts⟩ hMet ⟨callB_of b hts hG (by rw [mm_ws, hrt]) rfl rfl (hts _ hini) (hts _ hlk) ⟨hmh.1, hmh.2, hnp⟩ hR, hnm, hts _ hin⟩ (hpre _ (by simp [mm_tv])) rfl hn hl.2.1 rfl (hcat _ _ _ hc) hd ⟨hcells, hslots⟩
              · exact va_runIN ⟨hx, hb, hml, hown, hts⟩ hMet ⟨va_cnB b hts hG (by rw [mm_ws, hrt]) rfl rfl (va_Nw.of rfl (hts _ hlk)) (hts _ hini) ⟨hmh.1, hmh.2, hnp⟩ hR, hnm, hts _ hin⟩ (hpre _ (by simp [mm_tv])) rfl hn hl.2.1 rfl (hcat _ _ _ hc) hd ⟨hcells, hslots⟩
            · cases hstep
          · cases hstep
        · cases hstep
  | invokestatic x =>
    simp only [mm_lnk] at hk
    simp only [mm_step, mm_nx] at hstep
    split at hstep
    · exfalso
      repeat' split at hstep
      all_goals first | (cases hstep; done) | contradiction
    · rename_i hv
      rcases hk with ⟨hv', -⟩ | ⟨hv', -⟩ | ⟨hv', -⟩ | ⟨hv', -⟩ | ⟨hv', -⟩ | ⟨-, n0, n1, n2, n3, M', hM', hstt, hini, hnp, hlk⟩
      · exact absurd hv' hv
      · subst hv'; exfalso; simp at hstep; repeat' split at hstep
        all_goals first | (cases hstep; done) | contradiction
      · subst hv'; exfalso; simp at hstep; repeat' split at hstep
        all_goals first | (cases hstep; done) | contradiction
      · subst hv'; exfalso; simp at hstep; repeat' split at hstep
        all_goals first | (cases hstep; done) | contradiction
      · subst hv'; exfalso; simp at hstep; repeat' split at hstep
        all_goals first | (cases hstep; done) | contradiction
      · rw [if_neg n0, if_neg n1, if_neg n2, if_neg n3] at hstep
        split at hstep
        · rename_i hcond
          obtain ⟨hlen, hc⟩ := hcond
          cases hstep
          cases hM.symm.trans hM'
          have hst : st.map (mm_tv z E) = (((st.take b).reverse).map (mm_tv z E)).reverse ++ (st.drop b).map (mm_tv z E) := by
            conv => lhs; rw [← List.take_append_drop b st]
            simp
          rw [hst]
          have hn : (((st.take b).reverse).map (mm_tv z E)).length = b := by rw [List.length_map, List.length_reverse]; exact hlen
          refine mm_goes (a := (((st.take b).reverse).map (mm_tv z E)).toArray) (r := r) (w2 := w2) (mc := mc) (ms := ms) ?_ hS (fun H1 locs1 h1 h2 => kk H1 locs1 hl h1 h2)
          rcases hlk with hlk | ⟨host, hlk⟩
          · exact va_runS ⟨hx, hb, hml, hown, hts⟩ hMet ⟨callB_of b hts hG rfl rfl rfl (hts _ hini) (hts _ hlk) ⟨hmh.1, hmh.2, hnp⟩ hR, hts _ hstt⟩ (hpre _ rfl) rfl hn hl.2.1 rfl (hcat _ _ _ hc) hd ⟨hcells, hslots⟩
          · exact va_runSN ⟨hx, hb, hml, hown, hts⟩ hMet ⟨va_cnB b hts hG rfl rfl rfl (va_Nw.of rfl (hts _ hlk)) (hts _ hini) ⟨hmh.1, hmh.2, hnp⟩ hR, hts _ hstt, trivial⟩ (hpre _ rfl) rfl hn hl.2.1 rfl (hcat _ _ _ hc) hd ⟨hcells, hslots⟩
        · cases hstep
  | invokevirtual x =>
    simp only [mm_lnk] at hk
    simp only [mm_step, mm_nx] at hstep
    split at hstep
    · exfalso
      repeat' split at hstep
      all_goals first | (cases hstep; done) | contradiction
    · rename_i hv0
      split at hstep
      · exfalso
        repeat' split at hstep
        all_goals first | (cases hstep; done) | contradiction
      · rename_i hv1
        split at hstep
        · exfalso
          repeat' split at hstep
          all_goals first | (cases hstep; done) | contradiction
        · rename_i hv2
          rcases hk with ⟨hv', -⟩ | ⟨hv', -⟩ | ⟨hv', -⟩ | ⟨c1, C, T, N, M', hv', hcl, hM', hMc, hin, hsel, hini, hnp, hlk⟩
          · exact absurd hv' hv0
          · exact absurd hv' hv1
          · exact absurd hv' hv2
          · split at hstep
            · rename_i hlen
              split at hstep
              · rename_i k1 r1 hdrop
                split at hstep
                · rename_i c2 fs hw
                  split at hstep
                  · rename_i hc
                    obtain ⟨hvc, hc⟩ := hc
                    cases hstep
                    cases hM.symm.trans hM'
                    cases hv'.symm.trans hvc
                    have hst : st.map (mm_tv z E) = (((st.take b).reverse).map (mm_tv z E)).reverse ++ .ref (z + k1) :: st'.map (mm_tv z E) := by
                      conv => lhs; rw [← List.take_append_drop b st, hdrop]
                      simp [mm_tv]
                    rw [hst]
                    have hn : (((st.take b).reverse).map (mm_tv z E)).length = b := by rw [List.length_map, List.length_reverse]; exact hlen
                    have hrecv : ∃ cellB : Cell, H[z + k1]? = some cellB ∧ cellB.vm.isStatics = false ∧ s.vm.findClass C = some cellB.cls := by
                      obtain ⟨r', h1, cell, q1, q2, q3, q4⟩ := hH.2 _ _ hw
                      exact ⟨cell, q1, by rw [q3]; rfl, by rw [q2]; exact (hB.1.1 _ _ hcl).2.1⟩
                    subst hMc
                    refine mm_goes (a := #[]) (r := r) (w2 := w2) (mc := mc) (ms := ms) ?_ hS (fun H1 locs1 h1 h2 => kk H1 locs1 hl h1 h2)
                    have hpv : PreV s H M.1.cls (z + k1) (mm_Pre TB D cl cA X SR S z E w (.ref k1 :: (st.take b).reverse)) (((st.take b).reverse).map (mm_tv z E)) := ⟨mm_blind, hrecv, (hpre (.ref (z + k1) :: ((st.take b).reverse).map (mm_tv z E)) (by simp [mm_tv])).2⟩
                    rcases hlk with hlk | ⟨host, hlk⟩
                    · exact va_runV ⟨hx, hb, hml, hown, hts⟩ hMet ⟨callB_of b hts hG rfl rfl rfl (hts _ hini) (hts _ hlk) ⟨hmh.1, hmh.2, hnp⟩ hR, hts _ hin, hts _ hsel⟩ hpv rfl hn hl.2.1 rfl (hcat _ _ _ hc) hd ⟨hcells, hslots⟩
                    · exact va_runVN ⟨hx, hb, hml, hown, hts⟩ hMet ⟨va_cnB b hts hG rfl rfl rfl (va_Nw.of rfl (hts _ hlk)) (hts _ hini) ⟨hmh.1, hmh.2, hnp⟩ hR, hts _ hin, hts _ hsel⟩ hpv rfl hn hl.2.1 rfl (hcat _ _ _ hc) hd ⟨hcells, hslots⟩
                  · cases hstep
                · cases hstep
              · cases hstep
            · cases hstep
  | _ =>
    exfalso
    simp only [mm_step, mm_nx, mm_if, mm_ret] at hstep
    (repeat' split at hstep) <;> first | (cases hstep; done) | contradiction
end MM8
set_option maxHeartbeats 4000000 in
/-- THE SMALL MACHINE IS SOUND -/
theorem mm_sound {l : Launch} {TB : List Cond} {cl : List vw_C} {SR : List (String × Nat × String)} {P : List mm_M} {G : List (List Value)} {S : List (List Int32)} {D : va_G} {cA : Nat → ClassId} {z : Nat} {E : Nat → Nat} {X : mm_X} (hst : mm_Stat l TB cl SR P G S z E) : ∀ n : Nat, mm_Snd l TB cl SR P G S D cA z E X n := by
  intro n
  induction n with
  | zero => intro d mi pc M L st w r w' hM he; cases he
  | succ n ih =>
    intro d mi pc M L st w r w' hM he p e R s m args below meth c hx hb hml hr hlocks hown hnm hts hB hzs hfr hlo ls H locs cells slots mc ms hl hH hS hmc hms hRc hRs
    obtain ⟨hcls, hP, hgd, hc5, hc6, hstr⟩ := id hst
    rw [mm_exec, hM] at he
    simp only at he
    split at he
    · cases he
    · rename_i q hq
      obtain ⟨hd, hk⟩ := (hP mi M hM).2.2.2 pc q hq
      have hl1 := hl.clr q.2.2.2.2.1
      split at he
      · cases he
      · rename_i pc1 L1 st1 w1 hs
        have hg1 := (mm_step_grow hs).1 _ _ _ _ rfl
        have hg2 := mm_grow _ _ _ _ _ _ _ _ _ he
        obtain ⟨hs1, hs2⟩ := hstr p e R s m args below meth c (MQ below (mm_Post D cl cA z E r w') args s mc ms (fun a : Nat => z ≤ a)) M.1 M.2.1 M.2.2.1 hx hb hml hown hts hB.2.2.1 hzs (by omega) (by omega)
        exact mm_one hx hb hml hown hnm hts hcls hB.1 hB.2.1 hzs hc5 hc6 (by omega) (by omega) hs1 hs2 hd hk hl1 hH hS hs (by omega) (by omega) (fun ls' H' locs' c' s' g1 g2 g3 g4 g5 => ih d mi pc1 M L1 st1 w1 r w' hM he p e R s m args below meth c hx hb hml hr hlocks hown hnm hts hB hzs hfr hlo ls' H' locs' c' s' mc ms g1 g2 g3 (by omega) (by omega) hRc hRs)
      · rename_i r1 hs
        obtain ⟨v, w1⟩ := r1
        cases he
        have hw := (mm_step_grow hs).2.1 _ _ rfl
        subst hw
        have e1 : cells = mc := by omega
        have e2 : slots = ms := by omega
        subst e1
        subst e2
        exact mm_end hx hb hr hlocks hd hH hS hs
      · rename_i k as pc1 L1 st1 w1 hs
        have hw := (mm_step_grow hs).2.2 _ _ _ _ _ _ rfl
        subst hw
        split at he
        · cases he
        · rename_i d'
          split at he
          · cases he
          · rename_i M' hM'
            split at he
            · rename_i hcond
              split at he
              · cases he
              · rename_i rv w2 hc
                have hg1 := mm_grow _ _ _ _ _ _ _ _ _ hc
                have hg2 := mm_grow _ _ _ _ _ _ _ _ _ he
                have hmet := mm_met (D := D) (cA := cA) hst ih hM' hcond.1 hc
                exact mm_call hP hx hb hml hown hts hB hzs hfr hlo hd hk hl1 hH hS hs hM' hcond.2 hmet (by omega) (by omega) (fun H1 locs1 g1 g2 g3 => ih (d' + 1) mi pc1 M L1 _ w2 r w' hM he p e R s m args below meth c hx hb hml hr hlocks hown hnm hts hB hzs hfr hlo ls H1 locs1 _ _ mc ms g1 g2 g3 (by omega) (by omega) hRc hRs)
            · cases he
