/-! a call on what lies behind the world's cells -/
theorem WP.callV {X : mm_X} {d mi k : Nat} {M M' : mm_M} (hM : mk_P[mi]? = some M) (hM' : mk_P[k]? = some M') {P : Option Value → mm_W → Prop} {pc b cc kk z : Nat} {dead tg : List Nat} {L L' : mm_L} {st r : List Value} {w : mm_W} {fs : List Value} (hq : M.2.2.2.2.lookup pc = some (.invokevirtual z, k, b, .ref cc, dead, tg)) (h1 : (st.take b).length = b) (h2 : st.drop b = .ref kk :: r) (hw : w[kk]? = some (.inr (cc, fs))) (hcat : mm_cat r ≤ 8) (hl : (mm_ent (.ref kk :: (st.take b).reverse)).length ≤ M'.2.2.1 ∧ M'.2.2.1 ≤ 20) {E : mm_L} (hE : mm_ent (.ref kk :: (st.take b).reverse) ++ List.replicate (M'.2.2.1 - (mm_ent (.ref kk :: (st.take b).reverse)).length) none = E) (hL : mm_clr dead L = L')
    (hc : WP X d k (0, E, [], w) (fun rv w2 => WP X (d + 1) mi (pc + 3, L', rv.toList ++ r, w2) P)) : WP X (d + 1) mi (pc, L, st, w) P := by
  subst hL
  refine WP.call hM hM' (as := .ref kk :: (st.take b).reverse) (pc' := pc + 3) (L' := mm_clr dead L) (st' := r) (w1 := w) ?_ hl hE hc
  unfold mm_stp
  simp only [hq, mm_step]
  rw [if_neg (fun h => by cases h), if_neg (fun h => by cases h), if_neg (fun h => by cases h), if_pos h1]
  simp only [h2, hw]
  rw [if_pos ⟨by first | trivial | rfl, hcat⟩]
