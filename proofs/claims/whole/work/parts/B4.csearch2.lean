/-! plans: the class's search, whole -/
def fP (f' f : Nat → Int32) : Prop := ∀ a, a ≠ 2440 → a ≠ 2882 → f' a = f a
def gP (g' g : Nat → Nat → Int32) : Prop := ∀ a, a ≠ 41 → (a < 46 ∨ 49 < a) → g' a = g a
/-- only ways of the fewest cloths are left -/
def onI (D E : Nat → Nat) (T : Nat) (g : Nat → Nat → Int32) : Prop := ∀ x, x < 1000 → g 46 x = iI (if D x + E x = T then (D x : Int) else -1)
theorem c_forget {X : mm_X} {d : Nat} {f : Nat → Int32} {fl : Nat → Int64} {g : Nat → Nat → Int32} {gl : Nat → Nat → Int64} {hh : Nat → Nat → Option Nat} {v : Nat → Value} {tx : mm_W} {P : Option Value → mm_W → Prop} {κ : Nat → Nat} {cs : List pC} {p st ce : Nat} {D E A : Nat → Nat} {M : Nat} {L : Nat → Nat} (hwS : wS κ) (hDE : DE (plN κ cs p) (plL κ) (κ 55) st ce D E) (hce : ce < 25) (hT : E st ≤ 4000) (hI : spI κ cs p D (E st) A M L f g) (hlv : ∀ x, A x = if D x ≤ E st then D x else 1000000)
    (h : ∀ g' : Nat → Nat → Int32, (∀ a, a ≠ 46 → g' a = g a) → onI D E (E st) g' → P none (Wd f fl g' gl hh v tx)) :
    WP X (d + 4) 27 (0, [some (.ref 45), some (.ref 1), some (.int (iI (E st : Int))), some (.int (iI (ce : Int))), none, none, none], [], Wd f fl g gl hh v tx) P := by
  have b55 := hwS.1
  have hM := hI.M (by omega)
  obtain ⟨hxS, hb, ⟨a1, a2, a3, a4, a5, a6⟩, ho, hv, hl, hw⟩ := hI
  have hDm : ∀ x, D x ≤ 1000000 := hDE.2.2.2.2.1
  have hDL : ∀ i, i < M → D (L i) ≤ E st := fun i hi => by
    have q := (a3 i hi).2.2
    rw [hlv] at q
    by_cases c : D (L i) ≤ E st
    · exact c
    · rw [if_neg c] at q; omega
  -- i of them are still to be looked at
  have loop : ∀ i, i ≤ M → ∀ g' : Nat → Nat → Int32, (∀ a, a ≠ 46 → g' a = g a) → (∀ k, k < i → g' 46 (L k) = iI (D (L k) : Int)) → (∀ k, i ≤ k → k < M → g' 46 (L k) = iI (if D (L k) + E (L k) = E st then (D (L k) : Int) else -1)) → (∀ x, x < 1000 → ¬ D x ≤ E st → g' 46 x = -1) →
      WP X (d + 4) 27 (8, [some (.ref 45), some (.ref 1), some (.int (iI (E st : Int))), some (.int (iI (ce : Int))), some (.int (iI ((i : Int) - 1))), none, none], [], Wd f fl g' gl hh v tx) P := by
    intro i
    induction i with
    | zero =>
      intro _ g' hg h1 h2 h3
      refine b_yco_forgetAstray_45_1_8 (d := d + 3) (h := ⟨fun _ => h g' hg fun x hx => ?_, fun c => absurd (by decide) c⟩) ..
      by_cases c : D x ≤ E st
      · obtain ⟨k, k1, k2⟩ := a4 x hx (by rw [hlv, if_pos c]; omega)
        rw [← k2]
        exact h2 k (Nat.zero_le _) k1
      · rw [if_neg (by omega)]
        exact h3 x hx c
    | succ i ih =>
      intro hi g' hg h1 h2 h3
      have hiM : i < M := by omega
      obtain ⟨q1, q2, q3⟩ := a3 i hiM
      have hDx := hDL i hiM
      have e47 : g' 47 i = iI (L i : Int) := (congrFun (hg 47 (by decide)) i).trans q1
      have e46 := h1 i (by omega)
      have inj : ∀ k, k < M → L k = L i → k = i := fun k hk e => a6 k i hk hiM e
      have hli : ((( (i + 1 : Nat) : Int) - 1)) = (i : Int) := by omega
      have ti : (iI (i : Int)).toNatClampNeg = i := by rw [z_nat (by omega)]; omega
      have hord := ho i hiM
      -- x is what is looked at
      generalize hxx : L i = x at *
      have txx : (iI (x : Int)).toNatClampNeg = x := by rw [z_nat (by omega)]; omega
      have ox : ¬ (iI (x : Int) < 0 ∨ 1000 ≤ x) := by simp (disch := omega) only [z_lit, z_litl, z_neg, z_negl, z_add, z_sub, z_mul, z_addl, z_subl, z_mull, z_cc, z_cl, z_cr, z_cm, z_cml, z_cmr, z_lt, z_le, z_eq, z_ltl, z_lel, z_eql, z_nat, z_i2l, z_l2i, z_div, z_sh, Int.toNat_natCast, z_ts, z_tsl]; omega
      have oi : ¬ (iI (i : Int) < 0 ∨ 1000 ≤ i) := by simp (disch := omega) only [z_lit, z_litl, z_neg, z_negl, z_add, z_sub, z_mul, z_addl, z_subl, z_mull, z_cc, z_cl, z_cr, z_cm, z_cml, z_cmr, z_lt, z_le, z_eq, z_ltl, z_lel, z_eql, z_nat, z_i2l, z_l2i, z_div, z_sh, Int.toNat_natCast, z_ts, z_tsl]; omega
      have e40 : iI (x : Int) / (40 : Int32) = iI ((x / 40 : Nat) : Int) := (st_40 q2).1
      -- it is left, or it is not
      have lay : ∀ y : Int32, y = iI (if D x + E x = E st then (D x : Int) else -1) → WP X (d + 4) 27 (8, [some (.ref 45), some (.ref 1), some (.int (iI (E st : Int))), some (.int (iI (ce : Int))), some (.int (iI (i : Int) + (-1 : Int32))), none, none], [], Wd f fl (va_up g' 46 (upd (g' 46) x y)) gl hh v tx) P := by
        intro y hy
        have ep : iI (i : Int) + (-1 : Int32) = iI ((i : Int) - 1) := by rw [show (-1 : Int32) = iI (-1) from rfl, z_add]; congr 1
        rw [ep]
        refine ih (by omega) _ (fun a ha => (va_ne ha).trans (hg a ha)) (fun k hk => ?_) (fun k hk hk2 => ?_) fun z hz hz2 => ?_
        · rw [va_s, upd_ne fun e => by have := inj k (by omega) e; omega]
          exact h1 k (by omega)
        · rw [va_s]
          by_cases e : k = i
          · rw [e, hxx, upd_s]; exact hy
          · rw [upd_ne fun e2 => e (inj k hk2 e2)]
            exact h2 k (by omega) hk2
        · rw [va_s, upd_ne fun e => hz2 (by rw [e]; exact hDx)]
          exact h3 z hz hz2
      refine b_yco_forgetAstray_45_1_8 (d := d + 3) (h := ?_) ..
      rw [hli, ti, e47, txx, e46, z_eq (by omega) (by omega), e40, z_eq (by omega) (by omega)]
      refine ⟨fun c => by simp (disch := omega) only [z_lit, z_litl, z_neg, z_negl, z_add, z_sub, z_mul, z_addl, z_subl, z_mull, z_cc, z_cl, z_cr, z_cm, z_cml, z_cmr, z_lt, z_le, z_eq, z_ltl, z_lel, z_eql, z_nat, z_i2l, z_l2i, z_div, z_sh, Int.toNat_natCast, z_ts, z_tsl] at c; omega, fun _ => ⟨oi, ox, fun c => ?_, fun c => ⟨fun c2 => ⟨ox, lay _ ?_⟩, fun c2 => ⟨ox, ox, lay _ ?_⟩⟩⟩⟩
      · -- a sign must lead on
        have hlt : D x < E st := by omega
        have hlr : g' 49 (kk x) ≠ -1 := by rw [hg 49 (by decide)]; exact hl x q2 hlt
        -- what the array holds
        have hF : ∀ y, y < 1000 → ∃ F : Int, g' 46 y = iI F ∧ -1 ≤ F ∧ F ≤ 1000000 ∧ (y = x → F = D x) ∧ (D x < D y → F = if D y + E y = E st then (D y : Int) else -1) ∧ (F = -1 ∨ F = D y) := by
          intro y hy
          have := hDm y
          by_cases cy : D y ≤ E st
          · obtain ⟨k, k1, k2⟩ := a4 y hy (by rw [hlv, if_pos cy]; omega)
            by_cases e : k ≤ i
            · refine ⟨D y, by rw [← k2]; exact h1 k (by omega), by omega, by omega, fun e => by rw [e], fun hlt2 => ?_, Or.inr rfl⟩
              have o2 := ho k k1
              rw [k2] at o2
              have := bgD_mono (D := D) (e := D x + 1) (e' := D y) (by omega)
              omega
            · refine ⟨_, by rw [← k2]; exact h2 k (by omega) k1, by rw [k2]; split <;> omega, by rw [k2]; split <;> omega, fun e2 => ?_, fun _ => by rw [k2], by rw [k2]; split <;> simp⟩
              have := inj k k1 (by rw [k2, e2])
              omega
          · refine ⟨-1, (h3 y hy cy).trans rfl, by omega, by omega, fun e => absurd (by rw [e]; exact hDx) cy, fun _ => by rw [if_neg (by omega)], Or.inl rfl⟩
        have hFc : ∃ F : Nat → Int, ∀ y, y < 1000 → g' 46 y = iI (F y) ∧ -1 ≤ F y ∧ F y ≤ 1000000 ∧ (y = x → F y = D x) ∧ (D x < D y → F y = if D y + E y = E st then (D y : Int) else -1) ∧ (F y = -1 ∨ F y = D y) :=
          ⟨fun y => if hy : y < 1000 then Classical.choose (hF y hy) else 0, fun y hy => by
            have := Classical.choose_spec (hF y hy)
            simp only [dif_pos hy]
            exact this⟩
        obtain ⟨F, hF⟩ := hFc
        have hFx : F x = D x := (hF x q2).2.2.2.1 rfl
        have lead : ∀ j, j < κ 55 → (F (cN κ cs p (g' 49) x j) = F x + κ (31 + j) ↔ D x + κ (31 + j) + E (stB κ cs p x (κ (39 + j))) = E st) := by
          intro j hj
          have hlj := (hwS.2.1 j hj).1
          have hc : cN κ cs p (g' 49) x j = stB κ cs p x (κ (39 + j)) := if_neg hlr
          have hy : stB κ cs p x (κ (39 + j)) < 1000 := stB_lt q2
          rw [hc, hFx]
          have hle := hDE.lead (x := x) (j := j) (by omega) (by omega) hj
          have hle : (D (stB κ cs p x (κ (39 + j))) + E (stB κ cs p x (κ (39 + j))) = E st ∧ D (stB κ cs p x (κ (39 + j))) = D x + κ (31 + j)) ↔ D x + κ (31 + j) + E (stB κ cs p x (κ (39 + j))) = E st := hle
          rw [← hle]
          obtain ⟨-, -, -, -, s2, s3⟩ := hF _ hy
          refine ⟨fun e => ?_, fun ⟨e1, e2⟩ => ?_⟩
          · rcases s3 with s3 | s3
            · omega
            · have s4 := s2 (by omega)
              by_cases c3 : D (stB κ cs p x (κ (39 + j))) + E (stB κ cs p x (κ (39 + j))) = E st
              · exact ⟨c3, by omega⟩
              · rw [if_neg c3] at s4
                omega
          · rw [s2 (by omega), if_pos e1]
            omega
        have on := hDE.on (x := x) (by omega) hlt
        refine c_leads (d := d) (κ := κ) (cs := cs) (p := p) (F := F) hwS (by rw [hg 2 (by decide), hg 3 (by decide), hg 4 (by decide)]; exact hxS) q2 (fun y hy => ⟨(hF y hy).1, (hF y hy).2.1, (hF y hy).2.2.1⟩) (by rw [hg 49 (by decide)]; exact hb) fun r hr => ?_
        refine b_yco_forgetAstray_45_1_57 (h := ?_) ..
        rw [txx, e46]
        rcases hr with ⟨e, hno⟩ | ⟨j, e, hj, hyes, -⟩
        · subst e
          refine ⟨fun _ => ⟨ox, lay _ ?_⟩, fun c3 => absurd rfl c3⟩
          rw [if_neg fun e => ?_]
          · rfl
          · obtain ⟨j, hj, hc⟩ := on.mpr e
            exact hno j hj ((lead j hj).mpr hc)
        · subst e
          refine ⟨fun c3 => ?_, fun _ => ⟨ox, ox, lay _ ?_⟩⟩
          · have c3 : iI (j : Int) = iI (-1) := c3
            rw [z_eq (by omega) (by omega)] at c3
            omega
          · rw [if_pos (on.mp ⟨j, hj, (lead j hj).mp hyes⟩)]
      · have e2 := hDE.at_end (x := x) (by omega)
        rw [if_neg fun e => c2 (by have := e2.mp e; omega)]
        rfl
      · have e2 := hDE.at_end (x := x) (by omega)
        rw [if_pos (e2.mpr (by omega))]
  refine b_yco_forgetAstray_45_1_0 (h := ?_) ..
  have eM : f 2882 - (1 : Int32) = iI ((M : Int) - 1) := by rw [a1, show (1 : Int32) = iI 1 from rfl, z_sub]
  rw [eM]
  refine loop M (Nat.le_refl _) g (fun _ _ => rfl) (fun k hk => ?_) (fun k h1 h2 => by omega) fun x hx hc => ?_
  · have := a2 (L k) (a3 k hk).2.1
    rw [if_pos (a3 k hk).2.2, hlv, if_pos (hDL k hk)] at this
    exact this
  · have := a2 x hx
    rw [hlv, if_neg hc, if_neg (by decide)] at this
    exact this
def fl2 (ce : Nat) (D : Nat → Nat) (dd q : Nat) : Prop := q = 1 ∧ (∃ y, y < 1000 ∧ y / 40 = ce ∧ D y = dd) ∨ q = 0 ∧ ∀ y, y < 1000 → y / 40 = ce → dd < D y
def fl3 (ce : Nat) (A : Nat → Nat) (q : Nat) : Prop := q = 1 ∧ (∃ y, y < 1000 ∧ y / 40 = ce ∧ A y < 1000000) ∨ q = 0 ∧ ∀ y, y < 1000 → y / 40 = ce → ¬ A y < 1000000
theorem c_search {X : mm_X} {f : Nat → Int32} {fl : Nat → Int64} {g : Nat → Nat → Int32} {gl : Nat → Nat → Int64} {hh : Nat → Nat → Option Nat} {v : Nat → Value} {tx : mm_W} {P : Option Value → mm_W → Prop} {κ : Nat → Nat} {cs : List pC} {p st ce K : Nat} {D E : Nat → Nat} (hX : cpX v tx cs) (hwS : wS κ) (hwT : wT κ) (hxS : xS (f 64) (g 2) (g 3) (g 4) κ) (hp : p < 3) (w0 : g 41 0 = iI (p : Int)) (w6 : g 41 6 = iI (κ 22)) (w7 : g 41 7 = iI (κ 54)) (hst : st < 1000) (hce : ce < 25) (hDE : DE (plN κ cs p) (plL κ) (κ 55) st ce D E)
    (h1 : E st < 1000000 → E st ≤ 4000 → ∀ f' g' gl', fP f' f → gP g' g → onI D E (E st) g' → hbI κ cs p (g' 49) → (∀ x, x < 1000 → D x < E st → g' 49 (kk x) ≠ -1) → P (some (.int (iI (E st : Int)))) (Wd f' fl g' gl' hh v tx))
    (h0 : E st = 1000000 → ∀ f' g' gl', fP f' f → gP g' g → P (some (.int (-1))) (Wd f' fl g' gl' hh v tx)) :
    WP X (K + 6) 21 (0, [some (.ref 45), some (.ref 1), some (.ref 38), some (.int (iI (st : Int))), some (.int (iI (ce : Int))), none, none, none], [], Wd f fl g gl hh v tx) P := by
  have b55 := hwS.1
  have hDs := hDE.2.2.1
  have hDl := hDE.2.2.2.1
  have hDm := hDE.2.2.2.2.1
  have hDi := hDE.2.2.2.2.2.2.2.1
  have hgo := hDE.2.2.2.2.2.2.2.2.2.2.2.2
  have hjo := hDE.2.2.2.2.2.2.2.2.2.2.2.1
  have hez := hDE.2.2.2.2.2.2.2.2.1
  -- at the head of the loop: all at distances up to dd are there
  have head : ∀ u dd : Nat, ∀ (A : Nat → Nat) (M : Nat) (L : Nat → Nat) (q : Nat) (f' : Nat → Int32) (g' : Nat → Nat → Int32) (gl' : Nat → Nat → Int64), u + dd = 4000 → spI κ cs p D dd A M L f' g' → (∀ x, A x = if D x ≤ dd then D x else 1000000) → g' 41 0 = iI (p : Int) → g' 41 6 = iI (κ 22) → g' 41 7 = iI (κ 54) → fP f' f → gP g' g → (∀ e, e ≤ dd → e ≤ 4 * bgD D e) → (∀ y, y < 1000 → y / 40 = ce → dd ≤ D y) → fl2 ce D dd q →
      WP X (K + 6) 21 (49, [some (.ref 45), some (.ref 1), some (.ref 38), none, some (.int (iI (ce : Int))), some (.int (iI (q : Int))), some (.int (iI (dd : Int))), none], [], Wd f' fl g' gl' hh v tx) P := by
    intro u
    induction u with
    | zero =>
      intro dd A M L q f' g' gl' hu hI hlv v0 v6 v7 hf hg hgr hgl hq
      have hu : dd = 4000 := by omega
      -- all are there by now
      have all := hgr 4000 (by omega)
      have : D (40 * ce) < 4000 := of_decide_eq_true (cnt_full (p := fun x => decide (D x < 4000)) 1000 (by unfold bgD at all; omega) (40 * ce) (by omega))
      have := hgl (40 * ce) (by omega) (by omega)
      omega
    | succ u ihu =>
      intro dd A M L q f' g' gl' hu hI hlv v0 v6 v7 hf hg hgr hgl hq
      have hM := hI.M (by omega)
      have le3 : bgD D (dd - 3) ≤ 1000 := bgD_le
      have q0 : (iI (q : Int) = (0 : Int32)) = (q = 0) := by
        have : q ≤ 1 := by rcases hq with ⟨e, -⟩ | ⟨e, -⟩ <;> omega
        rw [show (0 : Int32) = iI 0 from rfl, z_eq (by omega) (by omega)]
        exact propext ⟨fun a => by omega, fun a => by omega⟩
      have em : (if 0 < iI (dd : Int) - (3 : Int32) then iI (dd : Int) - (3 : Int32) else 0) = iI ((dd - 3 : Nat) : Int) := by
        rw [show (3 : Int32) = iI 3 from rfl, z_sub, show (0 : Int32) = iI 0 from rfl]
        by_cases c : 3 < dd
        · rw [if_pos (by rw [z_lt (by omega) (by omega)]; omega)]
          congr 1; omega
        · rw [if_neg (by rw [z_lt (by omega) (by omega)]; omega)]
          congr 1; omega
      have t3 : (iI (((dd - 3) % 8 : Nat) : Int)).toNatClampNeg = (dd - 3) % 8 := by rw [z_nat (by omega)]; omega
      have t0 : (iI ((dd % 8 : Nat) : Int)).toNatClampNeg = dd % 8 := by rw [z_nat (by omega)]; omega
      have e3 := hI.2.2.2.2.2.2 (dd - 3) (by omega) (by omega)
      have e0 := hI.2.2.2.2.2.2 dd (by omega) (by omega)
      have eM := hI.2.2.1.1
      refine b_yco_search_45_1_38_49 (d := K + 5) (h := ?_) ..
      rw [q0, em, m8 (by omega), m8 (by omega), t3, t0, e3, e0, eM]
      -- nothing more to look for
      have no : q = 0 → M ≤ bgD D (dd - 3) → P (some (.int (-1))) (Wd f' fl g' gl' hh v tx) := by
        intro hq0 hle
        have hg2 : ∀ y, y < 1000 → y / 40 = ce → dd < D y := by
          rcases hq with ⟨e, -⟩ | ⟨-, e⟩
          · omega
          · exact e
        -- bgD (dd + 1) ≤ M
        have hMd : bgD D (dd + 1) ≤ M := by
          rw [hI.2.2.1.2.2.2.2.1]
          refine cnt_mono 1000 fun x _ hx => decide_eq_true ?_
          have hx := of_decide_eq_true hx
          rw [hlv, if_pos (by omega)]
          omega
        exact h0 (hDE.none hg2 (by omega)) f' g' gl' hf hg
      -- found
      have yes : q ≠ 0 → WP X (K + 5) 27 (0, [some (.ref 45), some (.ref 1), some (.int (iI (dd : Int))), some (.int (iI (ce : Int))), none, none, none], [], Wd f' fl g' gl' hh v tx) (fun rv w2 => WP X (K + 6) 21 (207, [some (.ref 45), some (.ref 1), none, none, some (.int (iI (ce : Int))), none, some (.int (iI (dd : Int))), none], rv.toList ++ [], w2) P) := by
        intro hq1
        obtain ⟨y, y1, y2, y3⟩ : ∃ y, y < 1000 ∧ y / 40 = ce ∧ D y = dd := by
          rcases hq with ⟨-, e⟩ | ⟨e, -⟩
          · exact e
          · omega
        have hEy : E y = 0 := (hez y).mpr y2
        have l1 := hjo y (by omega) (by omega)
        have hT : E st = dd := by
          obtain ⟨z, z1, z2⟩ := hgo (by omega)
          have := hgl z (hDl z (by omega)) z1
          omega
        subst hT
        refine c_forget (d := K + 1) (A := A) (M := M) (L := L) hwS hDE hce (by omega) hI hlv fun g2 hg2 hon => ?_
        refine b_yco_search_45_1_38_207 (h := ?_) ..
        refine h1 (by omega) (by omega) f' g2 gl' hf (fun a b1 b2 => (hg2 a (by omega)).trans (hg a b1 b2)) hon (by rw [hg2 49 (by decide)]; exact hI.2.1) fun x hx hlt => by rw [hg2 49 (by decide)]; exact hI.2.2.2.2.2.1 x hx hlt
      refine ⟨fun c => ⟨fun _ => yes c, fun c2 => absurd c2 c⟩, fun c => ⟨fun c2 => by simp (disch := omega) only [z_lit, z_litl, z_neg, z_negl, z_add, z_sub, z_mul, z_addl, z_subl, z_mull, z_cc, z_cl, z_cr, z_cm, z_cml, z_cmr, z_lt, z_le, z_eq, z_ltl, z_lel, z_eql, z_nat, z_i2l, z_l2i, z_div, z_sh, Int.toNat_natCast, z_ts, z_tsl] at c2; omega, fun _ => ⟨by simp (disch := omega) only [z_lit, z_litl, z_neg, z_negl, z_add, z_sub, z_mul, z_addl, z_subl, z_mull, z_cc, z_cl, z_cr, z_cm, z_cml, z_cmr, z_lt, z_le, z_eq, z_ltl, z_lel, z_eql, z_nat, z_i2l, z_l2i, z_div, z_sh, Int.toNat_natCast, z_ts, z_tsl]; omega, fun c2 => ⟨fun c3 => absurd c c3, fun _ => no c (by simp (disch := omega) only [z_lit, z_litl, z_neg, z_negl, z_add, z_sub, z_mul, z_addl, z_subl, z_mull, z_cc, z_cl, z_cr, z_cm, z_cml, z_cmr, z_lt, z_le, z_eq, z_ltl, z_lel, z_eql, z_nat, z_i2l, z_l2i, z_div, z_sh, Int.toNat_natCast, z_ts, z_tsl] at c2; omega)⟩, fun c2 => ⟨by simp (disch := omega) only [z_lit, z_litl, z_neg, z_negl, z_add, z_sub, z_mul, z_addl, z_subl, z_mull, z_cc, z_cl, z_cr, z_cm, z_cml, z_cmr, z_lt, z_le, z_eq, z_ltl, z_lel, z_eql, z_nat, z_i2l, z_l2i, z_div, z_sh, Int.toNat_natCast, z_ts, z_tsl]; omega, ?_⟩⟩⟩⟩
      have c2 : bgD D (dd - 3) < M := by simp (disch := omega) only [z_lit, z_litl, z_neg, z_negl, z_add, z_sub, z_mul, z_addl, z_subl, z_mull, z_cc, z_cl, z_cr, z_cm, z_cml, z_cmr, z_lt, z_le, z_eq, z_ltl, z_lel, z_eql, z_nat, z_i2l, z_l2i, z_div, z_sh, Int.toNat_natCast, z_ts, z_tsl] at c2; omega
      have hg2 : ∀ y, y < 1000 → y / 40 = ce → dd < D y := by
        rcases hq with ⟨e, -⟩ | ⟨-, e⟩
        · omega
        · exact e
      subst c
      have hMd : M = bgD D (dd + 1) := by
        have : bgD D (dd + 1) ≤ M := by
          rw [hI.2.2.1.2.2.2.2.1]
          refine cnt_mono 1000 fun x _ hx => decide_eq_true ?_
          have hx := of_decide_eq_true hx
          rw [hlv, if_pos (by omega)]
          omega
        omega
      -- signs of the next sizes, once all habits are known
      have sizes : ∀ w sz : Nat, ∀ (A1 : Nat → Nat) (M1 : Nat) (L1 : Nat → Nat) (q1 : Nat) (f1 : Nat → Int32) (g1 : Nat → Nat → Int32) (gl1 : Nat → Nat → Int64), w + sz = min 4 (dd + 1) + 1 → 1 ≤ sz → spI κ cs p D (dd + 1) A1 M1 L1 f1 g1 → g1 41 0 = iI (p : Int) → g1 41 6 = iI (κ 22) → g1 41 7 = iI (κ 54) → fP f1 f → gP g1 g → (∀ j, j < κ 55 → κ (31 + j) < sz → ∀ x, x < 1000 → D x + κ (31 + j) = dd + 1 → A1 (stB κ cs p x (κ (39 + j))) < 1000000) → fl3 ce A1 q1 →
          WP X (K + 6) 21 (145, [some (.ref 45), some (.ref 1), some (.ref 38), none, some (.int (iI (ce : Int))), some (.int (iI (q1 : Int))), some (.int (iI ((dd + 1 : Nat) : Int))), some (.int (iI (sz : Int)))], [], Wd f1 fl g1 gl1 hh v tx) P := by
        intro w
        induction w with
        | zero =>
          intro sz A1 M1 L1 q1 f1 g1 gl1 hw hsz hI1 v0 v6 v7 hf1 hg1 hc1 hq1
          have e4 : (if (4 : Int32) < iI ((dd + 1 : Nat) : Int) then (4 : Int32) else iI ((dd + 1 : Nat) : Int)) = iI ((min 4 (dd + 1) : Nat) : Int) := by
            rw [show (4 : Int32) = iI 4 from rfl]
            by_cases c : 4 < dd + 1
            · rw [if_pos (by rw [z_lt (by omega) (by omega)]; omega)]
              congr 1; omega
            · rw [if_neg (by rw [z_lt (by omega) (by omega)]; omega)]
              congr 1; omega
          refine b_yco_search_45_1_38_145 (d := K + 5) (h := ?_) ..
          rw [e4]
          refine ⟨fun _ => ?_, fun c => by simp (disch := omega) only [z_lit, z_litl, z_neg, z_negl, z_add, z_sub, z_mul, z_addl, z_subl, z_mull, z_cc, z_cl, z_cr, z_cm, z_cml, z_cmr, z_lt, z_le, z_eq, z_ltl, z_lel, z_eql, z_nat, z_i2l, z_l2i, z_div, z_sh, Int.toNat_natCast, z_ts, z_tsl] at c; omega⟩
          -- all at this distance were found
          have hlv1 : ∀ x, A1 x = if D x ≤ dd + 1 then D x else 1000000 := by
            intro x
            have hx := hI1.2.2.2.2.1 x
            by_cases c : D x ≤ dd + 1
            · rw [if_pos c]
              rcases hx with ⟨a, -⟩ | ⟨a, b⟩
              · exact a
              · have hDx : D x = dd + 1 := by omega
                obtain ⟨y, j, hj, hy, hyD⟩ := hDi x (by omega) (by omega)
                have hyD : D y + κ (31 + j) = D x := hyD
                have hy : stB κ cs p y (κ (39 + j)) = x := hy
                have hl := hwS.2.1 j hj
                have := hc1 j hj (by omega) y (hDl y (by omega)) (by omega)
                rw [hy] at this
                omega
            · rw [if_neg c]
              rcases hx with ⟨a, b⟩ | ⟨a, b⟩
              · omega
              · exact a
          refine ihu (dd + 1) A1 M1 L1 q1 f1 g1 gl1 (by omega) hI1 hlv1 v0 v6 v7 hf1 hg1 (fun e he => ?_) (fun y y1 y2 => hg2 y y1 y2) ?_
          · by_cases c : e ≤ dd
            · exact hgr e c
            · have e1 : e = dd + 1 := by omega
              subst e1
              rw [← hMd]
              by_cases c3 : dd ≤ 3
              · omega
              · have := hgr (dd - 3) (by omega)
                omega
          · rcases hq1 with ⟨e, y, y1, y2, y3⟩ | ⟨e, hn⟩
            · refine Or.inl ⟨e, y, y1, y2, ?_⟩
              rw [hlv1] at y3
              have := hg2 y y1 y2
              by_cases c : D y ≤ dd + 1
              · omega
              · rw [if_neg c] at y3; omega
            · refine Or.inr ⟨e, fun y y1 y2 => ?_⟩
              have := hn y y1 y2
              rw [hlv1] at this
              by_cases c : D y ≤ dd + 1
              · rw [if_pos c] at this; omega
              · omega
        | succ w ihw =>
          intro sz A1 M1 L1 q1 f1 g1 gl1 hw hsz hI1 v0 v6 v7 hf1 hg1 hc1 hq1
          have e4 : (if (4 : Int32) < iI ((dd + 1 : Nat) : Int) then (4 : Int32) else iI ((dd + 1 : Nat) : Int)) = iI ((min 4 (dd + 1) : Nat) : Int) := by
            rw [show (4 : Int32) = iI 4 from rfl]
            by_cases c : 4 < dd + 1
            · rw [if_pos (by rw [z_lt (by omega) (by omega)]; omega)]
              congr 1; omega
            · rw [if_neg (by rw [z_lt (by omega) (by omega)]; omega)]
              congr 1; omega
          refine b_yco_search_45_1_38_145 (d := K + 5) (h := ?_) ..
          rw [e4]
          refine ⟨fun c => by simp (disch := omega) only [z_lit, z_litl, z_neg, z_negl, z_add, z_sub, z_mul, z_addl, z_subl, z_mull, z_cc, z_cl, z_cr, z_cm, z_cml, z_cmr, z_lt, z_le, z_eq, z_ltl, z_lel, z_eql, z_nat, z_i2l, z_l2i, z_div, z_sh, Int.toNat_natCast, z_ts, z_tsl] at c; omega, fun _ => ?_⟩
          refine c_spread (d := K + 1) (κ := κ) (cs := cs) (p := p) (st := st) (ce := ce) (E := E) hwS hDE hce (by omega) ⟨hsz, by omega, by omega⟩ hI1 fun A2 M2 L2 r f2 g2 hI2 hf2 hg2' hA2 hc2 hr => ?_
          have q10 : (iI (q1 : Int) = (0 : Int32)) = (q1 = 0) := by
            have : q1 ≤ 1 := by rcases hq1 with ⟨e, -⟩ | ⟨e, -⟩ <;> omega
            rw [show (0 : Int32) = iI 0 from rfl, z_eq (by omega) (by omega)]
            exact propext ⟨fun a => by omega, fun a => by omega⟩
          refine b_yco_search_45_1_38_167 (h := ?_) ..
          rw [q10, i1N]
          have nx : ∀ q2 : Nat, fl3 ce A2 q2 → WP X (K + 6) 21 (145, [some (.ref 45), some (.ref 1), some (.ref 38), none, some (.int (iI (ce : Int))), some (.int (iI (q2 : Int))), some (.int (iI ((dd + 1 : Nat) : Int))), some (.int (iI ((sz + 1 : Nat) : Int)))], [], Wd f2 fl g2 gl1 hh v tx) P := by
            intro q2 hq2
            refine ihw (sz + 1) A2 M2 L2 q2 f2 g2 gl1 (by omega) (by omega) hI2 ?_ ?_ ?_ (fun a b1 b2 => (hf2 a b2).trans (hf1 a b1 b2)) (fun a b1 b2 => (hg2' a (by omega) (by omega)).trans (hg1 a b1 b2)) (fun j hj hlt x hx hD => ?_) hq2
            · rw [hg2' 41 (by decide) (by decide)]; exact v0
            · rw [hg2' 41 (by decide) (by decide)]; exact v6
            · rw [hg2' 41 (by decide) (by decide)]; exact v7
            · by_cases e : κ (31 + j) = sz
              · exact hc2 j hj e x hx (by omega)
              · exact hA2 _ (hc1 j hj (by omega) x hx hD)
          rcases hr with ⟨e, hy⟩ | ⟨e, hn⟩
          · subst e
            exact ⟨fun _ => nx 1 (Or.inl ⟨rfl, hy⟩), fun c => absurd c (by decide)⟩
          · subst e
            refine ⟨fun c => absurd rfl c, fun _ => ⟨fun c => nx 0 (Or.inr ⟨rfl, fun y y1 y2 y3 => ?_⟩), fun c => nx 1 (Or.inl ⟨rfl, ?_⟩)⟩⟩
            · rcases hq1 with ⟨e, -⟩ | ⟨-, e⟩
              · omega
              · exact e y y1 y2 (hn y y1 y2 y3)
            · rcases hq1 with ⟨-, y, y1, y2, y3⟩ | ⟨e, -⟩
              · exact ⟨y, y1, y2, hA2 y y3⟩
              · exact absurd e c
      -- habits
      have learn : ∀ w i : Nat, ∀ (f1 : Nat → Int32) (g1 : Nat → Nat → Int32) (gl1 : Nat → Nat → Int64), w + i = M → bgD D dd ≤ i → spI κ cs p D dd A M L f1 g1 → g1 41 0 = iI (p : Int) → g1 41 6 = iI (κ 22) → g1 41 7 = iI (κ 54) → fP f1 f → gP g1 g → (∀ k, bgD D dd ≤ k → k < i → g1 49 (kk (L k)) ≠ -1) →
          WP X (K + 6) 21 (97, [some (.ref 45), some (.ref 1), some (.ref 38), none, some (.int (iI (ce : Int))), some (.int (iI ((0 : Nat) : Int))), some (.int (iI (dd : Int))), some (.int (iI (i : Int)))], [], Wd f1 fl g1 gl1 hh v tx) P := by
        intro w
        induction w with
        | zero =>
          intro i f1 g1 gl1 hw hi hI1 v0 v6 v7 hf1 hg1 hlr
          have hw : i = M := by omega
          subst hw
          have t1 : (iI (((dd + 1) % 8 : Nat) : Int)).toNatClampNeg = (dd + 1) % 8 := by rw [z_nat (by omega)]; omega
          refine b_yco_search_45_1_38_97 (d := K + 5) (h := ?_) ..
          rw [hI1.2.2.1.1, i1N, m8 (by omega), t1]
          refine ⟨fun _ => ⟨by simp (disch := omega) only [z_lit, z_litl, z_neg, z_negl, z_add, z_sub, z_mul, z_addl, z_subl, z_mull, z_cc, z_cl, z_cr, z_cm, z_cml, z_cmr, z_lt, z_le, z_eq, z_ltl, z_lel, z_eql, z_nat, z_i2l, z_l2i, z_div, z_sh, Int.toNat_natCast, z_ts, z_tsl]; omega, ?_⟩, fun c => absurd (Int32.le_refl _) c⟩
          obtain ⟨hxS1, hb1, hA1, ho1, hv1, hl1, hw1⟩ := hI1
          refine sizes (min 4 (dd + 1)) 1 A i L 0 f1 _ gl1 rfl (by decide) ⟨hxS1, hb1, hA1, ho1, fun x => ?_, fun x hx hlt => ?_, fun e he he2 => ?_⟩ v0 v6 v7 hf1 (fun a b1 b2 => (va_ne (by omega)).trans (hg1 a b1 b2)) (fun j hj hlt => ?_) (Or.inr ⟨rfl, fun y y1 y2 y3 => ?_⟩)
          · rw [hlv]
            by_cases c : D x ≤ dd
            · rw [if_pos c]; exact Or.inl ⟨rfl, by omega⟩
            · rw [if_neg c]; exact Or.inr ⟨rfl, by omega⟩
          · show g1 49 (kk x) ≠ -1
            by_cases c : D x < dd
            · exact hl1 x hx c
            · have hDx : D x = dd := by omega
              obtain ⟨k, k1, k2⟩ := hA1.2.2.2.1 x hx (by rw [hlv, if_pos (by omega)]; omega)
              have := (ord_at (c := dd) (ho1 k k1)).mpr (by rw [k2, hDx])
              rw [← k2]
              exact hlr k this.1 k1
          · show upd (g1 48) ((dd + 1) % 8) (iI (i : Int)) (e % 8) = iI (bgD D e : Nat)
            by_cases c : e = dd + 1
            · rw [c, upd_s, ← hMd]
            · rw [upd_ne (by omega)]
              exact hw1 e (by omega) (by omega)
          · have := (hwS.2.1 j hj).1
            omega
          · rw [hlv] at y3
            have := hg2 y y1 y2
            rw [if_neg (by omega)] at y3
            omega
        | succ w ihw =>
          intro i f1 g1 gl1 hw hi hI1 v0 v6 v7 hf1 hg1 hlr
          have hiM : i < M := by omega
          have ti : (iI (i : Int)).toNatClampNeg = i := by rw [z_nat (by omega)]; omega
          obtain ⟨z1, z2, z3⟩ := hI1.2.2.1.2.2.1 i hiM
          refine b_yco_search_45_1_38_97 (d := K + 5) (h := ?_) ..
          rw [hI1.2.2.1.1, ti, z1]
          refine ⟨fun c => by simp (disch := omega) only [z_lit, z_litl, z_neg, z_negl, z_add, z_sub, z_mul, z_addl, z_subl, z_mull, z_cc, z_cl, z_cr, z_cm, z_cml, z_cmr, z_lt, z_le, z_eq, z_ltl, z_lel, z_eql, z_nat, z_i2l, z_l2i, z_div, z_sh, Int.toNat_natCast, z_ts, z_tsl] at c; omega, fun _ => ⟨by simp (disch := omega) only [z_lit, z_litl, z_neg, z_negl, z_add, z_sub, z_mul, z_addl, z_subl, z_mull, z_cc, z_cl, z_cr, z_cm, z_cml, z_cmr, z_lt, z_le, z_eq, z_ltl, z_lel, z_eql, z_nat, z_i2l, z_l2i, z_div, z_sh, Int.toNat_natCast, z_ts, z_tsl]; omega, ?_⟩⟩
          refine c_learn (d := K) (κ := κ) (cs := cs) (p := p) hX hwS hwT hI1.1 hp v0 v6 v7 z2 (fun c => ?_) fun c u a st2 hu a0 a6 a7 => ?_
          · refine b_yco_search_45_1_38_119 (h := ?_) ..
            rw [i1N]
            refine ihw (i + 1) f1 g1 gl1 (by omega) (by omega) hI1 v0 v6 v7 hf1 hg1 fun k k1 k2 => ?_
            by_cases e : k = i
            · rw [e]; exact c
            · exact hlr k k1 (by omega)
          · refine b_yco_search_45_1_38_119 (h := ?_) ..
            rw [i1N]
            have nn : ∀ u : Nat, u < 320 → iI (u : Int) ≠ -1 := fun u hu c => by
              have c : iI (u : Int) = iI (-1) := c
              rw [z_eq (by omega) (by omega)] at c
              omega
            have keep : ∀ k, g1 49 k ≠ -1 → upd (g1 49) (kk (L i)) (iI (u : Int)) k ≠ -1 := fun k hk => by
              by_cases e : k = kk (L i)
              · rw [e, upd_s]; exact nn u hu.1
              · rw [upd_ne e]; exact hk
            obtain ⟨hxS1, hb1, hA1, ho1, hv1, hl1, hw1⟩ := hI1
            refine ihw (i + 1) _ _ _ (by omega) (by omega) ⟨hxS1, fun k hk => ?_, hA1, ho1, hv1, fun x hx hlt => keep _ (hl1 x hx hlt), hw1⟩ a0 a6 a7 (fun b b1 b2 => (va_ne b1).trans (hf1 b b1 b2)) (fun b b1 b2 => ((va_ne (by omega)).trans (va_ne b1)).trans (hg1 b b1 b2)) fun k k1 k2 => ?_
            · show upd (g1 49) (kk (L i)) (iI (u : Int)) k = -1 ∨ ∃ u' : Nat, upd (g1 49) (kk (L i)) (iI (u : Int)) k = iI (u' : Int) ∧ hbK κ cs p k u'
              by_cases e : k = kk (L i)
              · rw [e, upd_s]; exact Or.inr ⟨u, rfl, hu⟩
              · rw [upd_ne e]; exact hb1 k hk
            · show upd (g1 49) (kk (L i)) (iI (u : Int)) (kk (L k)) ≠ -1
              by_cases e : k = i
              · rw [e, upd_s]; exact nn u hu.1
              · exact keep _ (hlr k k1 (by omega))
      exact learn (M - bgD D dd) (bgD D dd) f' g' gl' (by omega) (Nat.le_refl _) hI v0 v6 v7 hf hg fun k k1 k2 => by omega
  -- the beginning
  have fill46 : ∀ i, i ≤ 1000 → ∀ a : Nat → Int32, (∀ x, x < i → a x = -1) → WP X (K + 5) 258 (5, [some (.ref 46), some (.int (-1)), some (.int (iI (i : Int))), some (.int 1000)], [], Wd f fl (va_up g 46 a) gl hh v tx) (fun rv w2 => WP X (K + 6) 21 (8, [some (.ref 45), some (.ref 1), some (.ref 38), some (.int (iI (st : Int))), some (.int (iI (ce : Int))), none, none, none], rv.toList ++ [], w2) P) := by
    refine k_up (Q := fun i => ∀ a : Nat → Int32, (∀ x, x < i → a x = -1) → WP X (K + 5) 258 (5, [some (.ref 46), some (.int (-1)), some (.int (iI (i : Int))), some (.int 1000)], [], Wd f fl (va_up g 46 a) gl hh v tx) (fun rv w2 => WP X (K + 6) 21 (8, [some (.ref 45), some (.ref 1), some (.ref 38), some (.int (iI (st : Int))), some (.int (iI (ce : Int))), none, none, none], rv.toList ++ [], w2) P)) (fun a ha => ?_) fun i hi ih a ha => ?_
    · refine b_j_fill46_5 (h := ⟨fun _ => ?_, fun c => absurd (by decide) c⟩) ..
      refine b_yco_search_45_1_38_8 (d := K + 5) (h := ?_) ..
      have fill49 : ∀ i, i ≤ 250 → ∀ b : Nat → Int32, (∀ x, x < i → b x = -1) → WP X (K + 5) 258 (5, [some (.ref 49), some (.int (-1)), some (.int (iI (i : Int))), some (.int 250)], [], Wd f fl (va_up (va_up g 46 a) 49 b) gl hh v tx) (fun rv w2 => WP X (K + 6) 21 (16, [some (.ref 45), some (.ref 1), some (.ref 38), some (.int (iI (st : Int))), some (.int (iI (ce : Int))), none, none, none], rv.toList ++ [], w2) P) := by
        refine k_up (Q := fun i => ∀ b : Nat → Int32, (∀ x, x < i → b x = -1) → WP X (K + 5) 258 (5, [some (.ref 49), some (.int (-1)), some (.int (iI (i : Int))), some (.int 250)], [], Wd f fl (va_up (va_up g 46 a) 49 b) gl hh v tx) (fun rv w2 => WP X (K + 6) 21 (16, [some (.ref 45), some (.ref 1), some (.ref 38), some (.int (iI (st : Int))), some (.int (iI (ce : Int))), none, none, none], rv.toList ++ [], w2) P)) (fun b hb => ?_) fun i hi ih b hb => ?_
        · refine b_j_fill49_5 (h := ⟨fun _ => ?_, fun c => absurd (by decide) c⟩) ..
          have ts : (iI (st : Int)).toNatClampNeg = st := by rw [z_nat (by omega)]; omega
          have e40 : iI (st : Int) / (40 : Int32) = iI ((st / 40 : Nat) : Int) := (st_40 hst).1
          have e46 : va_up (va_up g 46 a) 49 b 46 st = -1 := ha st hst
          -- one spot is there
          have hI0 : spI κ cs p D 0 (fun _ => 1000000) 0 (fun _ => 0) (va_up f 2882 0) (va_up (va_up (va_up g 46 a) 49 b) 48 (upd (va_up (va_up g 46 a) 49 b 48) 0 0)) := ⟨hxS, fun k hk => Or.inl (hb k hk), ⟨rfl, fun x hx => ha x hx, fun i hi => absurd hi (Nat.not_lt_zero i), fun x hx hlt => absurd hlt (Nat.lt_irrefl 1000000), ((cnt_eq 1000 fun _ _ => decide_eq_false (Nat.lt_irrefl 1000000)).trans (cnt_F 1000)).symm, fun i i' hi => absurd hi (Nat.not_lt_zero i)⟩, fun i hi => absurd hi (Nat.not_lt_zero i), fun x => Or.inr ⟨rfl, Nat.zero_le _⟩, fun x hx hlt => absurd hlt (Nat.not_lt_zero _), fun e he _ => by
            have : e = 0 := by omega
            subst this
            rw [bgD_0]
            rfl⟩
          have hI1 := (hI0.add (y := st) (by decide) hst (by decide) (by rw [(hDs st).mpr rfl]; exact Nat.le_refl _)).2
          have hlv : ∀ x, (if x = st then 0 else 1000000) = if D x ≤ 0 then D x else 1000000 := fun x => by
            by_cases e : x = st
            · rw [if_pos e, e, (hDs st).mpr rfl]; rfl
            · rw [if_neg e, if_neg fun c => e ((hDs x).mp (by omega))]
          have go : ∀ q : Nat, fl2 ce D 0 q → _ := fun q hq => head 4000 0 _ _ _ q _ _ gl rfl hI1 hlv w0 w6 w7 (fun a b1 b2 => (va_ne b2).trans (va_ne b2)) (fun a b1 b2 => by rw [va_ne (by omega), va_ne (by omega), va_ne (by omega), va_ne (by omega), va_ne (by omega)]) (fun e he => by omega) (fun _ _ _ => Nat.zero_le _) hq
          have ew : va_up (va_up f 2882 0) 2882 (va_up f 2882 0 2882 + (1 : Int32)) = va_up f 2882 (0 + (1 : Int32)) := by rw [va_s, va_tw]
          rw [ew] at go
          refine b_yco_search_45_1_38_16 (d := K + 4) (h := ?_) ..
          rw [ts, e46, e40, z_eq (by omega) (by omega)]
          refine ⟨by simp (disch := omega) only [z_lit, z_litl, z_neg, z_negl, z_add, z_sub, z_mul, z_addl, z_subl, z_mull, z_cc, z_cl, z_cr, z_cm, z_cml, z_cmr, z_lt, z_le, z_eq, z_ltl, z_lel, z_eql, z_nat, z_i2l, z_l2i, z_div, z_sh, Int.toNat_natCast, z_ts, z_tsl]; omega, fun c => absurd rfl c, fun _ => ⟨by simp (disch := omega) only [z_lit, z_litl, z_neg, z_negl, z_add, z_sub, z_mul, z_addl, z_subl, z_mull, z_cc, z_cl, z_cr, z_cm, z_cml, z_cmr, z_lt, z_le, z_eq, z_ltl, z_lel, z_eql, z_nat, z_i2l, z_l2i, z_div, z_sh, Int.toNat_natCast, z_ts, z_tsl]; omega, by decide, fun c => go 0 (Or.inr ⟨rfl, fun y y1 y2 => ?_⟩), fun c => go 1 (Or.inl ⟨rfl, st, hst, by omega, (hDs st).mpr rfl⟩)⟩⟩
          by_cases c0 : D y = 0
          · rw [(hDs y).mp c0] at y2
            omega
          · omega
        · have ti : (iI (i : Int)).toNatClampNeg = i := by rw [z_nat (by omega)]; omega
          refine b_j_fill49_5 (h := ?_) ..
          rw [ti, va_tw, va_s, i1N]
          refine ⟨fun c => by simp (disch := omega) only [z_lit, z_litl, z_neg, z_negl, z_add, z_sub, z_mul, z_addl, z_subl, z_mull, z_cc, z_cl, z_cr, z_cm, z_cml, z_cmr, z_lt, z_le, z_eq, z_ltl, z_lel, z_eql, z_nat, z_i2l, z_l2i, z_div, z_sh, Int.toNat_natCast, z_ts, z_tsl] at c; omega, fun _ => ⟨by simp (disch := omega) only [z_lit, z_litl, z_neg, z_negl, z_add, z_sub, z_mul, z_addl, z_subl, z_mull, z_cc, z_cl, z_cr, z_cm, z_cml, z_cmr, z_lt, z_le, z_eq, z_ltl, z_lel, z_eql, z_nat, z_i2l, z_l2i, z_div, z_sh, Int.toNat_natCast, z_ts, z_tsl]; omega, ih _ fun x hx => ?_⟩⟩
          by_cases e : x = i
          · rw [e, upd_s]
          · rw [upd_ne e]; exact hb x (by omega)
      refine b_j_fill49_0 (h := ?_) ..
      have := fill49 0 (by omega) (va_up g 46 a 49) fun x hx => absurd hx (Nat.not_lt_zero x)
      rw [va_id (f := va_up g 46 a) rfl] at this
      exact this
    · have ti : (iI (i : Int)).toNatClampNeg = i := by rw [z_nat (by omega)]; omega
      refine b_j_fill46_5 (h := ?_) ..
      rw [ti, va_tw, va_s, i1N]
      refine ⟨fun c => by simp (disch := omega) only [z_lit, z_litl, z_neg, z_negl, z_add, z_sub, z_mul, z_addl, z_subl, z_mull, z_cc, z_cl, z_cr, z_cm, z_cml, z_cmr, z_lt, z_le, z_eq, z_ltl, z_lel, z_eql, z_nat, z_i2l, z_l2i, z_div, z_sh, Int.toNat_natCast, z_ts, z_tsl] at c; omega, fun _ => ⟨by simp (disch := omega) only [z_lit, z_litl, z_neg, z_negl, z_add, z_sub, z_mul, z_addl, z_subl, z_mull, z_cc, z_cl, z_cr, z_cm, z_cml, z_cmr, z_lt, z_le, z_eq, z_ltl, z_lel, z_eql, z_nat, z_i2l, z_l2i, z_div, z_sh, Int.toNat_natCast, z_ts, z_tsl]; omega, ih _ fun x hx => ?_⟩⟩
      by_cases e : x = i
      · rw [e, upd_s]
      · rw [upd_ne e]; exact ha x (by omega)
  refine b_yco_search_45_1_38_0 (d := K + 5) (h := ?_) ..
  refine b_j_fill46_0 (h := ?_) ..
  have := fill46 0 (by omega) (g 46) fun x hx => absurd hx (Nat.not_lt_zero x)
  rw [va_id (f := g) rfl] at this
  exact this
/-- the i-th sign of the way -/
theorem c_signAt {X : mm_X} {d : Nat} {f : Nat → Int32} {fl : Nat → Int64} {g : Nat → Nat → Int32} {gl : Nat → Nat → Int64} {hh : Nat → Nat → Option Nat} {v : Nat → Value} {tx : mm_W} {P : Option Value → mm_W → Prop} {κ : Nat → Nat} {cs : List pC} {p st ce : Nat} {i : Nat} {D E : Nat → Nat} (hwS : wS κ) (hxS : xS (f 64) (g 2) (g 3) (g 4) κ) (hDE : DE (plN κ cs p) (plL κ) (κ 55) st ce D E) (hT : E st ≤ 4000) (hst : st < 1000) (hi : i < 2147483648) (hon : onI D E (E st) g) (hb : hbI κ cs p (g 49)) (hlr : ∀ x, x < 1000 → D x < E st → g 49 (kk x) ≠ -1)
    (h : ∀ r, pthR (plN κ cs p) (plL κ) (κ 55) E i st r → P (some (.int (iI r))) (Wd f fl g gl hh v tx)) :
    WP X (d + 4) 22 (0, [some (.ref 45), some (.ref 1), some (.int (iI (st : Int))), some (.int (iI (i : Int))), none, none, none], [], Wd f fl g gl hh v tx) P := by
  have b55 := hwS.1
  have hDm := hDE.2.2.2.2.1
  have hDs := hDE.2.2.1
  -- the sign that leads on from a spot on the way
  have lead : ∀ x, x < 1000 → D x + E x = E st → ∀ Q : Option Value → mm_W → Prop, (∀ r : Int, (E x = 0 ∧ r = -1 ∨ E x ≠ 0 ∧ ∃ j : Nat, isLd (plN κ cs p) (plL κ) (κ 55) E x j ∧ r = j) → Q (some (.int (iI r))) (Wd f fl g gl hh v tx)) → WP X (d + 3) 28 (0, [some (.ref 45), some (.ref 1), some (.int (iI (x : Int))), none], [], Wd f fl g gl hh v tx) Q := by
    intro x hx hxo Q hQ
    obtain ⟨F, eF⟩ : ∃ F : Nat → Int, ∀ y, F y = if D y + E y = E st then (D y : Int) else -1 := ⟨fun y => if D y + E y = E st then (D y : Int) else -1, fun _ => rfl⟩
    refine c_leads (d := d) (κ := κ) (cs := cs) (p := p) (F := F) hwS hxS hx (fun y hy => ⟨(hon y hy).trans (by rw [eF]), ?_, ?_⟩) hb fun r hr => hQ r ?_
    · rw [eF]
      split <;> omega
    · rw [eF]
      have := hDm y
      split <;> omega
    · have ex : F x = D x := (eF x).trans (if_pos hxo)
      by_cases e0 : E x = 0
      · rcases hr with ⟨r1, -⟩ | ⟨j, r1, hj, r2, -⟩
        · exact Or.inl ⟨e0, r1⟩
        · rw [ex, eF] at r2
          have := (hwS.2.1 j hj).1
          split at r2 <;> omega
      · have hc : ∀ j, cN κ cs p (g 49) x j = stB κ cs p x (κ (39 + j)) := fun j => if_neg (hlr x hx (by omega))
        have ld : ∀ j, j < κ 55 → (F (cN κ cs p (g 49) x j) = F x + κ (31 + j) ↔ E (stB κ cs p x (κ (39 + j))) + κ (31 + j) = E x) := by
          intro j hj
          have hlj := (hwS.2.1 j hj).1
          have hle := hDE.lead (x := x) (j := j) (by omega) (by omega) hj
          have hle : (D (stB κ cs p x (κ (39 + j))) + E (stB κ cs p x (κ (39 + j))) = E st ∧ D (stB κ cs p x (κ (39 + j))) = D x + κ (31 + j)) ↔ D x + κ (31 + j) + E (stB κ cs p x (κ (39 + j))) = E st := hle
          rw [ex, hc, eF]
          generalize D (stB κ cs p x (κ (39 + j))) = dy at hle ⊢
          generalize E (stB κ cs p x (κ (39 + j))) = ey at hle ⊢
          refine ⟨fun a => ?_, fun a => ?_⟩
          · by_cases c : dy + ey = E st
            · rw [if_pos c] at a; omega
            · rw [if_neg c] at a; omega
          · have := hle.mpr (by omega)
            rw [if_pos this.1]
            omega
        refine Or.inr ⟨e0, ?_⟩
        rcases hr with ⟨r1, hno⟩ | ⟨j, r1, hj, r2, r3⟩
        · obtain ⟨j, hj, q2, -⟩ := hDE.ld (x := x) (by omega) e0
          exact absurd ((ld j hj).mpr q2) (hno j hj)
        · exact ⟨j, ⟨hj, (ld j hj).mp r2, fun i hi e => r3 i hi ((ld i (by omega)).mpr e)⟩, r1⟩
  have loop : ∀ u n x : Nat, ∀ s : Int, x < 1000 → D x + E x = E st → E x ≤ u → E x + n ≤ 4000 → n ≤ i → (E x = 0 ∧ s = -1 ∨ E x ≠ 0 ∧ ∃ j : Nat, isLd (plN κ cs p) (plL κ) (κ 55) E x j ∧ s = j) → (∀ r, pthR (plN κ cs p) (plL κ) (κ 55) E (i - n) x r → pthR (plN κ cs p) (plL κ) (κ 55) E i st r) →
      WP X (d + 4) 22 (15, [some (.ref 45), some (.ref 1), none, some (.int (iI (i : Int))), some (.int (iI (x : Int))), some (.int (iI s)), some (.int (iI (n : Int)))], [], Wd f fl g gl hh v tx) P := by
    intro u
    induction u with
    | zero =>
      intro n x s hx hxo hu hn hni hs hr
      have hz : E x = 0 := by omega
      have hs1 : s = -1 := by
        rcases hs with ⟨-, e⟩ | ⟨e, -⟩
        · exact e
        · exact absurd hz e
      have fin : P (some (.int (iI s))) (Wd f fl g gl hh v tx) := h s (hr s (by rw [hs1]; exact pthR.z hz _))
      subst hs1
      exact b_yco_signAt_45_1_15 (d := d + 3) (h := ⟨fun _ => fin, fun _ => ⟨fun _ => fin, fun _ => ⟨fun _ => fin, fun c => absurd rfl c⟩⟩⟩) ..
    | succ u ih =>
      intro n x s hx hxo hu hn hni hs hr
      by_cases hz : E x = 0
      · have hs1 : s = -1 := by
          rcases hs with ⟨-, e⟩ | ⟨e, -⟩
          · exact e
          · exact absurd hz e
        have fin : P (some (.int (iI s))) (Wd f fl g gl hh v tx) := h s (hr s (by rw [hs1]; exact pthR.z hz _))
        subst hs1
        exact b_yco_signAt_45_1_15 (d := d + 3) (h := ⟨fun _ => fin, fun _ => ⟨fun _ => fin, fun _ => ⟨fun _ => fin, fun c => absurd rfl c⟩⟩⟩) ..
      · obtain ⟨j, hj, rfl⟩ : ∃ j : Nat, isLd (plN κ cs p) (plL κ) (κ 55) E x j ∧ s = j := by
          rcases hs with ⟨e, -⟩ | ⟨-, e⟩
          · exact absurd e hz
          · exact e
        obtain ⟨j1, j2, j3⟩ := hj
        have j2 : E (stB κ cs p x (κ (39 + j))) + κ (31 + j) = E x := j2
        have hlj := (hwS.2.1 j j1).1
        have tj : (iI (j : Int)).toNatClampNeg = j := by rw [z_nat (by omega)]; omega
        refine b_yco_signAt_45_1_15 (d := d + 3) (h := ?_) ..
        rw [tj, (hxS.2 j j1).2.2]
        refine ⟨fun c => ?_, fun c => ⟨fun c2 => by simp (disch := omega) only [z_lit, z_litl, z_neg, z_negl, z_add, z_sub, z_mul, z_addl, z_subl, z_mull, z_cc, z_cl, z_cr, z_cm, z_cml, z_cmr, z_lt, z_le, z_eq, z_ltl, z_lel, z_eql, z_nat, z_i2l, z_l2i, z_div, z_sh, Int.toNat_natCast, z_ts, z_tsl] at c2; omega, fun _ => ⟨fun c3 => ?_, fun _ => ⟨by simp (disch := omega) only [z_lit, z_litl, z_neg, z_negl, z_add, z_sub, z_mul, z_addl, z_subl, z_mull, z_cc, z_cl, z_cr, z_cm, z_cml, z_cmr, z_lt, z_le, z_eq, z_ltl, z_lel, z_eql, z_nat, z_i2l, z_l2i, z_div, z_sh, Int.toNat_natCast, z_ts, z_tsl]; omega, ?_⟩⟩⟩⟩
        · have c : i = n := by simp (disch := omega) only [z_lit, z_litl, z_neg, z_negl, z_add, z_sub, z_mul, z_addl, z_subl, z_mull, z_cc, z_cl, z_cr, z_cm, z_cml, z_cmr, z_lt, z_le, z_eq, z_ltl, z_lel, z_eql, z_nat, z_i2l, z_l2i, z_div, z_sh, Int.toNat_natCast, z_ts, z_tsl] at c; omega
          refine h _ (hr _ ?_)
          rw [c, Nat.sub_self]
          exact Or.inr ⟨hz, j, ⟨j1, j2, j3⟩, rfl⟩
        · have c3 : iI (j : Int) = iI (-1) := c3
          rw [z_eq (by omega) (by omega)] at c3
          omega
        · have c : n < i := by simp (disch := omega) only [z_lit, z_litl, z_neg, z_negl, z_add, z_sub, z_mul, z_addl, z_subl, z_mull, z_cc, z_cl, z_cr, z_cm, z_cml, z_cmr, z_lt, z_le, z_eq, z_ltl, z_lel, z_eql, z_nat, z_i2l, z_l2i, z_div, z_sh, Int.toNat_natCast, z_ts, z_tsl] at c; omega
          refine c_cnext (d := d + 1) (κ := κ) (cs := cs) (p := p) hwS hx j1 hb ?_
          rw [show cN κ cs p (g 49) x j = stB κ cs p x (κ (39 + j)) from if_neg (hlr x hx (by omega))]
          have hyl : stB κ cs p x (κ (39 + j)) < 1000 := stB_lt hx
          have hle := hDE.lead (x := x) (j := j) (by omega) (by omega) j1
          have hle : (D (stB κ cs p x (κ (39 + j))) + E (stB κ cs p x (κ (39 + j))) = E st ∧ D (stB κ cs p x (κ (39 + j))) = D x + κ (31 + j)) ↔ D x + κ (31 + j) + E (stB κ cs p x (κ (39 + j))) = E st := hle
          have hyo := (hle.mpr (by omega)).1
          refine b_yco_signAt_45_1_48 (d := d + 3) (h := ?_) ..
          refine lead _ hyl hyo _ fun r hr2 => ?_
          refine b_yco_signAt_45_1_57 (h := ?_) ..
          rw [i1N]
          refine ih (n + 1) _ r hyl hyo (by omega) (by omega) (by omega) hr2 fun r2 hp2 => hr r2 ?_
          rw [show i - n = (i - (n + 1)) + 1 by omega]
          exact Or.inr ⟨hz, j, ⟨j1, j2, j3⟩, hp2⟩
  refine b_yco_signAt_45_1_0 (d := d + 3) (h := ?_) ..
  have hso : D st + E st = E st := by rw [(hDs st).mpr rfl, Nat.zero_add]
  refine lead st hst hso _ fun r hr => ?_
  refine b_yco_signAt_45_1_10 (h := ?_) ..
  exact loop (E st) 0 st r hst hso (Nat.le_refl _) (by omega) (Nat.zero_le _) hr fun _ hp => hp
