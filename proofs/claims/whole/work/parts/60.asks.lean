/-! questions of a ship: both -/
def qE (s g l m c p e w : Int) : pE := fun i => if i = 0 then s else if i = 1 then g else if i = 2 then l else if i = 3 then m else if i = 4 then c else if i = 5 then p else if i = 6 then e else if i = 7 then w else 0
theorem qE_rg {s g l m c p e w : Int} (h0 : -2147483648 ≤ s ∧ s < 2147483648) (h1 : -2147483648 ≤ g ∧ g < 2147483648) (h2 : -2147483648 ≤ l ∧ l < 2147483648) (h3 : -2147483648 ≤ m ∧ m < 2147483648) (h4 : -2147483648 ≤ c ∧ c < 2147483648) (h5 : -2147483648 ≤ p ∧ p < 2147483648) (h6 : -2147483648 ≤ e ∧ e < 2147483648) (h7 : -2147483648 ≤ w ∧ w < 2147483648) : ∀ i, -2147483648 ≤ qE s g l m c p e w i ∧ qE s g l m c p e w i < 2147483648 := by
  intro i
  unfold qE
  repeat' split
  all_goals omega
theorem qE_A {s g l m c p e w : Int} {A : Nat → Int32} (h0 : A 0 = iI s) (h1 : A 1 = iI g) (h2 : A 2 = iI l) (h3 : A 3 = iI m) (h4 : A 4 = iI w) (h5 : A 5 = iI c) (h6 : A 6 = iI p) (h7 : A 7 = iI e) : ∀ x y, p_word false x = some y → A (x - 8) = iI (qE s g l m c p e w y) := by
  intro x y h
  rcases p_word_v h with ⟨rfl, rfl⟩ | ⟨rfl, rfl⟩ | ⟨rfl, rfl⟩ | ⟨rfl, rfl⟩ | ⟨rfl, rfl⟩ | ⟨rfl, rfl⟩ | ⟨rfl, rfl⟩ | ⟨rfl, rfl⟩
  · exact h0
  · exact h1
  · exact h2
  · exact h3
  · exact h4
  · exact h5
  · exact h6
  · exact h7
/-- what is asked of a ship now -/
def eQ (κ : Nat → Nat) (p : Nat) (g l m : Int) (c w : Nat) : pE := qE p g l m c w (κ 22) (κ 54)
def wgt (κ : Nat → Nat) (cs : List pC) (p j : Nat) : Nat := match lwT (eQ κ p j (κ (31 + j)) (κ (39 + j)) (κ (13 + p)) (κ (19 + p))) 0 cs none with | some s => (clI s 99).toNat | none => κ (31 + j)
def gos (κ : Nat → Nat) (cs : List pC) (p c w : Nat) : Nat := match lwT (eQ κ p (-1) (-1) 0 c w) 1 cs none with | some s => (clI s 4).toNat | none => 1
def brd (κ : Nat → Nat) (cs : List pC) (p o c w : Nat) : Bool := (lwT (eQ κ p (-1) (-1) o c w) 2 cs none).isSome
/-- clauses as a law's text gives them -/
def csOK (cs : List pC) : Prop := (∃ (c cv : Nat → Nat) (size : Nat), (∀ i, size ≤ i → c i = 0) ∧ pcK c cv false size 0 cs) ∧ (∀ q, q ∈ cs → q.1 ≤ 2 ∧ (q.1 = 2 → q.2.2.2.2.1 = fun _ => some 1)) ∧ cs.length ≤ 12 ∧ (p_code cs).length ≤ 400
theorem pt_k {c v : Nat → Nat} {n size : Nat} : ∀ (m i p o : Nat) (cs : List pC), p_text c v false n size m i p o = some (.inr cs) → ∀ q, q ∈ cs → q.1 ≤ 2 ∧ (q.1 = 2 → q.2.2.2.2.1 = fun _ => some 1) := by
  intro m
  induction m with
  | zero => intro i p o cs h; cases h
  | succ m ih =>
    intro i p o cs h q hq
    obtain ⟨j, p', q0, h1, h2⟩ := pt_inv h
    have hq0 : q0.1 ≤ 2 ∧ (q0.1 = 2 → q0.2.2.2.2.1 = fun _ => some 1) := by
      obtain ⟨k, j1, p1, C1, e1, j2, t, C2, e2, hk, g1, g2, g3, rfl⟩ := pc_inv h1
      obtain ⟨-, -, k3, -⟩ := p_kind_n hk
      refine ⟨(k3 rfl).1, fun h2 => ?_⟩
      have h2 : k = 2 := h2
      subst h2
      unfold p_sum0 at g1
      rw [if_neg (by decide)] at g1
      cases g1
      rfl
    rcases h2 with ⟨c1, qs, h2, rfl⟩ | ⟨c1, c2, rfl⟩
    · rcases List.mem_cons.mp hq with rfl | hq
      · exact hq0
      · exact ih _ _ _ _ h2 q hq
    · rcases List.mem_singleton.mp hq with rfl
      exact hq0
theorem txt_x {tx : mm_W} {o : Option Nat} {κ : Nat → Nat} {t : Nat} (h : txt tx o κ t) : ∃ o' cs n, o = some o' ∧ lwX tx o' cs ∧ csOK cs ∧ κ (60 + t) ≤ 400 ∧ p_text (tkC κ t) (tkV κ t) false n (κ (60 + t)) 12 0 0 0 = some (.inr cs) := by
  obtain ⟨tt, tc, th, n, cs, ac, ah, h0, h1, h2, h3, h4, h5, h6, h7⟩ := h
  obtain ⟨k1, k2, k3, k4⟩ := pt_ok (fun i hi => tkC_0 hi) _ _ _ _ _ (by omega) (by omega) h5
  exact ⟨tt + 100, cs, n, h0, ⟨tt, tc, th, ac, ah, rfl, h1, h2, h3, h6, h7⟩, ⟨⟨_, _, _, fun i hi => tkC_0 hi, k1⟩, pt_k _ _ _ _ _ h5, k2, by omega⟩, h4, h5⟩
/-- barred: what is told is 1 -/
theorem lw2 {E : pE} : ∀ (cs : List pC) (r : Option Int), (∀ q, q ∈ cs → q.1 = 2 → q.2.2.2.2.1 = fun _ => some 1) → (∀ y, r = some y → y = 1) → ∀ y, lwT E 2 cs r = some y → y = 1
  | [], _, _, h => h
  | q :: qs, r, hk, h => by
    refine lw2 qs (lwS E 2 q r) (fun q' hq' => hk q' (List.mem_cons_of_mem _ hq')) ?_
    intro y hy
    unfold lwS at hy
    split at hy
    · rename_i c
      rw [hk q List.mem_cons_self c.1] at hy
      have hy : some 1 = some y := hy
      cases hy
      rfl
    · exact h y hy
/-- the captain's law -/
def cpX (v : Nat → Value) (tx : mm_W) (cs : List pC) : Prop := (cs = [] ∧ v 2439 = .null) ∨ ∃ o, v 2439 = .ref o ∧ lwX tx o cs ∧ csOK cs
theorem c_lawTells {X : mm_X} {d : Nat} {f : Nat → Int32} {fl : Nat → Int64} {g : Nat → Nat → Int32} {gl : Nat → Nat → Int64} {hh : Nat → Nat → Option Nat} {v : Nat → Value} {tx : mm_W} {P : Option Value → mm_W → Prop} {cs : List pC} (hX : cpX v tx cs) {E : pE} {k sp : Nat} (hk : k ≤ 2) (hE : ∀ w, -2147483648 ≤ E w ∧ E w < 2147483648) (hW : ∀ w, w < 8 → w ≠ 3 → w ≠ 4 → w ≠ 5 → g 41 w = iI (E w)) (hsp : f 2440 = iI (sp : Int)) (hsp2 : sp < 1000) (h4 : E 4 = (sp / 40 : Nat)) (h5 : E 5 = (sp % 10 : Nat))
    (h : ∀ (a : Nat → Int32) st, (∀ w, w ≠ 3 → w ≠ 4 → w ≠ 5 → a w = g 41 w) → P (some (.long (tld (lwT E k cs none)))) (Wd f fl (va_up g 41 a) (va_up gl 40 st) hh v tx)) : WP X (d + 3) 6 (0, [some (.ref 38), some (.int (iI k)), some (.int (iI (E 3))), none, none, none], [], Wd f fl g gl hh v tx) P := by
  rcases hX with ⟨rfl, hv⟩ | ⟨o, hv, ⟨tt, tc, th, ac, ah, rfl, h1, h2, h3, h6, h7⟩, ⟨⟨c, cv, size, hc0, hpk⟩, hkd, hl, hl2⟩⟩
  · refine b_yca_lawTells_n_0 (e0 := hv) (h := ?_) ..
    have := h (g 41) (gl 40) fun _ _ _ _ => rfl
    rw [va_id (f := g) rfl, va_id (f := gl) rfl] at this
    exact this
  · exact c_tells_L hv h1 h2 h3 h6 h7 hc0 hpk (fun q hq => by have := (hkd q hq).1; omega) hl hl2 hk hE hW hsp hsp2 h4 h5 h
theorem cl64 {s hi : Int} (hs : -2147483648 ≤ s ∧ s < 2147483648) (hh : 0 ≤ hi ∧ hi < 1000) : ((if (if lI s < lI hi then lI s else lI hi) < 0 then 0 else (if lI s < lI hi then lI s else lI hi)) : Int64).toInt32 = iI ((clI s hi).toNat : Int) := by
  have hr := clI_rg (s := s) hh.1
  rw [Int.toNat_of_nonneg hr.1]
  unfold clI
  rw [show (0 : Int64) = lI 0 from rfl]
  by_cases c1 : s < hi
  · have d1 : lI s < lI hi := by rw [z_ltl (by omega) (by omega)]; exact c1
    rw [if_pos d1]
    by_cases c2 : s < 0
    · have d2 : lI s < lI 0 := by rw [z_ltl (by omega) (by omega)]; exact c2
      rw [if_pos d2, if_pos c2, z_l2i]
    · have d2 : ¬ lI s < lI 0 := by rw [z_ltl (by omega) (by omega)]; exact c2
      rw [if_neg d2, if_neg c2, if_neg (by omega), z_l2i]
  · have d1 : ¬ lI s < lI hi := by rw [z_ltl (by omega) (by omega)]; exact c1
    have d2 : ¬ lI hi < lI 0 := by rw [z_ltl (by omega) (by omega)]; omega
    rw [if_neg d1, if_neg d2, z_l2i, if_neg (by omega)]
    split
    · rfl
    · congr 1
      omega
theorem spot_lt {κ : Nat → Nat} (h : wH κ) {p : Nat} (hp : p < 3) : spot κ p < 1000 ∧ spot κ p / 40 = κ (13 + p) ∧ spot κ p / 10 % 4 = κ (16 + p) ∧ spot κ p % 10 = κ (19 + p) := by
  have := h.2 p hp
  unfold spot
  omega
theorem c_weighs1 {X : mm_X} {d : Nat} {f : Nat → Int32} {fl : Nat → Int64} {g : Nat → Nat → Int32} {gl : Nat → Nat → Int64} {hh : Nat → Nat → Option Nat} {v : Nat → Value} {tx : mm_W} {P : Option Value → mm_W → Prop} {κ : Nat → Nat} {cs : List pC} {p j : Nat} (hX : cpX v tx cs) (hwS : wS κ) (hwH : wH κ) (hwT : wT κ) (hxS : xS (f 64) (g 2) (g 3) (g 4) κ) (hp : p < 3) (hj : j < κ 55) (w0 : g 41 0 = iI (p : Int)) (w6 : g 41 6 = iI (κ 22)) (w7 : g 41 7 = iI (κ 54)) (hsp : f 2440 = iI (spot κ p)) (h : ∀ (a : Nat → Int32) st, a 0 = iI (p : Int) → a 6 = iI (κ 22) → a 7 = iI (κ 54) → P (some (.int (iI (wgt κ cs p j : Nat)))) (Wd f fl (va_up g 41 a) (va_up gl 40 st) hh v tx)) : WP X (d + 4) 3 (0, [some (.ref 38), some (.ref 1), some (.int (iI j)), none, none], [], Wd f fl g gl hh v tx) P := by
  have b55 := hwS.1
  obtain ⟨s1, s2, s3, -⟩ := hwS.2.1 j hj
  obtain ⟨x1, x2, x3⟩ := hxS.2 j hj
  obtain ⟨t1, t2, t3⟩ := hwT
  obtain ⟨l1, l2, l3, l4⟩ := spot_lt hwH hp
  obtain ⟨y1, y2, y3⟩ := hwH.2 p hp
  have hE := qE_rg (s := p) (g := j) (l := κ (31 + j)) (m := κ (39 + j)) (c := κ (13 + p)) (p := κ (19 + p)) (e := κ 22) (w := κ 54) (by omega) (by omega) (by omega) (by omega) (by omega) (by omega) (by omega) (by omega)
  refine b_yca_weighs_38_1_0 (h := ?_) ..
  rw [show (iI (j : Int)).toNatClampNeg = j by rw [z_nat (by omega)]; omega, x2, x3, va_tw]
  refine ⟨by simp (disch := omega) only [z_lit, z_litl, z_neg, z_negl, z_add, z_sub, z_mul, z_addl, z_subl, z_mull, z_cc, z_cl, z_cr, z_cm, z_cml, z_cmr, z_lt, z_le, z_eq, z_ltl, z_lel, z_eql, z_nat, z_i2l, z_l2i, z_div, z_sh, Int.toNat_natCast, z_ts, z_tsl]; omega, by simp (disch := omega) only [z_lit, z_litl, z_neg, z_negl, z_add, z_sub, z_mul, z_addl, z_subl, z_mull, z_cc, z_cl, z_cr, z_cm, z_cml, z_cmr, z_lt, z_le, z_eq, z_ltl, z_lel, z_eql, z_nat, z_i2l, z_l2i, z_div, z_sh, Int.toNat_natCast, z_ts, z_tsl]; omega, ?_⟩
  refine c_lawTells (E := eQ κ p j (κ (31 + j)) (κ (39 + j)) (κ (13 + p)) (κ (19 + p))) (k := 0) (sp := spot κ p) hX (by omega) hE (fun w hw h3 h4 h5 => ?_) hsp l1 (by rw [l2]; rfl) (by rw [l4]; rfl) fun a st ha => ?_
  · rw [va_s]
    have : w = 0 ∨ w = 1 ∨ w = 2 ∨ w = 6 ∨ w = 7 := by omega
    rcases this with rfl | rfl | rfl | rfl | rfl
    · rw [upd_ne (by omega), upd_ne (by omega)]; exact w0
    · rw [upd_ne (by omega), upd_s]; rfl
    · rw [upd_s]; rfl
    · rw [upd_ne (by omega), upd_ne (by omega)]; exact w6
    · rw [upd_ne (by omega), upd_ne (by omega)]; exact w7
  · have ha' : ∀ w, w ≠ 1 → w ≠ 2 → w ≠ 3 → w ≠ 4 → w ≠ 5 → a w = g 41 w := fun w q1 q2 q3 q4 q5 => by rw [ha w q3 q4 q5, va_s, upd_ne q2, upd_ne q1]
    have hP := h a st (by rw [ha' 0 (by omega) (by omega) (by omega) (by omega) (by omega)]; exact w0) (by rw [ha' 6 (by omega) (by omega) (by omega) (by omega) (by omega)]; exact w6) (by rw [ha' 7 (by omega) (by omega) (by omega) (by omega) (by omega)]; exact w7)
    refine b_yca_weighs_38_1_30 (h := ?_) ..
    rw [va_tw]
    have hrg : p_num (lwT (eQ κ p j (κ (31 + j)) (κ (39 + j)) (κ (13 + p)) (κ (19 + p))) 0 cs none) := by
      rcases hX with ⟨rfl, -⟩ | ⟨-, -, -, ⟨c, cv, size, hc0, hpk⟩, -⟩
      · exact fun y hy => by cases hy
      · exact lwT_rg hc0 hE cs 0 none hpk fun y hy => by cases hy
    unfold wgt at hP
    cases hr : lwT (eQ κ p j (κ (31 + j)) (κ (39 + j)) (κ (13 + p)) (κ (19 + p))) 0 cs none with
    | none =>
      rw [hr] at hP
      refine ⟨fun c => absurd rfl c, fun _ => ⟨by simp (disch := omega) only [z_lit, z_litl, z_neg, z_negl, z_add, z_sub, z_mul, z_addl, z_subl, z_mull, z_cc, z_cl, z_cr, z_cm, z_cml, z_cmr, z_lt, z_le, z_eq, z_ltl, z_lel, z_eql, z_nat, z_i2l, z_l2i, z_div, z_sh, Int.toNat_natCast, z_ts, z_tsl]; omega, ?_⟩⟩
      rw [show (iI (j : Int)).toNatClampNeg = j by rw [z_nat (by omega)]; omega]
      show P (some (.int ((g 3) j))) _
      rw [x2]
      exact hP
    | some s =>
      rw [hr] at hP
      have hs := hrg s hr
      refine ⟨fun _ => ?_, fun c => ?_⟩
      · show P (some (.int (((if (if lI s < lI 99 then lI s else lI 99) < 0 then 0 else (if lI s < lI 99 then lI s else lI 99)) : Int64).toInt32))) _
        rw [cl64 hs (by omega)]
        exact hP
      · have c : (lg_cmp (lI s) (lI (-4000000000000000000)) = 0) := c
        rw [z_cmp_eq (by omega) (by omega)] at c
        omega
theorem c_weighs19 {X : mm_X} {d : Nat} {f : Nat → Int32} {fl : Nat → Int64} {g : Nat → Nat → Int32} {gl : Nat → Nat → Int64} {hh : Nat → Nat → Option Nat} {v : Nat → Value} {tx : mm_W} {P : Option Value → mm_W → Prop} {κ : Nat → Nat} {cs : List pC} {p j : Nat} (hX : cpX v tx cs) (hwS : wS κ) (hwH : wH κ) (hwT : wT κ) (hxS : xS (f 1216) (g 20) (g 21) (g 22) κ) (hp : p < 3) (hj : j < κ 55) (w0 : g 41 0 = iI (p : Int)) (w6 : g 41 6 = iI (κ 22)) (w7 : g 41 7 = iI (κ 54)) (hsp : f 2440 = iI (spot κ p)) (h : ∀ (a : Nat → Int32) st, a 0 = iI (p : Int) → a 6 = iI (κ 22) → a 7 = iI (κ 54) → P (some (.int (iI (wgt κ cs p j : Nat)))) (Wd f fl (va_up g 41 a) (va_up gl 40 st) hh v tx)) : WP X (d + 4) 3 (0, [some (.ref 38), some (.ref 19), some (.int (iI j)), none, none], [], Wd f fl g gl hh v tx) P := by
  have b55 := hwS.1
  obtain ⟨s1, s2, s3, -⟩ := hwS.2.1 j hj
  obtain ⟨x1, x2, x3⟩ := hxS.2 j hj
  obtain ⟨t1, t2, t3⟩ := hwT
  obtain ⟨l1, l2, l3, l4⟩ := spot_lt hwH hp
  obtain ⟨y1, y2, y3⟩ := hwH.2 p hp
  have hE := qE_rg (s := p) (g := j) (l := κ (31 + j)) (m := κ (39 + j)) (c := κ (13 + p)) (p := κ (19 + p)) (e := κ 22) (w := κ 54) (by omega) (by omega) (by omega) (by omega) (by omega) (by omega) (by omega) (by omega)
  refine b_yca_weighs_38_19_0 (h := ?_) ..
  rw [show (iI (j : Int)).toNatClampNeg = j by rw [z_nat (by omega)]; omega, x2, x3, va_tw]
  refine ⟨by simp (disch := omega) only [z_lit, z_litl, z_neg, z_negl, z_add, z_sub, z_mul, z_addl, z_subl, z_mull, z_cc, z_cl, z_cr, z_cm, z_cml, z_cmr, z_lt, z_le, z_eq, z_ltl, z_lel, z_eql, z_nat, z_i2l, z_l2i, z_div, z_sh, Int.toNat_natCast, z_ts, z_tsl]; omega, by simp (disch := omega) only [z_lit, z_litl, z_neg, z_negl, z_add, z_sub, z_mul, z_addl, z_subl, z_mull, z_cc, z_cl, z_cr, z_cm, z_cml, z_cmr, z_lt, z_le, z_eq, z_ltl, z_lel, z_eql, z_nat, z_i2l, z_l2i, z_div, z_sh, Int.toNat_natCast, z_ts, z_tsl]; omega, ?_⟩
  refine c_lawTells (E := eQ κ p j (κ (31 + j)) (κ (39 + j)) (κ (13 + p)) (κ (19 + p))) (k := 0) (sp := spot κ p) hX (by omega) hE (fun w hw h3 h4 h5 => ?_) hsp l1 (by rw [l2]; rfl) (by rw [l4]; rfl) fun a st ha => ?_
  · rw [va_s]
    have : w = 0 ∨ w = 1 ∨ w = 2 ∨ w = 6 ∨ w = 7 := by omega
    rcases this with rfl | rfl | rfl | rfl | rfl
    · rw [upd_ne (by omega), upd_ne (by omega)]; exact w0
    · rw [upd_ne (by omega), upd_s]; rfl
    · rw [upd_s]; rfl
    · rw [upd_ne (by omega), upd_ne (by omega)]; exact w6
    · rw [upd_ne (by omega), upd_ne (by omega)]; exact w7
  · have ha' : ∀ w, w ≠ 1 → w ≠ 2 → w ≠ 3 → w ≠ 4 → w ≠ 5 → a w = g 41 w := fun w q1 q2 q3 q4 q5 => by rw [ha w q3 q4 q5, va_s, upd_ne q2, upd_ne q1]
    have hP := h a st (by rw [ha' 0 (by omega) (by omega) (by omega) (by omega) (by omega)]; exact w0) (by rw [ha' 6 (by omega) (by omega) (by omega) (by omega) (by omega)]; exact w6) (by rw [ha' 7 (by omega) (by omega) (by omega) (by omega) (by omega)]; exact w7)
    refine b_yca_weighs_38_19_30 (h := ?_) ..
    rw [va_tw]
    have hrg : p_num (lwT (eQ κ p j (κ (31 + j)) (κ (39 + j)) (κ (13 + p)) (κ (19 + p))) 0 cs none) := by
      rcases hX with ⟨rfl, -⟩ | ⟨-, -, -, ⟨c, cv, size, hc0, hpk⟩, -⟩
      · exact fun y hy => by cases hy
      · exact lwT_rg hc0 hE cs 0 none hpk fun y hy => by cases hy
    unfold wgt at hP
    cases hr : lwT (eQ κ p j (κ (31 + j)) (κ (39 + j)) (κ (13 + p)) (κ (19 + p))) 0 cs none with
    | none =>
      rw [hr] at hP
      refine ⟨fun c => absurd rfl c, fun _ => ⟨by simp (disch := omega) only [z_lit, z_litl, z_neg, z_negl, z_add, z_sub, z_mul, z_addl, z_subl, z_mull, z_cc, z_cl, z_cr, z_cm, z_cml, z_cmr, z_lt, z_le, z_eq, z_ltl, z_lel, z_eql, z_nat, z_i2l, z_l2i, z_div, z_sh, Int.toNat_natCast, z_ts, z_tsl]; omega, ?_⟩⟩
      rw [show (iI (j : Int)).toNatClampNeg = j by rw [z_nat (by omega)]; omega]
      show P (some (.int ((g 21) j))) _
      rw [x2]
      exact hP
    | some s =>
      rw [hr] at hP
      have hs := hrg s hr
      refine ⟨fun _ => ?_, fun c => ?_⟩
      · show P (some (.int (((if (if lI s < lI 99 then lI s else lI 99) < 0 then 0 else (if lI s < lI 99 then lI s else lI 99)) : Int64).toInt32))) _
        rw [cl64 hs (by omega)]
        exact hP
      · have c : (lg_cmp (lI s) (lI (-4000000000000000000)) = 0) := c
        rw [z_cmp_eq (by omega) (by omega)] at c
        omega
theorem c_goes {X : mm_X} {d : Nat} {f : Nat → Int32} {fl : Nat → Int64} {g : Nat → Nat → Int32} {gl : Nat → Nat → Int64} {hh : Nat → Nat → Option Nat} {v : Nat → Value} {tx : mm_W} {P : Option Value → mm_W → Prop} {κ : Nat → Nat} {cs : List pC} {p sp : Nat} (hX : cpX v tx cs) (hwT : wT κ) (hp : p < 3) (w0 : g 41 0 = iI (p : Int)) (w6 : g 41 6 = iI (κ 22)) (w7 : g 41 7 = iI (κ 54)) (hsp : f 2440 = iI sp) (hsp2 : sp < 1000) (h : ∀ (a : Nat → Int32) st, a 0 = iI (p : Int) → a 6 = iI (κ 22) → a 7 = iI (κ 54) → P (some (.int (iI (gos κ cs p (sp / 40) (sp % 10) : Nat)))) (Wd f fl (va_up g 41 a) (va_up gl 40 st) hh v tx)) : WP X (d + 4) 4 (0, [some (.ref 38), none, none], [], Wd f fl g gl hh v tx) P := by
  obtain ⟨t1, t2, t3⟩ := hwT
  have hE := qE_rg (s := p) (g := -1) (l := -1) (m := 0) (c := (sp / 40 : Nat)) (p := (sp % 10 : Nat)) (e := κ 22) (w := κ 54) (by omega) (by omega) (by omega) (by omega) (by omega) (by omega) (by omega) (by omega)
  refine b_yca_goes_38_0 (h := ?_) ..
  rw [va_tw]
  refine c_lawTells (E := eQ κ p (-1) (-1) 0 (sp / 40) (sp % 10)) (k := 1) (sp := sp) hX (by omega) hE (fun w hw h3 h4 h5 => ?_) hsp hsp2 rfl rfl fun a st ha => ?_
  · rw [va_s]
    have : w = 0 ∨ w = 1 ∨ w = 2 ∨ w = 6 ∨ w = 7 := by omega
    rcases this with rfl | rfl | rfl | rfl | rfl
    · rw [upd_ne (by omega), upd_ne (by omega)]; exact w0
    · rw [upd_ne (by omega), upd_s]; rfl
    · rw [upd_s]; rfl
    · rw [upd_ne (by omega), upd_ne (by omega)]; exact w6
    · rw [upd_ne (by omega), upd_ne (by omega)]; exact w7
  · have ha' : ∀ w, w ≠ 1 → w ≠ 2 → w ≠ 3 → w ≠ 4 → w ≠ 5 → a w = g 41 w := fun w q1 q2 q3 q4 q5 => by rw [ha w q3 q4 q5, va_s, upd_ne q2, upd_ne q1]
    have hP := h a st (by rw [ha' 0 (by omega) (by omega) (by omega) (by omega) (by omega)]; exact w0) (by rw [ha' 6 (by omega) (by omega) (by omega) (by omega) (by omega)]; exact w6) (by rw [ha' 7 (by omega) (by omega) (by omega) (by omega) (by omega)]; exact w7)
    refine b_yca_goes_38_20 (h := ?_) ..
    rw [va_tw]
    have hrg : p_num (lwT (eQ κ p (-1) (-1) 0 (sp / 40) (sp % 10)) 1 cs none) := by
      rcases hX with ⟨rfl, -⟩ | ⟨-, -, -, ⟨c, cv, size, hc0, hpk⟩, -⟩
      · exact fun y hy => by cases hy
      · exact lwT_rg hc0 hE cs 0 none hpk fun y hy => by cases hy
    unfold gos at hP
    cases hr : lwT (eQ κ p (-1) (-1) 0 (sp / 40) (sp % 10)) 1 cs none with
    | none =>
      rw [hr] at hP
      exact ⟨fun c => absurd rfl c, fun _ => hP⟩
    | some s =>
      rw [hr] at hP
      have hs := hrg s hr
      refine ⟨fun _ => ?_, fun c => ?_⟩
      · show P (some (.int (((if (if lI s < lI 4 then lI s else lI 4) < 0 then 0 else (if lI s < lI 4 then lI s else lI 4)) : Int64).toInt32))) _
        rw [cl64 hs (by omega)]
        exact hP
      · have c : (lg_cmp (lI s) (lI (-4000000000000000000)) = 0) := c
        rw [z_cmp_eq (by omega) (by omega)] at c
        omega
theorem c_barred {X : mm_X} {d : Nat} {f : Nat → Int32} {fl : Nat → Int64} {g : Nat → Nat → Int32} {gl : Nat → Nat → Int64} {hh : Nat → Nat → Option Nat} {v : Nat → Value} {tx : mm_W} {P : Option Value → mm_W → Prop} {κ : Nat → Nat} {cs : List pC} {p sp o : Nat} (hX : cpX v tx cs) (hwT : wT κ) (hp : p < 3) (ho : o < 1000) (w0 : g 41 0 = iI (p : Int)) (w6 : g 41 6 = iI (κ 22)) (w7 : g 41 7 = iI (κ 54)) (hsp : f 2440 = iI sp) (hsp2 : sp < 1000) (h : ∀ (a : Nat → Int32) st, a 0 = iI (p : Int) → a 6 = iI (κ 22) → a 7 = iI (κ 54) → P (some (.int (iI (bI (brd κ cs p o (sp / 40) (sp % 10)))))) (Wd f fl (va_up g 41 a) (va_up gl 40 st) hh v tx)) : WP X (d + 4) 5 (0, [some (.ref 38), some (.int (iI o))], [], Wd f fl g gl hh v tx) P := by
  obtain ⟨t1, t2, t3⟩ := hwT
  have hE := qE_rg (s := p) (g := -1) (l := -1) (m := o) (c := (sp / 40 : Nat)) (p := (sp % 10 : Nat)) (e := κ 22) (w := κ 54) (by omega) (by omega) (by omega) (by omega) (by omega) (by omega) (by omega) (by omega)
  refine b_yca_barred_38_0 (h := ?_) ..
  rw [va_tw]
  refine c_lawTells (E := eQ κ p (-1) (-1) o (sp / 40) (sp % 10)) (k := 2) (sp := sp) hX (by omega) hE (fun w hw h3 h4 h5 => ?_) hsp hsp2 rfl rfl fun a st ha => ?_
  · rw [va_s]
    have : w = 0 ∨ w = 1 ∨ w = 2 ∨ w = 6 ∨ w = 7 := by omega
    rcases this with rfl | rfl | rfl | rfl | rfl
    · rw [upd_ne (by omega), upd_ne (by omega)]; exact w0
    · rw [upd_ne (by omega), upd_s]; rfl
    · rw [upd_s]; rfl
    · rw [upd_ne (by omega), upd_ne (by omega)]; exact w6
    · rw [upd_ne (by omega), upd_ne (by omega)]; exact w7
  · have ha' : ∀ w, w ≠ 1 → w ≠ 2 → w ≠ 3 → w ≠ 4 → w ≠ 5 → a w = g 41 w := fun w q1 q2 q3 q4 q5 => by rw [ha w q3 q4 q5, va_s, upd_ne q2, upd_ne q1]
    have hP := h a st (by rw [ha' 0 (by omega) (by omega) (by omega) (by omega) (by omega)]; exact w0) (by rw [ha' 6 (by omega) (by omega) (by omega) (by omega) (by omega)]; exact w6) (by rw [ha' 7 (by omega) (by omega) (by omega) (by omega) (by omega)]; exact w7)
    refine b_yca_barred_38_20 (h := ?_) ..
    rw [va_tw]
    have hrg : p_num (lwT (eQ κ p (-1) (-1) o (sp / 40) (sp % 10)) 2 cs none) := by
      rcases hX with ⟨rfl, -⟩ | ⟨-, -, -, ⟨c, cv, size, hc0, hpk⟩, -⟩
      · exact fun y hy => by cases hy
      · exact lwT_rg hc0 hE cs 0 none hpk fun y hy => by cases hy
    unfold brd at hP
    cases hr : lwT (eQ κ p (-1) (-1) o (sp / 40) (sp % 10)) 2 cs none with
    | none =>
      rw [hr] at hP
      exact ⟨fun _ => hP, fun c => absurd rfl c⟩
    | some s =>
      rw [hr] at hP
      have hs := hrg s hr
      refine ⟨fun c => ?_, fun _ => hP⟩
      have c : (lg_cmp (lI s) (lI (-4000000000000000000)) = 0) := c
      rw [z_cmp_eq (by omega) (by omega)] at c
      omega
/-- the reference's questions -/
theorem c_m_sets {X : mm_X} {d : Nat} {f : Nat → Int32} {fl : Nat → Int64} {g : Nat → Nat → Int32} {gl : Nat → Nat → Int64} {hh : Nat → Nat → Option Nat} {v : Nat → Value} {tx : mm_W} {P : Option Value → mm_W → Prop} {κ : Nat → Nat} (hm : ms (g 76) κ) {p : Nat} {gI lI_ m : Int} {c w : Nat} (hg : (gI = -1 ∧ lI_ = -1) ∨ ∃ j : Nat, gI = j ∧ j < 8 ∧ lI_ = κ (31 + j)) (h : ∀ A : Nat → Int32, (∀ x y, p_word false x = some y → A (x - 8) = iI (eQ κ p gI lI_ m c w y)) → P none (Wd f fl (va_up g 86 A) gl hh v tx)) : WP X d 189 (0, [some (.ref 74), some (.int (iI (p : Int))), some (.int (iI gI)), some (.int (iI m)), some (.int (iI (c : Int))), some (.int (iI (w : Int)))], [], Wd f fl g gl hh v tx) P := by
  have e54 := hm.1 54 (by decide)
  have e22 := hm.1 22 (by decide)
  have fin : ∀ A0 : Nat → Int32, A0 0 = iI (p : Int) → A0 1 = iI gI → WP X d 189 (37, [some (.ref 74), none, none, some (.int (iI m)), some (.int (iI (c : Int))), some (.int (iI (w : Int)))], [.int (iI lI_), .int 2, .ref 86], Wd f fl (va_up g 86 A0) gl hh v tx) P := by
    intro A0 a0 a1
    refine b_m_setsAsked_37 (h := ?_) ..
    rw [show va_up g 86 A0 86 = A0 from va_s, show va_up g 86 A0 76 = g 76 from va_ne (by decide), e54, e22]
    simp (disch := decide) only [va_tw]
    refine ⟨by decide, h _ (qE_A ?_ ?_ ?_ ?_ ?_ ?_ ?_ ?_)⟩
    · rw [upd_ne (by decide), upd_ne (by decide), upd_ne (by decide), upd_ne (by decide), upd_ne (by decide), upd_ne (by decide)]; exact a0
    · rw [upd_ne (by decide), upd_ne (by decide), upd_ne (by decide), upd_ne (by decide), upd_ne (by decide), upd_ne (by decide)]; exact a1
    · rfl
    · rfl
    · rfl
    · rfl
    · rfl
    · rfl
  refine b_m_setsAsked_0 (h := ?_) ..
  rcases hg with ⟨rfl, rfl⟩ | ⟨j, rfl, hj, rfl⟩
  · refine ⟨fun c => absurd rfl c, fun _ => ?_⟩
    rw [va_tw]
    exact fin _ rfl rfl
  · have e31 := hm.1 (31 + j) (by omega)
    rw [va_tw]
    have e : ((31 : Int32) + iI (j : Int)).toNatClampNeg = 31 + j := by simp (disch := omega) only [z_lit, z_litl, z_neg, z_negl, z_add, z_sub, z_mul, z_addl, z_subl, z_mull, z_cc, z_cl, z_cr, z_cm, z_cml, z_cmr, z_lt, z_le, z_eq, z_ltl, z_lel, z_eql, z_nat, z_i2l, z_l2i, z_div, z_sh, Int.toNat_natCast, z_ts, z_tsl]
    rw [e, e31]
    refine ⟨fun _ => ⟨by simp (disch := omega) only [z_lit, z_litl, z_neg, z_negl, z_add, z_sub, z_mul, z_addl, z_subl, z_mull, z_cc, z_cl, z_cr, z_cm, z_cml, z_cmr, z_lt, z_le, z_eq, z_ltl, z_lel, z_eql, z_nat, z_i2l, z_l2i, z_div, z_sh, Int.toNat_natCast, z_ts, z_tsl]; omega, fin _ rfl rfl⟩, fun c => by simp (disch := omega) only [z_lit, z_litl, z_neg, z_negl, z_add, z_sub, z_mul, z_addl, z_subl, z_mull, z_cc, z_cl, z_cr, z_cm, z_cml, z_cmr, z_lt, z_le, z_eq, z_ltl, z_lel, z_eql, z_nat, z_i2l, z_l2i, z_div, z_sh, Int.toNat_natCast, z_ts, z_tsl] at c; omega⟩
theorem c_m_weighs {X : mm_X} {f : Nat → Int32} {fl : Nat → Int64} {g : Nat → Nat → Int32} {gl : Nat → Nat → Int64} {hh : Nat → Nat → Option Nat} {v : Nat → Value} {tx : mm_W} {P : Option Value → mm_W → Prop} {κ : Nat → Nat} {cs : List pC} {p j K : Nat} (hK : 64 ≤ K) (hm : ms (g 76) κ) (hwS : wS κ) (hwL : wL κ) (hwH : wH κ) (hwT : wT κ) (hB : wB κ) (hR : rfX κ (κ 59) cs) (hp : p < 3) (hj : j < κ 55) (h : ∀ x y z u A a, P (some (.int (iI (wgt κ cs p j : Nat)))) (Wd (va_up (va_up (va_up (va_up f 4758 x) 4759 y) 4760 z) 4761 u) fl (va_up (va_up g 86 A) 87 a) gl hh v tx)) : WP X (K + 12) 191 (0, [some (.ref 74), some (.int (iI (p : Int))), some (.int (iI (j : Int)))], [], Wd f fl g gl hh v tx) P := by
  have b55 := hwS.1
  obtain ⟨s1, s2, s3, -⟩ := hwS.2.1 j hj
  obtain ⟨t1, t2, t3⟩ := hwT
  obtain ⟨y1, y2, y3⟩ := hwH.2 p hp
  have hE := qE_rg (s := p) (g := j) (l := κ (31 + j)) (m := κ (39 + j)) (c := κ (13 + p)) (p := κ (19 + p)) (e := κ 22) (w := κ 54) (by omega) (by omega) (by omega) (by omega) (by omega) (by omega) (by omega) (by omega)
  have e39 := hm.1 (39 + j) (by omega)
  have e31 := hm.1 (31 + j) (by omega)
  have e13 := hm.1 (13 + p) (by omega)
  have e19 := hm.1 (19 + p) (by omega)
  refine b_m_weighsFor_0 (h := ?_) ..
  simp (disch := omega) only [z_lit, z_litl, z_neg, z_negl, z_add, z_sub, z_mul, z_addl, z_subl, z_mull, z_cc, z_cl, z_cr, z_cm, z_cml, z_cmr, z_lt, z_le, z_eq, z_ltl, z_lel, z_eql, z_nat, z_i2l, z_l2i, z_div, z_sh, Int.toNat_natCast, z_ts, z_tsl, e39, e13, e19]
  refine ⟨by omega, by omega, by omega, ?_⟩
  refine c_m_sets (κ := κ) (gI := j) (lI_ := κ (31 + j)) (m := κ (39 + j)) (c := κ (13 + p)) (w := κ (19 + p)) hm (Or.inr ⟨j, rfl, by omega, rfl⟩) fun A hA => ?_
  refine b_m_weighsFor_33 (h := ?_) ..
  rw [show va_up g 86 A 76 = g 76 from va_ne (by decide)]
  simp (disch := omega) only [z_lit, z_litl, z_neg, z_negl, z_add, z_sub, z_mul, z_addl, z_subl, z_mull, z_cc, z_cl, z_cr, z_cm, z_cml, z_cmr, z_lt, z_le, z_eq, z_ltl, z_lel, z_eql, z_nat, z_i2l, z_l2i, z_div, z_sh, Int.toNat_natCast, z_ts, z_tsl, e31]
  refine ⟨by omega, ?_⟩
  refine c_m_tells (κ := κ) (k := 0) (K := K) (hi := 99) (wo := κ (31 + j)) (g := va_up g 86 A) (E := eQ κ p j (κ (31 + j)) (κ (39 + j)) (κ (13 + p)) (κ (19 + p))) (by exact hm) hwS hwL hwH hB hR hK (by omega) (by omega) (by omega) hE (by exact hA) fun x y z u a => ?_
  refine b_m_weighsFor_49 (h := ?_) ..
  have hP := h x y z u A a
  unfold wgt at hP
  cases hr : lwT (eQ κ p j (κ (31 + j)) (κ (39 + j)) (κ (13 + p)) (κ (19 + p))) 0 cs none with
  | none => rw [hr] at hP; exact hP
  | some s =>
    rw [hr] at hP
    have hr2 := clI_rg (s := s) (hi := 99) (by omega)
    show P (some (.int (iI (clI s 99)))) _
    rw [← Int.toNat_of_nonneg hr2.1]
    exact hP
theorem c_m_goes {X : mm_X} {f : Nat → Int32} {fl : Nat → Int64} {g : Nat → Nat → Int32} {gl : Nat → Nat → Int64} {hh : Nat → Nat → Option Nat} {v : Nat → Value} {tx : mm_W} {P : Option Value → mm_W → Prop} {κ : Nat → Nat} {cs : List pC} {p c w K : Nat} (hK : 64 ≤ K) (hm : ms (g 76) κ) (hwS : wS κ) (hwL : wL κ) (hwH : wH κ) (hwT : wT κ) (hB : wB κ) (hR : rfX κ (κ 59) cs) (hp : p < 3) (hc : c < 1000) (hw : w < 1000) (h : ∀ x y z u A a, P (some (.int (iI (gos κ cs p c w : Nat)))) (Wd (va_up (va_up (va_up (va_up f 4758 x) 4759 y) 4760 z) 4761 u) fl (va_up (va_up g 86 A) 87 a) gl hh v tx)) : WP X (K + 12) 192 (0, [some (.ref 74), some (.int (iI (p : Int))), some (.int (iI (c : Int))), some (.int (iI (w : Int)))], [], Wd f fl g gl hh v tx) P := by
  obtain ⟨t1, t2, t3⟩ := hwT
  have hE := qE_rg (s := p) (g := -1) (l := -1) (m := 0) (c := c) (p := w) (e := κ 22) (w := κ 54) (by omega) (by omega) (by omega) (by omega) (by omega) (by omega) (by omega) (by omega)
  refine b_m_goesFar_0 (h := ?_) ..
  refine c_m_sets (κ := κ) (gI := -1) (lI_ := -1) (m := 0) (c := c) (w := w) hm (Or.inl ⟨rfl, rfl⟩) fun A hA => ?_
  refine b_m_goesFar_9 (h := ?_) ..
  refine c_m_tells (κ := κ) (k := 1) (K := K) (hi := 4) (wo := 1) (g := va_up g 86 A) (E := eQ κ p (-1) (-1) 0 c w) (by exact hm) hwS hwL hwH hB hR hK (by omega) (by omega) (by omega) hE (by exact hA) fun x y z u a => ?_
  refine b_m_goesFar_16 (h := ?_) ..
  have hP := h x y z u A a
  unfold gos at hP
  cases hr : lwT (eQ κ p (-1) (-1) 0 c w) 1 cs none with
  | none => rw [hr] at hP; exact hP
  | some s =>
    rw [hr] at hP
    have hr2 := clI_rg (s := s) (hi := 4) (by omega)
    show P (some (.int (iI (clI s 4)))) _
    rw [← Int.toNat_of_nonneg hr2.1]
    exact hP
theorem c_m_barred {X : mm_X} {f : Nat → Int32} {fl : Nat → Int64} {g : Nat → Nat → Int32} {gl : Nat → Nat → Int64} {hh : Nat → Nat → Option Nat} {v : Nat → Value} {tx : mm_W} {P : Option Value → mm_W → Prop} {κ : Nat → Nat} {cs : List pC} {p o c w K : Nat} (hK : 64 ≤ K) (hm : ms (g 76) κ) (hwS : wS κ) (hwL : wL κ) (hwH : wH κ) (hwT : wT κ) (hB : wB κ) (hR : rfX κ (κ 59) cs) (hok : csOK cs) (hp : p < 3) (ho : o < 1000) (hc : c < 1000) (hw : w < 1000) (h : ∀ x y z u A a, P (some (.int (iI (bI (brd κ cs p o c w))))) (Wd (va_up (va_up (va_up (va_up f 4758 x) 4759 y) 4760 z) 4761 u) fl (va_up (va_up g 86 A) 87 a) gl hh v tx)) : WP X (K + 12) 193 (0, [some (.ref 74), some (.int (iI (p : Int))), some (.int (iI (o : Int))), some (.int (iI (c : Int))), some (.int (iI (w : Int)))], [], Wd f fl g gl hh v tx) P := by
  obtain ⟨t1, t2, t3⟩ := hwT
  have hE := qE_rg (s := p) (g := -1) (l := -1) (m := o) (c := c) (p := w) (e := κ 22) (w := κ 54) (by omega) (by omega) (by omega) (by omega) (by omega) (by omega) (by omega) (by omega)
  refine b_m_isBarred_0 (h := ?_) ..
  refine c_m_sets (κ := κ) (gI := -1) (lI_ := -1) (m := o) (c := c) (w := w) hm (Or.inl ⟨rfl, rfl⟩) fun A hA => ?_
  refine b_m_isBarred_10 (h := ?_) ..
  refine c_m_tells (κ := κ) (k := 2) (K := K) (hi := 1) (wo := 0) (g := va_up g 86 A) (E := eQ κ p (-1) (-1) o c w) (by exact hm) hwS hwL hwH hB hR hK (by omega) (by omega) (by omega) hE (by exact hA) fun x y z u a => ?_
  refine b_m_isBarred_17 (h := ?_) ..
  have hP := h x y z u A a
  unfold brd at hP
  cases hr : lwT (eQ κ p (-1) (-1) o c w) 2 cs none with
  | none =>
    rw [hr] at hP
    exact ⟨fun _ => hP, fun c => absurd c (by decide)⟩
  | some s =>
    rw [hr] at hP
    have e1 := lw2 cs none (fun q hq => (hok.2.1 q hq).2) (fun y hy => by cases hy) s hr
    subst e1
    exact ⟨fun c => absurd rfl c, fun _ => hP⟩
/-- the law in force, for both -/
theorem force_X {la : Int32} {lw : Nat → Option Nat} {fo : Int32} {tx : mm_W} {κ : Nat → Nat} (hx : xW la lw fo tx κ) (hw : wW κ) : ∃ cs, csOK cs ∧ rfX κ (κ 59) cs ∧ ((κ 59 = 0 ∧ cs = []) ∨ ∃ t o, κ 59 = t + 1 ∧ t < κ 58 ∧ lw t = some o ∧ lwX tx o cs) := by
  obtain ⟨w1, w2⟩ := hw
  obtain ⟨x1, x2, x3⟩ := hx
  by_cases c : κ 59 = 0
  · refine ⟨[], ⟨⟨fun _ => 0, fun _ => 0, 0, fun _ _ => rfl, trivial⟩, (fun q hq => by cases hq), (by show 0 ≤ 12; omega), (by show 0 ≤ 400; omega)⟩, Or.inl ⟨c, rfl⟩, Or.inl ⟨c, rfl⟩⟩
  · obtain ⟨o, cs, n, h1, h2, h3, h4, h5⟩ := txt_x (x3 (κ 59 - 1) (by omega))
    exact ⟨cs, h3, Or.inr ⟨κ 59 - 1, n, by omega, by omega, h4, h5⟩, Or.inr ⟨κ 59 - 1, o, by omega, by omega, h1, h2⟩⟩
theorem c_boardn1 {X : mm_X} {d : Nat} {f : Nat → Int32} {fl : Nat → Int64} {g : Nat → Nat → Int32} {gl : Nat → Nat → Int64} {hh : Nat → Nat → Option Nat} {v : Nat → Value} {tx : mm_W} {P : Option Value → mm_W → Prop} {κ : Nat → Nat} {p : Nat} (hwH : wH κ) (hxH : xH (f 68) (g 5) κ) (hxT : xT (g 8) κ) (hp : p < κ 56) (h : ∀ A : Nat → Int32, A 0 = iI (p : Int) → A 6 = iI (κ 22) → A 7 = iI (κ 54) → P none (Wd (va_up f 2440 (iI (spot κ p))) fl (va_up g 41 A) gl hh (va_up v 2439 .null) tx)) : WP X d 2 (0, [some (.ref 38), some (.ref 1), some (.int (iI (p : Int))), some (.null)], [], Wd f fl g gl hh v tx) P := by
  have b56 := hwH.1
  refine b_yca_board_1n_0 (h := ?_) ..
  rw [show (iI (p : Int)).toNatClampNeg = p by rw [z_nat (by omega)]; omega, hxH.2 p hp, hxT.1, hxT.2.2]
  simp (disch := decide) only [va_tw]
  exact ⟨by simp (disch := omega) only [z_lit, z_litl, z_neg, z_negl, z_add, z_sub, z_mul, z_addl, z_subl, z_mull, z_cc, z_cl, z_cr, z_cm, z_cml, z_cmr, z_lt, z_le, z_eq, z_ltl, z_lel, z_eql, z_nat, z_i2l, z_l2i, z_div, z_sh, Int.toNat_natCast, z_ts, z_tsl]; omega, h _ rfl rfl rfl⟩
theorem c_boardt1 {X : mm_X} {d : Nat} {f : Nat → Int32} {fl : Nat → Int64} {g : Nat → Nat → Int32} {gl : Nat → Nat → Int64} {hh : Nat → Nat → Option Nat} {v : Nat → Value} {tx : mm_W} {P : Option Value → mm_W → Prop} {κ : Nat → Nat} {p o : Nat} (hwH : wH κ) (hxH : xH (f 68) (g 5) κ) (hxT : xT (g 8) κ) (hp : p < κ 56) (h : ∀ A : Nat → Int32, A 0 = iI (p : Int) → A 6 = iI (κ 22) → A 7 = iI (κ 54) → P none (Wd (va_up f 2440 (iI (spot κ p))) fl (va_up g 41 A) gl hh (va_up v 2439 (.ref o)) tx)) : WP X d 2 (0, [some (.ref 38), some (.ref 1), some (.int (iI (p : Int))), some (.ref o)], [], Wd f fl g gl hh v tx) P := by
  have b56 := hwH.1
  refine b_yca_board_1t_0 (h := ?_) ..
  rw [show (iI (p : Int)).toNatClampNeg = p by rw [z_nat (by omega)]; omega, hxH.2 p hp, hxT.1, hxT.2.2]
  simp (disch := decide) only [va_tw]
  exact ⟨by simp (disch := omega) only [z_lit, z_litl, z_neg, z_negl, z_add, z_sub, z_mul, z_addl, z_subl, z_mull, z_cc, z_cl, z_cr, z_cm, z_cml, z_cmr, z_lt, z_le, z_eq, z_ltl, z_lel, z_eql, z_nat, z_i2l, z_l2i, z_div, z_sh, Int.toNat_natCast, z_ts, z_tsl]; omega, h _ rfl rfl rfl⟩
theorem c_boardn19 {X : mm_X} {d : Nat} {f : Nat → Int32} {fl : Nat → Int64} {g : Nat → Nat → Int32} {gl : Nat → Nat → Int64} {hh : Nat → Nat → Option Nat} {v : Nat → Value} {tx : mm_W} {P : Option Value → mm_W → Prop} {κ : Nat → Nat} {p : Nat} (hwH : wH κ) (hxH : xH (f 1220) (g 23) κ) (hxT : xT (g 26) κ) (hp : p < κ 56) (h : ∀ A : Nat → Int32, A 0 = iI (p : Int) → A 6 = iI (κ 22) → A 7 = iI (κ 54) → P none (Wd (va_up f 2440 (iI (spot κ p))) fl (va_up g 41 A) gl hh (va_up v 2439 .null) tx)) : WP X d 2 (0, [some (.ref 38), some (.ref 19), some (.int (iI (p : Int))), some (.null)], [], Wd f fl g gl hh v tx) P := by
  have b56 := hwH.1
  refine b_yca_board_19n_0 (h := ?_) ..
  rw [show (iI (p : Int)).toNatClampNeg = p by rw [z_nat (by omega)]; omega, hxH.2 p hp, hxT.1, hxT.2.2]
  simp (disch := decide) only [va_tw]
  exact ⟨by simp (disch := omega) only [z_lit, z_litl, z_neg, z_negl, z_add, z_sub, z_mul, z_addl, z_subl, z_mull, z_cc, z_cl, z_cr, z_cm, z_cml, z_cmr, z_lt, z_le, z_eq, z_ltl, z_lel, z_eql, z_nat, z_i2l, z_l2i, z_div, z_sh, Int.toNat_natCast, z_ts, z_tsl]; omega, h _ rfl rfl rfl⟩
theorem c_boardt19 {X : mm_X} {d : Nat} {f : Nat → Int32} {fl : Nat → Int64} {g : Nat → Nat → Int32} {gl : Nat → Nat → Int64} {hh : Nat → Nat → Option Nat} {v : Nat → Value} {tx : mm_W} {P : Option Value → mm_W → Prop} {κ : Nat → Nat} {p o : Nat} (hwH : wH κ) (hxH : xH (f 1220) (g 23) κ) (hxT : xT (g 26) κ) (hp : p < κ 56) (h : ∀ A : Nat → Int32, A 0 = iI (p : Int) → A 6 = iI (κ 22) → A 7 = iI (κ 54) → P none (Wd (va_up f 2440 (iI (spot κ p))) fl (va_up g 41 A) gl hh (va_up v 2439 (.ref o)) tx)) : WP X d 2 (0, [some (.ref 38), some (.ref 19), some (.int (iI (p : Int))), some (.ref o)], [], Wd f fl g gl hh v tx) P := by
  have b56 := hwH.1
  refine b_yca_board_19t_0 (h := ?_) ..
  rw [show (iI (p : Int)).toNatClampNeg = p by rw [z_nat (by omega)]; omega, hxH.2 p hp, hxT.1, hxT.2.2]
  simp (disch := decide) only [va_tw]
  exact ⟨by simp (disch := omega) only [z_lit, z_litl, z_neg, z_negl, z_add, z_sub, z_mul, z_addl, z_subl, z_mull, z_cc, z_cl, z_cr, z_cm, z_cml, z_cmr, z_lt, z_le, z_eq, z_ltl, z_lel, z_eql, z_nat, z_i2l, z_l2i, z_div, z_sh, Int.toNat_natCast, z_ts, z_tsl]; omega, h _ rfl rfl rfl⟩
theorem o_asks : k_op4 k_Inv := by
  intro a0 a1 a2 X f fl g gl hh v tx hI
  have hI' := hI
  obtain ⟨κ, ⟨wS, wH, wL, wD, wW, wT, wB⟩, hm, ⟨xS, xH, xL, xD, xW, xT⟩, he, ht, ha, hi0, hi1, hd, hr⟩ := hI
  obtain ⟨p, hp, rfl⟩ := z_ex a0
  obtain ⟨y, hy, rfl⟩ := z_ex a1
  obtain ⟨q, hq, rfl⟩ := z_ex a2
  have b55 := wS.1
  have b56 := wH.1
  have e55 := hm.1 55 (by decide)
  have e56 := hm.1 56 (by decide)
  obtain ⟨cs, hok, hR, hF⟩ := force_X xW wW
  by_cases hin : 0 ≤ p ∧ p < κ 56
  · obtain ⟨p, rfl⟩ : ∃ p' : Nat, p = p' := ⟨p.toNat, by omega⟩
    have hp3 : p < κ 56 := by omega
    have e13 := hm.1 (13 + p) (by omega)
    have e19 := hm.1 (19 + p) (by omega)
    obtain ⟨l1, l2, l3, l4⟩ := spot_lt wH (p := p) (by omega)
    obtain ⟨y1, y2, y3⟩ := wH.2 p (by omega)
    have at35 : ∀ (A : Nat → Int32) (L : Value), A 0 = iI (p : Int) → A 6 = iI (κ 22) → A 7 = iI (κ 54) → cpX (va_up v 2439 L) tx cs → WP X 1999 62 (35, [some (.ref 0), some (.int (iI (p : Int))), some (.int (iI y)), some (.int (iI q))], [], Wd (va_up f 2440 (iI (spot κ p))) fl (va_up g 41 A) gl hh (va_up v 2439 L) tx) (fun r1 w1 => ∃ (a : Int64) (f1 : Nat → Int32) (fl1 : Nat → Int64) (g1 : Nat → Nat → Int32) (gl1 : Nat → Nat → Int64) (hh1 : Nat → Nat → Option Nat) (v1 : Nat → Value) (tx1 : mm_W), r1 = some (k_mi a) ∧ w1 = Wd f1 fl1 g1 gl1 hh1 v1 tx1 ∧ WP X 1999 141 (0, [some (.ref 74), some (.int (iI (p : Int))), some (.int (iI y)), some (.int (iI q))], [], w1) (fun r2 w2 => r2 = some (k_mi a) ∧ ∃ (f2 : Nat → Int32) (fl2 : Nat → Int64) (g2 : Nat → Nat → Int32) (gl2 : Nat → Nat → Int64) (hh2 : Nat → Nat → Option Nat) (v2 : Nat → Value) (tx2 : mm_W), w2 = Wd f2 fl2 g2 gl2 hh2 v2 tx2 ∧ k_Inv f2 fl2 g2 gl2 hh2 v2 tx2 ∧ tx2.length ≤ tx.length + 3 ∧ mm_sl tx2 ≤ mm_sl tx + 464)) := by
      intro A L A0 A6 A7 hX
      have refNone : (¬ (q = 0 ∨ q = 1 ∨ q = 2) ∨ (q = 0 ∧ ¬ (0 ≤ y ∧ y < κ 55)) ∨ (q = 2 ∧ ¬ (0 ≤ y ∧ y ≤ 5))) → ∀ (f' : Nat → Int32) (g' : Nat → Nat → Int32) (gl' : Nat → Nat → Int64) (v' : Nat → Value), ms (g' 76) κ → k_Inv f' fl g' gl' hh v' tx → WP X 1999 141 (0, [some (.ref 74), some (.int (iI (p : Int))), some (.int (iI y)), some (.int (iI q))], [], Wd f' fl g' gl' hh v' tx) (k_fn (.int (iI (-1))) k_Inv tx) := by
        intro hn f' g' gl' v' hm' hI2
        have e55 := hm'.1 55 (by decide)
        have e56 := hm'.1 56 (by decide)
        refine b_m_asks_0 (h := ?_) ..
        simp (disch := omega) only [z_lit, z_litl, z_neg, z_negl, z_add, z_sub, z_mul, z_addl, z_subl, z_mull, z_cc, z_cl, z_cr, z_cm, z_cml, z_cmr, z_lt, z_le, z_eq, z_ltl, z_lel, z_eql, z_nat, z_i2l, z_l2i, z_div, z_sh, Int.toNat_natCast, z_ts, z_tsl, e55, e56]
        refine ⟨fun _ => ⟨fun c => ⟨fun c2 => by omega, fun c2 => k_fin0 rfl hI2⟩, fun c => ⟨fun c2 => by omega, fun c2 => ⟨fun c3 => ⟨fun c4 => by omega, fun c4 => k_fin0 rfl hI2⟩, fun c3 => k_fin0 rfl hI2⟩⟩⟩, fun c => by omega⟩
      refine b_x_asks_35 (h := ?_) ..
      rw [show va_up f 2440 (iI (spot κ p)) 64 = iI (κ 55) from (va_ne (by decide)).trans xS.1]
      simp (disch := omega) only [z_lit, z_litl, z_neg, z_negl, z_add, z_sub, z_mul, z_addl, z_subl, z_mull, z_cc, z_cl, z_cr, z_cm, z_cml, z_cmr, z_lt, z_le, z_eq, z_ltl, z_lel, z_eql, z_nat, z_i2l, z_l2i, z_div, z_sh, Int.toNat_natCast, z_ts, z_tsl]
      refine ⟨fun c => ⟨fun c2 => ⟨fun c3 => ?_, fun c3 => ⟨fun c4 => ?_, fun c4 => ?_⟩⟩, fun c2 => ?_⟩, fun c => ⟨fun c2 => ?_, fun c2 => ?_⟩⟩
      · exact k_mid (refNone (by omega) _ _ _ _ hm hI')
      · obtain ⟨o, rfl⟩ : ∃ o : Nat, y = o := ⟨y.toNat, by omega⟩
        refine c_barred (κ := κ) (p := p) (sp := spot κ p) (o := o) hX wT (by omega) (by omega) (by rw [va_s]; exact A0) (by rw [va_s]; exact A6) (by rw [va_s]; exact A7) va_s l1 fun a st a0 a6 a7 => ?_
        refine b_x_asks_105 (h := ?_) ..
        rw [l2, l4]
        have ref : ∀ b : Bool, b = brd κ cs p o (κ (13 + p)) (κ (19 + p)) → WP X 1999 141 (0, [some (.ref 74), some (.int (iI (p : Int))), some (.int (iI (o : Int))), some (.int (iI q))], [], Wd (va_up f 2440 (iI (spot κ p))) fl (va_up (va_up g 41 A) 41 a) (va_up gl 40 st) hh (va_up v 2439 L) tx) (k_fn (.int (iI (bI b))) k_Inv tx) := by
          intro b hb
          refine b_m_asks_0 (h := ?_) ..
          have v76 : va_up (va_up g 41 A) 41 a 76 = g 76 := by rw [va_ne (by decide), va_ne (by decide)]
          rw [v76]
          simp (disch := omega) only [z_lit, z_litl, z_neg, z_negl, z_add, z_sub, z_mul, z_addl, z_subl, z_mull, z_cc, z_cl, z_cr, z_cm, z_cml, z_cmr, z_lt, z_le, z_eq, z_ltl, z_lel, z_eql, z_nat, z_i2l, z_l2i, z_div, z_sh, Int.toNat_natCast, z_ts, z_tsl, e55, e56, e13, e19]
          refine ⟨fun _ => ⟨fun c => by omega, fun _ => ⟨fun c => by omega, fun _ => ⟨fun _ => ⟨fun _ => ⟨by omega, by omega, ?_⟩, fun c => by omega⟩, fun c => by omega⟩⟩⟩, fun c => by omega⟩
          refine c_m_barred (κ := κ) (K := 1986) (g := va_up (va_up g 41 A) 41 a) (by omega) (by exact hm) wS wL wH wT wB hR hok (by omega) (by omega) (by omega) (by omega) fun x1 x2 x3 x4 A' a' => ?_
          refine b_m_asks_116 (h := ?_) ..
          rw [← hb]
          cases b with
          | true => exact ⟨fun c => absurd c (by decide), fun _ => k_fin0 rfl hI'⟩
          | false => exact ⟨fun _ => k_fin0 rfl hI', fun c => absurd rfl c⟩
        cases hbb : brd κ cs p o (κ (13 + p)) (κ (19 + p)) with
        | true => exact ⟨fun c => absurd c (by decide), fun _ => k_mid (ref true hbb.symm)⟩
        | false => exact ⟨fun _ => k_mid (ref false hbb.symm), fun c => absurd rfl c⟩
      · exact k_mid (refNone (by omega) _ _ _ _ hm hI')
      · refine c_goes (κ := κ) (p := p) (sp := spot κ p) hX wT (by omega) (by rw [va_s]; exact A0) (by rw [va_s]; exact A6) (by rw [va_s]; exact A7) va_s l1 fun a st a0 a6 a7 => ?_
        refine b_x_asks_82 (h := ?_) ..
        rw [l2, l4]
        refine k_mid ?_
        refine b_m_asks_0 (h := ?_) ..
        have v76 : va_up (va_up g 41 A) 41 a 76 = g 76 := by rw [va_ne (by decide), va_ne (by decide)]
        rw [v76]
        simp (disch := omega) only [z_lit, z_litl, z_neg, z_negl, z_add, z_sub, z_mul, z_addl, z_subl, z_mull, z_cc, z_cl, z_cr, z_cm, z_cml, z_cmr, z_lt, z_le, z_eq, z_ltl, z_lel, z_eql, z_nat, z_i2l, z_l2i, z_div, z_sh, Int.toNat_natCast, z_ts, z_tsl, e55, e56, e13, e19]
        refine ⟨fun _ => ⟨fun c => by omega, fun _ => ⟨fun _ => ⟨by omega, by omega, ?_⟩, fun c => by omega⟩⟩, fun c => by omega⟩
        refine c_m_goes (κ := κ) (K := 1986) (g := va_up (va_up g 41 A) 41 a) (by omega) (by exact hm) wS wL wH wT wB hR (by omega) (by omega) (by omega) fun x1 x2 x3 x4 A' a' => ?_
        refine b_m_asks_78 (h := ?_) ..
        exact k_fin0 rfl hI'
      · obtain ⟨j, rfl⟩ : ∃ j : Nat, y = j := ⟨y.toNat, by omega⟩
        refine c_weighs1 (κ := κ) (p := p) (j := j) hX wS wH wT (by exact xS) (by omega) (by omega) (by rw [va_s]; exact A0) (by rw [va_s]; exact A6) (by rw [va_s]; exact A7) va_s fun a st a0 a6 a7 => ?_
        refine b_x_asks_65 (h := ?_) ..
        refine k_mid ?_
        refine b_m_asks_0 (h := ?_) ..
        have v76 : va_up (va_up g 41 A) 41 a 76 = g 76 := by rw [va_ne (by decide), va_ne (by decide)]
        rw [v76]
        simp (disch := omega) only [z_lit, z_litl, z_neg, z_negl, z_add, z_sub, z_mul, z_addl, z_subl, z_mull, z_cc, z_cl, z_cr, z_cm, z_cml, z_cmr, z_lt, z_le, z_eq, z_ltl, z_lel, z_eql, z_nat, z_i2l, z_l2i, z_div, z_sh, Int.toNat_natCast, z_ts, z_tsl, e55, e56]
        refine ⟨fun _ => ⟨fun _ => ⟨fun _ => ?_, fun c => by omega⟩, fun c => by omega⟩, fun c => by omega⟩
        refine c_m_weighs (κ := κ) (K := 1986) (g := va_up (va_up g 41 A) 41 a) (by omega) (by exact hm) wS wL wH wT wB hR (by omega) (by omega) fun x1 x2 x3 x4 A' a' => ?_
        refine b_m_asks_50 (h := ?_) ..
        exact k_fin0 rfl hI'
      · exact k_mid (refNone (by omega) _ _ _ _ hm hI')
    rcases hF with ⟨h0, hcs⟩ | ⟨t, o, hF1, hF2, hF3, hF4⟩
    · refine b_x_asks_0 (t0 := 0) (h := ?_) ..
      rw [xH.1, xW.2.1, xW.1, h0]
      simp (disch := omega) only [z_lit, z_litl, z_neg, z_negl, z_add, z_sub, z_mul, z_addl, z_subl, z_mull, z_cc, z_cl, z_cr, z_cm, z_cml, z_cmr, z_lt, z_le, z_eq, z_ltl, z_lel, z_eql, z_nat, z_i2l, z_l2i, z_div, z_sh, Int.toNat_natCast, z_ts, z_tsl]
      refine ⟨fun _ => ⟨fun c => by omega, fun _ => ?_⟩, fun c => by omega⟩
      exact c_boardn1 wH xH xT hp3 fun A A0 A6 A7 => at35 A _ A0 A6 A7 (Or.inl ⟨hcs, va_s⟩)
    · have w58 := wW.1
      refine b_x_asks_0 (t0 := o) (h := ?_) ..
      rw [xH.1, xW.2.1, xW.1, hF1, show ((t + 1 : Nat) : Int) - 1 = (t : Int) by omega, show (iI (t : Int)).toNatClampNeg = t by rw [z_nat (by omega)]; omega, hF3]
      simp (disch := omega) only [z_lit, z_litl, z_neg, z_negl, z_add, z_sub, z_mul, z_addl, z_subl, z_mull, z_cc, z_cl, z_cr, z_cm, z_cml, z_cmr, z_lt, z_le, z_eq, z_ltl, z_lel, z_eql, z_nat, z_i2l, z_l2i, z_div, z_sh, Int.toNat_natCast, z_ts, z_tsl]
      refine ⟨fun _ => ⟨fun _ => ⟨by omega, rfl, ?_⟩, fun c => by omega⟩, fun c => by omega⟩
      exact c_boardt1 wH xH xT hp3 fun A A0 A6 A7 => at35 A _ A0 A6 A7 (Or.inr ⟨o, va_s, hF4, hok⟩)
  · refine b_x_asks_0 (t0 := 0) (h := ?_) ..
    rw [xH.1]
    refine ⟨fun c => by simp (disch := omega) only [z_lit, z_litl, z_neg, z_negl, z_add, z_sub, z_mul, z_addl, z_subl, z_mull, z_cc, z_cl, z_cr, z_cm, z_cml, z_cmr, z_lt, z_le, z_eq, z_ltl, z_lel, z_eql, z_nat, z_i2l, z_l2i, z_div, z_sh, Int.toNat_natCast, z_ts, z_tsl] at c; omega, fun _ => ?_⟩
    refine k_mid (b_m_asks_0 (h := ?_) ..)
    simp (disch := omega) only [z_lit, z_litl, z_neg, z_negl, z_add, z_sub, z_mul, z_addl, z_subl, z_mull, z_cc, z_cl, z_cr, z_cm, z_cml, z_cmr, z_lt, z_le, z_eq, z_ltl, z_lel, z_eql, z_nat, z_i2l, z_l2i, z_div, z_sh, Int.toNat_natCast, z_ts, z_tsl, e56]
    exact ⟨fun c => by omega, fun _ => k_fin0 rfl hI'⟩
