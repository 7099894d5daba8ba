/-! .. by induction on how a text was read -/
def EVg (X : mm_X) (f : Nat → Int32) (fl : Nat → Int64) (g : Nat → Nat → Int32) (gl : Nat → Nat → Int64) (hh : Nat → Nat → Option Nat) (v : Nat → Value) (tx : mm_W) (t : Nat) (E : pE) (mode deep i j tt : Nat) (e e' : pE → Option Int) : Prop := ∀ (lv bk : Nat) (a : Nat → Int32) (K : Nat) (P : Option Value → mm_W → Prop), lv ≤ 1 → bk ≤ 1 → 8 * (8 - deep) ≤ K → match mode with
  | 0 => (∀ r b' a', SV lv bk (e' E) r b' → P (some (.long (lI r))) (Wd (va_up (va_up f 4758 (iI ((400 * t + (j) : Nat) : Int))) 4760 (iI ((b' : Nat) : Int))) fl (va_up g 87 a') gl hh v tx)) → WP X (K + 4) 183 (0, [some (.ref 74), some (.int (iI lv)), none, none], [], (Wd (va_up (va_up f 4758 (iI ((400 * t + (i) : Nat) : Int))) 4760 (iI ((bk : Nat) : Int))) fl (va_up g 87 a) gl hh v tx)) P
  | 1 => (∀ r b' a', SV lv bk (e' E) r b' → P (some (.long (lI r))) (Wd (va_up (va_up f 4758 (iI ((400 * t + (j) : Nat) : Int))) 4760 (iI ((b' : Nat) : Int))) fl (va_up g 87 a') gl hh v tx)) → WP X (K + 5) 182 (0, [some (.ref 74), some (.int (iI lv)), none, none, none, none, none], [], (Wd (va_up (va_up f 4758 (iI ((400 * t + (i) : Nat) : Int))) 4760 (iI ((bk : Nat) : Int))) fl (va_up g 87 a) gl hh v tx)) P
  | 2 => (∀ r b' a', SV lv bk (e' E) r b' → P (some (.long (lI r))) (Wd (va_up (va_up f 4758 (iI ((400 * t + (j) : Nat) : Int))) 4760 (iI ((b' : Nat) : Int))) fl (va_up g 87 a') gl hh v tx)) → WP X (K + 6) 181 (0, [some (.ref 74), some (.int (iI lv)), none, none, none, none, none], [], (Wd (va_up (va_up f 4758 (iI ((400 * t + (i) : Nat) : Int))) 4760 (iI ((bk : Nat) : Int))) fl (va_up g 87 a) gl hh v tx)) P
  | 3 => (∀ r b' a', TV lv bk (e' E) r b' → P (some (.int (iI (r : Int)))) (Wd (va_up (va_up f 4758 (iI ((400 * t + (j) : Nat) : Int))) 4760 (iI ((b' : Nat) : Int))) fl (va_up g 87 a') gl hh v tx)) → WP X (K + 8) 187 (2, [some (.ref 74), some (.int (iI lv)), some (.int (iI tt))], [], (Wd (va_up (va_up f 4758 (iI ((400 * t + (i) : Nat) : Int))) 4760 (iI ((bk : Nat) : Int))) fl (va_up g 87 a) gl hh v tx)) P
  | 4 => (∀ r b' a', TV lv bk (e' E) r b' → P (some (.int (iI (r : Int)))) (Wd (va_up (va_up f 4758 (iI ((400 * t + (j) : Nat) : Int))) 4760 (iI ((b' : Nat) : Int))) fl (va_up g 87 a') gl hh v tx)) → WP X (K + 9) 186 (0, [some (.ref 74), some (.int (iI lv)), none, none], [], (Wd (va_up (va_up f 4758 (iI ((400 * t + (i) : Nat) : Int))) 4760 (iI ((bk : Nat) : Int))) fl (va_up g 87 a) gl hh v tx)) P
  | 5 => (∀ r b' a', TV lv bk (e' E) r b' → P (some (.int (iI (r : Int)))) (Wd (va_up (va_up f 4758 (iI ((400 * t + (j) : Nat) : Int))) 4760 (iI ((b' : Nat) : Int))) fl (va_up g 87 a') gl hh v tx)) → WP X (K + 10) 185 (0, [some (.ref 74), some (.int (iI lv)), none, none], [], (Wd (va_up (va_up f 4758 (iI ((400 * t + (i) : Nat) : Int))) 4760 (iI ((bk : Nat) : Int))) fl (va_up g 87 a) gl hh v tx)) P
  | 6 => ∀ r b1, SV lv bk (e E) r b1 → (∀ r b' a', SV lv bk (e' E) r b' → P (some (.long (lI r))) (Wd (va_up (va_up f 4758 (iI ((400 * t + (j) : Nat) : Int))) 4760 (iI ((b' : Nat) : Int))) fl (va_up g 87 a') gl hh v tx)) → WP X (K + 5) 182 (6, [some (.ref 74), some (.int (iI lv)), some (.long (lI r)), none, none, none, none], [], (Wd (va_up (va_up f 4758 (iI ((400 * t + (i) : Nat) : Int))) 4760 (iI ((b1 : Nat) : Int))) fl (va_up g 87 a) gl hh v tx)) P
  | 7 => ∀ r b1, SV lv bk (e E) r b1 → (∀ r b' a', SV lv bk (e' E) r b' → P (some (.long (lI r))) (Wd (va_up (va_up f 4758 (iI ((400 * t + (j) : Nat) : Int))) 4760 (iI ((b' : Nat) : Int))) fl (va_up g 87 a') gl hh v tx)) → WP X (K + 6) 181 (6, [some (.ref 74), some (.int (iI lv)), some (.long (lI r)), none, none, none, none], [], (Wd (va_up (va_up f 4758 (iI ((400 * t + (i) : Nat) : Int))) 4760 (iI ((b1 : Nat) : Int))) fl (va_up g 87 a) gl hh v tx)) P
  | 8 => ∀ r b1, TV lv bk (e E) r b1 → (∀ r b' a', TV lv bk (e' E) r b' → P (some (.int (iI (r : Int)))) (Wd (va_up (va_up f 4758 (iI ((400 * t + (j) : Nat) : Int))) 4760 (iI ((b' : Nat) : Int))) fl (va_up g 87 a') gl hh v tx)) → WP X (K + 9) 186 (6, [some (.ref 74), some (.int (iI lv)), some (.int (iI (r : Int))), none], [], (Wd (va_up (va_up f 4758 (iI ((400 * t + (i) : Nat) : Int))) 4760 (iI ((b1 : Nat) : Int))) fl (va_up g 87 a) gl hh v tx)) P
  | _ => ∀ r b1, TV lv bk (e E) r b1 → (∀ r b' a', TV lv bk (e' E) r b' → P (some (.int (iI (r : Int)))) (Wd (va_up (va_up f 4758 (iI ((400 * t + (j) : Nat) : Int))) 4760 (iI ((b' : Nat) : Int))) fl (va_up g 87 a') gl hh v tx)) → WP X (K + 10) 185 (6, [some (.ref 74), some (.int (iI lv)), some (.int (iI (r : Int))), none], [], (Wd (va_up (va_up f 4758 (iI ((400 * t + (i) : Nat) : Int))) 4760 (iI ((b1 : Nat) : Int))) fl (va_up g 87 a) gl hh v tx)) P
def EVn (X : mm_X) (f : Nat → Int32) (fl : Nat → Int64) (g : Nat → Nat → Int32) (gl : Nat → Nat → Int64) (hh : Nat → Nat → Option Nat) (v : Nat → Value) (tx : mm_W) (κ : Nat → Nat) (t : Nat) (sec : Bool) (E : pE) (n : Nat) : Prop := ∀ (mode deep i p o tt : Nat) (C : List Nat) (e : pE → Option Int) (j p' : Nat) (C' : List Nat) (e' : pE → Option Int), pP (tkC κ t) (tkV κ t) sec n mode deep i p o tt C e = some (.inr (j, p', C', e')) → mode ≤ 9 → tt ≤ 1 → deep ≤ 8 → i ≤ κ (60 + t) → p ≤ 50 → (6 ≤ mode → p_rg mode (e E)) → EVg X f fl g gl hh v tx t E mode deep i j tt e e'
theorem tkC_0 {κ : Nat → Nat} {t i : Nat} (h : κ (60 + t) ≤ i) : tkC κ t i = 0 := if_neg (by omega)
theorem tkC_s {κ : Nat → Nat} {t i : Nat} (h : tkC κ t i ≠ 0) : i < κ (60 + t) := by
  by_cases c : i < κ (60 + t)
  · exact c
  · exact absurd (tkC_0 (by omega)) h
/-- a word of orders -/
theorem ev_ord {X : mm_X} {d : Nat} {f : Nat → Int32} {fl : Nat → Int64} {g : Nat → Nat → Int32} {gl : Nat → Nat → Int64} {hh : Nat → Nat → Option Nat} {v : Nat → Value} {tx : mm_W} {P : Option Value → mm_W → Prop} {κ : Nat → Nat} {t : Nat} {E : pE} (hH : evH true f g κ t E) {i bk cc w k : Nat} {a : Nat → Int32} (hw : p_word true cc = some w) (hk : k ≤ 2) (hk2 : w < 5 → k = 0) (h : ∀ a', P (some (.int (iI (E (w + k))))) (Wd (va_up (va_up f 4758 (iI ((400 * t + (i) : Nat) : Int))) 4760 (iI ((bk : Nat) : Int))) fl (va_up g 87 a') gl hh v tx)) : WP X (d + 3) 184 (0, [some (.ref 74), some (.int (iI cc)), some (.int (iI k))], [], (Wd (va_up (va_up f 4758 (iI ((400 * t + (i) : Nat) : Int))) 4760 (iI ((bk : Nat) : Int))) fl (va_up g 87 a) gl hh v tx)) P := by
  obtain ⟨hm, hwS, hwL, hwH, hB, ht, hsz, hend, ⟨h1, h2, h3, h4, h5, h6, h7, h8⟩, hE⟩ := hH
  have b56 := hwH.1
  have e56 := hm.1 56 (by decide)
  have e22 := hm.1 22 (by decide)
  have e12 := hm.1 12 (by decide)
  have v2 : va_up g 87 a 76 = g 76 := va_ne (by decide)
  have v3 : (va_up (va_up f 4758 (iI ((400 * t + i : Nat) : Int))) 4760 (iI (bk : Int))) 4763 = iI (E 1) := by rw [va_ne (by decide), va_ne (by decide)]; exact h2
  have v4 : (va_up (va_up f 4758 (iI ((400 * t + i : Nat) : Int))) 4760 (iI (bk : Int))) 4764 = iI (E 2) := by rw [va_ne (by decide), va_ne (by decide)]; exact h3
  have ha := h a
  refine b_m_orderValue_0 (h := ?_) ..
  rw [v2, v3, v4, e22, e12, e56]
  rcases p_word_v2 hw with ⟨rfl, rfl⟩ | ⟨rfl, rfl⟩ | ⟨rfl, rfl⟩ | ⟨rfl, rfl⟩ | ⟨rfl, rfl⟩ | ⟨rfl, rfl⟩ | ⟨rfl, rfl⟩
  · have ek := h7 k (by omega)
    rw [ek] at ha
    have e13 := hm.1 (13 + k) (by omega)
    refine ⟨fun _ => ?_, fun c => absurd rfl c⟩
    simp (disch := omega) only [z_lit, z_litl, z_neg, z_negl, z_add, z_sub, z_mul, z_addl, z_subl, z_mull, z_cc, z_cl, z_cr, z_cm, z_cml, z_cmr, z_lt, z_le, z_eq, z_ltl, z_lel, z_eql, z_nat, z_i2l, z_l2i, z_div, z_sh, Int.toNat_natCast, z_ts, z_tsl, e13]
    refine ⟨fun c => ⟨by omega, ?_⟩, fun c => ?_⟩
    · rw [if_pos (by omega)] at ha; exact ha
    · rw [if_neg (by omega)] at ha; exact ha
  · have ek := h8 k (by omega)
    rw [ek] at ha
    have e13 := hm.1 (19 + k) (by omega)
    refine ⟨fun c => absurd c (by decide), fun _ => ⟨fun _ => ?_, fun c => absurd rfl c⟩⟩
    simp (disch := omega) only [z_lit, z_litl, z_neg, z_negl, z_add, z_sub, z_mul, z_addl, z_subl, z_mull, z_cc, z_cl, z_cr, z_cm, z_cml, z_cmr, z_lt, z_le, z_eq, z_ltl, z_lel, z_eql, z_nat, z_i2l, z_l2i, z_div, z_sh, Int.toNat_natCast, z_ts, z_tsl, e13]
    refine ⟨fun c => ⟨by omega, ?_⟩, fun c => ?_⟩
    · rw [if_pos (by omega)] at ha; exact ha
    · rw [if_neg (by omega)] at ha; exact ha
  all_goals have ek := hk2 (by omega)
  all_goals subst ek
  · refine ⟨fun c => absurd c (by decide), fun _ => ⟨fun c => absurd c (by decide), fun _ => ⟨fun _ => ?_, fun c => absurd rfl c⟩⟩⟩
    rw [show 0 + 0 = 0 from rfl, h4] at ha
    exact ha
  · exact ⟨fun c => absurd c (by decide), fun _ => ⟨fun c => absurd c (by decide), fun _ => ⟨fun c => absurd c (by decide), fun _ => ⟨fun _ => ha, fun c => absurd rfl c⟩⟩⟩⟩
  · exact ⟨fun c => absurd c (by decide), fun _ => ⟨fun c => absurd c (by decide), fun _ => ⟨fun c => absurd c (by decide), fun _ => ⟨fun c => absurd c (by decide), fun _ => ⟨fun _ => ha, fun c => absurd rfl c⟩⟩⟩⟩⟩
  · refine ⟨fun c => absurd c (by decide), fun _ => ⟨fun c => absurd c (by decide), fun _ => ⟨fun c => absurd c (by decide), fun _ => ⟨fun c => absurd c (by decide), fun _ => ⟨fun c => absurd c (by decide), fun _ => ⟨fun _ => ?_, fun c => absurd rfl c⟩⟩⟩⟩⟩⟩
    rw [show 3 + 0 = 3 from rfl, h5] at ha
    exact ha
  · refine ⟨fun c => absurd c (by decide), fun _ => ⟨fun c => absurd c (by decide), fun _ => ⟨fun c => absurd c (by decide), fun _ => ⟨fun c => absurd c (by decide), fun _ => ⟨fun c => absurd c (by decide), fun _ => ⟨fun c => absurd c (by decide), fun _ => ?_⟩⟩⟩⟩⟩⟩
    refine c_m_readings (κ := κ) (g := va_up g 87 a) (by exact hm) hwS hwL fun a2 _ => ?_
    refine b_m_orderValue_111 (h := ?_) ..
    have := h a2
    rw [show 4 + 0 = 4 from rfl, h6] at this
    rw [va_tw]
    exact this
theorem ev_0 {X : mm_X} {f : Nat → Int32} {fl : Nat → Int64} {g : Nat → Nat → Int32} {gl : Nat → Nat → Int64} {hh : Nat → Nat → Option Nat} {v : Nat → Value} {tx : mm_W} {κ : Nat → Nat} {t : Nat} {sec : Bool} {E : pE} (hH : evH sec f g κ t E) {n : Nat} (ih : EVn X f fl g gl hh v tx κ t sec E n) {deep i p o tt : Nat} {C : List Nat} {e : pE → Option Int} {j p' : Nat} {C' : List Nat} {e' : pE → Option Int} (h : pS (tkC κ t) (tkV κ t) sec (pP (tkC κ t) (tkV κ t) sec n) 0 deep i p o tt C e = some (.inr (j, p', C', e'))) (hd : deep ≤ 8) (hi : i ≤ κ (60 + t)) (hp : p ≤ 50) : EVg X f fl g gl hh v tx t E 0 deep i j tt e e' := by
  intro lv bk a K P hl hb hK hP
  have hP : ∀ r b' a', SV lv bk (e' E) r b' → P (some (.long (lI r))) (Wd (va_up (va_up f 4758 (iI ((400 * t + (j) : Nat) : Int))) 4760 (iI ((b' : Nat) : Int))) fl (va_up g 87 a') gl hh v tx) := hP
  show WP X (K + 4) 183 (0, [some (.ref 74), some (.int (iI lv)), none, none], [], (Wd (va_up (va_up f 4758 (iI ((400 * t + (i) : Nat) : Int))) 4760 (iI ((bk : Nat) : Int))) fl (va_up g 87 a) gl hh v tx)) P
  have hH' := hH
  obtain ⟨hm, hwS, hwL, hwH, hB, ht, hsz, hend, hev, hE⟩ := hH'
  have hc0 : ∀ i, κ (60 + t) ≤ i → tkC κ t i = 0 := fun i hi => tkC_0 hi
  have v61 : ∀ x y : Int32, (va_up (va_up f 4758 x) 4760 y) 4761 = f 4761 := fun x y => by rw [va_ne (by decide), va_ne (by decide)]
  have v58 : ∀ x y : Int32, (va_up (va_up f 4758 x) 4760 y) 4758 = x := fun x y => by rw [va_ne (by decide), va_s]
  have v60 : ∀ x y : Int32, (va_up (va_up f 4758 x) 4760 y) 4760 = y := fun x y => va_s
  have v2 : va_up g 87 a 76 = g 76 := va_ne (by decide)
  have v86 : va_up g 87 a 86 = g 86 := va_ne (by decide)
  have hlt := tkC_lt hB t i
  have dead : ∀ {x : Option Int}, (lv = 0 ∨ bk = 1) → SV lv bk x 0 bk := fun h => Or.inr (Or.inr ⟨h, rfl, rfl⟩)
  have at38 : tkC κ t i ≠ 191 → WP X (K + 4) 183 (38, [some (.ref 74), some (.int (iI lv)), none, none], [.int (iI (tkC κ t i))], (Wd (va_up (va_up f 4758 (iI ((400 * t + (i) : Nat) : Int))) 4760 (iI ((bk : Nat) : Int))) fl (va_up g 87 a) gl hh v tx)) P → WP X (K + 4) 183 (0, [some (.ref 74), some (.int (iI lv)), none, none], [], (Wd (va_up (va_up f 4758 (iI ((400 * t + (i) : Nat) : Int))) 4760 (iI ((bk : Nat) : Int))) fl (va_up g 87 a) gl hh v tx)) P := by
    intro hne hgo
    refine b_m_partOf_0 (h := ?_) ..
    refine ev_pass (d := K + 2) hH hi (cc := 191) (by omega) (fun c => absurd c hne) fun _ => ?_
    refine b_m_partOf_9 (h := ?_) ..
    refine ⟨fun _ => ?_, fun c => absurd rfl c⟩
    rw [v58]
    refine ev_code hH hi ?_
    exact hgo
  rcases pi0 h with ⟨c1, c2, j0, p0, C0, e0, h1, c3, hq⟩ | ⟨c1, c2, c3, hq⟩ | ⟨w, c1, c2, c3, c4, c5, c6, c7, c8, hq⟩ | ⟨w, c1, c2, c3, c4, c5, hq⟩
  · have hi2 := tkC_s (i := i) (t := t) (κ := κ) (by omega)
    obtain ⟨K2, rfl⟩ : ∃ K2, K = K2 + 8 := ⟨K - 8, by omega⟩
    obtain ⟨g1, g2, g3, -⟩ := p_inv hc0 hE _ _ _ _ _ _ _ _ _ _ _ _ _ h1 (by omega) (by omega) (by omega) hp (fun h => by omega)
    cases hq
    refine b_m_partOf_0 (h := ?_) ..
    refine ev_pass (d := K2 + 8 + 2) hH hi (cc := 191) (by omega) (fun _ => ?_) fun c => absurd c1 c
    refine b_m_partOf_9 (h := ?_) ..
    refine ⟨fun c => absurd c (by decide), fun _ => ?_⟩
    refine ih _ _ _ _ _ _ _ _ _ _ _ _ h1 (by omega) (by omega) (by omega) (by omega) hp (fun h => by omega) lv bk a (K2 + 5) _ hl hb (by omega) fun r b' a' hr => ?_
    refine b_m_partOf_17 (h := ?_) ..
    rw [v58]
    simp (disch := omega) only [z_lit, z_litl, z_neg, z_negl, z_add, z_sub, z_mul, z_addl, z_subl, z_mull, z_cc, z_cl, z_cr, z_cm, z_cml, z_cmr, z_lt, z_le, z_eq, z_ltl, z_lel, z_eql, z_nat, z_i2l, z_l2i, z_div, z_sh, Int.toNat_natCast, z_ts, z_tsl]
    simp (disch := decide) only [va_cm, va_tw]
    exact hP r b' a' hr
  · have hi2 := tkC_s (i := i) (t := t) (κ := κ) (by omega)
    cases hq
    refine at38 (by omega) ?_
    have e67 := hm.1 (2867 + (400 * t + i)) (by omega)
    have at94 : WP X (K + 4) 183 (94, [some (.ref 74), some (.int (iI lv)), some (.int (iI 50)), some (.int (iI 0))], [], (Wd (va_up (va_up f 4758 (iI ((400 * t + (i + 1) : Nat) : Int))) 4760 (iI ((bk : Nat) : Int))) fl (va_up g 87 a) gl hh v tx)) P := by
      refine b_m_partOf_94 (h := ?_) ..
      rw [v60, v2, v58]
      have e1 : ((2867 : Int32) + iI ((400 * t + (i + 1) : Nat) : Int)) - (1 : Int32) = iI ((2867 + (400 * t + i) : Nat) : Int) := by
        simp (disch := omega) only [z_lit, z_litl, z_neg, z_negl, z_add, z_sub, z_mul, z_addl, z_subl, z_mull, z_cc, z_cl, z_cr, z_cm, z_cml, z_cmr, z_lt, z_le, z_eq, z_ltl, z_lel, z_eql, z_nat, z_i2l, z_l2i, z_div, z_sh, Int.toNat_natCast, z_ts, z_tsl]
        congr 1
        omega
      rw [e1]
      have hb2 := hB (2867 + (400 * t + i))
      simp (disch := omega) only [z_lit, z_litl, z_neg, z_negl, z_add, z_sub, z_mul, z_addl, z_subl, z_mull, z_cc, z_cl, z_cr, z_cm, z_cml, z_cmr, z_lt, z_le, z_eq, z_ltl, z_lel, z_eql, z_nat, z_i2l, z_l2i, z_div, z_sh, Int.toNat_natCast, z_ts, z_tsl, e67]
      refine ⟨fun c => ?_, fun c => ⟨fun c2 => ⟨fun c3 => absurd trivial c3, fun _ => ⟨by omega, ?_⟩⟩, fun c2 => ?_⟩⟩
      · exact hP 0 bk a (dead (by omega))
      · have e0 : tkV κ t i = κ (2867 + (400 * t + i)) := by rw [tkV, if_pos hi2, Nat.add_assoc]
        exact hP _ bk a (Or.inl ⟨by omega, by omega, by rw [e0], by omega⟩)
      · exact hP 0 bk a (dead (by omega))
    refine b_m_partOf_38 (h := ?_) ..
    rw [v61, v58, c1]
    simp (disch := omega) only [z_lit, z_litl, z_neg, z_negl, z_add, z_sub, z_mul, z_addl, z_subl, z_mull, z_cc, z_cl, z_cr, z_cm, z_cml, z_cmr, z_lt, z_le, z_eq, z_ltl, z_lel, z_eql, z_nat, z_i2l, z_l2i, z_div, z_sh, Int.toNat_natCast, z_ts, z_tsl]
    simp (disch := decide) only [va_cm, va_tw]
    have at94 : WP X (K + 4) 183 (94, [some (.ref 74), some (.int (iI lv)), some (.int (iI ((50 : Nat) : Int))), some (.int (iI 0))], [], (Wd (va_up (va_up f 4758 (iI ((400 * t + (i + 1) : Nat) : Int))) 4760 (iI ((bk : Nat) : Int))) fl (va_up g 87 a) gl hh v tx)) P := at94
    exact ⟨fun _ => at94, fun _ => ⟨fun c => by omega, fun _ => ⟨fun _ => at94, fun c => by omega⟩⟩⟩
  · have hi2 := tkC_s (i := i + 1) (t := t) (κ := κ) (by omega)
    subst c5
    cases hq
    refine at38 c1 ?_
    have hev' := hev
    obtain ⟨q1, -⟩ := hev'
    have e67 := hm.1 (2867 + (400 * t + (i + 1))) (by omega)
    have ek : tkV κ t (i + 1) = κ (2867 + (400 * t + (i + 1))) := by rw [tkV, if_pos hi2, Nat.add_assoc]
    have hEv := hE (w + tkV κ t (i + 1))
    have at94 : WP X (K + 4) 183 (94, [some (.ref 74), some (.int (iI lv)), some (.int (iI (tkC κ t i))), some (.int (iI (tkV κ t (i + 1))))], [], (Wd (va_up (va_up f 4758 (iI ((400 * t + (i + 2) : Nat) : Int))) 4760 (iI ((bk : Nat) : Int))) fl (va_up g 87 a) gl hh v tx)) P := by
      refine b_m_partOf_94 (h := ?_) ..
      rw [v60, v61, q1]
      refine ⟨fun c => ?_, fun c => ⟨fun c2 => ⟨fun _ => ⟨fun c4 => absurd c4 (by decide), fun _ => ?_⟩, fun c3 => ?_⟩, fun c2 => ?_⟩⟩
      · simp (disch := omega) only [z_lit, z_litl, z_neg, z_negl, z_add, z_sub, z_mul, z_addl, z_subl, z_mull, z_cc, z_cl, z_cr, z_cm, z_cml, z_cmr, z_lt, z_le, z_eq, z_ltl, z_lel, z_eql, z_nat, z_i2l, z_l2i, z_div, z_sh, Int.toNat_natCast, z_ts, z_tsl] at c
        exact hP 0 bk a (dead (by omega))
      · simp (disch := omega) only [z_lit, z_litl, z_neg, z_negl, z_add, z_sub, z_mul, z_addl, z_subl, z_mull, z_cc, z_cl, z_cr, z_cm, z_cml, z_cmr, z_lt, z_le, z_eq, z_ltl, z_lel, z_eql, z_nat, z_i2l, z_l2i, z_div, z_sh, Int.toNat_natCast, z_ts, z_tsl] at c c2
        refine ev_ord hH c4 (by omega) (by omega) fun a' => ?_
        refine b_m_partOf_143 (h := ?_) ..
        rw [z_i2l hEv]
        exact hP _ bk a' (Or.inl ⟨by omega, by omega, rfl, by omega⟩)
      · simp (disch := omega) only [z_lit, z_litl, z_neg, z_negl, z_add, z_sub, z_mul, z_addl, z_subl, z_mull, z_cc, z_cl, z_cr, z_cm, z_cml, z_cmr, z_lt, z_le, z_eq, z_ltl, z_lel, z_eql, z_nat, z_i2l, z_l2i, z_div, z_sh, Int.toNat_natCast, z_ts, z_tsl] at c3
        omega
      · simp (disch := omega) only [z_lit, z_litl, z_neg, z_negl, z_add, z_sub, z_mul, z_addl, z_subl, z_mull, z_cc, z_cl, z_cr, z_cm, z_cml, z_cmr, z_lt, z_le, z_eq, z_ltl, z_lel, z_eql, z_nat, z_i2l, z_l2i, z_div, z_sh, Int.toNat_natCast, z_ts, z_tsl] at c2
        exact hP 0 bk a (dead (by omega))
    have at70 : WP X (K + 4) 183 (70, [some (.ref 74), some (.int (iI lv)), some (.int (iI (tkC κ t i))), none], [], (Wd (va_up (va_up f 4758 (iI ((400 * t + (i + 1) : Nat) : Int))) 4760 (iI ((bk : Nat) : Int))) fl (va_up g 87 a) gl hh v tx)) P := by
      refine b_m_partOf_70 (h := ?_) ..
      rw [v58, v2]
      simp (disch := omega) only [z_lit, z_litl, z_neg, z_negl, z_add, z_sub, z_mul, z_addl, z_subl, z_mull, z_cc, z_cl, z_cr, z_cm, z_cml, z_cmr, z_lt, z_le, z_eq, z_ltl, z_lel, z_eql, z_nat, z_i2l, z_l2i, z_div, z_sh, Int.toNat_natCast, z_ts, z_tsl, e67]
      simp (disch := decide) only [va_cm, va_tw]
      rw [← ek]
      exact ⟨by omega, at94⟩
    refine b_m_partOf_38 (h := ?_) ..
    rw [v61, v58, q1]
    have hw := p_word_v2 c4
    simp (disch := omega) only [z_lit, z_litl, z_neg, z_negl, z_add, z_sub, z_mul, z_addl, z_subl, z_mull, z_cc, z_cl, z_cr, z_cm, z_cml, z_cmr, z_lt, z_le, z_eq, z_ltl, z_lel, z_eql, z_nat, z_i2l, z_l2i, z_div, z_sh, Int.toNat_natCast, z_ts, z_tsl]
    simp (disch := decide) only [va_cm, va_tw]
    exact ⟨fun c => by omega, fun _ => ⟨fun _ => at70, fun c => ⟨fun c2 => by omega, fun _ => at70⟩⟩⟩
  · have hi2 := tkC_s (i := i) (t := t) (κ := κ) (p_word_n c4).1
    have hEv := hE w
    cases hq
    refine at38 c1 ?_
    cases sec with
    | false =>
      obtain ⟨q1, q2⟩ := hev
      have hw := p_word_v c4
      have q3 := q2 _ _ c4
      refine b_m_partOf_38 (h := ?_) ..
      rw [v61, v58, q1]
      refine ⟨fun _ => ?_, fun c => absurd rfl c⟩
      have e1 : iI ((400 * t + i : Nat) : Int) + (1 : Int32) = iI ((400 * t + (i + 1) : Nat) : Int) := by simp (disch := omega) only [z_lit, z_litl, z_neg, z_negl, z_add, z_sub, z_mul, z_addl, z_subl, z_mull, z_cc, z_cl, z_cr, z_cm, z_cml, z_cmr, z_lt, z_le, z_eq, z_ltl, z_lel, z_eql, z_nat, z_i2l, z_l2i, z_div, z_sh, Int.toNat_natCast, z_ts, z_tsl]; rfl
      rw [e1]
      simp (disch := decide) only [va_cm, va_tw]
      refine b_m_partOf_94 (h := ?_) ..
      rw [v60, v61, q1, v86]
      refine ⟨fun c => ?_, fun c => ⟨fun c2 => ⟨fun c3 => ⟨fun _ => ?_, fun c4 => absurd rfl c4⟩, fun c3 => ?_⟩, fun c2 => ?_⟩⟩
      · simp (disch := omega) only [z_lit, z_litl, z_neg, z_negl, z_add, z_sub, z_mul, z_addl, z_subl, z_mull, z_cc, z_cl, z_cr, z_cm, z_cml, z_cmr, z_lt, z_le, z_eq, z_ltl, z_lel, z_eql, z_nat, z_i2l, z_l2i, z_div, z_sh, Int.toNat_natCast, z_ts, z_tsl] at c
        exact hP 0 bk a (dead (by omega))
      · simp (disch := omega) only [z_lit, z_litl, z_neg, z_negl, z_add, z_sub, z_mul, z_addl, z_subl, z_mull, z_cc, z_cl, z_cr, z_cm, z_cml, z_cmr, z_lt, z_le, z_eq, z_ltl, z_lel, z_eql, z_nat, z_i2l, z_l2i, z_div, z_sh, Int.toNat_natCast, z_ts, z_tsl] at c c2
        have e2 : iI (tkC κ t i) - (8 : Int32) = iI ((tkC κ t i - 8 : Nat) : Int) := by
          simp (disch := omega) only [z_lit, z_litl, z_neg, z_negl, z_add, z_sub, z_mul, z_addl, z_subl, z_mull, z_cc, z_cl, z_cr, z_cm, z_cml, z_cmr, z_lt, z_le, z_eq, z_ltl, z_lel, z_eql, z_nat, z_i2l, z_l2i, z_div, z_sh, Int.toNat_natCast, z_ts, z_tsl]
          congr 1
          omega
        rw [e2]
        simp (disch := omega) only [z_lit, z_litl, z_neg, z_negl, z_add, z_sub, z_mul, z_addl, z_subl, z_mull, z_cc, z_cl, z_cr, z_cm, z_cml, z_cmr, z_lt, z_le, z_eq, z_ltl, z_lel, z_eql, z_nat, z_i2l, z_l2i, z_div, z_sh, Int.toNat_natCast, z_ts, z_tsl, q3]
        refine ⟨by omega, ?_⟩
        exact hP _ bk a (Or.inl ⟨by omega, by omega, rfl, by omega⟩)
      · simp (disch := omega) only [z_lit, z_litl, z_neg, z_negl, z_add, z_sub, z_mul, z_addl, z_subl, z_mull, z_cc, z_cl, z_cr, z_cm, z_cml, z_cmr, z_lt, z_le, z_eq, z_ltl, z_lel, z_eql, z_nat, z_i2l, z_l2i, z_div, z_sh, Int.toNat_natCast, z_ts, z_tsl] at c3
        omega
      · simp (disch := omega) only [z_lit, z_litl, z_neg, z_negl, z_add, z_sub, z_mul, z_addl, z_subl, z_mull, z_cc, z_cl, z_cr, z_cm, z_cml, z_cmr, z_lt, z_le, z_eq, z_ltl, z_lel, z_eql, z_nat, z_i2l, z_l2i, z_div, z_sh, Int.toNat_natCast, z_ts, z_tsl] at c2
        exact hP 0 bk a (dead (by omega))
    | true =>
      have hev' := hev
      obtain ⟨q1, -⟩ := hev'
      have hw := p_word_v2 c4
      have hw5 : w < 5 := by
        by_cases x : w < 5
        · exact x
        · exact absurd ⟨rfl, by omega⟩ c5
      refine b_m_partOf_38 (h := ?_) ..
      rw [v61, v58, q1]
      have at94 : WP X (K + 4) 183 (94, [some (.ref 74), some (.int (iI lv)), some (.int (iI (tkC κ t i))), some (.int (iI ((0 : Nat) : Int)))], [], (Wd (va_up (va_up f 4758 (iI ((400 * t + (i + 1) : Nat) : Int))) 4760 (iI ((bk : Nat) : Int))) fl (va_up g 87 a) gl hh v tx)) P := by
        refine b_m_partOf_94 (h := ?_) ..
        rw [v60, v61, q1]
        refine ⟨fun c => ?_, fun c => ⟨fun c2 => ⟨fun _ => ⟨fun c4 => absurd c4 (by decide), fun _ => ?_⟩, fun c3 => ?_⟩, fun c2 => ?_⟩⟩
        · simp (disch := omega) only [z_lit, z_litl, z_neg, z_negl, z_add, z_sub, z_mul, z_addl, z_subl, z_mull, z_cc, z_cl, z_cr, z_cm, z_cml, z_cmr, z_lt, z_le, z_eq, z_ltl, z_lel, z_eql, z_nat, z_i2l, z_l2i, z_div, z_sh, Int.toNat_natCast, z_ts, z_tsl] at c
          exact hP 0 bk a (dead (by omega))
        · simp (disch := omega) only [z_lit, z_litl, z_neg, z_negl, z_add, z_sub, z_mul, z_addl, z_subl, z_mull, z_cc, z_cl, z_cr, z_cm, z_cml, z_cmr, z_lt, z_le, z_eq, z_ltl, z_lel, z_eql, z_nat, z_i2l, z_l2i, z_div, z_sh, Int.toNat_natCast, z_ts, z_tsl] at c c2
          refine ev_ord hH c4 (by omega) (fun _ => rfl) fun a' => ?_
          refine b_m_partOf_143 (h := ?_) ..
          rw [Nat.add_zero, z_i2l hEv]
          exact hP _ bk a' (Or.inl ⟨by omega, by omega, rfl, by omega⟩)
        · simp (disch := omega) only [z_lit, z_litl, z_neg, z_negl, z_add, z_sub, z_mul, z_addl, z_subl, z_mull, z_cc, z_cl, z_cr, z_cm, z_cml, z_cmr, z_lt, z_le, z_eq, z_ltl, z_lel, z_eql, z_nat, z_i2l, z_l2i, z_div, z_sh, Int.toNat_natCast, z_ts, z_tsl] at c3
          omega
        · simp (disch := omega) only [z_lit, z_litl, z_neg, z_negl, z_add, z_sub, z_mul, z_addl, z_subl, z_mull, z_cc, z_cl, z_cr, z_cm, z_cml, z_cmr, z_lt, z_le, z_eq, z_ltl, z_lel, z_eql, z_nat, z_i2l, z_l2i, z_div, z_sh, Int.toNat_natCast, z_ts, z_tsl] at c2
          exact hP 0 bk a (dead (by omega))
      simp (disch := omega) only [z_lit, z_litl, z_neg, z_negl, z_add, z_sub, z_mul, z_addl, z_subl, z_mull, z_cc, z_cl, z_cr, z_cm, z_cml, z_cmr, z_lt, z_le, z_eq, z_ltl, z_lel, z_eql, z_nat, z_i2l, z_l2i, z_div, z_sh, Int.toNat_natCast, z_ts, z_tsl]
      simp (disch := decide) only [va_cm, va_tw]
      have at94 : WP X (K + 4) 183 (94, [some (.ref 74), some (.int (iI lv)), some (.int (iI (tkC κ t i))), some (.int (iI 0))], [], (Wd (va_up (va_up f 4758 (iI ((400 * t + (i + 1) : Nat) : Int))) 4760 (iI ((bk : Nat) : Int))) fl (va_up g 87 a) gl hh v tx)) P := at94
      exact ⟨fun c => by omega, fun _ => ⟨fun c => by omega, fun _ => ⟨fun _ => at94, fun c => by omega⟩⟩⟩
theorem ev_1 {X : mm_X} {f : Nat → Int32} {fl : Nat → Int64} {g : Nat → Nat → Int32} {gl : Nat → Nat → Int64} {hh : Nat → Nat → Option Nat} {v : Nat → Value} {tx : mm_W} {κ : Nat → Nat} {t : Nat} {sec : Bool} {E : pE} (hH : evH sec f g κ t E) {n : Nat} (ih : EVn X f fl g gl hh v tx κ t sec E n) {deep i p o tt : Nat} {C : List Nat} {e : pE → Option Int} {j p' : Nat} {C' : List Nat} {e' : pE → Option Int} (h : pS (tkC κ t) (tkV κ t) sec (pP (tkC κ t) (tkV κ t) sec n) 1 deep i p o tt C e = some (.inr (j, p', C', e'))) (hd : deep ≤ 8) (hi : i ≤ κ (60 + t)) (hp : p ≤ 50) : EVg X f fl g gl hh v tx t E 1 deep i j tt e e' := by
  intro lv bk a K P hl hb hK hP
  obtain ⟨hm, hwS, hwL, hwH, hB, ht, hsz, hend, hev, hE⟩ := hH
  obtain ⟨j0, p0, C0, e0, h1, h2⟩ := pi1 h
  obtain ⟨g1, g2, g3, g4, g5, g6, g7, g8, g9, g10⟩ := p_inv (fun i hi => tkC_0 hi) hE _ _ _ _ _ _ _ _ _ _ _ _ _ h1 (by omega) (by omega) hi hp (fun h => by omega)
  show WP X (K + 5) 182 _ P
  refine b_m_termOf_0 (h := ?_) ..
  refine ih _ _ _ _ _ _ _ _ _ _ _ _ h1 (by omega) (by omega) hd hi hp (fun h => by omega) lv bk a K _ hl hb hK fun r b' a' hr => ?_
  refine b_m_termOf_5 (h := ?_) ..
  exact ih _ _ _ _ _ _ _ _ _ _ _ _ h2 (by omega) (by omega) hd g2 g3 (fun _ => g10) lv bk a' K P hl hb hK r b' hr hP
theorem ev_2 {X : mm_X} {f : Nat → Int32} {fl : Nat → Int64} {g : Nat → Nat → Int32} {gl : Nat → Nat → Int64} {hh : Nat → Nat → Option Nat} {v : Nat → Value} {tx : mm_W} {κ : Nat → Nat} {t : Nat} {sec : Bool} {E : pE} (hH : evH sec f g κ t E) {n : Nat} (ih : EVn X f fl g gl hh v tx κ t sec E n) {deep i p o tt : Nat} {C : List Nat} {e : pE → Option Int} {j p' : Nat} {C' : List Nat} {e' : pE → Option Int} (h : pS (tkC κ t) (tkV κ t) sec (pP (tkC κ t) (tkV κ t) sec n) 2 deep i p o tt C e = some (.inr (j, p', C', e'))) (hd : deep ≤ 8) (hi : i ≤ κ (60 + t)) (hp : p ≤ 50) : EVg X f fl g gl hh v tx t E 2 deep i j tt e e' := by
  intro lv bk a K P hl hb hK hP
  obtain ⟨hm, hwS, hwL, hwH, hB, ht, hsz, hend, hev, hE⟩ := hH
  obtain ⟨j0, p0, C0, e0, h1, h2⟩ := pi2 h
  obtain ⟨g1, g2, g3, g4, g5, g6, g7, g8, g9, g10⟩ := p_inv (fun i hi => tkC_0 hi) hE _ _ _ _ _ _ _ _ _ _ _ _ _ h1 (by omega) (by omega) hi hp (fun h => by omega)
  show WP X (K + 6) 181 _ P
  refine b_m_sumOf_0 (h := ?_) ..
  refine ih _ _ _ _ _ _ _ _ _ _ _ _ h1 (by omega) (by omega) hd hi hp (fun h => by omega) lv bk a K _ hl hb hK fun r b' a' hr => ?_
  refine b_m_sumOf_5 (h := ?_) ..
  exact ih _ _ _ _ _ _ _ _ _ _ _ _ h2 (by omega) (by omega) hd g2 g3 (fun _ => g10) lv bk a' K P hl hb hK r b' hr hP
theorem ev_4 {X : mm_X} {f : Nat → Int32} {fl : Nat → Int64} {g : Nat → Nat → Int32} {gl : Nat → Nat → Int64} {hh : Nat → Nat → Option Nat} {v : Nat → Value} {tx : mm_W} {κ : Nat → Nat} {t : Nat} {sec : Bool} {E : pE} (hH : evH sec f g κ t E) {n : Nat} (ih : EVn X f fl g gl hh v tx κ t sec E n) {deep i p o tt : Nat} {C : List Nat} {e : pE → Option Int} {j p' : Nat} {C' : List Nat} {e' : pE → Option Int} (h : pS (tkC κ t) (tkV κ t) sec (pP (tkC κ t) (tkV κ t) sec n) 4 deep i p o tt C e = some (.inr (j, p', C', e'))) (hd : deep ≤ 8) (hi : i ≤ κ (60 + t)) (hp : p ≤ 50) : EVg X f fl g gl hh v tx t E 4 deep i j tt e e' := by
  intro lv bk a K P hl hb hK hP
  obtain ⟨hm, hwS, hwL, hwH, hB, ht, hsz, hend, hev, hE⟩ := hH
  obtain ⟨j0, p0, C0, e0, h1, h2⟩ := pi4 h
  obtain ⟨g1, g2, g3, g4, g5, g6, g7, g8, g9, g10⟩ := p_inv (fun i hi => tkC_0 hi) hE _ _ _ _ _ _ _ _ _ _ _ _ _ h1 (by omega) (by omega) hi hp (fun h => by omega)
  show WP X (K + 9) 186 _ P
  refine b_m_bothOf_0 (h := ?_) ..
  refine b_m_plainOf_0 (h := ?_) ..
  refine ih _ _ _ _ _ _ _ _ _ _ _ _ h1 (by omega) (by omega) hd hi hp (fun h => by omega) lv bk a K _ hl hb hK fun r b' a' hr => ?_
  refine b_m_bothOf_5 (h := ?_) ..
  exact ih _ _ _ _ _ _ _ _ _ _ _ _ h2 (by omega) (by omega) hd g2 g3 (fun _ => g10) lv bk a' K P hl hb hK r b' hr hP
theorem ev_5 {X : mm_X} {f : Nat → Int32} {fl : Nat → Int64} {g : Nat → Nat → Int32} {gl : Nat → Nat → Int64} {hh : Nat → Nat → Option Nat} {v : Nat → Value} {tx : mm_W} {κ : Nat → Nat} {t : Nat} {sec : Bool} {E : pE} (hH : evH sec f g κ t E) {n : Nat} (ih : EVn X f fl g gl hh v tx κ t sec E n) {deep i p o tt : Nat} {C : List Nat} {e : pE → Option Int} {j p' : Nat} {C' : List Nat} {e' : pE → Option Int} (h : pS (tkC κ t) (tkV κ t) sec (pP (tkC κ t) (tkV κ t) sec n) 5 deep i p o tt C e = some (.inr (j, p', C', e'))) (hd : deep ≤ 8) (hi : i ≤ κ (60 + t)) (hp : p ≤ 50) : EVg X f fl g gl hh v tx t E 5 deep i j tt e e' := by
  intro lv bk a K P hl hb hK hP
  obtain ⟨hm, hwS, hwL, hwH, hB, ht, hsz, hend, hev, hE⟩ := hH
  obtain ⟨j0, p0, C0, e0, h1, h2⟩ := pi5 h
  obtain ⟨g1, g2, g3, g4, g5, g6, g7, g8, g9, g10⟩ := p_inv (fun i hi => tkC_0 hi) hE _ _ _ _ _ _ _ _ _ _ _ _ _ h1 (by omega) (by omega) hi hp (fun h => by omega)
  show WP X (K + 10) 185 _ P
  refine b_m_testOf_0 (h := ?_) ..
  refine ih _ _ _ _ _ _ _ _ _ _ _ _ h1 (by omega) (by omega) hd hi hp (fun h => by omega) lv bk a K _ hl hb hK fun r b' a' hr => ?_
  refine b_m_testOf_5 (h := ?_) ..
  exact ih _ _ _ _ _ _ _ _ _ _ _ _ h2 (by omega) (by omega) hd g2 g3 (fun _ => g10) lv bk a' K P hl hb hK r b' hr hP
theorem ev_6 {X : mm_X} {f : Nat → Int32} {fl : Nat → Int64} {g : Nat → Nat → Int32} {gl : Nat → Nat → Int64} {hh : Nat → Nat → Option Nat} {v : Nat → Value} {tx : mm_W} {κ : Nat → Nat} {t : Nat} {sec : Bool} {E : pE} (hH : evH sec f g κ t E) {n : Nat} (ih : EVn X f fl g gl hh v tx κ t sec E n) {deep i p o tt : Nat} {C : List Nat} {e : pE → Option Int} {j p' : Nat} {C' : List Nat} {e' : pE → Option Int} (h : pS (tkC κ t) (tkV κ t) sec (pP (tkC κ t) (tkV κ t) sec n) 6 deep i p o tt C e = some (.inr (j, p', C', e'))) (hd : deep ≤ 8) (hi : i ≤ κ (60 + t)) (hp : p ≤ 50) (he : p_rg 6 (e E)) : EVg X f fl g gl hh v tx t E 6 deep i j tt e e' := by
  intro lv bk a K P hl hb hK r b1 hr hP
  have hP : ∀ r b' a', SV lv bk (e' E) r b' → P (some (.long (lI r))) (Wd (va_up (va_up f 4758 (iI ((400 * t + (j) : Nat) : Int))) 4760 (iI ((b' : Nat) : Int))) fl (va_up g 87 a') gl hh v tx) := hP
  have hH' := hH
  obtain ⟨hm, hwS, hwL, hwH, hB, ht, hsz, hend, hev, hE⟩ := hH'
  have hlt := tkC_lt hB t i
  have hb1 := hr.b hb
  have hrr := hr.rg he
  have v58 : ∀ x y : Int32, (va_up (va_up f 4758 x) 4760 y) 4758 = x := fun x y => by rw [va_ne (by decide), va_s]
  have to54 : ∀ op, p_termop (tkC κ t i) = some op → WP X (K + 5) 182 (54, [some (.ref 74), some (.int (iI lv)), some (.long (lI r)), none, none, none, none], [], (Wd (va_up (va_up f 4758 (iI ((400 * t + (i) : Nat) : Int))) 4760 (iI ((b1 : Nat) : Int))) fl (va_up g 87 a) gl hh v tx)) P := by
    intro op hop
    have hop2 := p_termop_v hop
    rcases pi6 h with ⟨c1, hq⟩ | ⟨op', j0, p0, C0, e0, hop', h1, h2⟩
    · rw [c1] at hop; cases hop
    · rw [hop'] at hop
      cases hop
      have hi2 := tkC_s (i := i) (t := t) (κ := κ) (by omega)
      obtain ⟨g1, g2, g3, g4, g5, g6, g7, g8, g9, g10⟩ := p_inv (fun i hi => tkC_0 hi) hE _ _ _ _ _ _ _ _ _ _ _ _ _ h1 (by omega) (by omega) (by omega) hp (fun h => by omega)
      refine b_m_termOf_54 (h := ?_) ..
      rw [v58]
      refine ev_code hH hi ?_
      refine b_m_termOf_62 (h := ?_) ..
      rw [v58]
      have e1 : iI ((400 * t + i : Nat) : Int) + (1 : Int32) = iI ((400 * t + (i + 1) : Nat) : Int) := by simp (disch := omega) only [z_lit, z_litl, z_neg, z_negl, z_add, z_sub, z_mul, z_addl, z_subl, z_mull, z_cc, z_cl, z_cr, z_cm, z_cml, z_cmr, z_lt, z_le, z_eq, z_ltl, z_lel, z_eql, z_nat, z_i2l, z_l2i, z_div, z_sh, Int.toNat_natCast, z_ts, z_tsl]; rfl
      rw [e1]
      simp (disch := decide) only [va_cm, va_tw]
      refine ih _ _ _ _ _ _ _ _ _ _ _ _ h1 (by omega) (by omega) hd (by omega) hp (fun h => by omega) lv b1 a K _ hl hb1 hK fun w b2 a' hw => ?_
      refine ev_top (by omega) hrr (hw.rg g10) hl (hw.b hb1) fun r' b' hor => ?_
      exact ih _ _ _ _ _ _ _ _ _ _ _ _ h2 (by omega) (by omega) hd g2 g3 (fun _ => p_num_bin) lv bk a' K P hl hb hK r' b' (SV_op (by omega) hl hb hr hw hor) hP
  show WP X (K + 5) 182 _ P
  refine b_m_termOf_6 (h := ?_) ..
  rw [v58]
  refine ev_code hH hi ?_
  refine b_m_termOf_14 (h := ?_) ..
  rw [v58]
  simp (disch := omega) only [z_lit, z_litl, z_neg, z_negl, z_add, z_sub, z_mul, z_addl, z_subl, z_mull, z_cc, z_cl, z_cr, z_cm, z_cml, z_cmr, z_lt, z_le, z_eq, z_ltl, z_lel, z_eql, z_nat, z_i2l, z_l2i, z_div, z_sh, Int.toNat_natCast, z_ts, z_tsl]
  refine ⟨fun c => to54 4 (by rw [show tkC κ t i = 142 by omega]; rfl), fun c => ?_⟩
  refine ev_code hH hi ?_
  refine b_m_termOf_30 (h := ?_) ..
  rw [v58]
  simp (disch := omega) only [z_lit, z_litl, z_neg, z_negl, z_add, z_sub, z_mul, z_addl, z_subl, z_mull, z_cc, z_cl, z_cr, z_cm, z_cml, z_cmr, z_lt, z_le, z_eq, z_ltl, z_lel, z_eql, z_nat, z_i2l, z_l2i, z_div, z_sh, Int.toNat_natCast, z_ts, z_tsl]
  refine ⟨fun c => to54 5 (by rw [show tkC κ t i = 147 by omega]; rfl), fun c2 => ?_⟩
  refine ev_code hH hi ?_
  refine b_m_termOf_46 (h := ?_) ..
  simp (disch := omega) only [z_lit, z_litl, z_neg, z_negl, z_add, z_sub, z_mul, z_addl, z_subl, z_mull, z_cc, z_cl, z_cr, z_cm, z_cml, z_cmr, z_lt, z_le, z_eq, z_ltl, z_lel, z_eql, z_nat, z_i2l, z_l2i, z_div, z_sh, Int.toNat_natCast, z_ts, z_tsl]
  refine ⟨fun c3 => ?_, fun c3 => to54 6 (by rw [show tkC κ t i = 137 by omega]; rfl)⟩
  rcases pi6 h with ⟨c1, hq⟩ | ⟨op', j0, p0, C0, e0, hop', h1, h2⟩
  · cases hq
    exact hP r b1 a hr
  · have := p_termop_v hop'
    omega
theorem ev_7 {X : mm_X} {f : Nat → Int32} {fl : Nat → Int64} {g : Nat → Nat → Int32} {gl : Nat → Nat → Int64} {hh : Nat → Nat → Option Nat} {v : Nat → Value} {tx : mm_W} {κ : Nat → Nat} {t : Nat} {sec : Bool} {E : pE} (hH : evH sec f g κ t E) {n : Nat} (ih : EVn X f fl g gl hh v tx κ t sec E n) {deep i p o tt : Nat} {C : List Nat} {e : pE → Option Int} {j p' : Nat} {C' : List Nat} {e' : pE → Option Int} (h : pS (tkC κ t) (tkV κ t) sec (pP (tkC κ t) (tkV κ t) sec n) 7 deep i p o tt C e = some (.inr (j, p', C', e'))) (hd : deep ≤ 8) (hi : i ≤ κ (60 + t)) (hp : p ≤ 50) (he : p_rg 7 (e E)) : EVg X f fl g gl hh v tx t E 7 deep i j tt e e' := by
  intro lv bk a K P hl hb hK r b1 hr hP
  have hP : ∀ r b' a', SV lv bk (e' E) r b' → P (some (.long (lI r))) (Wd (va_up (va_up f 4758 (iI ((400 * t + (j) : Nat) : Int))) 4760 (iI ((b' : Nat) : Int))) fl (va_up g 87 a') gl hh v tx) := hP
  have hH' := hH
  obtain ⟨hm, hwS, hwL, hwH, hB, ht, hsz, hend, hev, hE⟩ := hH'
  have hlt := tkC_lt hB t i
  have hb1 := hr.b hb
  have hrr := hr.rg he
  have v58 : ∀ x y : Int32, (va_up (va_up f 4758 x) 4760 y) 4758 = x := fun x y => by rw [va_ne (by decide), va_s]
  have to46 : ∀ op, p_sumop (tkC κ t i) = some op → WP X (K + 6) 181 (46, [some (.ref 74), some (.int (iI lv)), some (.long (lI r)), none, none, none, none], [.int (iI (tkC κ t i))], (Wd (va_up (va_up f 4758 (iI ((400 * t + (i) : Nat) : Int))) 4760 (iI ((b1 : Nat) : Int))) fl (va_up g 87 a) gl hh v tx)) P := by
    intro op hop
    have hop2 := p_sumop_v hop
    rcases pi7 h with ⟨c1, hq⟩ | ⟨op', j0, p0, C0, e0, hop', h1, h2⟩
    · rw [c1] at hop; cases hop
    · rw [hop'] at hop
      cases hop
      have hi2 := tkC_s (i := i) (t := t) (κ := κ) (by omega)
      obtain ⟨g1, g2, g3, g4, g5, g6, g7, g8, g9, g10⟩ := p_inv (fun i hi => tkC_0 hi) hE _ _ _ _ _ _ _ _ _ _ _ _ _ h1 (by omega) (by omega) (by omega) hp (fun h => by omega)
      have e1 : iI ((400 * t + i : Nat) : Int) + (1 : Int32) = iI ((400 * t + (i + 1) : Nat) : Int) := by simp (disch := omega) only [z_lit, z_litl, z_neg, z_negl, z_add, z_sub, z_mul, z_addl, z_subl, z_mull, z_cc, z_cl, z_cr, z_cm, z_cml, z_cmr, z_lt, z_le, z_eq, z_ltl, z_lel, z_eql, z_nat, z_i2l, z_l2i, z_div, z_sh, Int.toNat_natCast, z_ts, z_tsl]; rfl
      have call : ∀ l4 : Nat, (l4 = 1 ∧ op = 2 ∨ l4 = 0 ∧ op = 3) → WP X (K + 5) 182 (0, [some (.ref 74), some (.int (iI lv)), none, none, none, none, none], [], (Wd (va_up (va_up f 4758 (iI ((400 * t + (i + 1) : Nat) : Int))) 4760 (iI ((b1 : Nat) : Int))) fl (va_up g 87 a) gl hh v tx)) (fun rv w2 => WP X (K + 5 + 1) 181 (76, [some (.ref 74), some (.int (iI lv)), some (.long (lI r)), none, some (.int (iI l4)), none, none], rv.toList ++ [], w2) P) := by
        intro l4 hl4
        refine ih _ _ _ _ _ _ _ _ _ _ _ _ h1 (by omega) (by omega) hd (by omega) hp (fun h => by omega) lv b1 a K _ hl hb1 hK fun w b2 a' hw => ?_
        have hwr := hw.rg g10
        have last : ∀ r' b', OR_ op r w lv b2 r' b' → WP X (K + 6) 181 (99, [some (.ref 74), some (.int (iI lv)), none, none, none, none, none], [.long (lI r')], (Wd (va_up (va_up f 4758 (iI ((400 * t + (j0) : Nat) : Int))) 4760 (iI ((b' : Nat) : Int))) fl (va_up g 87 a') gl hh v tx)) P := by
          intro r' b' hor
          refine b_m_sumOf_99 (h := ?_) ..
          exact ih _ _ _ _ _ _ _ _ _ _ _ _ h2 (by omega) (by omega) hd g2 g3 (fun _ => p_num_bin) lv bk a' K P hl hb hK r' b' (SV_op (by omega) hl hb hr hw hor) hP
        have bnd : WP X (K + 5) 180 (0, [some (.ref 74), some (.long (lI (opv op r w))), none, some (.int (iI lv))], [], (Wd (va_up (va_up f 4758 (iI ((400 * t + (j0) : Nat) : Int))) 4760 (iI ((b2 : Nat) : Int))) fl (va_up g 87 a') gl hh v tx)) (fun rv w2 => WP X (K + 5 + 1) 181 (99, [some (.ref 74), some (.int (iI lv)), none, none, none, none, none], rv.toList ++ [], w2) P) := by
          refine ev_bounded (opv_rg hrr hwr (by omega)) hl (hw.b hb1) (fun c => last 0 1 ?_) fun c => last _ b2 ?_
          · rw [OR_, if_neg (by omega), if_pos c]; exact ⟨rfl, rfl⟩
          · rw [OR_, if_neg (by omega), if_neg c]; exact ⟨rfl, rfl⟩
        refine b_m_sumOf_76 (h := ?_) ..
        rw [z_subl, z_addl]
        rcases hl4 with ⟨rfl, rfl⟩ | ⟨rfl, rfl⟩
        · exact ⟨fun c => absurd c (by decide), fun _ => bnd⟩
        · exact ⟨fun _ => bnd, fun c => absurd rfl c⟩
      refine b_m_sumOf_46 (h := ?_) ..
      rw [v58, e1]
      simp (disch := decide) only [va_cm, va_tw]
      rcases hop2 with ⟨c1, rfl⟩ | ⟨c1, rfl⟩
      · rw [c1]
        exact ⟨fun c => absurd rfl c, fun _ => call 1 (Or.inl ⟨rfl, rfl⟩)⟩
      · rw [c1]
        exact ⟨fun _ => call 0 (Or.inr ⟨rfl, rfl⟩), fun c => absurd c (by decide)⟩
  show WP X (K + 6) 181 _ P
  refine b_m_sumOf_6 (h := ?_) ..
  rw [v58]
  refine ev_code hH hi ?_
  refine b_m_sumOf_14 (h := ?_) ..
  rw [v58]
  simp (disch := omega) only [z_lit, z_litl, z_neg, z_negl, z_add, z_sub, z_mul, z_addl, z_subl, z_mull, z_cc, z_cl, z_cr, z_cm, z_cml, z_cmr, z_lt, z_le, z_eq, z_ltl, z_lel, z_eql, z_nat, z_i2l, z_l2i, z_div, z_sh, Int.toNat_natCast, z_ts, z_tsl]
  refine ⟨fun c => ?_, fun c => ?_⟩
  · refine ev_code hH hi ?_
    exact to46 2 (by rw [show tkC κ t i = 143 by omega]; rfl)
  refine ev_code hH hi ?_
  refine b_m_sumOf_30 (h := ?_) ..
  rw [v58]
  simp (disch := omega) only [z_lit, z_litl, z_neg, z_negl, z_add, z_sub, z_mul, z_addl, z_subl, z_mull, z_cc, z_cl, z_cr, z_cm, z_cml, z_cmr, z_lt, z_le, z_eq, z_ltl, z_lel, z_eql, z_nat, z_i2l, z_l2i, z_div, z_sh, Int.toNat_natCast, z_ts, z_tsl]
  refine ⟨fun c3 => ?_, fun c3 => ?_⟩
  · rcases pi7 h with ⟨c1, hq⟩ | ⟨op', j0, p0, C0, e0, hop', h1, h2⟩
    · cases hq
      exact hP r b1 a hr
    · have := p_sumop_v hop'
      omega
  · refine ev_code hH hi ?_
    exact to46 3 (by rw [show tkC κ t i = 145 by omega]; rfl)
theorem ev_8 {X : mm_X} {f : Nat → Int32} {fl : Nat → Int64} {g : Nat → Nat → Int32} {gl : Nat → Nat → Int64} {hh : Nat → Nat → Option Nat} {v : Nat → Value} {tx : mm_W} {κ : Nat → Nat} {t : Nat} {sec : Bool} {E : pE} (hH : evH sec f g κ t E) {n : Nat} (ih : EVn X f fl g gl hh v tx κ t sec E n) {deep i p o tt : Nat} {C : List Nat} {e : pE → Option Int} {j p' : Nat} {C' : List Nat} {e' : pE → Option Int} (h : pS (tkC κ t) (tkV κ t) sec (pP (tkC κ t) (tkV κ t) sec n) 8 deep i p o tt C e = some (.inr (j, p', C', e'))) (hd : deep ≤ 8) (hi : i ≤ κ (60 + t)) (hp : p ≤ 50) (he : p_rg 8 (e E)) : EVg X f fl g gl hh v tx t E 8 deep i j tt e e' := by
  intro lv bk a K P hl hb hK r b1 hr hP
  have hP : ∀ r b' a', TV lv bk (e' E) r b' → P (some (.int (iI (r : Int)))) (Wd (va_up (va_up f 4758 (iI ((400 * t + (j) : Nat) : Int))) 4760 (iI ((b' : Nat) : Int))) fl (va_up g 87 a') gl hh v tx) := hP
  have hH' := hH
  obtain ⟨hm, hwS, hwL, hwH, hB, ht, hsz, hend, hev, hE⟩ := hH'
  have hb1 := hr.b hb
  have hr1 := hr.1
  show WP X (K + 9) 186 _ P
  refine b_m_bothOf_6 (h := ?_) ..
  refine ev_pass (d := K + 7) hH hi (cc := 6) (by omega) (fun c => ?_) fun c => ?_
  · rcases pi8 h with ⟨c1, hq⟩ | ⟨j0, p0, C0, e0, hop, h1, h2⟩
    · exact absurd c c1
    · have hi2 := tkC_s (i := i) (t := t) (κ := κ) (by omega)
      obtain ⟨g1, g2, g3, g4, g5, g6, g7, g8, g9, g10⟩ := p_inv (fun i hi => tkC_0 hi) hE _ _ _ _ _ _ _ _ _ _ _ _ _ h1 (by omega) (by omega) (by omega) hp (fun h => by omega)
      have call : ∀ lv' : Nat, lv' = (if lv = 0 ∨ r = 0 then 0 else 1) → WP X (K + 8) 187 (0, [some (.ref 74), some (.int (iI lv')), none], [], (Wd (va_up (va_up f 4758 (iI ((400 * t + (i + 1) : Nat) : Int))) 4760 (iI ((b1 : Nat) : Int))) fl (va_up g 87 a) gl hh v tx)) (fun rv w2 => WP X (K + 8 + 1) 186 (32, [some (.ref 74), some (.int (iI lv)), some (.int (iI (r : Int))), none], rv.toList ++ [], w2) P) := by
        intro lv' hlv
        have hlv1 : lv' ≤ 1 := by rw [hlv]; split <;> omega
        refine b_m_plainOf_0 (h := ?_) ..
        refine ih _ _ _ _ _ _ _ _ _ _ _ _ h1 (by omega) (by omega) hd (by omega) hp (fun h => by omega) lv' b1 a K _ hlv1 hb1 hK fun w b2 a' hw => ?_
        have hw1 := hw.1
        have last : ∀ r' : Nat, r' = (if r = 0 ∨ w = 0 then 0 else 1) → WP X (K + 9) 186 (6, [some (.ref 74), some (.int (iI lv)), some (.int (iI (r' : Int))), none], [], (Wd (va_up (va_up f 4758 (iI ((400 * t + (j0) : Nat) : Int))) 4760 (iI ((b2 : Nat) : Int))) fl (va_up g 87 a') gl hh v tx)) P := fun r' hr' =>
          ih _ _ _ _ _ _ _ _ _ _ _ _ h2 (by omega) (by omega) hd g2 g3 (fun _ => p_tst_sc he g10) lv bk a' K P hl hb hK r' b2 (TV_and hl hb hr hlv hw hr') hP
        refine b_m_bothOf_32 (h := ?_) ..
        simp (disch := omega) only [z_lit, z_litl, z_neg, z_negl, z_add, z_sub, z_mul, z_addl, z_subl, z_mull, z_cc, z_cl, z_cr, z_cm, z_cml, z_cmr, z_lt, z_le, z_eq, z_ltl, z_lel, z_eql, z_nat, z_i2l, z_l2i, z_div, z_sh, Int.toNat_natCast, z_ts, z_tsl]
        refine ⟨fun c => last 0 (by rw [if_pos (by omega)]), fun c => ⟨fun c2 => last 0 (by rw [if_pos (by omega)]), fun c2 => last 1 (by rw [if_neg (by omega)])⟩⟩
      refine b_m_bothOf_12 (h := ?_) ..
      simp (disch := omega) only [z_lit, z_litl, z_neg, z_negl, z_add, z_sub, z_mul, z_addl, z_subl, z_mull, z_cc, z_cl, z_cr, z_cm, z_cml, z_cmr, z_lt, z_le, z_eq, z_ltl, z_lel, z_eql, z_nat, z_i2l, z_l2i, z_div, z_sh, Int.toNat_natCast, z_ts, z_tsl]
      refine ⟨fun c => by omega, fun _ => ⟨fun c2 => call 0 (by rw [if_pos (by omega)]), fun c2 => ⟨fun c3 => call 0 (by rw [if_pos (by omega)]), fun c3 => call 1 (by rw [if_neg (by omega)])⟩⟩⟩
  · rcases pi8 h with ⟨c1, hq⟩ | ⟨j0, p0, C0, e0, hop, h1, h2⟩
    · cases hq
      refine b_m_bothOf_12 (h := ?_) ..
      simp (disch := omega) only [z_lit, z_litl, z_neg, z_negl, z_add, z_sub, z_mul, z_addl, z_subl, z_mull, z_cc, z_cl, z_cr, z_cm, z_cml, z_cmr, z_lt, z_le, z_eq, z_ltl, z_lel, z_eql, z_nat, z_i2l, z_l2i, z_div, z_sh, Int.toNat_natCast, z_ts, z_tsl]
      refine ⟨fun _ => ⟨by first | omega | exact Or.inr trivial | exact Or.inl trivial | exact Or.inr rfl | exact Or.inl rfl, hP r b1 a hr⟩, fun c => absurd trivial c⟩
    · exact absurd hop c
theorem ev_9 {X : mm_X} {f : Nat → Int32} {fl : Nat → Int64} {g : Nat → Nat → Int32} {gl : Nat → Nat → Int64} {hh : Nat → Nat → Option Nat} {v : Nat → Value} {tx : mm_W} {κ : Nat → Nat} {t : Nat} {sec : Bool} {E : pE} (hH : evH sec f g κ t E) {n : Nat} (ih : EVn X f fl g gl hh v tx κ t sec E n) {deep i p o tt : Nat} {C : List Nat} {e : pE → Option Int} {j p' : Nat} {C' : List Nat} {e' : pE → Option Int} (h : pS (tkC κ t) (tkV κ t) sec (pP (tkC κ t) (tkV κ t) sec n) 9 deep i p o tt C e = some (.inr (j, p', C', e'))) (hd : deep ≤ 8) (hi : i ≤ κ (60 + t)) (hp : p ≤ 50) (he : p_rg 9 (e E)) : EVg X f fl g gl hh v tx t E 9 deep i j tt e e' := by
  intro lv bk a K P hl hb hK r b1 hr hP
  have hP : ∀ r b' a', TV lv bk (e' E) r b' → P (some (.int (iI (r : Int)))) (Wd (va_up (va_up f 4758 (iI ((400 * t + (j) : Nat) : Int))) 4760 (iI ((b' : Nat) : Int))) fl (va_up g 87 a') gl hh v tx) := hP
  have hH' := hH
  obtain ⟨hm, hwS, hwL, hwH, hB, ht, hsz, hend, hev, hE⟩ := hH'
  have hb1 := hr.b hb
  have hr1 := hr.1
  show WP X (K + 10) 185 _ P
  refine b_m_testOf_6 (h := ?_) ..
  refine ev_pass (d := K + 8) hH hi (cc := 5) (by omega) (fun c => ?_) fun c => ?_
  · rcases pi9 h with ⟨c1, hq⟩ | ⟨j0, p0, C0, e0, hop, h1, h2⟩
    · exact absurd c c1
    · have hi2 := tkC_s (i := i) (t := t) (κ := κ) (by omega)
      obtain ⟨g1, g2, g3, g4, g5, g6, g7, g8, g9, g10⟩ := p_inv (fun i hi => tkC_0 hi) hE _ _ _ _ _ _ _ _ _ _ _ _ _ h1 (by omega) (by omega) (by omega) hp (fun h => by omega)
      have call : ∀ lv' : Nat, lv' = (if lv = 0 ∨ r ≠ 0 then 0 else 1) → WP X (K + 9) 186 (0, [some (.ref 74), some (.int (iI lv')), none, none], [], (Wd (va_up (va_up f 4758 (iI ((400 * t + (i + 1) : Nat) : Int))) 4760 (iI ((b1 : Nat) : Int))) fl (va_up g 87 a) gl hh v tx)) (fun rv w2 => WP X (K + 9 + 1) 185 (31, [some (.ref 74), some (.int (iI lv)), some (.int (iI (r : Int))), none], rv.toList ++ [], w2) P) := by
        intro lv' hlv
        have hlv1 : lv' ≤ 1 := by rw [hlv]; split <;> omega
        refine ih _ _ _ _ _ _ _ _ _ _ _ _ h1 (by omega) (by omega) hd (by omega) hp (fun h => by omega) lv' b1 a K _ hlv1 hb1 hK fun w b2 a' hw => ?_
        have hw1 := hw.1
        have last : ∀ r' : Nat, r' = (if r = 0 ∧ w = 0 then 0 else 1) → WP X (K + 10) 185 (6, [some (.ref 74), some (.int (iI lv)), some (.int (iI (r' : Int))), none], [], (Wd (va_up (va_up f 4758 (iI ((400 * t + (j0) : Nat) : Int))) 4760 (iI ((b2 : Nat) : Int))) fl (va_up g 87 a') gl hh v tx)) P := fun r' hr' =>
          ih _ _ _ _ _ _ _ _ _ _ _ _ h2 (by omega) (by omega) hd g2 g3 (fun _ => p_tst_sc he g10) lv bk a' K P hl hb hK r' b2 (TV_or hl hb hr hlv hw hr') hP
        refine b_m_testOf_31 (h := ?_) ..
        simp (disch := omega) only [z_lit, z_litl, z_neg, z_negl, z_add, z_sub, z_mul, z_addl, z_subl, z_mull, z_cc, z_cl, z_cr, z_cm, z_cml, z_cmr, z_lt, z_le, z_eq, z_ltl, z_lel, z_eql, z_nat, z_i2l, z_l2i, z_div, z_sh, Int.toNat_natCast, z_ts, z_tsl]
        refine ⟨fun c => last 1 (by rw [if_neg (by omega)]), fun c => ⟨fun c2 => last 0 (by rw [if_pos (by omega)]), fun c2 => last 1 (by rw [if_neg (by omega)])⟩⟩
      refine b_m_testOf_11 (h := ?_) ..
      simp (disch := omega) only [z_lit, z_litl, z_neg, z_negl, z_add, z_sub, z_mul, z_addl, z_subl, z_mull, z_cc, z_cl, z_cr, z_cm, z_cml, z_cmr, z_lt, z_le, z_eq, z_ltl, z_lel, z_eql, z_nat, z_i2l, z_l2i, z_div, z_sh, Int.toNat_natCast, z_ts, z_tsl]
      refine ⟨fun c => by omega, fun _ => ⟨fun c2 => call 0 (by rw [if_pos (by omega)]), fun c2 => ⟨fun c3 => call 0 (by rw [if_pos (by omega)]), fun c3 => call 1 (by rw [if_neg (by omega)])⟩⟩⟩
  · rcases pi9 h with ⟨c1, hq⟩ | ⟨j0, p0, C0, e0, hop, h1, h2⟩
    · cases hq
      refine b_m_testOf_11 (h := ?_) ..
      simp (disch := omega) only [z_lit, z_litl, z_neg, z_negl, z_add, z_sub, z_mul, z_addl, z_subl, z_mull, z_cc, z_cl, z_cr, z_cm, z_cml, z_cmr, z_lt, z_le, z_eq, z_ltl, z_lel, z_eql, z_nat, z_i2l, z_l2i, z_div, z_sh, Int.toNat_natCast, z_ts, z_tsl]
      refine ⟨fun _ => ⟨by first | omega | exact Or.inr trivial | exact Or.inl trivial | exact Or.inr rfl | exact Or.inl rfl, hP r b1 a hr⟩, fun c => absurd trivial c⟩
    · exact absurd hop c
theorem ev_3 {X : mm_X} {f : Nat → Int32} {fl : Nat → Int64} {g : Nat → Nat → Int32} {gl : Nat → Nat → Int64} {hh : Nat → Nat → Option Nat} {v : Nat → Value} {tx : mm_W} {κ : Nat → Nat} {t : Nat} {sec : Bool} {E : pE} (hH : evH sec f g κ t E) {n : Nat} (ih : EVn X f fl g gl hh v tx κ t sec E n) {deep i p o tt : Nat} {C : List Nat} {e : pE → Option Int} {j p' : Nat} {C' : List Nat} {e' : pE → Option Int} (h : pS (tkC κ t) (tkV κ t) sec (pP (tkC κ t) (tkV κ t) sec n) 3 deep i p o tt C e = some (.inr (j, p', C', e'))) (htt : tt ≤ 1) (hd : deep ≤ 8) (hi : i ≤ κ (60 + t)) (hp : p ≤ 50) : EVg X f fl g gl hh v tx t E 3 deep i j tt e e' := by
  intro lv bk a K P hl hb hK hP
  have hP : ∀ r b' a', TV lv bk (e' E) r b' → P (some (.int (iI (r : Int)))) (Wd (va_up (va_up f 4758 (iI ((400 * t + (j) : Nat) : Int))) 4760 (iI ((b' : Nat) : Int))) fl (va_up g 87 a') gl hh v tx) := hP
  have hH' := hH
  obtain ⟨hm, hwS, hwL, hwH, hB, ht, hsz, hend, hev, hE⟩ := hH'
  have hc0 : ∀ i, κ (60 + t) ≤ i → tkC κ t i = 0 := fun i hi => tkC_0 hi
  have v58 : ∀ x y : Int32, (va_up (va_up f 4758 x) 4760 y) 4758 = x := fun x y => by rw [va_ne (by decide), va_s]
  have v60 : ∀ x y : Int32, (va_up (va_up f 4758 x) 4760 y) 4760 = y := fun x y => va_s
  have e1 : ∀ i, iI ((400 * t + i : Nat) : Int) + (1 : Int32) = iI ((400 * t + (i + 1) : Nat) : Int) := fun i => by simp (disch := omega) only [z_lit, z_litl, z_neg, z_negl, z_add, z_sub, z_mul, z_addl, z_subl, z_mull, z_cc, z_cl, z_cr, z_cm, z_cml, z_cmr, z_lt, z_le, z_eq, z_ltl, z_lel, z_eql, z_nat, z_i2l, z_l2i, z_div, z_sh, Int.toNat_natCast, z_ts, z_tsl]; rfl
  -- behind what is not turned
  have turn : ∀ (e0 : pE → Option Int) (r b' j0 : Nat) (a' : Nat → Int32), j0 = j → TV lv bk (e0 E) r b' → e' E = (if tt = 1 then p_not e0 else e0) E → WP X (K + 8) 187 (29, [some (.ref 74), some (.int (iI lv)), some (.int (iI tt))], [.int (iI (r : Int))], (Wd (va_up (va_up f 4758 (iI ((400 * t + (j0) : Nat) : Int))) 4760 (iI ((b' : Nat) : Int))) fl (va_up g 87 a') gl hh v tx)) P := by
    intro e0 r b' j0 a' hj hT he'
    subst hj
    have hr1 := hT.1
    refine b_m_plainOf_29 (h := ?_) ..
    simp (disch := omega) only [z_lit, z_litl, z_neg, z_negl, z_add, z_sub, z_mul, z_addl, z_subl, z_mull, z_cc, z_cl, z_cr, z_cm, z_cml, z_cmr, z_lt, z_le, z_eq, z_ltl, z_lel, z_eql, z_nat, z_i2l, z_l2i, z_div, z_sh, Int.toNat_natCast, z_ts, z_tsl]
    refine ⟨fun c => hP 0 b' a' ?_, fun c => hP 1 b' a' ?_⟩
    · rw [he']; exact TV_not htt hT (by rw [if_pos (by omega)])
    · rw [he']; exact TV_not htt hT (by rw [if_neg (by omega)])
  show WP X (K + 8) 187 _ P
  refine b_m_plainOf_2 (h := ?_) ..
  rcases pi3 h with ⟨c1, h1⟩ | ⟨c1, c2, c3, j0, p0, C0, e0, h1, c4, hq⟩ | ⟨c1, c2, j0, p0, C0, e0, op, j2, p2, C2, e2, h1, hop, h2, hq⟩
  · have hi2 := tkC_s (i := i) (t := t) (κ := κ) (by omega)
    refine ev_pass (d := K + 6) hH hi (cc := 7) (by omega) (fun _ => ?_) fun c => absurd c1 c
    have go : ∀ t2 : Nat, t2 = 1 - tt → WP X (K + 8) 187 (2, [some (.ref 74), some (.int (iI lv)), some (.int (iI t2))], [], (Wd (va_up (va_up f 4758 (iI ((400 * t + (i + 1) : Nat) : Int))) 4760 (iI ((bk : Nat) : Int))) fl (va_up g 87 a) gl hh v tx)) P := by
      intro t2 ht2
      subst ht2
      exact ih _ _ _ _ _ _ _ _ _ _ _ _ h1 (by omega) (by omega) hd (by omega) hp (fun h => by omega) lv bk a K P hl hb hK hP
    refine b_m_plainOf_8 (h := ?_) ..
    simp (disch := omega) only [z_lit, z_litl, z_neg, z_negl, z_add, z_sub, z_mul, z_addl, z_subl, z_mull, z_cc, z_cl, z_cr, z_cm, z_cml, z_cmr, z_lt, z_le, z_eq, z_ltl, z_lel, z_eql, z_nat, z_i2l, z_l2i, z_div, z_sh, Int.toNat_natCast, z_ts, z_tsl]
    exact ⟨fun c => by omega, fun _ => ⟨fun c => go 0 (by omega), fun c => go 1 (by omega)⟩⟩
  · have hi2 := tkC_s (i := i) (t := t) (κ := κ) (by omega)
    obtain ⟨K2, rfl⟩ : ∃ K2, K = K2 + 8 := ⟨K - 8, by omega⟩
    obtain ⟨g1, g2, g3, g4, g5, g6, g7, g8, g9, g10⟩ := p_inv hc0 hE _ _ _ _ _ _ _ _ _ _ _ _ _ h1 (by omega) (by omega) (by omega) hp (fun h => by omega)
    have hi3 := tkC_s (i := j0) (t := t) (κ := κ) (by omega)
    refine ev_pass (d := K2 + 8 + 6) hH hi (cc := 7) (by omega) (fun c => absurd c c1) fun _ => ?_
    refine b_m_plainOf_8 (h := ?_) ..
    refine ⟨fun _ => ?_, fun c => absurd rfl c⟩
    refine b_m_positiveOf_0 (h := ?_) ..
    refine ev_pass (d := K2 + 8 + 5) hH hi (cc := 140) (by omega) (fun _ => ?_) fun c => absurd c2 c
    refine b_m_positiveOf_9 (h := ?_) ..
    refine ⟨fun c => absurd c (by decide), fun _ => ?_⟩
    refine ih _ _ _ _ _ _ _ _ _ _ _ _ h1 (by omega) (by omega) (by omega) (by omega) hp (fun h => by omega) lv bk a (K2 + 4) _ hl hb (by omega) fun r b' a' hr => ?_
    have hr1 := hr.1
    refine b_m_positiveOf_17 (h := ?_) ..
    rw [v58, e1]
    simp (disch := decide) only [va_cm, va_tw]
    refine ⟨by simp (disch := omega) only [z_lit, z_litl, z_neg, z_negl, z_add, z_sub, z_mul, z_addl, z_subl, z_mull, z_cc, z_cl, z_cr, z_cm, z_cml, z_cmr, z_lt, z_le, z_eq, z_ltl, z_lel, z_eql, z_nat, z_i2l, z_l2i, z_div, z_sh, Int.toNat_natCast, z_ts, z_tsl]; omega, ?_⟩
    have ej : j = j0 + 1 := congrArg (fun q : pO => q.1) hq
    have ee : e' = (if tt = 1 then p_not e0 else e0) := congrArg (fun q : pO => q.2.2.2) hq
    exact turn e0 r b' (j0 + 1) a' ej.symm hr (by rw [ee])
  · obtain ⟨g1, g2, g3, g4, g5, g6, g7, g8, g9, g10⟩ := p_inv hc0 hE _ _ _ _ _ _ _ _ _ _ _ _ _ h1 (by omega) (by omega) hi hp (fun h => by omega)
    have hop2 := p_cmp_v hop
    have hi3 := tkC_s (i := j0) (t := t) (κ := κ) (by omega)
    obtain ⟨k1, k2, k3, k4, k5, k6, k7, k8, k9, k10⟩ := p_inv hc0 hE _ _ _ _ _ _ _ _ _ _ _ _ _ h2 (by omega) (by omega) (by omega) g3 (fun h => by omega)
    refine ev_pass (d := K + 6) hH hi (cc := 7) (by omega) (fun c => absurd c c1) fun _ => ?_
    refine b_m_plainOf_8 (h := ?_) ..
    refine ⟨fun _ => ?_, fun c => absurd rfl c⟩
    refine b_m_positiveOf_0 (h := ?_) ..
    refine ev_pass (d := K + 5) hH hi (cc := 140) (by omega) (fun c => absurd c c2) fun _ => ?_
    refine b_m_positiveOf_9 (h := ?_) ..
    refine ⟨fun _ => ?_, fun c => absurd rfl c⟩
    refine ih _ _ _ _ _ _ _ _ _ _ _ _ h1 (by omega) (by omega) hd hi hp (fun h => by omega) lv bk a K _ hl hb hK fun r b1 a1 hr => ?_
    have hrr := hr.rg g10
    refine b_m_positiveOf_35 (h := ?_) ..
    rw [v58]
    refine ev_code hH (by omega) ?_
    refine b_m_positiveOf_44 (h := ?_) ..
    rw [v58, e1]
    simp (disch := decide) only [va_cm, va_tw]
    refine ih _ _ _ _ _ _ _ _ _ _ _ _ h2 (by omega) (by omega) hd (by omega) g3 (fun h => by omega) lv b1 a1 K _ hl (hr.b hb) hK fun w b2 a2 hw => ?_
    have hwr := hw.rg k10
    have hb2 := hw.b (hr.b hb)
    have ej : j = j2 := congrArg (fun q : pO => q.1) hq
    have ee : e' = (if tt = 1 then p_not (p_bin op e0 e2) else p_bin op e0 e2) := congrArg (fun q : pO => q.2.2.2) hq
    have last : ∀ r' : Nat, r' ≤ 1 → (lv = 1 → b2 = 0 → r' = if (op = 7 ∧ r < w) ∨ (op = 8 ∧ w < r) ∨ (op = 9 ∧ r = w) then 1 else 0) → WP X (K + 8) 187 (29, [some (.ref 74), some (.int (iI lv)), some (.int (iI tt))], [.int (iI (r' : Int))], (Wd (va_up (va_up f 4758 (iI ((400 * t + (j2) : Nat) : Int))) 4760 (iI ((b2 : Nat) : Int))) fl (va_up g 87 a2) gl hh v tx)) P := fun r' hr1 hr2 =>
      turn (p_bin op e0 e2) r' b2 j2 a2 ej.symm (TV_cmp (by omega) hr hw hr1 hr2) (by rw [ee])
    refine b_m_positiveOf_61 (h := ?_) ..
    rw [v60]
    simp (disch := omega) only [z_lit, z_litl, z_neg, z_negl, z_add, z_sub, z_mul, z_addl, z_subl, z_mull, z_cc, z_cl, z_cr, z_cm, z_cml, z_cmr, z_lt, z_le, z_eq, z_ltl, z_lel, z_eql, z_nat, z_i2l, z_l2i, z_div, z_sh, Int.toNat_natCast, z_ts, z_tsl, zc_lt, zc_le, zc_gt, zc_ge, zc_eq]
    refine ⟨fun c => last 0 (by omega) fun h => by omega, fun c => ⟨fun c2 => last 0 (by omega) fun _ h => by omega, fun c2 => ⟨fun c3 => ⟨fun c4 => ⟨fun c5 => last 0 (by omega) fun _ _ => ?_, fun c5 => last 1 (by omega) fun _ _ => ?_⟩, fun c4 => ⟨fun c5 => last 0 (by omega) fun _ _ => ?_, fun c5 => last 1 (by omega) fun _ _ => ?_⟩⟩, fun c3 => ⟨fun c5 => last 0 (by omega) fun _ _ => ?_, fun c5 => last 1 (by omega) fun _ _ => ?_⟩⟩⟩⟩
    · rw [if_neg (by omega)]
    · rw [if_pos (by omega)]
    · rw [if_neg (by omega)]
    · rw [if_pos (by omega)]
    · rw [if_neg (by omega)]
    · rw [if_pos (by omega)]
theorem ev_all {X : mm_X} {f : Nat → Int32} {fl : Nat → Int64} {g : Nat → Nat → Int32} {gl : Nat → Nat → Int64} {hh : Nat → Nat → Option Nat} {v : Nat → Value} {tx : mm_W} {κ : Nat → Nat} {t : Nat} {sec : Bool} {E : pE} (hH : evH sec f g κ t E) : ∀ n, EVn X f fl g gl hh v tx κ t sec E n := by
  intro n
  induction n with
  | zero => intro mode deep i p o tt C e j p' C' e' h; cases h
  | succ n ih =>
    intro mode deep i p o tt C e j p' C' e' h hmd htt hd hi hp he
    have h : pS (tkC κ t) (tkV κ t) sec (pP (tkC κ t) (tkV κ t) sec n) mode deep i p o tt C e = some (.inr (j, p', C', e')) := h
    have hmm : mode = 0 ∨ mode = 1 ∨ mode = 2 ∨ mode = 3 ∨ mode = 4 ∨ mode = 5 ∨ mode = 6 ∨ mode = 7 ∨ mode = 8 ∨ mode = 9 := by omega
    rcases hmm with rfl | rfl | rfl | rfl | rfl | rfl | rfl | rfl | rfl | rfl
    · exact ev_0 hH ih h hd hi hp
    · exact ev_1 hH ih h hd hi hp
    · exact ev_2 hH ih h hd hi hp
    · exact ev_3 hH ih h htt hd hi hp
    · exact ev_4 hH ih h hd hi hp
    · exact ev_5 hH ih h hd hi hp
    · exact ev_6 hH ih h hd hi hp (he (by omega))
    · exact ev_7 hH ih h hd hi hp (he (by omega))
    · exact ev_8 hH ih h hd hi hp (he (by omega))
    · exact ev_9 hH ih h hd hi hp (he (by omega))
