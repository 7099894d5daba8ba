/-! .. a part; all together -/
theorem rd_0 {X : mm_X} {f0 : Nat → Int32} {fl : Nat → Int64} {g : Nat → Nat → Int32} {gl : Nat → Nat → Int64} {hh : Nat → Nat → Option Nat} {v : Nat → Value} {tx : mm_W} {c u S : Nat → Nat} {sec : Bool} {N n : Nat} (hT : TK g c u S N) (ih : RDn X f0 fl g gl hh v tx c u S sec N n) {deep i p o t K : Nat} {C : List Nat} {e : pE → Option Int} {f : Nat → Int32} {P : Option Value → mm_W → Prop} (hd : deep ≤ 8) (hi : i ≤ N) (hp : p ≤ 50) (hK : 8 * (8 - deep) ≤ K) (hL : LG f0 sec) (hne : pS c u sec (pP c u sec n) 0 deep i p o t C e ≠ none) (hs : sm f f0) (h5 : f 4755 = iI (i : Int)) (h6 : f 4756 = iI (p : Int)) (h7 : f 4757 = -1) (hR : RR f0 fl g gl hh v tx S P (pS c u sec (pP c u sec n) 0 deep i p o t C e)) : RDg X fl g gl hh v tx 0 deep K f P := by
  show WP X (K + 4) 170 _ P
  have er : pS c u sec (pP c u sec n) 0 deep i p o t C e = if c i = 191 then (if deep = 8 then some (.inl i) else p_then (pP c u sec n 2 (deep + 1) (i + 1) p o 0 [] p_e0) fun j p' C' e' => if c j = 193 then some (.inr (j + 1, p', C', e')) else some (.inl j))
      else if p = 50 then some (.inl i)
      else if c i = 50 then (if u i ≤ 1000 then some (.inr (i + 1, p + 1, [u i], fun _ => some (u i : Int))) else some (.inl i))
      else match p_word sec (c i) with
        | none => some (.inl i)
        | some w => if sec = true ∧ 5 ≤ w then (if c (i + 1) = 50 ∧ u (i + 1) ≤ 2 then some (.inr (i + 2, p + 1, [4096 + (w + u (i + 1))], fun E => some (E (w + u (i + 1))))) else some (.inl (i + 1)))
          else some (.inr (i + 1, p + 1, [4096 + w], fun E => some (E w))) := rfl
  rw [er] at hne hR
  have e191 : (g 83 i = (191 : Int32)) = (c i = 191) := hT.e hi (w := 191) (by decide)
  have e50 : (g 83 i = (50 : Int32)) = (c i = 50) := hT.e hi (w := 50) (by decide)
  have hcb := hT.cb i
  have hvb := hT.vb i
  have f46 : f 4746 = (if sec = true then 1 else 0) := (hs 4746 (by decide) (by decide) (by decide)).trans hL.1
  have f44 : f 4744 = iI (lgl sec : Nat) := (hs 4744 (by decide) (by decide) (by decide)).trans hL.2.1
  have f45 : f 4745 = iI (lgh sec : Nat) := (hs 4745 (by decide) (by decide) (by decide)).trans hL.2.2
  have lb : lgl sec = (if sec = true then 13 else 8) := rfl
  have hbd : lgh sec = (if sec = true then 19 else 15) := rfl
  have lb2 : 8 ≤ lgl sec ∧ lgl sec ≤ 13 := by rw [lb]; split <;> omega
  have hb2 : 15 ≤ lgh sec ∧ lgh sec ≤ 19 := by rw [hbd]; split <;> omega
  by_cases y191 : c i = 191
  · rw [if_pos y191] at hne hR
    have hiN : i < N := hT.s (by rw [y191]; decide)
    refine b_m_readPart_0 (h := ?_) ..
    rw [h5, (hT.i hi).2, e191, e50, (hT.at_ i hi).2.2]
    refine ⟨fun c => absurd h7 c, fun _ => ⟨(hT.i hi).1, fun c => absurd y191 c, fun _ => ⟨fun nd => ?_, fun yd => ⟨fun c => absurd h7 c, fun _ => ⟨(hT.i hi).1, ?_⟩⟩⟩⟩⟩
    · have d8 : deep ≠ 8 := fun e => nd (by rw [e]; rfl)
      rw [if_neg d8] at hne hR
      obtain ⟨K2, rfl⟩ : ∃ K2, K = K2 + 3 := ⟨K - 3, by omega⟩
      refine b_m_readPart_37 (h := ⟨fun c => absurd h7 c, fun _ => ?_⟩) ..
      rw [h5, i1N, i1N]
      refine ih 2 (deep + 1) (i + 1) p o 0 [] p_e0 K2 (va_up f 4755 (iI ((i + 1 : Nat) : Int))) _ (by omega) (by omega) (by omega) (by omega) hp (by omega) (fun h => by omega) (fun h => hne (by rw [h]; rfl)) hs.u5 va_s (by rw [va_ne (by decide)]; exact h6) (by rw [va_ne (by decide)]; exact h7) ⟨fun j p' C' e' h1 f' hs' a5 a6 a7 => ?_, fun k h1 f' hs' a7 => ?_⟩
      · obtain ⟨g1, g2, g3, g4, g5, g6, g7, g8, g9, g10⟩ := p_inv hT.c0 E00_ok _ _ _ _ _ _ _ _ _ _ _ _ _ h1 (by omega) (by omega) (by omega) hp (fun h => by omega)
        rw [h1] at hR
        have hR : RR f0 fl g gl hh v tx S P (if c j = 193 then some (.inr (j + 1, p', C', e')) else some (.inl j)) := hR
        refine b_m_readPart_62 (h := ?_) ..
        refine tk_158 (w := 193) hT g2 a5 a7 (by decide) (fun ew => ?_) fun m2 => ?_
        · rw [if_pos ew] at hR
          exact b_m_readPart_71 (h := hR.1 _ _ _ _ rfl _ hs'.u5 va_s (by rw [va_ne (by decide)]; exact a6) (by rw [va_ne (by decide)]; exact a7)) ..
        · rw [if_neg m2] at hR
          exact b_m_readPart_71 (h := hR.2 j rfl _ hs'.u7 va_s) ..
      · rw [h1] at hR
        have hq : ¬ f' 4757 = -1 := by rw [a7]; exact hT.q k
        exact b_m_readPart_62 (h := fl_158 hq (b_m_readPart_71 (h := hR.2 k rfl f' hs' a7) ..)) ..
    · have d8 : deep = 8 := by
        have yd : iI (deep : Int) = iI 8 := yd
        rw [z_eq (by omega) (by omega)] at yd
        omega
      rw [if_pos d8] at hR
      exact b_m_readPart_37 (h := ⟨fun _ => hR.2 i rfl _ hs.u7 va_s, fun c => absurd (va_s.symm.trans c) (hT.q i)⟩) ..
  · rw [if_neg y191] at hR
    -- bad at once
    have bad : RR f0 fl g gl hh v tx S P (some (.inl i)) → (c i < lgl sec ∨ lgh sec < c i) → WP X (K + 4) 170 (95, [some (.ref 74), none, some (.int (iI (c i : Int)))], [], Wd f fl g gl hh v tx) P := by
      intro hR hb
      refine b_m_readPart_95 (h := ?_) ..
      rw [h5, f44, f45, (hT.i hi).2, (hT.at_ i hi).2.2]
      have hP := hR.2 i rfl _ hs.u7 va_s
      refine ⟨fun _ => ⟨fun c => absurd h7 c, fun _ => ⟨(hT.i hi).1, hP⟩⟩, fun c => ⟨fun _ => ⟨fun c => absurd h7 c, fun _ => ⟨(hT.i hi).1, hP⟩⟩, fun c2 => ?_⟩⟩
      simp (disch := omega) only [z_lit, z_litl, z_neg, z_negl, z_add, z_sub, z_mul, z_addl, z_subl, z_mull, z_cc, z_cl, z_cr, z_cm, z_cml, z_cmr, z_lt, z_le, z_eq, z_ltl, z_lel, z_eql, z_nat, z_i2l, z_l2i, z_div, z_sh, Int.toNat_natCast, z_ts, z_tsl] at c
      simp (disch := omega) only [z_lit, z_litl, z_neg, z_negl, z_add, z_sub, z_mul, z_addl, z_subl, z_mull, z_cc, z_cl, z_cr, z_cm, z_cml, z_cmr, z_lt, z_le, z_eq, z_ltl, z_lel, z_eql, z_nat, z_i2l, z_l2i, z_div, z_sh, Int.toNat_natCast, z_ts, z_tsl] at c2
      omega
    -- a leaf
    have leaf : (p = 50 → RR f0 fl g gl hh v tx S P (some (.inl i))) → (p ≠ 50 → ((sec = true ∧ (c i = 13 ∨ c i = 14)) → RR f0 fl g gl hh v tx S P (if c (i + 1) = 50 ∧ u (i + 1) ≤ 2 then some (.inr (i + 2, p + 1, [], p_e0)) else some (.inl (i + 1))) ∧ i + 1 ≤ N) ∧ (¬ (sec = true ∧ (c i = 13 ∨ c i = 14)) → RR f0 fl g gl hh v tx S P (some (.inr (i + 1, p + 1, [], p_e0))))) → WP X (K + 4) 170 (111, [some (.ref 74), none, some (.int (iI (c i : Int)))], [], Wd f fl g gl hh v tx) P := by
      intro hR1 hR2
      refine b_m_readPart_111 (h := ?_) ..
      refine tk_leaf hT hi hp h5 h6 h7 (fun e50 => ?_) fun n50 => ?_
      · have hR := hR1 e50
        have hP : ∀ f', sm f' f0 → f' 4757 = iI (S i : Int) → P none (Wd f' fl g gl hh v tx) := hR.2 i rfl
        have hq : ¬ (va_up (va_up f 4757 (iI (S i : Int))) 4756 (iI ((p + 1 : Nat) : Int))) 4757 = -1 := by rw [va_ne (by decide), va_s]; exact hT.q i
        have hP := hP _ (hs.u7.u6 (x := iI ((p + 1 : Nat) : Int))) (by rw [va_ne (by decide), va_s])
        refine b_m_readPart_115 (h := ?_) ..
        exact ⟨fun _ => hP, fun _ => ⟨fun _ => fl_161 hq (b_m_readPart_140 (h := hP) ..), fun _ => ⟨fun _ => hP, fun _ => fl_161 hq (b_m_readPart_140 (h := hP) ..)⟩⟩⟩
      · obtain ⟨q1, q2⟩ := hR2 n50
        have hs2 : sm (va_up (va_up f 4756 (iI ((p + 1 : Nat) : Int))) 4755 (iI ((i + 1 : Nat) : Int))) f0 := hs.u6.u5
        have b7 : (va_up (va_up f 4756 (iI ((p + 1 : Nat) : Int))) 4755 (iI ((i + 1 : Nat) : Int))) 4757 = -1 := by rw [va_ne (by decide), va_ne (by decide)]; exact h7
        have b6 : (va_up (va_up f 4756 (iI ((p + 1 : Nat) : Int))) 4755 (iI ((i + 1 : Nat) : Int))) 4756 = iI ((p + 1 : Nat) : Int) := by rw [va_ne (by decide), va_s]
        have b46 : (va_up (va_up f 4756 (iI ((p + 1 : Nat) : Int))) 4755 (iI ((i + 1 : Nat) : Int))) 4746 = (if sec = true then 1 else 0) := by rw [va_ne (by decide), va_ne (by decide)]; exact f46
        have one : ¬ (sec = true ∧ (c i = 13 ∨ c i = 14)) → P none (Wd (va_up (va_up f 4756 (iI ((p + 1 : Nat) : Int))) 4755 (iI ((i + 1 : Nat) : Int))) fl g gl hh v tx) := fun hn => (q2 hn).1 _ _ _ _ rfl _ hs2 va_s b6 b7
        have two : (sec = true ∧ (c i = 13 ∨ c i = 14)) → WP X (K + 3) 161 (0, [some (.ref 74), some (.int 0), some (.int 2)], [], Wd (va_up (va_up f 4756 (iI ((p + 1 : Nat) : Int))) 4755 (iI ((i + 1 : Nat) : Int))) fl g gl hh v tx) (fun rv w2 => WP X (K + 4) 170 (140, [some (.ref 74), none, none], rv.toList ++ [], w2) P) := by
          intro hn
          obtain ⟨q3, q4⟩ := q1 hn
          refine tk_161 (lo := 0) (hi := 2) hT q4 va_s b7 (by omega) (fun a => ?_) fun a => ?_
          · rw [if_pos ⟨a.1, a.2.2⟩] at q3
            exact b_m_readPart_140 (h := q3.1 _ _ _ _ rfl _ hs2.u5 va_s (by rw [va_ne (by decide)]; exact b6) (by rw [va_ne (by decide)]; exact b7)) ..
          · rw [if_neg fun b => a ⟨b.1, Nat.zero_le _, b.2⟩] at q3
            exact b_m_readPart_140 (h := q3.2 _ rfl _ hs2.u7 va_s) ..
        refine b_m_readPart_115 (h := ?_) ..
        rw [b46]
        have e13 : (iI (c i : Int) = (13 : Int32)) = (c i = 13) := by
          rw [show (13 : Int32) = iI 13 from rfl, z_eq (by omega) (by omega)]
          exact propext ⟨fun a => by omega, fun a => by omega⟩
        have e14 : (iI (c i : Int) = (14 : Int32)) = (c i = 14) := by
          rw [show (14 : Int32) = iI 14 from rfl, z_eq (by omega) (by omega)]
          exact propext ⟨fun a => by omega, fun a => by omega⟩
        rw [e13, e14]
        cases sec with
        | false => exact ⟨fun _ => one fun a => absurd a.1 (by decide), fun c => absurd rfl c⟩
        | true => exact ⟨fun c => absurd c (by decide), fun _ => ⟨fun a => two ⟨rfl, Or.inl a⟩, fun a => ⟨fun a2 => one fun b => by omega, fun a2 => two ⟨rfl, Or.inr a2⟩⟩⟩⟩
    refine b_m_readPart_0 (h := ?_) ..
    rw [h5, (hT.i hi).2, e191, e50, (hT.at_ i hi).2.1, (hT.at_ i hi).1]
    refine ⟨fun c => absurd h7 c, fun _ => ⟨(hT.i hi).1, fun _ => ⟨fun n50 => ?_, fun y50 => ⟨(hT.i hi).1, fun c => ?_, fun c => ?_⟩⟩, fun c => absurd c y191⟩⟩
    · by_cases hb : c i < lgl sec ∨ lgh sec < c i
      · refine bad ?_ hb
        rw [if_neg n50, pw_no hb] at hR
        by_cases p50 : p = 50
        · rw [if_pos p50] at hR; exact hR
        · rw [if_neg p50] at hR; exact hR
      · obtain ⟨w, hw, hw2⟩ := pw_yes (sec := sec) (x := c i) (by omega) (by omega)
        have hiN : i < N := hT.s (by omega)
        refine b_m_readPart_95 (h := ?_) ..
        rw [f44, f45]
        refine ⟨fun c => by simp (disch := omega) only [z_lit, z_litl, z_neg, z_negl, z_add, z_sub, z_mul, z_addl, z_subl, z_mull, z_cc, z_cl, z_cr, z_cm, z_cml, z_cmr, z_lt, z_le, z_eq, z_ltl, z_lel, z_eql, z_nat, z_i2l, z_l2i, z_div, z_sh, Int.toNat_natCast, z_ts, z_tsl] at c; omega, fun _ => ⟨fun c => by simp (disch := omega) only [z_lit, z_litl, z_neg, z_negl, z_add, z_sub, z_mul, z_addl, z_subl, z_mull, z_cc, z_cl, z_cr, z_cm, z_cml, z_cmr, z_lt, z_le, z_eq, z_ltl, z_lel, z_eql, z_nat, z_i2l, z_l2i, z_div, z_sh, Int.toNat_natCast, z_ts, z_tsl] at c; omega, fun _ => leaf (fun p50 => ?_) fun p50 => ⟨fun a => ⟨?_, hiN⟩, fun a => ?_⟩⟩⟩
        · rw [if_pos p50] at hR; exact hR
        · rw [if_neg p50, if_neg n50, hw] at hR
          have hR : RR f0 fl g gl hh v tx S P (if sec = true ∧ 5 ≤ w then (if c (i + 1) = 50 ∧ u (i + 1) ≤ 2 then some (.inr (i + 2, p + 1, [4096 + (w + u (i + 1))], fun E => some (E (w + u (i + 1))))) else some (.inl (i + 1))) else some (.inr (i + 1, p + 1, [4096 + w], fun E => some (E w)))) := hR
          rw [if_pos ⟨a.1, (hw2 a.1).mpr a.2⟩] at hR
          by_cases b : c (i + 1) = 50 ∧ u (i + 1) ≤ 2
          · rw [if_pos b] at hR ⊢
            exact ⟨fun j p' C' e' h => by cases h; exact hR.1 _ _ _ _ rfl, fun k h => by cases h⟩
          · rw [if_neg b] at hR ⊢
            exact hR
        · rw [if_neg p50, if_neg n50, hw] at hR
          have hR : RR f0 fl g gl hh v tx S P (if sec = true ∧ 5 ≤ w then (if c (i + 1) = 50 ∧ u (i + 1) ≤ 2 then some (.inr (i + 2, p + 1, [4096 + (w + u (i + 1))], fun E => some (E (w + u (i + 1))))) else some (.inl (i + 1))) else some (.inr (i + 1, p + 1, [4096 + w], fun E => some (E w)))) := hR
          rw [if_neg fun b => a ⟨b.1, (hw2 b.1).mp b.2⟩] at hR
          exact ⟨fun j p' C' e' h => by cases h; exact hR.1 _ _ _ _ rfl, fun k h => by cases h⟩
    · have c : u i ≤ 1000 := by simp (disch := omega) only [z_lit, z_litl, z_neg, z_negl, z_add, z_sub, z_mul, z_addl, z_subl, z_mull, z_cc, z_cl, z_cr, z_cm, z_cml, z_cmr, z_lt, z_le, z_eq, z_ltl, z_lel, z_eql, z_nat, z_i2l, z_l2i, z_div, z_sh, Int.toNat_natCast, z_ts, z_tsl] at c; omega
      refine leaf (fun p50 => ?_) fun p50 => ⟨fun a => by omega, fun a => ?_⟩
      · rw [if_pos p50] at hR; exact hR
      · rw [if_neg p50, if_pos y50, if_pos c] at hR
        exact ⟨fun j p' C' e' h => by cases h; exact hR.1 _ _ _ _ rfl, fun k h => by cases h⟩
    · have c : ¬ u i ≤ 1000 := by simp (disch := omega) only [z_lit, z_litl, z_neg, z_negl, z_add, z_sub, z_mul, z_addl, z_subl, z_mull, z_cc, z_cl, z_cr, z_cm, z_cml, z_cmr, z_lt, z_le, z_eq, z_ltl, z_lel, z_eql, z_nat, z_i2l, z_l2i, z_div, z_sh, Int.toNat_natCast, z_ts, z_tsl] at c; omega
      refine bad ?_ (Or.inr (by omega))
      by_cases p50 : p = 50
      · rw [if_pos p50] at hR; exact hR
      · rw [if_neg p50, if_pos y50, if_neg c] at hR; exact hR
theorem rd_all {X : mm_X} {f0 : Nat → Int32} {fl : Nat → Int64} {g : Nat → Nat → Int32} {gl : Nat → Nat → Int64} {hh : Nat → Nat → Option Nat} {v : Nat → Value} {tx : mm_W} {c u S : Nat → Nat} {sec : Bool} {N : Nat} (hT : TK g c u S N) (hL : LG f0 sec) : ∀ n, RDn X f0 fl g gl hh v tx c u S sec N n := by
  intro n
  induction n with
  | zero => intro mode deep i p o t C e K f P _ _ _ _ _ _ _ hne; exact absurd rfl hne
  | succ n ih =>
    intro mode deep i p o t C e K f P hm ht hd hi hp hK he hne hs h5 h6 h7 hR
    match mode, hm with
    | 0, _ => exact rd_0 hT ih hd hi hp hK hL hne hs h5 h6 h7 hR
    | 1, _ => exact rd_1 hT ih hd hi hp hK hne hs h5 h6 h7 hR
    | 2, _ => exact rd_2 hT ih hd hi hp hK hne hs h5 h6 h7 hR
    | 3, _ => exact rd_3 hT ih hd hi hp hK ht hne hs h5 h6 h7 hR
    | 4, _ => exact rd_4 hT ih hd hi hp hK hne hs h5 h6 h7 hR
    | 5, _ => exact rd_5 hT ih hd hi hp hK hne hs h5 h6 h7 hR
    | 6, _ => exact rd_6 hT ih hd hi hp hK (he (by omega)) hne hs h5 h6 h7 hR
    | 7, _ => exact rd_7 hT ih hd hi hp hK (he (by omega)) hne hs h5 h6 h7 hR
    | 8, _ => exact rd_8 hT ih hd hi hp hK (he (by omega)) hne hs h5 h6 h7 hR
    | 9, _ => exact rd_9 hT ih hd hi hp hK (he (by omega)) hne hs h5 h6 h7 hR
