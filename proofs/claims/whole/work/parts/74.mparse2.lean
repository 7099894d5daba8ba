/-! the reference reads a text: by induction on how it is read -/
theorem E00_ok : ∀ w, -2147483648 ≤ E00 w ∧ E00 w < 2147483648 := fun w => by show -2147483648 ≤ (0 : Int) ∧ (0 : Int) < 2147483648; omega
theorem i1N (i : Nat) : iI (i : Int) + (1 : Int32) = iI ((i + 1 : Nat) : Int) := by rw [show (1 : Int32) = iI 1 from rfl, z_add]; rfl
theorem rd_1 {X : mm_X} {f0 : Nat → Int32} {fl : Nat → Int64} {g : Nat → Nat → Int32} {gl : Nat → Nat → Int64} {hh : Nat → Nat → Option Nat} {v : Nat → Value} {tx : mm_W} {c u S : Nat → Nat} {sec : Bool} {N n : Nat} (hT : TK g c u S N) (ih : RDn X f0 fl g gl hh v tx c u S sec N n) {deep i p o t K : Nat} {C : List Nat} {e : pE → Option Int} {f : Nat → Int32} {P : Option Value → mm_W → Prop} (hd : deep ≤ 8) (hi : i ≤ N) (hp : p ≤ 50) (hK : 8 * (8 - deep) ≤ K) (hne : pS c u sec (pP c u sec n) 1 deep i p o t C e ≠ none) (hs : sm f f0) (h5 : f 4755 = iI (i : Int)) (h6 : f 4756 = iI (p : Int)) (h7 : f 4757 = -1) (hR : RR f0 fl g gl hh v tx S P (pS c u sec (pP c u sec n) 1 deep i p o t C e)) : RDg X fl g gl hh v tx 1 deep K f P := by
  have er : pS c u sec (pP c u sec n) 1 deep i p o t C e = p_then (pP c u sec n 0 deep i p o 0 [] p_e0) (fun j p' C' e' => pP c u sec n 6 deep j p' o 0 C' e') := rfl
  rw [er] at hne hR
  show WP X (K + 5) 169 _ P
  refine b_m_readTerm_0 (h := ?_) ..
  refine ih 0 deep i p o 0 [] p_e0 K f _ (by omega) (by omega) hd hi hp hK (fun h => by omega) (fun h => hne (by rw [h]; rfl)) hs h5 h6 h7 ⟨fun j p' C' e' h1 f' hs' a5 a6 a7 => ?_, fun k h1 f' hs' a7 => ?_⟩
  · obtain ⟨g1, g2, g3, g4, g5, g6, g7, g8, g9, g10⟩ := p_inv hT.c0 E00_ok _ _ _ _ _ _ _ _ _ _ _ _ _ h1 (by omega) (by omega) hi hp (fun h => by omega)
    rw [h1] at hne hR
    exact ih 6 deep j p' o 0 C' e' K f' P (by omega) (by omega) hd g2 g3 hK (fun _ => g10) hne hs' a5 a6 a7 hR
  · rw [h1] at hR
    exact fl_169a (by rw [a7]; exact hT.q k) (hR.2 k rfl f' hs' a7)
theorem rd_2 {X : mm_X} {f0 : Nat → Int32} {fl : Nat → Int64} {g : Nat → Nat → Int32} {gl : Nat → Nat → Int64} {hh : Nat → Nat → Option Nat} {v : Nat → Value} {tx : mm_W} {c u S : Nat → Nat} {sec : Bool} {N n : Nat} (hT : TK g c u S N) (ih : RDn X f0 fl g gl hh v tx c u S sec N n) {deep i p o t K : Nat} {C : List Nat} {e : pE → Option Int} {f : Nat → Int32} {P : Option Value → mm_W → Prop} (hd : deep ≤ 8) (hi : i ≤ N) (hp : p ≤ 50) (hK : 8 * (8 - deep) ≤ K) (hne : pS c u sec (pP c u sec n) 2 deep i p o t C e ≠ none) (hs : sm f f0) (h5 : f 4755 = iI (i : Int)) (h6 : f 4756 = iI (p : Int)) (h7 : f 4757 = -1) (hR : RR f0 fl g gl hh v tx S P (pS c u sec (pP c u sec n) 2 deep i p o t C e)) : RDg X fl g gl hh v tx 2 deep K f P := by
  have er : pS c u sec (pP c u sec n) 2 deep i p o t C e = p_then (pP c u sec n 1 deep i p o 0 [] p_e0) (fun j p' C' e' => pP c u sec n 7 deep j p' o 0 C' e') := rfl
  rw [er] at hne hR
  show WP X (K + 6) 168 _ P
  refine b_m_readSum_0 (h := ?_) ..
  refine ih 1 deep i p o 0 [] p_e0 K f _ (by omega) (by omega) hd hi hp hK (fun h => by omega) (fun h => hne (by rw [h]; rfl)) hs h5 h6 h7 ⟨fun j p' C' e' h1 f' hs' a5 a6 a7 => ?_, fun k h1 f' hs' a7 => ?_⟩
  · obtain ⟨g1, g2, g3, g4, g5, g6, g7, g8, g9, g10⟩ := p_inv hT.c0 E00_ok _ _ _ _ _ _ _ _ _ _ _ _ _ h1 (by omega) (by omega) hi hp (fun h => by omega)
    rw [h1] at hne hR
    exact ih 7 deep j p' o 0 C' e' K f' P (by omega) (by omega) hd g2 g3 hK (fun _ => g10) hne hs' a5 a6 a7 hR
  · rw [h1] at hR
    exact fl_168a (by rw [a7]; exact hT.q k) (hR.2 k rfl f' hs' a7)
theorem rd_4 {X : mm_X} {f0 : Nat → Int32} {fl : Nat → Int64} {g : Nat → Nat → Int32} {gl : Nat → Nat → Int64} {hh : Nat → Nat → Option Nat} {v : Nat → Value} {tx : mm_W} {c u S : Nat → Nat} {sec : Bool} {N n : Nat} (hT : TK g c u S N) (ih : RDn X f0 fl g gl hh v tx c u S sec N n) {deep i p o t K : Nat} {C : List Nat} {e : pE → Option Int} {f : Nat → Int32} {P : Option Value → mm_W → Prop} (hd : deep ≤ 8) (hi : i ≤ N) (hp : p ≤ 50) (hK : 8 * (8 - deep) ≤ K) (hne : pS c u sec (pP c u sec n) 4 deep i p o t C e ≠ none) (hs : sm f f0) (h5 : f 4755 = iI (i : Int)) (h6 : f 4756 = iI (p : Int)) (h7 : f 4757 = -1) (hR : RR f0 fl g gl hh v tx S P (pS c u sec (pP c u sec n) 4 deep i p o t C e)) : RDg X fl g gl hh v tx 4 deep K f P := by
  have er : pS c u sec (pP c u sec n) 4 deep i p o t C e = p_then (pP c u sec n 3 deep i p o 0 [] p_e0) (fun j p' C' e' => pP c u sec n 8 deep j p' o 0 C' e') := rfl
  rw [er] at hne hR
  show WP X (K + 9) 166 _ P
  refine b_m_readBoth_0 (h := b_m_readPlain_0 (h := ?_) ..) ..
  refine ih 3 deep i p o 0 [] p_e0 K f _ (by omega) (by omega) hd hi hp hK (fun h => by omega) (fun h => hne (by rw [h]; rfl)) hs h5 h6 h7 ⟨fun j p' C' e' h1 f' hs' a5 a6 a7 => ?_, fun k h1 f' hs' a7 => ?_⟩
  · obtain ⟨g1, g2, g3, g4, g5, g6, g7, g8, g9, g10⟩ := p_inv hT.c0 E00_ok _ _ _ _ _ _ _ _ _ _ _ _ _ h1 (by omega) (by omega) hi hp (fun h => by omega)
    rw [h1] at hne hR
    exact ih 8 deep j p' o 0 C' e' K f' P (by omega) (by omega) hd g2 g3 hK (fun _ => g10) hne hs' a5 a6 a7 hR
  · rw [h1] at hR
    exact fl_166a (by rw [a7]; exact hT.q k) (hR.2 k rfl f' hs' a7)
theorem rd_5 {X : mm_X} {f0 : Nat → Int32} {fl : Nat → Int64} {g : Nat → Nat → Int32} {gl : Nat → Nat → Int64} {hh : Nat → Nat → Option Nat} {v : Nat → Value} {tx : mm_W} {c u S : Nat → Nat} {sec : Bool} {N n : Nat} (hT : TK g c u S N) (ih : RDn X f0 fl g gl hh v tx c u S sec N n) {deep i p o t K : Nat} {C : List Nat} {e : pE → Option Int} {f : Nat → Int32} {P : Option Value → mm_W → Prop} (hd : deep ≤ 8) (hi : i ≤ N) (hp : p ≤ 50) (hK : 8 * (8 - deep) ≤ K) (hne : pS c u sec (pP c u sec n) 5 deep i p o t C e ≠ none) (hs : sm f f0) (h5 : f 4755 = iI (i : Int)) (h6 : f 4756 = iI (p : Int)) (h7 : f 4757 = -1) (hR : RR f0 fl g gl hh v tx S P (pS c u sec (pP c u sec n) 5 deep i p o t C e)) : RDg X fl g gl hh v tx 5 deep K f P := by
  have er : pS c u sec (pP c u sec n) 5 deep i p o t C e = p_then (pP c u sec n 4 deep i p o 0 [] p_e0) (fun j p' C' e' => pP c u sec n 9 deep j p' o 0 C' e') := rfl
  rw [er] at hne hR
  show WP X (K + 10) 165 _ P
  refine b_m_readTest_0 (h := ?_) ..
  refine ih 4 deep i p o 0 [] p_e0 K f _ (by omega) (by omega) hd hi hp hK (fun h => by omega) (fun h => hne (by rw [h]; rfl)) hs h5 h6 h7 ⟨fun j p' C' e' h1 f' hs' a5 a6 a7 => ?_, fun k h1 f' hs' a7 => ?_⟩
  · obtain ⟨g1, g2, g3, g4, g5, g6, g7, g8, g9, g10⟩ := p_inv hT.c0 E00_ok _ _ _ _ _ _ _ _ _ _ _ _ _ h1 (by omega) (by omega) hi hp (fun h => by omega)
    rw [h1] at hne hR
    exact ih 9 deep j p' o 0 C' e' K f' P (by omega) (by omega) hd g2 g3 hK (fun _ => g10) hne hs' a5 a6 a7 hR
  · rw [h1] at hR
    exact fl_165a (by rw [a7]; exact hT.q k) (hR.2 k rfl f' hs' a7)
theorem rd_6 {X : mm_X} {f0 : Nat → Int32} {fl : Nat → Int64} {g : Nat → Nat → Int32} {gl : Nat → Nat → Int64} {hh : Nat → Nat → Option Nat} {v : Nat → Value} {tx : mm_W} {c u S : Nat → Nat} {sec : Bool} {N n : Nat} (hT : TK g c u S N) (ih : RDn X f0 fl g gl hh v tx c u S sec N n) {deep i p o t K : Nat} {C : List Nat} {e : pE → Option Int} {f : Nat → Int32} {P : Option Value → mm_W → Prop} (hd : deep ≤ 8) (hi : i ≤ N) (hp : p ≤ 50) (hK : 8 * (8 - deep) ≤ K) (he : p_rg 6 (e E00)) (hne : pS c u sec (pP c u sec n) 6 deep i p o t C e ≠ none) (hs : sm f f0) (h5 : f 4755 = iI (i : Int)) (h6 : f 4756 = iI (p : Int)) (h7 : f 4757 = -1) (hR : RR f0 fl g gl hh v tx S P (pS c u sec (pP c u sec n) 6 deep i p o t C e)) : RDg X fl g gl hh v tx 6 deep K f P := by
  show WP X (K + 5) 169 _ P
  have er : pS c u sec (pP c u sec n) 6 deep i p o t C e = match p_termop (c i) with
    | none => some (.inr (i, p, C, e))
    | some op => p_then (pP c u sec n 0 deep (i + 1) p (o + C.length) 0 [] p_e0) (fun j p' C' e' => pP c u sec n 6 deep j p' o 0 (C ++ C' ++ [op * 4096]) (p_bin op e e')) := rfl
  rw [er] at hne hR
  have stop : p_termop (c i) = none → P none (Wd f fl g gl hh v tx) := fun h => by
    rw [h] at hR
    exact hR.1 i p C e rfl f hs h5 h6 h7
  have go : ∀ op, p_termop (c i) = some op → WP X (K + 4) 170 (0, [some (.ref 74), some (.int (iI (deep : Int))), none], [], Wd (va_up f 4755 (iI ((i + 1 : Nat) : Int))) fl g gl hh v tx) (fun rv w2 => WP X (K + 5) 169 (46, [some (.ref 74), some (.int (iI (deep : Int)))], rv.toList ++ [], w2) P) := by
    intro op hop
    rw [hop] at hne hR
    have hiN : i < N := hT.s fun h => by rw [h] at hop; cases hop
    refine ih 0 deep (i + 1) p (o + C.length) 0 [] p_e0 K (va_up f 4755 (iI ((i + 1 : Nat) : Int))) _ (by omega) (by omega) hd (by omega) hp hK (fun h => by omega) (fun h => hne (by show p_then _ _ = _; rw [h]; rfl)) hs.u5 va_s (by rw [va_ne (by decide)]; exact h6) (by rw [va_ne (by decide)]; exact h7) ⟨fun j p' C' e' h1 f' hs' a5 a6 a7 => ?_, fun k h1 f' hs' a7 => ?_⟩
    · obtain ⟨g1, g2, g3, g4, g5, g6, g7, g8, g9, g10⟩ := p_inv hT.c0 E00_ok _ _ _ _ _ _ _ _ _ _ _ _ _ h1 (by omega) (by omega) (by omega) hp (fun h => by omega)
      simp only [h1] at hne hR
      refine b_m_readTerm_46 (h := ?_) ..
      exact ih 6 deep j p' o 0 _ (p_bin op e e') K f' P (by omega) (by omega) hd g2 g3 hK (fun _ => p_num_bin) hne hs' a5 a6 a7 hR
    · simp only [h1] at hR
      refine b_m_readTerm_46 (h := ?_) ..
      exact fl_169a (by rw [a7]; exact hT.q k) (hR.2 k rfl f' hs' a7)
  refine b_m_readTerm_5 (h := ?_) ..
  refine tk_157 (w := 142) hT hi h5 h7 (by decide) (fun ew => ?_) fun n0 => ?_
  · refine b_m_readTerm_14 (h := ⟨fun _ => go 4 (by rw [ew]; rfl), fun c => absurd c (by decide)⟩) ..
  refine b_m_readTerm_14 (h := ?_) ..
  refine ⟨fun c => absurd rfl c, fun _ => ?_⟩
  refine tk_157 (w := 147) hT hi h5 h7 (by decide) (fun ew => ?_) fun n1 => ?_
  · refine b_m_readTerm_26 (h := ⟨fun _ => go 5 (by rw [ew]; rfl), fun c => absurd c (by decide)⟩) ..
  refine b_m_readTerm_26 (h := ?_) ..
  refine ⟨fun c => absurd rfl c, fun _ => ?_⟩
  refine tk_157 (w := 137) hT hi h5 h7 (by decide) (fun ew => ?_) fun n2 => ?_
  · refine b_m_readTerm_38 (h := ⟨fun c => absurd c (by decide), fun _ => go 6 (by rw [ew]; rfl)⟩) ..
  refine b_m_readTerm_38 (h := ?_) ..
  refine ⟨fun _ => stop ?_, fun c => absurd rfl c⟩
  unfold p_termop
  rw [if_neg n0, if_neg n1, if_neg n2]
theorem rd_7 {X : mm_X} {f0 : Nat → Int32} {fl : Nat → Int64} {g : Nat → Nat → Int32} {gl : Nat → Nat → Int64} {hh : Nat → Nat → Option Nat} {v : Nat → Value} {tx : mm_W} {c u S : Nat → Nat} {sec : Bool} {N n : Nat} (hT : TK g c u S N) (ih : RDn X f0 fl g gl hh v tx c u S sec N n) {deep i p o t K : Nat} {C : List Nat} {e : pE → Option Int} {f : Nat → Int32} {P : Option Value → mm_W → Prop} (hd : deep ≤ 8) (hi : i ≤ N) (hp : p ≤ 50) (hK : 8 * (8 - deep) ≤ K) (he : p_rg 7 (e E00)) (hne : pS c u sec (pP c u sec n) 7 deep i p o t C e ≠ none) (hs : sm f f0) (h5 : f 4755 = iI (i : Int)) (h6 : f 4756 = iI (p : Int)) (h7 : f 4757 = -1) (hR : RR f0 fl g gl hh v tx S P (pS c u sec (pP c u sec n) 7 deep i p o t C e)) : RDg X fl g gl hh v tx 7 deep K f P := by
  show WP X (K + 6) 168 _ P
  have er : pS c u sec (pP c u sec n) 7 deep i p o t C e = match p_sumop (c i) with
    | none => some (.inr (i, p, C, e))
    | some op => p_then (pP c u sec n 1 deep (i + 1) p (o + C.length) 0 [] p_e0) (fun j p' C' e' => pP c u sec n 7 deep j p' o 0 (C ++ C' ++ [op * 4096]) (p_bin op e e')) := rfl
  rw [er] at hne hR
  have stop : p_sumop (c i) = none → P none (Wd f fl g gl hh v tx) := fun h => by
    rw [h] at hR
    exact hR.1 i p C e rfl f hs h5 h6 h7
  have go : ∀ op, p_sumop (c i) = some op → WP X (K + 5) 169 (0, [some (.ref 74), some (.int (iI (deep : Int)))], [], Wd (va_up f 4755 (iI ((i + 1 : Nat) : Int))) fl g gl hh v tx) (fun rv w2 => WP X (K + 6) 168 (34, [some (.ref 74), some (.int (iI (deep : Int)))], rv.toList ++ [], w2) P) := by
    intro op hop
    rw [hop] at hne hR
    have hiN : i < N := hT.s fun h => by rw [h] at hop; cases hop
    refine ih 1 deep (i + 1) p (o + C.length) 0 [] p_e0 K (va_up f 4755 (iI ((i + 1 : Nat) : Int))) _ (by omega) (by omega) hd (by omega) hp hK (fun h => by omega) (fun h => hne (by show p_then _ _ = _; rw [h]; rfl)) hs.u5 va_s (by rw [va_ne (by decide)]; exact h6) (by rw [va_ne (by decide)]; exact h7) ⟨fun j p' C' e' h1 f' hs' a5 a6 a7 => ?_, fun k h1 f' hs' a7 => ?_⟩
    · obtain ⟨g1, g2, g3, g4, g5, g6, g7, g8, g9, g10⟩ := p_inv hT.c0 E00_ok _ _ _ _ _ _ _ _ _ _ _ _ _ h1 (by omega) (by omega) (by omega) hp (fun h => by omega)
      simp only [h1] at hne hR
      refine b_m_readSum_34 (h := ?_) ..
      exact ih 7 deep j p' o 0 _ (p_bin op e e') K f' P (by omega) (by omega) hd g2 g3 hK (fun _ => p_num_bin) hne hs' a5 a6 a7 hR
    · simp only [h1] at hR
      refine b_m_readSum_34 (h := ?_) ..
      exact fl_168a (by rw [a7]; exact hT.q k) (hR.2 k rfl f' hs' a7)
  refine b_m_readSum_5 (h := ?_) ..
  refine tk_157 (w := 143) hT hi h5 h7 (by decide) (fun ew => ?_) fun n0 => ?_
  · refine b_m_readSum_14 (h := ⟨fun _ => go 2 (by rw [ew]; rfl), fun c => absurd c (by decide)⟩) ..
  refine b_m_readSum_14 (h := ?_) ..
  refine ⟨fun c => absurd rfl c, fun _ => ?_⟩
  refine tk_157 (w := 145) hT hi h5 h7 (by decide) (fun ew => ?_) fun n1 => ?_
  · refine b_m_readSum_26 (h := ⟨fun c => absurd c (by decide), fun _ => go 3 (by rw [ew]; rfl)⟩) ..
  refine b_m_readSum_26 (h := ?_) ..
  refine ⟨fun _ => stop ?_, fun c => absurd rfl c⟩
  unfold p_sumop
  rw [if_neg n0, if_neg n1]
theorem rd_8 {X : mm_X} {f0 : Nat → Int32} {fl : Nat → Int64} {g : Nat → Nat → Int32} {gl : Nat → Nat → Int64} {hh : Nat → Nat → Option Nat} {v : Nat → Value} {tx : mm_W} {c u S : Nat → Nat} {sec : Bool} {N n : Nat} (hT : TK g c u S N) (ih : RDn X f0 fl g gl hh v tx c u S sec N n) {deep i p o t K : Nat} {C : List Nat} {e : pE → Option Int} {f : Nat → Int32} {P : Option Value → mm_W → Prop} (hd : deep ≤ 8) (hi : i ≤ N) (hp : p ≤ 50) (hK : 8 * (8 - deep) ≤ K) (he : p_rg 8 (e E00)) (hne : pS c u sec (pP c u sec n) 8 deep i p o t C e ≠ none) (hs : sm f f0) (h5 : f 4755 = iI (i : Int)) (h6 : f 4756 = iI (p : Int)) (h7 : f 4757 = -1) (hR : RR f0 fl g gl hh v tx S P (pS c u sec (pP c u sec n) 8 deep i p o t C e)) : RDg X fl g gl hh v tx 8 deep K f P := by
  show WP X (K + 9) 166 _ P
  have er : pS c u sec (pP c u sec n) 8 deep i p o t C e = if c i = 6 then p_then (pP c u sec n 3 deep (i + 1) p (o + C.length + 1) 0 [] p_e0) (fun j p' C' e' => pP c u sec n 8 deep j p' o 0 (C ++ [12 * 4096 + (o + C.length + 1 + C'.length)] ++ C') (p_sc 12 e e')) else some (.inr (i, p, C, e)) := rfl
  rw [er] at hne hR
  refine b_m_readBoth_5 (h := ?_) ..
  refine tk_157 (w := 6) hT hi h5 h7 (by decide) (fun ew => ?_) fun n0 => ?_
  · rw [if_pos ew] at hne hR
    have hiN : i < N := hT.s (by rw [ew]; decide)
    refine b_m_readBoth_11 (h := ⟨fun c => absurd c (by decide), fun _ => ?_⟩) ..
    refine b_m_readPlain_0 (h := ?_) ..
    refine ih 3 deep (i + 1) p (o + C.length + 1) 0 [] p_e0 K (va_up f 4755 (iI ((i + 1 : Nat) : Int))) _ (by omega) (by omega) hd (by omega) hp hK (fun h => by omega) (fun h => hne (by rw [h]; rfl)) hs.u5 va_s (by rw [va_ne (by decide)]; exact h6) (by rw [va_ne (by decide)]; exact h7) ⟨fun j p' C' e' h1 f' hs' a5 a6 a7 => ?_, fun k h1 f' hs' a7 => ?_⟩
    · obtain ⟨g1, g2, g3, g4, g5, g6, g7, g8, g9, g10⟩ := p_inv hT.c0 E00_ok _ _ _ _ _ _ _ _ _ _ _ _ _ h1 (by omega) (by omega) (by omega) hp (fun h => by omega)
      rw [h1] at hne hR
      refine b_m_readBoth_19 (h := ?_) ..
      exact ih 8 deep j p' o 0 _ (p_sc 12 e e') K f' P (by omega) (by omega) hd g2 g3 hK (fun _ => p_tst_sc he g10) hne hs' a5 a6 a7 hR
    · rw [h1] at hR
      refine b_m_readBoth_19 (h := ?_) ..
      exact fl_166a (by rw [a7]; exact hT.q k) (hR.2 k rfl f' hs' a7)
  · rw [if_neg n0] at hR
    exact b_m_readBoth_11 (h := ⟨fun _ => hR.1 i p C e rfl f hs h5 h6 h7, fun c => absurd rfl c⟩) ..
theorem rd_9 {X : mm_X} {f0 : Nat → Int32} {fl : Nat → Int64} {g : Nat → Nat → Int32} {gl : Nat → Nat → Int64} {hh : Nat → Nat → Option Nat} {v : Nat → Value} {tx : mm_W} {c u S : Nat → Nat} {sec : Bool} {N n : Nat} (hT : TK g c u S N) (ih : RDn X f0 fl g gl hh v tx c u S sec N n) {deep i p o t K : Nat} {C : List Nat} {e : pE → Option Int} {f : Nat → Int32} {P : Option Value → mm_W → Prop} (hd : deep ≤ 8) (hi : i ≤ N) (hp : p ≤ 50) (hK : 8 * (8 - deep) ≤ K) (he : p_rg 9 (e E00)) (hne : pS c u sec (pP c u sec n) 9 deep i p o t C e ≠ none) (hs : sm f f0) (h5 : f 4755 = iI (i : Int)) (h6 : f 4756 = iI (p : Int)) (h7 : f 4757 = -1) (hR : RR f0 fl g gl hh v tx S P (pS c u sec (pP c u sec n) 9 deep i p o t C e)) : RDg X fl g gl hh v tx 9 deep K f P := by
  show WP X (K + 10) 165 _ P
  have er : pS c u sec (pP c u sec n) 9 deep i p o t C e = if c i = 5 then p_then (pP c u sec n 4 deep (i + 1) p (o + C.length + 1) 0 [] p_e0) (fun j p' C' e' => pP c u sec n 9 deep j p' o 0 (C ++ [11 * 4096 + (o + C.length + 1 + C'.length)] ++ C') (p_sc 11 e e')) else some (.inr (i, p, C, e)) := rfl
  rw [er] at hne hR
  refine b_m_readTest_5 (h := ?_) ..
  refine tk_157 (w := 5) hT hi h5 h7 (by decide) (fun ew => ?_) fun n0 => ?_
  · rw [if_pos ew] at hne hR
    have hiN : i < N := hT.s (by rw [ew]; decide)
    refine b_m_readTest_10 (h := ⟨fun c => absurd c (by decide), fun _ => ?_⟩) ..
    refine ih 4 deep (i + 1) p (o + C.length + 1) 0 [] p_e0 K (va_up f 4755 (iI ((i + 1 : Nat) : Int))) _ (by omega) (by omega) hd (by omega) hp hK (fun h => by omega) (fun h => hne (by rw [h]; rfl)) hs.u5 va_s (by rw [va_ne (by decide)]; exact h6) (by rw [va_ne (by decide)]; exact h7) ⟨fun j p' C' e' h1 f' hs' a5 a6 a7 => ?_, fun k h1 f' hs' a7 => ?_⟩
    · obtain ⟨g1, g2, g3, g4, g5, g6, g7, g8, g9, g10⟩ := p_inv hT.c0 E00_ok _ _ _ _ _ _ _ _ _ _ _ _ _ h1 (by omega) (by omega) (by omega) hp (fun h => by omega)
      rw [h1] at hne hR
      refine b_m_readTest_18 (h := ?_) ..
      exact ih 9 deep j p' o 0 _ (p_sc 11 e e') K f' P (by omega) (by omega) hd g2 g3 hK (fun _ => p_tst_sc he g10) hne hs' a5 a6 a7 hR
    · rw [h1] at hR
      refine b_m_readTest_18 (h := ?_) ..
      exact fl_165a (by rw [a7]; exact hT.q k) (hR.2 k rfl f' hs' a7)
  · rw [if_neg n0] at hR
    exact b_m_readTest_10 (h := ⟨fun _ => hR.1 i p C e rfl f hs h5 h6 h7, fun c => absurd rfl c⟩) ..
theorem rd_3 {X : mm_X} {f0 : Nat → Int32} {fl : Nat → Int64} {g : Nat → Nat → Int32} {gl : Nat → Nat → Int64} {hh : Nat → Nat → Option Nat} {v : Nat → Value} {tx : mm_W} {c u S : Nat → Nat} {sec : Bool} {N n : Nat} (hT : TK g c u S N) (ih : RDn X f0 fl g gl hh v tx c u S sec N n) {deep i p o t K : Nat} {C : List Nat} {e : pE → Option Int} {f : Nat → Int32} {P : Option Value → mm_W → Prop} (hd : deep ≤ 8) (hi : i ≤ N) (hp : p ≤ 50) (hK : 8 * (8 - deep) ≤ K) (ht : t ≤ 1) (hne : pS c u sec (pP c u sec n) 3 deep i p o t C e ≠ none) (hs : sm f f0) (h5 : f 4755 = iI (i : Int)) (h6 : f 4756 = iI (p : Int)) (h7 : f 4757 = -1) (hR : RR f0 fl g gl hh v tx S P (pS c u sec (pP c u sec n) 3 deep i p o t C e)) : RDg X fl g gl hh v tx 3 deep K f P := by
  show WP X (K + 8) 167 _ P
  have er : pS c u sec (pP c u sec n) 3 deep i p o t C e = if c i = 7 then pP c u sec n 3 deep (i + 1) p o (1 - t) [] p_e0
      else if c i = 140 then (if deep = 8 then some (.inl i) else p_then (pP c u sec n 5 (deep + 1) (i + 1) p o 0 [] p_e0) fun j p' C' e' => if c j = 141 then some (.inr (j + 1, p', if t = 1 then C' ++ [10 * 4096] else C', if t = 1 then p_not e' else e')) else some (.inl j))
      else p_then (pP c u sec n 2 deep i p o 0 [] p_e0) fun j p' C' e' => match p_cmp (c j) with
        | none => some (.inl j)
        | some op => p_then (pP c u sec n 2 deep (j + 1) p' (o + C'.length) 0 [] p_e0) fun j2 p2 C2 e2 => some (.inr (j2, p2, if t = 1 then C' ++ C2 ++ [op * 4096] ++ [10 * 4096] else C' ++ C2 ++ [op * 4096], if t = 1 then p_not (p_bin op e' e2) else p_bin op e' e2)) := rfl
  rw [er] at hne hR
  have e140 : (g 83 i = (140 : Int32)) = (c i = 140) := hT.e hi (w := 140) (by decide)
  refine b_m_readPlain_2 (h := ⟨fun c => absurd c (by decide), fun _ => ?_⟩) ..
  refine tk_157 (w := 7) hT hi h5 h7 (by decide) (fun ew => ?_) fun n7 => ?_
  · rw [if_pos ew] at hne hR
    have hiN : i < N := hT.s (by rw [ew]; decide)
    refine b_m_readPlain_12 (h := ?_) ..
    exact ih 3 deep (i + 1) p o (1 - t) [] p_e0 K (va_up f 4755 (iI ((i + 1 : Nat) : Int))) P (by omega) (by omega) hd (by omega) hp hK (fun h => by omega) hne hs.u5 va_s (by rw [va_ne (by decide)]; exact h6) (by rw [va_ne (by decide)]; exact h7) hR
  rw [if_neg n7] at hne hR
  refine b_m_readPlain_12 (h := ?_) ..
  refine b_m_readPlain_2 (h := ⟨fun _ => ⟨fun c => absurd h7 c, fun _ => ?_⟩, fun c => absurd rfl c⟩) ..
  rw [h5, (hT.i hi).2, e140, (hT.at_ i hi).2.2]
  refine ⟨(hT.i hi).1, fun n140 => ?_, fun y140 => ?_⟩
  · rw [if_neg n140] at hne hR
    refine ih 2 deep i p o 0 [] p_e0 (K + 1) f _ (by omega) (by omega) hd hi hp (by omega) (fun h => by omega) (fun h => hne (by rw [h]; rfl)) hs h5 h6 h7 ⟨fun j p' C' e' h1 f' hs' a5 a6 a7 => ?_, fun k h1 f' hs' a7 => ?_⟩
    · obtain ⟨g1, g2, g3, g4, g5, g6, g7, g8, g9, g10⟩ := p_inv hT.c0 E00_ok _ _ _ _ _ _ _ _ _ _ _ _ _ h1 (by omega) (by omega) hi hp (fun h => by omega)
      rw [h1] at hne hR
      have hne : (match p_cmp (c j) with
        | none => some (.inl j)
        | some op => p_then (pP c u sec n 2 deep (j + 1) p' (o + C'.length) 0 [] p_e0) fun j2 p2 C2 e2 => some (.inr (j2, p2, if t = 1 then C' ++ C2 ++ [op * 4096] ++ [10 * 4096] else C' ++ C2 ++ [op * 4096], if t = 1 then p_not (p_bin op e' e2) else p_bin op e' e2))) ≠ none := hne
      have hR : RR f0 fl g gl hh v tx S P (match p_cmp (c j) with
        | none => some (.inl j)
        | some op => p_then (pP c u sec n 2 deep (j + 1) p' (o + C'.length) 0 [] p_e0) fun j2 p2 C2 e2 => some (.inr (j2, p2, if t = 1 then C' ++ C2 ++ [op * 4096] ++ [10 * 4096] else C' ++ C2 ++ [op * 4096], if t = 1 then p_not (p_bin op e' e2) else p_bin op e' e2))) := hR
      have go : ∀ op, p_cmp (c j) = some op → WP X (K + 7) 168 (0, [some (.ref 74), some (.int (iI (deep : Int)))], [], Wd (va_up f' 4755 (iI ((j + 1 : Nat) : Int))) fl g gl hh v tx) (fun rv w2 => WP X (K + 8) 167 (133, [none, none, none, none], rv.toList ++ [], w2) P) := by
        intro op hop
        rw [hop] at hne hR
        have hjN : j < N := hT.s fun h => by rw [h] at hop; cases hop
        refine ih 2 deep (j + 1) p' (o + C'.length) 0 [] p_e0 (K + 1) (va_up f' 4755 (iI ((j + 1 : Nat) : Int))) _ (by omega) (by omega) hd (by omega) g3 (by omega) (fun h => by omega) (fun h => hne (by show p_then _ _ = _; rw [h]; rfl)) hs'.u5 va_s (by rw [va_ne (by decide)]; exact a6) (by rw [va_ne (by decide)]; exact a7) ⟨fun j2 p2 C2 e2 h2 f2 hs2 b5 b6 b7 => ?_, fun k h2 f2 hs2 b7 => ?_⟩
        · simp only [h2] at hR
          refine b_m_readPlain_133 (h := ?_) ..
          exact hR.1 _ _ _ _ rfl f2 hs2 b5 b6 b7
        · simp only [h2] at hR
          refine b_m_readPlain_133 (h := ?_) ..
          exact hR.2 k rfl f2 hs2 b7
      refine b_m_readPlain_95 (h := ?_) ..
      refine tk_157 (w := 160) hT g2 a5 a7 (by decide) (fun ew => ?_) fun m0 => ?_
      · exact b_m_readPlain_104 (h := ⟨fun _ => go 7 (by rw [ew]; rfl), fun c => absurd c (by decide)⟩) ..
      refine b_m_readPlain_104 (h := ⟨fun c => absurd rfl c, fun _ => ?_⟩) ..
      refine tk_157 (w := 162) hT g2 a5 a7 (by decide) (fun ew => ?_) fun m1 => ?_
      · exact b_m_readPlain_116 (h := ⟨fun _ => go 8 (by rw [ew]; rfl), fun c => absurd c (by decide)⟩) ..
      refine b_m_readPlain_116 (h := ⟨fun c => absurd rfl c, fun _ => ?_⟩) ..
      refine tk_158 (w := 161) hT g2 a5 a7 (by decide) (fun ew => ?_) fun m2 => ?_
      · exact b_m_readPlain_128 (h := go 9 (by rw [ew]; rfl)) ..
      · have eno : p_cmp (c j) = none := by unfold p_cmp; rw [if_neg m0, if_neg m1, if_neg m2]
        rw [eno] at hR
        refine b_m_readPlain_128 (h := ?_) ..
        refine fl_168 (by rw [va_s]; exact hT.q j) ?_
        exact b_m_readPlain_133 (h := hR.2 j rfl _ hs'.u7 va_s) ..
    · rw [h1] at hR
      have hq : ¬ f' 4757 = -1 := by rw [a7]; exact hT.q k
      have hP := hR.2 k rfl f' hs' a7
      refine b_m_readPlain_95 (h := fl_157 hq (b_m_readPlain_104 (h := ⟨fun c => absurd rfl c, fun _ => fl_157 hq (b_m_readPlain_116 (h := ⟨fun c => absurd rfl c, fun _ => fl_158 hq (b_m_readPlain_128 (h := fl_168 hq (b_m_readPlain_133 (h := hP) ..)) ..)⟩) ..)⟩) ..)) ..
  · rw [if_pos y140] at hne hR
    have hiN : i < N := hT.s (by rw [y140]; decide)
    refine ⟨fun nd => ?_, fun yd => ⟨fun c => absurd h7 c, fun _ => ⟨(hT.i hi).1, ?_⟩⟩⟩
    · have d8 : deep ≠ 8 := fun e => nd (by rw [e]; rfl)
      rw [if_neg d8] at hne hR
      obtain ⟨K2, rfl⟩ : ∃ K2, K = K2 + 3 := ⟨K - 3, by omega⟩
      refine b_m_readPlain_53 (h := ⟨fun c => absurd h7 c, fun _ => ?_⟩) ..
      rw [h5, i1N, i1N]
      refine ih 5 (deep + 1) (i + 1) p o 0 [] p_e0 K2 (va_up f 4755 (iI ((i + 1 : Nat) : Int))) _ (by omega) (by omega) (by omega) (by omega) hp (by omega) (fun h => by omega) (fun h => hne (by rw [h]; rfl)) hs.u5 va_s (by rw [va_ne (by decide)]; exact h6) (by rw [va_ne (by decide)]; exact h7) ⟨fun j p' C' e' h1 f' hs' a5 a6 a7 => ?_, fun k h1 f' hs' a7 => ?_⟩
      · obtain ⟨g1, g2, g3, g4, g5, g6, g7, g8, g9, g10⟩ := p_inv hT.c0 E00_ok _ _ _ _ _ _ _ _ _ _ _ _ _ h1 (by omega) (by omega) (by omega) hp (fun h => by omega)
        rw [h1] at hR
        have hR : RR f0 fl g gl hh v tx S P (if c j = 141 then some (.inr (j + 1, p', if t = 1 then C' ++ [10 * 4096] else C', if t = 1 then p_not e' else e')) else some (.inl j)) := hR
        refine b_m_readPlain_78 (h := ?_) ..
        refine tk_158 (w := 141) hT g2 a5 a7 (by decide) (fun ew => ?_) fun m2 => ?_
        · rw [if_pos ew] at hR
          exact b_m_readPlain_87 (h := hR.1 _ _ _ _ rfl _ hs'.u5 va_s (by rw [va_ne (by decide)]; exact a6) (by rw [va_ne (by decide)]; exact a7)) ..
        · rw [if_neg m2] at hR
          exact b_m_readPlain_87 (h := hR.2 j rfl _ hs'.u7 va_s) ..
      · rw [h1] at hR
        have hq : ¬ f' 4757 = -1 := by rw [a7]; exact hT.q k
        exact b_m_readPlain_78 (h := fl_158 hq (b_m_readPlain_87 (h := hR.2 k rfl f' hs' a7) ..)) ..
    · have d8 : deep = 8 := by
        have yd : iI (deep : Int) = iI 8 := yd
        rw [z_eq (by omega) (by omega)] at yd
        omega
      rw [if_pos d8] at hR
      exact b_m_readPlain_53 (h := ⟨fun _ => hR.2 i rfl _ hs.u7 va_s, fun c => absurd (va_s.symm.trans c) (hT.q i)⟩) ..
