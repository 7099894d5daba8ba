/-! the class reads: by induction on how it is read -/
theorem cx_emit0 {X : mm_X} {d : Nat} {f : Nat → Int32} {fl : Nat → Int64} {g : Nat → Nat → Int32} {gl : Nat → Nat → Int64} {hh : Nat → Nat → Option Nat} {v : Nat → Value} {tx : mm_W} {P : Option Value → mm_W → Prop} {z q : Nat} {a : Nat → Int32} (hz : z < 400) (h49 : f 2049 = iI (z : Int)) (ha : q < 16) (h : P none (Wd (va_up f 2049 (iI ((z + 1 : Nat) : Int))) fl (va_up g 34 (upd a z (iI ((q * 4096 : Nat) : Int)))) gl hh v tx)) : WP X d 41 (0, [some (.ref 31), some (.int (iI (q : Int))), some (.int 0)], [], Wd f fl (va_up g 34 a) gl hh v tx) P := by
  have e : ∀ x : Nat, x + 0 = x := fun x => Nat.add_zero x
  have k := cx_emit (X := X) (d := d) (fl := fl) (g := g) (gl := gl) (hh := hh) (v := v) (tx := tx) (P := P) (q := q) (x := 0) (a := a) hz h49 ha (by decide)
  rw [e (q * 4096)] at k
  exact k h
theorem cd.hi {a a' : Nat → Int32} {o : Nat} {C : List Nat} (h : cd a o C) (he : ∀ q, o ≤ q → a' q = a q) : cd a' o C := fun i x hx => (he _ (by omega)).trans (h i x hx)
theorem xd_1 {X : mm_X} {f0 : Nat → Int32} {fl : Nat → Int64} {g : Nat → Nat → Int32} {gl : Nat → Nat → Int64} {hh : Nat → Nat → Option Nat} {v : Nat → Value} {tx : mm_W} {b : Nat → Nat} {n N m : Nat} {sec : Bool} (hX : CX g b n N) (ih : XDn X f0 fl g gl hh v tx b n N sec m) {deep i p o t l K : Nat} {C : List Nat} {e : pE → Option Int} {f a : Nat → Int32} {P : Option Value → mm_W → Prop} (hd : deep ≤ 8) (hi : i ≤ N) (hp : p ≤ 50) (hK : 3 * (8 - deep) ≤ K) (ht : t ≤ 1) (hl : l ≤ i) (ho : o + C.length + t ≤ i) (hc0 : 1 ≤ 5 → C = []) (he : 6 ≤ 1 → p_rg 1 (e E00)) (hne : pS (tcK b n) (tvK b n) sec (pP (tcK b n) (tvK b n) sec m) 1 deep i p o t C e ≠ none) (hs : smx f f0) (hC : CK f v b n i) (h89 : f 1989 = iI (p : Int)) (h49 : f 2049 = iI ((o + C.length : Nat) : Int)) (hcd : cd a o C) (hR : XR f0 fl g gl hh v tx b n o a P (pS (tcK b n) (tvK b n) sec (pP (tcK b n) (tvK b n) sec m) 1 deep i p o t C e)) : XDg X fl g gl hh v tx 1 deep t l K f a P := by
  have er : pS (tcK b n) (tvK b n) sec (pP (tcK b n) (tvK b n) sec m) 1 deep i p o t C e = p_then (pP (tcK b n) (tvK b n) sec m 0 deep i p o 0 [] p_e0) (fun j p' C' e' => pP (tcK b n) (tvK b n) sec m 6 deep j p' o 0 C' e') := rfl
  rw [er] at hne hR
  have c0 := hc0 (by omega)
  subst c0
  have ho : o + 0 + t ≤ i := ho
  show WP X (K + 2) 38 _ P
  refine b_yre_sum_31_0 (h := ⟨fun c => absurd c (by decide), fun _ => ?_⟩) ..
  refine ih 0 deep i p o 0 0 [] p_e0 K f a _ (by omega) (by omega) hd hi hp hK (by omega) (show o + 0 + 0 ≤ i by omega) (fun _ => rfl) (fun h => by omega) (fun h => hne (by rw [h]; rfl)) hs hC h89 h49 hcd ⟨fun j p' C' e' h1 f' a' hs' hC' a89 a49 alo acd => ?_, fun k h1 f' a' hs' a85 => ?_⟩
  · obtain ⟨g1, g2, g3, g4, g5, g6, g7, g8, g9, g10⟩ := p_inv hX.c0 E00_ok _ _ _ _ _ _ _ _ _ _ _ _ _ h1 (by omega) (by omega) hi hp (fun h => by omega)
    have g6 := g6 (by omega) (by omega)
    rw [h1] at hne hR
    refine b_yre_sum_31_9 (h := ⟨fun c => absurd c (by decide), fun _ => ?_⟩) ..
    exact ih 6 deep j p' o 0 0 C' e' K f' a' P (by omega) (by omega) hd g2 g3 hK (by omega) (by omega) (fun h => by omega) (fun _ => g10) hne hs' hC' a89 a49 acd (hR.up alo)
  · rw [h1] at hR
    exact b_yre_sum_31_9 (h := ⟨fun _ => hR.2 k rfl f' a' hs' a85, fun c => absurd rfl c⟩) ..
theorem xd_2 {X : mm_X} {f0 : Nat → Int32} {fl : Nat → Int64} {g : Nat → Nat → Int32} {gl : Nat → Nat → Int64} {hh : Nat → Nat → Option Nat} {v : Nat → Value} {tx : mm_W} {b : Nat → Nat} {n N m : Nat} {sec : Bool} (hX : CX g b n N) (ih : XDn X f0 fl g gl hh v tx b n N sec m) {deep i p o t l K : Nat} {C : List Nat} {e : pE → Option Int} {f a : Nat → Int32} {P : Option Value → mm_W → Prop} (hd : deep ≤ 8) (hi : i ≤ N) (hp : p ≤ 50) (hK : 3 * (8 - deep) ≤ K) (ht : t ≤ 1) (hl : l ≤ i) (ho : o + C.length + t ≤ i) (hc0 : 2 ≤ 5 → C = []) (he : 6 ≤ 2 → p_rg 2 (e E00)) (hne : pS (tcK b n) (tvK b n) sec (pP (tcK b n) (tvK b n) sec m) 2 deep i p o t C e ≠ none) (hs : smx f f0) (hC : CK f v b n i) (h89 : f 1989 = iI (p : Int)) (h49 : f 2049 = iI ((o + C.length : Nat) : Int)) (hcd : cd a o C) (hR : XR f0 fl g gl hh v tx b n o a P (pS (tcK b n) (tvK b n) sec (pP (tcK b n) (tvK b n) sec m) 2 deep i p o t C e)) : XDg X fl g gl hh v tx 2 deep t l K f a P := by
  have er : pS (tcK b n) (tvK b n) sec (pP (tcK b n) (tvK b n) sec m) 2 deep i p o t C e = p_then (pP (tcK b n) (tvK b n) sec m 1 deep i p o 0 [] p_e0) (fun j p' C' e' => pP (tcK b n) (tvK b n) sec m 7 deep j p' o 0 C' e') := rfl
  rw [er] at hne hR
  have c0 := hc0 (by omega)
  subst c0
  have ho : o + 0 + t ≤ i := ho
  show WP X (K + 3) 38 _ P
  refine b_yre_sum_31_0 (h := ⟨fun _ => ?_, fun c => absurd rfl c⟩) ..
  refine ih 1 deep i p o 0 0 [] p_e0 K f a _ (by omega) (by omega) hd hi hp hK (by omega) (show o + 0 + 0 ≤ i by omega) (fun _ => rfl) (fun h => by omega) (fun h => hne (by rw [h]; rfl)) hs hC h89 h49 hcd ⟨fun j p' C' e' h1 f' a' hs' hC' a89 a49 alo acd => ?_, fun k h1 f' a' hs' a85 => ?_⟩
  · obtain ⟨g1, g2, g3, g4, g5, g6, g7, g8, g9, g10⟩ := p_inv hX.c0 E00_ok _ _ _ _ _ _ _ _ _ _ _ _ _ h1 (by omega) (by omega) hi hp (fun h => by omega)
    have g6 := g6 (by omega) (by omega)
    rw [h1] at hne hR
    refine b_yre_sum_31_21 (h := ⟨fun _ => ?_, fun c => absurd c (by decide)⟩) ..
    exact ih 7 deep j p' o 0 0 C' e' K f' a' P (by omega) (by omega) hd g2 g3 hK (by omega) (by omega) (fun h => by omega) (fun _ => g10) hne hs' hC' a89 a49 acd (hR.up alo)
  · rw [h1] at hR
    exact b_yre_sum_31_21 (h := ⟨fun c => absurd rfl c, fun _ => hR.2 k rfl f' a' hs' a85⟩) ..
theorem xd_4 {X : mm_X} {f0 : Nat → Int32} {fl : Nat → Int64} {g : Nat → Nat → Int32} {gl : Nat → Nat → Int64} {hh : Nat → Nat → Option Nat} {v : Nat → Value} {tx : mm_W} {b : Nat → Nat} {n N m : Nat} {sec : Bool} (hX : CX g b n N) (ih : XDn X f0 fl g gl hh v tx b n N sec m) {deep i p o t l K : Nat} {C : List Nat} {e : pE → Option Int} {f a : Nat → Int32} {P : Option Value → mm_W → Prop} (hd : deep ≤ 8) (hi : i ≤ N) (hp : p ≤ 50) (hK : 3 * (8 - deep) ≤ K) (ht : t ≤ 1) (hl : l ≤ i) (ho : o + C.length + t ≤ i) (hc0 : 4 ≤ 5 → C = []) (he : 6 ≤ 4 → p_rg 4 (e E00)) (hne : pS (tcK b n) (tvK b n) sec (pP (tcK b n) (tvK b n) sec m) 4 deep i p o t C e ≠ none) (hs : smx f f0) (hC : CK f v b n i) (h89 : f 1989 = iI (p : Int)) (h49 : f 2049 = iI ((o + C.length : Nat) : Int)) (hcd : cd a o C) (hR : XR f0 fl g gl hh v tx b n o a P (pS (tcK b n) (tvK b n) sec (pP (tcK b n) (tvK b n) sec m) 4 deep i p o t C e)) : XDg X fl g gl hh v tx 4 deep t l K f a P := by
  have er : pS (tcK b n) (tvK b n) sec (pP (tcK b n) (tvK b n) sec m) 4 deep i p o t C e = p_then (pP (tcK b n) (tvK b n) sec m 3 deep i p o 0 [] p_e0) (fun j p' C' e' => pP (tcK b n) (tvK b n) sec m 8 deep j p' o 0 C' e') := rfl
  rw [er] at hne hR
  have c0 := hc0 (by omega)
  subst c0
  have ho : o + 0 + t ≤ i := ho
  show WP X (K + 5) 36 _ P
  refine b_yre_test_31_0 (h := ⟨fun c => absurd c (by decide), fun _ => ?_⟩) ..
  refine b_yre_plain_31_0 (h := ?_) ..
  refine ih 3 deep i p o 0 0 [] p_e0 K f a _ (by omega) (by omega) hd hi hp hK (by omega) (show o + 0 + 0 ≤ i by omega) (fun _ => rfl) (fun h => by omega) (fun h => hne (by rw [h]; rfl)) hs hC h89 h49 hcd ⟨fun j p' C' e' h1 f' a' hs' hC' a89 a49 alo acd => ?_, fun k h1 f' a' hs' a85 => ?_⟩
  · obtain ⟨g1, g2, g3, g4, g5, g6, g7, g8, g9, g10⟩ := p_inv hX.c0 E00_ok _ _ _ _ _ _ _ _ _ _ _ _ _ h1 (by omega) (by omega) hi hp (fun h => by omega)
    have g7 := g7 rfl
    rw [h1] at hne hR
    refine b_yre_test_31_9 (h := ⟨fun c => absurd c (by decide), fun _ => ?_⟩) ..
    exact ih 8 deep j p' o 0 0 C' e' K f' a' P (by omega) (by omega) hd g2 g3 hK (by omega) (by omega) (fun h => by omega) (fun _ => g10) hne hs' hC' a89 a49 acd (hR.up alo)
  · rw [h1] at hR
    exact b_yre_test_31_9 (h := ⟨fun _ => hR.2 k rfl f' a' hs' a85, fun c => absurd rfl c⟩) ..
theorem xd_5 {X : mm_X} {f0 : Nat → Int32} {fl : Nat → Int64} {g : Nat → Nat → Int32} {gl : Nat → Nat → Int64} {hh : Nat → Nat → Option Nat} {v : Nat → Value} {tx : mm_W} {b : Nat → Nat} {n N m : Nat} {sec : Bool} (hX : CX g b n N) (ih : XDn X f0 fl g gl hh v tx b n N sec m) {deep i p o t l K : Nat} {C : List Nat} {e : pE → Option Int} {f a : Nat → Int32} {P : Option Value → mm_W → Prop} (hd : deep ≤ 8) (hi : i ≤ N) (hp : p ≤ 50) (hK : 3 * (8 - deep) ≤ K) (ht : t ≤ 1) (hl : l ≤ i) (ho : o + C.length + t ≤ i) (hc0 : 5 ≤ 5 → C = []) (he : 6 ≤ 5 → p_rg 5 (e E00)) (hne : pS (tcK b n) (tvK b n) sec (pP (tcK b n) (tvK b n) sec m) 5 deep i p o t C e ≠ none) (hs : smx f f0) (hC : CK f v b n i) (h89 : f 1989 = iI (p : Int)) (h49 : f 2049 = iI ((o + C.length : Nat) : Int)) (hcd : cd a o C) (hR : XR f0 fl g gl hh v tx b n o a P (pS (tcK b n) (tvK b n) sec (pP (tcK b n) (tvK b n) sec m) 5 deep i p o t C e)) : XDg X fl g gl hh v tx 5 deep t l K f a P := by
  have er : pS (tcK b n) (tvK b n) sec (pP (tcK b n) (tvK b n) sec m) 5 deep i p o t C e = p_then (pP (tcK b n) (tvK b n) sec m 4 deep i p o 0 [] p_e0) (fun j p' C' e' => pP (tcK b n) (tvK b n) sec m 9 deep j p' o 0 C' e') := rfl
  rw [er] at hne hR
  have c0 := hc0 (by omega)
  subst c0
  have ho : o + 0 + t ≤ i := ho
  show WP X (K + 6) 36 _ P
  refine b_yre_test_31_0 (h := ⟨fun _ => ?_, fun c => absurd rfl c⟩) ..
  refine ih 4 deep i p o 0 0 [] p_e0 K f a _ (by omega) (by omega) hd hi hp hK (by omega) (show o + 0 + 0 ≤ i by omega) (fun _ => rfl) (fun h => by omega) (fun h => hne (by rw [h]; rfl)) hs hC h89 h49 hcd ⟨fun j p' C' e' h1 f' a' hs' hC' a89 a49 alo acd => ?_, fun k h1 f' a' hs' a85 => ?_⟩
  · obtain ⟨g1, g2, g3, g4, g5, g6, g7, g8, g9, g10⟩ := p_inv hX.c0 E00_ok _ _ _ _ _ _ _ _ _ _ _ _ _ h1 (by omega) (by omega) hi hp (fun h => by omega)
    have g6 := g6 (by omega) (by omega)
    rw [h1] at hne hR
    refine b_yre_test_31_21 (h := ⟨fun _ => ?_, fun c => absurd c (by decide)⟩) ..
    exact ih 9 deep j p' o 0 0 C' e' K f' a' P (by omega) (by omega) hd g2 g3 hK (by omega) (by omega) (fun h => by omega) (fun _ => g10) hne hs' hC' a89 a49 acd (hR.up alo)
  · rw [h1] at hR
    exact b_yre_test_31_21 (h := ⟨fun c => absurd rfl c, fun _ => hR.2 k rfl f' a' hs' a85⟩) ..
theorem xd_6 {X : mm_X} {f0 : Nat → Int32} {fl : Nat → Int64} {g : Nat → Nat → Int32} {gl : Nat → Nat → Int64} {hh : Nat → Nat → Option Nat} {v : Nat → Value} {tx : mm_W} {b : Nat → Nat} {n N m : Nat} {sec : Bool} (hX : CX g b n N) (ih : XDn X f0 fl g gl hh v tx b n N sec m) {deep i p o t l K : Nat} {C : List Nat} {e : pE → Option Int} {f a : Nat → Int32} {P : Option Value → mm_W → Prop} (hd : deep ≤ 8) (hi : i ≤ N) (hp : p ≤ 50) (hK : 3 * (8 - deep) ≤ K) (ht : t ≤ 1) (hl : l ≤ i) (ho : o + C.length + t ≤ i) (hc0 : 6 ≤ 5 → C = []) (he : 6 ≤ 6 → p_rg 6 (e E00)) (hne : pS (tcK b n) (tvK b n) sec (pP (tcK b n) (tvK b n) sec m) 6 deep i p o t C e ≠ none) (hs : smx f f0) (hC : CK f v b n i) (h89 : f 1989 = iI (p : Int)) (h49 : f 2049 = iI ((o + C.length : Nat) : Int)) (hcd : cd a o C) (hR : XR f0 fl g gl hh v tx b n o a P (pS (tcK b n) (tvK b n) sec (pP (tcK b n) (tvK b n) sec m) 6 deep i p o t C e)) : XDg X fl g gl hh v tx 6 deep t l K f a P := by
  have er : pS (tcK b n) (tvK b n) sec (pP (tcK b n) (tvK b n) sec m) 6 deep i p o t C e = match p_termop (tcK b n i) with
    | none => some (.inr (i, p, C, e))
    | some op => p_then (pP (tcK b n) (tvK b n) sec m 0 deep (i + 1) p (o + C.length) 0 [] p_e0) (fun j p' C' e' => pP (tcK b n) (tvK b n) sec m 6 deep j p' o 0 (C ++ C' ++ [op * 4096]) (p_bin op e e')) := rfl
  rw [er] at hne hR
  have N4 := hX.N4
  show WP X (K + 2) 38 _ P
  have m42 : (f 1990 = (42 : Int32)) = (tcK b n i = 142) := hC.m (w := 42) hX.b (by omega) (by omega) (by omega)
  have m47 : (f 1990 = (47 : Int32)) = (tcK b n i = 147) := hC.m (w := 47) hX.b (by omega) (by omega) (by omega)
  have m37 : (f 1990 = (37 : Int32)) = (tcK b n i = 137) := hC.m (w := 37) hX.b (by omega) (by omega) (by omega)
  have stop : p_termop (tcK b n i) = none → P (some (.int 1)) (Wd f fl (va_up g 34 a) gl hh v tx) := fun h => by
    rw [h] at hR
    exact hR.1 i p C e rfl f a hs hC h89 h49 (fun _ _ => rfl) hcd
  have go : ∀ op, op < 16 → p_termop (tcK b n i) = some op → WP X (K + 2) 38 (110, [some (.ref 31), some (.int 1), some (.int (iI (deep : Int))), some (.int (iI (l : Int))), none], [.int (iI (op : Int))], Wd f fl (va_up g 34 a) gl hh v tx) P := by
    intro op hop16 hop
    rw [hop] at hne hR
    have hiN : i < N := hX.s fun h => by rw [h] at hop; cases hop
    refine b_yre_sum_31_110 (h := ⟨fun _ => ?_, fun c => ?_⟩) ..
    · refine cx_step hX hC hiN fun f2 hf2 hC2 => ?_
      have hs2 := hs.st hf2
      refine b_yre_sum_31_124 (h := ⟨fun c => absurd c (by decide), fun _ => ?_⟩) ..
      refine ih 0 deep (i + 1) p (o + C.length) 0 0 [] p_e0 K f2 a _ (by omega) (by omega) hd (by omega) hp hK (by omega) (show o + C.length + 0 + 0 ≤ i + 1 by omega) (fun _ => rfl) (fun h => by omega) (fun h => hne (by show p_then _ _ = _; rw [h]; rfl)) hs2 hC2 ((hf2 _ (by omega)).trans h89) ((hf2 _ (by omega)).trans h49) cd.nil ⟨fun j p' C' e' h1 f' a' hs' hC' a89 a49 alo acd => ?_, fun k h1 f' a' hs' a85 => ?_⟩
      · obtain ⟨g1, g2, g3, g4, g5, g6, g7, g8, g9, g10⟩ := p_inv hX.c0 E00_ok _ _ _ _ _ _ _ _ _ _ _ _ _ h1 (by omega) (by omega) (by omega) hp (fun h => by omega)
        have g6 := g6 (by omega) (by omega)
        simp only [h1] at hne hR
        refine b_yre_sum_31_133 (h := ⟨fun c => absurd c (by decide), fun _ => ?_⟩) ..
        refine cx_emit0 (q := op) (z := o + C.length + C'.length) (by omega) a49 hop16 ?_
        refine b_yre_sum_31_157 (h := ?_) ..
        rw [i1N]
        refine ih 6 deep j p' o 0 (l + 1) (C ++ C' ++ [op * 4096]) (p_bin op e e') K _ _ P (by omega) (by omega) hd g2 g3 hK (by omega) ?_ (fun h => by omega) (fun _ => p_num_bin) hne hs'.uz hC'.uz ((va_ne (by omega)).trans a89) ?_ (((hcd.mono (Nat.le_refl _) alo).app acd).snoc (by rw [List.length_append]; omega)) (hR.up fun q hq => (upd_ne (by omega)).trans (alo q (by omega)))
        · simp only [List.length_append, List.length_singleton]; omega
        · rw [va_s]; simp only [List.length_append, List.length_singleton]; congr 2; omega
      · simp only [h1] at hR
        exact b_yre_sum_31_133 (h := ⟨fun _ => hR.2 k rfl f' a' hs' a85, fun c => absurd rfl c⟩) ..
    · have c : iI (op : Int) = iI (-1) := c
      rw [z_eq (by omega) (by omega)] at c
      omega
  refine b_yre_sum_31_28 (h := ⟨fun c => stop ?_, fun _ => ⟨fun c => absurd c (by decide), fun _ => ?_⟩⟩) ..
  · simp (disch := omega) only [z_lit, z_litl, z_neg, z_negl, z_add, z_sub, z_mul, z_addl, z_subl, z_mull, z_cc, z_cl, z_cr, z_cm, z_cml, z_cmr, z_lt, z_le, z_eq, z_ltl, z_lel, z_eql, z_nat, z_i2l, z_l2i, z_div, z_sh, Int.toNat_natCast, z_ts, z_tsl] at c
    rw [hX.c0 i (by omega)]
    rfl
  · rw [m42, m47, m37]
    exact ⟨fun n42 => ⟨fun n47 => ⟨fun n37 => b_yre_sum_31_110 (h := ⟨fun c => absurd rfl c, fun _ => stop (by unfold p_termop; rw [if_neg n42, if_neg n47, if_neg n37])⟩) .., fun y => go 6 (by omega) (by rw [y]; rfl)⟩, fun y => go 5 (by omega) (by rw [y]; rfl)⟩, fun y => go 4 (by omega) (by rw [y]; rfl)⟩
theorem xd_7 {X : mm_X} {f0 : Nat → Int32} {fl : Nat → Int64} {g : Nat → Nat → Int32} {gl : Nat → Nat → Int64} {hh : Nat → Nat → Option Nat} {v : Nat → Value} {tx : mm_W} {b : Nat → Nat} {n N m : Nat} {sec : Bool} (hX : CX g b n N) (ih : XDn X f0 fl g gl hh v tx b n N sec m) {deep i p o t l K : Nat} {C : List Nat} {e : pE → Option Int} {f a : Nat → Int32} {P : Option Value → mm_W → Prop} (hd : deep ≤ 8) (hi : i ≤ N) (hp : p ≤ 50) (hK : 3 * (8 - deep) ≤ K) (ht : t ≤ 1) (hl : l ≤ i) (ho : o + C.length + t ≤ i) (hc0 : 7 ≤ 5 → C = []) (he : 6 ≤ 7 → p_rg 7 (e E00)) (hne : pS (tcK b n) (tvK b n) sec (pP (tcK b n) (tvK b n) sec m) 7 deep i p o t C e ≠ none) (hs : smx f f0) (hC : CK f v b n i) (h89 : f 1989 = iI (p : Int)) (h49 : f 2049 = iI ((o + C.length : Nat) : Int)) (hcd : cd a o C) (hR : XR f0 fl g gl hh v tx b n o a P (pS (tcK b n) (tvK b n) sec (pP (tcK b n) (tvK b n) sec m) 7 deep i p o t C e)) : XDg X fl g gl hh v tx 7 deep t l K f a P := by
  have er : pS (tcK b n) (tvK b n) sec (pP (tcK b n) (tvK b n) sec m) 7 deep i p o t C e = match p_sumop (tcK b n i) with
    | none => some (.inr (i, p, C, e))
    | some op => p_then (pP (tcK b n) (tvK b n) sec m 1 deep (i + 1) p (o + C.length) 0 [] p_e0) (fun j p' C' e' => pP (tcK b n) (tvK b n) sec m 7 deep j p' o 0 (C ++ C' ++ [op * 4096]) (p_bin op e e')) := rfl
  rw [er] at hne hR
  have N4 := hX.N4
  show WP X (K + 3) 38 _ P
  have m43 : (f 1990 = (43 : Int32)) = (tcK b n i = 143) := hC.m (w := 43) hX.b (by omega) (by omega) (by omega)
  have m45 : (f 1990 = (45 : Int32)) = (tcK b n i = 145) := hC.m (w := 45) hX.b (by omega) (by omega) (by omega)
  have stop : p_sumop (tcK b n i) = none → P (some (.int 1)) (Wd f fl (va_up g 34 a) gl hh v tx) := fun h => by
    rw [h] at hR
    exact hR.1 i p C e rfl f a hs hC h89 h49 (fun _ _ => rfl) hcd
  have go : ∀ op, op < 16 → p_sumop (tcK b n i) = some op → WP X (K + 3) 38 (110, [some (.ref 31), some (.int 0), some (.int (iI (deep : Int))), some (.int (iI (l : Int))), none], [.int (iI (op : Int))], Wd f fl (va_up g 34 a) gl hh v tx) P := by
    intro op hop16 hop
    rw [hop] at hne hR
    have hiN : i < N := hX.s fun h => by rw [h] at hop; cases hop
    refine b_yre_sum_31_110 (h := ⟨fun _ => ?_, fun c => ?_⟩) ..
    · refine cx_step hX hC hiN fun f2 hf2 hC2 => ?_
      have hs2 := hs.st hf2
      refine b_yre_sum_31_124 (h := ⟨fun _ => ?_, fun c => absurd rfl c⟩) ..
      refine ih 1 deep (i + 1) p (o + C.length) 0 0 [] p_e0 K f2 a _ (by omega) (by omega) hd (by omega) hp hK (by omega) (show o + C.length + 0 + 0 ≤ i + 1 by omega) (fun _ => rfl) (fun h => by omega) (fun h => hne (by show p_then _ _ = _; rw [h]; rfl)) hs2 hC2 ((hf2 _ (by omega)).trans h89) ((hf2 _ (by omega)).trans h49) cd.nil ⟨fun j p' C' e' h1 f' a' hs' hC' a89 a49 alo acd => ?_, fun k h1 f' a' hs' a85 => ?_⟩
      · obtain ⟨g1, g2, g3, g4, g5, g6, g7, g8, g9, g10⟩ := p_inv hX.c0 E00_ok _ _ _ _ _ _ _ _ _ _ _ _ _ h1 (by omega) (by omega) (by omega) hp (fun h => by omega)
        have g6 := g6 (by omega) (by omega)
        simp only [h1] at hne hR
        refine b_yre_sum_31_145 (h := ⟨fun _ => ?_, fun c => absurd c (by decide)⟩) ..
        refine cx_emit0 (q := op) (z := o + C.length + C'.length) (by omega) a49 hop16 ?_
        refine b_yre_sum_31_157 (h := ?_) ..
        rw [i1N]
        refine ih 7 deep j p' o 0 (l + 1) (C ++ C' ++ [op * 4096]) (p_bin op e e') K _ _ P (by omega) (by omega) hd g2 g3 hK (by omega) ?_ (fun h => by omega) (fun _ => p_num_bin) hne hs'.uz hC'.uz ((va_ne (by omega)).trans a89) ?_ (((hcd.mono (Nat.le_refl _) alo).app acd).snoc (by rw [List.length_append]; omega)) (hR.up fun q hq => (upd_ne (by omega)).trans (alo q (by omega)))
        · simp only [List.length_append, List.length_singleton]; omega
        · rw [va_s]; simp only [List.length_append, List.length_singleton]; congr 2; omega
      · simp only [h1] at hR
        exact b_yre_sum_31_145 (h := ⟨fun c => absurd rfl c, fun _ => hR.2 k rfl f' a' hs' a85⟩) ..
    · have c : iI (op : Int) = iI (-1) := c
      rw [z_eq (by omega) (by omega)] at c
      omega
  refine b_yre_sum_31_28 (h := ⟨fun c => stop ?_, fun _ => ⟨fun _ => ?_, fun c => absurd rfl c⟩⟩) ..
  · simp (disch := omega) only [z_lit, z_litl, z_neg, z_negl, z_add, z_sub, z_mul, z_addl, z_subl, z_mull, z_cc, z_cl, z_cr, z_cm, z_cml, z_cmr, z_lt, z_le, z_eq, z_ltl, z_lel, z_eql, z_nat, z_i2l, z_l2i, z_div, z_sh, Int.toNat_natCast, z_ts, z_tsl] at c
    rw [hX.c0 i (by omega)]
    rfl
  · rw [m43, m45]
    exact ⟨fun n43 => ⟨fun n45 => b_yre_sum_31_110 (h := ⟨fun c => absurd rfl c, fun _ => stop (by unfold p_sumop; rw [if_neg n43, if_neg n45])⟩) .., fun y => go 3 (by omega) (by rw [y]; rfl)⟩, fun y => go 2 (by omega) (by rw [y]; rfl)⟩
theorem jmp_code {q x : Nat} : iI ((q * 4096 : Nat) : Int) + iI (x : Int) = iI ((q * 4096 + x : Nat) : Int) := (z_add _ _).trans (congrArg iI (z_cc _ _))
theorem xd_8 {X : mm_X} {f0 : Nat → Int32} {fl : Nat → Int64} {g : Nat → Nat → Int32} {gl : Nat → Nat → Int64} {hh : Nat → Nat → Option Nat} {v : Nat → Value} {tx : mm_W} {b : Nat → Nat} {n N m : Nat} {sec : Bool} (hX : CX g b n N) (ih : XDn X f0 fl g gl hh v tx b n N sec m) {deep i p o t l K : Nat} {C : List Nat} {e : pE → Option Int} {f a : Nat → Int32} {P : Option Value → mm_W → Prop} (hd : deep ≤ 8) (hi : i ≤ N) (hp : p ≤ 50) (hK : 3 * (8 - deep) ≤ K) (ht : t ≤ 1) (hl : l ≤ i) (ho : o + C.length + t ≤ i) (hc0 : 8 ≤ 5 → C = []) (he : 6 ≤ 8 → p_rg 8 (e E00)) (hne : pS (tcK b n) (tvK b n) sec (pP (tcK b n) (tvK b n) sec m) 8 deep i p o t C e ≠ none) (hs : smx f f0) (hC : CK f v b n i) (h89 : f 1989 = iI (p : Int)) (h49 : f 2049 = iI ((o + C.length : Nat) : Int)) (hcd : cd a o C) (hR : XR f0 fl g gl hh v tx b n o a P (pS (tcK b n) (tvK b n) sec (pP (tcK b n) (tvK b n) sec m) 8 deep i p o t C e)) : XDg X fl g gl hh v tx 8 deep t l K f a P := by
  have er : pS (tcK b n) (tvK b n) sec (pP (tcK b n) (tvK b n) sec m) 8 deep i p o t C e = if tcK b n i = 6 then p_then (pP (tcK b n) (tvK b n) sec m 3 deep (i + 1) p (o + C.length + 1) 0 [] p_e0) (fun j p' C' e' => pP (tcK b n) (tvK b n) sec m 8 deep j p' o 0 (C ++ [12 * 4096 + (o + C.length + 1 + C'.length)] ++ C') (p_sc 12 e e')) else some (.inr (i, p, C, e)) := rfl
  rw [er] at hne hR
  have N4 := hX.N4
  show WP X (K + 5) 36 _ P
  have stop : tcK b n i ≠ 6 → P (some (.int 1)) (Wd f fl (va_up g 34 a) gl hh v tx) := fun h => by
    rw [if_neg h] at hR
    exact hR.1 i p C e rfl f a hs hC h89 h49 (fun _ _ => rfl) hcd
  refine b_yre_test_31_28 (h := ⟨fun c => stop ?_, fun _ => ⟨fun c => absurd c (by decide), fun _ => ?_⟩⟩) ..
  · simp (disch := omega) only [z_lit, z_litl, z_neg, z_negl, z_add, z_sub, z_mul, z_addl, z_subl, z_mull, z_cc, z_cl, z_cr, z_cm, z_cml, z_cmr, z_lt, z_le, z_eq, z_ltl, z_lel, z_eql, z_nat, z_i2l, z_l2i, z_div, z_sh, Int.toNat_natCast, z_ts, z_tsl] at c
    rw [hX.c0 i (by omega)]
    decide
  refine cx_one (c := 5) hX hC (by decide) rfl (by decide) (by decide) (fun ew => ?_) fun n0 => ?_
  · rw [if_pos ew] at hne hR
    have hiN : i < N := hX.s (by rw [ew]; decide)
    refine b_yre_test_31_50 (h := ⟨fun c => absurd rfl c, fun _ => ?_⟩) ..
    refine cx_step hX hC hiN fun f2 hf2 hC2 => ?_
    have hs2 := hs.st hf2
    have b49 : f2 2049 = iI ((o + C.length : Nat) : Int) := (hf2 _ (by omega)).trans h49
    refine b_yre_test_31_57 (h := ⟨fun c => absurd c (by decide), fun _ => ?_⟩) ..
    refine cx_emit0 (q := 12) (z := o + C.length) (by omega) b49 (by decide) ?_
    rw [b49]
    refine b_yre_test_31_82 (h := ⟨fun c => absurd c (by decide), fun _ => ?_⟩) ..
    refine b_yre_plain_31_0 (h := ?_) ..
    refine ih 3 deep (i + 1) p (o + C.length + 1) 0 0 [] p_e0 K _ _ _ (by omega) (by omega) hd (by omega) hp hK (by omega) (show o + C.length + 1 + 0 + 0 ≤ i + 1 by omega) (fun _ => rfl) (fun h => by omega) (fun h => hne (by rw [h]; rfl)) hs2.uz hC2.uz (by rw [va_ne (by decide)]; exact (hf2 _ (by omega)).trans h89) va_s cd.nil ⟨fun j p' C' e' h1 f' a' hs' hC' a89 a49 alo acd => ?_, fun k h1 f' a' hs' a85 => ?_⟩
    · obtain ⟨g1, g2, g3, g4, g5, g6, g7, g8, g9, g10⟩ := p_inv hX.c0 E00_ok _ _ _ _ _ _ _ _ _ _ _ _ _ h1 (by omega) (by omega) (by omega) hp (fun h => by omega)
      have g7 := g7 rfl
      rw [h1] at hne hR
      have tn : (iI ((o + C.length : Nat) : Int)).toNatClampNeg = o + C.length := by rw [z_nat (by omega)]; omega
      have aj : a' (o + C.length) = iI ((12 * 4096 : Nat) : Int) := (alo _ (by omega)).trans upd_s
      have lo2 : ∀ q, q < o + C.length → upd a' (o + C.length) (iI ((12 * 4096 + (o + C.length + 1 + C'.length) : Nat) : Int)) q = a q := fun q hq => (upd_ne (by omega)).trans ((alo q (by omega)).trans (upd_ne (by omega)))
      have nle : ¬ f' 2049 ≤ iI ((o + C.length : Nat) : Int) := fun c => by
        rw [a49] at c
        simp (disch := omega) only [z_lit, z_litl, z_neg, z_negl, z_add, z_sub, z_mul, z_addl, z_subl, z_mull, z_cc, z_cl, z_cr, z_cm, z_cml, z_cmr, z_lt, z_le, z_eq, z_ltl, z_lel, z_eql, z_nat, z_i2l, z_l2i, z_div, z_sh, Int.toNat_natCast, z_ts, z_tsl] at c
        omega
      refine b_yre_test_31_91 (h := ⟨fun c => absurd c (by decide), fun _ => ⟨fun c => absurd c nle, fun _ => ?_⟩⟩) ..
      simp only [va_tw, va_s, tn, aj, a49, i1N, jmp_code]
      refine ⟨by simp (disch := omega) only [z_lit, z_litl, z_neg, z_negl, z_add, z_sub, z_mul, z_addl, z_subl, z_mull, z_cc, z_cl, z_cr, z_cm, z_cml, z_cmr, z_lt, z_le, z_eq, z_ltl, z_lel, z_eql, z_nat, z_i2l, z_l2i, z_div, z_sh, Int.toNat_natCast, z_ts, z_tsl]; omega, by simp (disch := omega) only [z_lit, z_litl, z_neg, z_negl, z_add, z_sub, z_mul, z_addl, z_subl, z_mull, z_cc, z_cl, z_cr, z_cm, z_cml, z_cmr, z_lt, z_le, z_eq, z_ltl, z_lel, z_eql, z_nat, z_i2l, z_l2i, z_div, z_sh, Int.toNat_natCast, z_ts, z_tsl]; omega, ?_⟩
      refine ih 8 deep j p' o 0 (l + 1) (C ++ [12 * 4096 + (o + C.length + 1 + C'.length)] ++ C') (p_sc 12 e e') K f' _ P (by omega) (by omega) hd g2 g3 hK (by omega) ?_ (fun h => by omega) (fun _ => p_tst_sc (he (by omega)) g10) hne hs' hC' a89 ?_ (((hcd.mono (Nat.le_refl _) lo2).app (cd.one rfl)).app ?_) (hR.up fun q hq => lo2 q (by omega))
      · simp only [List.length_append, List.length_singleton]; omega
      · rw [a49]; simp only [List.length_append, List.length_singleton]; congr 2; omega
      · rw [List.length_append, List.length_singleton, ← Nat.add_assoc]
        exact acd.hi fun q hq => upd_ne (by omega)
    · rw [h1] at hR
      exact b_yre_test_31_91 (h := ⟨fun _ => hR.2 k rfl f' a' hs' a85, fun c => absurd rfl c⟩) ..
  · exact b_yre_test_31_50 (h := ⟨fun _ => stop n0, fun c => absurd c (by decide)⟩) ..
theorem xd_9 {X : mm_X} {f0 : Nat → Int32} {fl : Nat → Int64} {g : Nat → Nat → Int32} {gl : Nat → Nat → Int64} {hh : Nat → Nat → Option Nat} {v : Nat → Value} {tx : mm_W} {b : Nat → Nat} {n N m : Nat} {sec : Bool} (hX : CX g b n N) (ih : XDn X f0 fl g gl hh v tx b n N sec m) {deep i p o t l K : Nat} {C : List Nat} {e : pE → Option Int} {f a : Nat → Int32} {P : Option Value → mm_W → Prop} (hd : deep ≤ 8) (hi : i ≤ N) (hp : p ≤ 50) (hK : 3 * (8 - deep) ≤ K) (ht : t ≤ 1) (hl : l ≤ i) (ho : o + C.length + t ≤ i) (hc0 : 9 ≤ 5 → C = []) (he : 6 ≤ 9 → p_rg 9 (e E00)) (hne : pS (tcK b n) (tvK b n) sec (pP (tcK b n) (tvK b n) sec m) 9 deep i p o t C e ≠ none) (hs : smx f f0) (hC : CK f v b n i) (h89 : f 1989 = iI (p : Int)) (h49 : f 2049 = iI ((o + C.length : Nat) : Int)) (hcd : cd a o C) (hR : XR f0 fl g gl hh v tx b n o a P (pS (tcK b n) (tvK b n) sec (pP (tcK b n) (tvK b n) sec m) 9 deep i p o t C e)) : XDg X fl g gl hh v tx 9 deep t l K f a P := by
  have er : pS (tcK b n) (tvK b n) sec (pP (tcK b n) (tvK b n) sec m) 9 deep i p o t C e = if tcK b n i = 5 then p_then (pP (tcK b n) (tvK b n) sec m 4 deep (i + 1) p (o + C.length + 1) 0 [] p_e0) (fun j p' C' e' => pP (tcK b n) (tvK b n) sec m 9 deep j p' o 0 (C ++ [11 * 4096 + (o + C.length + 1 + C'.length)] ++ C') (p_sc 11 e e')) else some (.inr (i, p, C, e)) := rfl
  rw [er] at hne hR
  have N4 := hX.N4
  show WP X (K + 6) 36 _ P
  have stop : tcK b n i ≠ 5 → P (some (.int 1)) (Wd f fl (va_up g 34 a) gl hh v tx) := fun h => by
    rw [if_neg h] at hR
    exact hR.1 i p C e rfl f a hs hC h89 h49 (fun _ _ => rfl) hcd
  refine b_yre_test_31_28 (h := ⟨fun c => stop ?_, fun _ => ⟨fun _ => ?_, fun c => absurd rfl c⟩⟩) ..
  · simp (disch := omega) only [z_lit, z_litl, z_neg, z_negl, z_add, z_sub, z_mul, z_addl, z_subl, z_mull, z_cc, z_cl, z_cr, z_cm, z_cml, z_cmr, z_lt, z_le, z_eq, z_ltl, z_lel, z_eql, z_nat, z_i2l, z_l2i, z_div, z_sh, Int.toNat_natCast, z_ts, z_tsl] at c
    rw [hX.c0 i (by omega)]
    decide
  refine cx_one (c := 4) hX hC (by decide) rfl (by decide) (by decide) (fun ew => ?_) fun n0 => ?_
  · rw [if_pos ew] at hne hR
    have hiN : i < N := hX.s (by rw [ew]; decide)
    refine b_yre_test_31_50 (h := ⟨fun c => absurd rfl c, fun _ => ?_⟩) ..
    refine cx_step hX hC hiN fun f2 hf2 hC2 => ?_
    have hs2 := hs.st hf2
    have b49 : f2 2049 = iI ((o + C.length : Nat) : Int) := (hf2 _ (by omega)).trans h49
    refine b_yre_test_31_57 (h := ⟨fun _ => ?_, fun c => absurd rfl c⟩) ..
    refine cx_emit0 (q := 11) (z := o + C.length) (by omega) b49 (by decide) ?_
    rw [b49]
    refine b_yre_test_31_82 (h := ⟨fun _ => ?_, fun c => absurd rfl c⟩) ..
    refine ih 4 deep (i + 1) p (o + C.length + 1) 0 0 [] p_e0 K _ _ _ (by omega) (by omega) hd (by omega) hp hK (by omega) (show o + C.length + 1 + 0 + 0 ≤ i + 1 by omega) (fun _ => rfl) (fun h => by omega) (fun h => hne (by rw [h]; rfl)) hs2.uz hC2.uz (by rw [va_ne (by decide)]; exact (hf2 _ (by omega)).trans h89) va_s cd.nil ⟨fun j p' C' e' h1 f' a' hs' hC' a89 a49 alo acd => ?_, fun k h1 f' a' hs' a85 => ?_⟩
    · obtain ⟨g1, g2, g3, g4, g5, g6, g7, g8, g9, g10⟩ := p_inv hX.c0 E00_ok _ _ _ _ _ _ _ _ _ _ _ _ _ h1 (by omega) (by omega) (by omega) hp (fun h => by omega)
      have g6 := g6 (by omega) (by omega)
      rw [h1] at hne hR
      have tn : (iI ((o + C.length : Nat) : Int)).toNatClampNeg = o + C.length := by rw [z_nat (by omega)]; omega
      have aj : a' (o + C.length) = iI ((11 * 4096 : Nat) : Int) := (alo _ (by omega)).trans upd_s
      have lo2 : ∀ q, q < o + C.length → upd a' (o + C.length) (iI ((11 * 4096 + (o + C.length + 1 + C'.length) : Nat) : Int)) q = a q := fun q hq => (upd_ne (by omega)).trans ((alo q (by omega)).trans (upd_ne (by omega)))
      have nle : ¬ f' 2049 ≤ iI ((o + C.length : Nat) : Int) := fun c => by
        rw [a49] at c
        simp (disch := omega) only [z_lit, z_litl, z_neg, z_negl, z_add, z_sub, z_mul, z_addl, z_subl, z_mull, z_cc, z_cl, z_cr, z_cm, z_cml, z_cmr, z_lt, z_le, z_eq, z_ltl, z_lel, z_eql, z_nat, z_i2l, z_l2i, z_div, z_sh, Int.toNat_natCast, z_ts, z_tsl] at c
        omega
      refine b_yre_test_31_103 (h := ⟨fun _ => ⟨fun c => absurd c nle, fun _ => ?_⟩, fun c => absurd c (by decide)⟩) ..
      simp only [va_tw, va_s, tn, aj, a49, i1N, jmp_code]
      refine ⟨by simp (disch := omega) only [z_lit, z_litl, z_neg, z_negl, z_add, z_sub, z_mul, z_addl, z_subl, z_mull, z_cc, z_cl, z_cr, z_cm, z_cml, z_cmr, z_lt, z_le, z_eq, z_ltl, z_lel, z_eql, z_nat, z_i2l, z_l2i, z_div, z_sh, Int.toNat_natCast, z_ts, z_tsl]; omega, by simp (disch := omega) only [z_lit, z_litl, z_neg, z_negl, z_add, z_sub, z_mul, z_addl, z_subl, z_mull, z_cc, z_cl, z_cr, z_cm, z_cml, z_cmr, z_lt, z_le, z_eq, z_ltl, z_lel, z_eql, z_nat, z_i2l, z_l2i, z_div, z_sh, Int.toNat_natCast, z_ts, z_tsl]; omega, ?_⟩
      refine ih 9 deep j p' o 0 (l + 1) (C ++ [11 * 4096 + (o + C.length + 1 + C'.length)] ++ C') (p_sc 11 e e') K f' _ P (by omega) (by omega) hd g2 g3 hK (by omega) ?_ (fun h => by omega) (fun _ => p_tst_sc (he (by omega)) g10) hne hs' hC' a89 ?_ (((hcd.mono (Nat.le_refl _) lo2).app (cd.one rfl)).app ?_) (hR.up fun q hq => lo2 q (by omega))
      · simp only [List.length_append, List.length_singleton]; omega
      · rw [a49]; simp only [List.length_append, List.length_singleton]; congr 2; omega
      · rw [List.length_append, List.length_singleton, ← Nat.add_assoc]
        exact acd.hi fun q hq => upd_ne (by omega)
    · rw [h1] at hR
      exact b_yre_test_31_103 (h := ⟨fun c => absurd rfl c, fun _ => hR.2 k rfl f' a' hs' a85⟩) ..
  · exact b_yre_test_31_50 (h := ⟨fun _ => stop n0, fun c => absurd c (by decide)⟩) ..
