/-! .. a plain test, a part; all together -/
theorem xd_3 {X : mm_X} {f0 : Nat → Int32} {fl : Nat → Int64} {g : Nat → Nat → Int32} {gl : Nat → Nat → Int64} {hh : Nat → Nat → Option Nat} {v : Nat → Value} {tx : mm_W} {b : Nat → Nat} {n N m : Nat} {sec : Bool} (hX : CX g b n N) (ih : XDn X f0 fl g gl hh v tx b n N sec m) {deep i p o t l K : Nat} {C : List Nat} {e : pE → Option Int} {f a : Nat → Int32} {P : Option Value → mm_W → Prop} (hd : deep ≤ 8) (hi : i ≤ N) (hp : p ≤ 50) (hK : 3 * (8 - deep) ≤ K) (ht : t ≤ 1) (hl : l ≤ i) (ho : o + C.length + t ≤ i) (hc0 : 3 ≤ 5 → C = []) (he : 6 ≤ 3 → p_rg 3 (e E00)) (hne : pS (tcK b n) (tvK b n) sec (pP (tcK b n) (tvK b n) sec m) 3 deep i p o t C e ≠ none) (hs : smx f f0) (hC : CK f v b n i) (h89 : f 1989 = iI (p : Int)) (h49 : f 2049 = iI ((o + C.length : Nat) : Int)) (hcd : cd a o C) (hR : XR f0 fl g gl hh v tx b n o a P (pS (tcK b n) (tvK b n) sec (pP (tcK b n) (tvK b n) sec m) 3 deep i p o t C e)) : XDg X fl g gl hh v tx 3 deep t l K f a P := by
  have er : pS (tcK b n) (tvK b n) sec (pP (tcK b n) (tvK b n) sec m) 3 deep i p o t C e = if tcK b n i = 7 then pP (tcK b n) (tvK b n) sec m 3 deep (i + 1) p o (1 - t) [] p_e0
      else if tcK b n i = 140 then (if deep = 8 then some (.inl i) else p_then (pP (tcK b n) (tvK b n) sec m 5 (deep + 1) (i + 1) p o 0 [] p_e0) fun j p' C' e' => if tcK b n j = 141 then some (.inr (j + 1, p', if t = 1 then C' ++ [10 * 4096] else C', if t = 1 then p_not e' else e')) else some (.inl j))
      else p_then (pP (tcK b n) (tvK b n) sec m 2 deep i p o 0 [] p_e0) fun j p' C' e' => match p_cmp (tcK b n j) with
        | none => some (.inl j)
        | some op => p_then (pP (tcK b n) (tvK b n) sec m 2 deep (j + 1) p' (o + C'.length) 0 [] p_e0) fun j2 p2 C2 e2 => some (.inr (j2, p2, if t = 1 then C' ++ C2 ++ [op * 4096] ++ [10 * 4096] else C' ++ C2 ++ [op * 4096], if t = 1 then p_not (p_bin op e' e2) else p_bin op e' e2)) := rfl
  rw [er] at hne hR
  have N4 := hX.N4
  have c0 := hc0 (by omega)
  subst c0
  have ho : o + 0 + t ≤ i := ho
  have h49 : f 2049 = iI (o : Int) := h49
  show WP X (K + 4) 37 _ P
  have m40 : (f 1990 = (40 : Int32)) = (tcK b n i = 140) := hC.m (w := 40) hX.b (by omega) (by omega) (by omega)
  -- the end: turned or not
  have fin : ∀ (j p' : Nat) (C' : List Nat) (e' : pE → Option Int) (f' a' : Nat → Int32), XR f0 fl g gl hh v tx b n o a P (some (.inr (j, p', if t = 1 then C' ++ [10 * 4096] else C', e'))) → smx f' f0 → CK f' v b n j → f' 1989 = iI (p' : Int) → f' 2049 = iI ((o + C'.length : Nat) : Int) → (∀ q, q < o → a' q = a q) → cd a' o C' → o + C'.length + t ≤ 400 → ((iI (t : Int) = 0 → P (some (.int 1)) (Wd f' fl (va_up g 34 a') gl hh v tx)) ∧ (¬ iI (t : Int) = 0 → WP X (K + 3) 41 (0, [some (.ref 31), some (.int 10), some (.int 0)], [], Wd f' fl (va_up g 34 a') gl hh v tx) (fun rv w2 => WP X (K + 4) 37 (192, [none, none, none, none], rv.toList ++ [], w2) P))) := by
    intro j p' C' e' f' a' hR hs' hC' a89 a49 alo acd hz
    have ht2 : t = 0 ∨ t = 1 := by omega
    rcases ht2 with rfl | rfl
    · rw [if_neg (by decide)] at hR
      exact ⟨fun _ => hR.1 _ _ _ _ rfl f' a' hs' hC' a89 a49 alo acd, fun c => absurd rfl c⟩
    · rw [if_pos rfl] at hR
      refine ⟨fun c => absurd c (by decide), fun _ => ?_⟩
      refine cx_emit0 (q := 10) (z := o + C'.length) (by omega) a49 (by decide) ?_
      refine b_yre_plain_31_192 (h := ?_) ..
      refine hR.1 _ _ _ _ rfl _ _ hs'.uz hC'.uz (by rw [va_ne (by decide)]; exact a89) ?_ (fun q hq => (upd_ne (by omega)).trans (alo q hq)) (acd.snoc rfl)
      rw [va_s, List.length_append, List.length_singleton, Nat.add_assoc]
  have body : tcK b n i ≠ 7 → (((¬ (f 1990) = 40) → WP X (K + 3) 38 (0, [some (.ref 31), some (.int 0), some (.int (iI (deep : Int))), none, none], [], Wd f fl (va_up g 34 a) gl hh v tx) (fun rv w2 => WP X (K + 4) 37 (104, [some (.ref 31), some (.int (iI (deep : Int))), some (.int (iI (t : Int))), none], rv.toList ++ [], w2) P)) ∧
      (((f 1990) = 40) → (((iI (deep : Int) < 8) → WP X (K + 3) 42 (0, [some (.ref 31), none], [], Wd f fl (va_up g 34 a) gl hh v tx) (fun rv w2 => WP X (K + 4) 37 (64, [some (.ref 31), some (.int (iI (deep : Int))), some (.int (iI (t : Int))), none], rv.toList ++ [], w2) P)) ∧
        ((¬ (iI (deep : Int) < 8)) → WP X (K + 3) 40 (0, [some (.ref 31)], [], Wd f fl (va_up g 34 a) gl hh v tx) (fun rv w2 => WP X (K + 4) 37 (59, [some (.ref 31), some (.int (iI (deep : Int))), some (.int (iI (t : Int))), none], rv.toList ++ [], w2) P))))) := by
    intro n7
    rw [if_neg n7] at hne hR
    rw [m40]
    refine ⟨fun n140 => ?_, fun y140 => ⟨fun cd8 => ?_, fun cd8 => ?_⟩⟩
    · rw [if_neg n140] at hne hR
      refine ih 2 deep i p o 0 0 [] p_e0 K f a _ (by omega) (by omega) hd hi hp hK (by omega) (show o + 0 + 0 ≤ i by omega) (fun _ => rfl) (fun h => by omega) (fun h => hne (by rw [h]; rfl)) hs hC h89 h49 hcd ⟨fun j p' C' e' h1 f' a' hs' hC' a89 a49 alo acd => ?_, fun k h1 f' a' hs' a85 => ?_⟩
      · obtain ⟨g1, g2, g3, g4, g5, g6, g7, g8, g9, g10⟩ := p_inv hX.c0 E00_ok _ _ _ _ _ _ _ _ _ _ _ _ _ h1 (by omega) (by omega) hi hp (fun h => by omega)
        have g6 := g6 (by omega) (by omega)
        rw [h1] at hne hR
        have hne : (match p_cmp (tcK b n j) with
          | none => some (.inl j)
          | some op => p_then (pP (tcK b n) (tvK b n) sec m 2 deep (j + 1) p' (o + C'.length) 0 [] p_e0) fun j2 p2 C2 e2 => some (.inr (j2, p2, if t = 1 then C' ++ C2 ++ [op * 4096] ++ [10 * 4096] else C' ++ C2 ++ [op * 4096], if t = 1 then p_not (p_bin op e' e2) else p_bin op e' e2))) ≠ none := hne
        have hR : XR f0 fl g gl hh v tx b n o a P (match p_cmp (tcK b n j) with
          | none => some (.inl j)
          | some op => p_then (pP (tcK b n) (tvK b n) sec m 2 deep (j + 1) p' (o + C'.length) 0 [] p_e0) fun j2 p2 C2 e2 => some (.inr (j2, p2, if t = 1 then C' ++ C2 ++ [op * 4096] ++ [10 * 4096] else C' ++ C2 ++ [op * 4096], if t = 1 then p_not (p_bin op e' e2) else p_bin op e' e2))) := hR
        have m60 : (f' 1990 = (60 : Int32)) = (tcK b n j = 160) := hC'.m (w := 60) hX.b (by omega) (by omega) (by omega)
        have m62 : (f' 1990 = (62 : Int32)) = (tcK b n j = 162) := hC'.m (w := 62) hX.b (by omega) (by omega) (by omega)
        have m61 : (f' 1990 = (61 : Int32)) = (tcK b n j = 161) := hC'.m (w := 61) hX.b (by omega) (by omega) (by omega)
        have go : ∀ op, p_cmp (tcK b n j) = some op → WP X (K + 3) 42 (0, [some (.ref 31), none], [], Wd f' fl (va_up g 34 a') gl hh v tx) (fun rv w2 => WP X (K + 4) 37 (141, [some (.ref 31), some (.int (iI (deep : Int))), some (.int (iI (t : Int))), some (.int (f' 1990))], rv.toList ++ [], w2) P) := by
          intro op hop
          rw [hop] at hne hR
          have hjN : j < N := hX.s fun h => by rw [h] at hop; cases hop
          refine cx_step hX hC' hjN fun f2 hf2 hC2 => ?_
          have hs2 := hs'.st hf2
          refine b_yre_plain_31_141 (h := ?_) ..
          refine ih 2 deep (j + 1) p' (o + C'.length) 0 0 [] p_e0 K f2 a' _ (by omega) (by omega) hd (by omega) g3 hK (by omega) (show o + C'.length + 0 + 0 ≤ j + 1 by omega) (fun _ => rfl) (fun h => by omega) (fun h => hne (by show p_then _ _ = _; rw [h]; rfl)) hs2 hC2 ((hf2 _ (by omega)).trans a89) ((hf2 _ (by omega)).trans a49) cd.nil ⟨fun j2 p2 C2 e2 h2 f3 a3 hs3 hC3 b89 b49 blo bcd => ?_, fun k h2 f3 a3 hs3 b85 => ?_⟩
          · obtain ⟨k1, k2, k3, k4, k5, k6, k7, k8, k9, k10⟩ := p_inv hX.c0 E00_ok _ _ _ _ _ _ _ _ _ _ _ _ _ h2 (by omega) (by omega) (by omega) g3 (fun h => by omega)
            have k6 := k6 (by omega) (by omega)
            simp only [h2] at hR
            have hR : XR f0 fl g gl hh v tx b n o a P (some (.inr (j2, p2, if t = 1 then C' ++ C2 ++ [op * 4096] ++ [10 * 4096] else C' ++ C2 ++ [op * 4096], if t = 1 then p_not (p_bin op e' e2) else p_bin op e' e2))) := hR
            have em : ∀ q : Nat, q = op → q < 16 → WP X (K + 3) 41 (0, [some (.ref 31), some (.int (iI (q : Int))), some (.int 0)], [], Wd f3 fl (va_up g 34 a3) gl hh v tx) (fun rv w2 => WP X (K + 4) 37 (181, [some (.ref 31), none, some (.int (iI (t : Int))), none], rv.toList ++ [], w2) P) := by
              intro q hq hq16
              subst hq
              refine cx_emit0 (q := q) (z := o + C'.length + C2.length) (by omega) b49 hq16 ?_
              refine b_yre_plain_31_181 (h := ?_) ..
              refine fin j2 p2 (C' ++ C2 ++ [q * 4096]) _ _ _ hR hs3.uz hC3.uz (by rw [va_ne (by decide)]; exact b89) ?_ (fun r hr => (upd_ne (by omega)).trans ((blo r (by omega)).trans (alo r hr))) (((acd.mono (Nat.le_refl _) blo).app bcd).snoc (by rw [List.length_append]; omega)) ?_
              · rw [va_s]; simp only [List.length_append, List.length_singleton]; congr 2; omega
              · simp only [List.length_append, List.length_singleton]; omega
            refine b_yre_plain_31_147 (h := ⟨fun _ => ?_, fun c => absurd c (by decide)⟩) ..
            rw [m60, m62]
            refine ⟨fun n60 => ⟨fun n62 => em 9 ?_ (by decide), fun y62 => em 8 ?_ (by decide)⟩, fun y60 => em 7 ?_ (by decide)⟩
            · unfold p_cmp at hop
              rw [if_neg n60, if_neg n62] at hop
              split at hop
              · cases hop; rfl
              · cases hop
            · rw [y62] at hop; cases hop; rfl
            · rw [y60] at hop; cases hop; rfl
          · simp only [h2] at hR
            exact b_yre_plain_31_147 (h := ⟨fun c => absurd rfl c, fun _ => hR.2 k rfl f3 a3 hs3 b85⟩) ..
        refine b_yre_plain_31_104 (h := ⟨fun _ => ?_, fun c => absurd c (by decide)⟩) ..
        rw [m60, m62, m61]
        refine ⟨fun y => go 7 (by rw [y]; rfl), fun n60 => ⟨fun y => go 8 (by rw [y]; rfl), fun n62 => ⟨fun y => go 9 (by rw [y]; rfl), fun n61 => ?_⟩⟩⟩
        have eno : p_cmp (tcK b n j) = none := by unfold p_cmp; rw [if_neg n60, if_neg n62, if_neg n61]
        rw [eno] at hR
        exact cx_fail hC' (b_yre_plain_31_136 (h := ⟨Or.inl rfl, hR.2 j rfl _ a' hs'.u5 va_s⟩) ..)
      · rw [h1] at hR
        exact b_yre_plain_31_104 (h := ⟨fun c => absurd rfl c, fun _ => hR.2 k rfl f' a' hs' a85⟩) ..
    · have d8 : deep ≠ 8 := by simp (disch := omega) only [z_lit, z_litl, z_neg, z_negl, z_add, z_sub, z_mul, z_addl, z_subl, z_mull, z_cc, z_cl, z_cr, z_cm, z_cml, z_cmr, z_lt, z_le, z_eq, z_ltl, z_lel, z_eql, z_nat, z_i2l, z_l2i, z_div, z_sh, Int.toNat_natCast, z_ts, z_tsl] at cd8; omega
      have hiN : i < N := hX.s (by rw [y140]; decide)
      rw [if_pos y140, if_neg d8] at hne hR
      obtain ⟨K2, rfl⟩ : ∃ K2, K = K2 + 3 := ⟨K - 3, by omega⟩
      refine cx_step hX hC hiN fun f2 hf2 hC2 => ?_
      have hs2 := hs.st hf2
      refine b_yre_plain_31_64 (h := ?_) ..
      rw [i1N]
      refine ih 5 (deep + 1) (i + 1) p o 0 0 [] p_e0 K2 f2 a _ (by omega) (by omega) (by omega) (by omega) hp (by omega) (by omega) (show o + 0 + 0 ≤ i + 1 by omega) (fun _ => rfl) (fun h => by omega) (fun h => hne (by rw [h]; rfl)) hs2 hC2 ((hf2 _ (by omega)).trans h89) ((hf2 _ (by omega)).trans h49) hcd ⟨fun j p' C' e' h1 f' a' hs' hC' a89 a49 alo acd => ?_, fun k h1 f' a' hs' a85 => ?_⟩
      · obtain ⟨g1, g2, g3, g4, g5, g6, g7, g8, g9, g10⟩ := p_inv hX.c0 E00_ok _ _ _ _ _ _ _ _ _ _ _ _ _ h1 (by omega) (by omega) (by omega) hp (fun h => by omega)
        have g6 := g6 (by omega) (by omega)
        rw [h1] at hR
        have hR : XR f0 fl g gl hh v tx b n o a P (if tcK b n j = 141 then some (.inr (j + 1, p', if t = 1 then C' ++ [10 * 4096] else C', if t = 1 then p_not e' else e')) else some (.inl j)) := hR
        have m41 : (f' 1990 = (41 : Int32)) = (tcK b n j = 141) := hC'.m (w := 41) hX.b (by omega) (by omega) (by omega)
        refine b_yre_plain_31_72 (h := ⟨fun _ => ?_, fun c => absurd c (by decide)⟩) ..
        rw [m41]
        refine ⟨fun y41 => ?_, fun n41 => ?_⟩
        · rw [if_pos y41] at hR
          have hjN : j < N := hX.s (by rw [y41]; decide)
          refine cx_step hX hC' hjN fun f3 hf3 hC3 => ?_
          have hs3 := hs'.st hf3
          refine b_yre_plain_31_95 (h := ?_) ..
          exact fin (j + 1) p' C' _ f3 a' hR hs3 hC3 ((hf3 _ (by omega)).trans a89) ((hf3 _ (by omega)).trans a49) alo acd (by omega)
        · rw [if_neg n41] at hR
          exact cx_fail hC' (b_yre_plain_31_90 (h := ⟨Or.inl rfl, hR.2 j rfl _ a' hs'.u5 va_s⟩) ..)
      · rw [h1] at hR
        exact b_yre_plain_31_72 (h := ⟨fun c => absurd rfl c, fun _ => hR.2 k rfl f' a' hs' a85⟩) ..
    · have d8 : deep = 8 := by simp (disch := omega) only [z_lit, z_litl, z_neg, z_negl, z_add, z_sub, z_mul, z_addl, z_subl, z_mull, z_cc, z_cl, z_cr, z_cm, z_cml, z_cmr, z_lt, z_le, z_eq, z_ltl, z_lel, z_eql, z_nat, z_i2l, z_l2i, z_div, z_sh, Int.toNat_natCast, z_ts, z_tsl] at cd8; omega
      rw [if_pos y140, if_pos d8] at hR
      exact cx_fail hC (b_yre_plain_31_59 (h := ⟨Or.inl rfl, hR.2 i rfl _ a hs.u5 va_s⟩) ..)
  refine b_yre_plain_31_4 (h := ⟨fun c => body ?_, fun _ => ?_⟩) ..
  · simp (disch := omega) only [z_lit, z_litl, z_neg, z_negl, z_add, z_sub, z_mul, z_addl, z_subl, z_mull, z_cc, z_cl, z_cr, z_cm, z_cml, z_cmr, z_lt, z_le, z_eq, z_ltl, z_lel, z_eql, z_nat, z_i2l, z_l2i, z_div, z_sh, Int.toNat_natCast, z_ts, z_tsl] at c
    rw [hX.c0 i (by omega)]
    decide
  refine cx_one (c := 6) hX hC (by decide) rfl (by decide) (by decide) (fun ew => ?_) fun n0 => ?_
  · rw [if_pos ew] at hne hR
    have hiN : i < N := hX.s (by rw [ew]; decide)
    have next : ∀ q : Nat, q = 1 - t → WP X (K + 3) 42 (0, [some (.ref 31), none], [], Wd f fl (va_up g 34 a) gl hh v tx) (fun rv w2 => WP X (K + 4) 37 (34, [some (.ref 31), some (.int (iI (deep : Int))), some (.int (iI (q : Int))), some (.int (iI (l : Int)))], rv.toList ++ [], w2) P) := by
      intro q hq
      subst hq
      refine cx_step hX hC hiN fun f2 hf2 hC2 => ?_
      refine b_yre_plain_31_34 (h := ?_) ..
      rw [i1N]
      exact ih 3 deep (i + 1) p o (1 - t) (l + 1) [] p_e0 K f2 a P (by omega) (by omega) hd (by omega) hp hK (by omega) (show o + 0 + (1 - t) ≤ i + 1 by omega) (fun _ => rfl) (fun h => by omega) hne (hs.st hf2) hC2 ((hf2 _ (by omega)).trans h89) ((hf2 _ (by omega)).trans h49) hcd hR
    refine b_yre_plain_31_17 (h := ⟨fun c => absurd rfl c, fun _ => ⟨fun c => next 0 ?_, fun c => next 1 ?_⟩⟩) ..
    · by_cases e : t = 0
      · exact absurd (by rw [e]; rfl) c
      · omega
    · have c : iI (t : Int) = iI 0 := c
      rw [z_eq (by omega) (by omega)] at c
      omega
  · exact b_yre_plain_31_17 (h := ⟨fun _ => body n0, fun c => absurd c (by decide)⟩) ..
theorem pkR_lt {b : Nat → Nat} {n s k : Nat} {ws : List (List Nat)} (h : pkR b n s ws = some k) : k < ws.length := by
  unfold pkR at h
  split at h
  · have := fnd_lt h
    omega
  · cases h
theorem xd_0 {X : mm_X} {f0 : Nat → Int32} {fl : Nat → Int64} {g : Nat → Nat → Int32} {gl : Nat → Nat → Int64} {hh : Nat → Nat → Option Nat} {v : Nat → Value} {tx : mm_W} {b : Nat → Nat} {n N m : Nat} {sec : Bool} (hX : CX g b n N) (ih : XDn X f0 fl g gl hh v tx b n N sec m) {deep i p o t l K : Nat} {C : List Nat} {e : pE → Option Int} {f a : Nat → Int32} {P : Option Value → mm_W → Prop} (hSec : f0 1988 = (if sec = true then 1 else 0)) (hd : deep ≤ 8) (hi : i ≤ N) (hp : p ≤ 50) (hK : 3 * (8 - deep) ≤ K) (ht : t ≤ 1) (hl : l ≤ i) (ho : o + C.length + t ≤ i) (hc0 : 0 ≤ 5 → C = []) (he : 6 ≤ 0 → p_rg 0 (e E00)) (hne : pS (tcK b n) (tvK b n) sec (pP (tcK b n) (tvK b n) sec m) 0 deep i p o t C e ≠ none) (hs : smx f f0) (hC : CK f v b n i) (h89 : f 1989 = iI (p : Int)) (h49 : f 2049 = iI ((o + C.length : Nat) : Int)) (hcd : cd a o C) (hR : XR f0 fl g gl hh v tx b n o a P (pS (tcK b n) (tvK b n) sec (pP (tcK b n) (tvK b n) sec m) 0 deep i p o t C e)) : XDg X fl g gl hh v tx 0 deep t l K f a P := by
  have er : pS (tcK b n) (tvK b n) sec (pP (tcK b n) (tvK b n) sec m) 0 deep i p o t C e = if tcK b n i = 191 then (if deep = 8 then some (.inl i) else p_then (pP (tcK b n) (tvK b n) sec m 2 (deep + 1) (i + 1) p o 0 [] p_e0) fun j p' C' e' => if tcK b n j = 193 then some (.inr (j + 1, p', C', e')) else some (.inl j))
      else if p = 50 then some (.inl i)
      else if tcK b n i = 50 then (if tvK b n i ≤ 1000 then some (.inr (i + 1, p + 1, [tvK b n i], fun _ => some (tvK b n i : Int))) else some (.inl i))
      else match p_word sec (tcK b n i) with
        | none => some (.inl i)
        | some w => if sec = true ∧ 5 ≤ w then (if tcK b n (i + 1) = 50 ∧ tvK b n (i + 1) ≤ 2 then some (.inr (i + 2, p + 1, [4096 + (w + tvK b n (i + 1))], fun E => some (E (w + tvK b n (i + 1))))) else some (.inl (i + 1)))
          else some (.inr (i + 1, p + 1, [4096 + w], fun E => some (E w))) := rfl
  rw [er] at hne hR
  have N4 := hX.N4
  have c0 := hc0 (by omega)
  subst c0
  have ho : o + 0 + t ≤ i := ho
  have h49 : f 2049 = iI (o : Int) := h49
  show WP X (K + 1) 39 _ P
  have m91 : (f 1990 = (91 : Int32)) = (tcK b n i = 191) := hC.m (w := 91) hX.b (by omega) (by omega) (by omega)
  have m48 : (f 1990 = (48 : Int32)) = (tcK b n i = 50) := hC.d hX.b
  have f88 : f 1988 = (if sec = true then 1 else 0) := (hs 1988 (by omega) (by omega)).trans hSec
  have e50 : ((50 : Int32) ≤ f 1989) = (p = 50) := by
    rw [h89]
    simp (disch := omega) only [z_lit, z_litl, z_neg, z_negl, z_add, z_sub, z_mul, z_addl, z_subl, z_mull, z_cc, z_cl, z_cr, z_cm, z_cml, z_cmr, z_lt, z_le, z_eq, z_ltl, z_lel, z_eql, z_nat, z_i2l, z_l2i, z_div, z_sh, Int.toNat_natCast, z_ts, z_tsl]
    exact propext ⟨fun a => by omega, fun a => by omega⟩
  have u89 : f 1989 + (1 : Int32) = iI ((p + 1 : Nat) : Int) := by rw [h89, i1N]
  have bad : XR f0 fl g gl hh v tx b n o a P (some (.inl i)) → WP X K 40 (0, [some (.ref 31)], [], Wd f fl (va_up g 34 a) gl hh v tx) (fun rv w2 => WP X (K + 1) 39 (134, [some (.ref 31), none, none, none, none], rv.toList ++ [], w2) P) := fun hR => cx_fail hC (b_yre_part_31_134 (h := ⟨Or.inl rfl, hR.2 i rfl _ a hs.u5 va_s⟩) ..)
  -- one code laid
  have lay : ∀ (q x y j p' : Nat) (e' : pE → Option Int) (f2 : Nat → Int32) (l4 : Int32), XR f0 fl g gl hh v tx b n o a P (some (.inr (j, p', [y], e'))) → l4 = iI (x : Int) → q < 16 → x < 4096 → y = q * 4096 + x → o < 400 → smx f2 f0 → CK f2 v b n j → f2 1989 = iI (p' : Int) → f2 2049 = iI (o : Int) → WP X K 41 (0, [some (.ref 31), some (.int (iI (q : Int))), some (.int l4)], [], Wd f2 fl (va_up g 34 a) gl hh v tx) (fun rv w2 => WP X (K + 1) 39 (230, [none, none, none, none, some (.int l4)], rv.toList ++ [], w2) P) := by
    intro q x y j p' e' f2 l4 hR e4 hq hx hy hz hs2 hC2 b89 b49
    subst e4
    refine cx_emit (q := q) (x := x) (z := o) hz b49 hq hx ?_
    refine b_yre_part_31_230 (h := ?_) ..
    exact hR.1 _ _ _ _ rfl _ _ hs2.uz hC2.uz (by rw [va_ne (by decide)]; exact b89) va_s (fun r hr => upd_ne (by omega)) (cd.one (by rw [hy]))
  refine b_yre_part_31_0 (h := ?_) ..
  rw [m91, m48, f88, e50, u89]
  refine ⟨fun n191 => ?_, fun y191 => ⟨fun cd8 => ?_, fun cd8 => ?_⟩⟩
  · rw [if_neg n191] at hR
    refine ⟨fun n50 => ?_, fun y50 => ⟨fun p50 => ?_, fun p50 => ?_⟩⟩
    · rw [if_neg n50] at hR
      have at98 : WP X (K + 1) 39 (98, [some (.ref 31), none, some (.int 0), none, none], [.int (iI (pkV (pkR b n (ts b n i) (wdw sec))))], Wd f fl (va_up g 34 a) gl hh v tx) P := by
        refine b_yre_part_31_98 (h := ?_) ..
        rw [e50, u89]
        refine ⟨fun p50 => bad (by rw [if_pos p50] at hR; exact hR), fun p50 => ⟨fun _ => ?_, fun c => absurd rfl c⟩⟩
        rw [if_neg p50] at hR
        have hw := pkR_word hX.b (n := n) (s := ts b n i) sec
        cases hpk : pkR b n (ts b n i) (wdw sec) with
        | none =>
          rw [hpk] at hw
          have hw : p_word sec (tcK b n i) = none := hw.symm
          rw [hw] at hR
          exact ⟨fun c => absurd rfl c, fun _ => bad hR⟩
        | some k =>
          rw [hpk] at hw
          have hw : p_word sec (tcK b n i) = some (if sec = true ∧ k = 6 then 8 else k) := hw.symm
          have hiN : i < N := hX.s fun h => by rw [h] at hw; revert hw; cases sec <;> (intro hw; cases hw)
          have hk8 : k ≤ 8 := by
            have := (p_word_n hw).2.1
            by_cases e : sec = true ∧ k = 6
            · have := e.2
              omega
            · rw [if_neg e] at this
              omega
          have hk2 : sec = true → k ≤ 6 := by
            intro hsec
            subst hsec
            have := pkR_lt hpk
            have e7 : (wdw true).length = 7 := rfl
            omega
          rw [show pkV (some k) = (k : Int) from rfl]
          rw [hw] at hR
          have hR : XR f0 fl g gl hh v tx b n o a P (if sec = true ∧ 5 ≤ (if sec = true ∧ k = 6 then 8 else k) then (if tcK b n (i + 1) = 50 ∧ tvK b n (i + 1) ≤ 2 then some (.inr (i + 2, p + 1, [4096 + ((if sec = true ∧ k = 6 then 8 else k) + tvK b n (i + 1))], fun E => some (E ((if sec = true ∧ k = 6 then 8 else k) + tvK b n (i + 1))))) else some (.inl (i + 1)))
            else some (.inr (i + 1, p + 1, [4096 + (if sec = true ∧ k = 6 then 8 else k)], fun E => some (E (if sec = true ∧ k = 6 then 8 else k))))) := hR
          have nk : ¬ iI (k : Int) = (-1 : Int32) := by
            intro c
            have c : iI (k : Int) = iI (-1) := c
            rw [z_eq (by omega) (by omega)] at c
            omega
          refine ⟨fun _ => ⟨fun _ => ?_, fun c => absurd rfl c⟩, fun c => absurd c nk⟩
          refine cx_step hX hC.u9 hiN fun f2 hf2 hC2 => ?_
          have hs2 := hs.u9.st hf2
          have b89 : f2 1989 = iI ((p + 1 : Nat) : Int) := (hf2 _ (by omega)).trans va_s
          have b49 : f2 2049 = iI (o : Int) := (hf2 _ (by omega)).trans ((va_ne (by decide)).trans h49)
          have b88 : f2 1988 = (if sec = true then 1 else 0) := (hf2 _ (by omega)).trans ((va_ne (by decide)).trans f88)
          have n48 : (f2 1990 = (48 : Int32)) = (tcK b n (i + 1) = 50) := hC2.d hX.b
          refine b_yre_part_31_163 (h := ?_) ..
          rw [b88, n48]
          have plain : ¬ (sec = true ∧ 5 ≤ k) → WP X K 41 (0, [some (.ref 31), some (.int 1), some (.int (iI (k : Int)))], [], Wd f2 fl (va_up g 34 a) gl hh v tx) (fun rv w2 => WP X (K + 1) 39 (230, [none, none, none, none, some (.int (iI (k : Int)))], rv.toList ++ [], w2) P) := by
            intro hn
            have ek : (if sec = true ∧ k = 6 then 8 else k) = k := if_neg fun h => hn ⟨h.1, by omega⟩
            rw [ek, if_neg hn] at hR
            exact lay 1 k (4096 + k) (i + 1) (p + 1) _ f2 _ hR rfl (by decide) (by omega) (by omega) (by omega) hs2 hC2 b89 b49
          cases sec with
          | false => exact ⟨fun _ => ⟨fun _ => plain fun h => absurd h.1 (by decide), fun c => absurd rfl c⟩, fun c => absurd rfl c⟩
          | true =>
            refine ⟨fun c => absurd c (by decide), fun _ => ⟨fun c => ⟨fun _ => plain fun h => ?_, fun c => absurd rfl c⟩, fun c => ?_⟩⟩
            · simp (disch := omega) only [z_lit, z_litl, z_neg, z_negl, z_add, z_sub, z_mul, z_addl, z_subl, z_mull, z_cc, z_cl, z_cr, z_cm, z_cml, z_cmr, z_lt, z_le, z_eq, z_ltl, z_lel, z_eql, z_nat, z_i2l, z_l2i, z_div, z_sh, Int.toNat_natCast, z_ts, z_tsl] at c
              omega
            · have hk2 := hk2 rfl
              have hk5 : 5 ≤ k := by simp (disch := omega) only [z_lit, z_litl, z_neg, z_negl, z_add, z_sub, z_mul, z_addl, z_subl, z_mull, z_cc, z_cl, z_cr, z_cm, z_cml, z_cmr, z_lt, z_le, z_eq, z_ltl, z_lel, z_eql, z_nat, z_i2l, z_l2i, z_div, z_sh, Int.toNat_natCast, z_ts, z_tsl] at c; omega
              have ew : (if true = true ∧ k = 6 then 8 else k) = 5 + (k - 5) * 3 := by
                by_cases e : k = 6
                · rw [if_pos ⟨rfl, e⟩, e]
                · rw [if_neg fun h => e h.2]; omega
              rw [ew, if_pos ⟨rfl, by omega⟩] at hR
              refine ⟨fun n50b => ?_, fun y50 => ⟨fun c3 => ?_, fun c3 => ?_⟩⟩
              · rw [if_neg fun h => n50b h.1] at hR
                exact cx_fail hC2 (b_yre_part_31_196 (h := ⟨Or.inl rfl, hR.2 (i + 1) rfl _ a hs2.u5 va_s⟩) ..)
              · have b93 := hC2.n y50
                rw [b93] at c3 ⊢
                have hv : tvK b n (i + 1) ≤ 2 := by simp (disch := omega) only [z_lit, z_litl, z_neg, z_negl, z_add, z_sub, z_mul, z_addl, z_subl, z_mull, z_cc, z_cl, z_cr, z_cm, z_cml, z_cmr, z_lt, z_le, z_eq, z_ltl, z_lel, z_eql, z_nat, z_i2l, z_l2i, z_div, z_sh, Int.toNat_natCast, z_ts, z_tsl] at c3; omega
                rw [if_pos ⟨y50, hv⟩] at hR
                have hi2 : i + 1 < N := hX.s (by rw [y50]; decide)
                refine cx_step hX hC2 hi2 fun f3 hf3 hC3 => ?_
                have e4 : (((5 : Int32) + ((iI (k : Int) - (5 : Int32)) * (3 : Int32))) + iI (min (tvK b n (i + 1)) 1001 : Nat)) = iI ((5 + (k - 5) * 3 + tvK b n (i + 1) : Nat) : Int) := by
                  simp (disch := omega) only [z_lit, z_litl, z_neg, z_negl, z_add, z_sub, z_mul, z_addl, z_subl, z_mull, z_cc, z_cl, z_cr, z_cm, z_cml, z_cmr, z_lt, z_le, z_eq, z_ltl, z_lel, z_eql, z_nat, z_i2l, z_l2i, z_div, z_sh, Int.toNat_natCast, z_ts, z_tsl]
                  congr 1
                  omega
                rw [e4]
                refine b_yre_part_31_215 (h := ⟨fun _ => ?_, fun c => absurd rfl c⟩) ..
                exact lay 1 (5 + (k - 5) * 3 + tvK b n (i + 1)) (4096 + (5 + (k - 5) * 3 + tvK b n (i + 1))) (i + 2) (p + 1) _ f3 _ hR rfl (by decide) (by omega) (by omega) (by omega) (hs2.st hf3) hC3 ((hf3 _ (by omega)).trans b89) ((hf3 _ (by omega)).trans b49)
              · have b93 := hC2.n y50
                rw [b93] at c3
                have hv : ¬ tvK b n (i + 1) ≤ 2 := by simp (disch := omega) only [z_lit, z_litl, z_neg, z_negl, z_add, z_sub, z_mul, z_addl, z_subl, z_mull, z_cc, z_cl, z_cr, z_cm, z_cml, z_cmr, z_lt, z_le, z_eq, z_ltl, z_lel, z_eql, z_nat, z_i2l, z_l2i, z_div, z_sh, Int.toNat_natCast, z_ts, z_tsl] at c3; omega
                rw [if_neg fun h => hv h.2] at hR
                exact cx_fail hC2 (b_yre_part_31_196 (h := ⟨Or.inl rfl, hR.2 (i + 1) rfl _ a hs2.u5 va_s⟩) ..)
      cases sec with
      | false => exact ⟨fun _ => cx_pick hX hC (ws := wdw false) rfl (by decide) (by decide) (wdw_ok false) at98, fun c => absurd rfl c⟩
      | true => exact ⟨fun c => absurd c (by decide), fun _ => cx_pick hX hC (ws := wdw true) rfl (by decide) (by decide) (wdw_ok true) at98⟩
    · rw [if_pos p50] at hR
      exact bad hR
    · rw [if_neg p50, if_pos y50] at hR
      have hiN : i < N := hX.s (by rw [y50]; decide)
      have b93 := hC.n y50
      rw [b93]
      refine ⟨fun c3 => ?_, fun c3 => ?_⟩
      · have hv : tvK b n i ≤ 1000 := by simp (disch := omega) only [z_lit, z_litl, z_neg, z_negl, z_add, z_sub, z_mul, z_addl, z_subl, z_mull, z_cc, z_cl, z_cr, z_cm, z_cml, z_cmr, z_lt, z_le, z_eq, z_ltl, z_lel, z_eql, z_nat, z_i2l, z_l2i, z_div, z_sh, Int.toNat_natCast, z_ts, z_tsl] at c3; omega
        rw [if_pos hv] at hR
        rw [show min (tvK b n i) 1001 = tvK b n i by omega]
        refine cx_step hX hC.u9 hiN fun f2 hf2 hC2 => ?_
        have hs2 := hs.u9.st hf2
        have b89 : f2 1989 = iI ((p + 1 : Nat) : Int) := (hf2 _ (by omega)).trans va_s
        have b49 : f2 2049 = iI (o : Int) := (hf2 _ (by omega)).trans ((va_ne (by decide)).trans h49)
        have goal := lay 0 (tvK b n i) (tvK b n i) (i + 1) (p + 1) _ f2 _ hR rfl (by decide) (by omega) (by omega) (by omega) hs2 hC2 b89 b49
        exact b_yre_part_31_163 (h := ⟨fun _ => ⟨fun c => absurd c (by decide), fun _ => goal⟩, fun _ => ⟨fun _ => ⟨fun c => absurd c (by decide), fun _ => goal⟩, fun c => absurd (by decide) c⟩⟩) ..
      · have hv : ¬ tvK b n i ≤ 1000 := by simp (disch := omega) only [z_lit, z_litl, z_neg, z_negl, z_add, z_sub, z_mul, z_addl, z_subl, z_mull, z_cc, z_cl, z_cr, z_cm, z_cml, z_cmr, z_lt, z_le, z_eq, z_ltl, z_lel, z_eql, z_nat, z_i2l, z_l2i, z_div, z_sh, Int.toNat_natCast, z_ts, z_tsl] at c3; omega
        rw [if_neg hv] at hR
        exact bad hR
  · have d8 : deep ≠ 8 := by simp (disch := omega) only [z_lit, z_litl, z_neg, z_negl, z_add, z_sub, z_mul, z_addl, z_subl, z_mull, z_cc, z_cl, z_cr, z_cm, z_cml, z_cmr, z_lt, z_le, z_eq, z_ltl, z_lel, z_eql, z_nat, z_i2l, z_l2i, z_div, z_sh, Int.toNat_natCast, z_ts, z_tsl] at cd8; omega
    have hiN : i < N := hX.s (by rw [y191]; decide)
    rw [if_pos y191, if_neg d8] at hne hR
    obtain ⟨K2, rfl⟩ : ∃ K2, K = K2 + 3 := ⟨K - 3, by omega⟩
    refine cx_step hX hC hiN fun f2 hf2 hC2 => ?_
    have hs2 := hs.st hf2
    refine b_yre_part_31_24 (h := ?_) ..
    rw [i1N]
    refine ih 2 (deep + 1) (i + 1) p o 0 0 [] p_e0 K2 f2 a _ (by omega) (by omega) (by omega) (by omega) hp (by omega) (by omega) (show o + 0 + 0 ≤ i + 1 by omega) (fun _ => rfl) (fun h => by omega) (fun h => hne (by rw [h]; rfl)) hs2 hC2 ((hf2 _ (by omega)).trans h89) ((hf2 _ (by omega)).trans h49) hcd ⟨fun j p' C' e' h1 f' a' hs' hC' a89 a49 alo acd => ?_, fun k h1 f' a' hs' a85 => ?_⟩
    · rw [h1] at hR
      have hR : XR f0 fl g gl hh v tx b n o a P (if tcK b n j = 193 then some (.inr (j + 1, p', C', e')) else some (.inl j)) := hR
      have m93 : (f' 1990 = (93 : Int32)) = (tcK b n j = 193) := hC'.m (w := 93) hX.b (by omega) (by omega) (by omega)
      refine b_yre_part_31_32 (h := ⟨fun _ => ?_, fun c => absurd c (by decide)⟩) ..
      rw [m93]
      refine ⟨fun y93 => ?_, fun n93 => ?_⟩
      · rw [if_pos y93] at hR
        have hjN : j < N := hX.s (by rw [y93]; decide)
        refine cx_step hX hC' hjN fun f3 hf3 hC3 => ?_
        exact b_yre_part_31_55 (h := hR.1 _ _ _ _ rfl f3 a' (hs'.st hf3) hC3 ((hf3 _ (by omega)).trans a89) ((hf3 _ (by omega)).trans a49) alo acd) ..
      · rw [if_neg n93] at hR
        exact cx_fail hC' (b_yre_part_31_50 (h := ⟨Or.inl rfl, hR.2 j rfl _ a' hs'.u5 va_s⟩) ..)
    · rw [h1] at hR
      exact b_yre_part_31_32 (h := ⟨fun c => absurd rfl c, fun _ => hR.2 k rfl f' a' hs' a85⟩) ..
  · have d8 : deep = 8 := by simp (disch := omega) only [z_lit, z_litl, z_neg, z_negl, z_add, z_sub, z_mul, z_addl, z_subl, z_mull, z_cc, z_cl, z_cr, z_cm, z_cml, z_cmr, z_lt, z_le, z_eq, z_ltl, z_lel, z_eql, z_nat, z_i2l, z_l2i, z_div, z_sh, Int.toNat_natCast, z_ts, z_tsl] at cd8; omega
    rw [if_pos y191, if_pos d8] at hR
    exact cx_fail hC (b_yre_part_31_19 (h := ⟨Or.inl rfl, hR.2 i rfl _ a hs.u5 va_s⟩) ..)
theorem xd_all {X : mm_X} {f0 : Nat → Int32} {fl : Nat → Int64} {g : Nat → Nat → Int32} {gl : Nat → Nat → Int64} {hh : Nat → Nat → Option Nat} {v : Nat → Value} {tx : mm_W} {b : Nat → Nat} {n N : Nat} {sec : Bool} (hX : CX g b n N) (hSec : f0 1988 = (if sec = true then 1 else 0)) : ∀ m, XDn X f0 fl g gl hh v tx b n N sec m := by
  intro m
  induction m with
  | zero => intro mode deep i p o t l C e K f a P _ _ _ _ _ _ _ _ _ _ hne; exact absurd rfl hne
  | succ m ih =>
    intro mode deep i p o t l C e K f a P hm ht hd hi hp hK hl ho hc0 he hne hs hC h89 h49 hcd hR
    match mode, hm with
    | 0, _ => exact xd_0 hX ih hSec hd hi hp hK ht hl ho hc0 he hne hs hC h89 h49 hcd hR
    | 1, _ => exact xd_1 hX ih hd hi hp hK ht hl ho hc0 he hne hs hC h89 h49 hcd hR
    | 2, _ => exact xd_2 hX ih hd hi hp hK ht hl ho hc0 he hne hs hC h89 h49 hcd hR
    | 3, _ => exact xd_3 hX ih hd hi hp hK ht hl ho hc0 he hne hs hC h89 h49 hcd hR
    | 4, _ => exact xd_4 hX ih hd hi hp hK ht hl ho hc0 he hne hs hC h89 h49 hcd hR
    | 5, _ => exact xd_5 hX ih hd hi hp hK ht hl ho hc0 he hne hs hC h89 h49 hcd hR
    | 6, _ => exact xd_6 hX ih hd hi hp hK ht hl ho hc0 he hne hs hC h89 h49 hcd hR
    | 7, _ => exact xd_7 hX ih hd hi hp hK ht hl ho hc0 he hne hs hC h89 h49 hcd hR
    | 8, _ => exact xd_8 hX ih hd hi hp hK ht hl ho hc0 he hne hs hC h89 h49 hcd hR
    | 9, _ => exact xd_9 hX ih hd hi hp hK ht hl ho hc0 he hne hs hC h89 h49 hcd hR
