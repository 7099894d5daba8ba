/-! the reference reads an order -/
/-- an order's test -/
theorem rt_1 {X : mm_X} {f0 : Nat → Int32} {fl : Nat → Int64} {g : Nat → Nat → Int32} {gl : Nat → Nat → Int64} {hh : Nat → Nat → Option Nat} {v : Nat → Value} {tx : mm_W} {c u S : Nat → Nat} {sec : Bool} {N n : Nat} (hT : TK g c u S N) (hL : LG f0 sec) {i p o K : Nat} {f : Nat → Int32} {P : Option Value → mm_W → Prop} (hi : i ≤ N) (hp : p ≤ 50) (hK : 64 ≤ K) (hn : 12 * N + 10 ≤ n) (hs : sm f f0) (h5 : f 4755 = iI (i : Int)) (h6 : f 4756 = iI (p : Int)) (h7 : f 4757 = -1) (hR : RR f0 fl g gl hh v tx S P (p_test c u sec n i p o)) : WP X (K + 10) 157 (0, [some (.ref 74), some (.int 4), none], [], Wd f fl g gl hh v tx) (fun rv w2 => WP X (K + 11) 163 (62, [some (.ref 74)], rv.toList ++ [], w2) P) := by
  unfold p_test at hR
  refine tk_157 (w := 4) hT hi h5 h7 (by decide) (fun ew => ?_) fun n0 => ?_
  · rw [if_pos ew] at hR
    have hiN : i < N := hT.s (by rw [ew]; decide)
    refine b_m_readOrder_62 (h := ⟨fun c => absurd c (by decide), fun _ => ?_⟩) ..
    have r5 : p_rk 5 = 6 := rfl
    exact rd_all hT hL n 5 0 (i + 1) p o 0 [] p_e0 K _ _ (by omega) (by omega) (by omega) (by omega) hp (by omega) (fun h => by omega) (p_tot hT.c0 n 5 0 (i + 1) p o 0 [] p_e0 (by omega) (by omega) (by omega) hp (fun h => by omega) (by omega)) hs.u5 va_s (by rw [va_ne (by decide)]; exact h6) (by rw [va_ne (by decide)]; exact h7) ⟨fun j p' C' e' h1 f' hs' a5 a6 a7 => b_m_readOrder_70 (h := hR.1 j p' C' e' h1 f' hs' a5 a6 a7) .., fun k h1 f' hs' a7 => b_m_readOrder_70 (h := hR.2 k h1 f' hs' a7) ..⟩
  · rw [if_neg n0] at hR
    exact b_m_readOrder_62 (h := ⟨fun _ => hR.1 i p _ _ rfl f hs h5 h6 h7, fun c => absurd rfl c⟩) ..
theorem fl_62 {X : mm_X} {d : Nat} {f : Nat → Int32} {fl : Nat → Int64} {g : Nat → Nat → Int32} {gl : Nat → Nat → Int64} {hh : Nat → Nat → Option Nat} {v : Nat → Value} {tx : mm_W} {P : Option Value → mm_W → Prop} (hq : ¬ f 4757 = -1) (h : P none (Wd f fl g gl hh v tx)) : WP X (d + 1) 157 (0, [some (.ref 74), some (.int 4), none], [], Wd f fl g gl hh v tx) (fun rv w2 => WP X (d + 2) 163 (62, [some (.ref 74)], rv.toList ++ [], w2) P) :=
  fl_157 hq (b_m_readOrder_62 (h := ⟨fun _ => h, fun c => absurd rfl c⟩) ..)
theorem fl_47 {X : mm_X} {d : Nat} {f : Nat → Int32} {fl : Nat → Int64} {g : Nat → Nat → Int32} {gl : Nat → Nat → Int64} {hh : Nat → Nat → Option Nat} {v : Nat → Value} {tx : mm_W} {P : Option Value → mm_W → Prop} (hq : ¬ f 4757 = -1) (h : P none (Wd f fl g gl hh v tx)) : WP X (d + 1) 157 (0, [some (.ref 74), some (.int 24), none], [], Wd f fl g gl hh v tx) (fun rv w2 => WP X (d + 2) 163 (47, [some (.ref 74)], rv.toList ++ [], w2) P) :=
  fl_157 hq (b_m_readOrder_47 (h := ⟨fun _ => fl_62 hq h, fun c => absurd rfl c⟩) ..)
/-- how often -/
theorem rm_1 {X : mm_X} {f0 : Nat → Int32} {fl : Nat → Int64} {g : Nat → Nat → Int32} {gl : Nat → Nat → Int64} {hh : Nat → Nat → Option Nat} {v : Nat → Value} {tx : mm_W} {c u S : Nat → Nat} {N n : Nat} (hT : TK g c u S N) (hL : LG f0 true) {i p o K : Nat} {f : Nat → Int32} {P : Option Value → mm_W → Prop} (hi : i ≤ N) (hp : p ≤ 50) (hK : 64 ≤ K) (hn : 12 * N + 10 ≤ n) (hs : sm f f0) (h5 : f 4755 = iI (i : Int)) (h6 : f 4756 = iI (p : Int)) (h7 : f 4757 = -1)
    (hA : ∀ j t, p_times c u true i = .inr (j, t) → RR f0 fl g gl hh v tx S P (p_test c u true n j p o)) (hB : ∀ q, p_times c u true i = .inl q → ∀ f', sm f' f0 → f' 4757 = iI (S q : Int) → P none (Wd f' fl g gl hh v tx)) : WP X (K + 10) 157 (0, [some (.ref 74), some (.int 24), none], [], Wd f fl g gl hh v tx) (fun rv w2 => WP X (K + 11) 163 (47, [some (.ref 74)], rv.toList ++ [], w2) P) := by
  refine tk_157 (w := 24) hT hi h5 h7 (by decide) (fun ew => ?_) fun n0 => ?_
  · have hiN : i < N := hT.s (by rw [ew]; decide)
    refine b_m_readOrder_47 (h := ⟨fun c => absurd c (by decide), fun _ => ?_⟩) ..
    refine tk_161 (i := i + 1) (lo := 1) (hi := 20) hT hiN va_s (by rw [va_ne (by decide)]; exact h7) (by omega) (fun a => ?_) fun a => ?_
    · have et : p_times c u true i = .inr (i + 2, u (i + 1)) := by unfold p_times; rw [if_pos ⟨rfl, ew⟩, if_pos a]
      have hiN2 : i + 1 < N := hT.s (by rw [a.1]; decide)
      refine b_m_readOrder_57 (h := ?_) ..
      exact rt_1 (i := i + 2) hT hL hiN2 hp hK hn hs.u5.u5 va_s (by rw [va_ne (by decide), va_ne (by decide)]; exact h6) (by rw [va_ne (by decide), va_ne (by decide)]; exact h7) (hA _ _ et)
    · have et : p_times c u true i = .inl (i + 1) := by unfold p_times; rw [if_pos ⟨rfl, ew⟩, if_neg a]
      refine b_m_readOrder_57 (h := ?_) ..
      exact fl_62 (by rw [va_s]; exact hT.q (i + 1)) (hB _ et _ hs.u5.u7 va_s)
  · have et : p_times c u true i = .inr (i, 1) := by unfold p_times; rw [if_neg fun a => n0 a.2]
    refine b_m_readOrder_47 (h := ⟨fun _ => ?_, fun c => absurd rfl c⟩) ..
    exact rt_1 hT hL hi hp hK hn hs h5 h6 h7 (hA _ _ et)
theorem rc_1 {X : mm_X} {f0 : Nat → Int32} {fl : Nat → Int64} {g : Nat → Nat → Int32} {gl : Nat → Nat → Int64} {hh : Nat → Nat → Option Nat} {v : Nat → Value} {tx : mm_W} {c u S : Nat → Nat} {N n : Nat} (hT : TK g c u S N) (hL : LG f0 true) {i p o K : Nat} {f : Nat → Int32} {P : Option Value → mm_W → Prop} (hi : i ≤ N) (hp : p ≤ 50) (hK : 64 ≤ K) (hn : 12 * N + 10 ≤ n) (hs : sm f f0) (h5 : f 4755 = iI (i : Int)) (h6 : f 4756 = iI (p : Int)) (h7 : f 4757 = -1) (hR : RC f0 fl g gl hh v tx S P (p_clause c u true n i p o)) : WP X (K + 11) 163 (0, [some (.ref 74)], [], Wd f fl g gl hh v tx) P := by
  have r2 : p_rk 2 = 3 := rfl
  -- behind what is summed
  have beh : ∀ k j p' C' e' f', p_kind true (c i) = some k → p_sum0 c u true n k (i + 1) p o = some (.inr (j, p', C', e')) → j ≤ N → p' ≤ 50 → sm f' f0 → f' 4755 = iI (j : Int) → f' 4756 = iI (p' : Int) → f' 4757 = -1 → WP X (K + 10) 157 (0, [some (.ref 74), some (.int 24), none], [], Wd f' fl g gl hh v tx) (fun rv w2 => WP X (K + 11) 163 (47, [some (.ref 74)], rv.toList ++ [], w2) P) := by
    intro k j p' C' e' f' hk es g2 g3 hs' a5 a6 a7
    refine rm_1 (o := o + C'.length) hT hL g2 g3 hK hn hs' a5 a6 a7 (fun j2 t et => ⟨fun j3 p3 C2 e2 h2 => hR.1 j3 p3 (k, t, C', C2, e', e2) ?_, fun q h2 => hR.2 q ?_⟩) fun q et => hR.2 q ?_
    · unfold p_clause; rw [hk]; simp only [es, et, h2]
    · unfold p_clause; rw [hk]; simp only [es, et, h2]
    · unfold p_clause; rw [hk]; simp only [es, et]
  have go : ∀ k, p_kind true (c i) = some k → p_summed true k = true → WP X (K + 10) 168 (0, [some (.ref 74), some (.int 0)], [], Wd (va_up f 4755 (iI ((i + 1 : Nat) : Int))) fl g gl hh v tx) (fun rv w2 => WP X (K + 11) 163 (23, [some (.ref 74)], rv.toList ++ [], w2) P) := by
    intro k hk hsm
    have hiN : i < N := hT.s fun h => by rw [h] at hk; cases hk
    refine rd_all hT hL n 2 0 (i + 1) p o 0 [] p_e0 (K + 4) _ _ (by omega) (by omega) (by omega) (by omega) hp (by omega) (fun h => by omega) (p_tot hT.c0 n 2 0 (i + 1) p o 0 [] p_e0 (by omega) (by omega) (by omega) hp (fun h => by omega) (by omega)) hs.u5 va_s (by rw [va_ne (by decide)]; exact h6) (by rw [va_ne (by decide)]; exact h7) ⟨fun j p' C' e' h1 f' hs' a5 a6 a7 => ?_, fun q h1 f' hs' a7 => ?_⟩
    · obtain ⟨g1, g2, g3, g4, g5, g6, g7, g8, g9, g10⟩ := p_inv hT.c0 E00_ok _ _ _ _ _ _ _ _ _ _ _ _ _ h1 (by omega) (by omega) (by omega) hp (fun h => by omega)
      exact b_m_readOrder_23 (h := beh k j p' C' e' f' hk (by unfold p_sum0; rw [if_pos hsm]; exact h1) g2 g3 hs' a5 a6 a7) ..
    · have es : p_sum0 c u true n k (i + 1) p o = some (.inl q) := by unfold p_sum0; rw [if_pos hsm]; exact h1
      exact b_m_readOrder_23 (h := fl_47 (by rw [a7]; exact hT.q q) (hR.2 q (by unfold p_clause; rw [hk]; simp only [es]) f' hs' a7)) ..
  have bare : ∀ k, p_kind true (c i) = some k → p_summed true k = false → WP X (K + 10) 157 (0, [some (.ref 74), some (.int 24), none], [], Wd (va_up f 4755 (iI ((i + 1 : Nat) : Int))) fl g gl hh v tx) (fun rv w2 => WP X (K + 11) 163 (47, [some (.ref 74)], rv.toList ++ [], w2) P) := by
    intro k hk hsm
    have hiN : i < N := hT.s fun h => by rw [h] at hk; cases hk
    exact beh k (i + 1) p [] (fun _ => some 1) _ hk (by unfold p_sum0; rw [if_neg (by rw [hsm]; decide)]) hiN hp hs.u5 va_s (by rw [va_ne (by decide)]; exact h6) (by rw [va_ne (by decide)]; exact h7)
  refine b_m_readOrder_0 (h := ?_) ..
  refine tk_157 (w := 20) hT hi h5 h7 (by decide) (fun ew => ?_) fun n1 => ?_
  · exact b_m_readOrder_6 (h := ⟨fun _ => go 0 (by rw [ew]; rfl) rfl, fun c => absurd c (by decide)⟩) ..
  refine b_m_readOrder_6 (h := ⟨fun c => absurd rfl c, fun _ => ?_⟩) ..
  refine tk_157 (w := 22) hT hi h5 h7 (by decide) (fun ew => ?_) fun n2 => ?_
  · exact b_m_readOrder_15 (h := ⟨fun c => absurd c (by decide), fun _ => go 2 (by rw [ew]; rfl) rfl⟩) ..
  refine b_m_readOrder_15 (h := ⟨fun _ => ?_, fun c => absurd rfl c⟩) ..
  refine tk_157 (w := 21) hT hi h5 h7 (by decide) (fun ew => ?_) fun n3 => ?_
  · exact b_m_readOrder_32 (h := ⟨fun _ => bare 1 (by rw [ew]; rfl) rfl, fun c => absurd c (by decide)⟩) ..
  refine b_m_readOrder_32 (h := ⟨fun c => absurd rfl c, fun _ => ?_⟩) ..
  refine tk_158 (w := 23) hT hi h5 h7 (by decide) (fun ew => ?_) fun n4 => ?_
  · exact b_m_readOrder_41 (h := bare 3 (by rw [ew]; rfl) rfl) ..
  · have hk : p_kind true (c i) = none := by show (if true = true then _ else _) = _; rw [if_pos rfl, if_neg n1, if_neg n3, if_neg n2, if_neg n4]
    refine b_m_readOrder_41 (h := ?_) ..
    exact fl_47 (by rw [va_s]; exact hT.q i) (hR.2 i (by unfold p_clause; rw [hk]) _ hs.u7 va_s)
