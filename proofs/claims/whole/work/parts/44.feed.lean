/-! operation feed -/
def byt (y : Int32) : Nat := y.toBitVec.toNat % 256
theorem byt_lt (y : Int32) : byt y < 256 := Nat.mod_lt _ (by decide)
theorem byt_and (y : Int32) : y &&& iI 255 = iI (byt y) := by
  have := pk_and y (m := 255) 8 (by decide)
  rw [show (iI 255 : Int32) = 255 from rfl, this, z_nI]
  rfl
theorem byt_nar (y : Int32) : y.toInt8.toInt32 = iI (if byt y < 128 then (byt y : Int) else (byt y : Int) - 256) := by
  have hb := byt_lt y
  apply Int32.toInt_inj.mp
  rw [z_toInt (by split <;> omega), Int8.toInt_toInt32, Int32.toInt_toInt8]
  have e : y.toInt = (y.toBitVec.toNat : Int).bmod (2 ^ 32) := BitVec.toInt_eq_toNat_bmod y.toBitVec
  rw [e, Int.bmod_bmod_of_dvd (by decide)]
  unfold byt
  generalize y.toBitVec.toNat = n
  rw [Int.bmod_def]
  split <;> split <;> omega
theorem nar_b (y : Int32) : vp_nar .byte (y.toInt8.toInt32) = iI (if byt y < 128 then (byt y : Int) else (byt y : Int) - 256) := by
  unfold vp_nar
  rw [pk_nb]
  exact byt_nar y
def tb (x : Int32) (q : Nat) : Nat := byt (x >>> iI (24 - 8 * (q : Int)))
theorem c_append {X : mm_X} {d : Nat} {f : Nat → Int32} {fl : Nat → Int64} {g : Nat → Nat → Int32} {gl : Nat → Nat → Int64} {hh : Nat → Nat → Option Nat} {v : Nat → Value} {tx : mm_W} {P : Option Value → mm_W → Prop} {n : Nat} {x : Int32} (hn : n + 4 ≤ 400) (hf : f 6 = iI n) (h : ∀ t', (∀ i, i < n → t' i = g 30 i) → (∀ q, q < 4 → t' (n + q) = iI (tb x q)) → P none (Wd (va_up f 6 (iI ((n + 4 : Nat) : Int))) fl (va_up g 30 t') gl hh v tx)) : WP X d 103 (0, [some (.ref 0), some (.int x), none], [], Wd f fl g gl hh v tx) P := by
  refine b_x_append_0 (h := ?_) ..
  have key : ∀ q, q ≤ 4 → ∀ t' : Nat → Int32, (∀ i, i < n → t' i = g 30 i) → (∀ p, p < q → t' (n + p) = iI (tb x p)) → WP X d 103 (3, [some (.ref 0), some (.int x), some (.int (iI (24 - 8 * (q : Int))))], [], Wd (va_up f 6 (iI ((n + q : Nat) : Int))) fl (va_up g 30 t') gl hh v tx) P := by
    apply k_up (Q := fun q => ∀ t' : Nat → Int32, (∀ i, i < n → t' i = g 30 i) → (∀ p, p < q → t' (n + p) = iI (tb x p)) → WP X d 103 (3, [some (.ref 0), some (.int x), some (.int (iI (24 - 8 * (q : Int))))], [], Wd (va_up f 6 (iI ((n + q : Nat) : Int))) fl (va_up g 30 t') gl hh v tx) P)
    · intro t' h1 h2
      refine b_x_append_3 (h := ?_) ..
      simp (disch := omega) only [z_lit, z_litl, z_neg, z_negl, z_add, z_sub, z_mul, z_addl, z_subl, z_mull, z_cc, z_cl, z_cr, z_cm, z_cml, z_cmr, z_lt, z_le, z_eq, z_ltl, z_lel, z_eql, z_nat, z_i2l, z_l2i, z_div, z_sh, Int.toNat_natCast, z_ts, z_tsl]
      exact ⟨fun _ => h t' h1 h2, fun c => by omega⟩
    · intro q hq ih t' h1 h2
      refine b_x_append_3 (h := ?_) ..
      have e : (24 - 8 * (q : Int)) + -8 = 24 - 8 * ((q + 1 : Nat) : Int) := by omega
      rw [show ((255 : Int32)) = iI 255 from rfl, show (31 : Int32) = iI 31 from rfl, z_sh (by omega), byt_and]
      simp (disch := omega) only [z_lit, z_litl, z_neg, z_negl, z_add, z_sub, z_mul, z_addl, z_subl, z_mull, z_cc, z_cl, z_cr, z_cm, z_cml, z_cmr, z_lt, z_le, z_eq, z_ltl, z_lel, z_eql, z_nat, z_i2l, z_l2i, z_div, z_sh, Int.toNat_natCast, z_ts, z_tsl, va_s, va_tw]
      refine ⟨fun c => by omega, fun _ => ⟨fun c => by omega, fun _ => ⟨by omega, ?_⟩⟩⟩
      have := ih (upd t' (n + q) (iI (tb x q))) (fun i hi => by rw [upd_ne (by omega)]; exact h1 i hi) fun p hp => by
        by_cases e : p = q
        · rw [e, upd_s]
        · rw [upd_ne (by omega)]; exact h2 p (by omega)
      have e2 : iI (24 - ((8 * q : Nat) : Int) + -8) = iI (24 - 8 * ((q + 1 : Nat) : Int))  := by congr 1
      first | (rw [e2]; exact this) | (rw [e]; exact this)
  have := key 0 (by omega) (g 30) (fun i _ => rfl) fun p hp => absurd hp (Nat.not_lt_zero p)
  rw [show va_up g 30 (g 30) = g by
    funext j
    by_cases e : j = 30
    · rw [e, va_s]
    · rw [va_ne e], show va_up f 6 (iI ((n + 0 : Nat) : Int)) = f by
    funext j
    by_cases e : j = 6
    · rw [e, va_s, hf]; rfl
    · rw [va_ne e]] at this
  exact this
def five (p0 p1 p2 p3 p4 : Int32) (w : Nat) : Int32 := if w = 0 then p0 else if w = 1 then p1 else if w = 2 then p2 else if w = 3 then p3 else p4
theorem o_feed : k_op7 k_Inv := by
  intro a0 a1 a2 a3 a4 X f fl g gl hh v tx hI
  have hI' := hI
  obtain ⟨κ, ⟨wS, wH, wL, wD, wW, wT, wB⟩, hm, ⟨xS, xH, xL, xD, xW, xT⟩, he, ht, ha, hi0, hi1, hd, hr⟩ := hI
  obtain ⟨n, b6, t1, t2, t3, t4⟩ := ht
  refine b_x_feed_0 (h := ?_) ..
  simp (disch := omega) only [z_lit, z_litl, z_neg, z_negl, z_add, z_sub, z_mul, z_addl, z_subl, z_mull, z_cc, z_cl, z_cr, z_cm, z_cml, z_cmr, z_lt, z_le, z_eq, z_ltl, z_lel, z_eql, z_nat, z_i2l, z_l2i, z_div, z_sh, Int.toNat_natCast, z_ts, z_tsl, t2]
  refine ⟨fun c => ?_, fun c => ?_⟩
  · refine c_append (n := n) (by omega) t2 fun u1 p1 q1 => ?_
    refine b_x_feed_20 (h := ?_) ..
    refine c_append (n := n + 4) (by omega) va_s fun u2 p2 q2 => ?_
    refine b_x_feed_25 (h := ?_) ..
    refine c_append (n := n + 4 + 4) (by omega) va_s fun u3 p3 q3 => ?_
    refine b_x_feed_30 (h := ?_) ..
    refine c_append (n := n + 4 + 4 + 4) (by omega) va_s fun u4 p4 q4 => ?_
    refine b_x_feed_36 (h := ?_) ..
    refine c_append (n := n + 4 + 4 + 4 + 4) (by omega) va_s fun u5 p5 q5 => ?_
    refine b_x_feed_42 (h := ?_) ..
    simp only [va_s] at p2 p3 p4 p5
    have hu : ∀ w q, w < 5 → q < 4 → u5 (n + 4 * w + q) = iI (tb (five a0 a1 a2 a3 a4 w) q) := by
      intro w q hw hq
      have hw' : w = 0 ∨ w = 1 ∨ w = 2 ∨ w = 3 ∨ w = 4 := by omega
      rcases hw' with rfl | rfl | rfl | rfl | rfl
      · rw [p5 _ (by omega), p4 _ (by omega), p3 _ (by omega), p2 _ (by omega)]; exact q1 q hq
      · rw [p5 _ (by omega), p4 _ (by omega), p3 _ (by omega)]; exact q2 q hq
      · rw [p5 _ (by omega), p4 _ (by omega)]; exact q3 q hq
      · rw [p5 _ (by omega)]; exact q4 q hq
      · exact q5 q hq
    have hlow : ∀ i, i < n → u5 i = g 30 i := fun i hi => by rw [p5 _ (by omega), p4 _ (by omega), p3 _ (by omega), p2 _ (by omega)]; exact p1 i hi
    rw [va_tw, va_tw, va_tw, va_tw, va_tw, va_tw, va_tw, va_tw]
    refine k_mid ?_
    refine b_m_feed_0 (h := ?_) ..
    simp (disch := omega) only [z_lit, z_litl, z_neg, z_negl, z_add, z_sub, z_mul, z_addl, z_subl, z_mull, z_cc, z_cl, z_cr, z_cm, z_cml, z_cmr, z_lt, z_le, z_eq, z_ltl, z_lel, z_eql, z_nat, z_i2l, z_l2i, z_div, z_sh, Int.toNat_natCast, z_ts, z_tsl, va_ne, va_tw, t3]
    refine ⟨fun _ => ?_, fun c => by omega⟩
    have hv : ∀ w, w < 5 → (upd (upd (upd (upd (upd (g 82) 0 a0) 1 a1) 2 a2) 3 a3) 4 a4) w = five a0 a1 a2 a3 a4 w := by
      intro w hw
      have hw' : w = 0 ∨ w = 1 ∨ w = 2 ∨ w = 3 ∨ w = 4 := by omega
      rcases hw' with rfl | rfl | rfl | rfl | rfl <;> rfl
    generalize (upd (upd (upd (upd (upd (g 82) 0 a0) 1 a1) 2 a2) 3 a3) 4 a4) = V at hv
    have go : ∀ k : Nat, k ≤ 20 → ∀ m' : Nat → Int32, (∀ i, i < n → m' i = g 81 i) → (∀ w q : Nat, 4 * w + q < k → q < 4 → m' (n + 4 * w + q) = iI (if tb (five a0 a1 a2 a3 a4 w) q < 128 then (tb (five a0 a1 a2 a3 a4 w) q : Int) else (tb (five a0 a1 a2 a3 a4 w) q : Int) - 256)) → WP X 1999 149 (55, [some (.ref 74), none, none, none, none, none, some (.int (iI k))], [], Wd (va_up f 6 (iI ((n + 4 + 4 + 4 + 4 + 4 : Nat) : Int))) fl (va_up (va_up (va_up g 30 u5) 82 V) 81 m') gl hh v tx) (k_fn (.int (iI ((n + 4 + 4 + 4 + 4 + 4 : Nat) : Int))) k_Inv tx) := by
      apply k_up (Q := fun k => ∀ m' : Nat → Int32, (∀ i, i < n → m' i = g 81 i) → (∀ w q : Nat, 4 * w + q < k → q < 4 → m' (n + 4 * w + q) = iI (if tb (five a0 a1 a2 a3 a4 w) q < 128 then (tb (five a0 a1 a2 a3 a4 w) q : Int) else (tb (five a0 a1 a2 a3 a4 w) q : Int) - 256)) → WP X 1999 149 (55, [some (.ref 74), none, none, none, none, none, some (.int (iI k))], [], Wd (va_up f 6 (iI ((n + 4 + 4 + 4 + 4 + 4 : Nat) : Int))) fl (va_up (va_up (va_up g 30 u5) 82 V) 81 m') gl hh v tx) (k_fn (.int (iI ((n + 4 + 4 + 4 + 4 + 4 : Nat) : Int))) k_Inv tx))
      · intro m' h1 h2
        refine b_m_feed_55 (h := ?_) ..
        simp (disch := omega) only [z_lit, z_litl, z_neg, z_negl, z_add, z_sub, z_mul, z_addl, z_subl, z_mull, z_cc, z_cl, z_cr, z_cm, z_cml, z_cmr, z_lt, z_le, z_eq, z_ltl, z_lel, z_eql, z_nat, z_i2l, z_l2i, z_div, z_sh, Int.toNat_natCast, z_ts, z_tsl, va_ne, t3]
        refine ⟨fun _ => ?_, fun c => by omega⟩
        refine k_fin0 (by congr 1) ⟨κ, ⟨wS, wH, wL, wD, wW, wT, wB⟩, hm, ⟨xS, xH, xL, xD, xW, xT⟩, he, ⟨n + 20, fun i => if i < n then b6 i else tb (five a0 a1 a2 a3 a4 ((i - n) / 4)) ((i - n) % 4), by omega, ?_, ?_, fun i hi => ?_⟩, ha, hi0, hi1, hd, hr⟩
        · rfl
        · rfl
        · show _ ∧ u5 i = _ ∧ m' i = _
          by_cases c2 : i < n
          · simp only [if_pos c2]
            rw [hlow i c2, h1 i c2]
            exact t4 i c2
          · simp only [if_neg c2]
            have e : n + 4 * ((i - n) / 4) + (i - n) % 4 = i := by omega
            have g1 := hu ((i - n) / 4) ((i - n) % 4) (by omega) (by omega)
            have g2 := h2 ((i - n) / 4) ((i - n) % 4) (by omega) (by omega)
            rw [e] at g1 g2
            exact ⟨byt_lt _, g1, g2⟩
      · intro k hk ih m' h1 h2
        refine b_m_feed_55 (h := ?_) ..
        have e4 : (k : Int) / 4 = ((k / 4 : Nat) : Int) := by omega
        have hvk := hv (k / 4) (by omega)
        have e82 : va_up (va_up (va_up g 30 u5) 82 V) 81 m' 82 = V := by rw [va_ne (by decide), va_s]
        have e81 : va_up (va_up (va_up g 30 u5) 82 V) 81 m' 81 = m' := va_s
        rw [e82, e81]
        simp (disch := omega) only [z_lit, z_litl, z_neg, z_negl, z_add, z_sub, z_mul, z_addl, z_subl, z_mull, z_cc, z_cl, z_cr, z_cm, z_cml, z_cmr, z_lt, z_le, z_eq, z_ltl, z_lel, z_eql, z_nat, z_i2l, z_l2i, z_div, z_sh, Int.toNat_natCast, z_ts, z_tsl, va_ne, va_tw, t3, e4, hvk]
        refine ⟨fun c => by omega, fun _ => ⟨by omega, by omega, ?_⟩⟩
        rw [nar_b, show (24 : Int) - 8 * ((k : Int) - ((k / 4 * 4 : Nat) : Int)) = 24 - 8 * ((k % 4 : Nat) : Int) by omega]
        refine ih _ (fun i hi => ?_) fun w q hq hq2 => ?_
        · rw [upd_ne (by omega)]; exact h1 i hi
        · by_cases e : 4 * w + q = k
          · rw [show n + 4 * w + q = n + k by omega, upd_s, show k / 4 = w by omega, show k % 4 = q by omega]
            rfl
          · rw [upd_ne (by omega)]; exact h2 w q (by omega) hq2
    have := go 0 (by omega) (g 81) (fun i _ => rfl) fun w q h => absurd h (Nat.not_lt_zero _)
    rw [show va_up (va_up (va_up g 30 u5) 82 V) 81 (g 81) = va_up (va_up g 30 u5) 82 V by
      funext j
      by_cases e : j = 81
      · rw [e, va_s, va_ne (by decide), va_ne (by decide)]
      · rw [va_ne e]] at this
    exact this
  · refine k_mid ?_
    refine b_m_feed_0 (h := ?_) ..
    simp (disch := omega) only [z_lit, z_litl, z_neg, z_negl, z_add, z_sub, z_mul, z_addl, z_subl, z_mull, z_cc, z_cl, z_cr, z_cm, z_cml, z_cmr, z_lt, z_le, z_eq, z_ltl, z_lel, z_eql, z_nat, z_i2l, z_l2i, z_div, z_sh, Int.toNat_natCast, z_ts, z_tsl, t3]
    exact ⟨fun c => by omega, fun _ => k_fin0 rfl hI'⟩
