/-! plans: the class's habits -/
def kk (x : Nat) : Nat := x / 40 * 10 + x % 10
theorem kk_lt {x : Nat} (hx : x < 1000) : kk x < 250 ∧ kk x / 10 = x / 40 ∧ kk x % 10 = x % 10 := by
  unfold kk
  omega
theorem kk_x {x : Nat} (hx : x < 1000) : (iI (x : Int) / (40 : Int32)) * (10 : Int32) + (iI (x : Int) - iI (x : Int) / (10 : Int32) * (10 : Int32)) = iI (kk x : Nat) ∧ (iI (kk x : Nat)).toNatClampNeg = kk x := by
  obtain ⟨e40, -, -, em⟩ := st_40 hx
  have := (kk_lt hx).1
  refine ⟨?_, by rw [z_nat (by omega)]; omega⟩
  rw [e40, em, show (10 : Int32) = iI 10 from rfl, z_mul, z_add, kk]
  congr 1
def hbK (κ : Nat → Nat) (cs : List pC) (p k u : Nat) : Prop := u < 320 ∧ (∀ j, j < κ 55 → (u / 2 ^ κ (39 + j) % 2 = 1 ↔ brd κ cs p (κ (39 + j)) (k / 10) (k % 10) = true)) ∧ ∀ j, j < κ 55 → κ (39 + j) = 0 → ¬ brd κ cs p 0 (k / 10) (k % 10) = true → u / 64 = gos κ cs p (k / 10) (k % 10)
theorem ors6 : ∀ a : Nat, a < 64 → ∀ m : Nat, m < 6 → (iI (a : Int) ||| ((1 : Int32) <<< (iI (m : Int) &&& (31 : Int32)) : Int32)) = iI ((a ||| 2 ^ m : Nat) : Int) ∧ a ||| 2 ^ m < 64 ∧ ∀ m' : Nat, m' < 6 → (a ||| 2 ^ m) / 2 ^ m' % 2 = if m' = m then 1 else a / 2 ^ m' % 2 := by decide +kernel
theorem mvs6 : ∀ a : Nat, a < 64 → ∀ b : Nat, b < 64 → (((iI (a : Int) &&& (iI (b : Int) ^^^ (-1 : Int32))) &&& (1 : Int32)) = 0) = ¬ (a % 2 = 1 ∧ b % 2 = 0) := by decide +kernel
theorem hbs6 : ∀ b : Nat, b < 64 → (iI (b : Int) ||| (0 : Int32)) = iI (b : Int) ∧ ∀ o : Nat, o < 5 → (iI (b : Int) ||| ((iI (o : Int) <<< ((6 : Int32) &&& (31 : Int32))) : Int32)) = iI ((b + 64 * o : Nat) : Int) ∧ (b + 64 * o) / 64 = o ∧ ∀ m : Nat, m < 6 → (b + 64 * o) / 2 ^ m % 2 = b / 2 ^ m % 2 := by decide +kernel
theorem c_learn {X : mm_X} {d : Nat} {f : Nat → Int32} {fl : Nat → Int64} {g : Nat → Nat → Int32} {gl : Nat → Nat → Int64} {hh : Nat → Nat → Option Nat} {v : Nat → Value} {tx : mm_W} {P : Option Value → mm_W → Prop} {κ : Nat → Nat} {cs : List pC} {p x : Nat} (hX : cpX v tx cs) (hwS : wS κ) (hwT : wT κ) (hxS : xS (f 64) (g 2) (g 3) (g 4) κ) (hp : p < 3) (w0 : g 41 0 = iI (p : Int)) (w6 : g 41 6 = iI (κ 22)) (w7 : g 41 7 = iI (κ 54)) (hx : x < 1000)
    (h1 : g 49 (kk x) ≠ -1 → P none (Wd f fl g gl hh v tx))
    (h0 : g 49 (kk x) = -1 → ∀ (u : Nat) (a : Nat → Int32) st, hbK κ cs p (kk x) u → a 0 = iI (p : Int) → a 6 = iI (κ 22) → a 7 = iI (κ 54) → P none (Wd (va_up f 2440 (iI (x : Int))) fl (va_up (va_up g 41 a) 49 (upd (g 49) (kk x) (iI (u : Int)))) (va_up gl 40 st) hh v tx)) :
    WP X (d + 5) 24 (0, [some (.ref 45), some (.ref 1), some (.ref 38), some (.int (iI (x : Int))), none, none, none, none, none], [], Wd f fl g gl hh v tx) P := by
  have b55 := hwS.1
  obtain ⟨ek, tk⟩ := kk_x hx
  obtain ⟨k1, k2, k3⟩ := kk_lt hx
  have okk : ¬ (iI (kk x : Nat) < 0 ∨ 250 ≤ kk x) := by simp (disch := omega) only [z_lit, z_litl, z_neg, z_negl, z_add, z_sub, z_mul, z_addl, z_subl, z_mull, z_cc, z_cl, z_cr, z_cm, z_cml, z_cmr, z_lt, z_le, z_eq, z_ltl, z_lel, z_eql, z_nat, z_i2l, z_l2i, z_div, z_sh, Int.toNat_natCast, z_ts, z_tsl]; omega
  have hm5 : ∀ j, j < κ 55 → κ (39 + j) ≤ 5 := fun j hj => (hwS.2.1 j hj).2.2.1
  refine b_yco_learn_45_1_38_0 (d := d + 4) (h := ?_) ..
  rw [ek, tk]
  refine ⟨okk, fun c => ?_, h1⟩
  have h0 := h0 c
  have loop : ∀ j, j ≤ κ 55 → ∀ (ask bars : Nat) (a : Nat → Int32) (st : Nat → Int64), ask < 64 → bars < 64 → (∀ m, m < 6 → (ask / 2 ^ m % 2 = 1 ↔ ∃ i, i < j ∧ κ (39 + i) = m)) → (∀ m, m < 6 → (bars / 2 ^ m % 2 = 1 ↔ ask / 2 ^ m % 2 = 1 ∧ brd κ cs p m (x / 40) (x % 10) = true)) → a 0 = iI (p : Int) → a 6 = iI (κ 22) → a 7 = iI (κ 54) →
      WP X (d + 5) 24 (40, [some (.ref 45), some (.ref 1), some (.ref 38), none, some (.int (iI (kk x : Nat))), some (.int (iI (ask : Int))), some (.int (iI (bars : Int))), some (.int (iI (j : Int))), none], [], Wd (va_up f 2440 (iI (x : Int))) fl (va_up g 41 a) (va_up gl 40 st) hh v tx) P := by
    refine k_up (Q := fun j => ∀ (ask bars : Nat) (a : Nat → Int32) (st : Nat → Int64), ask < 64 → bars < 64 → (∀ m, m < 6 → (ask / 2 ^ m % 2 = 1 ↔ ∃ i, i < j ∧ κ (39 + i) = m)) → (∀ m, m < 6 → (bars / 2 ^ m % 2 = 1 ↔ ask / 2 ^ m % 2 = 1 ∧ brd κ cs p m (x / 40) (x % 10) = true)) → a 0 = iI (p : Int) → a 6 = iI (κ 22) → a 7 = iI (κ 54) →
      WP X (d + 5) 24 (40, [some (.ref 45), some (.ref 1), some (.ref 38), none, some (.int (iI (kk x : Nat))), some (.int (iI (ask : Int))), some (.int (iI (bars : Int))), some (.int (iI (j : Int))), none], [], Wd (va_up f 2440 (iI (x : Int))) fl (va_up g 41 a) (va_up gl 40 st) hh v tx) P) (fun ask bars a st ha hb hask hbar a0 a6 a7 => ?_) fun j hj ih ask bars a st ha hb hask hbar a0 a6 a7 => ?_
    · -- all signs were asked for
      have e64 : va_up f 2440 (iI (x : Int)) 64 = iI (κ 55 : Int) := hxS.1
      have bit : ∀ j, j < κ 55 → (bars / 2 ^ κ (39 + j) % 2 = 1 ↔ brd κ cs p (κ (39 + j)) (x / 40) (x % 10) = true) := fun j hj => by
        have h5 := hm5 j hj
        have q1 := (hask (κ (39 + j)) (by omega)).mpr ⟨j, hj, rfl⟩
        rw [hbar (κ (39 + j)) (by omega)]
        exact ⟨fun h => h.2, fun h => ⟨q1, h⟩⟩
      have mv := mvs6 ask ha bars hb
      obtain ⟨hb0, hbo⟩ := hbs6 bars hb
      refine b_yco_learn_45_1_38_40 (d := d + 4) (h := ?_) ..
      rw [e64, tk, mv, hb0]
      refine ⟨fun _ => ⟨fun c => ⟨okk, ?_⟩, fun c => ?_⟩, fun c => absurd (Int32.le_refl _) c⟩
      · refine h0 bars a st ⟨by omega, fun j hj => by rw [k2, k3]; exact bit j hj, fun j hj e0 hn => ?_⟩ a0 a6 a7
        rw [k2, k3] at hn
        refine absurd ⟨?_, ?_⟩ c
        · have := (hask 0 (by omega)).mpr ⟨j, hj, e0⟩
          rw [Nat.pow_zero, Nat.div_one] at this
          exact this
        · have q : ¬ bars % 2 = 1 := fun q => by
            have := (hbar 0 (by omega)).mp (by rw [Nat.pow_zero, Nat.div_one]; exact q)
            exact hn this.2
          omega
      · refine c_goes (d := d) (κ := κ) (cs := cs) (p := p) (sp := x) hX hwT hp (by exact a0) (by exact a6) (by exact a7) va_s hx fun a' st' a0' a6' a7' => ?_
        have hgl := gos_le (κ := κ) (cs := cs) (p := p) (c := x / 40) (w := x % 10)
        obtain ⟨e1, e2, e3⟩ := hbo (gos κ cs p (x / 40) (x % 10)) (by omega)
        refine b_yco_learn_45_1_38_137 (h := ?_) ..
        rw [tk, e1, va_tw, va_tw]
        refine ⟨okk, ?_⟩
        refine h0 (bars + 64 * gos κ cs p (x / 40) (x % 10)) a' st' ⟨by omega, fun j hj => ?_, fun j hj e0 hn => ?_⟩ a0' a6' a7'
        · rw [k2, k3, e3 _ (by have := hm5 j hj; omega)]
          exact bit j hj
        · rw [k2, k3, e2]
    · have h5 := hm5 j hj
      have e64 : va_up f 2440 (iI (x : Int)) 64 = iI (κ 55 : Int) := hxS.1
      have e4 : va_up g 41 a 4 j = iI (κ (39 + j) : Int) := (hxS.2 j hj).2.2
      have tj : (iI (j : Int)).toNatClampNeg = j := by rw [z_nat (by omega)]; omega
      obtain ⟨o1, o2, o3⟩ := ors6 ask ha (κ (39 + j)) (by omega)
      obtain ⟨r1, r2, r3⟩ := ors6 bars hb (κ (39 + j)) (by omega)
      have hask' : ∀ m, m < 6 → ((ask ||| 2 ^ κ (39 + j)) / 2 ^ m % 2 = 1 ↔ ∃ i, i < j + 1 ∧ κ (39 + i) = m) := fun m hm => by
        rw [o3 m hm]
        by_cases e : m = κ (39 + j)
        · rw [if_pos e]
          exact ⟨fun _ => ⟨j, by omega, e.symm⟩, fun _ => rfl⟩
        · rw [if_neg e, hask m hm]
          refine ⟨fun ⟨i, hi, q⟩ => ⟨i, by omega, q⟩, fun ⟨i, hi, q⟩ => ⟨i, ?_, q⟩⟩
          by_cases e2 : i = j
          · subst e2; exact absurd q.symm e
          · omega
      have bz : ((iI (ask : Int) >>> (iI (κ (39 + j) : Int) &&& (31 : Int32)) : Int32) &&& (1 : Int32)) = iI ((ask / 2 ^ κ (39 + j) % 2 : Nat) : Int) := bit_v (by omega) (by omega)
      have bz0 : (iI ((ask / 2 ^ κ (39 + j) % 2 : Nat) : Int) = (0 : Int32)) = (¬ ask / 2 ^ κ (39 + j) % 2 = 1) := by
        rw [show (0 : Int32) = iI 0 from rfl, z_eq (by omega) (by omega)]
        exact propext ⟨fun a => by omega, fun a => by omega⟩
      refine b_yco_learn_45_1_38_40 (d := d + 4) (h := ?_) ..
      rw [e64, tj, e4, bz, bz0, o1, i1N]
      refine ⟨fun c => by simp (disch := omega) only [z_lit, z_litl, z_neg, z_negl, z_add, z_sub, z_mul, z_addl, z_subl, z_mull, z_cc, z_cl, z_cr, z_cm, z_cml, z_cmr, z_lt, z_le, z_eq, z_ltl, z_lel, z_eql, z_nat, z_i2l, z_l2i, z_div, z_sh, Int.toNat_natCast, z_ts, z_tsl] at c; omega, fun _ => ⟨by simp (disch := omega) only [z_lit, z_litl, z_neg, z_negl, z_add, z_sub, z_mul, z_addl, z_subl, z_mull, z_cc, z_cl, z_cr, z_cm, z_cml, z_cmr, z_lt, z_le, z_eq, z_ltl, z_lel, z_eql, z_nat, z_i2l, z_l2i, z_div, z_sh, Int.toNat_natCast, z_ts, z_tsl]; omega, fun c => ?_, fun c => ?_⟩⟩
      · -- it was asked for before
        have c := Classical.not_not.mp c
        refine ih _ bars a st o2 hb hask' (fun m hm => ?_) a0 a6 a7
        rw [hbar m hm, o3 m hm]
        by_cases e : m = κ (39 + j)
        · rw [if_pos e, e]
          exact ⟨fun q => ⟨rfl, q.2⟩, fun q => ⟨c, q.2⟩⟩
        · rw [if_neg e]
      · refine c_barred (d := d) (κ := κ) (cs := cs) (p := p) (sp := x) (o := κ (39 + j)) hX hwT hp (by omega) (by exact a0) (by exact a6) (by exact a7) va_s hx fun a' st' a0' a6' a7' => ?_
        refine b_yco_learn_45_1_38_74 (h := ?_) ..
        rw [o1, r1, i1N, va_tw, va_tw]
        cases hbr : brd κ cs p (κ (39 + j)) (x / 40) (x % 10) with
        | false =>
          refine ⟨fun _ => ih _ bars a' st' o2 hb hask' (fun m hm => ?_) a0' a6' a7', fun c2 => absurd rfl c2⟩
          rw [hbar m hm, o3 m hm]
          by_cases e : m = κ (39 + j)
          · rw [if_pos e, e, hbr]
            exact ⟨fun q => absurd q.2 (by decide), fun q => absurd q.2 (by decide)⟩
          · rw [if_neg e]
        | true =>
          refine ⟨fun c2 => absurd c2 (by decide), fun _ => ih _ _ a' st' o2 r2 hask' (fun m hm => ?_) a0' a6' a7'⟩
          rw [r3 m hm, o3 m hm]
          by_cases e : m = κ (39 + j)
          · rw [if_pos e, if_pos e, e, hbr]
            exact ⟨fun _ => ⟨rfl, rfl⟩, fun _ => rfl⟩
          · rw [if_neg e, if_neg e]
            exact hbar m hm
  have := loop 0 (Nat.zero_le _) 0 0 (g 41) (gl 40) (by decide) (by decide) (fun m hm => ⟨fun q => by rw [Nat.zero_div] at q; exact absurd q (by decide), fun ⟨i, hi, _⟩ => absurd hi (Nat.not_lt_zero i)⟩) (fun m hm => ⟨fun q => by rw [Nat.zero_div] at q; exact absurd q (by decide), fun q => by rw [Nat.zero_div] at q; exact absurd q.1 (by decide)⟩) w0 w6 w7
  rw [va_id (f := g) rfl, va_id (f := gl) rfl] at this
  exact this
theorem bhd_0 {s o go : Nat} (ho : o ≠ 0) : bhd s o go = bhd s o 0 := by
  unfold bhd
  rw [if_neg ho, if_neg ho]
def hbI (κ : Nat → Nat) (cs : List pC) (p : Nat) (a : Nat → Int32) : Prop := ∀ k, k < 250 → a k = -1 ∨ ∃ u : Nat, a k = iI (u : Int) ∧ hbK κ cs p k u
/-- where the class holds a sign leads: nowhere while it isn't asked for -/
def cN (κ : Nat → Nat) (cs : List pC) (p : Nat) (a : Nat → Int32) (x j : Nat) : Nat := if a (kk x) = -1 then x else stB κ cs p x (κ (39 + j))
theorem cN_lt {κ : Nat → Nat} {cs : List pC} {p : Nat} {a : Nat → Int32} {x j : Nat} (hx : x < 1000) : cN κ cs p a x j < 1000 := by
  unfold cN
  split
  · exact hx
  · exact stB_lt hx
theorem c_cnext {X : mm_X} {d : Nat} {f : Nat → Int32} {fl : Nat → Int64} {g : Nat → Nat → Int32} {gl : Nat → Nat → Int64} {hh : Nat → Nat → Option Nat} {v : Nat → Value} {tx : mm_W} {P : Option Value → mm_W → Prop} {κ : Nat → Nat} {cs : List pC} {p x j : Nat} (hwS : wS κ) (hx : x < 1000) (hj : j < κ 55) (hb : hbI κ cs p (g 49)) (h : P (some (.int (iI (cN κ cs p (g 49) x j : Nat)))) (Wd f fl g gl hh v tx)) : WP X (d + 2) 26 (0, [some (.ref 45), some (.int (iI (x : Int))), some (.int (iI (κ (39 + j) : Int))), none], [], Wd f fl g gl hh v tx) P := by
  obtain ⟨ek, tk⟩ := kk_x hx
  obtain ⟨k1, k2, k3⟩ := kk_lt hx
  have h5 := (hwS.2.1 j hj).2.2.1
  have okk : ¬ (iI (kk x : Nat) < 0 ∨ 250 ≤ kk x) := by simp (disch := omega) only [z_lit, z_litl, z_neg, z_negl, z_add, z_sub, z_mul, z_addl, z_subl, z_mull, z_cc, z_cl, z_cr, z_cm, z_cml, z_cmr, z_lt, z_le, z_eq, z_ltl, z_lel, z_eql, z_nat, z_i2l, z_l2i, z_div, z_sh, Int.toNat_natCast, z_ts, z_tsl]; omega
  unfold cN at h
  refine b_yco_next_45_0 (d := d + 1) (h := ?_) ..
  rw [ek, tk]
  refine ⟨okk, fun c => ?_, fun c => ?_⟩
  · rw [if_pos c] at h
    exact h
  · rw [if_neg c] at h
    rcases hb (kk x) k1 with e | ⟨u, e, q1, q2, q3⟩
    · exact absurd e c
    rw [e, bit_t (by omega) (by omega)]
    have q2 := q2 j hj
    rw [k2, k3] at q2 q3
    unfold stB at h
    refine ⟨fun nb => ?_, fun yb => ?_⟩
    · have nb2 : ¬ brd κ cs p (κ (39 + j)) (x / 40) (x % 10) = true := fun q => nb (q2.mpr q)
      rw [if_neg nb2] at h
      have es : (iI (u : Int) >>> ((6 : Int32) &&& (31 : Int32)) : Int32) = iI ((u / 64 : Nat) : Int) := by
        rw [show ((6 : Int32) &&& (31 : Int32)) = iI 6 from rfl, z_shr (by omega) (by omega)]
        congr 1
      rw [es]
      refine c_x_behind (d := d) hx h5 (by omega) ?_
      refine b_yco_next_45_43 (h := ?_) ..
      by_cases e0 : κ (39 + j) = 0
      · rw [if_pos e0] at h
        rw [q3 j hj e0 (by rw [← e0]; exact nb2)]
        exact h
      · rw [if_neg e0] at h
        rw [bhd_0 e0]
        exact h
    · rw [if_pos (q2.mp yb)] at h
      exact h
/-- the first sign that leads on, by what far holds -/
theorem c_leads {X : mm_X} {d : Nat} {f : Nat → Int32} {fl : Nat → Int64} {g : Nat → Nat → Int32} {gl : Nat → Nat → Int64} {hh : Nat → Nat → Option Nat} {v : Nat → Value} {tx : mm_W} {P : Option Value → mm_W → Prop} {κ : Nat → Nat} {cs : List pC} {p x : Nat} {F : Nat → Int} (hwS : wS κ) (hxS : xS (f 64) (g 2) (g 3) (g 4) κ) (hx : x < 1000) (hF : ∀ y, y < 1000 → g 46 y = iI (F y) ∧ -1 ≤ F y ∧ F y ≤ 1000000) (hb : hbI κ cs p (g 49))
    (h : ∀ r : Int, (r = -1 ∧ (∀ j, j < κ 55 → F (cN κ cs p (g 49) x j) ≠ F x + κ (31 + j))) ∨ (∃ j : Nat, r = j ∧ j < κ 55 ∧ F (cN κ cs p (g 49) x j) = F x + κ (31 + j) ∧ ∀ i, i < j → F (cN κ cs p (g 49) x i) ≠ F x + κ (31 + i)) → P (some (.int (iI r))) (Wd f fl g gl hh v tx)) : WP X (d + 3) 28 (0, [some (.ref 45), some (.ref 1), some (.int (iI (x : Int))), none], [], Wd f fl g gl hh v tx) P := by
  have b55 := hwS.1
  refine b_yco_leadingSign_45_1_0 (h := ?_) ..
  have loop : ∀ j, j ≤ κ 55 → (∀ i, i < j → F (cN κ cs p (g 49) x i) ≠ F x + κ (31 + i)) → WP X (d + 3) 28 (2, [some (.ref 45), some (.ref 1), some (.int (iI (x : Int))), some (.int (iI (j : Int)))], [], Wd f fl g gl hh v tx) P := by
    refine k_up (Q := fun j => (∀ i, i < j → F (cN κ cs p (g 49) x i) ≠ F x + κ (31 + i)) → WP X (d + 3) 28 (2, [some (.ref 45), some (.ref 1), some (.int (iI (x : Int))), some (.int (iI (j : Int)))], [], Wd f fl g gl hh v tx) P) (fun hn => ?_) fun j hj ih hn => ?_
    · refine b_yco_leadingSign_45_1_2 (d := d + 2) (h := ?_) ..
      rw [hxS.1]
      exact ⟨fun _ => h (-1) (Or.inl ⟨rfl, hn⟩), fun c => absurd (Int32.le_refl _) c⟩
    · have tj : (iI (j : Int)).toNatClampNeg = j := by rw [z_nat (by omega)]; omega
      have tx_ : (iI (x : Int)).toNatClampNeg = x := by rw [z_nat (by omega)]; omega
      have hy := cN_lt (κ := κ) (cs := cs) (p := p) (a := g 49) (j := j) hx
      obtain ⟨x1, x2, x3⟩ := hxS.2 j hj
      have hl := (hwS.2.1 j hj).2.1
      have oj : ¬ (iI (j : Int) < 0 ∨ 8 ≤ j) := by simp (disch := omega) only [z_lit, z_litl, z_neg, z_negl, z_add, z_sub, z_mul, z_addl, z_subl, z_mull, z_cc, z_cl, z_cr, z_cm, z_cml, z_cmr, z_lt, z_le, z_eq, z_ltl, z_lel, z_eql, z_nat, z_i2l, z_l2i, z_div, z_sh, Int.toNat_natCast, z_ts, z_tsl]; omega
      refine b_yco_leadingSign_45_1_2 (d := d + 2) (h := ?_) ..
      rw [hxS.1, tj, x3]
      refine ⟨fun c => by simp (disch := omega) only [z_lit, z_litl, z_neg, z_negl, z_add, z_sub, z_mul, z_addl, z_subl, z_mull, z_cc, z_cl, z_cr, z_cm, z_cml, z_cmr, z_lt, z_le, z_eq, z_ltl, z_lel, z_eql, z_nat, z_i2l, z_l2i, z_div, z_sh, Int.toNat_natCast, z_ts, z_tsl] at c; omega, fun _ => ⟨oj, ?_⟩⟩
      refine c_cnext (d := d) (j := j) hwS hx hj hb ?_
      generalize hyy : cN κ cs p (g 49) x j = y at hy
      have ty : (iI (y : Int)).toNatClampNeg = y := by rw [z_nat (by omega)]; omega
      obtain ⟨f1, f2, f3⟩ := hF y hy
      obtain ⟨g1, g2, g3⟩ := hF x hx
      refine b_yco_leadingSign_45_1_25 (h := ?_) ..
      rw [ty, tx_, tj, f1, g1, x2, z_add, z_eq (by omega) (by omega), i1N]
      refine ⟨by simp (disch := omega) only [z_lit, z_litl, z_neg, z_negl, z_add, z_sub, z_mul, z_addl, z_subl, z_mull, z_cc, z_cl, z_cr, z_cm, z_cml, z_cmr, z_lt, z_le, z_eq, z_ltl, z_lel, z_eql, z_nat, z_i2l, z_l2i, z_div, z_sh, Int.toNat_natCast, z_ts, z_tsl]; omega, by simp (disch := omega) only [z_lit, z_litl, z_neg, z_negl, z_add, z_sub, z_mul, z_addl, z_subl, z_mull, z_cc, z_cl, z_cr, z_cm, z_cml, z_cmr, z_lt, z_le, z_eq, z_ltl, z_lel, z_eql, z_nat, z_i2l, z_l2i, z_div, z_sh, Int.toNat_natCast, z_ts, z_tsl]; omega, oj, fun c => ih fun i hi => ?_, fun c => h j (Or.inr ⟨j, rfl, hj, by rw [hyy]; exact c, hn⟩)⟩
      by_cases e : i = j
      · subst e; rw [hyy]; exact c
      · exact hn i (by omega)
  exact loop 0 (Nat.zero_le _) fun i hi => absurd hi (Nat.not_lt_zero i)
