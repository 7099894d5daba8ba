/-! the reference reads what lies on the tape -/
theorem fnd_lt {x : List Nat} : ∀ {ws : List (List Nat)} {k r : Nat}, fnd x ws k = some r → r < k + ws.length
  | [], _, _, h => by cases h
  | w :: ws, k, r, h => by
    rw [fnd] at h
    split at h
    · cases h
      rw [List.length_cons]
      omega
    · have := fnd_lt h
      rw [List.length_cons]
      omega
theorem wdc_lt (x : List Nat) : wdc x < 25 := by
  unfold wdc
  cases h : fnd x wds 1 with
  | none => decide
  | some r => exact fnd_lt h
theorem tc_lt {b : Nat → Nat} (hb : ∀ i, b i < 256) (n s : Nat) : tc b n s < 1000 := by
  unfold tc
  have := hb s
  have := wdc_lt (bts b s (tE b n s - s))
  split
  · omega
  · split
    · omega
    · split <;> omega
theorem tv_lt {b : Nat → Nat} (hb : ∀ i, b i < 256) (n s : Nat) : tv b n s < 2147483648 := by
  unfold tv
  have := vlF_lt (s := s) hb (tE b n s - s)
  split
  · omega
  · split
    · omega
    · split <;> omega
theorem ts_end {b : Nat → Nat} {n N : Nat} (h : ts b n N = n) : ∀ m, ts b n (N + m) = n
  | 0 => h
  | m + 1 => by
    have := ts_end h m
    rw [← Nat.add_assoc, ts, this, show tE b n n = n by unfold tE; rw [if_pos (Nat.le_refl _)]]
    exact run_n (Or.inl (Nat.le_refl _))
abbrev tcK (b : Nat → Nat) (n : Nat) : Nat → Nat := fun k => tc b n (ts b n k)
abbrev tvK (b : Nat → Nat) (n : Nat) : Nat → Nat := fun k => tv b n (ts b n k)
theorem tk_of {b : Nat → Nat} {n N : Nat} {g : Nat → Nat → Int32} (hn : n ≤ 400) (hb : ∀ i, b i < 256) (hN : N ≤ n) (hE : ts b n N = n) (h : tOK b n (N + 1) (g 83) (g 84) (g 85)) : TK g (tcK b n) (tvK b n) (ts b n) N := by
  refine ⟨by omega, fun k hk => h k (by omega), fun k => tc_lt hb n _, fun k => tv_lt hb n _, fun k => ?_, fun k hk => ?_⟩
  · have := ts_le (b := b) (n := n) k
    omega
  · have := ts_end hE (k - N)
    rw [show N + (k - N) = k by omega] at this
    show tc b n (ts b n k) = 0
    rw [this, tc, if_pos (Nat.le_refl _)]
/-- but for these the same -/
def sm9 (f' f : Nat → Int32) : Prop := ∀ a, a < 4744 ∨ a = 4747 ∨ a = 4748 ∨ (4751 ≤ a ∧ a < 4754) ∨ 4758 ≤ a → f' a = f a
theorem c_m_readsAs {X : mm_X} {f : Nat → Int32} {fl : Nat → Int64} {g : Nat → Nat → Int32} {gl : Nat → Nat → Int64} {hh : Nat → Nat → Option Nat} {v : Nat → Value} {tx : mm_W} {P : Option Value → mm_W → Prop} {b : Nat → Nat} {n K : Nat} {sec : Bool} (hK : 64 ≤ K) (hn : n ≤ 400) (hb : ∀ i, b i < 256) (hx : ∀ i, i < n → g 81 i = iI (sb (b i))) (h80 : g 80 = k_g 80) (h49 : f 4749 = iI (n : Int))
    (h1 : ∀ (N : Nat) (cs : List pC) (f' : Nat → Int32) (a83 a84 a85 : Nat → Int32), N ≤ n → ts b n N = n → (∀ k, k < N → ts b n k < n) → tOK b n (N + 1) a83 a84 a85 → p_text (tcK b n) (tvK b n) sec 4900 N 12 0 0 0 = some (.inr cs) → sm9 f' f → f' 4749 = 0 → f' 4750 = -1 → f' 4754 = iI (N : Int) → P (some (.int 1)) (Wd f' fl (va_up (va_up (va_up g 83 a83) 84 a84) 85 a85) gl hh v tx))
    (h0 : ∀ (N k : Nat) (f' : Nat → Int32) (a83 a84 a85 : Nat → Int32), N ≤ n → ts b n N = n → (∀ k, k < N → ts b n k < n) → tOK b n (N + 1) a83 a84 a85 → p_text (tcK b n) (tvK b n) sec 4900 N 12 0 0 0 = some (.inl k) → sm9 f' f → f' 4749 = 0 → f' 4750 = iI (ts b n k : Int) → P (some (.int 0)) (Wd f' fl (va_up (va_up (va_up g 83 a83) 84 a84) 85 a85) gl hh v tx)) :
    WP X (K + 14) 172 (0, [some (.ref 74), some (.int (if sec = true then 1 else 0))], [], Wd f fl g gl hh v tx) P := by
  have main : ∀ x y z : Int32, LG (va_up (va_up (va_up f 4746 x) 4744 y) 4745 z) sec → WP X (K + 13) 171 (0, [some (.ref 74), none], [], Wd (va_up (va_up (va_up f 4746 x) 4744 y) 4745 z) fl g gl hh v tx) (fun rv w2 => WP X (K + 14) 172 (39, [some (.ref 74), none], rv.toList ++ [], w2) P) := by
    intro x y z hL
    refine b_m_readsText_0 (h := ?_) ..
    rw [show va_up (va_up (va_up f 4746 x) 4744 y) 4745 z 4749 = iI (n : Int) from h49]
    refine c_m_splits (d := K + 11) hn hb (by exact hx) (by exact h80) fun N a83 a84 a85 hN hE hlt hOK => ?_
    have hT : TK (va_up (va_up (va_up g 83 a83) 84 a84) 85 a85) (tcK b n) (tvK b n) (ts b n) N := tk_of hn hb hN hE (by rw [va_ne (by decide), va_ne (by decide), va_s, va_ne (by decide), va_s, va_s]; exact hOK)
    have hL2 : LG (va_up (va_up (va_up (va_up f 4746 x) 4744 y) 4745 z) 4754 (iI (N : Int))) sec := hL
    refine b_m_readsText_8 (h := ?_) ..
    have hL3 : LG (va_up (va_up (va_up (va_up (va_up (va_up (va_up (va_up f 4746 x) 4744 y) 4745 z) 4754 (iI (N : Int))) 4749 0) 4755 0) 4756 0) 4757 (-1)) sec := hL
    have big : ∀ f', sm f' (va_up (va_up (va_up (va_up (va_up (va_up (va_up (va_up f 4746 x) 4744 y) 4745 z) 4754 (iI (N : Int))) 4749 0) 4755 0) 4756 0) 4757 (-1)) → ∀ w, sm9 (va_up f' 4750 w) f ∧ (va_up f' 4750 w) 4749 = 0 ∧ (va_up f' 4750 w) 4750 = w ∧ (va_up f' 4750 w) 4754 = iI (N : Int) := by
      intro f' hs w
      refine ⟨fun a ha => ?_, ?_, va_s, ?_⟩
      · rw [va_ne (by omega), hs a (by omega) (by omega) (by omega), va_ne (by omega), va_ne (by omega), va_ne (by omega), va_ne (by omega), va_ne (by omega), va_ne (by omega), va_ne (by omega), va_ne (by omega)]
      · rw [va_ne (by decide), hs 4749 (by decide) (by decide) (by decide)]; rfl
      · rw [va_ne (by decide), hs 4754 (by decide) (by decide) (by decide)]; rfl
    have hRT : RT (va_up (va_up (va_up (va_up (va_up (va_up (va_up (va_up f 4746 x) 4744 y) 4745 z) 4754 (iI (N : Int))) 4749 0) 4755 0) 4756 0) 4757 (-1)) fl (va_up (va_up (va_up g 83 a83) 84 a84) 85 a85) gl hh v tx (ts b n) (fun rv w2 => WP X (K + 14) 172 (39, [some (.ref 74), none], rv.toList ++ [], w2) P) (p_text (tcK b n) (tvK b n) sec 4900 N 12 0 0 0) := by
      refine ⟨fun cs hcs f' hs => ?_, fun k hk f' hs => ?_⟩
      · obtain ⟨q1, q2, q3, q4⟩ := big f' hs (-1)
        exact b_m_readsAs_39 (h := ⟨Or.inr rfl, h1 N cs _ a83 a84 a85 hN hE hlt hOK hcs q1 q2 q3 q4⟩) ..
      · obtain ⟨q1, q2, q3, q4⟩ := big f' hs (iI (ts b n k : Int))
        exact b_m_readsAs_39 (h := ⟨Or.inl rfl, h0 N k _ a83 a84 a85 hN hE hlt hOK hk q1 q2 q3⟩) ..
    refine ro_1 (n := 4900) (i := 0) (p := 0) (o := 0) hT hL3 (by omega) (by omega) hK (by omega) (sm.r _) (by rfl) (by rfl) (by rfl) ⟨fun j p q hq f' hs a5 a6 a7 => ?_, fun k hq f' hs a7 => ?_⟩
    · obtain ⟨k1, k2⟩ := pc_le hT.c0 hq (by omega) (by omega)
      refine b_m_readsText_32 (h := ?_) ..
      refine rs_1 (n := 4900) hT hL3 hK (by omega) (by rfl) 11 1 j p (0 + q.2.2.1.length + q.2.2.2.1.length) q f' (by omega) k1 k2 hs a5 a6 a7 ?_
      rw [p_text, hq] at hRT
      exact hRT
    · refine b_m_readsText_32 (h := ?_) ..
      rw [p_text, hq] at hRT
      exact fl_34t (by rw [a7]; exact hT.q k) a7 (hRT.2 k rfl f' hs)
  refine b_m_readsAs_0 (h := ?_) ..
  cases sec with
  | false => exact ⟨Or.inl rfl, fun _ => ⟨fun _ => main _ _ _ ⟨rfl, rfl, rfl⟩, fun c => absurd rfl c⟩, fun c => absurd rfl c⟩
  | true => exact ⟨Or.inr rfl, fun c => absurd c (by decide), fun _ => ⟨fun c => absurd c (by decide), fun _ => main _ _ _ ⟨rfl, rfl, rfl⟩⟩⟩
