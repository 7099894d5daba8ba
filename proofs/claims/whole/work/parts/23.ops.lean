/-! operations, out of what the relation between class and reference gives and keeps -/
theorem k_i64 (x : Int32) : k_mi x.toInt64 = .int x := by simp [k_mi]
theorem k_soap {Inv : k_I} (h : ∀ f fl g gl hh v tx, Inv f fl g gl hh v tx → f 15 = f 4742) : k_op10 Inv := by
  intro X f fl g gl hh v tx hI
  refine x_soap X 1999 f fl g gl hh v tx _ ?_
  refine ⟨(f 15).toInt64, f, fl, g, gl, hh, v, tx, by rw [k_i64], rfl, ?_⟩
  refine m_soap X 1999 f fl g gl hh v tx _ ?_
  exact ⟨by rw [k_i64, h _ _ _ _ _ _ _ hI], f, fl, g, gl, hh, v, tx, rfl, hI, by omega, by omega⟩
theorem k_fault {Inv : k_I} (h : ∀ f fl g gl hh v tx, Inv f fl g gl hh v tx → f 14 = f 4750) : k_op13 Inv := by
  intro X f fl g gl hh v tx hI
  refine x_fault X 1999 f fl g gl hh v tx _ ?_
  refine ⟨(f 14).toInt64, f, fl, g, gl, hh, v, tx, by rw [k_i64], rfl, ?_⟩
  refine m_fault X 1999 f fl g gl hh v tx _ ?_
  exact ⟨by rw [k_i64, h _ _ _ _ _ _ _ hI], f, fl, g, gl, hh, v, tx, rfl, hI, by omega, by omega⟩
theorem k_stopped {Inv : k_I} (h : ∀ f fl g gl hh v tx, Inv f fl g gl hh v tx → f 16 = f 4778) : k_op14 Inv := by
  intro X f fl g gl hh v tx hI
  refine x_stopped X 1999 f fl g gl hh v tx _ ?_
  refine ⟨(f 16).toInt64, f, fl, g, gl, hh, v, tx, by rw [k_i64], rfl, ?_⟩
  refine m_stopped X 1999 f fl g gl hh v tx _ ?_
  exact ⟨by rw [k_i64, h _ _ _ _ _ _ _ hI], f, fl, g, gl, hh, v, tx, rfl, hI, by omega, by omega⟩
theorem k_status {Inv : k_I} (h : ∀ f fl g gl hh v tx, Inv f fl g gl hh v tx → f 18 = f 4736) : k_op40 Inv := by
  intro X f fl g gl hh v tx hI
  refine x_status X 1999 f fl g gl hh v tx _ ?_
  refine ⟨(f 18).toInt64, f, fl, g, gl, hh, v, tx, by rw [k_i64], rfl, ?_⟩
  refine m_status X 1999 f fl g gl hh v tx _ ?_
  exact ⟨by rw [k_i64, h _ _ _ _ _ _ _ hI], f, fl, g, gl, hh, v, tx, rfl, hI, by omega, by omega⟩
theorem k_end {Inv : k_I} (h : ∀ f fl g gl hh v tx, Inv f fl g gl hh v tx → f 6 = f 4749) (hp : ∀ f fl g gl hh v tx (x : Int32), Inv f fl g gl hh v tx → ¬ x < 0 → x ≤ f 6 → Inv (va_up (va_up f 6 x) 4749 x) fl g gl hh v tx) : k_op8 Inv := by
  intro p0 X f fl g gl hh v tx hI
  have hb := h _ _ _ _ _ _ _ hI
  refine x_end X 1999 f fl g gl hh v tx p0 _ (fun c => ?_) (fun c c2 => ?_) (fun c c2 => ?_)
  · refine ⟨(-1 : Int32).toInt64, f, fl, g, gl, hh, v, tx, by rw [k_i64], rfl, ?_⟩
    refine m_end X 1998 f fl g gl hh v tx p0 _ (fun _ => ?_) (fun c' _ => absurd c c') (fun c' _ => absurd c c')
    exact ⟨by rw [k_i64], f, fl, g, gl, hh, v, tx, rfl, hI, by omega, by omega⟩
  · refine ⟨p0.toInt64, va_up f 6 p0, fl, g, gl, hh, v, tx, by rw [k_i64], rfl, ?_⟩
    refine m_end X 1998 (va_up f 6 p0) fl g gl hh v tx p0 _ (fun c' => absurd c' c) (fun _ c' => ?_) (fun _ _ => ?_)
    · have c' : f 4749 < p0 := c'
      rw [← hb] at c'
      exact absurd c2 (Int32.not_le.mpr c')
    · exact ⟨by rw [k_i64], va_up (va_up f 6 p0) 4749 p0, fl, g, gl, hh, v, tx, rfl, hp _ _ _ _ _ _ _ _ hI c c2, by omega, by omega⟩
  · refine ⟨(-1 : Int32).toInt64, f, fl, g, gl, hh, v, tx, by rw [k_i64], rfl, ?_⟩
    refine m_end X 1998 f fl g gl hh v tx p0 _ (fun c' => absurd c' c) (fun _ _ => ?_) (fun _ c' => ?_)
    · exact ⟨by rw [k_i64], f, fl, g, gl, hh, v, tx, rfl, hI, by omega, by omega⟩
    · rw [← hb] at c'
      exact absurd (Int32.not_lt.mp c') c2
theorem k_forget {Inv : k_I} (h : ∀ f fl g gl hh v tx, Inv f fl g gl hh v tx → f 72 = g 76 57) (hp : ∀ f fl g gl hh v tx, Inv f fl g gl hh v tx → Inv (va_up f 72 0) fl (va_up g 76 (upd (g 76) 57 0)) gl hh v tx) : k_op31 Inv := by
  intro X f fl g gl hh v tx hI
  refine x_forget X 1999 f fl g gl hh v tx _ ?_
  refine ⟨(f 72).toInt64, va_up f 72 0, fl, g, gl, hh, v, tx, by rw [k_i64], rfl, ?_⟩
  refine m_forget X 1999 (va_up f 72 0) fl g gl hh v tx _ ?_
  exact ⟨by rw [k_i64, h _ _ _ _ _ _ _ hI], va_up f 72 0, fl, va_up g 76 (upd (g 76) 57 0), gl, hh, v, tx, rfl, hp _ _ _ _ _ _ _ hI, by omega, by omega⟩
