/-! the draft: room for a row, a row's end -/
theorem XhasRoom {p : Nat} {σ : xM} {k : Nat} {Q : Int32 → xM → Prop} (hp : p = 4 ∨ p = 7) (hk : k < 7) : xI1 67 [.ref p, .int (nI k)] σ Q = Q (xb (σ.1 (p + 2) k < tab 0 (nI k))) σ := by
  have w : (0 ≤ nI k ∧ nI k ≤ 6) := ⟨nI_pos' (by omega), (nI_leI (b := 6) (by omega) (by decide)).mpr (by omega)⟩
  have ex : xat σ (p + 2) (nI k) = σ.1 (p + 2) k := by
    rcases hp with rfl | rfl
    · exact xat_n (by rw [xln_6]; exact hk)
    · exact xat_n (by rw [xln_9]; exact hk)
  rw [e67]
  by_cases c : σ.1 (p + 2) k < tab 0 (nI k)
  · have c' : (tab 0 (nI k) ≤ σ.1 (p + 2) k) = False := eq_false (Int32.not_le.mpr c)
    rcases hp with rfl | rfl
    · simp only [s67_0, s67_1, s67_2, s67_4, s67_7, s67_10, s67_11, s67_12_4, s67_12_7, s67_15, s67_18, s67_19, s67_22, s67_25, s67_26, s67_29, s67_30, xcx_i, xcx_r, xcx_n, xcx_l, xcx_0, within_eq, if_pos w, xb_f, ite_not, toldOf_eq (Or.inl rfl), ex, at_t0, c', if_false, true_or, or_true, true_and]
      unfold xb; rw [if_pos c]
    · simp only [s67_0, s67_1, s67_2, s67_4, s67_7, s67_10, s67_11, s67_12_4, s67_12_7, s67_15, s67_18, s67_19, s67_22, s67_25, s67_26, s67_29, s67_30, xcx_i, xcx_r, xcx_n, xcx_l, xcx_0, within_eq, if_pos w, xb_f, ite_not, toldOf_eq (Or.inr rfl), ex, at_t0, c', if_false, true_or, or_true, true_and]
      unfold xb; rw [if_pos c]
  · have c' : (tab 0 (nI k) ≤ σ.1 (p + 2) k) = True := eq_true (Int32.not_lt.mp c)
    rcases hp with rfl | rfl
    · simp only [s67_0, s67_1, s67_2, s67_4, s67_7, s67_10, s67_11, s67_12_4, s67_12_7, s67_15, s67_18, s67_19, s67_22, s67_25, s67_26, s67_29, s67_30, xcx_i, xcx_r, xcx_n, xcx_l, xcx_0, within_eq, if_pos w, xb_f, ite_not, toldOf_eq (Or.inl rfl), ex, at_t0, c', if_true, true_or, or_true, true_and]
      unfold xb; rw [if_neg c]
    · simp only [s67_0, s67_1, s67_2, s67_4, s67_7, s67_10, s67_11, s67_12_4, s67_12_7, s67_15, s67_18, s67_19, s67_22, s67_25, s67_26, s67_29, s67_30, xcx_i, xcx_r, xcx_n, xcx_l, xcx_0, within_eq, if_pos w, xb_f, ite_not, toldOf_eq (Or.inr rfl), ex, at_t0, c', if_true, true_or, or_true, true_and]
      unfold xb; rw [if_neg c]
theorem XhasRoom_no {p : Nat} {σ : xM} {Q : Int32 → xM → Prop} : xI1 67 [.ref p, .int (-1)] σ Q = Q 0 σ := by
  have w : ¬ ((0 : Int32) ≤ -1 ∧ (-1 : Int32) ≤ 6) := by decide
  rw [e67]
  simp only [s67_0, s67_1, s67_2, s67_4, s67_7, s67_10, s67_11, s67_12_4, s67_12_7, s67_15, s67_18, s67_19, s67_22, s67_25, s67_26, s67_29, s67_30, xcx_i, xcx_r, xcx_n, xcx_l, xcx_0, within_eq, if_neg w, xb_f, ite_not, true_or, or_true, true_and]
