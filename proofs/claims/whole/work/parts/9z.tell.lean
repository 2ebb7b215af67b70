/-! the draft: tell, endRow -/
def ptA (k : Nat) : Nat := [0, 16, 24, 36, 42, 50, 51].getD k 0
def ptN (k : Nat) : Nat := [2, 2, 3, 6, 2, 1, 3].getD k 0
theorem tab_all : ∀ k : Nat, k < 7 → tab 2 (nI k) = nI (ptA k) ∧ tab 1 (nI k) = nI (ptN k) := by decide +kernel
theorem XendRow {p : Nat} {σ : xM} {k : Nat} {Q : xM → Prop} (hp : p = 4 ∨ p = 7) (hk : k < 7) : xV 71 [.ref p, .int (nI k)] σ Q = Q (xe_si σ (p + 2) k (σ.1 (p + 2) k + 1)) := by
  rw [e71]
  rcases hp with rfl | rfl
  · have ex : xat σ 6 (nI k) = σ.1 6 k := xat_n (by rw [xln_6]; exact hk)
    have ey : ∀ v, xpt σ 6 (nI k) v = xe_si σ 6 k v := fun v => xpt_n (by rw [xln_6]; exact hk)
    simp only [s71_0, s71_1_4, s71_1_7, s71_4, s71_5, s71_6, s71_7_4, s71_7_7, s71_10, s71_11, s71_12, s71_15, xcx_i, xcx_r, xcx_n, xcx_l, xcx_0, toldOf_eq (Or.inl rfl), put_eq, xcl_6, ex, ey, true_or, or_true, true_and]
  · have ex : xat σ 9 (nI k) = σ.1 9 k := xat_n (by rw [xln_9]; exact hk)
    have ey : ∀ v, xpt σ 9 (nI k) v = xe_si σ 9 k v := fun v => xpt_n (by rw [xln_9]; exact hk)
    simp only [s71_0, s71_1_4, s71_1_7, s71_4, s71_5, s71_6, s71_7_4, s71_7_7, s71_10, s71_11, s71_12, s71_15, xcx_i, xcx_r, xcx_n, xcx_l, xcx_0, toldOf_eq (Or.inr rfl), put_eq, xcl_9, ex, ey, true_or, or_true, true_and]
theorem Xtell {p : Nat} {σ : xM} {k f t : Nat} {v : Int32} {Q : xM → Prop} (hp : p = 4 ∨ p = 7) (hk : k < 7) (ht : σ.1 (p + 2) k = nI t) (hi : ptA k + t * ptN k + f < 54) : xV 70 [.ref p, .int (nI k), .int (nI f), .int v] σ Q = Q (xe_si σ (p + 1) (ptA k + t * ptN k + f) v) := by
  obtain ⟨t2, t1⟩ := tab_all k hk
  have ei : nI (ptA k) + nI t * nI (ptN k) + nI f = nI (ptA k + t * ptN k + f) := by
    rw [show nI t * nI (ptN k) = nI (t * ptN k) from pk_mul _ _, nI_add, nI_add]
  rw [e70]
  rcases hp with rfl | rfl
  · have ex : xat σ 6 (nI k) = σ.1 6 k := xat_n (by rw [xln_6]; exact hk)
    have ht' : σ.1 6 k = nI t := ht
    have ey : xpt σ 5 (nI (ptA k + t * ptN k + f)) v = xe_si σ 5 (ptA k + t * ptN k + f) v := xpt_n (by rw [xln_5]; exact hi)
    simp only [s70_0, s70_1_4, s70_1_7, s70_4, s70_7, s70_8, s70_11, s70_12, s70_13_4, s70_13_7, s70_16, s70_19, s70_20, s70_23, s70_24, s70_25, s70_26, s70_27, s70_28, s70_31, xcx_i, xcx_r, xcx_n, xcx_l, xcx_0, toldOf_eq (Or.inl rfl), at_t2, at_t1, t2, t1, put_eq, xcl_5, ex, ht', ei, ey, true_or, or_true, true_and]
  · have ex : xat σ 9 (nI k) = σ.1 9 k := xat_n (by rw [xln_9]; exact hk)
    have ht' : σ.1 9 k = nI t := ht
    have ey : xpt σ 8 (nI (ptA k + t * ptN k + f)) v = xe_si σ 8 (ptA k + t * ptN k + f) v := xpt_n (by rw [xln_8]; exact hi)
    simp only [s70_0, s70_1_4, s70_1_7, s70_4, s70_7, s70_8, s70_11, s70_12, s70_13_4, s70_13_7, s70_16, s70_19, s70_20, s70_23, s70_24, s70_25, s70_26, s70_27, s70_28, s70_31, xcx_i, xcx_r, xcx_n, xcx_l, xcx_0, toldOf_eq (Or.inr rfl), at_t2, at_t1, t2, t1, put_eq, xcl_8, ex, ht', ei, ey, true_or, or_true, true_and]
