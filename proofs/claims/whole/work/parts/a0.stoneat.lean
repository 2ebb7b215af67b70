/-! the draft: is a stone at this place -/
theorem XhasStoneAt {p : Nat} {σ : xM} {t : Nat} {v : Int32} {Q : Int32 → xM → Prop} (hp : p = 4 ∨ p = 7) (ht : σ.1 (p + 2) 0 = nI t) (ht8 : t ≤ 8) (hQ1 : (∃ i, i < t ∧ σ.1 (p + 1) (2 * i) = v) → Q 1 σ) (hQ0 : (∀ i, i < t → ¬ σ.1 (p + 1) (2 * i) = v) → Q 0 σ) : xI1 69 [.ref p, .int v] σ Q := by
  have ex : xat σ (p + 2) 0 = nI t := by
    have : xat σ (p + 2) (nI 0) = σ.1 (p + 2) 0 := by
      rcases hp with rfl | rfl
      · exact xat_n (by rw [xln_6]; decide)
      · exact xat_n (by rw [xln_9]; decide)
    exact this.trans ht
  have loop : ∀ m i, i + m = t → (∀ i', i' < i → ¬ σ.1 (p + 1) (2 * i') = v) → xC 69 2 [some (.ref p), some (.int v), some (.int (nI i))] [] σ (xqI Q) := by
    intro m
    induction m with
    | zero =>
      intro i hi hd
      obtain rfl : i = t := by omega
      have hq := hQ0 hd
      rw [s69_2]
      rcases hp with rfl | rfl
      · simp only [s69_3, s69_4, s69_5_4, s69_5_7, s69_8, s69_28, s69_29, xcx_i, xcx_r, xcx_n, xcx_l, xcx_0, toldOf_eq (Or.inl rfl), ex, Int32.le_refl, if_true, true_or, or_true, true_and]
        exact hq
      · simp only [s69_3, s69_4, s69_5_4, s69_5_7, s69_8, s69_28, s69_29, xcx_i, xcx_r, xcx_n, xcx_l, xcx_0, toldOf_eq (Or.inr rfl), ex, Int32.le_refl, if_true, true_or, or_true, true_and]
        exact hq
    | succ m ih =>
      intro i hi hd
      have e := lt4N (n := t) (i := i) (by omega) (by omega)
      have ei : (0 : Int32) + 2 * nI i = nI (2 * i) := by rw [ml_2]; exact (nI_add 0 (2 * i)).trans (by rw [Nat.zero_add])
      have ey : xat σ (p + 1) (0 + 2 * nI i) = σ.1 (p + 1) (2 * i) := by
        rw [ei]
        rcases hp with rfl | rfl
        · exact xat_n (by rw [xln_5]; omega)
        · exact xat_n (by rw [xln_8]; omega)
      have hsp : ∀ Q : Int32 → xM → Prop, xI1 72 [.ref p, .int (nI i)] σ Q = Q (σ.1 (p + 1) (2 * i)) σ := fun Q => by rw [stonePlace_eq hp, ey]
      rw [s69_2]
      by_cases c : σ.1 (p + 1) (2 * i) = v
      · have hq := hQ1 ⟨i, by omega, c⟩
        rcases hp with rfl | rfl
        · simp only [s69_3, s69_4, s69_5_4, s69_5_7, s69_8, s69_11, s69_12, s69_13_4, s69_13_7, s69_16, s69_17, s69_20, s69_21, xcx_i, xcx_r, xcx_n, xcx_l, xcx_0, toldOf_eq (Or.inl rfl), ex, e, if_false, hsp, c, not_true, true_or, or_true, true_and]
          exact hq
        · simp only [s69_3, s69_4, s69_5_4, s69_5_7, s69_8, s69_11, s69_12, s69_13_4, s69_13_7, s69_16, s69_17, s69_20, s69_21, xcx_i, xcx_r, xcx_n, xcx_l, xcx_0, toldOf_eq (Or.inr rfl), ex, e, if_false, hsp, c, not_true, true_or, or_true, true_and]
          exact hq
      · have next := ih (i + 1) (by omega) (fun i' hi' => by
          rcases Nat.lt_or_eq_of_le (Nat.le_of_lt_succ hi') with z | z
          · exact hd i' z
          · subst z; exact c)
        rcases hp with rfl | rfl
        · simp only [s69_3, s69_4, s69_5_4, s69_5_7, s69_8, s69_11, s69_12, s69_13_4, s69_13_7, s69_16, s69_17, s69_20, s69_21, s69_22, s69_25, xcx_i, xcx_r, xcx_n, xcx_l, xcx_0, toldOf_eq (Or.inl rfl), ex, e, if_false, hsp, c, not_false_eq_true, if_true, nI_1, true_or, or_true, true_and]
          exact next
        · simp only [s69_3, s69_4, s69_5_4, s69_5_7, s69_8, s69_11, s69_12, s69_13_4, s69_13_7, s69_16, s69_17, s69_20, s69_21, s69_22, s69_25, xcx_i, xcx_r, xcx_n, xcx_l, xcx_0, toldOf_eq (Or.inr rfl), ex, e, if_false, hsp, c, not_false_eq_true, if_true, nI_1, true_or, or_true, true_and]
          exact next
  rw [e69]
  simp only [s69_0, s69_1, xcx_i, xcx_r, xcx_n, xcx_l, xcx_0]
  exact loop t 0 (by omega) (fun i' q => absurd q (Nat.not_lt_zero i'))
