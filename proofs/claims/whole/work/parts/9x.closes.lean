/-! the end of a row -/
theorem Mcloses {σ : xM} {n i : Nat} {bt : Nat → Nat} {Q : Int32 → xM → Prop} (h : txR σ n bt) (ht : tkR bt n i σ) (hi : i ≤ n) (hQ1 : ∀ τ, (i < n ∧ bt i = 59) → lxM σ τ → tkR bt n (runE isBl bt n (n - (i + 1)) (i + 1)) τ → Q 1 τ) (hQ0 : ¬ (i < n ∧ bt i = 59) → Q 0 σ) : xI1 168 [.ref 84] σ Q := by
  rw [e168]
  obtain ⟨k4, ⟨c, k3, k2⟩ | ⟨c, cl, k3, k2, k5⟩ | ⟨c, cd, k3, k2, k5⟩ | ⟨c, cl, cd, k3, k2⟩⟩ := ht
  · have hq := hQ0 (fun z => by omega)
    simp only [s168_0, s168_1, s168_4, s168_5, s168_8, s168_9, xcx_i, xcx_r, xcx_n, xcx_l, xcx_0, k3, show ((0 : Int32) = 3) = False from eq_false (by decide), if_false, true_or, or_true, true_and]
    exact hq
  · have hq := hQ0 (fun z => by rw [isLt_iff] at cl; omega)
    simp only [s168_0, s168_1, s168_4, s168_5, s168_8, s168_9, xcx_i, xcx_r, xcx_n, xcx_l, xcx_0, k3, show ((1 : Int32) = 3) = False from eq_false (by decide), if_false, true_or, or_true, true_and]
    exact hq
  · have hq := hQ0 (fun z => by rw [isDg_iff] at cd; omega)
    simp only [s168_0, s168_1, s168_4, s168_5, s168_8, s168_9, xcx_i, xcx_r, xcx_n, xcx_l, xcx_0, k3, show ((2 : Int32) = 3) = False from eq_false (by decide), if_false, true_or, or_true, true_and]
    exact hq
  · by_cases c59 : bt i = 59
    · rw [if_pos c59] at k3
      simp only [s168_0, s168_1, s168_4, s168_5, s168_8, s168_9, s168_10, s168_11, xcx_i, xcx_r, xcx_n, xcx_l, xcx_0, k3, if_true]
      refine Mleads h (show i + 1 ≤ n by omega) k2 (fun τ hm hk => ?_)
      have hq := hQ1 τ ⟨c, c59⟩ hm hk
      simp only [s168_14, s168_15, xcx_i, xcx_r, xcx_n, xcx_l, xcx_0, true_or, or_true, true_and]
      exact hq
    · rw [if_neg c59] at k3
      have hq := hQ0 (fun z => c59 z.2)
      simp only [s168_0, s168_1, s168_4, s168_5, s168_8, s168_9, xcx_i, xcx_r, xcx_n, xcx_l, xcx_0, k3, show ((4 : Int32) = 3) = False from eq_false (by decide), if_false, true_or, or_true, true_and]
      exact hq
theorem XbyteHere {σ : xM} {n i : Nat} {bt : Nat → Nat} {Q : Int32 → xM → Prop} (h : txt σ n bt) (hi : i ≤ n) (he : σ.1 2 2 = nI i) : xI1 94 [.ref 2] σ Q = Q (if i < n then nI (bt i) else -1) σ := by
  have hn := h.1
  rw [e94]
  by_cases c : i < n
  · have e := lt4N (n := n) (i := i) c (by omega)
    obtain ⟨b1, b2, b3⟩ := h.2.2.2 i c
    rw [if_pos c]
    simp only [s94_0, s94_1, s94_4, s94_5, s94_8, s94_11, s94_12, s94_15, s94_16, s94_19, s94_22, s94_25, s94_26, xcx_i, xcx_r, xcx_n, xcx_l, xcx_0, he, h.2.1, e, if_false, at_eq, xcl_3, xat3 (show i < 500 by omega), b1]
  · have e : (nI n ≤ nI i) = True := eq_true ((nI_leI (by omega) (by omega)).mpr (by omega))
    rw [if_neg c]
    simp only [s94_0, s94_1, s94_4, s94_5, s94_8, s94_11, s94_12, s94_15, s94_16, s94_19, s94_22, s94_25, s94_26, xcx_i, xcx_r, xcx_n, xcx_l, xcx_0, he, h.2.1, e, if_true]
