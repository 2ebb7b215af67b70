/-! the reference's number -/
def lx5 (σ τ : xM) : Prop := (∀ k j, ¬ (k = 84 ∧ (j = 2 ∨ j = 3 ∨ j = 4 ∨ j = 51)) → τ.1 k j = σ.1 k j) ∧ τ.2.2 = σ.2.2
theorem lxM.to5 {σ τ : xM} (h : lxM σ τ) : lx5 σ τ := ⟨fun k j q => h.1 k j (fun z => q ⟨z.1, by omega⟩), h.2⟩
theorem lx5.tr {a b c : xM} (h1 : lx5 a b) (h2 : lx5 b c) : lx5 a c := ⟨fun k j q => (h2.1 k j q).trans (h1.1 k j q), h2.2.trans h1.2⟩
theorem lx5.txt {σ τ : xM} {n : Nat} {bt : Nat → Nat} (h : txR σ n bt) (hr : lx5 σ τ) : txR τ n bt := by
  obtain ⟨h1, h2, h3, h4⟩ := h
  refine ⟨h1, h2, (hr.1 84 1 (fun z => by omega)).trans h3, fun i hi => ?_⟩
  rw [hr.1 85 i (fun z => by omega)]
  exact h4 i hi
theorem lN_i32 {x : Nat} (h : x < 100000) : (lN x).toInt32 = nI x := by
  have e := i2l_nI (n := x) (by omega)
  rw [← e]
  exact Int32.toInt32_toInt64 _
theorem Mnumber {σ : xM} {n i lo hi : Nat} {bt : Nat → Nat} {Q : Int32 → xM → Prop} (h : txR σ n bt) (ht : tkR bt n i σ) (hi' : i ≤ n) (hlo : lo ≤ 9999) (hhi : hi ≤ 9999) (hQ1 : ∀ τ, ((lo : Int) ≤ nuA bt n i ∧ nuA bt n i ≤ hi) → lx5 σ τ → τ.1 84 51 = iI (nuA bt n i) → tkR bt n (runE isBl bt n (n - runE isDg bt n (n - i) i) (runE isDg bt n (n - i) i)) τ → Q 1 τ) (hQ0 : ¬ ((lo : Int) ≤ nuA bt n i ∧ nuA bt n i ≤ hi) → Q 0 σ) : xI1 167 [.ref 84, .int (nI lo), .int (nI hi)] σ Q := by
  have elo : (nI lo).toInt64 = lN lo := i2l_nI (by omega)
  have ehi : (nI hi).toInt64 = lN hi := i2l_nI (by omega)
  have no : (isDg (bt i) = false ∨ i = n) → Q 0 σ := fun z => hQ0 (by rw [(nuA_no hi' z).1]; omega)
  rw [e167]
  obtain ⟨k4, ⟨c, k3, k2⟩ | ⟨c, cl, k3, k2, k5⟩ | ⟨c, cd, k3, k2, k5⟩ | ⟨c, cl, cd, k3, k2⟩⟩ := ht
  · have hq := no (Or.inr c)
    simp only [s167_0, s167_1, s167_4, s167_5, s167_8, s167_9, s167_12, s167_13, s167_14, s167_15, s167_18, s167_19, s167_22, s167_23, s167_24, s167_25, s167_28, s167_29, xcx_i, xcx_r, xcx_n, xcx_l, xcx_0, k3, show ((0 : Int32) = 2) = False from eq_false (by decide), not_false_eq_true, if_true, true_or, or_true, true_and]
    exact hq
  · have fd : isDg (bt i) = false := by
      cases hz : isDg (bt i) with
      | false => rfl
      | true => rw [isDg_iff] at hz; rw [isLt_iff] at cl; omega
    have hq := no (Or.inl fd)
    simp only [s167_0, s167_1, s167_4, s167_5, s167_8, s167_9, s167_12, s167_13, s167_14, s167_15, s167_18, s167_19, s167_22, s167_23, s167_24, s167_25, s167_28, s167_29, xcx_i, xcx_r, xcx_n, xcx_l, xcx_0, k3, show ((1 : Int32) = 2) = False from eq_false (by decide), not_false_eq_true, if_true, true_or, or_true, true_and]
    exact hq
  · have hr := nuA_dg c cd
    obtain ⟨g1, g2, -, -⟩ := runE_bd (P := isDg) (bt := bt) (n := n) (n - i) i (by omega)
    generalize dvE bt (runE isDg bt n (n - i) i - i) i 0 = v at k5 hr
    have hv : v ≤ 99999 := by rcases hr with ⟨-, q⟩ | ⟨-, -, q⟩ <;> omega
    have cmp1 : (lg_cmp (lN v) (lN lo) < 0) = (v < lo) := by
      apply propext
      rw [lg_cmp_lt, Int64.lt_iff_toInt_lt, lN_ti (by omega), lN_ti (by omega)]
      omega
    have cmp2 : (lg_cmp (lN v) (lN hi) ≤ 0) = (v ≤ hi) := by
      apply propext
      rw [lg_cmp_le, Int64.le_iff_toInt_le, lN_ti (by omega), lN_ti (by omega)]
      omega
    by_cases c1 : v < lo
    · have hq := hQ0 (by rcases hr with ⟨q, -⟩ | ⟨q, -, -⟩ <;> omega)
      simp only [s167_0, s167_1, s167_4, s167_5, s167_8, s167_9, s167_12, s167_13, s167_14, s167_15, s167_18, s167_19, s167_22, s167_23, s167_24, s167_25, s167_28, s167_29, xcx_i, xcx_r, xcx_n, xcx_l, xcx_0, k3, not_true, if_false, k5, elo, cmp1, c1, if_true, true_or, or_true, true_and]
      exact hq
    · by_cases c2 : v ≤ hi
      · have ev : nuA bt n i = v := by rcases hr with ⟨q, -⟩ | ⟨q, q2, -⟩ <;> omega
        have e32 : (lN v).toInt32 = iI (nuA bt n i) := by rw [lN_i32 (by omega), nI_iI, ev]
        have hl5 : lx5 σ (xe_si σ 84 51 (iI (nuA bt n i))) := ⟨fun k j q => by rw [si_rd, if_neg (fun z => q ⟨z.1, by omega⟩)], rfl⟩
        simp only [s167_0, s167_1, s167_4, s167_5, s167_8, s167_9, s167_12, s167_13, s167_14, s167_15, s167_18, s167_19, s167_22, s167_23, s167_24, s167_25, s167_28, s167_29, s167_30, s167_31, s167_32, s167_35, s167_36, s167_39, s167_40, xcx_i, xcx_r, xcx_n, xcx_l, xcx_0, k3, not_true, if_false, k5, elo, ehi, cmp1, cmp2, c1, c2, if_true, e32]
        refine Mleads (lx5.txt h hl5) g2 (by rw [si_rd, if_neg (fun z => by omega)]; exact k2) (fun τ hm hk => ?_)
        have hq := hQ1 τ (by rw [ev]; omega) (hl5.tr hm.to5) ((hm.1 84 51 (fun z => by omega)).trans (by rw [si_rd, if_pos ⟨rfl, rfl⟩])) hk
        simp only [s167_43, s167_44, xcx_i, xcx_r, xcx_n, xcx_l, xcx_0, true_or, or_true, true_and]
        exact hq
      · have hq := hQ0 (by rcases hr with ⟨q, -⟩ | ⟨q, q2, -⟩ <;> omega)
        simp only [s167_0, s167_1, s167_4, s167_5, s167_8, s167_9, s167_12, s167_13, s167_14, s167_15, s167_18, s167_19, s167_22, s167_23, s167_24, s167_25, s167_28, s167_29, xcx_i, xcx_r, xcx_n, xcx_l, xcx_0, k3, not_true, if_false, k5, elo, ehi, cmp1, cmp2, c1, c2, true_or, or_true, true_and]
        exact hq
  · have hq := no (Or.inl cd)
    have k3' : (σ.1 84 3 = 2) = False := eq_false (fun q => by
      rw [k3] at q
      by_cases z : bt i = 59
      · rw [if_pos z] at q; exact absurd q (by decide)
      · rw [if_neg z] at q; exact absurd q (by decide))
    simp only [s167_0, s167_1, s167_4, s167_5, s167_8, s167_9, s167_12, s167_13, s167_14, s167_15, s167_18, s167_19, s167_22, s167_23, s167_24, s167_25, s167_28, s167_29, xcx_i, xcx_r, xcx_n, xcx_l, xcx_0, k3', not_false_eq_true, if_true, true_or, or_true, true_and]
    exact hq
