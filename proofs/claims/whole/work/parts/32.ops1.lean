/-! calls that add a row, or take one away -/
theorem gP.get {σ : xM} (h : gP σ) : ∃ p ns nr nd ng nt : Nat, (p = 4 ∨ p = 7) ∧ σ.2.2 1 = p ∧ (ns ≤ 8 ∧ nr ≤ 4 ∧ nd ≤ 4 ∧ ng ≤ 4 ∧ nt ≤ 6 ∧ (ns = 0 → nr = 0 ∧ nd = 0 ∧ ng = 0 ∧ nt = 0)) ∧ (xat σ (p + 2) 0 = nI ns ∧ xat σ (p + 2) 1 = nI nr ∧ xat σ (p + 2) 2 = nI nd ∧ xat σ (p + 2) 4 = nI ng ∧ xat σ (p + 1) 50 = nI nt) ∧ (σ.1 84 17 = nI ns ∧ σ.1 84 19 = nI nr ∧ σ.1 84 21 = nI nd ∧ σ.1 84 23 = nI ng ∧ σ.1 84 25 = nI nt) := by
  have hp := gP_cases h
  obtain ⟨hpp, ns, nr, nd, ng, nt, hb, hT, hm, -⟩ := h
  refine ⟨σ.2.2 1, ns, nr, nd, ng, nt, hp, rfl, hb, ?_, hm⟩
  rcases hp with h | h
  · rw [h] at hT ⊢
    exact ⟨(xat_6 (i := 0) (by decide)).trans hT.1, (xat_6 (i := 1) (by decide)).trans hT.2.1, (xat_6 (i := 2) (by decide)).trans hT.2.2.1, (xat_6 (i := 4) (by decide)).trans hT.2.2.2.1, (xat_n (k := 5) (i := 50) (by rw [xln_5]; decide)).trans hT.2.2.2.2⟩
  · rw [h] at hT ⊢
    exact ⟨(xat_9 (i := 0) (by decide)).trans hT.1, (xat_9 (i := 1) (by decide)).trans hT.2.1, (xat_9 (i := 2) (by decide)).trans hT.2.2.1, (xat_9 (i := 4) (by decide)).trans hT.2.2.2.1, (xat_n (k := 8) (i := 50) (by rw [xln_8]; decide)).trans hT.2.2.2.2⟩
theorem mayBlow_eq {h w s : Int32} {σ : xM} {Q : Int32 → xM → Prop} : xI1 150 [.int h, .int w, .int s] σ Q = Q (xb ((0 ≤ h ∧ h ≤ 99) ∧ (0 ≤ w ∧ w ≤ 999) ∧ (-99 ≤ s ∧ s ≤ 99))) σ := by
  rw [e150]
  simp only [s150_0, s150_1, s150_2, s150_4, s150_7, s150_10, s150_11, s150_12, s150_15, s150_18, s150_21, s150_22, s150_24, s150_26, s150_29, s150_32, s150_33, s150_36, s150_37, within_eq, xb_f, ite_not, guard1, true_or, or_true, true_and, qif (Q := Q)]
  rfl
theorem logAdd_eq {σ : xM} {a b c : Int32} {n : Nat} {Q : xM → Prop} (hn : σ.1 80 0 = nI n) (h6 : n < 12) : xV 40 [.ref 80, .int a, .int b, .int c] σ Q = Q (xe_si (xe_si (xe_si (xe_si σ 81 n a) 82 n b) 83 n c) 80 0 (nI (n + 1))) := by
  rw [e40]
  simp only [s40_0, s40_1, s40_4, s40_5, s40_8, s40_9, s40_12, s40_13, s40_16, s40_17, s40_20, s40_21, s40_24, s40_25, s40_28, s40_29, s40_32, s40_33, s40_36, s40_37, s40_38, s40_41, s40_42, s40_43, s40_46, put_eq, xcl_81, xln_81, xcl_82, xln_82, xcl_83, xln_83, hn, xpt_n, h6, si_rd, nI_1, Nat.reduceEqDiff, false_and, if_false]
theorem op_weather (a b c : Int32) : xOp 143 240 [.int a, .int b, .int c] := by
  intro xs L σ hI
  obtain ⟨p, ns, nr, nd, ng, nt, hp, hpe, hb, ⟨hst, -⟩, ⟨hm0, -⟩⟩ := hI.1.get
  obtain ⟨n, hn6, k1, k2, hrow⟩ := hI.2.2.2.2.2.2.2.2.1
  have hn31 : n < 2147483648 := by omega
  have hns31 : ns < 2147483648 := by omega
  have hns8 := hb.1
  by_cases h6 : n < 12
  · have hx : ∀ Q : Int32 → xM → Prop, xI1 143 [.ref 0, .int a, .int b, .int c] σ Q = (if 0 < ns ∧ (0 ≤ a ∧ a ≤ 99) ∧ (0 ≤ b ∧ b ≤ 999) ∧ (-99 ≤ c ∧ c ≤ 99) then Q (nI (n + 1)) (xe_si (xe_si (xe_si (xe_si σ 81 n a) 82 n b) 83 n c) 80 0 (nI (n + 1))) else Q (-1) σ) := by
      intro Q
      have h12 : ¬ 12 ≤ n := by omega
      rw [e143]
      rcases hp with rfl | rfl <;> simp only [s143_0, s143_1, s143_4_4, s143_4_7, s143_7, s143_10, s143_11, s143_14, s143_17, s143_19, s143_22, s143_23, s143_24, s143_25, s143_28, s143_31, s143_32, s143_33, s143_34, s143_37, s143_38, s143_39, s143_40, s143_43, s143_44, s143_47, s143_50, hpe, stands_eq, hst, mayBlow_eq, logAdd_eq k1 h6, k1, xb_f, xb_n, ite_not, guard1, si_rd, and_self, if_true, if_false, true_or, or_true, nr_0, nre_12, hn31, hns31, h12, true_and]
    have hm : ∀ (τ : xM) (Q : Int32 → xM → Prop), τ.1 84 17 = nI ns → τ.1 84 49 = nI n → xI1 240 [.ref 84, .int a, .int b, .int c] τ Q = (if 0 < ns ∧ (0 ≤ a ∧ a ≤ 99) ∧ (0 ≤ b ∧ b ≤ 999) ∧ (-99 ≤ c ∧ c ≤ 99) then Q (nI (n + 1)) (xe_si (xe_si (xe_si (xe_si τ 111 (3 * n) a) 111 (3 * n + 1) b) 111 (3 * n + 2) c) 84 49 (nI (n + 1))) else Q (-1) τ) := by
      intro τ Q h1 h2
      rw [e240]
      have b0 : 3 * n < 100000 := by omega
      have b1 : 3 * n + 1 < 100000 := by omega
      have b2 : 3 * n + 2 < 100000 := by omega
      have c0 : 3 * n < 36 := by omega
      have c1 : 3 * n + 1 < 36 := by omega
      have c2 : 3 * n + 2 < 36 := by omega
      have hn6' : (n = 12) = False := eq_false (by omega)
      simp only [s240_0, s240_1, s240_4, s240_7, s240_8, s240_9, s240_11, s240_14, s240_17, s240_18, s240_19, s240_22, s240_25, s240_28, s240_29, s240_31, s240_33, s240_36, s240_39, s240_40, s240_43, s240_45, s240_48, s240_49, s240_50, s240_51, s240_54, s240_55, s240_56, s240_59, s240_60, s240_61, s240_62, s240_63, s240_66, s240_67, s240_68, s240_71, s240_72, s240_73, s240_74, s240_75, s240_76, s240_77, s240_80, s240_81, s240_82, s240_85, s240_86, s240_87, s240_88, s240_89, s240_90, s240_91, s240_92, s240_95, s240_96, s240_97, s240_100, s240_101, s240_104, in_eq, h1, h2, xb_f, xb_n, ite_not, guard1, si_rd, and_self, if_true, if_false, true_or, or_true, true_and, nz_0, nq_12, hn31, hns31, hn6', xcl_111, xln_111, ml_3, al_1, al_2, b0, b1, b2, c0, c1, c2, cl_s, pos_s, Nat.reduceEqDiff, false_and]
    rw [hx]
    by_cases hG : 0 < ns ∧ (0 ≤ a ∧ a ≤ 99) ∧ (0 ≤ b ∧ b ≤ 999) ∧ (-99 ≤ c ∧ c ≤ 99)
    · rw [if_pos hG, hm (xe_si (xe_si (xe_si (xe_si σ 81 n a) 82 n b) 83 n c) 80 0 (nI (n + 1))) _ hm0 k2, if_pos hG]
      refine ⟨rfl, ⟨hI.1.fr ⟨rfl, rfl, rfl, rfl, rfl, rfl, rfl, rfl, rfl, rfl, rfl, rfl, rfl, rfl, rfl, rfl⟩, hI.2.1, hI.2.2.1, hI.2.2.2.1, hI.2.2.2.2.1, hI.2.2.2.2.2.1, hI.2.2.2.2.2.2.1.fr hI.1 ⟨rfl, rfl, rfl, rfl, rfl, rfl, rfl, rfl, rfl, rfl, rfl, rfl, rfl, rfl, rfl, rfl⟩ ⟨rfl, rfl, rfl, rfl, rfl, rfl, rfl, rfl, rfl, rfl, rfl, rfl⟩, hI.2.2.2.2.2.2.2.1, ?_, hI.2.2.2.2.2.2.2.2.2⟩⟩
      refine ⟨n + 1, by omega, rfl, rfl, fun i hi => ?_⟩
      rcases Nat.lt_or_eq_of_le (Nat.le_of_lt_succ hi) with q | q
      · have h := hrow i q
        have f0 : (i = n) = False := eq_false (by omega)
        have g00 : (3 * i = 3 * n) = False := eq_false (by omega)
        have g01 : (3 * i = 3 * n + 1) = False := eq_false (by omega)
        have g02 : (3 * i = 3 * n + 2) = False := eq_false (by omega)
        have g10 : (3 * i + 1 = 3 * n) = False := eq_false (by omega)
        have g11 : (3 * i + 1 = 3 * n + 1) = False := eq_false (by omega)
        have g12 : (3 * i + 1 = 3 * n + 2) = False := eq_false (by omega)
        have g20 : (3 * i + 2 = 3 * n) = False := eq_false (by omega)
        have g21 : (3 * i + 2 = 3 * n + 1) = False := eq_false (by omega)
        have g22 : (3 * i + 2 = 3 * n + 2) = False := eq_false (by omega)
        simpa only [si_rd, Nat.reduceEqDiff, f0, g00, g01, g02, g10, g11, g12, g20, g21, g22, and_false, false_and, if_false] using h
      · subst q
        have h := And.intro (bd_of hG.2.1) (And.intro (bd_of hG.2.2.1) (bd_of hG.2.2.2))
        have g01 : (3 * i = 3 * i + 1) = False := eq_false (by omega)
        have g02 : (3 * i = 3 * i + 2) = False := eq_false (by omega)
        have g10 : (3 * i + 1 = 3 * i) = False := eq_false (by omega)
        have g12 : (3 * i + 1 = 3 * i + 2) = False := eq_false (by omega)
        have g20 : (3 * i + 2 = 3 * i) = False := eq_false (by omega)
        have g21 : (3 * i + 2 = 3 * i + 1) = False := eq_false (by omega)
        simp only [si_rd, Nat.reduceEqDiff, g01, g02, g10, g12, g20, g21, and_false, false_and, and_self, if_false, if_true, true_and]
        exact h
    · rw [if_neg hG, hm _ _ hm0 k2, if_neg hG]
      exact ⟨rfl, hI⟩
  · have h60 : (12 ≤ n) = True := eq_true (by omega)
    have h66 : (n = 12) = True := eq_true (by omega)
    have hx6 : ∀ Q : Int32 → xM → Prop, xI1 143 [.ref 0, .int a, .int b, .int c] σ Q = Q (-1) σ := by
      intro Q
      rw [e143]
      rcases hp with rfl | rfl <;> simp only [s143_0, s143_1, s143_4_4, s143_4_7, s143_7, s143_10, s143_11, s143_14, s143_17, s143_19, s143_22, s143_23, s143_24, s143_25, s143_28, s143_31, s143_32, s143_33, s143_34, s143_37, s143_38, s143_39, s143_40, s143_43, s143_44, s143_47, s143_50, hpe, stands_eq, hst, k1, xb_f, ite_not, nr_0, nre_12, hns31, hn31, h60, if_true, ite_self, true_or, or_true]
    have hm6 : ∀ Q : Int32 → xM → Prop, xI1 240 [.ref 84, .int a, .int b, .int c] σ Q = Q (-1) σ := by
      intro Q
      rw [e240]
      simp only [s240_0, s240_1, s240_4, s240_7, s240_8, s240_9, s240_11, s240_14, s240_17, s240_18, s240_19, s240_22, s240_25, s240_28, s240_29, s240_31, s240_33, s240_36, s240_39, s240_40, s240_43, s240_45, s240_48, s240_49, s240_50, s240_51, s240_54, s240_55, s240_56, s240_59, s240_60, s240_61, s240_62, s240_63, s240_66, s240_67, s240_68, s240_71, s240_72, s240_73, s240_74, s240_75, s240_76, s240_77, s240_80, s240_81, s240_82, s240_85, s240_86, s240_87, s240_88, s240_89, s240_90, s240_91, s240_92, s240_95, s240_96, s240_97, s240_100, s240_101, s240_104, in_eq, hm0, k2, xb_f, ite_not, nz_0, nq_12, hns31, hn31, h66, if_true, ite_self]
    rw [hx6, hm6]
    exact ⟨rfl, hI⟩
theorem op_undo : xOp 130 218 [] := by
  intro xs L σ hI
  obtain ⟨n, hn6, k1, k2, hrow⟩ := hI.2.2.2.2.2.1
  have hn31 : n < 2147483648 := by omega
  rw [e130]
  by_cases h1 : 1 ≤ n
  · obtain ⟨m, rfl⟩ : ∃ m, n = m + 1 := ⟨n - 1, by omega⟩
    have h0 : (0 < m + 1) = True := eq_true (by omega)
    simp only [s130_0, s130_1, s130_4, s130_7, s130_8, s130_11, s130_12, s130_13, s130_14, s130_17, s130_18, s130_21, s130_22, s130_23, s130_26, s130_27, s130_30, s130_33, k1, nre_1, hn31, h1, if_true, nI_pred, si_rd, and_self]
    rw [e218]
    simp only [s218_0, s218_1, s218_4, s218_7, s218_8, s218_9, s218_10, s218_11, s218_14, s218_15, s218_16, s218_19, s218_20, s218_23, si_rd, Nat.reduceEqDiff, false_and, if_false, k2, nz_0, hn31, h0, not_true, not_false_eq_true, if_true, nI_pred, and_self]
    refine ⟨trivial, ⟨hI.1.fr ⟨rfl, rfl, rfl, rfl, rfl, rfl, rfl, rfl, rfl, rfl, rfl, rfl, rfl, rfl, rfl, rfl⟩, hI.2.1, hI.2.2.1, hI.2.2.2.1, hI.2.2.2.2.1, ?_, hI.2.2.2.2.2.2.1.fr hI.1 ⟨rfl, rfl, rfl, rfl, rfl, rfl, rfl, rfl, rfl, rfl, rfl, rfl, rfl, rfl, rfl, rfl⟩ ⟨rfl, rfl, rfl, rfl, rfl, rfl, rfl, rfl, rfl, rfl, rfl, rfl⟩, hI.2.2.2.2.2.2.2.1, hI.2.2.2.2.2.2.2.2.1, hI.2.2.2.2.2.2.2.2.2⟩⟩
    exact ⟨m, by omega, rfl, rfl, fun i hi => hrow i (by omega)⟩
  · obtain rfl : n = 0 := by omega
    simp only [s130_0, s130_1, s130_4, s130_7, s130_8, s130_11, s130_12, s130_13, s130_14, s130_17, s130_18, s130_21, s130_22, s130_23, s130_26, s130_27, s130_30, s130_33, k1, nre_1, hn31, h1, if_false]
    rw [e218]
    simp only [s218_0, s218_1, s218_4, s218_7, s218_8, s218_9, s218_10, s218_11, s218_14, s218_15, s218_16, s218_19, s218_20, s218_23, k2, nz_0, hn31, Nat.lt_irrefl, not_true, not_false_eq_true, if_false]
    exact ⟨trivial, hI⟩
theorem op_end (a : Int32) : ∀ (xs : Nat → Int32) (L : Nat) (σ : xM), xInv xs L σ → xI1 110 [.ref 0, .int a] σ (fun r σ1 => xI1 161 [.ref 84, .int a] σ1 (fun r2 σ2 => r = r2 ∧ xInv xs L σ2)) := by
  intro xs L σ hI
  obtain ⟨n, hn6, k1, k2, hrow⟩ := hI.2.1
  have hn31 : n < 2147483648 := by omega
  rw [e110]
  simp only [s110_0, s110_1, s110_2, s110_3, s110_6, s110_9, s110_12, s110_15, s110_16, s110_17, s110_18, s110_21, s110_22, s110_25, s110_26, within_eq, k1, xb_f, ite_not, true_or, or_true, true_and]
  by_cases hG : 0 ≤ a ∧ a ≤ nI n
  · rw [if_pos hG, e161]
    simp only [s161_0, s161_1, s161_2, s161_3, s161_6, s161_9, s161_12, s161_13, s161_14, s161_15, s161_16, s161_19, s161_20, in_eq, si_rd, Nat.reduceEqDiff, false_and, if_false, k2, xb_f, ite_not, true_or, or_true, true_and, if_pos hG]
    refine ⟨hI.1.fr ⟨rfl, rfl, rfl, rfl, rfl, rfl, rfl, rfl, rfl, rfl, rfl, rfl, rfl, rfl, rfl, rfl⟩, ?_, hI.2.2.1, hI.2.2.2.1, hI.2.2.2.2.1, hI.2.2.2.2.2.1, hI.2.2.2.2.2.2.1.fr hI.1 ⟨rfl, rfl, rfl, rfl, rfl, rfl, rfl, rfl, rfl, rfl, rfl, rfl, rfl, rfl, rfl, rfl⟩ ⟨rfl, rfl, rfl, rfl, rfl, rfl, rfl, rfl, rfl, rfl, rfl, rfl⟩, hI.2.2.2.2.2.2.2.1, hI.2.2.2.2.2.2.2.2.1, hI.2.2.2.2.2.2.2.2.2⟩
    obtain ⟨m, hm, rfl⟩ := nI_of (Int32.not_lt.mpr hG.1)
    have hle := (nI_leI hm hn31).mp hG.2
    exact ⟨m, by omega, rfl, rfl, fun i hi => hrow i (by omega)⟩
  · rw [if_neg hG, e161]
    simp only [s161_0, s161_1, s161_2, s161_3, s161_6, s161_9, s161_12, s161_13, s161_14, s161_15, s161_16, s161_19, s161_20, in_eq, k2, xb_f, ite_not, true_or, or_true, true_and, if_neg hG]
    exact hI
