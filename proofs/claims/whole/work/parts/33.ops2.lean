/-! more calls that add a row, or take one away -/
theorem callsAdd_eq {σ : xM} {a b c d : Int32} {n : Nat} {Q : xM → Prop} (hn : σ.1 51 0 = nI n) (h6 : n < 6) : xV 27 [.ref 51, .int a, .int b, .int c, .int d] σ Q = Q (xe_si (xe_si (xe_si (xe_si (xe_si σ 53 n a) 54 n b) 55 n c) 56 n d) 51 0 (nI (n + 1))) := by
  rw [e27]
  simp only [s27_0, s27_1, s27_4, s27_5, s27_8, s27_9, s27_12, s27_13, s27_16, s27_17, s27_20, s27_21, s27_24, s27_25, s27_28, s27_29, s27_32, s27_33, s27_36, s27_37, s27_40, s27_41, s27_44, s27_46, s27_49, s27_50, s27_51, s27_54, s27_55, s27_56, s27_59, put_eq, xcl_53, xln_53, xcl_54, xln_54, xcl_55, xln_55, xcl_56, xln_56, hn, xpt_n, h6, si_rd, nI_1, Nat.reduceEqDiff, false_and, if_false]
theorem op_call (a b c : Int32) : xOp 125 208 [.int a, .int b, .int c] := by
  intro xs L σ hI
  obtain ⟨p, ns, nr, nd, ng, nt, hp, hpe, hb, ⟨hst, -⟩, ⟨hm0, -⟩⟩ := hI.1.get
  obtain ⟨n, hn6, k1, k2, hrow⟩ := hI.2.2.2.2.1
  have hn31 : n < 2147483648 := by omega
  have hns8 := hb.1
  have hns31 : ns < 2147483648 := by omega
  by_cases hc0 : c < 0
  · have hc1 : ¬ 0 ≤ c := Int32.not_le.mpr hc0
    have hx6 : ∀ Q : Int32 → xM → Prop, xI1 125 [.ref 0, .int a, .int b, .int c] σ Q = Q (-1) σ := by
      intro Q
      rw [e125]
      rcases hp with rfl | rfl <;> simp only [s125_0, s125_1, s125_4_4, s125_4_7, s125_7, s125_10, s125_11, s125_14, s125_17, s125_19, s125_22, s125_23, s125_24, s125_25, s125_26, s125_29, s125_32, s125_35, s125_36, s125_37, s125_39, s125_42, s125_45, s125_46, s125_47, s125_48, s125_49, s125_52, s125_55, s125_58, s125_59, s125_61, s125_62, s125_63, s125_66, s125_69, s125_72, s125_73, s125_75, s125_76, s125_77, s125_79, s125_82, s125_85, s125_86, s125_87, s125_88, s125_91, s125_92, s125_93, s125_94, s125_96, s125_97, s125_98, s125_100, s125_101, s125_104, s125_105, s125_108, s125_111, s125_112, s125_113, hpe, stands_eq, hst, within_eq, k1, xb_f, ite_not, nr_0, nl_6, hns31, hn31, hc1, false_and, if_false, ite_self, true_or, or_true]
    have hm6 : ∀ Q : Int32 → xM → Prop, xI1 208 [.ref 84, .int a, .int b, .int c] σ Q = Q (-1) σ := by
      intro Q
      rw [e208]
      simp only [s208_0, s208_1, s208_4, s208_7, s208_8, s208_9, s208_12, s208_15, s208_18, s208_19, s208_20, s208_22, s208_25, s208_28, s208_29, s208_32, s208_33, s208_35, s208_36, s208_37, s208_40, s208_43, s208_46, s208_47, s208_49, s208_50, s208_52, s208_55, s208_56, s208_59, s208_61, s208_64, s208_65, s208_66, s208_67, s208_70, s208_71, s208_72, s208_75, s208_76, s208_77, s208_78, s208_79, s208_82, s208_83, s208_84, s208_87, s208_88, s208_89, s208_90, s208_91, s208_92, s208_93, s208_96, s208_97, s208_98, s208_101, s208_102, s208_103, s208_104, s208_105, s208_107, s208_108, s208_109, s208_110, s208_113, s208_114, s208_115, s208_118, s208_119, s208_120, s208_121, s208_122, s208_124, s208_125, s208_126, s208_127, s208_128, s208_131, s208_132, s208_133, s208_136, s208_137, s208_140, s208_141, s208_142, in_eq, hm0, k2, xb_f, ite_not, nz_0, nq_6, hns31, hn31, hc0, if_true, ite_self]
    rw [hx6, hm6]
    exact ⟨rfl, hI⟩
  obtain ⟨k, hk, rfl⟩ := nI_of hc0
  have hk10 : k / 10 < 2147483648 := by omega
  have hkr : k % 10 < 2147483648 := by omega
  have hdiv : nI k / 10 = nI (k / 10) := pk_div (d := 10) hk (by decide) (by decide)
  have hrem : nI k - nI (k / 10) * 10 = nI (k % 10) := by
    have := pk_rem (d := 10) hk (by decide) (by decide)
    rw [← this, hdiv.symm]; rfl
  have h10 : ¬ (10 : Int32) = 0 := by decide
  have hp0 : (0 ≤ nI k) = True := eq_true (nI_pos' hk)
  have hp1 : (0 ≤ nI (k % 10)) = True := eq_true (nI_pos' hkr)
  have hp2 : (nI k < 0) = False := eq_false hc0
  by_cases h6 : n < 6
  · have hx : ∀ Q : Int32 → xM → Prop, xI1 125 [.ref 0, .int a, .int b, .int (nI k)] σ Q = (if 0 < ns ∧ (0 ≤ a ∧ a ≤ 999) ∧ (1 ≤ b ∧ b ≤ 20) ∧ k ≤ 2009 ∧ (1 ≤ k / 10 ∧ k / 10 ≤ 200) ∧ k % 10 ≤ 6 then Q (nI n) (xe_si (xe_si (xe_si (xe_si (xe_si σ 53 n a) 54 n b) 55 n (nI (k / 10))) 56 n (nI (k % 10))) 51 0 (nI (n + 1))) else Q (-1) σ) := by
      intro Q
      rw [e125]
      rcases hp with rfl | rfl <;> simp only [s125_0, s125_1, s125_4_4, s125_4_7, s125_7, s125_10, s125_11, s125_14, s125_17, s125_19, s125_22, s125_23, s125_24, s125_25, s125_26, s125_29, s125_32, s125_35, s125_36, s125_37, s125_39, s125_42, s125_45, s125_46, s125_47, s125_48, s125_49, s125_52, s125_55, s125_58, s125_59, s125_61, s125_62, s125_63, s125_66, s125_69, s125_72, s125_73, s125_75, s125_76, s125_77, s125_79, s125_82, s125_85, s125_86, s125_87, s125_88, s125_91, s125_92, s125_93, s125_94, s125_96, s125_97, s125_98, s125_100, s125_101, s125_104, s125_105, s125_108, s125_111, s125_112, s125_113, xcx_i, xcx_r, xcx_n, xcx_l, xcx_0, hpe, stands_eq, hst, within_eq, callsAdd_eq k1 h6, k1, xb_f, xb_n, ite_not, guard1, si_rd, and_self, if_true, if_false, true_or, or_true, nr_0, nl_6, nle_2009, nre_1, nle_200, nle_6, hn31, hns31, h6, hk, hk10, hkr, hdiv, hrem, h10, hp0, hp1, not_false_eq_true, true_and, nI_pred, Classical.not_not]
    have hm : ∀ (τ : xM) (Q : Int32 → xM → Prop), τ.1 84 17 = nI ns → τ.1 84 38 = nI n → xI1 208 [.ref 84, .int a, .int b, .int (nI k)] τ Q = (if 0 < ns ∧ (0 ≤ a ∧ a ≤ 999) ∧ (1 ≤ b ∧ b ≤ 20) ∧ (1 ≤ k / 10 ∧ k / 10 ≤ 200) ∧ ¬ 6 < k % 10 then Q (nI n) (xe_si (xe_si (xe_si (xe_si (xe_si τ 104 (4 * n) a) 104 (4 * n + 1) b) 104 (4 * n + 2) (nI (k / 10))) 104 (4 * n + 3) (nI (k % 10))) 84 38 (nI (n + 1))) else Q (-1) τ) := by
      intro τ Q h1 h2
      rw [e208]
      have b0 : 4 * n < 100000 := by omega
      have b1 : 4 * n + 1 < 100000 := by omega
      have b2 : 4 * n + 2 < 100000 := by omega
      have b3 : 4 * n + 3 < 100000 := by omega
      have c0 : 4 * n < 24 := by omega
      have c1 : 4 * n + 1 < 24 := by omega
      have c2 : 4 * n + 2 < 24 := by omega
      have c3 : 4 * n + 3 < 24 := by omega
      have hn6' : (n = 6) = False := eq_false (by omega)
      have flip : ∀ (q : Prop) [Decidable q] (X A : Prop), (if q then A else X) = if ¬ q then X else A := fun q _ X A => by by_cases h : q <;> simp [h]
      simp only [s208_0, s208_1, s208_4, s208_7, s208_8, s208_9, s208_12, s208_15, s208_18, s208_19, s208_20, s208_22, s208_25, s208_28, s208_29, s208_32, s208_33, s208_35, s208_36, s208_37, s208_40, s208_43, s208_46, s208_47, s208_49, s208_50, s208_52, s208_55, s208_56, s208_59, s208_61, s208_64, s208_65, s208_66, s208_67, s208_70, s208_71, s208_72, s208_75, s208_76, s208_77, s208_78, s208_79, s208_82, s208_83, s208_84, s208_87, s208_88, s208_89, s208_90, s208_91, s208_92, s208_93, s208_96, s208_97, s208_98, s208_101, s208_102, s208_103, s208_104, s208_105, s208_107, s208_108, s208_109, s208_110, s208_113, s208_114, s208_115, s208_118, s208_119, s208_120, s208_121, s208_122, s208_124, s208_125, s208_126, s208_127, s208_128, s208_131, s208_132, s208_133, s208_136, s208_137, s208_140, s208_141, s208_142, xcx_i, xcx_r, xcx_n, xcx_l, xcx_0, in_eq, h1, h2, xb_f, xb_n, ite_not, guard1, si_rd, and_self, if_true, if_false, true_or, or_true, true_and, nz_0, nq_6, nre_1, nle_200, hn31, hns31, hn6', hk, hk10, hkr, hdiv, hrem, h10, hp2, not_false_eq_true, nr_6, xcl_104, xln_104, ml_4, al_1, al_2, al_3, nI_pred, b0, b1, b2, b3, c0, c1, c2, c3, cl_s, pos_s, Nat.reduceEqDiff, false_and]
      rw [flip (6 < k % 10), guard1]
      simp only [and_assoc]
    rw [hx]
    by_cases hG : 0 < ns ∧ (0 ≤ a ∧ a ≤ 999) ∧ (1 ≤ b ∧ b ≤ 20) ∧ k ≤ 2009 ∧ (1 ≤ k / 10 ∧ k / 10 ≤ 200) ∧ k % 10 ≤ 6
    · have hG2 : 0 < ns ∧ (0 ≤ a ∧ a ≤ 999) ∧ (1 ≤ b ∧ b ≤ 20) ∧ (1 ≤ k / 10 ∧ k / 10 ≤ 200) ∧ ¬ 6 < k % 10 := ⟨hG.1, hG.2.1, hG.2.2.1, hG.2.2.2.2.1, by omega⟩
      rw [if_pos hG, hm (xe_si (xe_si (xe_si (xe_si (xe_si σ 53 n a) 54 n b) 55 n (nI (k / 10))) 56 n (nI (k % 10))) 51 0 (nI (n + 1))) _ hm0 k2, if_pos hG2]
      refine ⟨rfl, ⟨hI.1.fr ⟨rfl, rfl, rfl, rfl, rfl, rfl, rfl, rfl, rfl, rfl, rfl, rfl, rfl, rfl, rfl, rfl⟩, hI.2.1, hI.2.2.1, hI.2.2.2.1, ?_, hI.2.2.2.2.2.1, hI.2.2.2.2.2.2.1.fr hI.1 ⟨rfl, rfl, rfl, rfl, rfl, rfl, rfl, rfl, rfl, rfl, rfl, rfl, rfl, rfl, rfl, rfl⟩ ⟨rfl, rfl, rfl, rfl, rfl, rfl, rfl, rfl, rfl, rfl, rfl, rfl⟩, hI.2.2.2.2.2.2.2.1, hI.2.2.2.2.2.2.2.2.1, hI.2.2.2.2.2.2.2.2.2⟩⟩
      refine ⟨n + 1, by omega, rfl, rfl, fun i hi => ?_⟩
      rcases Nat.lt_or_eq_of_le (Nat.le_of_lt_succ hi) with q | q
      · have h := hrow i q
        have f0 : (i = n) = False := eq_false (by omega)
        have g00 : (4 * i = 4 * n) = False := eq_false (by omega)
        have g01 : (4 * i = 4 * n + 1) = False := eq_false (by omega)
        have g02 : (4 * i = 4 * n + 2) = False := eq_false (by omega)
        have g03 : (4 * i = 4 * n + 3) = False := eq_false (by omega)
        have g10 : (4 * i + 1 = 4 * n) = False := eq_false (by omega)
        have g11 : (4 * i + 1 = 4 * n + 1) = False := eq_false (by omega)
        have g12 : (4 * i + 1 = 4 * n + 2) = False := eq_false (by omega)
        have g13 : (4 * i + 1 = 4 * n + 3) = False := eq_false (by omega)
        have g20 : (4 * i + 2 = 4 * n) = False := eq_false (by omega)
        have g21 : (4 * i + 2 = 4 * n + 1) = False := eq_false (by omega)
        have g22 : (4 * i + 2 = 4 * n + 2) = False := eq_false (by omega)
        have g23 : (4 * i + 2 = 4 * n + 3) = False := eq_false (by omega)
        have g30 : (4 * i + 3 = 4 * n) = False := eq_false (by omega)
        have g31 : (4 * i + 3 = 4 * n + 1) = False := eq_false (by omega)
        have g32 : (4 * i + 3 = 4 * n + 2) = False := eq_false (by omega)
        have g33 : (4 * i + 3 = 4 * n + 3) = False := eq_false (by omega)
        simpa only [si_rd, Nat.reduceEqDiff, f0, g00, g01, g02, g03, g10, g11, g12, g13, g20, g21, g22, g23, g30, g31, g32, g33, and_false, false_and, if_false] using h
      · subst q
        have bd1 : bd (nI (k / 10)) 1 200 := by unfold bd; rw [nI_ti hk10]; omega
        have bd2 : bd (nI (k % 10)) 0 6 := by unfold bd; rw [nI_ti hkr]; omega
        have h := And.intro (bd_of hG.2.1) (And.intro (bd_of hG.2.2.1) (And.intro bd1 bd2))
        have g01 : (4 * i = 4 * i + 1) = False := eq_false (by omega)
        have g02 : (4 * i = 4 * i + 2) = False := eq_false (by omega)
        have g03 : (4 * i = 4 * i + 3) = False := eq_false (by omega)
        have g10 : (4 * i + 1 = 4 * i) = False := eq_false (by omega)
        have g12 : (4 * i + 1 = 4 * i + 2) = False := eq_false (by omega)
        have g13 : (4 * i + 1 = 4 * i + 3) = False := eq_false (by omega)
        have g20 : (4 * i + 2 = 4 * i) = False := eq_false (by omega)
        have g21 : (4 * i + 2 = 4 * i + 1) = False := eq_false (by omega)
        have g23 : (4 * i + 2 = 4 * i + 3) = False := eq_false (by omega)
        have g30 : (4 * i + 3 = 4 * i) = False := eq_false (by omega)
        have g31 : (4 * i + 3 = 4 * i + 1) = False := eq_false (by omega)
        have g32 : (4 * i + 3 = 4 * i + 2) = False := eq_false (by omega)
        simp only [si_rd, Nat.reduceEqDiff, g01, g02, g03, g10, g12, g13, g20, g21, g23, g30, g31, g32, and_false, false_and, and_self, if_false, if_true, true_and]
        exact h
    · have hG2 : ¬ (0 < ns ∧ (0 ≤ a ∧ a ≤ 999) ∧ (1 ≤ b ∧ b ≤ 20) ∧ (1 ≤ k / 10 ∧ k / 10 ≤ 200) ∧ ¬ 6 < k % 10) := fun q => hG ⟨q.1, q.2.1, q.2.2.1, by omega, q.2.2.2.1, by omega⟩
      rw [if_neg hG, hm _ _ hm0 k2, if_neg hG2]
      exact ⟨rfl, hI⟩
  · have h60 : (n < 6) = False := eq_false h6
    have h66 : (n = 6) = True := eq_true (by omega)
    have hx6 : ∀ Q : Int32 → xM → Prop, xI1 125 [.ref 0, .int a, .int b, .int (nI k)] σ Q = Q (-1) σ := by
      intro Q
      rw [e125]
      rcases hp with rfl | rfl <;> simp only [s125_0, s125_1, s125_4_4, s125_4_7, s125_7, s125_10, s125_11, s125_14, s125_17, s125_19, s125_22, s125_23, s125_24, s125_25, s125_26, s125_29, s125_32, s125_35, s125_36, s125_37, s125_39, s125_42, s125_45, s125_46, s125_47, s125_48, s125_49, s125_52, s125_55, s125_58, s125_59, s125_61, s125_62, s125_63, s125_66, s125_69, s125_72, s125_73, s125_75, s125_76, s125_77, s125_79, s125_82, s125_85, s125_86, s125_87, s125_88, s125_91, s125_92, s125_93, s125_94, s125_96, s125_97, s125_98, s125_100, s125_101, s125_104, s125_105, s125_108, s125_111, s125_112, s125_113, hpe, stands_eq, hst, k1, xb_f, ite_not, nr_0, nl_6, hns31, hn31, h60, if_false, ite_self, true_or, or_true]
    have hm6 : ∀ Q : Int32 → xM → Prop, xI1 208 [.ref 84, .int a, .int b, .int (nI k)] σ Q = Q (-1) σ := by
      intro Q
      rw [e208]
      simp only [s208_0, s208_1, s208_4, s208_7, s208_8, s208_9, s208_12, s208_15, s208_18, s208_19, s208_20, s208_22, s208_25, s208_28, s208_29, s208_32, s208_33, s208_35, s208_36, s208_37, s208_40, s208_43, s208_46, s208_47, s208_49, s208_50, s208_52, s208_55, s208_56, s208_59, s208_61, s208_64, s208_65, s208_66, s208_67, s208_70, s208_71, s208_72, s208_75, s208_76, s208_77, s208_78, s208_79, s208_82, s208_83, s208_84, s208_87, s208_88, s208_89, s208_90, s208_91, s208_92, s208_93, s208_96, s208_97, s208_98, s208_101, s208_102, s208_103, s208_104, s208_105, s208_107, s208_108, s208_109, s208_110, s208_113, s208_114, s208_115, s208_118, s208_119, s208_120, s208_121, s208_122, s208_124, s208_125, s208_126, s208_127, s208_128, s208_131, s208_132, s208_133, s208_136, s208_137, s208_140, s208_141, s208_142, in_eq, hm0, k2, xb_f, ite_not, nz_0, nq_6, hns31, hn31, h66, h10, not_false_eq_true, true_and, if_true, ite_self]
    rw [hx6, hm6]
    exact ⟨rfl, hI⟩
theorem op_letGo : xOp 116 184 [] := by
  intro xs L σ hI
  obtain ⟨n, hn6, k1, k2, h01, h28, hz, h1, hrow⟩ := hI.2.2.1
  have hn31 : n < 2147483648 := by omega
  rw [e116]
  by_cases hn1 : 1 ≤ n
  · obtain ⟨m, rfl⟩ : ∃ m, n = m + 1 := ⟨n - 1, by omega⟩
    have h0 : (0 < m + 1) = True := eq_true (by omega)
    simp only [s116_0, s116_1, s116_4_10, s116_4_17, s116_4_24, s116_4_31, s116_7, s116_8, s116_11, s116_12, s116_13, s116_14, s116_17, s116_18_10, s116_18_17, s116_18_24, s116_18_31, s116_21, s116_22, s116_23_10, s116_23_17, s116_23_24, s116_23_31, s116_26, s116_27, s116_30_10, s116_30_17, s116_30_24, s116_30_31, s116_33, k1, nre_1, hn31, hn1, if_true, nI_pred, si_rd, and_self]
    rw [e184]
    simp only [s184_0, s184_1, s184_4, s184_7, s184_8, s184_9, s184_10, s184_11, s184_14, s184_15, s184_16, s184_19, s184_20, s184_23, si_rd, Nat.reduceEqDiff, false_and, if_false, k2, nz_0, hn31, h0, not_true, not_false_eq_true, if_true, nI_pred, and_self]
    refine ⟨trivial, ⟨hI.1.fr ⟨rfl, rfl, rfl, rfl, rfl, rfl, rfl, rfl, rfl, rfl, rfl, rfl, rfl, rfl, rfl, rfl⟩, hI.2.1, ?_, hI.2.2.2.1, hI.2.2.2.2.1, hI.2.2.2.2.2.1, hI.2.2.2.2.2.2.1.fr hI.1 ⟨rfl, rfl, rfl, rfl, rfl, rfl, rfl, rfl, rfl, rfl, rfl, rfl, rfl, rfl, rfl, rfl⟩ ⟨rfl, rfl, rfl, rfl, rfl, rfl, rfl, rfl, rfl, rfl, rfl, rfl⟩, hI.2.2.2.2.2.2.2.1, hI.2.2.2.2.2.2.2.2.1, hI.2.2.2.2.2.2.2.2.2⟩⟩
    exact ⟨m, by omega, rfl, rfl, h01, h28, fun q => absurd (hz q) (by omega), h1, fun l hl => hrow l (by omega)⟩
  · obtain rfl : n = 0 := by omega
    simp only [s116_0, s116_1, s116_4_10, s116_4_17, s116_4_24, s116_4_31, s116_7, s116_8, s116_11, s116_12, s116_13, s116_14, s116_17, s116_18_10, s116_18_17, s116_18_24, s116_18_31, s116_21, s116_22, s116_23_10, s116_23_17, s116_23_24, s116_23_31, s116_26, s116_27, s116_30_10, s116_30_17, s116_30_24, s116_30_31, s116_33, k1, nre_1, hn31, hn1, if_false]
    rw [e184]
    simp only [s184_0, s184_1, s184_4, s184_7, s184_8, s184_9, s184_10, s184_11, s184_14, s184_15, s184_16, s184_19, s184_20, s184_23, k2, nz_0, hn31, Nat.lt_irrefl, not_true, not_false_eq_true, if_false]
    exact ⟨trivial, hI⟩
