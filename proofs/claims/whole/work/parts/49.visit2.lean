/-! visit -/
def mV (τ : xM) (n a b c d : Nat) : xM := xe_si (xe_si (xe_si (xe_si (xe_si (xe_si τ 107 (4 * n) (nI a)) 107 (4 * n + 1) (nI b)) 107 (4 * n + 2) (nI c)) 107 (4 * n + 3) (nI d)) 109 n (-1)) 84 43 (nI (n + 1))
theorem op_visit (a b : Int32) : xOp 134 224 [.int a, .int b] := by
  intro xs L σ hI
  obtain ⟨p, ns, nr, nd, ng, nt, hp, hpe, hb, ⟨hst, -⟩, ⟨hm0, -⟩⟩ := hI.1.get
  obtain ⟨p', nd', dp, wa, hB, hld⟩ := hI.1.toB
  obtain rfl : p' = p := hB.2.1.symm.trans hpe
  obtain ⟨n, hn5, k1, k2, hrow⟩ := hI.2.2.2.2.2.2.1
  have hns8 := hb.1
  have hns31 : ns < 2147483648 := by omega
  have hn31 : n < 2147483648 := by omega
  have h100 : ¬ (100 : Int32) = 0 := by decide
  have fail : (¬ (0 < ns ∧ n < 5 ∧ 0 ≤ a ∧ 0 ≤ b)) → xI1 134 (.ref 0 :: [.int a, .int b]) σ (fun r σ1 => xI1 224 (.ref 84 :: [.int a, .int b]) σ1 (fun r2 σ2 => r = r2 ∧ xInv xs L σ2)) := by
    intro hf
    have hx : ∀ Q : Int32 → xM → Prop, xI1 134 [.ref 0, .int a, .int b] σ Q = Q (-1) σ := by
      intro Q
      by_cases c1 : 0 < ns
      · by_cases c2 : n < 5
        · by_cases c3 : 0 ≤ a
          · have c4 : b < 0 := Int32.not_le.mp (fun q => hf ⟨c1, c2, c3, q⟩)
            have c5 := neg_rem100 c4
            rw [e134]
            rcases hp with rfl | rfl <;> simp only [s134_0, s134_1, s134_4_4, s134_4_7, s134_7, s134_10, s134_11, s134_14, s134_17, s134_18, s134_21, s134_22, s134_23, s134_24, s134_26, s134_27, s134_29, s134_32, s134_35, s134_38, s134_39, s134_41, s134_42, s134_43, s134_45, s134_48, s134_51, s134_52, s134_53, s134_54, s134_56, s134_57, s134_58, s134_60, s134_63, s134_66, s134_67, s134_69, s134_70, s134_71, s134_73, s134_76, s134_79, s134_80, s134_81, s134_82, s134_85, s134_86, s134_89, s134_90, s134_91, s134_94, s134_95, s134_98, s134_101, s134_102, s134_103, xcx_i, xcx_r, xcx_n, xcx_l, xcx_0, hpe, stands_eq, hst, within_eq, k1, xb_f, ite_not, nr_0, nl_5, hns31, hn31, c1, c2, c5, h100, not_false_eq_true, true_and, false_and, if_true, if_false, ite_self, true_or, or_true]
          · have c4 := neg_div100 (Int32.not_le.mp c3)
            rw [e134]
            rcases hp with rfl | rfl <;> simp only [s134_0, s134_1, s134_4_4, s134_4_7, s134_7, s134_10, s134_11, s134_14, s134_17, s134_18, s134_21, s134_22, s134_23, s134_24, s134_26, s134_27, s134_29, s134_32, s134_35, s134_38, s134_39, s134_41, s134_42, s134_43, s134_45, s134_48, s134_51, s134_52, s134_53, s134_54, s134_56, s134_57, s134_58, s134_60, s134_63, s134_66, s134_67, s134_69, s134_70, s134_71, s134_73, s134_76, s134_79, s134_80, s134_81, s134_82, s134_85, s134_86, s134_89, s134_90, s134_91, s134_94, s134_95, s134_98, s134_101, s134_102, s134_103, xcx_i, xcx_r, xcx_n, xcx_l, xcx_0, hpe, stands_eq, hst, within_eq, k1, xb_f, ite_not, nr_0, nl_5, hns31, hn31, c1, c2, c4, h100, not_false_eq_true, true_and, false_and, if_true, if_false, ite_self, true_or, or_true]
        · rw [e134]
          rcases hp with rfl | rfl <;> simp only [s134_0, s134_1, s134_4_4, s134_4_7, s134_7, s134_10, s134_11, s134_14, s134_17, s134_18, s134_21, s134_22, s134_23, s134_24, s134_26, s134_27, s134_29, s134_32, s134_35, s134_38, s134_39, s134_41, s134_42, s134_43, s134_45, s134_48, s134_51, s134_52, s134_53, s134_54, s134_56, s134_57, s134_58, s134_60, s134_63, s134_66, s134_67, s134_69, s134_70, s134_71, s134_73, s134_76, s134_79, s134_80, s134_81, s134_82, s134_85, s134_86, s134_89, s134_90, s134_91, s134_94, s134_95, s134_98, s134_101, s134_102, s134_103, xcx_i, xcx_r, xcx_n, xcx_l, xcx_0, hpe, stands_eq, hst, within_eq, k1, xb_f, ite_not, nr_0, nl_5, hns31, hn31, c1, c2, h100, not_false_eq_true, true_and, false_and, if_true, if_false, ite_self, true_or, or_true]
      · rw [e134]
        rcases hp with rfl | rfl <;> simp only [s134_0, s134_1, s134_4_4, s134_4_7, s134_7, s134_10, s134_11, s134_14, s134_17, s134_18, s134_21, s134_22, s134_23, s134_24, s134_26, s134_27, s134_29, s134_32, s134_35, s134_38, s134_39, s134_41, s134_42, s134_43, s134_45, s134_48, s134_51, s134_52, s134_53, s134_54, s134_56, s134_57, s134_58, s134_60, s134_63, s134_66, s134_67, s134_69, s134_70, s134_71, s134_73, s134_76, s134_79, s134_80, s134_81, s134_82, s134_85, s134_86, s134_89, s134_90, s134_91, s134_94, s134_95, s134_98, s134_101, s134_102, s134_103, xcx_i, xcx_r, xcx_n, xcx_l, xcx_0, hpe, stands_eq, hst, within_eq, k1, xb_f, ite_not, nr_0, nl_5, hns31, hn31, c1, h100, not_false_eq_true, true_and, false_and, if_true, if_false, ite_self, true_or, or_true]
    have hm : ∀ Q : Int32 → xM → Prop, xI1 224 [.ref 84, .int a, .int b] σ Q = Q (-1) σ := by
      intro Q
      rw [e224]
      by_cases c1 : 0 < ns
      · by_cases c3 : 0 ≤ a
        · have c3' : (a < 0) = False := eq_false (Int32.not_lt.mpr c3)
          by_cases c4 : 0 ≤ b
          · have c4' : (b < 0) = False := eq_false (Int32.not_lt.mpr c4)
            have c2 : (n = 5) = True := eq_true (by rcases Nat.lt_or_ge n 5 with q | q; exact absurd ⟨c1, q, c3, c4⟩ hf; omega)
            simp only [s224_0, s224_1, s224_4, s224_7, s224_8, s224_11, s224_12, s224_15, s224_16, s224_18, s224_19, s224_21, s224_24, s224_27, s224_30, s224_31, s224_33, s224_34, s224_35, s224_37, s224_40, s224_43, s224_44, s224_46, s224_47, s224_48, s224_50, s224_53, s224_56, s224_57, s224_59, s224_60, s224_61, s224_63, s224_66, s224_69, s224_70, s224_73, s224_74, s224_77, s224_78, s224_79, s224_80, s224_83, s224_84, s224_85, s224_88, s224_89, s224_90, s224_92, s224_93, s224_94, s224_95, s224_98, s224_99, s224_100, s224_103, s224_104, s224_105, s224_106, s224_107, s224_109, s224_110, s224_111, s224_112, s224_115, s224_116, s224_117, s224_120, s224_121, s224_122, s224_123, s224_124, s224_126, s224_127, s224_128, s224_129, s224_132, s224_133, s224_134, s224_137, s224_138, s224_139, s224_140, s224_141, s224_143, s224_144, s224_145, s224_146, s224_149, s224_150, s224_153, s224_154, s224_155, s224_156, s224_157, s224_160, s224_161, s224_162, s224_165, s224_166, s224_169, s224_170, s224_171, xcx_i, xcx_r, xcx_n, xcx_l, xcx_0, hm0, k2, in_eq, xb_f, ite_not, nz_0, nq_5, hns31, hn31, c1, c2, c3', c4', h100, not_false_eq_true, not_true, true_and, false_and, if_true, if_false, ite_self, true_or, or_true]
          · have c4' : (b < 0) = True := eq_true (Int32.not_le.mp c4)
            simp only [s224_0, s224_1, s224_4, s224_7, s224_8, s224_11, s224_12, s224_15, s224_16, s224_18, s224_19, s224_21, s224_24, s224_27, s224_30, s224_31, s224_33, s224_34, s224_35, s224_37, s224_40, s224_43, s224_44, s224_46, s224_47, s224_48, s224_50, s224_53, s224_56, s224_57, s224_59, s224_60, s224_61, s224_63, s224_66, s224_69, s224_70, s224_73, s224_74, s224_77, s224_78, s224_79, s224_80, s224_83, s224_84, s224_85, s224_88, s224_89, s224_90, s224_92, s224_93, s224_94, s224_95, s224_98, s224_99, s224_100, s224_103, s224_104, s224_105, s224_106, s224_107, s224_109, s224_110, s224_111, s224_112, s224_115, s224_116, s224_117, s224_120, s224_121, s224_122, s224_123, s224_124, s224_126, s224_127, s224_128, s224_129, s224_132, s224_133, s224_134, s224_137, s224_138, s224_139, s224_140, s224_141, s224_143, s224_144, s224_145, s224_146, s224_149, s224_150, s224_153, s224_154, s224_155, s224_156, s224_157, s224_160, s224_161, s224_162, s224_165, s224_166, s224_169, s224_170, s224_171, xcx_i, xcx_r, xcx_n, xcx_l, xcx_0, hm0, k2, in_eq, xb_f, ite_not, nz_0, nq_5, hns31, hn31, c1, c3', c4', h100, not_false_eq_true, not_true, true_and, false_and, if_true, if_false, ite_self, true_or, or_true]
        · have c3' : (a < 0) = True := eq_true (Int32.not_le.mp c3)
          simp only [s224_0, s224_1, s224_4, s224_7, s224_8, s224_11, s224_12, s224_15, s224_16, s224_18, s224_19, s224_21, s224_24, s224_27, s224_30, s224_31, s224_33, s224_34, s224_35, s224_37, s224_40, s224_43, s224_44, s224_46, s224_47, s224_48, s224_50, s224_53, s224_56, s224_57, s224_59, s224_60, s224_61, s224_63, s224_66, s224_69, s224_70, s224_73, s224_74, s224_77, s224_78, s224_79, s224_80, s224_83, s224_84, s224_85, s224_88, s224_89, s224_90, s224_92, s224_93, s224_94, s224_95, s224_98, s224_99, s224_100, s224_103, s224_104, s224_105, s224_106, s224_107, s224_109, s224_110, s224_111, s224_112, s224_115, s224_116, s224_117, s224_120, s224_121, s224_122, s224_123, s224_124, s224_126, s224_127, s224_128, s224_129, s224_132, s224_133, s224_134, s224_137, s224_138, s224_139, s224_140, s224_141, s224_143, s224_144, s224_145, s224_146, s224_149, s224_150, s224_153, s224_154, s224_155, s224_156, s224_157, s224_160, s224_161, s224_162, s224_165, s224_166, s224_169, s224_170, s224_171, xcx_i, xcx_r, xcx_n, xcx_l, xcx_0, hm0, k2, in_eq, xb_f, ite_not, nz_0, nq_5, hns31, hn31, c1, c3', h100, not_false_eq_true, not_true, true_and, false_and, if_true, if_false, ite_self, true_or, or_true]
      · simp only [s224_0, s224_1, s224_4, s224_7, s224_8, s224_11, s224_12, s224_15, s224_16, s224_18, s224_19, s224_21, s224_24, s224_27, s224_30, s224_31, s224_33, s224_34, s224_35, s224_37, s224_40, s224_43, s224_44, s224_46, s224_47, s224_48, s224_50, s224_53, s224_56, s224_57, s224_59, s224_60, s224_61, s224_63, s224_66, s224_69, s224_70, s224_73, s224_74, s224_77, s224_78, s224_79, s224_80, s224_83, s224_84, s224_85, s224_88, s224_89, s224_90, s224_92, s224_93, s224_94, s224_95, s224_98, s224_99, s224_100, s224_103, s224_104, s224_105, s224_106, s224_107, s224_109, s224_110, s224_111, s224_112, s224_115, s224_116, s224_117, s224_120, s224_121, s224_122, s224_123, s224_124, s224_126, s224_127, s224_128, s224_129, s224_132, s224_133, s224_134, s224_137, s224_138, s224_139, s224_140, s224_141, s224_143, s224_144, s224_145, s224_146, s224_149, s224_150, s224_153, s224_154, s224_155, s224_156, s224_157, s224_160, s224_161, s224_162, s224_165, s224_166, s224_169, s224_170, s224_171, xcx_i, xcx_r, xcx_n, xcx_l, xcx_0, hm0, k2, in_eq, xb_f, ite_not, nz_0, nq_5, hns31, hn31, c1, h100, not_false_eq_true, not_true, true_and, false_and, if_true, if_false, ite_self, true_or, or_true]
    rw [hx, hm]
    exact ⟨rfl, hI⟩
  by_cases hF : 0 < ns ∧ n < 5 ∧ 0 ≤ a ∧ 0 ≤ b
  rotate_left
  · exact fail hF
  obtain ⟨c1, h5, ha0, hb0⟩ := hF
  obtain ⟨k, hk, rfl⟩ := nI_of (Int32.not_lt.mpr ha0)
  obtain ⟨t, ht, rfl⟩ := nI_of (Int32.not_lt.mpr hb0)
  have hdk : nI k / 100 = nI (k / 100) := pk_div (d := 100) hk (by decide) (by decide)
  have hdt : nI t / 100 = nI (t / 100) := pk_div (d := 100) ht (by decide) (by decide)
  have hrk : nI k - nI (k / 100) * 100 = nI (k % 100) := by
    have := pk_rem (d := 100) (a := k) hk (by decide) (by decide)
    rw [← this, hdk.symm]; rfl
  have hrt : nI t - nI (t / 100) * 100 = nI (t % 100) := by
    have := pk_rem (d := 100) (a := t) ht (by decide) (by decide)
    rw [← this, hdt.symm]; rfl
  have g1 : ((10 : Int32) ≤ nI (k / 100)) = (10 ≤ k / 100) := nI_leL (a := 10) (by decide) (by omega)
  have g2 : (nI (k / 100) ≤ 150) = (k / 100 ≤ 150) := nI_leL (b := 150) (by omega) (by decide)
  have g3 : ((1 : Int32) ≤ nI (k % 100)) = (1 ≤ k % 100) := nI_leL (a := 1) (by decide) (by omega)
  have g4 : (nI (k % 100) ≤ 40) = (k % 100 ≤ 40) := nI_leL (b := 40) (by omega) (by decide)
  have g5 : ((0 : Int32) ≤ nI (t / 100)) = True := eq_true (nI_pos' (by omega))
  have g6 : (nI (t / 100) ≤ 99) = (t / 100 ≤ 99) := nI_leL (b := 99) (by omega) (by decide)
  have g7 : ((1 : Int32) ≤ nI (t % 100)) = (1 ≤ t % 100) := nI_leL (a := 1) (by decide) (by omega)
  have g8 : (nI (t % 100) ≤ 48) = (t % 100 ≤ 48) := nI_leL (b := 48) (by omega) (by decide)
  have hka : (nI k < 0) = False := eq_false (nI_pos hk)
  have hta : (nI t < 0) = False := eq_false (nI_pos ht)
  have hx : ∀ Q : Int32 → xM → Prop, xI1 134 [.ref 0, .int (nI k), .int (nI t)] σ Q = (if (10 ≤ k / 100 ∧ k / 100 ≤ 150) ∧ (1 ≤ k % 100 ∧ k % 100 ≤ 40) ∧ t / 100 ≤ 99 ∧ (1 ≤ t % 100 ∧ t % 100 ≤ 48) then xC 134 81 [some (.ref 0), some (.int (nI k)), some (.int (nI t))] [] σ (xqI Q) else Q (-1) σ) := by
    intro Q
    rw [e134]
    rcases hp with rfl | rfl <;> simp only [s134_0, s134_1, s134_4_4, s134_4_7, s134_7, s134_10, s134_11, s134_14, s134_17, s134_18, s134_21, s134_22, s134_23, s134_24, s134_26, s134_27, s134_29, s134_32, s134_35, s134_38, s134_39, s134_41, s134_42, s134_43, s134_45, s134_48, s134_51, s134_52, s134_53, s134_54, s134_56, s134_57, s134_58, s134_60, s134_63, s134_66, s134_67, s134_69, s134_70, s134_71, s134_73, s134_76, s134_79, s134_80, xcx_i, xcx_r, xcx_n, xcx_l, xcx_0, hpe, stands_eq, hst, within_eq, k1, xb_f, ite_not, guard1, nr_0, nl_5, hns31, hn31, c1, h5, hdk, hdt, hrk, hrt, g1, g2, g3, g4, g5, g6, g7, g8, h100, not_false_eq_true, true_and, if_true, true_or, or_true, Classical.not_not]
  have hm : ∀ (τ : xM) (Q : Int32 → xM → Prop), τ.1 84 17 = nI ns → τ.1 84 43 = nI n → xI1 224 [.ref 84, .int (nI k), .int (nI t)] τ Q = (if (10 ≤ k / 100 ∧ k / 100 ≤ 150) ∧ (1 ≤ k % 100 ∧ k % 100 ≤ 40) ∧ t / 100 ≤ 99 ∧ (1 ≤ t % 100 ∧ t % 100 ≤ 48) then Q (nI n) (mV τ n (k / 100) (k % 100) (t / 100) (t % 100)) else Q (-1) τ) := by
    intro τ Q h1 h2
    have f5 : (n = 5) = False := eq_false (by omega)
    have b0 : 4 * n < 100000 := by omega
    have b1 : 4 * n + 1 < 100000 := by omega
    have b2 : 4 * n + 2 < 100000 := by omega
    have b3 : 4 * n + 3 < 100000 := by omega
    have b4 : n < 100000 := by omega
    have d0 : 4 * n < 20 := by omega
    have d1 : 4 * n + 1 < 20 := by omega
    have d2 : 4 * n + 2 < 20 := by omega
    have d3 : 4 * n + 3 < 20 := by omega
    rw [e224]
    simp only [s224_0, s224_1, s224_4, s224_7, s224_8, s224_11, s224_12, s224_15, s224_16, s224_18, s224_19, s224_21, s224_24, s224_27, s224_30, s224_31, s224_33, s224_34, s224_35, s224_37, s224_40, s224_43, s224_44, s224_46, s224_47, s224_48, s224_50, s224_53, s224_56, s224_57, s224_59, s224_60, s224_61, s224_63, s224_66, s224_69, s224_70, s224_73, s224_74, s224_77, s224_78, s224_79, s224_80, s224_83, s224_84, s224_85, s224_88, s224_89, s224_90, s224_92, s224_93, s224_94, s224_95, s224_98, s224_99, s224_100, s224_103, s224_104, s224_105, s224_106, s224_107, s224_109, s224_110, s224_111, s224_112, s224_115, s224_116, s224_117, s224_120, s224_121, s224_122, s224_123, s224_124, s224_126, s224_127, s224_128, s224_129, s224_132, s224_133, s224_134, s224_137, s224_138, s224_139, s224_140, s224_141, s224_143, s224_144, s224_145, s224_146, s224_149, s224_150, s224_153, s224_154, s224_155, s224_156, s224_157, s224_160, s224_161, s224_162, s224_165, s224_166, s224_169, s224_170, s224_171, xcx_i, xcx_r, xcx_n, xcx_l, xcx_0, h1, h2, in_eq, xb_f, ite_not, guard1, nz_0, nq_5, hns31, hn31, c1, f5, hka, hta, hdk, hdt, hrk, hrt, g1, g2, g3, g4, g5, g6, g7, g8, h100, not_false_eq_true, not_true, true_and, if_true, if_false, true_or, or_true, ml_4, al_1, al_2, al_3, nI_pred, b0, b1, b2, b3, b4, d0, d1, d2, d3, h5, cl_s, pos_s, xcl_107, xln_107, xcl_109, xln_109, si_rd, Nat.reduceEqDiff, false_and, and_self, mV]
  rw [hx]
  by_cases hG : (10 ≤ k / 100 ∧ k / 100 ≤ 150) ∧ (1 ≤ k % 100 ∧ k % 100 ≤ 40) ∧ t / 100 ≤ 99 ∧ (1 ≤ t % 100 ∧ t % 100 ≤ 48)
  · rw [if_pos hG]
    have hadd : ∀ Q : xM → Prop, xV 15 [.ref 63, .ref p', .int (nI k), .int (nI t)] σ Q = _ := fun Q => berthsAdd_eq hB k1 h5 (by omega) (by omega)
    have hpx : xC 134 81 [some (.ref 0), some (.int (nI k)), some (.int (nI t))] [] σ (xqI (fun r σ1 => xI1 224 (.ref 84 :: [.int (nI k), .int (nI t)]) σ1 (fun r2 σ2 => r = r2 ∧ xInv xs L σ2))) = xI1 224 (.ref 84 :: [.int (nI k), .int (nI t)]) (xe_si (shl (vB σ n (k / 100) (k % 100) (t / 100) (t % 100)) n (fun t => nI (ldN dp (10 * t) (k / 100))) 20) 63 0 (nI (n + 1))) (fun r2 σ2 => nI n = r2 ∧ xInv xs L σ2) := by
      rcases hp with rfl | rfl <;> simp only [s134_81, s134_82, s134_85, s134_86, s134_89, s134_90, s134_91, s134_94, s134_95, s134_98, s134_101, s134_102, s134_103, xcx_i, xcx_r, xcx_n, xcx_l, xcx_0, hpe, hadd, si_rd, and_self, if_true, nI_pred, true_or, or_true]
    rw [hpx, hm _ _ (by rw [si_ne (by decide), shl_ne (by decide)]; exact hm0) (by rw [si_ne (by decide), shl_ne (by decide)]; exact k2), if_pos hG]
    refine ⟨rfl, hI.simB ⟨fun c j hc => ?_, rfl⟩ ?_⟩
    · unfold chB at hc
      rw [Bool.or_eq_false_iff] at hc
      have hc2 := of_decide_eq_false hc.2
      have f1 : ∀ x, 63 ≤ x → x ≤ 72 → (c = x) = False := fun x h1 h2 => eq_false (by omega)
      have f2 : ∀ x, 107 ≤ x → x ≤ 109 → (c = x) = False := fun x h1 h2 => eq_false (by omega)
      have f3 : (c = 84 ∧ j = 43) = False := eq_false (by omega)
      simp only [mV, vB, si_rd, shl_rd, f1, f2, f3, Nat.reduceLeDiff, Nat.le_refl, false_and, if_false]
    · have rP : ∀ q, q = 4 ∨ q = 7 → (mV (xe_si (shl (vB σ n (k / 100) (k % 100) (t / 100) (t % 100)) n (fun t => nI (ldN dp (10 * t) (k / 100))) 20) 63 0 (nI (n + 1))) n (k / 100) (k % 100) (t / 100) (t % 100)).1 (q + 1) = σ.1 (q + 1) := by
        intro q hq
        funext j
        rcases hq with rfl | rfl <;> simp only [mV, vB, si_rd, shl_rd, Nat.reduceAdd, Nat.reduceEqDiff, false_and, if_false]
      refine ⟨n + 1, by omega, ?_, ?_, fun v hv => ?_⟩
      · simp only [mV, vB, si_rd, shl_rd, Nat.reduceEqDiff, false_and, and_self, if_false, if_true]
      · simp only [mV, vB, si_rd, shl_rd, Nat.reduceEqDiff, false_and, and_self, if_false, if_true]
      · rcases Nat.lt_or_eq_of_le (Nat.le_of_lt_succ hv) with w | w
        · obtain ⟨c1, c2, c3, c4, c5, b1, b2, b3, b4, l1, l2, hsh⟩ := hrow v w
          have f0 : (v = n) = False := eq_false (by omega)
          have f1 : ∀ x y, x < 4 → y < 4 → (4 * v + x = 4 * n + y) = False := fun x y hx hy => eq_false (by omega)
          have f2 : ∀ y, y < 4 → (4 * v = 4 * n + y) = False := fun y hy => eq_false (by omega)
          have f3 : ∀ x, x < 4 → (4 * v + x = 4 * n) = False := fun x hx => eq_false (by omega)
          have f4 : (4 * v = 4 * n) = False := eq_false (by omega)
          refine ⟨?_, ?_, ?_, ?_, ?_, ?_, ?_, ?_, ?_, ?_, ?_, fun t' ht' => ?_⟩
          · simpa only [mV, vB, si_rd, shl_rd, Nat.reduceEqDiff, f0, f1, f2, f3, f4, Nat.reduceLT, and_false, false_and, if_false] using c1
          · simpa only [mV, vB, si_rd, shl_rd, Nat.reduceEqDiff, f0, f1, f2, f3, f4, Nat.reduceLT, and_false, false_and, if_false] using c2
          · simpa only [mV, vB, si_rd, shl_rd, Nat.reduceEqDiff, f0, f1, f2, f3, f4, Nat.reduceLT, and_false, false_and, if_false] using c3
          · simpa only [mV, vB, si_rd, shl_rd, Nat.reduceEqDiff, f0, f1, f2, f3, f4, Nat.reduceLT, and_false, false_and, if_false] using c4
          · simpa only [mV, vB, si_rd, shl_rd, Nat.reduceEqDiff, f0, f1, f2, f3, f4, Nat.reduceLT, and_false, false_and, if_false] using c5
          · simpa only [mV, vB, si_rd, shl_rd, Nat.reduceEqDiff, f0, and_false, false_and, if_false] using b1
          · simpa only [mV, vB, si_rd, shl_rd, Nat.reduceEqDiff, f0, and_false, false_and, if_false] using b2
          · simpa only [mV, vB, si_rd, shl_rd, Nat.reduceEqDiff, f0, and_false, false_and, if_false] using b3
          · simpa only [mV, vB, si_rd, shl_rd, Nat.reduceEqDiff, f0, and_false, false_and, if_false] using b4
          · simpa only [mV, vB, si_rd, shl_rd, Nat.reduceEqDiff, f0, and_false, false_and, if_false] using l1
          · simpa only [mV, vB, si_rd, shl_rd, Nat.reduceEqDiff, f0, and_false, false_and, if_false] using l2
          · have e72 : (mV (xe_si (shl (vB σ n (k / 100) (k % 100) (t / 100) (t % 100)) n (fun t => nI (ldN dp (10 * t) (k / 100))) 20) 63 0 (nI (n + 1))) n (k / 100) (k % 100) (t / 100) (t % 100)).1 72 (20 * v + t') = σ.1 72 (20 * v + t') := by
              have g : (20 * n ≤ 20 * v + t') = False := eq_false (by omega)
              simp only [mV, vB, si_rd, shl_rd, Nat.reduceEqDiff, g, and_false, false_and, if_false]
            have e64 : (mV (xe_si (shl (vB σ n (k / 100) (k % 100) (t / 100) (t % 100)) n (fun t => nI (ldN dp (10 * t) (k / 100))) 20) 63 0 (nI (n + 1))) n (k / 100) (k % 100) (t / 100) (t % 100)).1 64 v = σ.1 64 v := by
              simp only [mV, vB, si_rd, shl_rd, Nat.reduceEqDiff, f0, and_false, false_and, if_false]
            rw [e72, e64]
            have h := hsh t' ht'
            have e := rP (σ.2.2 1) (by rw [hpe]; exact hp)
            rw [← e] at h
            exact h
        · subst w
          have f1 : ∀ x y, x ≠ y → (4 * v + x = 4 * v + y) = False := fun x y hx => eq_false (by omega)
          have f2 : ∀ y, y ≠ 0 → (4 * v = 4 * v + y) = False := fun y hy => eq_false (by omega)
          have f3 : ∀ y, y ≠ 0 → (4 * v + y = 4 * v) = False := fun y hy => eq_false (by omega)
          obtain ⟨⟨q1, q2⟩, ⟨q3, q4⟩, q5, ⟨q6, q7⟩⟩ := hG
          have m107 : ∀ z, (mV (xe_si (shl (vB σ v (k / 100) (k % 100) (t / 100) (t % 100)) v (fun t => nI (ldN dp (10 * t) (k / 100))) 20) 63 0 (nI (v + 1))) v (k / 100) (k % 100) (t / 100) (t % 100)).1 107 z = if z = 4 * v + 3 then nI (t % 100) else if z = 4 * v + 2 then nI (t / 100) else if z = 4 * v + 1 then nI (k % 100) else if z = 4 * v then nI (k / 100) else σ.1 107 z := by
            intro z
            simp only [mV, vB, si_rd, shl_rd, Nat.reduceEqDiff, true_and, false_and, if_false]
          have mx : ∀ c, c = 64 ∨ c = 65 ∨ c = 66 ∨ c = 67 ∨ c = 68 ∨ c = 69 ∨ c = 109 → (mV (xe_si (shl (vB σ v (k / 100) (k % 100) (t / 100) (t % 100)) v (fun t => nI (ldN dp (10 * t) (k / 100))) 20) 63 0 (nI (v + 1))) v (k / 100) (k % 100) (t / 100) (t % 100)).1 c v = if c = 64 then nI (k / 100) else if c = 65 then nI (k % 100) else if c = 66 then nI (t / 100) else if c = 67 then nI (t % 100) else -1 := by
            intro c hc
            rcases hc with rfl | rfl | rfl | rfl | rfl | rfl | rfl <;> simp only [mV, vB, si_rd, shl_rd, Nat.reduceEqDiff, true_and, false_and, if_false, if_true]
          rw [m107, m107, m107, m107, mx 64 (by decide), mx 65 (by decide), mx 66 (by decide), mx 67 (by decide), mx 68 (by decide), mx 69 (by decide), mx 109 (by decide)]
          simp only [Nat.reduceEqDiff, f1, f2, f3, ne_eq, not_false_eq_true, if_true, if_false, Nat.add_left_cancel_iff]
          refine ⟨trivial, trivial, trivial, trivial, trivial, bd_nI (by omega) (by omega) (by omega), bd_nI (by omega) (by omega) (by omega), bd_nI (by omega) (by omega) (by omega), bd_nI (by omega) (by omega) (by omega), fun _ => trivial, fun q => absurd trivial q, fun t' ht' => ?_⟩
          have e72 : (mV (xe_si (shl (vB σ v (k / 100) (k % 100) (t / 100) (t % 100)) v (fun t => nI (ldN dp (10 * t) (k / 100))) 20) 63 0 (nI (v + 1))) v (k / 100) (k % 100) (t / 100) (t % 100)).1 72 (20 * v + t') = nI (ldN dp (10 * t') (k / 100)) := by
            have g : (20 * v ≤ 20 * v + t' ∧ 20 * v + t' < 20 * v + 20) = True := eq_true (by omega)
            simp only [mV, vB, si_rd, shl_rd, Nat.reduceEqDiff, g, and_self, false_and, if_false, if_true, Nat.add_sub_cancel_left]
          have e := rP (σ.2.2 1) (by rw [hpe]; exact hp)
          have e21 : (mV (xe_si (shl (vB σ v (k / 100) (k % 100) (t / 100) (t % 100)) v (fun t => nI (ldN dp (10 * t) (k / 100))) 20) 63 0 (nI (v + 1))) v (k / 100) (k % 100) (t / 100) (t % 100)).1 84 21 = nI nd' := hB.2.2.1.2.1
          have h4 := hB.2.2.1.2.2
          have hl40 := ldN_le hB.2.2.2.2.1 (10 * t') (k / 100)
          show _ = ldp ((mV (xe_si (shl (vB σ v (k / 100) (k % 100) (t / 100) (t % 100)) v (fun t => nI (ldN dp (10 * t) (k / 100))) 20) 63 0 (nI (v + 1))) v (k / 100) (k % 100) (t / 100) (t % 100)).1 (σ.2.2 1 + 1)) _ _ _
          rw [e72, e21, e, nI_cl nd' (by omega), nI_cl (k / 100) (by omega), hpe, hld, nI_ti (by omega)]
  · rw [if_neg hG, hm _ _ hm0 k2, if_neg hG]
    exact ⟨rfl, hI⟩
