/-! line, lift -/
theorem addLine_eq {σ : xM} {a b c d : Int32} {n : Nat} {Q : xM → Prop} (hn : σ.1 10 3 = nI n) (h6 : n < 6) : xV 102 [.ref 10, .int a, .int b, .int c, .int d] σ Q = Q (xe_si (xe_si (xe_si (xe_si (xe_si σ 12 n a) 13 n b) 14 n c) 16 n d) 10 3 (nI (n + 1))) := by
  rw [e102]
  simp only [s102_0, s102_1_10, s102_1_17, s102_1_24, s102_1_31, s102_4, s102_5_10, s102_5_17, s102_5_24, s102_5_31, s102_8, s102_9, s102_12, s102_13_10, s102_13_17, s102_13_24, s102_13_31, s102_16, s102_17_10, s102_17_17, s102_17_24, s102_17_31, s102_20, s102_21, s102_24, s102_25_10, s102_25_17, s102_25_24, s102_25_31, s102_28, s102_29_10, s102_29_17, s102_29_24, s102_29_31, s102_32, s102_33, s102_36, s102_37_10, s102_37_17, s102_37_24, s102_37_31, s102_40, s102_41_10, s102_41_17, s102_41_24, s102_41_31, s102_44, s102_46, s102_49, s102_50, s102_51_10, s102_51_17, s102_51_24, s102_51_31, s102_54, s102_55, s102_56_10, s102_56_17, s102_56_24, s102_56_31, s102_59, put_eq, xcl_12, xcl_13, xcl_14, xcl_16, xln_12, xln_13, xln_14, xln_16, hn, xpt_n, h6, si_rd, nI_1, Nat.reduceEqDiff, false_and, if_false]
theorem op_line (a b c d e : Int32) : xOp 114 181 [.int a, .int b, .int c, .int d, .int e] := by
  intro xs L σ hI
  obtain ⟨p, ns, nr, nd, ng, nt, hp, hpe, hb, ⟨hst, hro, -⟩, ⟨hm0, hm1, -⟩⟩ := hI.1.get
  obtain ⟨n, hn6, k1, k2, h01, h28, hz, h1, hrow⟩ := hI.2.2.1
  have hb1 := hb.1
  have hb2 := hb.2.1
  have hn31 : n < 2147483648 := by omega
  have hns31 : ns < 2147483648 := by omega
  have hnr31 : nr < 2147483648 := by omega
  have hnr100 : nr * 100 < 2147483648 := by omega
  have h100 : ¬ (100 : Int32) = 0 := by decide
  have e1 : (0 ≤ d ∧ d ≤ nI (nr * 100) - 1) = (¬ d < 0 ∧ ¬ nI nr ≤ d / 100) := by
    rw [rng_iff hnr100]
    apply propext
    constructor
    · rintro ⟨k, hk, rfl⟩
      refine ⟨nI_pos (by omega), ?_⟩
      rw [show nI k / 100 = nI (k / 100) from pk_div (d := 100) (by omega) (by decide) (by decide), nI_leL hnr31 (by omega)]
      omega
    · rintro ⟨h0, h2⟩
      obtain ⟨k, hk, rfl⟩ := nI_of h0
      rw [show nI k / 100 = nI (k / 100) from pk_div (d := 100) (by omega) (by decide) (by decide), nI_leL hnr31 (by omega)] at h2
      exact ⟨k, by omega, rfl⟩
  have hx : ∀ Q : Int32 → xM → Prop, xI1 114 [.ref 0, .int a, .int b, .int c, .int d, .int e] σ Q = (if (¬ σ.1 10 0 = 0 ∧ n < 6) ∧ ((0 ≤ c ∧ c ≤ nI ns - 1) ∧ (¬ d < 0 ∧ ¬ nI nr ≤ d / 100)) ∧ (0 ≤ b ∧ b ≤ 80) ∧ (0 ≤ a ∧ a ≤ 99) ∧ (0 ≤ e ∧ e ≤ 20) then xC 114 87 [some (.ref 0), some (.int a), some (.int b), some (.int c), some (.int d), some (.int e)] [] σ (xqI Q) else Q (-1) σ) := by
    intro Q
    have flip : ∀ (q : Prop) [Decidable q] (X A : Prop), (if q then A else X) = if ¬ q then X else A := fun q _ X A => by by_cases h : q <;> simp [h]
    rw [e114]
    rcases hp with rfl | rfl <;> simp only [s114_0, s114_1, s114_4_10, s114_4_17, s114_4_24, s114_4_31, s114_7, s114_10, s114_11, s114_14_10, s114_14_17, s114_14_24, s114_14_31, s114_17, s114_19, s114_22, s114_23, s114_24, s114_25, s114_26, s114_27, s114_30, s114_31_4, s114_31_7, s114_34, s114_35, s114_36, s114_39, s114_42, s114_44, s114_45, s114_46, s114_49, s114_50_4, s114_50_7, s114_53, s114_55, s114_56, s114_57, s114_58, s114_61, s114_64, s114_65, s114_66, s114_67, s114_68, s114_70, s114_73, s114_76, s114_77, s114_79, s114_82, s114_85, s114_86, hpe, toldOf_eq, hst, hro, mr_100, within_eq, mayMakeFast_eq, k1, xb_f, ite_not, guard1, true_or, or_true, true_and, nl_6, hn31, e1] <;> rw [flip (σ.1 10 0 = 0), guard1] <;> simp only [and_assoc, Classical.not_not]
  have hm : ∀ (τ : xM) (Q : Int32 → xM → Prop), τ.1 84 17 = nI ns → τ.1 84 19 = nI nr → τ.1 84 31 = nI n → τ.1 84 28 = σ.1 10 0 → xI1 181 [.ref 84, .int a, .int b, .int c, .int d, .int e] τ Q = (if (¬ σ.1 10 0 = 0 ∧ n < 6) ∧ ((0 ≤ c ∧ c ≤ nI ns - 1) ∧ (¬ d < 0 ∧ ¬ nI nr ≤ d / 100)) ∧ (0 ≤ b ∧ b ≤ 80) ∧ (0 ≤ a ∧ a ≤ 99) ∧ (0 ≤ e ∧ e ≤ 20) then xC 181 80 [some (.ref 84), some (.int a), some (.int b), some (.int c), some (.int d), some (.int e), none] [] τ (xqI Q) else Q (-1) τ) := by
    intro τ Q h1 h2 h3 h4
    rw [e181]
    simp only [s181_0, s181_1, s181_4, s181_7, s181_8, s181_9, s181_11, s181_14, s181_17, s181_18, s181_19, s181_21, s181_24, s181_27, s181_28, s181_29, s181_30, s181_33, s181_34, s181_35, s181_38, s181_41, s181_43, s181_46, s181_48, s181_50, s181_51, s181_52, s181_55, s181_58, s181_60, s181_61, s181_63, s181_66, s181_69, s181_70, s181_73, s181_75, s181_78, s181_79, h1, h2, h3, h4, in_eq, h100, not_false_eq_true, xb_f, ite_not, true_or, or_true, true_and, nq_6, hn31, guard1, guardN, guardO, guardQ, lt_of_ne6 hn6]
    simp only [Classical.not_not, and_assoc, and_left_comm, and_comm]
  rw [hx]
  by_cases hG : (¬ σ.1 10 0 = 0 ∧ n < 6) ∧ ((0 ≤ c ∧ c ≤ nI ns - 1) ∧ (¬ d < 0 ∧ ¬ nI nr ≤ d / 100)) ∧ (0 ≤ b ∧ b ≤ 80) ∧ (0 ≤ a ∧ a ≤ 99) ∧ (0 ≤ e ∧ e ≤ 20)
  · rw [if_pos hG]
    obtain ⟨⟨ha0, h6⟩, ⟨hc, hd0, hd1⟩, hbb, haa, hee⟩ := id hG
    obtain ⟨s, hs, rfl⟩ := (rng_iff hns31).mp hc
    obtain ⟨k, hk, rfl⟩ := nI_of hd0
    have hdv : nI k / 100 = nI (k / 100) := pk_div (d := 100) hk (by decide) (by decide)
    have hk4 : k / 100 < nr := by
      rw [hdv, nI_leL hnr31 (by omega)] at hd1; omega
    have hrm : nI k - nI (k / 100) * 100 = nI (k % 100) := by
      have := pk_rem (d := 100) hk (by decide) (by decide)
      rw [← this, hdv.symm]; rfl
    simp only [s114_87, s114_88, s114_91, s114_92, s114_93, s114_95, s114_97, s114_98, s114_100, s114_102, s114_103_10, s114_103_17, s114_103_24, s114_103_31, s114_106, s114_107, s114_110, s114_111, s114_114_10, s114_114_17, s114_114_24, s114_114_31, s114_117, s114_118, s114_119, s114_120, s114_122_10, s114_122_17, s114_122_24, s114_122_31, s114_125, s114_126, s114_129_10, s114_129_17, s114_129_24, s114_129_31, s114_132, s114_133, s114_134, h100, not_false_eq_true, true_and, hdv, hrm, addLine_eq k1 h6, si_rd, and_self, if_true, nI_pred, makeFast_eq h6, Nat.reduceEqDiff, false_and, if_false]
    rw [hm (xe_si (xe_si (xe_si (xe_si (xe_si (xe_si (xe_si σ 12 n b) 13 n (nI s)) 14 n (nI (k / 100))) 16 n (nI (k % 100))) 10 3 (nI (n + 1))) 11 n a) 15 n e) _ hm0 hm1 k2 h28, if_pos hG]
    have b0 : 6 * n < 100000 := by omega
    have b1 : 6 * n + 1 < 100000 := by omega
    have b2 : 6 * n + 2 < 100000 := by omega
    have b3 : 6 * n + 3 < 100000 := by omega
    have b4 : 6 * n + 4 < 100000 := by omega
    have b5 : 6 * n + 5 < 100000 := by omega
    have c0 : 6 * n < 36 := by omega
    have c1 : 6 * n + 1 < 36 := by omega
    have c2 : 6 * n + 2 < 36 := by omega
    have c3 : 6 * n + 3 < 36 := by omega
    have c4 : 6 * n + 4 < 36 := by omega
    have c5 : 6 * n + 5 < 36 := by omega
    have al0 : nI (6 * n) + 0 = nI (6 * n) := nI_add _ 0
    simp only [s181_0, s181_1, s181_4, s181_7, s181_8, s181_9, s181_11, s181_14, s181_17, s181_18, s181_19, s181_21, s181_24, s181_27, s181_28, s181_29, s181_30, s181_33, s181_34, s181_35, s181_38, s181_41, s181_43, s181_46, s181_48, s181_50, s181_51, s181_52, s181_55, s181_58, s181_60, s181_61, s181_63, s181_66, s181_69, s181_70, s181_73, s181_75, s181_78, s181_79, s181_80, s181_82, s181_83, s181_86, s181_87, s181_89, s181_90, s181_93, s181_95, s181_96, s181_97, s181_98, s181_99, s181_100, s181_103, s181_105, s181_106, s181_107, s181_108, s181_109, s181_110, s181_113, s181_115, s181_116, s181_117, s181_119, s181_121, s181_122, s181_123, s181_124, s181_127, s181_129, s181_130, s181_131, s181_133, s181_134, s181_135, s181_138, s181_140, s181_141, s181_142, s181_144, s181_146, s181_147, s181_148, s181_149, s181_152, s181_154, s181_155, s181_156, s181_157, s181_158, s181_159, s181_160, s181_163, s181_164, s181_165, s181_168, s181_169, s181_172, s181_173, s181_174, xcx_i, xcx_r, xcx_n, xcx_l, xcx_0, si_rd, Nat.reduceEqDiff, false_and, if_false, k2, xcl_98, xln_98, h100, not_false_eq_true, hdv, hrm, ml_6, al0, al_1, al_2, al_3, al_4, al_5, b0, b1, b2, b3, b4, b5, c0, c1, c2, c3, c4, c5, cl_s, pos_s, true_and, nI_1, nI_pred, and_self, if_true]
    refine ⟨hI.1.fr ⟨rfl, rfl, rfl, rfl, rfl, rfl, rfl, rfl, rfl, rfl, rfl, rfl, rfl, rfl, rfl, rfl⟩, hI.2.1, ?_, hI.2.2.2.1, hI.2.2.2.2.1, hI.2.2.2.2.2.1, hI.2.2.2.2.2.2.1.fr hI.1 ⟨rfl, rfl, rfl, rfl, rfl, rfl, rfl, rfl, rfl, rfl, rfl, rfl, rfl, rfl, rfl, rfl⟩ ⟨rfl, rfl, rfl, rfl, rfl, rfl, rfl, rfl, rfl, rfl, rfl, rfl⟩, hI.2.2.2.2.2.2.2.1, hI.2.2.2.2.2.2.2.2.1, hI.2.2.2.2.2.2.2.2.2⟩
    have hf1 : σ.1 10 0 = 1 := by rcases h01 with q | q; exact absurd q ha0; exact q
    refine ⟨n + 1, by omega, rfl, rfl, h01, h28, fun q => absurd q ha0, h1, fun i hi => ?_⟩
    rcases Nat.lt_or_eq_of_le (Nat.le_of_lt_succ hi) with q | q
    · have h := hrow i q
      unfold gLn at h ⊢
      have f0 : (i = n) = False := eq_false (by omega)
      have f1 : ∀ x y, x < 6 → y < 6 → (6 * i + x = 6 * n + y) = False := fun x y hx hy => eq_false (by omega)
      have f2 : ∀ y, y < 6 → (6 * i = 6 * n + y) = False := fun y hy => eq_false (by omega)
      have f3 : ∀ x, x < 6 → (6 * i + x = 6 * n) = False := fun x hx => eq_false (by omega)
      have f4 : (6 * i = 6 * n) = False := eq_false (by omega)
      simpa only [si_rd, Nat.reduceEqDiff, f0, f1, f2, f3, f4, Nat.reduceLT, and_false, false_and, if_false] using h
    · subst q
      have e17 : (σ.1 84 17).toInt = ns := by rw [hm0, nI_ti hns31]
      have e19 : (σ.1 84 19).toInt = nr := by rw [hm1, nI_ti hnr31]
      have g1 := bd_of hbb
      have g2 : bd (nI s) 0 ((σ.1 84 17).toInt - 1) := bd_nI (by omega) (by omega) (by omega)
      have g3 : bd (nI (k / 100)) 0 ((σ.1 84 19).toInt - 1) := bd_nI (by omega) (by omega) (by omega)
      have g4 := bd_of hee
      have g5 : bd (nI (k % 100)) 0 99 := bd_nI (by omega) (by omega) (by omega)
      have g6 := bd_of haa
      unfold gLn
      have f1 : ∀ x y, x ≠ y → (6 * i + x = 6 * i + y) = False := fun x y hx => eq_false (by omega)
      have f2 : ∀ y, y ≠ 0 → (6 * i = 6 * i + y) = False := fun y hy => eq_false (by omega)
      have f3 : ∀ y, y ≠ 0 → (6 * i + y = 6 * i) = False := fun y hy => eq_false (by omega)
      simp only [si_rd, Nat.reduceEqDiff, f1, f2, f3, ne_eq, not_false_eq_true, Nat.add_left_cancel_iff, and_false, false_and, and_self, if_false, if_true, true_and]
      exact ⟨g1, g2, g3, g4, g5, g6⟩
  · rw [if_neg hG, hm _ _ hm0 hm1 k2 h28, if_neg hG]
    exact ⟨rfl, hI⟩
