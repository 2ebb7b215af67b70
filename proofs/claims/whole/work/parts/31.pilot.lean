/-! count and task -/
theorem gP_cases {σ : xM} (h : gP σ) : σ.2.2 1 = 4 ∨ σ.2.2 1 = 7 := by
  rcases h.1 with ⟨h1, -⟩ | ⟨h1, -⟩
  · exact Or.inl h1
  · exact Or.inr h1
theorem xat_6 {σ : xM} {i : Nat} (h : i < 7) : xat σ 6 (nI i) = σ.1 6 i := xat_n (by rw [xln_6]; exact h)
theorem xat_9 {σ : xM} {i : Nat} (h : i < 7) : xat σ 9 (nI i) = σ.1 9 i := xat_n (by rw [xln_9]; exact h)
theorem Qcount_eq {σ : xM} {k : Int32} {Q : Int32 → xM → Prop} (hp : σ.2.2 1 = 4 ∨ σ.2.2 1 = 7) : xI1 147 [.ref 0, .int k] σ Q = Q (if k = 0 then xat σ (σ.2.2 1 + 2) 0 else if k = 1 then xat σ (σ.2.2 1 + 2) 1 else if k = 2 then xat σ (σ.2.2 1 + 2) 4 else if k = 3 then xat σ (σ.2.2 1 + 1) 50 else if k = 4 then σ.1 10 3 else if k = 5 then σ.1 51 0 else if k = 6 then σ.1 59 0 else if k = 7 then σ.1 2 1 else if k = 8 then xat σ (σ.2.2 1 + 2) 2 else if k = 9 then σ.1 63 0 else if k = 10 then σ.1 73 0 else if k = 11 then σ.1 80 0 else -1) σ := by
  rw [e147]
  rcases hp with h | h <;> simp only [s147_0, s147_1, s147_64, s147_65, s147_68, s147_69_4, s147_69_7, s147_72, s147_73, s147_74, s147_77, s147_78_4, s147_78_7, s147_81, s147_82, s147_83, s147_86, s147_87_4, s147_87_7, s147_90, s147_91, s147_92, s147_95_4, s147_95_7, s147_98, s147_99, s147_100, s147_103_10, s147_103_17, s147_103_24, s147_103_31, s147_106, s147_107, s147_108, s147_111, s147_114, s147_115, s147_116, s147_119, s147_122, s147_123, s147_124, s147_127, s147_130, s147_131, s147_132, s147_135, s147_136_4, s147_136_7, s147_139, s147_140, s147_141, s147_144, s147_147, s147_148, s147_149, s147_152, s147_155, s147_156, s147_157, s147_160, s147_163, s147_164, s147_165, h, toldOf_eq (p := 4) (Or.inl rfl), toldOf_eq (p := 7) (Or.inr rfl), tugs_eq (p := 4) (Or.inl rfl), tugs_eq (p := 7) (Or.inr rfl), qif (Q := Q)]
theorem Mcount_eq {σ : xM} {k : Int32} {Q : Int32 → xM → Prop} : xI1 244 [.ref 84, .int k] σ Q = Q (if k = 0 then σ.1 84 17 else if k = 1 then σ.1 84 19 else if k = 2 then σ.1 84 23 else if k = 3 then σ.1 84 25 else if k = 4 then σ.1 84 31 else if k = 5 then σ.1 84 38 else if k = 6 then σ.1 84 40 else if k = 7 then σ.1 84 1 else if k = 8 then σ.1 84 21 else if k = 9 then σ.1 84 43 else if k = 10 then σ.1 84 47 else if k = 11 then σ.1 84 49 else -1) σ := by
  rw [e244]
  simp only [s244_0, s244_1, s244_64, s244_65, s244_68, s244_69, s244_70, s244_73, s244_74, s244_75, s244_78, s244_79, s244_80, s244_83, s244_84, s244_85, s244_88, s244_89, s244_90, s244_93, s244_94, s244_95, s244_98, s244_99, s244_100, s244_103, s244_104, s244_105, s244_108, s244_109, s244_110, s244_113, s244_114, s244_115, s244_118, s244_119, s244_120, s244_123, s244_124, s244_125, qif (Q := Q)]
theorem op_count (k : Int32) : xOp 147 244 [.int k] := by
  intro xs L σ hI
  have hp := gP_cases hI.1
  rw [Qcount_eq hp, Mcount_eq]
  refine ⟨?_, hI⟩
  obtain ⟨⟨hpp, ns, nr, nd, ng, nt, hb, hT, hm, -⟩, ⟨n1, -, t1, t2, -⟩, ⟨n2, -, s1, s2, -⟩, -, ⟨n3, -, c1, c2, -⟩, ⟨n4, -, r1, r2, -⟩, ⟨n5, -, b1, b2, -⟩, ⟨n6, -, k1, k2, -⟩, ⟨n7, -, l1, l2, -⟩, -⟩ := hI
  rw [hm.1, hm.2.1, hm.2.2.1, hm.2.2.2.1, hm.2.2.2.2, t1, t2, s1, s2, c1, c2, r1, r2, b1, b2, k1, k2, l1, l2]
  rcases hp with h | h
  · rw [h] at hT ⊢
    rw [show xat σ (4 + 2) 0 = nI ns from (xat_6 (i := 0) (by decide)).trans hT.1, show xat σ (4 + 2) 1 = nI nr from (xat_6 (i := 1) (by decide)).trans hT.2.1, show xat σ (4 + 2) 2 = nI nd from (xat_6 (i := 2) (by decide)).trans hT.2.2.1, show xat σ (4 + 2) 4 = nI ng from (xat_6 (i := 4) (by decide)).trans hT.2.2.2.1, show xat σ (4 + 1) 50 = nI nt from (xat_n (k := 5) (i := 50) (by rw [xln_5]; decide)).trans hT.2.2.2.2]
  · rw [h] at hT ⊢
    rw [show xat σ (7 + 2) 0 = nI ns from (xat_9 (i := 0) (by decide)).trans hT.1, show xat σ (7 + 2) 1 = nI nr from (xat_9 (i := 1) (by decide)).trans hT.2.1, show xat σ (7 + 2) 2 = nI nd from (xat_9 (i := 2) (by decide)).trans hT.2.2.1, show xat σ (7 + 2) 4 = nI ng from (xat_9 (i := 4) (by decide)).trans hT.2.2.2.1, show xat σ (7 + 1) 50 = nI nt from (xat_n (k := 8) (i := 50) (by rw [xln_8]; decide)).trans hT.2.2.2.2]
theorem nightAdd_eq {σ : xM} {a b c : Int32} {n : Nat} {Q : xM → Prop} (hn : σ.1 73 0 = nI n) (h6 : n < 6) : xV 57 [.ref 73, .int a, .int b, .int c] σ Q = Q (xe_si (xe_si (xe_si (xe_si σ 75 n a) 76 n b) 77 n c) 73 0 (nI (n + 1))) := by
  rw [e57]
  simp only [s57_0, s57_1, s57_4, s57_5, s57_8, s57_9, s57_12, s57_13, s57_16, s57_17, s57_20, s57_21, s57_24, s57_25, s57_28, s57_29, s57_32, s57_33, s57_36, s57_37, s57_38, s57_41, s57_42, s57_43, s57_46, put_eq, xcl_75, xln_75, xcl_76, xln_76, xcl_77, xln_77, hn, xpt_n, h6, si_rd, nI_1, show ((73 : Nat) = 75) = False from by decide, show ((73 : Nat) = 76) = False from by decide, show ((73 : Nat) = 77) = False from by decide, false_and, if_false]
theorem op_task (a b c : Int32) : xOp 141 237 [.int a, .int b, .int c] := by
  intro xs L σ hI
  have hp := gP_cases hI.1
  have hI' := hI
  obtain ⟨⟨hpp, ns, nr, nd, ng, nt, hb, hT, hm, -⟩, hT', hS', hI2, hC', hR', hB', ⟨n, hn6, k1, k2, hrow⟩, hL', hX'⟩ := hI'
  have hst : xat σ (σ.2.2 1 + 2) 0 = nI ns := by
    rcases hp with h | h
    · rw [h] at hT ⊢; exact (xat_6 (i := 0) (by decide)).trans hT.1
    · rw [h] at hT ⊢; exact (xat_9 (i := 0) (by decide)).trans hT.1
  have hn31 : n < 2147483648 := by omega
  have hns31 : ns < 2147483648 := by omega
  have hm0 := hm.1
  have hx : ∀ Q : Int32 → xM → Prop, n < 6 → xI1 141 [.ref 0, .int a, .int b, .int c] σ Q = (if 0 < ns ∧ (1 ≤ a ∧ a ≤ 200) ∧ (0 ≤ b ∧ b ≤ 999) ∧ (1 ≤ c ∧ c ≤ 99) then Q (nI n) (xe_si (xe_si (xe_si (xe_si σ 75 n a) 76 n b) 77 n c) 73 0 (nI (n + 1))) else Q (-1) σ) := by
    intro Q h6
    rw [e141]
    rcases hp with h | h <;> rw [h] at hst <;> simp only [s141_0, s141_1, s141_4_4, s141_4_7, s141_7, s141_10, s141_11, s141_14, s141_17, s141_19, s141_22, s141_23, s141_24, s141_25, s141_26, s141_29, s141_32, s141_35, s141_36, s141_37, s141_40, s141_43, s141_46, s141_47, s141_48, s141_50, s141_53, s141_56, s141_57, s141_58, s141_59, s141_62, s141_63, s141_64, s141_65, s141_68, s141_69, s141_72, s141_75, s141_76, s141_77, h, stands_eq, hst, within_eq, nightAdd_eq k1 h6, k1, xb_f, xb_n, ite_not, guard1, si_rd, and_self, if_true, true_or, or_true, nr_0, nl_6, hn31, hns31, h6, true_and, nI_pred]
  have hm : ∀ (τ : xM) (Q : Int32 → xM → Prop), τ.1 84 17 = nI ns → τ.1 84 47 = nI n → n < 6 → xI1 237 [.ref 84, .int a, .int b, .int c] τ Q = (if 0 < ns ∧ (1 ≤ a ∧ a ≤ 200) ∧ (0 ≤ b ∧ b ≤ 999) ∧ (1 ≤ c ∧ c ≤ 99) then Q (nI n) (xe_si (xe_si (xe_si (xe_si τ 110 (3 * n) a) 110 (3 * n + 1) b) 110 (3 * n + 2) c) 84 47 (nI (n + 1))) else Q (-1) τ) := by
    intro τ Q h1 h2 h6
    rw [e237]
    have b0 : 3 * n < 100000 := by omega
    have b1 : 3 * n + 1 < 100000 := by omega
    have b2 : 3 * n + 2 < 100000 := by omega
    have c0 : 3 * n < 18 := by omega
    have c1 : 3 * n + 1 < 18 := by omega
    have c2 : 3 * n + 2 < 18 := by omega
    have hn6' : (n = 6) = False := eq_false (by omega)
    simp only [s237_0, s237_1, s237_4, s237_7, s237_8, s237_9, s237_12, s237_15, s237_18, s237_19, s237_20, s237_23, s237_26, s237_29, s237_30, s237_31, s237_33, s237_36, s237_39, s237_40, s237_43, s237_45, s237_48, s237_49, s237_50, s237_51, s237_54, s237_55, s237_56, s237_59, s237_60, s237_61, s237_62, s237_63, s237_66, s237_67, s237_68, s237_71, s237_72, s237_73, s237_74, s237_75, s237_76, s237_77, s237_80, s237_81, s237_82, s237_85, s237_86, s237_87, s237_88, s237_89, s237_90, s237_91, s237_92, s237_95, s237_96, s237_97, s237_100, s237_101, s237_104, s237_105, s237_106, in_eq, h1, h2, xb_f, xb_n, ite_not, guard1, si_rd, and_self, if_true, if_false, true_or, or_true, true_and, nz_0, nq_6, hn31, hns31, hn6', xcl_110, xln_110, ml_3, al_1, al_2, nI_pred, b0, b1, b2, c0, c1, c2, cl_s, pos_s, show ((84 : Nat) = 110) = False from by decide, false_and]
  by_cases h6 : n < 6
  · rw [hx _ h6]
    by_cases hG : 0 < ns ∧ (1 ≤ a ∧ a ≤ 200) ∧ (0 ≤ b ∧ b ≤ 999) ∧ (1 ≤ c ∧ c ≤ 99)
    · rw [if_pos hG, hm (xe_si (xe_si (xe_si (xe_si σ 75 n a) 76 n b) 77 n c) 73 0 (nI (n + 1))) _ hm0 k2 h6, if_pos hG]
      refine ⟨rfl, hI.1.fr ⟨rfl, rfl, rfl, rfl, rfl, rfl, rfl, rfl, rfl, rfl, rfl, rfl, rfl, rfl, rfl, rfl⟩, hI.2.1, hI.2.2.1, hI.2.2.2.1, hI.2.2.2.2.1, hI.2.2.2.2.2.1, hI.2.2.2.2.2.2.1.fr hI.1 ⟨rfl, rfl, rfl, rfl, rfl, rfl, rfl, rfl, rfl, rfl, rfl, rfl, rfl, rfl, rfl, rfl⟩ ⟨rfl, rfl, rfl, rfl, rfl, rfl, rfl, rfl, rfl, rfl, rfl, rfl⟩, ⟨n + 1, by omega, rfl, rfl, fun i hi => ?_⟩, hI.2.2.2.2.2.2.2.2.1, hI.2.2.2.2.2.2.2.2.2⟩
      rcases Nat.lt_or_eq_of_le (Nat.le_of_lt_succ hi) with q | q
      · have h := hrow i q
        have f0 : (i = n) = False := eq_false (by omega)
        have f1 : (3 * i = 3 * n) = False := eq_false (by omega)
        have f2 : (3 * i = 3 * n + 1) = False := eq_false (by omega)
        have f3 : (3 * i = 3 * n + 2) = False := eq_false (by omega)
        have f4 : (3 * i + 1 = 3 * n) = False := eq_false (by omega)
        have f5 : (3 * i + 1 = 3 * n + 1) = False := eq_false (by omega)
        have f6 : (3 * i + 1 = 3 * n + 2) = False := eq_false (by omega)
        have f7 : (3 * i + 2 = 3 * n) = False := eq_false (by omega)
        have f8 : (3 * i + 2 = 3 * n + 1) = False := eq_false (by omega)
        have f9 : (3 * i + 2 = 3 * n + 2) = False := eq_false (by omega)
        simpa only [si_rd, Nat.reduceEqDiff, f0, f1, f2, f3, f4, f5, f6, f7, f8, f9, and_false, false_and, if_false] using h
      · subst q
        have f2 : (3 * i = 3 * i + 1) = False := eq_false (by omega)
        have f3 : (3 * i = 3 * i + 2) = False := eq_false (by omega)
        have f6 : (3 * i + 1 = 3 * i + 2) = False := eq_false (by omega)
        have f7 : (3 * i + 1 = 3 * i) = False := eq_false (by omega)
        have h := And.intro (bd_of hG.2.1) (And.intro (bd_of hG.2.2.1) (bd_of hG.2.2.2))
        simp only [si_rd, Nat.reduceEqDiff, f2, f3, f6, f7, and_false, false_and, and_self, if_false, if_true, true_and]
        exact h
    · rw [if_neg hG, hm _ _ hm0 k2 h6, if_neg hG]
      exact ⟨rfl, hI⟩
  · have h60 : (n < 6) = False := eq_false h6
    have h66 : (n = 6) = True := eq_true (by omega)
    have hx6 : ∀ Q : Int32 → xM → Prop, xI1 141 [.ref 0, .int a, .int b, .int c] σ Q = Q (-1) σ := by
      intro Q
      rw [e141]
      rcases hp with h | h <;> rw [h] at hst <;> simp only [s141_0, s141_1, s141_4_4, s141_4_7, s141_7, s141_10, s141_11, s141_14, s141_17, s141_19, s141_22, s141_23, s141_24, s141_25, s141_26, s141_29, s141_32, s141_35, s141_36, s141_37, s141_40, s141_43, s141_46, s141_47, s141_48, s141_50, s141_53, s141_56, s141_57, s141_58, s141_59, s141_62, s141_63, s141_64, s141_65, s141_68, s141_69, s141_72, s141_75, s141_76, s141_77, h, stands_eq, hst, k1, xb_f, ite_not, nr_0, nl_6, hns31, hn31, h60, if_false, ite_self, true_or, or_true]
    have hm6 : ∀ Q : Int32 → xM → Prop, xI1 237 [.ref 84, .int a, .int b, .int c] σ Q = Q (-1) σ := by
      intro Q
      rw [e237]
      simp only [s237_0, s237_1, s237_4, s237_7, s237_8, s237_9, s237_12, s237_15, s237_18, s237_19, s237_20, s237_23, s237_26, s237_29, s237_30, s237_31, s237_33, s237_36, s237_39, s237_40, s237_43, s237_45, s237_48, s237_49, s237_50, s237_51, s237_54, s237_55, s237_56, s237_59, s237_60, s237_61, s237_62, s237_63, s237_66, s237_67, s237_68, s237_71, s237_72, s237_73, s237_74, s237_75, s237_76, s237_77, s237_80, s237_81, s237_82, s237_85, s237_86, s237_87, s237_88, s237_89, s237_90, s237_91, s237_92, s237_95, s237_96, s237_97, s237_100, s237_101, s237_104, s237_105, s237_106, in_eq, hm0, k2, xb_f, ite_not, nz_0, nq_6, hns31, hn31, h66, if_true, ite_self]
    rw [hx6, hm6]
    exact ⟨rfl, hI⟩
