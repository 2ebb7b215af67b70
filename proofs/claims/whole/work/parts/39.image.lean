/-! image, back -/
theorem cp_rd (σ : xM) (k k2 sp dp n a b : Nat) : (xe_cp σ k k2 sp dp n).1 a b = if a = k2 ∧ dp ≤ b ∧ b < dp + n then σ.1 k (sp + (b - dp)) else σ.1 a b := rfl
theorem cp_ne {σ : xM} {k k2 sp dp n a : Nat} (h : a ≠ k2) : (xe_cp σ k k2 sp dp n).1 a = σ.1 a := by
  funext b; rw [cp_rd, if_neg (fun q => h q.1)]
theorem cp_succ (σ : xM) {k k2 : Nat} (sp dp n : Nat) : xe_si (xe_cp σ k k2 sp dp n) k2 (dp + n) (σ.1 k (sp + n)) = xe_cp σ k k2 sp dp (n + 1) := by
  apply Prod.ext
  · funext a b
    show (if a = k2 ∧ b = dp + n then σ.1 k (sp + n) else if a = k2 ∧ dp ≤ b ∧ b < dp + n then σ.1 k (sp + (b - dp)) else σ.1 a b) = if a = k2 ∧ dp ≤ b ∧ b < dp + (n + 1) then σ.1 k (sp + (b - dp)) else σ.1 a b
    by_cases h1 : a = k2
    · by_cases h2 : b = dp + n
      · rw [if_pos ⟨h1, h2⟩, if_pos ⟨h1, by omega, by omega⟩, h2]
        rw [show dp + n - dp = n by omega]
      · rw [if_neg (fun q => h2 q.2)]
        by_cases h3 : dp ≤ b ∧ b < dp + n
        · rw [if_pos ⟨h1, h3⟩, if_pos ⟨h1, by omega, by omega⟩]
        · rw [if_neg (fun q => h3 q.2), if_neg (fun q => h3 ⟨q.2.1, by omega⟩)]
    · rw [if_neg (fun q => h1 q.1), if_neg (fun q => h1 q.1), if_neg (fun q => h1 q.1)]
  · rfl
theorem cp_zero (σ : xM) (k k2 sp dp : Nat) : xe_cp σ k k2 sp dp 0 = σ := by
  apply Prod.ext
  · funext a b
    show (if a = k2 ∧ dp ≤ b ∧ b < dp + 0 then σ.1 k (sp + (b - dp)) else σ.1 a b) = σ.1 a b
    rw [if_neg (fun q => by omega)]
  · rfl
/-- what a copy of a ship does -/
def cpy (σ τ : xM) (s d : Nat) : Prop := τ.2 = σ.2 ∧ (∀ j, j < 4 → τ.1 d j = σ.1 s j) ∧ (∀ c j, c < 6 → j < 6 → τ.1 (d + 1 + c) j = σ.1 (s + 1 + c) j) ∧ ∀ k, k < d ∨ d + 6 < k → τ.1 k = σ.1 k
theorem cpy_of {σ : xM} {s d : Nat} (hsd : (s = 10 ∧ (d = 17 ∨ d = 24 ∨ d = 31)) ∨ (d = 10 ∧ (s = 17 ∨ s = 24 ∨ s = 31))) (h01 : σ.1 s 0 = 0 ∨ σ.1 s 0 = 1) : ∃ τ, (∀ Q : xM → Prop, xV 108 [.ref d, .ref s] σ Q = Q τ) ∧ cpy σ τ s d := by
  have z0 : ((0 : Int32) ≤ 0) = True := eq_true (by decide)
  have z6 : ((0 : Int32) ≤ 6) = True := eq_true (by decide)
  have c0 : (0 : Int32).toNatClampNeg = 0 := by decide
  have c6 : (6 : Int32).toNatClampNeg = 6 := by decide
  rcases hsd with ⟨rfl, rfl | rfl | rfl⟩ | ⟨rfl, rfl | rfl | rfl⟩
  · refine ⟨(xe_cp (xe_cp (xe_cp (xe_cp (xe_cp (xe_cp (xe_si (xe_si (xe_si (xe_si σ 17 0 (σ.1 10 0)) 17 1 (σ.1 10 1)) 17 2 (σ.1 10 2)) 17 3 (σ.1 10 3)) 11 18 0 0 6) 12 19 0 0 6) 13 20 0 0 6) 14 21 0 0 6) 15 22 0 0 6) 16 23 0 0 6), fun Q => ?_, ?_⟩
    · rw [e108]
      simp only [s108_0, s108_1, s108_2_10, s108_2_17, s108_2_24, s108_2_31, s108_5_10, s108_5_17, s108_5_24, s108_5_31, s108_8, s108_9, s108_10_10, s108_10_17, s108_10_24, s108_10_31, s108_13_10, s108_13_17, s108_13_24, s108_13_31, s108_16, s108_17, s108_18_10, s108_18_17, s108_18_24, s108_18_31, s108_21_10, s108_21_17, s108_21_24, s108_21_31, s108_24, s108_25, s108_26_10, s108_26_17, s108_26_24, s108_26_31, s108_29_10, s108_29_17, s108_29_24, s108_29_31, s108_32, s108_33_10, s108_33_17, s108_33_24, s108_33_31, s108_36, s108_37, s108_38_10, s108_38_17, s108_38_24, s108_38_31, s108_41, s108_42, s108_44, s108_47, s108_48_10, s108_48_17, s108_48_24, s108_48_31, s108_51, s108_52, s108_53_10, s108_53_17, s108_53_24, s108_53_31, s108_56, s108_57, s108_59, s108_62, s108_63_10, s108_63_17, s108_63_24, s108_63_31, s108_66, s108_67, s108_68_10, s108_68_17, s108_68_24, s108_68_31, s108_71, s108_72, s108_74, s108_77, s108_78_10, s108_78_17, s108_78_24, s108_78_31, s108_81, s108_82, s108_83_10, s108_83_17, s108_83_24, s108_83_31, s108_86, s108_87, s108_89, s108_92, s108_93_10, s108_93_17, s108_93_24, s108_93_31, s108_96, s108_97, s108_98_10, s108_98_17, s108_98_24, s108_98_31, s108_101, s108_102, s108_104, s108_107, s108_108_10, s108_108_17, s108_108_24, s108_108_31, s108_111, s108_112, s108_113_10, s108_113_17, s108_113_24, s108_113_31, s108_116, s108_117, s108_119, s108_122, h01, z0, z6, c0, c6, xcl_11, xcl_12, xcl_13, xcl_14, xcl_15, xcl_16, xcl_18, xcl_19, xcl_20, xcl_21, xcl_22, xcl_23, xln_11, xln_12, xln_13, xln_14, xln_15, xln_16, xln_18, xln_19, xln_20, xln_21, xln_22, xln_23, si_rd, Nat.reduceEqDiff, false_and, if_false, Nat.zero_add, Nat.le_refl, true_and]
    · refine ⟨rfl, fun j hj => ?_, fun c j hc hj => ?_, fun k hk => ?_⟩
      · have : j = 0 ∨ j = 1 ∨ j = 2 ∨ j = 3 := by omega
        rcases this with rfl | rfl | rfl | rfl <;> rfl
      · have : c = 0 ∨ c = 1 ∨ c = 2 ∨ c = 3 ∨ c = 4 ∨ c = 5 := by omega
        rcases this with rfl | rfl | rfl | rfl | rfl | rfl <;> simp only [cp_rd, si_rd, Nat.reduceAdd, Nat.reduceEqDiff, hj, Nat.zero_add, Nat.zero_le, Nat.sub_zero, false_and, true_and, and_self, if_true, if_false]
      · funext b
        have f1 : ∀ c, 17 ≤ c → c ≤ 23 → (k = c) = False := fun c h1 h2 => eq_false (by omega)
        simp only [cp_rd, si_rd, f1, Nat.reduceLeDiff, Nat.le_refl, false_and, if_false]
  · refine ⟨(xe_cp (xe_cp (xe_cp (xe_cp (xe_cp (xe_cp (xe_si (xe_si (xe_si (xe_si σ 24 0 (σ.1 10 0)) 24 1 (σ.1 10 1)) 24 2 (σ.1 10 2)) 24 3 (σ.1 10 3)) 11 25 0 0 6) 12 26 0 0 6) 13 27 0 0 6) 14 28 0 0 6) 15 29 0 0 6) 16 30 0 0 6), fun Q => ?_, ?_⟩
    · rw [e108]
      simp only [s108_0, s108_1, s108_2_10, s108_2_17, s108_2_24, s108_2_31, s108_5_10, s108_5_17, s108_5_24, s108_5_31, s108_8, s108_9, s108_10_10, s108_10_17, s108_10_24, s108_10_31, s108_13_10, s108_13_17, s108_13_24, s108_13_31, s108_16, s108_17, s108_18_10, s108_18_17, s108_18_24, s108_18_31, s108_21_10, s108_21_17, s108_21_24, s108_21_31, s108_24, s108_25, s108_26_10, s108_26_17, s108_26_24, s108_26_31, s108_29_10, s108_29_17, s108_29_24, s108_29_31, s108_32, s108_33_10, s108_33_17, s108_33_24, s108_33_31, s108_36, s108_37, s108_38_10, s108_38_17, s108_38_24, s108_38_31, s108_41, s108_42, s108_44, s108_47, s108_48_10, s108_48_17, s108_48_24, s108_48_31, s108_51, s108_52, s108_53_10, s108_53_17, s108_53_24, s108_53_31, s108_56, s108_57, s108_59, s108_62, s108_63_10, s108_63_17, s108_63_24, s108_63_31, s108_66, s108_67, s108_68_10, s108_68_17, s108_68_24, s108_68_31, s108_71, s108_72, s108_74, s108_77, s108_78_10, s108_78_17, s108_78_24, s108_78_31, s108_81, s108_82, s108_83_10, s108_83_17, s108_83_24, s108_83_31, s108_86, s108_87, s108_89, s108_92, s108_93_10, s108_93_17, s108_93_24, s108_93_31, s108_96, s108_97, s108_98_10, s108_98_17, s108_98_24, s108_98_31, s108_101, s108_102, s108_104, s108_107, s108_108_10, s108_108_17, s108_108_24, s108_108_31, s108_111, s108_112, s108_113_10, s108_113_17, s108_113_24, s108_113_31, s108_116, s108_117, s108_119, s108_122, h01, z0, z6, c0, c6, xcl_11, xcl_12, xcl_13, xcl_14, xcl_15, xcl_16, xcl_25, xcl_26, xcl_27, xcl_28, xcl_29, xcl_30, xln_11, xln_12, xln_13, xln_14, xln_15, xln_16, xln_25, xln_26, xln_27, xln_28, xln_29, xln_30, si_rd, Nat.reduceEqDiff, false_and, if_false, Nat.zero_add, Nat.le_refl, true_and]
    · refine ⟨rfl, fun j hj => ?_, fun c j hc hj => ?_, fun k hk => ?_⟩
      · have : j = 0 ∨ j = 1 ∨ j = 2 ∨ j = 3 := by omega
        rcases this with rfl | rfl | rfl | rfl <;> rfl
      · have : c = 0 ∨ c = 1 ∨ c = 2 ∨ c = 3 ∨ c = 4 ∨ c = 5 := by omega
        rcases this with rfl | rfl | rfl | rfl | rfl | rfl <;> simp only [cp_rd, si_rd, Nat.reduceAdd, Nat.reduceEqDiff, hj, Nat.zero_add, Nat.zero_le, Nat.sub_zero, false_and, true_and, and_self, if_true, if_false]
      · funext b
        have f1 : ∀ c, 24 ≤ c → c ≤ 30 → (k = c) = False := fun c h1 h2 => eq_false (by omega)
        simp only [cp_rd, si_rd, f1, Nat.reduceLeDiff, Nat.le_refl, false_and, if_false]
  · refine ⟨(xe_cp (xe_cp (xe_cp (xe_cp (xe_cp (xe_cp (xe_si (xe_si (xe_si (xe_si σ 31 0 (σ.1 10 0)) 31 1 (σ.1 10 1)) 31 2 (σ.1 10 2)) 31 3 (σ.1 10 3)) 11 32 0 0 6) 12 33 0 0 6) 13 34 0 0 6) 14 35 0 0 6) 15 36 0 0 6) 16 37 0 0 6), fun Q => ?_, ?_⟩
    · rw [e108]
      simp only [s108_0, s108_1, s108_2_10, s108_2_17, s108_2_24, s108_2_31, s108_5_10, s108_5_17, s108_5_24, s108_5_31, s108_8, s108_9, s108_10_10, s108_10_17, s108_10_24, s108_10_31, s108_13_10, s108_13_17, s108_13_24, s108_13_31, s108_16, s108_17, s108_18_10, s108_18_17, s108_18_24, s108_18_31, s108_21_10, s108_21_17, s108_21_24, s108_21_31, s108_24, s108_25, s108_26_10, s108_26_17, s108_26_24, s108_26_31, s108_29_10, s108_29_17, s108_29_24, s108_29_31, s108_32, s108_33_10, s108_33_17, s108_33_24, s108_33_31, s108_36, s108_37, s108_38_10, s108_38_17, s108_38_24, s108_38_31, s108_41, s108_42, s108_44, s108_47, s108_48_10, s108_48_17, s108_48_24, s108_48_31, s108_51, s108_52, s108_53_10, s108_53_17, s108_53_24, s108_53_31, s108_56, s108_57, s108_59, s108_62, s108_63_10, s108_63_17, s108_63_24, s108_63_31, s108_66, s108_67, s108_68_10, s108_68_17, s108_68_24, s108_68_31, s108_71, s108_72, s108_74, s108_77, s108_78_10, s108_78_17, s108_78_24, s108_78_31, s108_81, s108_82, s108_83_10, s108_83_17, s108_83_24, s108_83_31, s108_86, s108_87, s108_89, s108_92, s108_93_10, s108_93_17, s108_93_24, s108_93_31, s108_96, s108_97, s108_98_10, s108_98_17, s108_98_24, s108_98_31, s108_101, s108_102, s108_104, s108_107, s108_108_10, s108_108_17, s108_108_24, s108_108_31, s108_111, s108_112, s108_113_10, s108_113_17, s108_113_24, s108_113_31, s108_116, s108_117, s108_119, s108_122, h01, z0, z6, c0, c6, xcl_11, xcl_12, xcl_13, xcl_14, xcl_15, xcl_16, xcl_32, xcl_33, xcl_34, xcl_35, xcl_36, xcl_37, xln_11, xln_12, xln_13, xln_14, xln_15, xln_16, xln_32, xln_33, xln_34, xln_35, xln_36, xln_37, si_rd, Nat.reduceEqDiff, false_and, if_false, Nat.zero_add, Nat.le_refl, true_and]
    · refine ⟨rfl, fun j hj => ?_, fun c j hc hj => ?_, fun k hk => ?_⟩
      · have : j = 0 ∨ j = 1 ∨ j = 2 ∨ j = 3 := by omega
        rcases this with rfl | rfl | rfl | rfl <;> rfl
      · have : c = 0 ∨ c = 1 ∨ c = 2 ∨ c = 3 ∨ c = 4 ∨ c = 5 := by omega
        rcases this with rfl | rfl | rfl | rfl | rfl | rfl <;> simp only [cp_rd, si_rd, Nat.reduceAdd, Nat.reduceEqDiff, hj, Nat.zero_add, Nat.zero_le, Nat.sub_zero, false_and, true_and, and_self, if_true, if_false]
      · funext b
        have f1 : ∀ c, 31 ≤ c → c ≤ 37 → (k = c) = False := fun c h1 h2 => eq_false (by omega)
        simp only [cp_rd, si_rd, f1, Nat.reduceLeDiff, Nat.le_refl, false_and, if_false]
  · refine ⟨(xe_cp (xe_cp (xe_cp (xe_cp (xe_cp (xe_cp (xe_si (xe_si (xe_si (xe_si σ 10 0 (σ.1 17 0)) 10 1 (σ.1 17 1)) 10 2 (σ.1 17 2)) 10 3 (σ.1 17 3)) 18 11 0 0 6) 19 12 0 0 6) 20 13 0 0 6) 21 14 0 0 6) 22 15 0 0 6) 23 16 0 0 6), fun Q => ?_, ?_⟩
    · rw [e108]
      simp only [s108_0, s108_1, s108_2_10, s108_2_17, s108_2_24, s108_2_31, s108_5_10, s108_5_17, s108_5_24, s108_5_31, s108_8, s108_9, s108_10_10, s108_10_17, s108_10_24, s108_10_31, s108_13_10, s108_13_17, s108_13_24, s108_13_31, s108_16, s108_17, s108_18_10, s108_18_17, s108_18_24, s108_18_31, s108_21_10, s108_21_17, s108_21_24, s108_21_31, s108_24, s108_25, s108_26_10, s108_26_17, s108_26_24, s108_26_31, s108_29_10, s108_29_17, s108_29_24, s108_29_31, s108_32, s108_33_10, s108_33_17, s108_33_24, s108_33_31, s108_36, s108_37, s108_38_10, s108_38_17, s108_38_24, s108_38_31, s108_41, s108_42, s108_44, s108_47, s108_48_10, s108_48_17, s108_48_24, s108_48_31, s108_51, s108_52, s108_53_10, s108_53_17, s108_53_24, s108_53_31, s108_56, s108_57, s108_59, s108_62, s108_63_10, s108_63_17, s108_63_24, s108_63_31, s108_66, s108_67, s108_68_10, s108_68_17, s108_68_24, s108_68_31, s108_71, s108_72, s108_74, s108_77, s108_78_10, s108_78_17, s108_78_24, s108_78_31, s108_81, s108_82, s108_83_10, s108_83_17, s108_83_24, s108_83_31, s108_86, s108_87, s108_89, s108_92, s108_93_10, s108_93_17, s108_93_24, s108_93_31, s108_96, s108_97, s108_98_10, s108_98_17, s108_98_24, s108_98_31, s108_101, s108_102, s108_104, s108_107, s108_108_10, s108_108_17, s108_108_24, s108_108_31, s108_111, s108_112, s108_113_10, s108_113_17, s108_113_24, s108_113_31, s108_116, s108_117, s108_119, s108_122, h01, z0, z6, c0, c6, xcl_18, xcl_19, xcl_20, xcl_21, xcl_22, xcl_23, xcl_11, xcl_12, xcl_13, xcl_14, xcl_15, xcl_16, xln_18, xln_19, xln_20, xln_21, xln_22, xln_23, xln_11, xln_12, xln_13, xln_14, xln_15, xln_16, si_rd, Nat.reduceEqDiff, false_and, if_false, Nat.zero_add, Nat.le_refl, true_and]
    · refine ⟨rfl, fun j hj => ?_, fun c j hc hj => ?_, fun k hk => ?_⟩
      · have : j = 0 ∨ j = 1 ∨ j = 2 ∨ j = 3 := by omega
        rcases this with rfl | rfl | rfl | rfl <;> rfl
      · have : c = 0 ∨ c = 1 ∨ c = 2 ∨ c = 3 ∨ c = 4 ∨ c = 5 := by omega
        rcases this with rfl | rfl | rfl | rfl | rfl | rfl <;> simp only [cp_rd, si_rd, Nat.reduceAdd, Nat.reduceEqDiff, hj, Nat.zero_add, Nat.zero_le, Nat.sub_zero, false_and, true_and, and_self, if_true, if_false]
      · funext b
        have f1 : ∀ c, 10 ≤ c → c ≤ 16 → (k = c) = False := fun c h1 h2 => eq_false (by omega)
        simp only [cp_rd, si_rd, f1, Nat.reduceLeDiff, Nat.le_refl, false_and, if_false]
  · refine ⟨(xe_cp (xe_cp (xe_cp (xe_cp (xe_cp (xe_cp (xe_si (xe_si (xe_si (xe_si σ 10 0 (σ.1 24 0)) 10 1 (σ.1 24 1)) 10 2 (σ.1 24 2)) 10 3 (σ.1 24 3)) 25 11 0 0 6) 26 12 0 0 6) 27 13 0 0 6) 28 14 0 0 6) 29 15 0 0 6) 30 16 0 0 6), fun Q => ?_, ?_⟩
    · rw [e108]
      simp only [s108_0, s108_1, s108_2_10, s108_2_17, s108_2_24, s108_2_31, s108_5_10, s108_5_17, s108_5_24, s108_5_31, s108_8, s108_9, s108_10_10, s108_10_17, s108_10_24, s108_10_31, s108_13_10, s108_13_17, s108_13_24, s108_13_31, s108_16, s108_17, s108_18_10, s108_18_17, s108_18_24, s108_18_31, s108_21_10, s108_21_17, s108_21_24, s108_21_31, s108_24, s108_25, s108_26_10, s108_26_17, s108_26_24, s108_26_31, s108_29_10, s108_29_17, s108_29_24, s108_29_31, s108_32, s108_33_10, s108_33_17, s108_33_24, s108_33_31, s108_36, s108_37, s108_38_10, s108_38_17, s108_38_24, s108_38_31, s108_41, s108_42, s108_44, s108_47, s108_48_10, s108_48_17, s108_48_24, s108_48_31, s108_51, s108_52, s108_53_10, s108_53_17, s108_53_24, s108_53_31, s108_56, s108_57, s108_59, s108_62, s108_63_10, s108_63_17, s108_63_24, s108_63_31, s108_66, s108_67, s108_68_10, s108_68_17, s108_68_24, s108_68_31, s108_71, s108_72, s108_74, s108_77, s108_78_10, s108_78_17, s108_78_24, s108_78_31, s108_81, s108_82, s108_83_10, s108_83_17, s108_83_24, s108_83_31, s108_86, s108_87, s108_89, s108_92, s108_93_10, s108_93_17, s108_93_24, s108_93_31, s108_96, s108_97, s108_98_10, s108_98_17, s108_98_24, s108_98_31, s108_101, s108_102, s108_104, s108_107, s108_108_10, s108_108_17, s108_108_24, s108_108_31, s108_111, s108_112, s108_113_10, s108_113_17, s108_113_24, s108_113_31, s108_116, s108_117, s108_119, s108_122, h01, z0, z6, c0, c6, xcl_25, xcl_26, xcl_27, xcl_28, xcl_29, xcl_30, xcl_11, xcl_12, xcl_13, xcl_14, xcl_15, xcl_16, xln_25, xln_26, xln_27, xln_28, xln_29, xln_30, xln_11, xln_12, xln_13, xln_14, xln_15, xln_16, si_rd, Nat.reduceEqDiff, false_and, if_false, Nat.zero_add, Nat.le_refl, true_and]
    · refine ⟨rfl, fun j hj => ?_, fun c j hc hj => ?_, fun k hk => ?_⟩
      · have : j = 0 ∨ j = 1 ∨ j = 2 ∨ j = 3 := by omega
        rcases this with rfl | rfl | rfl | rfl <;> rfl
      · have : c = 0 ∨ c = 1 ∨ c = 2 ∨ c = 3 ∨ c = 4 ∨ c = 5 := by omega
        rcases this with rfl | rfl | rfl | rfl | rfl | rfl <;> simp only [cp_rd, si_rd, Nat.reduceAdd, Nat.reduceEqDiff, hj, Nat.zero_add, Nat.zero_le, Nat.sub_zero, false_and, true_and, and_self, if_true, if_false]
      · funext b
        have f1 : ∀ c, 10 ≤ c → c ≤ 16 → (k = c) = False := fun c h1 h2 => eq_false (by omega)
        simp only [cp_rd, si_rd, f1, Nat.reduceLeDiff, Nat.le_refl, false_and, if_false]
  · refine ⟨(xe_cp (xe_cp (xe_cp (xe_cp (xe_cp (xe_cp (xe_si (xe_si (xe_si (xe_si σ 10 0 (σ.1 31 0)) 10 1 (σ.1 31 1)) 10 2 (σ.1 31 2)) 10 3 (σ.1 31 3)) 32 11 0 0 6) 33 12 0 0 6) 34 13 0 0 6) 35 14 0 0 6) 36 15 0 0 6) 37 16 0 0 6), fun Q => ?_, ?_⟩
    · rw [e108]
      simp only [s108_0, s108_1, s108_2_10, s108_2_17, s108_2_24, s108_2_31, s108_5_10, s108_5_17, s108_5_24, s108_5_31, s108_8, s108_9, s108_10_10, s108_10_17, s108_10_24, s108_10_31, s108_13_10, s108_13_17, s108_13_24, s108_13_31, s108_16, s108_17, s108_18_10, s108_18_17, s108_18_24, s108_18_31, s108_21_10, s108_21_17, s108_21_24, s108_21_31, s108_24, s108_25, s108_26_10, s108_26_17, s108_26_24, s108_26_31, s108_29_10, s108_29_17, s108_29_24, s108_29_31, s108_32, s108_33_10, s108_33_17, s108_33_24, s108_33_31, s108_36, s108_37, s108_38_10, s108_38_17, s108_38_24, s108_38_31, s108_41, s108_42, s108_44, s108_47, s108_48_10, s108_48_17, s108_48_24, s108_48_31, s108_51, s108_52, s108_53_10, s108_53_17, s108_53_24, s108_53_31, s108_56, s108_57, s108_59, s108_62, s108_63_10, s108_63_17, s108_63_24, s108_63_31, s108_66, s108_67, s108_68_10, s108_68_17, s108_68_24, s108_68_31, s108_71, s108_72, s108_74, s108_77, s108_78_10, s108_78_17, s108_78_24, s108_78_31, s108_81, s108_82, s108_83_10, s108_83_17, s108_83_24, s108_83_31, s108_86, s108_87, s108_89, s108_92, s108_93_10, s108_93_17, s108_93_24, s108_93_31, s108_96, s108_97, s108_98_10, s108_98_17, s108_98_24, s108_98_31, s108_101, s108_102, s108_104, s108_107, s108_108_10, s108_108_17, s108_108_24, s108_108_31, s108_111, s108_112, s108_113_10, s108_113_17, s108_113_24, s108_113_31, s108_116, s108_117, s108_119, s108_122, h01, z0, z6, c0, c6, xcl_32, xcl_33, xcl_34, xcl_35, xcl_36, xcl_37, xcl_11, xcl_12, xcl_13, xcl_14, xcl_15, xcl_16, xln_32, xln_33, xln_34, xln_35, xln_36, xln_37, xln_11, xln_12, xln_13, xln_14, xln_15, xln_16, si_rd, Nat.reduceEqDiff, false_and, if_false, Nat.zero_add, Nat.le_refl, true_and]
    · refine ⟨rfl, fun j hj => ?_, fun c j hc hj => ?_, fun k hk => ?_⟩
      · have : j = 0 ∨ j = 1 ∨ j = 2 ∨ j = 3 := by omega
        rcases this with rfl | rfl | rfl | rfl <;> rfl
      · have : c = 0 ∨ c = 1 ∨ c = 2 ∨ c = 3 ∨ c = 4 ∨ c = 5 := by omega
        rcases this with rfl | rfl | rfl | rfl | rfl | rfl <;> simp only [cp_rd, si_rd, Nat.reduceAdd, Nat.reduceEqDiff, hj, Nat.zero_add, Nat.zero_le, Nat.sub_zero, false_and, true_and, and_self, if_true, if_false]
      · funext b
        have f1 : ∀ c, 10 ≤ c → c ≤ 16 → (k = c) = False := fun c h1 h2 => eq_false (by omega)
        simp only [cp_rd, si_rd, f1, Nat.reduceLeDiff, Nat.le_refl, false_and, if_false]
