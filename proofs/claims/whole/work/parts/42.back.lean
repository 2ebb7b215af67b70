/-! back -/
theorem Mback_loop {τ : xM} {k : Nat} (hk : k < 3) {Q : Int32 → xM → Prop} : ∀ j m, m + j = 36 → xC 243 57 [some (.ref 84), some (.int (nI k)), some (.int (nI m))] [] (xe_cp τ 103 98 (36 * k) 0 m) (xqI Q) = Q 1 (xe_cp τ 103 98 (36 * k) 0 36) := by
  intro j
  induction j with
  | zero =>
    intro m hm
    obtain rfl : m = 36 := by omega
    rw [s243_57]
    simp only [s243_0, s243_1, s243_2, s243_3, s243_6, s243_9, s243_10, s243_13, s243_14, s243_15, s243_18, s243_19, s243_20, s243_21, s243_22, s243_25, s243_26, s243_27, s243_30, s243_31, s243_32, s243_35, s243_36, s243_37, s243_40, s243_41, s243_42, s243_45, s243_46, s243_47, s243_50, s243_51, s243_52, s243_55, s243_56, s243_58, s243_60, s243_63, s243_64, s243_67, s243_68, s243_69, s243_72, s243_74, s243_75, s243_76, s243_77, s243_78, s243_79, s243_80, s243_83, s243_86, s243_87, show ((36 : Int32) ≤ nI 36) = True from eq_true (by decide), if_true, true_or, or_true, true_and]
  | succ j ih =>
    intro m hm
    have e : ((36 : Int32) ≤ nI m) = False := eq_false (fun q => by have := (nI_leI (a := 36) (b := m) (by decide) (by omega)).mp q; omega)
    have m36 : (36 : Int32) * nI k = nI (36 * k) := pk_mul 36 k
    have b0 : m < 100000 := by omega
    have b1 : 36 * k + m < 100000 := by omega
    have c0 : m < 36 := by omega
    have c1 : 36 * k + m < 108 := by omega
    have hc := cp_succ τ (k := 103) (k2 := 98) (36 * k) 0 m
    rw [Nat.zero_add] at hc
    rw [s243_57]
    simp only [s243_0, s243_1, s243_2, s243_3, s243_6, s243_9, s243_10, s243_13, s243_14, s243_15, s243_18, s243_19, s243_20, s243_21, s243_22, s243_25, s243_26, s243_27, s243_30, s243_31, s243_32, s243_35, s243_36, s243_37, s243_40, s243_41, s243_42, s243_45, s243_46, s243_47, s243_50, s243_51, s243_52, s243_55, s243_56, s243_58, s243_60, s243_63, s243_64, s243_67, s243_68, s243_69, s243_72, s243_74, s243_75, s243_76, s243_77, s243_78, s243_79, s243_80, s243_83, s243_86, s243_87, e, if_false, m36, nI_add, xcl_98, xcl_103, xln_98, xln_103, b0, b1, c0, c1, cl_s, pos_s, cp_rd, Nat.reduceEqDiff, false_and, true_and, hc, nI_1]
    exact ih (m + 1) (by omega)
def baB (σ : xM) (k : Nat) : xM := xe_si (xe_si (xe_si (xe_si σ 84 28 1) 84 29 (σ.1 100 k)) 84 30 (σ.1 101 k)) 84 31 (σ.1 102 k)
theorem Mback_eq {σ : xM} {k : Nat} (hk : k < 3) (h99 : σ.1 99 k = 1) {Q : Int32 → xM → Prop} : xI1 243 [.ref 84, .int (nI k)] σ Q = Q 1 (xe_cp (baB σ k) 103 98 (36 * k) 0 36) := by
  have g1 : (0 ≤ nI k) = True := eq_true (nI_pos' (by omega))
  have g2 : (nI k ≤ 2) = True := eq_true ((nI_leI (b := 2) (by omega) (by decide)).mpr (by omega))
  have b0 : k < 100000 := by omega
  have h10 : ¬ (1 : Int32) = 0 := by decide
  rw [e243]
  simp only [s243_0, s243_1, s243_2, s243_3, s243_6, s243_9, s243_10, s243_13, s243_14, s243_15, s243_18, s243_19, s243_20, s243_21, s243_22, s243_25, s243_26, s243_27, s243_30, s243_31, s243_32, s243_35, s243_36, s243_37, s243_40, s243_41, s243_42, s243_45, s243_46, s243_47, s243_50, s243_51, s243_52, s243_55, s243_56, s243_58, s243_60, s243_63, s243_64, s243_67, s243_68, s243_69, s243_72, s243_74, s243_75, s243_76, s243_77, s243_78, s243_79, s243_80, s243_83, s243_86, s243_87, h99, in_eq, g1, g2, and_self, xb_f, ite_not, not_true, if_true, if_false, h10, xcl_99, xcl_100, xcl_101, xcl_102, xln_99, xln_100, xln_101, xln_102, b0, hk, cl_s, pos_s, si_rd, Nat.reduceEqDiff, false_and, true_and, true_or, or_true]
  have h := Mback_loop (τ := baB σ k) hk (Q := Q) 36 0 rfl
  rw [cp_zero] at h
  exact h
theorem op_back (a : Int32) : xOp 146 243 [.int a] := by
  intro xs L σ hI
  have h10 : ¬ (1 : Int32) = 0 := by decide
  by_cases hG : 0 ≤ a ∧ a ≤ 2
  · obtain ⟨k, hk, rfl⟩ := nI_of (Int32.not_lt.mpr hG.1)
    have hk3 : k < 3 := by have := (nI_leI (b := 2) hk (by decide)).mp hG.2; omega
    have hd : 17 + 7 * k = 17 ∨ 17 + 7 * k = 24 ∨ 17 + 7 * k = 31 := by omega
    obtain ⟨a1, a2, a3⟩ := gI_all.mp hI.2.2.2.1 k hk3
    have hget : ∀ (l0 l1 l2 : Option Value) (Q : Option Value → xM → Prop), xC 146 11 [l0, l1, l2] [.ref (17 + 7 * k)] σ Q = xC 146 14 [l0, l1, l2] [.int (σ.1 (17 + 7 * k) 0)] σ Q := by
      intro l0 l1 l2 Q
      rcases hd with e | e | e <;> rw [e] <;> simp only [s146_11_10, s146_11_17, s146_11_24, s146_11_31]
    rcases a1 with h0 | h0
    · have h99 := a2.trans h0
      have g1 : (0 ≤ nI k) = True := eq_true hG.1
      have g2 : (nI k ≤ 2) = True := eq_true hG.2
      have b0 : k < 100000 := by omega
      rw [e146]
      simp only [s146_0, s146_0_n, s146_1, s146_2, s146_5, s146_5_n, s146_6, s146_6_n, s146_7, s146_7_n, s146_10, s146_10_n, s146_14, s146_17, s146_18, imageAt_in hk3, hget, h0, not_true, if_true, if_false, true_or, or_true, true_and]
      rw [e243]
      simp only [s243_0, s243_1, s243_2, s243_3, s243_6, s243_9, s243_10, s243_13, s243_14, s243_15, s243_18, s243_19, s243_20, s243_21, s243_22, s243_25, s243_26, s243_27, s243_30, s243_31, s243_32, s243_35, s243_36, s243_37, s243_40, s243_41, s243_42, s243_45, s243_46, s243_47, s243_50, s243_51, s243_52, s243_55, s243_56, s243_58, s243_60, s243_63, s243_64, s243_67, s243_68, s243_69, s243_72, s243_74, s243_75, s243_76, s243_77, s243_78, s243_79, s243_80, s243_83, s243_86, s243_87, in_eq, g1, g2, h99, xcl_99, xln_99, b0, hk3, cl_s, pos_s, and_self, xb_f, ite_not, not_true, if_true, if_false, true_or, or_true, true_and]
      first | exact hI | exact ⟨rfl, hI⟩
    · have h99 := a2.trans h0
      obtain ⟨n, hn6, k1, k2, s1, s2, s3, s4, s5, hrow⟩ := a3 h0
      obtain ⟨τ, hτ, t2, t3, t4, t5⟩ := cpy_of (σ := σ) (s := 17 + 7 * k) (d := 10) (Or.inr ⟨rfl, hd⟩) (Or.inr h0)
      rw [e146]
      simp only [s146_0, s146_0_n, s146_1, s146_2, s146_5, s146_5_n, s146_6, s146_6_n, s146_7, s146_7_n, s146_10, s146_10_n, s146_14, s146_17, s146_18, s146_19, s146_19_n, s146_20, s146_23, s146_23_n, s146_24_10, s146_24_17, s146_24_24, s146_24_31, s146_27, s146_28, imageAt_in hk3, hget, h0, h10, not_false_eq_true, if_true, if_false, hτ, true_or, or_true, true_and]
      have e99 : τ.1 99 = σ.1 99 := t5 99 (by omega)
      rw [Mback_eq hk3 (by rw [e99]; exact h99)]
      have qo : ∀ c, c ≠ 98 → c ≠ 84 → (xe_cp (baB τ k) 103 98 (36 * k) 0 36).1 c = τ.1 c := by
        intro c h1 h2
        rw [cp_ne h1]
        funext b
        have f1 : (c = 84) = False := eq_false h2
        simp only [baB, si_rd, f1, false_and, if_false]
      have q84 : ∀ j, ¬ (28 ≤ j ∧ j ≤ 31) → (xe_cp (baB τ k) 103 98 (36 * k) 0 36).1 84 j = σ.1 84 j := by
        intro j hj
        rw [cp_ne (by decide)]
        have f1 : (j = 28) = False := eq_false (by omega)
        have f2 : (j = 29) = False := eq_false (by omega)
        have f3 : (j = 30) = False := eq_false (by omega)
        have f4 : (j = 31) = False := eq_false (by omega)
        simp only [baB, si_rd, f1, f2, f3, f4, and_false, if_false]
        exact congrFun (t5 84 (by omega)) j
      have u28 : (xe_cp (baB τ k) 103 98 (36 * k) 0 36).1 84 28 = 1 := by
        rw [cp_ne (by decide)]; simp only [baB, si_rd, Nat.reduceEqDiff, and_false, and_self, if_false, if_true]
      have u29 : (xe_cp (baB τ k) 103 98 (36 * k) 0 36).1 84 29 = σ.1 100 k := by
        rw [cp_ne (by decide), ← t5 100 (by omega)]; simp only [baB, si_rd, Nat.reduceEqDiff, and_false, and_self, if_false, if_true]
      have u30 : (xe_cp (baB τ k) 103 98 (36 * k) 0 36).1 84 30 = σ.1 101 k := by
        rw [cp_ne (by decide), ← t5 101 (by omega)]; simp only [baB, si_rd, Nat.reduceEqDiff, and_false, and_self, if_false, if_true]
      have u31 : (xe_cp (baB τ k) 103 98 (36 * k) 0 36).1 84 31 = σ.1 102 k := by
        rw [cp_ne (by decide), ← t5 102 (by omega)]; simp only [baB, si_rd, Nat.reduceEqDiff, and_false, and_self, if_false, if_true]
      have qn : ∀ b, b < 36 → (xe_cp (baB τ k) 103 98 (36 * k) 0 36).1 98 b = σ.1 103 (36 * k + b) := by
        intro b hb
        have f1 : (b < 0 + 36) = True := eq_true (by omega)
        simp only [cp_rd, f1, Nat.zero_le, and_self, if_true, baB, si_rd, Nat.reduceEqDiff, false_and, if_false, Nat.sub_zero]
        exact congrFun (t5 103 (by omega)) _
      refine ⟨rfl, hI.simS ⟨fun c j hc => ?_, congrArg Prod.snd t2⟩ ?_⟩
      · have hc2 := of_decide_eq_false hc
        by_cases q : c = 84
        · subst q; exact q84 j (by omega)
        · rw [qo c (by omega) q]; exact congrFun (t5 c (by omega)) j
      · unfold gS
        rw [u28, u29, u30, u31, q84 17 (by omega), q84 19 (by omega), qo 10 (by omega) (by omega), qo 11 (by omega) (by omega), qo 12 (by omega) (by omega), qo 13 (by omega) (by omega), qo 14 (by omega) (by omega), qo 15 (by omega) (by omega), qo 16 (by omega) (by omega), t3 0 (by omega), t3 1 (by omega), t3 2 (by omega), t3 3 (by omega), h0]
        refine ⟨n, hn6, k1, k2, Or.inr rfl, rfl, fun q => absurd q h10, fun _ => ⟨s1, s2, s3, s4, s5⟩, fun l hl => ?_⟩
        refine ((hrow l hl).eq (r' := (xe_cp (baB τ k) 103 98 (36 * k) 0 36).1 98) (o' := 6 * l) (fun x hx => ?_)).eq2 (t4 0 l (by omega) (by omega)) (t4 1 l (by omega) (by omega)) (t4 2 l (by omega) (by omega)) (t4 3 l (by omega) (by omega)) (t4 4 l (by omega) (by omega)) (t4 5 l (by omega) (by omega))
        rw [Nat.add_assoc]; exact qn (6 * l + x) (by omega)
  · have hx : ∀ Q : Int32 → xM → Prop, xI1 146 [.ref 0, .int a] σ Q = Q 0 σ := by
      intro Q
      rw [e146]
      simp only [s146_0, s146_0_n, s146_1, s146_2, s146_5, s146_5_n, s146_6, s146_6_n, s146_7, s146_7_n, s146_10, s146_10_n, s146_11_10, s146_11_17, s146_11_24, s146_11_31, s146_14, s146_17, s146_18, s146_19, s146_19_n, s146_20, s146_23, s146_23_n, s146_24_10, s146_24_17, s146_24_24, s146_24_31, s146_27, s146_28, imageAt_out hG, true_or, or_true, true_and]
    have hm : ∀ Q : Int32 → xM → Prop, xI1 243 [.ref 84, .int a] σ Q = Q 0 σ := by
      intro Q
      rw [e243]
      simp only [s243_0, s243_1, s243_2, s243_3, s243_6, s243_9, s243_10, s243_13, s243_14, s243_15, s243_18, s243_19, s243_20, s243_21, s243_22, s243_25, s243_26, s243_27, s243_30, s243_31, s243_32, s243_35, s243_36, s243_37, s243_40, s243_41, s243_42, s243_45, s243_46, s243_47, s243_50, s243_51, s243_52, s243_55, s243_56, s243_58, s243_60, s243_63, s243_64, s243_67, s243_68, s243_69, s243_72, s243_74, s243_75, s243_76, s243_77, s243_78, s243_79, s243_80, s243_83, s243_86, s243_87, in_eq, xb_f, ite_not, if_neg hG, ite_self, true_or, or_true, true_and]
    rw [hx, hm]
    exact ⟨rfl, hI⟩
