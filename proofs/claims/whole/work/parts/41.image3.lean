/-! image -/
theorem Mimage_loop {τ : xM} {k : Nat} (hk : k < 3) {Q : Int32 → xM → Prop} : ∀ j m, m + j = 36 → xC 242 57 [some (.ref 84), some (.int (nI k)), some (.int (nI m))] [] (xe_cp τ 98 103 0 (36 * k) m) (xqI Q) = Q 1 (xe_cp τ 98 103 0 (36 * k) 36) := by
  intro j
  induction j with
  | zero =>
    intro m hm
    obtain rfl : m = 36 := by omega
    rw [s242_57]
    simp only [s242_0, s242_1, s242_4, s242_7, s242_8, s242_9, s242_10, s242_13, s242_16, s242_17, s242_18, s242_19, s242_22, s242_23, s242_24_b, s242_24_z, s242_25, s242_26, s242_29, s242_30, s242_31, s242_34, s242_35, s242_36, s242_39, s242_40, s242_41, s242_44, s242_45, s242_46, s242_49, s242_50, s242_51, s242_54, s242_55, s242_56, s242_58, s242_60, s242_63, s242_64, s242_67, s242_69, s242_70, s242_71, s242_72, s242_73, s242_74, s242_77, s242_78, s242_79, s242_80, s242_83, s242_86, s242_87, show ((36 : Int32) ≤ nI 36) = True from eq_true (by decide), if_true, true_or, or_true, true_and]
  | succ j ih =>
    intro m hm
    have e : ((36 : Int32) ≤ nI m) = False := eq_false (fun q => by have := (nI_leI (a := 36) (b := m) (by decide) (by omega)).mp q; omega)
    have m36 : (36 : Int32) * nI k = nI (36 * k) := pk_mul 36 k
    have b0 : m < 100000 := by omega
    have b1 : 36 * k + m < 100000 := by omega
    have c0 : m < 36 := by omega
    have c1 : 36 * k + m < 108 := by omega
    have hc := cp_succ τ (k := 98) (k2 := 103) 0 (36 * k) m
    rw [Nat.zero_add] at hc
    rw [s242_57]
    simp only [s242_0, s242_1, s242_4, s242_7, s242_8, s242_9, s242_10, s242_13, s242_16, s242_17, s242_18, s242_19, s242_22, s242_23, s242_24_b, s242_24_z, s242_25, s242_26, s242_29, s242_30, s242_31, s242_34, s242_35, s242_36, s242_39, s242_40, s242_41, s242_44, s242_45, s242_46, s242_49, s242_50, s242_51, s242_54, s242_55, s242_56, s242_58, s242_60, s242_63, s242_64, s242_67, s242_69, s242_70, s242_71, s242_72, s242_73, s242_74, s242_77, s242_78, s242_79, s242_80, s242_83, s242_86, s242_87, e, if_false, m36, nI_add, xcl_98, xcl_103, xln_98, xln_103, b0, b1, c0, c1, cl_s, pos_s, cp_rd, Nat.reduceEqDiff, false_and, true_and, hc, nI_1]
    exact ih (m + 1) (by omega)
def imB (σ : xM) (k : Nat) : xM := xe_si (xe_si (xe_si (xe_si σ 99 k 1) 100 k (σ.1 84 29)) 101 k (σ.1 84 30)) 102 k (σ.1 84 31)
theorem Mimage_eq {σ : xM} {k : Nat} (hk : k < 3) (h28 : σ.1 84 28 = 1) {Q : Int32 → xM → Prop} : xI1 242 [.ref 84, .int (nI k)] σ Q = Q 1 (xe_cp (imB σ k) 98 103 0 (36 * k) 36) := by
  have g1 : (0 ≤ nI k) = True := eq_true (nI_pos' (by omega))
  have g2 : (nI k ≤ 2) = True := eq_true ((nI_leI (b := 2) (by omega) (by decide)).mpr (by omega))
  have b0 : k < 100000 := by omega
  have h11 : (1 : Int32) &&& 1 = 1 := by decide
  have h10 : ¬ (1 : Int32) = 0 := by decide
  rw [e242]
  simp only [s242_0, s242_1, s242_4, s242_7, s242_8, s242_9, s242_10, s242_13, s242_16, s242_17, s242_18, s242_19, s242_22, s242_23, s242_24_b, s242_24_z, s242_25, s242_26, s242_29, s242_30, s242_31, s242_34, s242_35, s242_36, s242_39, s242_40, s242_41, s242_44, s242_45, s242_46, s242_49, s242_50, s242_51, s242_54, s242_55, s242_56, s242_58, s242_60, s242_63, s242_64, s242_67, s242_69, s242_70, s242_71, s242_72, s242_73, s242_74, s242_77, s242_78, s242_79, s242_80, s242_83, s242_86, s242_87, h28, in_eq, g1, g2, and_self, xb_f, ite_not, not_true, if_true, if_false, h11, h10, xcl_99, xcl_100, xcl_101, xcl_102, xln_99, xln_100, xln_101, xln_102, b0, hk, cl_s, pos_s, si_rd, Nat.reduceEqDiff, false_and, true_and, true_or, or_true]
  have h := Mimage_loop (τ := imB σ k) hk (Q := Q) 36 0 rfl
  rw [cp_zero] at h
  exact h
theorem gLn.eq {hr ho st ro sl ag ns nr : Int32} {r r' : Nat → Int32} {o o' : Nat} (h : gLn hr ho st ro sl ag r o ns nr) (e : ∀ x, x < 6 → r' (o' + x) = r (o + x)) : gLn hr ho st ro sl ag r' o' ns nr := by
  obtain ⟨a1, a2, a3, a4, a5, a6, b⟩ := h
  exact ⟨(e 0 (by decide)).trans a1, (e 1 (by decide)).trans a2, (e 2 (by decide)).trans a3, (e 3 (by decide)).trans a4, (e 4 (by decide)).trans a5, (e 5 (by decide)).trans a6, b⟩
theorem gLn.eq2 {hr ho st ro sl ag hr' ho' st' ro' sl' ag' ns nr : Int32} {r : Nat → Int32} {o : Nat} (h : gLn hr ho st ro sl ag r o ns nr) (e1 : hr' = hr) (e2 : ho' = ho) (e3 : st' = st) (e4 : ro' = ro) (e5 : sl' = sl) (e6 : ag' = ag) : gLn hr' ho' st' ro' sl' ag' r o ns nr := by
  rw [e1, e2, e3, e4, e5, e6]; exact h
theorem op_image (a : Int32) : xOp 145 242 [.int a] := by
  intro xs L σ hI
  obtain ⟨n, hn6, k1, k2, h01, h28, hz, h1, hrow⟩ := hI.2.2.1
  have h10 : ¬ (1 : Int32) = 0 := by decide
  by_cases hG : 0 ≤ a ∧ a ≤ 2
  · obtain ⟨k, hk, rfl⟩ := nI_of (Int32.not_lt.mpr hG.1)
    have hk3 : k < 3 := by have := (nI_leI (b := 2) hk (by decide)).mp hG.2; omega
    have hd : 17 + 7 * k = 17 ∨ 17 + 7 * k = 24 ∨ 17 + 7 * k = 31 := by omega
    rcases h01 with h0 | h0
    · have h280 := h28.trans h0
      rw [e145]
      simp only [s145_0, s145_0_n, s145_1, s145_2, s145_5, s145_5_n, s145_6, s145_6_n, s145_7, s145_7_n, s145_10, s145_10_n, s145_11, s145_14_10, s145_14_17, s145_14_24, s145_14_31, s145_17, s145_20, s145_21, s145_22, s145_22_n, s145_23, s145_23_n, s145_24, s145_27_10, s145_27_17, s145_27_24, s145_27_31, s145_30, s145_31, imageAt_in hk3, h0, not_true, if_true, if_false, true_or, or_true, true_and]
      rw [e242]
      simp only [s242_0, s242_1, s242_4, s242_7, s242_8, s242_9, s242_10, s242_13, s242_16, s242_17, s242_18, s242_19, s242_22, s242_23, s242_24_b, s242_24_z, s242_25, s242_26, s242_29, s242_30, s242_31, s242_34, s242_35, s242_36, s242_39, s242_40, s242_41, s242_44, s242_45, s242_46, s242_49, s242_50, s242_51, s242_54, s242_55, s242_56, s242_58, s242_60, s242_63, s242_64, s242_67, s242_69, s242_70, s242_71, s242_72, s242_73, s242_74, s242_77, s242_78, s242_79, s242_80, s242_83, s242_86, s242_87, h280, if_true, if_false, true_or, or_true, true_and]
      first | exact hI | exact ⟨rfl, hI⟩
    · have h281 := h28.trans h0
      have hcall : ∀ (l0 l1 l2 : Option Value) (Q : Option Value → xM → Prop), xC 145 27 [l0, l1, l2] [.ref 10, .ref (17 + 7 * k)] σ Q = xV 108 [.ref (17 + 7 * k), .ref 10] σ (fun σ' => xC 145 30 [l0, l1, l2] [] σ' Q) := by
        intro l0 l1 l2 Q
        rcases hd with e | e | e <;> rw [e] <;> simp only [s145_27_10, s145_27_17, s145_27_24, s145_27_31]
      obtain ⟨τ, hτ, t2, t3, t4, t5⟩ := cpy_of (σ := σ) (s := 10) (d := 17 + 7 * k) (Or.inl ⟨rfl, hd⟩) (Or.inr h0)
      rw [e145]
      simp only [s145_0, s145_0_n, s145_1, s145_2, s145_5, s145_5_n, s145_6, s145_6_n, s145_7, s145_7_n, s145_10, s145_10_n, s145_11, s145_14_10, s145_14_17, s145_14_24, s145_14_31, s145_17, s145_20, s145_21, s145_22, s145_22_n, s145_23, s145_23_n, s145_24, s145_27_10, s145_27_17, s145_27_24, s145_27_31, s145_30, s145_31, imageAt_in hk3, h0, h10, not_false_eq_true, if_true, if_false, hcall, hτ, true_or, or_true, true_and]
      have e84 : τ.1 84 = σ.1 84 := t5 84 (by omega)
      rw [Mimage_eq hk3 (by rw [e84]; exact h281)]
      have q84 : (xe_cp (imB τ k) 98 103 0 (36 * k) 36).1 84 = σ.1 84 := (cp_ne (by decide)).trans e84
      have qlow : ∀ c, c < 99 → (xe_cp (imB τ k) 98 103 0 (36 * k) 36).1 c = τ.1 c := by
        intro c hc
        rw [cp_ne (by omega)]
        funext b
        have f1 : ∀ x, 99 ≤ x → (c = x) = False := fun x hx => eq_false (by omega)
        simp only [imB, si_rd, f1, Nat.reduceLeDiff, Nat.le_refl, false_and, if_false]
      have qo : ∀ c b, 99 ≤ c → c ≤ 102 → b ≠ k → (xe_cp (imB τ k) 98 103 0 (36 * k) 36).1 c b = σ.1 c b := by
        intro c b h2 h3 h4
        rw [cp_ne (by omega)]
        have f1 : (b = k) = False := eq_false h4
        simp only [imB, si_rd, f1, and_false, if_false]
        exact congrFun (t5 c (by omega)) b
      have qi : ∀ b, ¬ (36 * k ≤ b ∧ b < 36 * k + 36) → (xe_cp (imB τ k) 98 103 0 (36 * k) 36).1 103 b = σ.1 103 b := by
        intro b hb
        have f1 : (36 * k ≤ b ∧ b < 36 * k + 36) = False := eq_false hb
        simp only [cp_rd, f1, and_false, if_false, imB, si_rd, Nat.reduceEqDiff, false_and]
        exact congrFun (t5 103 (by omega)) b
      have qn : ∀ b, b < 36 → (xe_cp (imB τ k) 98 103 0 (36 * k) 36).1 103 (36 * k + b) = σ.1 98 b := by
        intro b hb
        have f1 : (36 * k ≤ 36 * k + b ∧ 36 * k + b < 36 * k + 36) = True := eq_true ⟨by omega, by omega⟩
        simp only [cp_rd, f1, and_self, if_true, imB, si_rd, Nat.reduceEqDiff, false_and, if_false]
        rw [show 0 + (36 * k + b - 36 * k) = b by omega]
        exact congrFun (t5 98 (by omega)) b
      refine ⟨rfl, hI.simI ⟨fun c j hc => ?_, congrArg Prod.snd t2⟩ ?_⟩
      · have hc2 := of_decide_eq_false hc
        rcases Nat.lt_or_ge c 99 with q | q
        · rw [qlow c q]; exact congrFun (t5 c (by omega)) j
        · rw [cp_ne (by omega)]
          have f1 : ∀ x, x ≤ 103 → (c = x) = False := fun x hx => eq_false (by omega)
          simp only [imB, si_rd, f1, Nat.reduceLeDiff, Nat.le_refl, false_and, if_false]
          exact congrFun (t5 c (by omega)) j
      · rw [gI_all]
        intro i hi
        by_cases hik : i = k
        · subst hik
          have u99 : (xe_cp (imB τ i) 98 103 0 (36 * i) 36).1 99 i = 1 := by
            rw [cp_ne (by decide)]; simp only [imB, si_rd, Nat.reduceEqDiff, false_and, and_self, if_false, if_true]
          have u100 : (xe_cp (imB τ i) 98 103 0 (36 * i) 36).1 100 i = σ.1 84 29 := by
            rw [cp_ne (by decide), ← e84]; simp only [imB, si_rd, Nat.reduceEqDiff, false_and, and_self, if_false, if_true]
          have u101 : (xe_cp (imB τ i) 98 103 0 (36 * i) 36).1 101 i = σ.1 84 30 := by
            rw [cp_ne (by decide), ← e84]; simp only [imB, si_rd, Nat.reduceEqDiff, false_and, and_self, if_false, if_true]
          have u102 : (xe_cp (imB τ i) 98 103 0 (36 * i) 36).1 102 i = σ.1 84 31 := by
            rw [cp_ne (by decide), ← e84]; simp only [imB, si_rd, Nat.reduceEqDiff, false_and, and_self, if_false, if_true]
          obtain ⟨s1, s2, s3, s4, s5⟩ := h1 h0
          unfold gIk
          rw [u99, u100, u101, u102, q84, qlow (17 + 7 * i) (by omega), qlow (17 + 7 * i + 1) (by omega), qlow (17 + 7 * i + 2) (by omega), qlow (17 + 7 * i + 3) (by omega), qlow (17 + 7 * i + 4) (by omega), qlow (17 + 7 * i + 5) (by omega), qlow (17 + 7 * i + 6) (by omega), t3 0 (by omega), t3 1 (by omega), t3 2 (by omega), t3 3 (by omega), h0]
          refine ⟨Or.inr rfl, rfl, fun _ => ⟨n, hn6, k1, k2, s1, s2, s3, s4, s5, fun l hl => ?_⟩⟩
          refine ((hrow l hl).eq (r' := (xe_cp (imB τ i) 98 103 0 (36 * i) 36).1 103) (o' := 36 * i + 6 * l) (fun x hx => ?_)).eq2 (t4 0 l (by omega) (by omega)) (t4 1 l (by omega) (by omega)) (t4 2 l (by omega) (by omega)) (t4 3 l (by omega) (by omega)) (t4 4 l (by omega) (by omega)) (t4 5 l (by omega) (by omega))
          rw [Nat.add_assoc]; exact qn (6 * l + x) (by omega)
        · obtain ⟨a1, a2, a3⟩ := gI_all.mp hI.2.2.2.1 i hi
          have ql : ∀ y, y ≤ 6 → (xe_cp (imB τ k) 98 103 0 (36 * k) 36).1 (17 + 7 * i + y) = σ.1 (17 + 7 * i + y) := by
            intro y hy
            rw [qlow _ (by omega)]; exact t5 _ (by omega)
          unfold gIk
          rw [qo 99 i (by omega) (by omega) hik, qo 100 i (by omega) (by omega) hik, qo 101 i (by omega) (by omega) hik, qo 102 i (by omega) (by omega) hik, q84, show (xe_cp (imB τ k) 98 103 0 (36 * k) 36).1 (17 + 7 * i) = σ.1 (17 + 7 * i) from ql 0 (by omega), ql 1 (by omega), ql 2 (by omega), ql 3 (by omega), ql 4 (by omega), ql 5 (by omega), ql 6 (by omega)]
          refine ⟨a1, a2, fun q => ?_⟩
          obtain ⟨m, b1, b2, b3, b4, b5, b6, b7, b8, b9⟩ := a3 q
          refine ⟨m, b1, b2, b3, b4, b5, b6, b7, b8, fun l hl => (b9 l hl).eq (fun x hx => qi _ (by omega))⟩
  · have hx : ∀ Q : Int32 → xM → Prop, xI1 145 [.ref 0, .int a] σ Q = Q 0 σ := by
      intro Q
      rw [e145]
      simp only [s145_0, s145_0_n, s145_1, s145_2, s145_5, s145_5_n, s145_6, s145_6_n, s145_7, s145_7_n, s145_10, s145_10_n, s145_11, s145_14_10, s145_14_17, s145_14_24, s145_14_31, s145_17, s145_20, s145_21, s145_22, s145_22_n, s145_23, s145_23_n, s145_24, s145_27_10, s145_27_17, s145_27_24, s145_27_31, s145_30, s145_31, imageAt_out hG, true_or, or_true, true_and]
    have hm : ∀ Q : Int32 → xM → Prop, xI1 242 [.ref 84, .int a] σ Q = Q 0 σ := by
      intro Q
      rw [e242]
      simp only [s242_0, s242_1, s242_4, s242_7, s242_8, s242_9, s242_10, s242_13, s242_16, s242_17, s242_18, s242_19, s242_22, s242_23, s242_24_b, s242_24_z, s242_25, s242_26, s242_29, s242_30, s242_31, s242_34, s242_35, s242_36, s242_39, s242_40, s242_41, s242_44, s242_45, s242_46, s242_49, s242_50, s242_51, s242_54, s242_55, s242_56, s242_58, s242_60, s242_63, s242_64, s242_67, s242_69, s242_70, s242_71, s242_72, s242_73, s242_74, s242_77, s242_78, s242_79, s242_80, s242_83, s242_86, s242_87, in_eq, xb_f, ite_not, if_neg hG, ite_self, true_or, or_true, true_and]
    rw [hx, hm]
    exact ⟨rfl, hI⟩
