/-! met, least, pay -/
theorem lwF_row {me wn : Nat → Nat} {ng : Nat} {mn : Nat → Nat} {nt r nc : Nat} (h : lwF me wn ng mn nt r nc 0 = true) : ∀ c, c < nc → r / 4 ^ c % 4 < ng := fun c hc => (lwF_get nc 0 h c (by omega) (by omega)).1
theorem op_met (a w : Int32) : xOp 126 213 [.int a, .int w] := by
  intro xs L σ hI
  obtain ⟨p, ns, nc, ng, nt, mi, me, la, wn, mn, sl, hCX, hCM, hns8, hst, hm0, hz⟩ := hI.calls
  have hns31 : ns < 2147483648 := by omega
  have hp := hCX.2.1.1
  have hpe := hCX.2.1.2.1
  have hc6 := hCX.1.1
  have hpw := pw46 hc6
  by_cases hL : ∃ r, r < 2 ^ (2 * nc) ∧ a = nI r ∧ 0 < ns ∧ lwF me wn ng mn nt r nc 0 = true
  · obtain ⟨r, hr, rfl, hns0, hlw⟩ := hL
    have hgi := lwF_row hlw
    have h10 : ¬ (1 : Int32) = 0 := by decide
    have hfin : ∀ τ1, MX σ τ1 nc (run mi la wn sl (fun c => r / 4 ^ c % 4) nt nc) → xC 126 39 [some (.ref 0), some (.int (nI r)), some (.int w)] [] τ1 (xqI (fun r1 σ1 => xI1 213 (.ref 84 :: [.int (nI r), .int w]) σ1 (fun r2 σ2 => r1 = r2 ∧ xInv xs L σ2))) := by
      intro τ1 hM1
      obtain ⟨hs1, hw1, hb1, hg1, ht1, hbd1⟩ := hM1
      have hM := hCM.sim hs1
      have hm01 : τ1.1 84 17 = nI ns := (hs1.1 84 17 rfl).trans hm0
      have hkx : τ1.1 51 0 = nI nc := (hs1.1 51 0 rfl).trans hCX.2.2.1
      have hlM : ∀ Q : Int32 → xM → Prop, xI1 210 [.ref 84, .int (nI r)] τ1 Q = _ := fun Q => MisLawful hM hm01 hns8 hns0 hr
      rw [hlw, if_pos rfl] at hlM
      have hk1 : ∀ (x : Int32), (∀ τ2, MM τ1 τ2 nc (run mi la wn sl (fun c => r / 4 ^ c % 4) nt nc) → xC 213 15 [some (.ref 84), some (.int (nI r)), some (.int w)] [] τ2 (xqI (fun r2 σ2 => x = r2 ∧ xInv xs L σ2))) → xI1 213 (.ref 84 :: [.int (nI r), .int w]) τ1 (fun r2 σ2 => x = r2 ∧ xInv xs L σ2) := by
        intro x hx
        rw [e213]
        simp only [s213_0, s213_1, s213_2, s213_5, s213_8, s213_9, s213_10, s213_11, s213_12, xcx_i, xcx_r, xcx_n, xcx_l, xcx_0, hlM, h10, not_false_eq_true, if_true, true_or, or_true, true_and]
        exact Mmeets hM (by omega) hgi hx
      have hinv : ∀ τ2, MM τ1 τ2 nc (run mi la wn sl (fun c => r / 4 ^ c % 4) nt nc) → xInv xs L τ2 := fun τ2 h2 => hI.sim (hs1.tr h2.1)
      by_cases hw03 : 0 ≤ w ∧ w ≤ 3
      · obtain ⟨k, hk, rfl⟩ := nI_of (Int32.not_lt.mpr hw03.1)
        have hk3 : k ≤ 3 := (nI_leI (b := 3) hk (by decide)).mp hw03.2
        have g1 := eq_true hw03.1
        have g2 := eq_true hw03.2
        have b0 : k < 100000 := by omega
        have b1 : k < 4 := by omega
        have hx : xC 126 39 [some (.ref 0), some (.int (nI r)), some (.int (nI k))] [] τ1 (xqI (fun r1 σ1 => xI1 213 (.ref 84 :: [.int (nI r), .int (nI k)]) σ1 (fun r2 σ2 => r1 = r2 ∧ xInv xs L σ2))) = xI1 213 (.ref 84 :: [.int (nI r), .int (nI k)]) τ1 (fun r2 σ2 => nI ((run mi la wn sl (fun c => r / 4 ^ c % 4) nt nc).w k) = r2 ∧ xInv xs L σ2) := by
          have : k = 0 ∨ k = 1 ∨ k = 2 ∨ k = 3 := by omega
          rcases this with rfl | rfl | rfl | rfl
          · simp only [s126_39, s126_40, s126_72, s126_73, s126_76, s126_79, xcx_i, xcx_r, xcx_n, xcx_l, xcx_0, show (nI 0 = 0) = True from eq_true rfl, if_true, show τ1.1 51 1 = _ from hw1 0 (by decide)]
          · simp only [s126_39, s126_40, s126_72, s126_73, s126_76, s126_79, s126_80, s126_81, s126_84, s126_87, xcx_i, xcx_r, xcx_n, xcx_l, xcx_0, show (nI 1 = 0) = False from eq_false (by decide), show (nI 1 = 1) = True from eq_true rfl, if_true, if_false, show τ1.1 51 2 = _ from hw1 1 (by decide)]
          · simp only [s126_39, s126_40, s126_72, s126_73, s126_76, s126_79, s126_80, s126_81, s126_84, s126_87, s126_88, s126_89, s126_92, s126_95, xcx_i, xcx_r, xcx_n, xcx_l, xcx_0, show (nI 2 = 0) = False from eq_false (by decide), show (nI 2 = 1) = False from eq_false (by decide), show (nI 2 = 2) = True from eq_true rfl, if_true, if_false, show τ1.1 51 3 = _ from hw1 2 (by decide)]
          · simp only [s126_39, s126_40, s126_72, s126_73, s126_76, s126_79, s126_80, s126_81, s126_84, s126_87, s126_88, s126_89, s126_92, s126_95, s126_96, s126_97, s126_100, s126_103, xcx_i, xcx_r, xcx_n, xcx_l, xcx_0, show (nI 3 = 0) = False from eq_false (by decide), show (nI 3 = 1) = False from eq_false (by decide), show (nI 3 = 2) = False from eq_false (by decide), show (nI 3 = 3) = True from eq_true rfl, if_true, if_false, show τ1.1 51 4 = _ from hw1 3 (by decide)]
        rw [hx]
        refine hk1 _ (fun τ2 hM2 => ?_)
        have hwk := hM2.2.1 k b1
        simp only [s213_15, s213_16, s213_17, s213_18, s213_21, s213_24, s213_25, s213_28, s213_29, s213_30, s213_33, s213_34, s213_36, s213_38, s213_39, s213_42, s213_43, s213_46, s213_49, s213_50, s213_53, s213_54, s213_56, s213_57, s213_58, s213_61, s213_62, xcx_i, xcx_r, xcx_n, xcx_l, xcx_0, in_eq, g1, g2, and_self, xb_f, ite_not, not_true, if_true, if_false, xcl_114, xln_114, b0, b1, cl_s, pos_s, true_or, or_true, true_and, hwk]
        exact hinv τ2 hM2
      · have w0 : w ≠ 0 := fun q => hw03 (by rw [q]; decide)
        have w1 : w ≠ 1 := fun q => hw03 (by rw [q]; decide)
        have w2 : w ≠ 2 := fun q => hw03 (by rw [q]; decide)
        have w3 : w ≠ 3 := fun q => hw03 (by rw [q]; decide)
        have e9 : (9 : Int32) + nI nc = nI (9 + nc) := nI_add 9 nc
        by_cases hw10 : 10 ≤ w ∧ w ≤ nI (9 + nc)
        · have hwn : ¬ w < 0 := Int32.not_lt.mpr (Int32.le_trans (by decide) hw10.1)
          obtain ⟨k, hk, rfl⟩ := nI_of hwn
          have k1 : 10 ≤ k := (nI_leI (a := 10) (by decide) hk).mp hw10.1
          have k2 : k ≤ 9 + nc := (nI_leI hk (by omega)).mp hw10.2
          have g1 := eq_true hw10.1
          have g2 := eq_true hw10.2
          have e10 : nI k - 10 = nI (k - 10) := pk_sub (b := 10) k1
          have b0 : k - 10 < 100000 := by omega
          have b1 : k - 10 < 6 := by omega
          have hx52 : xat τ1 52 (nI (k - 10)) = nI ((run mi la wn sl (fun c => r / 4 ^ c % 4) nt nc).b (k - 10)) := by
            rw [xat_n (by rw [xln_52]; exact b1)]; exact hb1 _ (by omega)
          simp only [s126_39, s126_40, s126_72, s126_73, s126_76, s126_79, s126_80, s126_81, s126_84, s126_87, s126_88, s126_89, s126_92, s126_95, s126_96, s126_97, s126_100, s126_103, s126_104, s126_105, s126_107, s126_109, s126_110, s126_113, s126_116, s126_117, s126_120, s126_123, s126_124, s126_127, s126_130, s126_131, s126_133, s126_134, s126_137, s126_140, s126_141, xcx_i, xcx_r, xcx_n, xcx_l, xcx_0, w0, w1, w2, w3, if_false, hkx, e9, within_eq, g1, g2, and_self, xb_f, ite_not, not_true, if_true, e10, at_eq, xcl_52, hx52, true_or, or_true, true_and]
          refine hk1 _ (fun τ2 hM2 => ?_)
          have hbk := hM2.2.2.1 (k - 10) (by omega)
          have hkm : τ2.1 84 38 = nI nc := (hM2.1.1 84 38 rfl).trans hM.2.2.1
          simp only [s213_15, s213_16, s213_17, s213_18, s213_21, s213_24, s213_25, s213_28, s213_29, s213_30, s213_33, s213_34, s213_36, s213_38, s213_39, s213_42, s213_43, s213_46, s213_49, s213_50, s213_53, s213_54, s213_56, s213_57, s213_58, s213_61, s213_62, xcx_i, xcx_r, xcx_n, xcx_l, xcx_0, in_eq, if_neg hw03, hkm, e9, g1, g2, and_self, xb_f, ite_not, not_true, if_true, if_false, e10, xcl_113, xln_113, b0, b1, cl_s, pos_s, true_or, or_true, true_and, hbk]
          exact hinv τ2 hM2
        · simp only [s126_39, s126_40, s126_72, s126_73, s126_76, s126_79, s126_80, s126_81, s126_84, s126_87, s126_88, s126_89, s126_92, s126_95, s126_96, s126_97, s126_100, s126_103, s126_104, s126_105, s126_107, s126_109, s126_110, s126_113, s126_116, s126_117, s126_120, s126_123, s126_124, s126_127, s126_130, s126_131, s126_133, s126_134, s126_137, s126_140, s126_141, xcx_i, xcx_r, xcx_n, xcx_l, xcx_0, w0, w1, w2, w3, if_false, hkx, e9, within_eq, if_neg hw10, xb_f, ite_not, not_true, if_true, true_or, or_true, true_and]
          refine hk1 _ (fun τ2 hM2 => ?_)
          have hkm : τ2.1 84 38 = nI nc := (hM2.1.1 84 38 rfl).trans hM.2.2.1
          simp only [s213_15, s213_16, s213_17, s213_18, s213_21, s213_24, s213_25, s213_28, s213_29, s213_30, s213_33, s213_34, s213_36, s213_38, s213_39, s213_42, s213_43, s213_46, s213_49, s213_50, s213_53, s213_54, s213_56, s213_57, s213_58, s213_61, s213_62, xcx_i, xcx_r, xcx_n, xcx_l, xcx_0, in_eq, if_neg hw03, hkm, e9, if_neg hw10, xb_f, ite_not, true_or, or_true, true_and]
          exact hinv τ2 hM2
    have hlX : ∀ Q : Int32 → xM → Prop, xI1 29 [.ref 51, .ref p, .int (nI r)] σ Q = _ := fun Q => XisLawful hCX hr
    rw [hlw, if_pos rfl] at hlX
    rw [e126]
    rcases hp with rfl | rfl
    · simp only [s126_0, s126_1, s126_4_4, s126_4_7, s126_7, s126_10, s126_11, s126_14, s126_15, s126_18, s126_19, s126_22, s126_25, s126_26, s126_27, s126_28, s126_31, s126_32, s126_35, s126_36, xcx_i, xcx_r, xcx_n, xcx_l, xcx_0, hpe, stands_eq, hst, xb_f, ite_not, nr_0, hns31, hns0, if_true, hlX, h10, not_false_eq_true, true_or, or_true, true_and]
      exact Xmeet hCX (by omega) hgi hfin
    · simp only [s126_0, s126_1, s126_4_4, s126_4_7, s126_7, s126_10, s126_11, s126_14, s126_15, s126_18, s126_19, s126_22, s126_25, s126_26, s126_27, s126_28, s126_31, s126_32, s126_35, s126_36, xcx_i, xcx_r, xcx_n, xcx_l, xcx_0, hpe, stands_eq, hst, xb_f, ite_not, nr_0, hns31, hns0, if_true, hlX, h10, not_false_eq_true, true_or, or_true, true_and]
      exact Xmeet hCX (by omega) hgi hfin
  · have hx : ∀ Q : Int32 → xM → Prop, xI1 126 [.ref 0, .int a, .int w] σ Q = Q (-1) σ := by
      intro Q
      by_cases c1 : 0 < ns
      · have hlX : ∀ Q : Int32 → xM → Prop, xI1 29 [.ref 51, .ref p, .int a] σ Q = Q 0 σ := by
          intro Q
          by_cases c2 : ∃ r, r < 2 ^ (2 * nc) ∧ a = nI r
          · obtain ⟨r, hr, rfl⟩ := c2
            have : ¬ lwF me wn ng mn nt r nc 0 = true := fun q => hL ⟨r, hr, rfl, c1, q⟩
            rw [XisLawful hCX hr, if_neg this]
          · exact XisLawful_out hCX c2
        rw [e126]
        rcases hp with rfl | rfl <;> simp only [s126_0, s126_1, s126_4_4, s126_4_7, s126_7, s126_10, s126_11, s126_14, s126_15, s126_18, s126_19, s126_22, s126_25, s126_26, xcx_i, xcx_r, xcx_n, xcx_l, xcx_0, hpe, stands_eq, hst, xb_f, ite_not, nr_0, hns31, c1, if_true, hlX, not_true, if_false, true_or, or_true, true_and]
      · rw [e126]
        rcases hp with rfl | rfl <;> simp only [s126_0, s126_1, s126_4_4, s126_4_7, s126_7, s126_10, s126_11, s126_14, s126_15, s126_18, s126_19, s126_22, s126_25, s126_26, xcx_i, xcx_r, xcx_n, xcx_l, xcx_0, hpe, stands_eq, hst, xb_f, ite_not, nr_0, hns31, c1, if_false, true_or, or_true, true_and]
    have hm : ∀ Q : Int32 → xM → Prop, xI1 213 [.ref 84, .int a, .int w] σ Q = Q (-1) σ := by
      intro Q
      have hlM : ∀ Q : Int32 → xM → Prop, xI1 210 [.ref 84, .int a] σ Q = Q 0 σ := by
        intro Q
        by_cases c2 : 0 < ns ∧ ∃ r, r < 2 ^ (2 * nc) ∧ a = nI r
        · obtain ⟨c1, r, hr, rfl⟩ := c2
          have : ¬ lwF me wn ng mn nt r nc 0 = true := fun q => hL ⟨r, hr, rfl, c1, q⟩
          rw [MisLawful hCM hm0 hns8 c1 hr, if_neg this]
        · refine MisLawful_out hCM hm0 hns8 ?_
          rcases Nat.eq_zero_or_pos ns with q | q
          · exact Or.inl q
          · exact Or.inr (fun z => c2 ⟨q, z⟩)
      rw [e213]
      simp only [s213_0, s213_1, s213_2, s213_5, s213_8, s213_9, xcx_i, xcx_r, xcx_n, xcx_l, xcx_0, hlM, not_true, if_false, true_or, or_true, true_and]
    rw [hx, hm]
    exact ⟨rfl, hI⟩
