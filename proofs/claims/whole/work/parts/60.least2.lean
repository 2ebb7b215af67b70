/-! least, the reference's; pay -/
theorem op_least : xOp 127 214 [] := by
  intro xs L σ hI
  obtain ⟨p, ns, nc, ng, nt, mi, me, la, wn, mn, sl, hCX, hCM, hns8, hst, hm0, hz⟩ := hI.calls
  have hns31 : ns < 2147483648 := by omega
  have hp := hCX.2.1.1
  have hpe := hCX.2.1.2.1
  have hc6 := hCX.1.1
  have hpw := pw46 hc6
  by_cases c1 : 0 < ns
  · have hfin : ∀ τ, xSim σ τ → xI1 214 [.ref 84] τ (fun r2 σ2 => lsB (lsF (fun r => lwF me wn ng mn nt r nc 0) (fun r => (run mi la wn sl (fun c => r / 4 ^ c % 4) nt nc).w 0) (2 ^ (2 * nc)) 0 none) = r2 ∧ xInv xs L σ2) := by
      intro τ0 hs0
      have hW0 : ∀ r, lwF me wn ng mn nt r nc 0 = true → (run mi la wn sl (fun c => r / 4 ^ c % 4) nt nc).w 0 ≤ 36000 := by
        intro r h
        have hgi := lwF_row h
        have := (run_bd (mi := mi) (la := la) (wn := wn) (sl := sl) (gi := fun c => r / 4 ^ c % 4) (nt := nt) nc hc6 (fun d hd => ⟨(hCX.1.2.2.2.1 d hd).1, (hCX.1.2.2.2.1 d hd).2.2.1, (hCX.1.2.2.2.2 _ (hgi d hd)).2⟩)).2.2 0 (by decide)
        omega
      generalize hA : lsB (lsF (fun r => lwF me wn ng mn nt r nc 0) (fun r => (run mi la wn sl (fun c => r / 4 ^ c % 4) nt nc).w 0) (2 ^ (2 * nc)) 0 none) = ans
      have loop : ∀ m r, r + m = 2 ^ (2 * nc) → ∀ (τ : xM) (a : Option (Nat × Nat)), xSim σ τ → lsOk a → lsB (lsF (fun r => lwF me wn ng mn nt r nc 0) (fun r => (run mi la wn sl (fun c => r / 4 ^ c % 4) nt nc).w 0) m r a) = ans → xC 214 15 [some (.ref 84), some (.int (lsB a)), some (.int (lsM a)), some (.int (nI r))] [] τ (xqI (fun r2 σ2 => ans = r2 ∧ xInv xs L σ2)) := by
        intro m
        induction m with
        | zero =>
          intro r hr τ a hs ha hQ
          have hkx : τ.1 84 38 = nI nc := (hs.1 84 38 rfl).trans hCM.2.2.1
          have e : (nI (2 ^ (2 * nc)) ≤ nI r) = True := eq_true ((nI_leI (by omega) (by omega)).mpr (by omega))
          rw [s214_15]
          simp only [s214_16, s214_17, s214_18, s214_19, s214_22, s214_23, s214_24, s214_76, s214_77, xcx_i, xcx_r, xcx_n, xcx_l, xcx_0, hkx, ml_2, shl1 (show 2 * nc ≤ 12 by omega), e, if_true]
          exact ⟨hQ.symm, hI.sim hs⟩
        | succ m ih =>
          intro r hr τ a hs ha hQ
          have hkx : τ.1 84 38 = nI nc := (hs.1 84 38 rfl).trans hCM.2.2.1
          have e := lt4N (n := 2 ^ (2 * nc)) (i := r) (by omega) (by omega)
          have hMτ := hCM.sim hs
          have hlM : ∀ Q : Int32 → xM → Prop, xI1 210 [.ref 84, .int (nI r)] τ Q = _ := fun Q => MisLawful hMτ ((hs.1 84 17 rfl).trans hm0) hns8 c1 (by omega)
          have hnext : ∀ (τ' : xM) (a' : Option (Nat × Nat)), xSim σ τ' → lsOk a' → lsB (lsF (fun r => lwF me wn ng mn nt r nc 0) (fun r => (run mi la wn sl (fun c => r / 4 ^ c % 4) nt nc).w 0) m (r + 1) a') = ans → xC 214 70 [some (.ref 84), some (.int (lsB a')), some (.int (lsM a')), some (.int (nI r))] [] τ' (xqI (fun r2 σ2 => ans = r2 ∧ xInv xs L σ2)) := by
            intro τ' a' hs' ha' hQ'
            simp only [s214_70, s214_73, xcx_i, xcx_r, xcx_n, xcx_l, xcx_0, nI_1]
            exact ih (r + 1) (by omega) τ' a' hs' ha' hQ'
          have h10 : ¬ (1 : Int32) = 0 := by decide
          rw [show lsF (fun r => lwF me wn ng mn nt r nc 0) (fun r => (run mi la wn sl (fun c => r / 4 ^ c % 4) nt nc).w 0) (m + 1) r a = lsF (fun r => lwF me wn ng mn nt r nc 0) (fun r => (run mi la wn sl (fun c => r / 4 ^ c % 4) nt nc).w 0) m (r + 1) (if lwF me wn ng mn nt r nc 0 then lsU r ((run mi la wn sl (fun c => r / 4 ^ c % 4) nt nc).w 0) a else a) from rfl] at hQ
          rw [s214_15]
          by_cases hlw : lwF me wn ng mn nt r nc 0 = true
          · have hgi := lwF_row hlw
            have hW := hW0 r hlw
            rw [if_pos hlw] at hQ
            have hafter : ∀ τ', MM τ τ' nc (run mi la wn sl (fun c => r / 4 ^ c % 4) nt nc) → xC 214 43 [some (.ref 84), some (.int (lsB a)), some (.int (lsM a)), some (.int (nI r))] [] τ' (xqI (fun r2 σ2 => ans = r2 ∧ xInv xs L σ2)) := by
              intro τ' hM
              have w0 := hM.2.1 0 (by decide)
              have hs' := hs.tr hM.1
              have hn := hnext τ' _ hs' (lsU_ok ha (show r < 100000 by omega) (show (run mi la wn sl (fun c => r / 4 ^ c % 4) nt nc).w 0 < 1000000 by omega)) hQ
              have z0 : ((0 : Int32) ≤ 0) = True := eq_true (by decide)
              have zc : (0 : Int32).toNatClampNeg = 0 := by decide
              cases a with
              | none =>
                simp only [s214_43, s214_44, s214_45, s214_48, s214_49, s214_52, s214_53, s214_54, s214_55, s214_58, s214_61, s214_62, s214_63, s214_64, s214_67, s214_68, s214_69, xcx_i, xcx_r, xcx_n, xcx_l, xcx_0, w0, lsB, if_true, xcl_114, xln_114, z0, zc, Nat.reduceLT, and_self, true_and, not_true, if_false]
                exact hn
              | some x =>
                obtain ⟨b, f⟩ := x
                obtain ⟨hb, hf⟩ := ha b f rfl
                have e1 := nI_m1 (show b < 2147483648 by omega)
                have e2 : (nI ((run mi la wn sl (fun c => r / 4 ^ c % 4) nt nc).w 0) < nI f) = ((run mi la wn sl (fun c => r / 4 ^ c % 4) nt nc).w 0 < f) := nI_ltL (by omega) (by omega)
                by_cases c : (run mi la wn sl (fun c => r / 4 ^ c % 4) nt nc).w 0 < f
                · rw [show lsU r ((run mi la wn sl (fun c => r / 4 ^ c % 4) nt nc).w 0) (some (b, f)) = some (r, (run mi la wn sl (fun c => r / 4 ^ c % 4) nt nc).w 0) from if_pos c] at hn
                  simp only [s214_43, s214_44, s214_45, s214_48, s214_49, s214_52, s214_53, s214_54, s214_55, s214_58, s214_61, s214_62, s214_63, s214_64, s214_67, s214_68, s214_69, xcx_i, xcx_r, xcx_n, xcx_l, xcx_0, w0, lsB, lsM, e1, if_true, xcl_114, xln_114, z0, zc, Nat.reduceLT, and_self, true_and, if_false, e2, c]
                  exact hn
                · rw [show lsU r ((run mi la wn sl (fun c => r / 4 ^ c % 4) nt nc).w 0) (some (b, f)) = some (b, f) from if_neg c] at hn
                  simp only [s214_43, s214_44, s214_45, s214_48, s214_49, s214_52, s214_53, s214_54, s214_55, s214_58, s214_61, s214_62, s214_63, s214_64, s214_67, s214_68, s214_69, xcx_i, xcx_r, xcx_n, xcx_l, xcx_0, w0, lsB, lsM, e1, if_true, xcl_114, xln_114, z0, zc, Nat.reduceLT, and_self, true_and, if_false, e2, c]
                  exact hn
            simp only [s214_16, s214_17, s214_18, s214_19, s214_22, s214_23, s214_24, s214_27, s214_28, s214_29, s214_32, s214_35, s214_38, s214_39, s214_40, xcx_i, xcx_r, xcx_n, xcx_l, xcx_0, hkx, ml_2, shl1 (show 2 * nc ≤ 12 by omega), e, if_false, hlM, hlw, if_true, h10, not_false_eq_true, true_or, or_true, true_and]
            exact Mmeets hMτ (by omega) hgi hafter
          · rw [if_neg hlw] at hQ
            have hn := hnext τ a hs ha hQ
            simp only [s214_16, s214_17, s214_18, s214_19, s214_22, s214_23, s214_24, s214_27, s214_28, s214_29, s214_32, s214_35, xcx_i, xcx_r, xcx_n, xcx_l, xcx_0, hkx, ml_2, shl1 (show 2 * nc ≤ 12 by omega), e, if_false, hlM, hlw, not_true, true_or, or_true, true_and, Bool.false_eq_true]
            exact hn
      have h0 : (nI ns = 0) = False := eq_false (fun q => by have := (nI_eq (a := ns) (b := 0) (by omega) (by decide)).mp q; omega)
      have hm0' : τ0.1 84 17 = nI ns := (hs0.1 84 17 rfl).trans hm0
      rw [e214]
      simp only [s214_0, s214_1, s214_4, s214_7, s214_8, s214_9, s214_10, s214_11, s214_12, s214_13, s214_14, xcx_i, xcx_r, xcx_n, xcx_l, xcx_0, hm0', h0, not_false_eq_true, if_true, if_false]
      exact loop (2 ^ (2 * nc)) 0 (by omega) τ0 none hs0 (fun b f q => by cases q) hA
    rw [e127]
    rcases hp with rfl | rfl
    · simp only [s127_0, s127_1, s127_4_4, s127_4_7, s127_7, s127_10, s127_11, s127_14, s127_15, s127_18, xcx_i, xcx_r, xcx_n, xcx_l, xcx_0, hpe, stands_eq, hst, xb_f, ite_not, nr_0, hns31, c1, if_true, true_or, or_true, true_and]
      refine XleastRow hCX (fun τ hs => ?_)
      simp only [s127_21, s127_24, s127_25, xcx_i, xcx_r, xcx_n, xcx_l, xcx_0]
      exact hfin τ hs
    · simp only [s127_0, s127_1, s127_4_4, s127_4_7, s127_7, s127_10, s127_11, s127_14, s127_15, s127_18, xcx_i, xcx_r, xcx_n, xcx_l, xcx_0, hpe, stands_eq, hst, xb_f, ite_not, nr_0, hns31, c1, if_true, true_or, or_true, true_and]
      refine XleastRow hCX (fun τ hs => ?_)
      simp only [s127_21, s127_24, s127_25, xcx_i, xcx_r, xcx_n, xcx_l, xcx_0]
      exact hfin τ hs
  · have hx : ∀ Q : Int32 → xM → Prop, xI1 127 [.ref 0] σ Q = Q (-1) σ := by
      intro Q
      rw [e127]
      rcases hp with rfl | rfl <;> simp only [s127_0, s127_1, s127_4_4, s127_4_7, s127_7, s127_10, s127_11, s127_14, s127_15, s127_18, s127_21, s127_24, s127_25, xcx_i, xcx_r, xcx_n, xcx_l, xcx_0, hpe, stands_eq, hst, xb_f, ite_not, nr_0, hns31, c1, if_false, true_or, or_true, true_and]
    have h0 : (nI ns = 0) = True := eq_true (by rw [show ns = 0 by omega]; rfl)
    have hm : ∀ Q : Int32 → xM → Prop, xI1 214 [.ref 84] σ Q = Q (-1) σ := by
      intro Q
      rw [e214]
      simp only [s214_0, s214_1, s214_4, s214_7, s214_8, xcx_i, xcx_r, xcx_n, xcx_l, xcx_0, hm0, h0, not_true, if_true, if_false]
    rw [hx, hm]
    exact ⟨rfl, hI⟩
