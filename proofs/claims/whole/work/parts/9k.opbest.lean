/-! the call best -/
theorem op_best (a b c d e : Int32) : xOp 124 207 [.int a, .int b, .int c, .int d, .int e] := by
  intro xs L σ hI
  obtain ⟨n0, hn06, k1, k2, h01, h28, hz, -, -⟩ := id hI.2.2.1
  have hend : ∀ τ, xInv xs L τ → (-1 : Int32) = -1 ∧ xInv xs L τ := fun τ h => ⟨rfl, h⟩
  by_cases hG : ¬ σ.1 10 0 = 0 ∧ (0 ≤ a ∧ a ≤ 99) ∧ (0 ≤ b ∧ b ≤ 999) ∧ (-99 ≤ c ∧ c ≤ 99)
  · have hGm : ¬ σ.1 84 28 = 0 ∧ (0 ≤ a ∧ a ≤ 99) ∧ (0 ≤ b ∧ b ≤ 999) ∧ (-99 ≤ c ∧ c ≤ 99) := by rw [h28]; exact hG
    by_cases hd : 1 ≤ d ∧ d ≤ 3
    · by_cases hdn : d ≤ nI n0
      · have hdn' : ¬ nI n0 < d := Int32.not_lt.mpr hdn
        by_cases he : -1 ≤ e ∧ e ≤ d - 1
        · obtain ⟨ha, hga, hgb, hgc⟩ := id hG
          obtain ⟨hour, rfl, hh⟩ := toN (b := 99) (by decide) hga
          obtain ⟨w, rfl, hw1, hw2⟩ := toI hgb
          obtain ⟨s, rfl, hs1, hs2⟩ := toI hgc
          have hw : 0 ≤ w ∧ w ≤ 999 := ⟨hw1, hw2⟩
          have hs : -99 ≤ s ∧ s ≤ 99 := ⟨hs1, hs2⟩
          have ha1 : σ.1 10 0 = 1 := by
            rcases h01 with q | q
            · exact absurd q ha
            · exact q
          obtain ⟨p, n, ns, nr, bow, deck, D, E, hb, hsl, hX, hM, kx, km, hns1⟩ := hI.ship ha1
          have hn6 := hb.1
          have hpe := hX.1.2.1
          obtain rfl : n0 = n := by
            have : nI n0 = nI n := k1.symm.trans kx
            exact (nI_eq (by omega) (by omega)).mp this
          obtain ⟨m, rfl, hm3⟩ := toN (x := d) (b := 3) (by decide) ⟨by
            have h1 := Int32.le_iff_toInt_le.mp hd.1
            rw [Int32.le_iff_toInt_le]
            have z0 : (0 : Int32).toInt = 0 := rfl
            have z1 : (1 : Int32).toInt = 1 := rfl
            omega, hd.2⟩
          have hm1 : 1 ≤ m := (nI_leI (a := 1) (b := m) (by decide) (by omega)).mp hd.1
          have hm : m ≤ n0 := (nI_leI (by omega) (by omega)).mp hdn
          have hew : e = -1 ∨ ∃ j, j < m ∧ e = nI j := by
            by_cases q : e = -1
            · exact Or.inl q
            · right
              have := (rng_iff (x := e) (n := m) (by omega)).mp ⟨by
                have h1 := Int32.le_iff_toInt_le.mp he.1
                rw [Int32.le_iff_toInt_le]
                have z0 : (0 : Int32).toInt = 0 := rfl
                have z1 : (-1 : Int32).toInt = -1 := rfl
                have z2 : e.toInt ≠ -1 := fun z => q (by rw [← iI_of e, z]; rfl)
                omega, he.2⟩
              exact this
          obtain ⟨ok, g, hk⟩ : ∃ (ok : Nat → Int) (g : Nat → Int32), ∀ t, wyR D E bow deck hour m ns w s t (ok t) (g t) := by
            have hx : ∀ t, ∃ x : Int × Int32, wyR D E bow deck hour m ns w s t x.1 x.2 := by
              intro t
              obtain ⟨u, v, hB⟩ := isB_ex (csF (wyF (stD D (dg ns m t)) E bow) (rmF (stD D (dg ns m t)) E bow deck hour) (hdF D E) (2 ^ m - 1) m w s)
              exact ⟨(_, _), u, v, hB, rfl, rfl⟩
            exact ⟨fun t => (hx t).choose.1, fun t => (hx t).choose.2, fun t => (hx t).choose_spec⟩
          have href : ∀ τ r, xSim σ τ → ((bsF ok g (ns ^ m)).1 = -1 → r = -1) → (e = -1 → r = (bsF ok g (ns ^ m)).1) → (∀ j, j < m → e = nI j → ¬ (bsF ok g (ns ^ m)).1 = -1 → r = nI (dg ns m (bsF ok g (ns ^ m)).2 j)) → xI1 207 (.ref 84 :: [.int (nI hour), .int (iI w), .int (iI s), .int (nI m), .int e]) τ (fun r2 σ2 => r = r2 ∧ xInv xs L σ2) := by
            intro τ r hsm hr1 hr2 hr3
            have kmτ : τ.1 84 31 = nI n0 := (hsm.1 84 31 rfl).trans k2
            have h28τ : τ.1 84 28 = σ.1 84 28 := (hsm.1 84 28 rfl)
            have hGτ : ¬ τ.1 84 28 = 0 ∧ (0 ≤ nI hour ∧ nI hour ≤ 99) ∧ (0 ≤ iI w ∧ iI w ≤ 999) ∧ (-99 ≤ iI s ∧ iI s ≤ 99) := by rw [h28τ]; exact hGm
            have body := Mbest_body (hM.sim hsm) hb kmτ hm hm1 hm3 hns1 hh hw hs hk hew hr1 hr2 hr3 (Q := fun r2 σ2 => r = r2 ∧ xInv xs L σ2) (fun τ' q => ⟨rfl, hI.sim (hsm.tr q)⟩)
            rw [e207]
            rcases hew with q | ⟨j, hj, q⟩
            · have q' : (e = -1) = True := eq_true q
              simp only [s207_0, s207_1, s207_2, s207_3, s207_4, s207_7, s207_10, s207_12, s207_13, s207_14, s207_17, s207_20, s207_22, s207_23, s207_26, s207_29, s207_31, s207_32, s207_35, s207_37, s207_38, s207_40, s207_41, s207_42, s207_45, xcx_i, xcx_r, xcx_n, xcx_l, xcx_0, isWeather_eq, in_eq, kmτ, xb_f, ite_not, if_pos hGτ, if_pos hd, hdn', if_false, q', if_true, true_or, or_true, true_and]
              exact body
            · have q' : ¬ e = -1 := by rw [q, nI_m1 (by omega)]; exact id
              have hin : 0 ≤ e ∧ e ≤ nI m - 1 := (rng_iff (by omega)).mpr ⟨j, hj, q⟩
              simp only [s207_0, s207_1, s207_2, s207_3, s207_4, s207_7, s207_10, s207_12, s207_13, s207_14, s207_17, s207_20, s207_22, s207_23, s207_26, s207_29, s207_31, s207_32, s207_35, s207_37, s207_38, s207_40, s207_41, s207_42, s207_45, xcx_i, xcx_r, xcx_n, xcx_l, xcx_0, isWeather_eq, in_eq, kmτ, xb_f, ite_not, if_pos hGτ, if_pos hd, if_pos hin, hdn', if_false, q', true_or, or_true, true_and]
              exact body
          have after : ∀ τ, xSim σ τ → moX τ m (2 ^ m - 1) (wyF D E bow) (rmF D E bow deck hour) (hdF D E) (brF D E) (D 1) → (∀ i, i < m → τ.1 42 i = iI (spF D E deck hour i)) → xC 124 67 [some (.ref 0), some (.int (nI hour)), some (.int (iI w)), some (.int (iI s)), some (.int (nI m)), some (.int e)] [] τ (xqI (fun r1 σ1 => xI1 207 (.ref 84 :: [.int (nI hour), .int (iI w), .int (iI s), .int (nI m), .int e]) σ1 (fun r2 σ2 => r1 = r2 ∧ xInv xs L σ2))) := by
            intro τ h1 h2 h4
            have hpτ : τ.2.2 1 = p := by rw [h1.2]; exact hpe
            have hlb : ∀ Q : Int32 → xM → Prop, (∀ τ, xSim σ τ → (bsF ok g (ns ^ m)).1 = -1 → Q 0 τ) → (∀ τ, xSim σ τ → ¬ (bsF ok g (ns ^ m)).1 = -1 → τ.1 48 2 = (bsF ok g (ns ^ m)).1 → (∀ i, i < m → τ.1 50 i = nI (dg ns m (bsF ok g (ns ^ m)).2 i)) → Q 1 τ) → xI1 38 [.ref 48, .ref 38, .ref p, .ref 10, .int (iI w), .int (iI s)] τ Q := fun Q q0 q1 => XlayBest hX hb hm hm1 hm3 hns1 hw hs hk h1 h2 h4 q0 q1
            have c0 : ∀ τ, xSim σ τ → (bsF ok g (ns ^ m)).1 = -1 → xC 124 88 [some (.ref 0), some (.int (nI hour)), some (.int (iI w)), some (.int (iI s)), some (.int (nI m)), some (.int e)] [.int 0] τ (xqI (fun r1 σ1 => xI1 207 (.ref 84 :: [.int (nI hour), .int (iI w), .int (iI s), .int (nI m), .int e]) σ1 (fun r2 σ2 => r1 = r2 ∧ xInv xs L σ2))) := by
              intro τ hsm hq
              have hr := href τ (-1) hsm (fun _ => rfl) (fun _ => hq.symm) (fun j _ _ z => absurd hq z)
              simp only [s124_88, s124_91, s124_92, xcx_i, xcx_r, xcx_n, xcx_l, xcx_0, not_true, if_false]
              exact hr
            have c1 : ∀ τ, xSim σ τ → ¬ (bsF ok g (ns ^ m)).1 = -1 → τ.1 48 2 = (bsF ok g (ns ^ m)).1 → (∀ i, i < m → τ.1 50 i = nI (dg ns m (bsF ok g (ns ^ m)).2 i)) → xC 124 88 [some (.ref 0), some (.int (nI hour)), some (.int (iI w)), some (.int (iI s)), some (.int (nI m)), some (.int e)] [.int 1] τ (xqI (fun r1 σ1 => xI1 207 (.ref 84 :: [.int (nI hour), .int (iI w), .int (iI s), .int (nI m), .int e]) σ1 (fun r2 σ2 => r1 = r2 ∧ xInv xs L σ2))) := by
              intro τ hsm hq h48 h50
              have h10 : ¬ (1 : Int32) = 0 := by decide
              rcases hew with q | ⟨j, hj, q⟩
              · have q' : (e = -1) = True := eq_true q
                have hr := href τ (bsF ok g (ns ^ m)).1 hsm (fun z => z) (fun _ => rfl) (fun j hj z _ => by
                  rw [q] at z
                  have := nI_m1 (n := j) (by omega)
                  rw [← z] at this
                  exact absurd rfl (by rw [this]; exact id))
                simp only [s124_88, s124_91, s124_92, s124_93, s124_95, s124_96, s124_99, s124_100, s124_103, s124_106, s124_109, s124_110, s124_113, s124_116, s124_118, s124_121, xcx_i, xcx_r, xcx_n, xcx_l, xcx_0, h10, not_false_eq_true, if_true, q', not_true, if_false, h48]
                exact hr
              · have q' : ¬ e = -1 := by rw [q, nI_m1 (by omega)]; exact id
                have hr := href τ (nI (dg ns m (bsF ok g (ns ^ m)).2 j)) hsm (fun z => absurd z hq) (fun z => absurd z q') (fun j' hj' z _ => by
                  rw [q] at z
                  rw [(nI_eq (by omega) (by omega)).mp z])
                have x50 : xat τ 50 e = nI (dg ns m (bsF ok g (ns ^ m)).2 j) := by
                  rw [q, xat_n (by rw [xln_50]; omega)]; exact h50 j hj
                simp only [s124_88, s124_91, s124_92, s124_93, s124_95, s124_96, s124_99, s124_100, s124_103, s124_106, s124_109, s124_110, s124_113, s124_116, s124_118, s124_121, xcx_i, xcx_r, xcx_n, xcx_l, xcx_0, h10, not_false_eq_true, if_true, q', at_eq, xcl_50, x50]
                exact hr
            rcases hX.1.1 with rfl | rfl
            · simp only [s124_67, s124_68, s124_71, s124_72, s124_75, s124_76, s124_79, s124_80, s124_83, s124_84, s124_85, xcx_i, xcx_r, xcx_n, xcx_l, xcx_0, hpτ, true_or, or_true, true_and]
              exact hlb _ c0 c1
            · simp only [s124_67, s124_68, s124_71, s124_72, s124_75, s124_76, s124_79, s124_80, s124_83, s124_84, s124_85, xcx_i, xcx_r, xcx_n, xcx_l, xcx_0, hpτ, true_or, or_true, true_and]
              exact hlb _ c0 c1
          have hmo : ∀ Q : xM → Prop, (∀ τ, xSim σ τ → moX τ m (2 ^ m - 1) (wyF D E bow) (rmF D E bow deck hour) (hdF D E) (brF D E) (D 1) → (∀ i, i < m → τ.1 42 i = iI (spF D E deck hour i)) → Q τ) → xV 43 [.ref 38, .ref p, .ref 10, .int (nI m), .int (nI hour)] σ Q := fun Q hQ => Xmoor hX hb hm hh (fun τ h1 h2 h3 h4 => hQ τ h1 h2 h4)
          rw [e124]
          rcases hX.1.1 with rfl | rfl
          · simp only [s124_0, s124_1, s124_2, s124_3, s124_4, s124_7, s124_10, s124_12, s124_13, s124_14, s124_17, s124_20, s124_22, s124_23, s124_26_10, s124_26_17, s124_26_24, s124_26_31, s124_29, s124_32, s124_33, s124_34, s124_36, s124_37, s124_39, s124_40, s124_41, s124_44, s124_47, s124_48, s124_49, s124_50, s124_53, s124_54, s124_57, s124_58, s124_61, s124_63, s124_64, xcx_i, xcx_r, xcx_n, xcx_l, xcx_0, maySail_eq, within_eq, xb_f, ite_not, if_pos hG, if_pos hd, if_pos he, hdn, k1, hpe, if_true, true_or, or_true, true_and]
            exact hmo _ after
          · simp only [s124_0, s124_1, s124_2, s124_3, s124_4, s124_7, s124_10, s124_12, s124_13, s124_14, s124_17, s124_20, s124_22, s124_23, s124_26_10, s124_26_17, s124_26_24, s124_26_31, s124_29, s124_32, s124_33, s124_34, s124_36, s124_37, s124_39, s124_40, s124_41, s124_44, s124_47, s124_48, s124_49, s124_50, s124_53, s124_54, s124_57, s124_58, s124_61, s124_63, s124_64, xcx_i, xcx_r, xcx_n, xcx_l, xcx_0, maySail_eq, within_eq, xb_f, ite_not, if_pos hG, if_pos hd, if_pos he, hdn, k1, hpe, if_true, true_or, or_true, true_and]
            exact hmo _ after
        · have q' : ¬ e = -1 := fun q => he ⟨by rw [q]; decide, by
            rw [q, Int32.le_iff_toInt_le]
            obtain ⟨m, rfl, hm3⟩ := toN (x := d) (b := 3) (by decide) ⟨by
              have h1 := Int32.le_iff_toInt_le.mp hd.1
              rw [Int32.le_iff_toInt_le]
              have z0 : (0 : Int32).toInt = 0 := rfl
              have z1 : (1 : Int32).toInt = 1 := rfl
              omega, hd.2⟩
            have hm1 : 1 ≤ m := (nI_leI (a := 1) (b := m) (by decide) (by omega)).mp hd.1
            rw [show nI m - 1 = nI (m - 1) from pk_sub (b := 1) hm1, nI_ti (by omega)]
            show (-1 : Int) ≤ _
            omega⟩
          have hin : ¬ (0 ≤ e ∧ e ≤ d - 1) := fun z => he ⟨by
            have h1 := Int32.le_iff_toInt_le.mp z.1
            rw [Int32.le_iff_toInt_le]
            have z0 : (0 : Int32).toInt = 0 := rfl
            have z1 : (-1 : Int32).toInt = -1 := rfl
            omega, z.2⟩
          rw [e124]
          simp only [s124_0, s124_1, s124_2, s124_3, s124_4, s124_7, s124_10, s124_12, s124_13, s124_14, s124_17, s124_20, s124_22, s124_23, s124_26_10, s124_26_17, s124_26_24, s124_26_31, s124_29, s124_32, s124_33, s124_34, s124_36, s124_37, s124_39, s124_40, s124_41, s124_44, s124_47, s124_48, xcx_i, xcx_r, xcx_n, xcx_l, xcx_0, maySail_eq, within_eq, xb_f, ite_not, if_pos hG, if_pos hd, if_neg he, hdn, k1, if_true, true_or, or_true, true_and]
          rw [e207]
          simp only [s207_0, s207_1, s207_2, s207_3, s207_4, s207_7, s207_10, s207_12, s207_13, s207_14, s207_17, s207_20, s207_22, s207_23, s207_26, s207_29, s207_31, s207_32, s207_35, s207_37, s207_38, s207_40, s207_41, s207_42, s207_45, s207_48, s207_49, xcx_i, xcx_r, xcx_n, xcx_l, xcx_0, isWeather_eq, in_eq, k2, xb_f, ite_not, if_pos hGm, if_pos hd, if_neg hin, hdn', if_false, q', true_or, or_true, true_and]
          first | exact hI | exact ⟨trivial, hI⟩ | exact ⟨rfl, hI⟩
      · have hdn' : nI n0 < d := Int32.not_le.mp hdn
        rw [e124]
        simp only [s124_0, s124_1, s124_2, s124_3, s124_4, s124_7, s124_10, s124_12, s124_13, s124_14, s124_17, s124_20, s124_22, s124_23, s124_26_10, s124_26_17, s124_26_24, s124_26_31, s124_29, s124_32, s124_33, xcx_i, xcx_r, xcx_n, xcx_l, xcx_0, maySail_eq, within_eq, xb_f, ite_not, if_pos hG, if_pos hd, hdn, k1, if_false, true_or, or_true, true_and]
        rw [e207]
        simp only [s207_0, s207_1, s207_2, s207_3, s207_4, s207_7, s207_10, s207_12, s207_13, s207_14, s207_17, s207_20, s207_22, s207_23, s207_26, s207_48, s207_49, xcx_i, xcx_r, xcx_n, xcx_l, xcx_0, isWeather_eq, in_eq, k2, xb_f, ite_not, if_pos hGm, if_pos hd, hdn', if_true, true_or, or_true, true_and]
        first | exact hI | exact ⟨trivial, hI⟩ | exact ⟨rfl, hI⟩
    · rw [e124]
      simp only [s124_0, s124_1, s124_2, s124_3, s124_4, s124_7, s124_10, s124_12, s124_13, s124_14, s124_17, s124_20, s124_22, s124_23, s124_26_10, s124_26_17, s124_26_24, s124_26_31, s124_29, s124_32, s124_33, xcx_i, xcx_r, xcx_n, xcx_l, xcx_0, maySail_eq, within_eq, xb_f, ite_not, if_pos hG, if_neg hd, true_or, or_true, true_and]
      rw [e207]
      simp only [s207_0, s207_1, s207_2, s207_3, s207_4, s207_7, s207_10, s207_12, s207_13, s207_14, s207_17, s207_20, s207_22, s207_23, s207_26, s207_48, s207_49, xcx_i, xcx_r, xcx_n, xcx_l, xcx_0, isWeather_eq, in_eq, xb_f, ite_not, if_pos hGm, if_neg hd, true_or, or_true, true_and]
      first | exact hI | exact ⟨trivial, hI⟩ | exact ⟨rfl, hI⟩
  · have hGm : ¬ (¬ σ.1 84 28 = 0 ∧ (0 ≤ a ∧ a ≤ 99) ∧ (0 ≤ b ∧ b ≤ 999) ∧ (-99 ≤ c ∧ c ≤ 99)) := by rw [h28]; exact hG
    rw [e124]
    simp only [s124_0, s124_1, s124_2, s124_3, s124_4, s124_7, s124_10, s124_12, s124_13, s124_14, s124_17, s124_20, s124_22, s124_23, s124_26_10, s124_26_17, s124_26_24, s124_26_31, s124_29, s124_32, s124_33, xcx_i, xcx_r, xcx_n, xcx_l, xcx_0, maySail_eq, xb_f, ite_not, if_neg hG, true_or, or_true, true_and]
    rw [e207]
    simp only [s207_0, s207_1, s207_2, s207_3, s207_4, s207_7, s207_10, s207_12, s207_13, s207_14, s207_17, s207_20, s207_22, s207_23, s207_26, s207_48, s207_49, xcx_i, xcx_r, xcx_n, xcx_l, xcx_0, isWeather_eq, xb_f, ite_not, if_neg hGm, true_or, or_true, true_and]
    first | exact hI | exact ⟨trivial, hI⟩ | exact ⟨rfl, hI⟩
