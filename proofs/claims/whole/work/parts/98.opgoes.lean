/-! the calls goes and holds -/
theorem xat49 {σ : xM} {v : Nat} (h : v < 6) : xat σ 49 (nI v) = σ.1 49 v := xat_n (by rw [xln_49]; omega)
theorem op_goes (a b c d : Int32) : xOp 120 203 [.int a, .int b, .int c, .int d] := by
  intro xs L σ hI
  have h28 : σ.1 84 28 = σ.1 10 0 := by
    obtain ⟨n, hn6, k1, k2, h01, h28, hz, h1, hrow⟩ := hI.2.2.1
    exact h28
  have h01 : σ.1 10 0 = 0 ∨ σ.1 10 0 = 1 := by
    obtain ⟨n, hn6, k1, k2, h01, h28, hz, h1, hrow⟩ := hI.2.2.1
    exact h01
  by_cases hG : ¬ σ.1 10 0 = 0 ∧ (0 ≤ a ∧ a ≤ 99) ∧ (0 ≤ b ∧ b ≤ 999) ∧ (-99 ≤ c ∧ c ≤ 99)
  · obtain ⟨ha, hga, hgb, hgc⟩ := id hG
    obtain ⟨hour, rfl, hh⟩ := toN (b := 99) (by decide) hga
    obtain ⟨w, rfl, hw1, hw2⟩ := toI hgb
    obtain ⟨s, rfl, hs1, hs2⟩ := toI hgc
    have hw : 0 ≤ w ∧ w ≤ 999 := ⟨hw1, hw2⟩
    have hs : -99 ≤ s ∧ s ≤ 99 := ⟨hs1, hs2⟩
    have ha1 : σ.1 10 0 = 1 := by
      rcases h01 with q | q
      · exact absurd q ha
      · exact q
    obtain ⟨p, n, ns, nr, bow, deck, D, E, hb, hsl, hX, hM, kx, km, hns1⟩ := hI.ship ha1
    have hn6 := hb.1
    have hpe := hX.1.2.1
    have href : ∀ τ l H', xSim σ τ → Ch D E bow deck hour n ns w s l (2 ^ n - 1) H' → l.length ≤ 6 → xI1 203 (.ref 84 :: [.int (nI hour), .int (iI w), .int (iI s), .int d]) τ (fun r2 σ2 => ansG l 0 d = r2 ∧ xInv xs L σ2) := by
      intro τ l H' hsim hC hl6
      have hMτ := hM.sim hsim
      have kmτ : τ.1 84 31 = nI n := (hsim.1 84 31 rfl).trans km
      have h28τ : τ.1 84 28 = σ.1 10 0 := (hsim.1 84 28 rfl).trans h28
      have hGm : ¬ τ.1 84 28 = 0 ∧ (0 ≤ nI hour ∧ nI hour ≤ 99) ∧ (0 ≤ iI w ∧ iI w ≤ 999) ∧ (-99 ≤ iI s ∧ iI s ≤ 99) := by rw [h28τ]; exact hG
      rw [e203]
      simp only [s203_0, s203_1, s203_2, s203_3, s203_4, s203_7, s203_10, s203_11, s203_12, s203_13, s203_16, s203_18, s203_19, s203_21, s203_22, s203_23, s203_24, s203_25, s203_27, xcx_i, xcx_r, xcx_n, xcx_l, xcx_0, isWeather_eq, xb_f, ite_not, if_pos hGm, if_true, Mall_eq kmτ hn6, true_or, or_true, true_and]
      refine MgoesNext hMτ hb hh (Nat.le_refl n) kmτ (all64 hn6) hw hs (fun τ2 u v hr _ _ hB => ?_)
      simp only [s203_30, xcx_i, xcx_r, xcx_n, xcx_l, xcx_0]
      exact Mgo_loop hMτ hb hh kmτ hw hs l 0 _ _ τ2 hC ⟨u, v, hB, rfl⟩ (all64 hn6) hr (by omega) (fun τ' hr' => ⟨rfl, hI.sim (hsim.tr hr'.sim)⟩)
    have after2 : ∀ τ l H', xSim σ τ → Ch D E bow deck hour n ns w s l (2 ^ n - 1) H' → l.length ≤ 6 → τ.1 48 0 = nI l.length → (∀ j, j < l.length → τ.1 49 j = nI (l.getD j 0)) → xC 120 52 [some (.ref 0), some (.int (nI hour)), some (.int (iI w)), some (.int (iI s)), some (.int d)] [] τ (xqI (fun r1 σ1 => xI1 203 (.ref 84 :: [.int (nI hour), .int (iI w), .int (iI s), .int d]) σ1 (fun r2 σ2 => r1 = r2 ∧ xInv xs L σ2))) := by
      intro τ l H' hsim hC hl6 h48 h49
      have hr := href τ l H' hsim hC hl6
      by_cases cm : d = -1
      · subst cm
        rw [ansG_all l 0 (by omega), Nat.zero_add] at hr
        simp only [s120_52, s120_54, s120_55, s120_58, s120_59, s120_62, s120_65, xcx_i, xcx_r, xcx_n, xcx_l, xcx_0, not_true, if_true, if_false, h48]
        exact hr
      · by_cases hd : 0 ≤ d ∧ d ≤ nI l.length - 1
        · obtain ⟨j, hj, rfl⟩ := (rng_iff (by omega)).mp hd
          have e := ansG_in l 0 j (by omega) hj
          rw [Nat.zero_add] at e
          rw [e] at hr
          simp only [s120_52, s120_54, s120_55, s120_58, s120_59, s120_62, s120_65, s120_66, s120_68, s120_69, s120_70, s120_73, s120_76, s120_77, s120_78, s120_81, s120_84, s120_85, s120_88, s120_91, s120_93, s120_96, s120_99, s120_100, xcx_i, xcx_r, xcx_n, xcx_l, xcx_0, cm, not_false_eq_true, if_true, if_false, h48, within_eq, if_pos hd, xb_f, ite_not, at_eq, xcl_49, xat49 (show j < 6 by omega), h49 j hj, true_or, or_true, true_and]
          exact hr
        · have e := ansG_out cm l 0 (fun j hj q => hd ((rng_iff (by omega)).mpr ⟨j, hj, by rw [q, Nat.zero_add]⟩))
          rw [e] at hr
          simp only [s120_52, s120_54, s120_55, s120_58, s120_59, s120_62, s120_65, s120_66, s120_68, s120_69, s120_70, s120_73, s120_76, s120_77, s120_78, s120_81, s120_84, s120_85, s120_88, s120_91, s120_93, s120_96, s120_99, s120_100, xcx_i, xcx_r, xcx_n, xcx_l, xcx_0, cm, not_false_eq_true, if_true, if_false, h48, within_eq, if_neg hd, xb_f, ite_not, true_or, or_true, true_and]
          exact hr
    have after : ∀ τ, xSim σ τ → moX τ n (2 ^ n - 1) (wyF D E bow) (rmF D E bow deck hour) (hdF D E) (brF D E) (D 1) → τ.1 38 7 = 0 → xC 120 35 [some (.ref 0), some (.int (nI hour)), some (.int (iI w)), some (.int (iI s)), some (.int d)] [] τ (xqI (fun r1 σ1 => xI1 203 (.ref 84 :: [.int (nI hour), .int (iI w), .int (iI s), .int d]) σ1 (fun r2 σ2 => r1 = r2 ∧ xInv xs L σ2))) := by
      intro τ h1 h2 h3
      have hpτ : τ.2.2 1 = p := by rw [h1.2]; exact hpe
      have hbl : ∀ Q : xM → Prop, (∀ τ l H', xSim σ τ → Ch D E bow deck hour n ns w s l (2 ^ n - 1) H' → l.length ≤ 6 → τ.1 48 0 = nI l.length → (∀ j, j < l.length → τ.1 49 j = nI (l.getD j 0)) → τ.1 38 1 = nI H' → Q τ) → xV 36 [.ref 48, .ref 38, .ref p, .int (iI w), .int (iI s)] τ Q := fun Q hQ => Xblow hX hb hw hs h1 h2 h3 hQ
      rcases hX.1.1 with rfl | rfl
      · simp only [s120_35, s120_36, s120_39, s120_40, s120_43, s120_44, s120_47, s120_48, s120_49, xcx_i, xcx_r, xcx_n, xcx_l, xcx_0, hpτ, true_or, or_true, true_and]
        exact hbl _ (fun τ' l H' q1 q2 q3 q4 q5 _ => after2 τ' l H' q1 q2 q3 q4 q5)
      · simp only [s120_35, s120_36, s120_39, s120_40, s120_43, s120_44, s120_47, s120_48, s120_49, xcx_i, xcx_r, xcx_n, xcx_l, xcx_0, hpτ, true_or, or_true, true_and]
        exact hbl _ (fun τ' l H' q1 q2 q3 q4 q5 _ => after2 τ' l H' q1 q2 q3 q4 q5)
    have hmo : ∀ Q : xM → Prop, (∀ τ, xSim σ τ → moX τ n (2 ^ n - 1) (wyF D E bow) (rmF D E bow deck hour) (hdF D E) (brF D E) (D 1) → τ.1 38 7 = 0 → Q τ) → xV 43 [.ref 38, .ref p, .ref 10, .int (nI n), .int (nI hour)] σ Q := fun Q hQ => Xmoor hX hb (Nat.le_refl n) hh (fun τ h1 h2 h3 _ => hQ τ h1 h2 h3)
    rw [e120]
    rcases hX.1.1 with rfl | rfl
    · simp only [s120_0, s120_1, s120_2, s120_3, s120_4, s120_7, s120_10, s120_11, s120_12, s120_13, s120_16, s120_17, s120_20, s120_21, s120_24, s120_25, s120_28_10, s120_28_17, s120_28_24, s120_28_31, s120_31, s120_32, xcx_i, xcx_r, xcx_n, xcx_l, xcx_0, maySail_eq, xb_f, ite_not, if_pos hG, hpe, kx, true_or, or_true, true_and]
      exact hmo _ after
    · simp only [s120_0, s120_1, s120_2, s120_3, s120_4, s120_7, s120_10, s120_11, s120_12, s120_13, s120_16, s120_17, s120_20, s120_21, s120_24, s120_25, s120_28_10, s120_28_17, s120_28_24, s120_28_31, s120_31, s120_32, xcx_i, xcx_r, xcx_n, xcx_l, xcx_0, maySail_eq, xb_f, ite_not, if_pos hG, hpe, kx, true_or, or_true, true_and]
      exact hmo _ after
  · have hGm : ¬ (¬ σ.1 84 28 = 0 ∧ (0 ≤ a ∧ a ≤ 99) ∧ (0 ≤ b ∧ b ≤ 999) ∧ (-99 ≤ c ∧ c ≤ 99)) := by rw [h28]; exact hG
    rw [e120]
    simp only [s120_0, s120_1, s120_2, s120_3, s120_4, s120_7, s120_10, s120_11, xcx_i, xcx_r, xcx_n, xcx_l, xcx_0, maySail_eq, xb_f, ite_not, if_neg hG, true_or, or_true, true_and]
    rw [e203]
    simp only [s203_0, s203_1, s203_2, s203_3, s203_4, s203_7, s203_10, s203_11, xcx_i, xcx_r, xcx_n, xcx_l, xcx_0, isWeather_eq, xb_f, ite_not, if_neg hGm, true_or, or_true, true_and]
    first | exact hI | exact ⟨trivial, hI⟩ | exact ⟨rfl, hI⟩
theorem op_holds (a b c : Int32) : xOp 121 204 [.int a, .int b, .int c] := by
  intro xs L σ hI
  have h28 : σ.1 84 28 = σ.1 10 0 := by
    obtain ⟨n, hn6, k1, k2, h01, h28, hz, h1, hrow⟩ := hI.2.2.1
    exact h28
  have h01 : σ.1 10 0 = 0 ∨ σ.1 10 0 = 1 := by
    obtain ⟨n, hn6, k1, k2, h01, h28, hz, h1, hrow⟩ := hI.2.2.1
    exact h01
  by_cases hG : ¬ σ.1 10 0 = 0 ∧ (0 ≤ a ∧ a ≤ 99) ∧ (0 ≤ b ∧ b ≤ 999) ∧ (-99 ≤ c ∧ c ≤ 99)
  · obtain ⟨ha, hga, hgb, hgc⟩ := id hG
    obtain ⟨hour, rfl, hh⟩ := toN (b := 99) (by decide) hga
    obtain ⟨w, rfl, hw1, hw2⟩ := toI hgb
    obtain ⟨s, rfl, hs1, hs2⟩ := toI hgc
    have hw : 0 ≤ w ∧ w ≤ 999 := ⟨hw1, hw2⟩
    have hs : -99 ≤ s ∧ s ≤ 99 := ⟨hs1, hs2⟩
    have ha1 : σ.1 10 0 = 1 := by
      rcases h01 with q | q
      · exact absurd q ha
      · exact q
    obtain ⟨p, n, ns, nr, bow, deck, D, E, hb, hsl, hX, hM, kx, km, hns1⟩ := hI.ship ha1
    have hn6 := hb.1
    have hpe := hX.1.2.1
    have after2 : ∀ τ l H', xSim σ τ → Ch D E bow deck hour n ns w s l (2 ^ n - 1) H' → τ.1 38 1 = nI H' → xC 121 52 [some (.ref 0), some (.int (nI hour)), some (.int (iI w)), some (.int (iI s))] [] τ (xqI (fun r1 σ1 => xI1 204 (.ref 84 :: [.int (nI hour), .int (iI w), .int (iI s)]) σ1 (fun r2 σ2 => r1 = r2 ∧ xInv xs L σ2))) := by
      intro τ l H' hsim hC h381
      have hMτ := hM.sim hsim
      have kmτ : τ.1 84 31 = nI n := (hsim.1 84 31 rfl).trans km
      have h28τ : τ.1 84 28 = σ.1 10 0 := (hsim.1 84 28 rfl).trans h28
      have hGm : ¬ τ.1 84 28 = 0 ∧ (0 ≤ nI hour ∧ nI hour ≤ 99) ∧ (0 ≤ iI w ∧ iI w ≤ 999) ∧ (-99 ≤ iI s ∧ iI s ≤ 99) := by rw [h28τ]; exact hG
      simp only [s121_52, s121_53, s121_56, s121_59, xcx_i, xcx_r, xcx_n, xcx_l, xcx_0, h381]
      rw [e204]
      simp only [s204_0, s204_1, s204_2, s204_3, s204_4, s204_7, s204_10, s204_11, s204_12, s204_13, s204_16, s204_18, s204_19, s204_20, s204_21, s204_22, s204_24, xcx_i, xcx_r, xcx_n, xcx_l, xcx_0, isWeather_eq, xb_f, ite_not, if_pos hGm, if_true, Mall_eq kmτ hn6, true_or, or_true, true_and]
      refine MgoesNext hMτ hb hh (Nat.le_refl n) kmτ (all64 hn6) hw hs (fun τ2 u v hr _ _ hB => ?_)
      simp only [s204_27, xcx_i, xcx_r, xcx_n, xcx_l, xcx_0]
      exact Mho_loop hMτ hb hh kmτ hw hs l _ _ τ2 hC ⟨u, v, hB, rfl⟩ (all64 hn6) hr (fun τ' hr' => ⟨rfl, hI.sim (hsim.tr hr'.sim)⟩)
    have after : ∀ τ, xSim σ τ → moX τ n (2 ^ n - 1) (wyF D E bow) (rmF D E bow deck hour) (hdF D E) (brF D E) (D 1) → τ.1 38 7 = 0 → xC 121 35 [some (.ref 0), some (.int (nI hour)), some (.int (iI w)), some (.int (iI s))] [] τ (xqI (fun r1 σ1 => xI1 204 (.ref 84 :: [.int (nI hour), .int (iI w), .int (iI s)]) σ1 (fun r2 σ2 => r1 = r2 ∧ xInv xs L σ2))) := by
      intro τ h1 h2 h3
      have hpτ : τ.2.2 1 = p := by rw [h1.2]; exact hpe
      have hbl : ∀ Q : xM → Prop, (∀ τ l H', xSim σ τ → Ch D E bow deck hour n ns w s l (2 ^ n - 1) H' → l.length ≤ 6 → τ.1 48 0 = nI l.length → (∀ j, j < l.length → τ.1 49 j = nI (l.getD j 0)) → τ.1 38 1 = nI H' → Q τ) → xV 36 [.ref 48, .ref 38, .ref p, .int (iI w), .int (iI s)] τ Q := fun Q hQ => Xblow hX hb hw hs h1 h2 h3 hQ
      rcases hX.1.1 with rfl | rfl
      · simp only [s121_35, s121_36, s121_39, s121_40, s121_43, s121_44, s121_47, s121_48, s121_49, xcx_i, xcx_r, xcx_n, xcx_l, xcx_0, hpτ, true_or, or_true, true_and]
        exact hbl _ (fun τ' l H' q1 q2 q3 q4 q5 q6 => after2 τ' l H' q1 q2 q6)
      · simp only [s121_35, s121_36, s121_39, s121_40, s121_43, s121_44, s121_47, s121_48, s121_49, xcx_i, xcx_r, xcx_n, xcx_l, xcx_0, hpτ, true_or, or_true, true_and]
        exact hbl _ (fun τ' l H' q1 q2 q3 q4 q5 q6 => after2 τ' l H' q1 q2 q6)
    have hmo : ∀ Q : xM → Prop, (∀ τ, xSim σ τ → moX τ n (2 ^ n - 1) (wyF D E bow) (rmF D E bow deck hour) (hdF D E) (brF D E) (D 1) → τ.1 38 7 = 0 → Q τ) → xV 43 [.ref 38, .ref p, .ref 10, .int (nI n), .int (nI hour)] σ Q := fun Q hQ => Xmoor hX hb (Nat.le_refl n) hh (fun τ h1 h2 h3 _ => hQ τ h1 h2 h3)
    rw [e121]
    rcases hX.1.1 with rfl | rfl
    · simp only [s121_0, s121_1, s121_2, s121_3, s121_4, s121_7, s121_10, s121_11, s121_12, s121_13, s121_16, s121_17, s121_20, s121_21, s121_24, s121_25, s121_28_10, s121_28_17, s121_28_24, s121_28_31, s121_31, s121_32, xcx_i, xcx_r, xcx_n, xcx_l, xcx_0, maySail_eq, xb_f, ite_not, if_pos hG, hpe, kx, true_or, or_true, true_and]
      exact hmo _ after
    · simp only [s121_0, s121_1, s121_2, s121_3, s121_4, s121_7, s121_10, s121_11, s121_12, s121_13, s121_16, s121_17, s121_20, s121_21, s121_24, s121_25, s121_28_10, s121_28_17, s121_28_24, s121_28_31, s121_31, s121_32, xcx_i, xcx_r, xcx_n, xcx_l, xcx_0, maySail_eq, xb_f, ite_not, if_pos hG, hpe, kx, true_or, or_true, true_and]
      exact hmo _ after
  · have hGm : ¬ (¬ σ.1 84 28 = 0 ∧ (0 ≤ a ∧ a ≤ 99) ∧ (0 ≤ b ∧ b ≤ 999) ∧ (-99 ≤ c ∧ c ≤ 99)) := by rw [h28]; exact hG
    rw [e121]
    simp only [s121_0, s121_1, s121_2, s121_3, s121_4, s121_7, s121_10, s121_11, xcx_i, xcx_r, xcx_n, xcx_l, xcx_0, maySail_eq, xb_f, ite_not, if_neg hG, true_or, or_true, true_and]
    rw [e204]
    simp only [s204_0, s204_1, s204_2, s204_3, s204_4, s204_7, s204_10, s204_11, xcx_i, xcx_r, xcx_n, xcx_l, xcx_0, isWeather_eq, xb_f, ite_not, if_neg hGm, true_or, or_true, true_and]
    first | exact hI | exact ⟨trivial, hI⟩ | exact ⟨rfl, hI⟩
