/-! the call moved -/
theorem op_moved (a b c d e : Int32) : xOp 123 206 [.int a, .int b, .int c, .int d, .int e] := by
  intro xs L σ hI
  have h28 : σ.1 84 28 = σ.1 10 0 := by
    obtain ⟨n, hn6, k1, k2, h01, h28, hz, h1, hrow⟩ := hI.2.2.1
    exact h28
  have h01 : σ.1 10 0 = 0 ∨ σ.1 10 0 = 1 := by
    obtain ⟨n, hn6, k1, k2, h01, h28, hz, h1, hrow⟩ := hI.2.2.1
    exact h01
  by_cases hG : ¬ σ.1 10 0 = 0 ∧ (0 ≤ a ∧ a ≤ 99) ∧ (0 ≤ b ∧ b ≤ 999) ∧ (-99 ≤ c ∧ c ≤ 99)
  · obtain ⟨ha, hga, hgb, hgc⟩ := id hG
    obtain ⟨hour, rfl, hh⟩ := toN (b := 99) (by decide) hga
    obtain ⟨w, rfl, hw1, hw2⟩ := toI hgb
    obtain ⟨s, rfl, hs1, hs2⟩ := toI hgc
    have hw : 0 ≤ w ∧ w ≤ 999 := ⟨hw1, hw2⟩
    have hs : -99 ≤ s ∧ s ≤ 99 := ⟨hs1, hs2⟩
    have ha1 : σ.1 10 0 = 1 := by
      rcases h01 with q | q
      · exact absurd q ha
      · exact q
    obtain ⟨p, n, ns, nr, bow, deck, D, E, hb, hsl, hX, hM, kx, km, hns1⟩ := hI.ship ha1
    have hn6 := hb.1
    have hn31 : n < 2147483648 := by omega
    have hpe := hX.1.2.1
    have hGm : ¬ σ.1 84 28 = 0 ∧ (0 ≤ nI hour ∧ nI hour ≤ 99) ∧ (0 ≤ iI w ∧ iI w ≤ 999) ∧ (-99 ≤ iI s ∧ iI s ≤ 99) := by rw [h28]; exact hG
    by_cases hd : 0 ≤ d ∧ d ≤ nI n - 1
    · by_cases hE : -20 ≤ e ∧ e ≤ 20
      · obtain ⟨l, hl, rfl⟩ := (rng_iff hn31).mp hd
        have l6 : l < 6 := by omega
        have h20 := hsl l hl
        have after2 : ∀ τ r, xSim σ τ → mvR D E bow deck hour n w s l e r → xI1 206 (.ref 84 :: [.int (nI hour), .int (iI w), .int (iI s), .int (nI l), .int e]) τ (fun r2 σ2 => (if r = 21 then -1 else nI r) = r2 ∧ xInv xs L σ2) := by
          intro τ r hsim hr
          have hMτ := hM.sim hsim
          have kmτ : τ.1 84 31 = nI n := (hsim.1 84 31 rfl).trans km
          have h28τ : τ.1 84 28 = σ.1 84 28 := (hsim.1 84 28 rfl)
          have hGτ : ¬ τ.1 84 28 = 0 ∧ (0 ≤ nI hour ∧ nI hour ≤ 99) ∧ (0 ≤ iI w ∧ iI w ≤ 999) ∧ (-99 ≤ iI s ∧ iI s ≤ 99) := by rw [h28τ]; exact hGm
          have e3 := (hMτ.2.2.1 l hl).2.2.2.1
          have r1 : 1 ≤ r := by
            rcases hr.2.2 with q | q
            · omega
            · exact q.1
          rw [e206]
          simp only [s206_0, s206_1, s206_2, s206_3, s206_4, s206_7, s206_10, s206_11, s206_13, s206_16, s206_19, s206_21, s206_23, s206_25, s206_28, s206_31, s206_32, s206_33, s206_34, s206_36, s206_37, s206_40, s206_42, s206_43, s206_45, s206_46, xcx_i, xcx_r, xcx_n, xcx_l, xcx_0, isWeather_eq, isLine_eq, in_eq, kmτ, xb_f, ite_not, if_pos hGτ, if_pos hd, if_pos hE, if_true, Mf3 l6, e3, true_or, or_true, true_and]
          exact Mmo_loop hMτ hb hl h20 hh kmτ hw hs hr (fun τ' hr' => ⟨rfl, hI.sim (hsim.tr hr'.sim)⟩) (r - 1) 1 (Nat.le_refl _) (by omega) τ ⟨fun _ _ _ _ => rfl, rfl⟩
        have after : ∀ τ, xSim σ τ → moX τ n (2 ^ n - 1) (wyF D E bow) (rmF D E bow deck hour) (hdF D E) (brF D E) (D 1) → τ.1 38 7 = 0 → xC 123 59 [some (.ref 0), some (.int (nI hour)), some (.int (iI w)), some (.int (iI s)), some (.int (nI l)), some (.int e), none] [] τ (xqI (fun r1 σ1 => xI1 206 (.ref 84 :: [.int (nI hour), .int (iI w), .int (iI s), .int (nI l), .int e]) σ1 (fun r2 σ2 => r1 = r2 ∧ xInv xs L σ2))) := by
          intro τ h1 h2 h3
          have hD : swD D l (D 3 l + 0) = D := by
            funext k i
            show (if k = 3 then upN (D 3) l (D 3 l + 0) else D k) i = D k i
            by_cases q : k = 3
            · subst q
              rw [if_pos rfl]
              show (if i = l then D 3 l + 0 else D 3 i) = D 3 i
              by_cases q : i = l
              · subst q; rw [if_pos rfl]; rfl
              · rw [if_neg q]
            · rw [if_neg q]
          simp only [s123_59, s123_60, xcx_i, xcx_r, xcx_n, xcx_l, xcx_0]
          refine Xmo_loop hX hb hl h20 hw hs (fun τ' r q1 q2 => after2 τ' r q1 q2) 20 0 (by omega) τ h1 ?_ (fun k q1 q2 => absurd q2 (by omega))
          have h2' : moX τ n (2 ^ n - 1) (wyF D E bow) (rmF (swD D l (D 3 l + 0)) E bow deck hour) (hdF D E) (brF D E) (D 1) := by rw [hD]; exact h2
          exact h2'
        have hmo : ∀ Q : xM → Prop, (∀ τ, xSim σ τ → moX τ n (2 ^ n - 1) (wyF D E bow) (rmF D E bow deck hour) (hdF D E) (brF D E) (D 1) → τ.1 38 7 = 0 → Q τ) → xV 43 [.ref 38, .ref p, .ref 10, .int (nI n), .int (nI hour)] σ Q := fun Q hQ => Xmoor hX hb (Nat.le_refl n) hh (fun τ h1 h2 h3 _ => hQ τ h1 h2 h3)
        rw [e123]
        rcases hX.1.1 with rfl | rfl
        · simp only [s123_0, s123_1, s123_2, s123_3, s123_4, s123_7, s123_10, s123_11, s123_14, s123_16_10, s123_16_17, s123_16_24, s123_16_31, s123_19, s123_22, s123_24, s123_26, s123_28, s123_31, s123_34, s123_35, s123_36, s123_37, s123_40, s123_41, s123_44, s123_45, s123_48, s123_49, s123_52_10, s123_52_17, s123_52_24, s123_52_31, s123_55, s123_56, xcx_i, xcx_r, xcx_n, xcx_l, xcx_0, maySail_eq, hasLine_eq, within_eq, xb_f, ite_not, if_pos hG, if_pos hd, if_pos hE, hpe, kx, if_true, true_or, or_true, true_and]
          exact hmo _ after
        · simp only [s123_0, s123_1, s123_2, s123_3, s123_4, s123_7, s123_10, s123_11, s123_14, s123_16_10, s123_16_17, s123_16_24, s123_16_31, s123_19, s123_22, s123_24, s123_26, s123_28, s123_31, s123_34, s123_35, s123_36, s123_37, s123_40, s123_41, s123_44, s123_45, s123_48, s123_49, s123_52_10, s123_52_17, s123_52_24, s123_52_31, s123_55, s123_56, xcx_i, xcx_r, xcx_n, xcx_l, xcx_0, maySail_eq, hasLine_eq, within_eq, xb_f, ite_not, if_pos hG, if_pos hd, if_pos hE, hpe, kx, if_true, true_or, or_true, true_and]
          exact hmo _ after
      · rw [e123]
        simp only [s123_0, s123_1, s123_2, s123_3, s123_4, s123_7, s123_10, s123_11, s123_14, s123_16_10, s123_16_17, s123_16_24, s123_16_31, s123_19, s123_22, s123_24, s123_26, s123_28, s123_31, s123_34, s123_35, xcx_i, xcx_r, xcx_n, xcx_l, xcx_0, maySail_eq, hasLine_eq, within_eq, xb_f, ite_not, if_pos hG, if_pos hd, if_neg hE, kx, true_or, or_true, true_and]
        rw [e206]
        simp only [s206_0, s206_1, s206_2, s206_3, s206_4, s206_7, s206_10, s206_11, s206_13, s206_16, s206_19, s206_21, s206_23, s206_25, s206_28, s206_31, s206_32, xcx_i, xcx_r, xcx_n, xcx_l, xcx_0, isWeather_eq, isLine_eq, in_eq, km, xb_f, ite_not, if_pos hGm, if_pos hd, if_neg hE, true_or, or_true, true_and]
        first | exact hI | exact ⟨trivial, hI⟩ | exact ⟨rfl, hI⟩
    · rw [e123]
      simp only [s123_0, s123_1, s123_2, s123_3, s123_4, s123_7, s123_10, s123_11, s123_14, s123_16_10, s123_16_17, s123_16_24, s123_16_31, s123_19, s123_22, s123_24, s123_26, s123_28, s123_31, s123_34, s123_35, xcx_i, xcx_r, xcx_n, xcx_l, xcx_0, maySail_eq, hasLine_eq, within_eq, xb_f, ite_not, if_pos hG, if_neg hd, kx, true_or, or_true, true_and]
      rw [e206]
      simp only [s206_0, s206_1, s206_2, s206_3, s206_4, s206_7, s206_10, s206_11, s206_13, s206_16, s206_19, s206_21, s206_23, s206_25, s206_28, s206_31, s206_32, xcx_i, xcx_r, xcx_n, xcx_l, xcx_0, isWeather_eq, isLine_eq, in_eq, km, xb_f, ite_not, if_pos hGm, if_neg hd, true_or, or_true, true_and]
      first | exact hI | exact ⟨trivial, hI⟩ | exact ⟨rfl, hI⟩
  · have hGm : ¬ (¬ σ.1 84 28 = 0 ∧ (0 ≤ a ∧ a ≤ 99) ∧ (0 ≤ b ∧ b ≤ 999) ∧ (-99 ≤ c ∧ c ≤ 99)) := by rw [h28]; exact hG
    rw [e123]
    simp only [s123_0, s123_1, s123_2, s123_3, s123_4, s123_7, s123_10, s123_11, s123_14, s123_16_10, s123_16_17, s123_16_24, s123_16_31, s123_19, s123_22, s123_24, s123_26, s123_28, s123_31, s123_34, s123_35, xcx_i, xcx_r, xcx_n, xcx_l, xcx_0, maySail_eq, xb_f, ite_not, if_neg hG, true_or, or_true, true_and]
    rw [e206]
    simp only [s206_0, s206_1, s206_2, s206_3, s206_4, s206_7, s206_10, s206_11, s206_13, s206_16, s206_19, s206_21, s206_23, s206_25, s206_28, s206_31, s206_32, xcx_i, xcx_r, xcx_n, xcx_l, xcx_0, isWeather_eq, xb_f, ite_not, if_neg hGm, true_or, or_true, true_and]
    first | exact hI | exact ⟨trivial, hI⟩ | exact ⟨rfl, hI⟩
