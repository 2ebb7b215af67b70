/-! pull -/
theorem xat39 {σ : xM} {v : Nat} (h : v < 6) : xat σ 39 (nI v) = σ.1 39 v := xat_n (by rw [xln_39]; exact h)
theorem XallPulls {τ : xM} {n H : Nat} {W R K : Nat → Int} {u v : Int} {Q : Int32 → xM → Prop} (hn : τ.1 38 0 = nI n) (hn6 : n ≤ 6) (hr : rowI τ 39 n (fun i => if H.testBit i then plI W R K u v i else 0)) : xI1 52 [.ref 38] τ Q = Q (iI (puF W R K H n u v)) τ := by
  have loop : ∀ m i, i + m = n → xC 52 4 [some (.ref 38), some (.int (iI (puF W R K H i u v))), some (.int (nI i))] [] τ (xqI Q) = Q (iI (puF W R K H n u v)) τ := by
    intro m
    induction m with
    | zero =>
      intro i hi
      obtain rfl : i = n := by omega
      rw [s52_4]
      simp only [s52_5, s52_6, s52_9, s52_29, s52_30, xcx_i, xcx_r, xcx_n, xcx_l, xcx_0, hn, Int32.le_refl, if_true]
    | succ m ih =>
      intro i hi
      have e := lt4N (n := n) (i := i) (by omega) (by omega)
      have i6 : i < 6 := by omega
      have r := hr i (by omega)
      have ihh := ih (i + 1) (by omega)
      rw [show puF W R K H (i + 1) u v = puF W R K H i u v + if H.testBit i then plI W R K u v i else 0 from rfl] at ihh
      have r' : τ.1 39 i = iI (if H.testBit i then plI W R K u v i else 0) := r
      rw [s52_4]
      simp only [s52_5, s52_6, s52_9, s52_12, s52_13, s52_14, s52_17, s52_18, s52_21, s52_22, s52_23, s52_26, xcx_i, xcx_r, xcx_n, xcx_l, xcx_0, hn, e, if_false, at_eq, xcl_39, xat39 i6, r', iI_add, nI_1]
      exact ihh
  rw [e52]
  simp only [s52_0, s52_1, s52_2, s52_3, xcx_i, xcx_r, xcx_n, xcx_l, xcx_0]
  exact loop n 0 (by omega)
theorem op_pull (a b c d : Int32) : xOp 119 200 [.int a, .int b, .int c, .int d] := by
  intro xs L σ hI
  have h28 : σ.1 84 28 = σ.1 10 0 := by
    obtain ⟨n, hn6, k1, k2, h01, h28, hz, h1, hrow⟩ := hI.2.2.1
    exact h28
  have h01 : σ.1 10 0 = 0 ∨ σ.1 10 0 = 1 := by
    obtain ⟨n, hn6, k1, k2, h01, h28, hz, h1, hrow⟩ := hI.2.2.1
    exact h01
  by_cases hG : ¬ σ.1 10 0 = 0 ∧ (0 ≤ a ∧ a ≤ 99) ∧ (0 ≤ b ∧ b ≤ 999) ∧ (-99 ≤ c ∧ c ≤ 99)
  · obtain ⟨ha, hga, hgb, hgc⟩ := id hG
    obtain ⟨hour, rfl, hh⟩ := toN (b := 99) (by decide) hga
    obtain ⟨w, rfl, hw1, hw2⟩ := toI hgb
    obtain ⟨s, rfl, hs1, hs2⟩ := toI hgc
    have hw : 0 ≤ w ∧ w ≤ 999 := ⟨hw1, hw2⟩
    have hs : -99 ≤ s ∧ s ≤ 99 := ⟨hs1, hs2⟩
    have ha1 : σ.1 10 0 = 1 := by
      rcases h01 with q | q
      · exact absurd q ha
      · exact q
    obtain ⟨p, n, ns, nr, bow, deck, D, E, hb, hsl, hX, hM, kx, km, hns1⟩ := hI.ship ha1
    have hn6 := hb.1
    have hn31 : n < 2147483648 := by omega
    have h10 : ¬ (1 : Int32) = 0 := by decide
    have hfin : ∀ τ u v, xSim σ τ → moX τ n (2 ^ n - 1) (wyF D E bow) (rmF D E bow deck hour) (hdF D E) (brF D E) (D 1) → isB (csF (wyF D E bow) (rmF D E bow deck hour) (hdF D E) (2 ^ n - 1) n w s) u v → seX τ n (2 ^ n - 1) (wyF D E bow) (rmF D E bow deck hour) (hdF D E) w s u v → xC 119 12 [some (.ref 0), some (.int (nI hour)), some (.int (iI w)), some (.int (iI s)), some (.int d)] [] τ (xqI (fun r1 σ1 => xI1 200 (.ref 84 :: [.int (nI hour), .int (iI w), .int (iI s), .int d]) σ1 (fun r2 σ2 => r1 = r2 ∧ xInv xs L σ2))) := by
      intro τ u v hsim hmo hB hS
      obtain ⟨e2, e3, e4, e5, e9⟩ := hS
      have hMτ := hM.sim hsim
      have kmτ : τ.1 84 31 = nI n := (hsim.1 84 31 rfl).trans km
      have kxτ : τ.1 10 3 = nI n := (hsim.1 10 3 rfl).trans kx
      have h28τ : τ.1 84 28 = σ.1 10 0 := (hsim.1 84 28 rfl).trans h28
      have hGm : ¬ τ.1 84 28 = 0 ∧ (0 ≤ nI hour ∧ nI hour ≤ 99) ∧ (0 ≤ iI w ∧ iI w ≤ 999) ∧ (-99 ≤ iI s ∧ iI s ≤ 99) := by rw [h28τ]; exact hG
      have hfr : ∀ Q : xM → Prop, (∀ τ2, mrs τ τ2 → τ2.1 84 52 = iI u → τ2.1 84 53 = iI v → Q τ2) → xV 196 [.ref 84, .int (nI hour), .int (iI w), .int (iI s), .int (nI (2 ^ n - 1))] τ Q := by
        intro Q hQ
        refine MfindsRest hMτ hb hh (Nat.le_refl n) kmτ (all64 hn6) hw hs (fun τ2 u' v' hr hu hv hB' => ?_)
        obtain ⟨rfl, rfl⟩ := isB_eq hB hB'
        exact hQ τ2 hr hu hv
      have hinv : ∀ τ2, mrs τ τ2 → xInv xs L τ2 := fun τ2 hr => hI.sim (hsim.tr hr.sim)
      by_cases cm : d = -1
      · simp only [s119_12, s119_14, s119_15, s119_18, s119_19, s119_22, s119_25, xcx_i, xcx_r, xcx_n, xcx_l, xcx_0, cm, not_true, if_true, if_false, XallPulls hmo.2.2.1 hn6 e9]
        rw [e200]
        simp only [s200_0, s200_1, s200_2, s200_3, s200_4, s200_7, s200_10, s200_12, s200_13, s200_16, s200_17, s200_19, s200_22, s200_25, s200_26, s200_27, s200_28, s200_29, s200_30, s200_31, s200_32, s200_35, xcx_i, xcx_r, xcx_n, xcx_l, xcx_0, isWeather_eq, xb_f, ite_not, if_pos hGm, if_true, Mall_eq kmτ hn6, true_or, or_true, true_and]
        refine hfr _ (fun τ2 hr hu hv => ?_)
        have km2 : τ2.1 84 31 = nI n := (hr.1 84 31 (fun z => by omega)).trans kmτ
        have hA : ∀ Q : Int32 → xM → Prop, xI1 194 [.ref 84, .int (nI hour), .int (iI u), .int (iI v), .int (nI (2 ^ n - 1))] τ2 Q = _ := fun Q => Mpulls (hMτ.sim hr.sim) hb hh hB.1 (Nat.le_refl n) km2 (all64 hn6)
        simp only [s200_38, s200_40, s200_41, s200_44, s200_45, s200_46, s200_47, s200_50, s200_51, s200_54, s200_55, s200_58, s200_61, s200_64, s200_65, s200_67, s200_68, s200_69, s200_72, s200_73, s200_76, s200_79, xcx_i, xcx_r, xcx_n, xcx_l, xcx_0, not_true, if_true, if_false, hu, hv, Mall_eq km2 hn6, hA, true_or, or_true]
        first | exact hinv τ2 hr | exact ⟨trivial, hinv τ2 hr⟩ | exact ⟨rfl, hinv τ2 hr⟩
      · by_cases hd : 0 ≤ d ∧ d ≤ nI n - 1
        · obtain ⟨i, hi, rfl⟩ := (rng_iff hn31).mp hd
          have i6 : i < 6 := by omega
          have r : τ.1 39 i = iI (if (2 ^ n - 1).testBit i then plI (wyF D E bow) (rmF D E bow deck hour) (hdF D E) u v i else 0) := e9 i hi
          rw [if_pos (allB hi)] at r
          simp only [s119_12, s119_14, s119_15, s119_18, s119_19, s119_22, s119_25, s119_26, s119_27, s119_30, s119_32_10, s119_32_17, s119_32_24, s119_32_31, s119_35, s119_38, s119_39, s119_42, s119_45, s119_47, s119_50, s119_53, s119_54, xcx_i, xcx_r, xcx_n, xcx_l, xcx_0, cm, not_false_eq_true, if_true, if_false, hasLine_eq, kxτ, if_pos hd, xb_f, ite_not, at_eq, xcl_39, xat39 i6, r, true_or, or_true, true_and]
          rw [e200]
          simp only [s200_0, s200_1, s200_2, s200_3, s200_4, s200_7, s200_10, s200_12, s200_13, s200_16, s200_17, s200_19, s200_22, s200_25, s200_26, s200_27, s200_28, s200_29, s200_30, s200_31, s200_32, s200_35, xcx_i, xcx_r, xcx_n, xcx_l, xcx_0, isWeather_eq, isLine_eq, kmτ, xb_f, ite_not, if_pos hGm, cm, if_pos hd, if_false, Mall_eq kmτ hn6, true_or, or_true, true_and]
          refine hfr _ (fun τ2 hr hu hv => ?_)
          have hA : ∀ Q : Int32 → xM → Prop, xI1 190 [.ref 84, .int (nI i), .int (nI hour), .int (iI u), .int (iI v)] τ2 Q = _ := fun Q => MpullAt (hMτ.sim hr.sim) hb hh hB.1 hi
          simp only [s200_38, s200_40, s200_41, s200_44, s200_45, s200_46, s200_47, s200_50, s200_51, s200_54, s200_55, s200_58, s200_61, s200_64, s200_65, s200_67, s200_68, s200_69, s200_72, s200_73, s200_76, s200_79, xcx_i, xcx_r, xcx_n, xcx_l, xcx_0, cm, not_false_eq_true, if_true, if_false, hu, hv, hA, true_or, or_true]
          first | exact hinv τ2 hr | exact ⟨trivial, hinv τ2 hr⟩ | exact ⟨rfl, hinv τ2 hr⟩
        · simp only [s119_12, s119_14, s119_15, s119_18, s119_19, s119_22, s119_25, s119_26, s119_27, s119_30, s119_32_10, s119_32_17, s119_32_24, s119_32_31, s119_35, s119_38, s119_39, s119_42, s119_45, s119_47, s119_50, s119_53, s119_54, xcx_i, xcx_r, xcx_n, xcx_l, xcx_0, cm, not_false_eq_true, if_true, if_false, hasLine_eq, kxτ, if_neg hd, xb_f, ite_not, true_or, or_true, true_and]
          rw [e200]
          simp only [s200_0, s200_1, s200_2, s200_3, s200_4, s200_7, s200_10, s200_12, s200_13, s200_16, s200_17, s200_19, s200_22, s200_25, s200_26, xcx_i, xcx_r, xcx_n, xcx_l, xcx_0, isWeather_eq, isLine_eq, kmτ, xb_f, ite_not, if_pos hGm, cm, if_neg hd, if_false, true_or, or_true, true_and]
          first | exact hI.sim hsim | exact ⟨trivial, hI.sim hsim⟩ | exact ⟨rfl, hI.sim hsim⟩
    rw [e119]
    simp only [s119_0, s119_1, s119_2, s119_3, s119_4, xcx_i, xcx_r, xcx_n, xcx_l, xcx_0]
    refine XlayToRest ha hX hb kx hh hw hs (fun τ u v hsim hmo hB hS => ?_)
    simp only [s119_7, s119_10, s119_11, xcx_i, xcx_r, xcx_n, xcx_l, xcx_0, h10, not_false_eq_true, if_true, true_or, or_true, true_and]
    exact hfin τ u v hsim hmo hB hS
  · have hGm : ¬ (¬ σ.1 84 28 = 0 ∧ (0 ≤ a ∧ a ≤ 99) ∧ (0 ≤ b ∧ b ≤ 999) ∧ (-99 ≤ c ∧ c ≤ 99)) := by rw [h28]; exact hG
    rw [e119]
    simp only [s119_0, s119_1, s119_2, s119_3, s119_4, s119_7, s119_10, s119_11, xcx_i, xcx_r, xcx_n, xcx_l, xcx_0, XlayToRest_out hG, not_true, if_false, true_or, or_true, true_and]
    rw [e200]
    simp only [s200_0, s200_1, s200_2, s200_3, s200_4, s200_7, s200_10, s200_12, s200_13, s200_16, s200_17, s200_19, s200_22, s200_25, s200_26, xcx_i, xcx_r, xcx_n, xcx_l, xcx_0, isWeather_eq, xb_f, ite_not, if_neg hGm, true_or, or_true, true_and]
    first | exact hI | exact ⟨trivial, hI⟩ | exact ⟨rfl, hI⟩
