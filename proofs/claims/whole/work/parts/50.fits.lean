/-! fits, lay -/
theorem Mfits_in {σ : xM} {n v pp nd : Nat} {p h : Int32} {le dr co st dp wa : Nat → Nat} {L : Nat → Option (Nat × Nat)} {Q : Int32 → xM → Prop} (hB : pB σ pp nd dp wa) (hV : vM σ n le dr co st) (hL : lM σ n L) (hv : v < n) (hQ : ∀ τ, only 118 σ τ → Q (whyF le dr co st dp wa L n v p h) τ) : xI1 229 [.ref 84, .int (nI v), .int p, .int h] σ Q := by
  have hG := (rng_iff (x := nI v) (n := n) (by have := hV.1; omega)).mpr ⟨v, hv, rfl⟩
  have hk := hV.2.1
  have hS : ∀ Q : xM → Prop, (∀ τ, only 118 σ τ → shM τ n le dp → Q τ) → xV 226 [.ref 84] σ Q := fun Q hQ => Msounds_eq hB hV hQ
  rw [e229]
  simp only [s229_0, s229_1, s229_2, s229_5, s229_10, s229_11, xcx_i, xcx_r, xcx_n, xcx_l, xcx_0, isVisit_eq, hk, xb_f, ite_not, if_pos hG, true_or, or_true, true_and]
  refine hS _ (fun τ hs hsh => ?_)
  have hW : ∀ Q : Int32 → xM → Prop, xI1 227 [.ref 84, .int (nI v), .int p, .int h] τ Q = _ := fun Q => Mwhy_eq (hB.only hs (by decide)) (hV.only hs (by decide)) (hL.only hs (by decide)) hsh hv
  simp only [s229_0, s229_1, s229_2, s229_5, s229_8, s229_9, s229_10, s229_11, s229_14, s229_15, s229_16, s229_17, s229_18, s229_21, xcx_i, xcx_r, xcx_n, xcx_l, xcx_0, hW, true_or, or_true, true_and]
  exact hQ τ hs
theorem Mfits_out {σ : xM} {n : Nat} {a p h : Int32} {Q : Int32 → xM → Prop} (hk : σ.1 84 43 = nI n) (hG : ¬ (0 ≤ a ∧ a ≤ nI n - 1)) : xI1 229 [.ref 84, .int a, .int p, .int h] σ Q = Q (-1) σ := by
  rw [e229]
  simp only [s229_0, s229_1, s229_2, s229_5, s229_8, s229_9, s229_10, s229_11, s229_14, s229_15, s229_16, s229_17, s229_18, s229_21, xcx_i, xcx_r, xcx_n, xcx_l, xcx_0, isVisit_eq, hk, xb_f, ite_not, if_neg hG, true_or, or_true, true_and]
theorem scr118 : ∀ j, scr 118 j = true := fun _ => rfl
theorem op_fits (a b c : Int32) : xOp 135 229 [.int a, .int b, .int c] := by
  intro xs L σ hI
  obtain ⟨n, le, dr, co, st, La, p, nd, dp, wa, hVX, hVM, hLX, hLM, hSX, hB, hfit⟩ := gB.get hI.2.2.2.2.2.2.1 hI.1
  have hn31 : n < 2147483648 := by have := hVX.1; omega
  have hkx := hVX.2.1
  have hpe := hB.2.1
  rw [e135]
  by_cases hG : 0 ≤ a ∧ a ≤ nI n - 1
  · obtain ⟨v, hv, rfl⟩ := (rng_iff hn31).mp hG
    have hR : ∀ Q : Int32 → xM → Prop, xI1 19 [.ref 63, .ref p, .int (nI v), .int b, .int c] σ Q = _ := fun Q => XreasonAgainst hB hVX hLX hv
    rcases hB.1 with rfl | rfl <;> simp only [s135_0, s135_1, s135_4, s135_5, s135_8, s135_11, s135_12, s135_15, s135_16, s135_19, s135_20, s135_21, s135_22, s135_25, s135_28, s135_29, xcx_i, xcx_r, xcx_n, xcx_l, xcx_0, hasVisit_eq, hkx, hpe, xb_f, ite_not, if_pos hG, hR, true_or, or_true, true_and] <;> exact Mfits_in hB hVM hLM hv (fun τ hs => ⟨rfl, hI.sim (hs.sim scr118)⟩)
  · simp only [s135_0, s135_1, s135_4, s135_5, s135_8, s135_11, s135_12, s135_15, s135_16, s135_19, s135_20, s135_21, s135_22, s135_25, s135_28, s135_29, xcx_i, xcx_r, xcx_n, xcx_l, xcx_0, hasVisit_eq, hkx, xb_f, ite_not, if_neg hG, true_or, or_true, true_and]
    rw [Mfits_out hVM.2.1 hG]
    exact ⟨rfl, hI⟩
theorem whyF_zero {le dr co st dp wa : Nat → Nat} {L : Nat → Option (Nat × Nat)} {n v : Nat} {p h : Int32} (hle : le v ≤ 200) (hco : co v < 2147483648) (hz : whyF le dr co st dp wa L n v p h = 0) : ∃ q k : Nat, p = nI q ∧ h = nI k ∧ q + le v ≤ 200 ∧ k ≤ 199 := by
  unfold whyF at hz
  by_cases c1 : h < nI (co v)
  · rw [if_pos c1] at hz; exact absurd hz (by decide)
  rw [if_neg c1] at hz
  by_cases c2 : 0 ≤ p ∧ p ≤ nI (200 - le v)
  · rw [if_neg (not_not_intro c2)] at hz
    by_cases c3 : 199 < h
    · rw [if_pos c3] at hz; exact absurd hz (by decide)
    · obtain ⟨q, hq, rfl⟩ := nI_of (x := p) (Int32.not_lt.mpr c2.1)
      obtain ⟨k, hk, rfl⟩ := nI_of (x := h) (Int32.not_lt.mpr (Int32.le_trans (nI_pos' hco) (Int32.not_lt.mp c1)))
      have e1 := (nI_leI hq (show 200 - le v < 2 ^ 31 by omega)).mp c2.2
      have e2 := (nI_leI (b := 199) hk (by decide)).mp (Int32.not_lt.mp c3)
      exact ⟨q, k, rfl, rfl, by omega, e2⟩
  · rw [if_pos c2] at hz; exact absurd hz (by decide)
theorem op_lay (a b c : Int32) : xOp 136 230 [.int a, .int b, .int c] := by
  intro xs L σ hI
  obtain ⟨n, le, dr, co, st, La, p, nd, dp, wa, hVX, hVM, hLX, hLM, hSX, hB, hfit⟩ := gB.get hI.2.2.2.2.2.2.1 hI.1
  have hn5 := hVX.1
  have hn31 : n < 2147483648 := by omega
  have hkx := hVX.2.1
  have hpe := hB.2.1
  rw [e136]
  by_cases hG : 0 ≤ a ∧ a ≤ nI n - 1
  · obtain ⟨v, hv, rfl⟩ := (rng_iff hn31).mp hG
    have hv5 : v < 5 := by omega
    have b0 : v < 100000 := by omega
    obtain ⟨⟨v1, v2, v3, v4, v5, v6, v7⟩, x64, -⟩ := hVX.2.2 v hv
    have hR : ∀ Q : Int32 → xM → Prop, xI1 19 [.ref 63, .ref p, .int (nI v), .int b, .int c] σ Q = _ := fun Q => XreasonAgainst hB hVX hLX hv
    by_cases hz : whyF le dr co st dp wa La n v b c = 0
    · obtain ⟨q, k, rfl, rfl, hq, hk⟩ := whyF_zero (by omega) (by omega) hz
      have hlay : ∀ (τ : xM), only 118 (xe_si (xe_si σ 68 v (nI q)) 69 v (nI k)) τ → xInv xs L (xe_si (xe_si τ 108 v (nI q)) 109 v (nI k)) := by
        intro τ hs
        have hr : ∀ a, a ≠ 118 → a ≠ 68 → a ≠ 69 → a ≠ 108 → a ≠ 109 → (xe_si (xe_si τ 108 v (nI q)) 109 v (nI k)).1 a = σ.1 a := by
          intro a h1 h2 h3 h4 h5
          rw [si_ne h5, si_ne h4, hs.1 a h1, si_ne h3, si_ne h2]
        have hr68 : ∀ j, (xe_si (xe_si τ 108 v (nI q)) 109 v (nI k)).1 68 j = if j = v then nI q else σ.1 68 j := by
          intro j
          rw [si_ne (by decide), si_ne (by decide), hs.1 68 (by decide)]
          simp only [si_rd, Nat.reduceEqDiff, false_and, true_and, if_false]
        have hr69 : ∀ j, (xe_si (xe_si τ 108 v (nI q)) 109 v (nI k)).1 69 j = if j = v then nI k else σ.1 69 j := by
          intro j
          rw [si_ne (by decide), si_ne (by decide), hs.1 69 (by decide)]
          simp only [si_rd, Nat.reduceEqDiff, false_and, true_and, if_false]
        have hr108 : ∀ j, (xe_si (xe_si τ 108 v (nI q)) 109 v (nI k)).1 108 j = if j = v then nI q else σ.1 108 j := by
          intro j
          rw [si_ne (by decide), si_rd, hs.1 108 (by decide), si_ne (by decide), si_ne (by decide)]
          simp only [true_and]
        have hr109 : ∀ j, (xe_si (xe_si τ 108 v (nI q)) 109 v (nI k)).1 109 j = if j = v then nI k else σ.1 109 j := by
          intro j
          rw [si_rd, si_ne (by decide), hs.1 109 (by decide), si_ne (by decide), si_ne (by decide)]
          simp only [true_and]
        refine hI.simB ⟨fun x j hc => ?_, hs.2⟩ ?_
        · unfold chB at hc
          rw [Bool.or_eq_false_iff] at hc
          have hc2 := of_decide_eq_false hc.2
          rw [hr x (fun e => by subst e; cases hc.1) (by omega) (by omega) (by omega) (by omega)]
        · obtain ⟨m, hm5, j1, j2, hrow⟩ := hI.2.2.2.2.2.2.1
          refine ⟨m, hm5, ?_, ?_, fun u hu => ?_⟩
          · rw [hr 63 (by decide) (by decide) (by decide) (by decide) (by decide)]; exact j1
          · rw [hr 84 (by decide) (by decide) (by decide) (by decide) (by decide)]; exact j2
          · have h := hrow u hu
            have e2 : (xe_si (xe_si τ 108 v (nI q)) 109 v (nI k)).2.2 = σ.2.2 := hs.2
            have eP : (xe_si (xe_si τ 108 v (nI q)) 109 v (nI k)).1 (σ.2.2 1 + 1) = σ.1 (σ.2.2 1 + 1) := by
              rw [hpe]
              rcases hB.1 with e | e <;> rw [e] <;> exact hr _ (by decide) (by decide) (by decide) (by decide) (by decide)
            rw [e2, eP, hr 107 (by decide) (by decide) (by decide) (by decide) (by decide), hr 64 (by decide) (by decide) (by decide) (by decide) (by decide), hr 65 (by decide) (by decide) (by decide) (by decide) (by decide), hr 66 (by decide) (by decide) (by decide) (by decide) (by decide), hr 67 (by decide) (by decide) (by decide) (by decide) (by decide), hr 72 (by decide) (by decide) (by decide) (by decide) (by decide), hr 84 (by decide) (by decide) (by decide) (by decide) (by decide), hr68, hr69, hr108, hr109]
            by_cases huv : u = v
            · subst huv
              simp only [if_true]
              obtain ⟨c1, c2, c3, c4, c5, b1, b2, b3, b4, l1, l2, hsh⟩ := h
              have hm1 := nI_m1 (show k < 2147483648 by omega)
              have ele : (σ.1 64 u).toInt = le u := by rw [x64, nI_ti (by omega)]
              refine ⟨c1, c2, c3, c4, trivial, b1, b2, b3, b4, fun e => absurd e (by rw [hm1]; exact id), fun _ => ⟨trivial, bd_nI (by omega) (by omega) (by omega), bd_nI (by omega) (by omega) (by omega)⟩, hsh⟩
            · simp only [if_neg huv]
              exact h
      have h10 : ¬ (1 : Int32) = 0 := by decide
      have hput : ∀ Q : xM → Prop, xV 18 [.ref 63, .int (nI v), .int (nI q), .int (nI k)] σ Q = _ := fun Q => putAt_eq hv5
      have hMB : pB (xe_si (xe_si σ 68 v (nI q)) 69 v (nI k)) p nd dp wa := by
        refine hB.sim rfl ?_ ?_ rfl rfl rfl <;> rcases hB.1 with e | e <;> rw [e] <;> rfl
      have hfin : xI1 230 [.ref 84, .int (nI v), .int (nI q), .int (nI k)] (xe_si (xe_si σ 68 v (nI q)) 69 v (nI k)) (fun r2 σ2 => 1 = r2 ∧ xInv xs L σ2) := by
        rw [e230]
        simp only [s230_0, s230_1, s230_2, s230_3, s230_4, xcx_i, xcx_r, xcx_n, xcx_l, xcx_0]
        refine Mfits_in hMB hVM hLM hv (fun τ hs => ?_)
        simp only [s230_0, s230_1, s230_2, s230_3, s230_4, s230_7, s230_10, s230_11, s230_12, s230_13, s230_16, s230_17, s230_18, s230_19, s230_20, s230_23, s230_24, s230_25, s230_26, s230_27, xcx_i, xcx_r, xcx_n, xcx_l, xcx_0, hz, not_true, if_true, if_false, xcl_108, xcl_109, xln_108, xln_109, b0, hv5, cl_s, pos_s, true_or, or_true, true_and]
        exact hlay τ hs
      rcases hB.1 with rfl | rfl <;> simp only [s136_0, s136_1, s136_4, s136_5, s136_8, s136_11, s136_12, s136_15, s136_16, s136_19, s136_20, s136_21, s136_22, s136_25, s136_28, s136_29, s136_30, s136_31, s136_34, s136_35, s136_36, s136_37, s136_40, s136_41, xcx_i, xcx_r, xcx_n, xcx_l, xcx_0, hasVisit_eq, hkx, hpe, xb_f, ite_not, if_pos hG, hR, hz, hput, if_true, if_false, not_true, true_or, or_true, true_and] <;> exact hfin
    · have hfin : xI1 230 [.ref 84, .int (nI v), .int b, .int c] σ (fun r2 σ2 => 0 = r2 ∧ xInv xs L σ2) := by
        rw [e230]
        simp only [s230_0, s230_1, s230_2, s230_3, s230_4, xcx_i, xcx_r, xcx_n, xcx_l, xcx_0]
        refine Mfits_in hB hVM hLM hv (fun τ hs => ?_)
        simp only [s230_0, s230_1, s230_2, s230_3, s230_4, s230_7, s230_10, s230_11, s230_12, s230_13, s230_16, s230_17, s230_18, s230_19, s230_20, s230_23, s230_24, s230_25, s230_26, s230_27, xcx_i, xcx_r, xcx_n, xcx_l, xcx_0, hz, not_false_eq_true, if_true, if_false, true_or, or_true, true_and]
        exact hI.sim (hs.sim scr118)
      rcases hB.1 with rfl | rfl <;> simp only [s136_0, s136_1, s136_4, s136_5, s136_8, s136_11, s136_12, s136_15, s136_16, s136_19, s136_20, s136_21, s136_22, s136_25, s136_28, s136_29, s136_30, s136_31, s136_34, s136_35, s136_36, s136_37, s136_40, s136_41, xcx_i, xcx_r, xcx_n, xcx_l, xcx_0, hasVisit_eq, hkx, hpe, xb_f, ite_not, if_pos hG, hR, hz, if_false, not_false_eq_true, true_or, or_true, true_and] <;> exact hfin
  · have h10 : ¬ (-1 : Int32) = 0 := by decide
    simp only [s136_0, s136_1, s136_4, s136_5, s136_8, s136_11, s136_12, s136_15, s136_16, s136_19, s136_20, s136_21, s136_22, s136_25, s136_28, s136_29, s136_30, s136_31, s136_34, s136_35, s136_36, s136_37, s136_40, s136_41, xcx_i, xcx_r, xcx_n, xcx_l, xcx_0, hasVisit_eq, hkx, xb_f, ite_not, if_neg hG, true_or, or_true, true_and]
    rw [e230]
    simp only [s230_0, s230_1, s230_2, s230_3, s230_4, s230_7, s230_10, s230_11, s230_12, s230_13, s230_16, s230_17, s230_18, s230_19, s230_20, s230_23, s230_24, s230_25, s230_26, s230_27, xcx_i, xcx_r, xcx_n, xcx_l, xcx_0, Mfits_out hVM.2.1 hG, h10, not_false_eq_true, if_true, if_false, true_or, or_true, true_and]
    first | exact hI | exact ⟨rfl, hI⟩
