/-! luck: both -/
theorem tlF_low (w : Nat → Nat) (a : Nat) : ∀ m, m ≤ a → tlF w a m = 0 := by
  intro m
  induction m with
  | zero => intro _; rfl
  | succ m ih =>
    intro h
    show tlF w a m + (if a ≤ m then w m else 0) = 0
    rw [ih (by omega), if_neg (by omega)]
theorem Mluck_eq {σ0 σ : xM} {n ng g k : Nat} {ho ru : Nat → Nat} {Q : Int32 → xM → Prop} (hD : rDt n ng ho ru) (hM : rM σ n ng ho ru) (hg : g < ng) (hk : k ≤ 2) (hT : ∀ k, k < n → ((tM (σ.1 106) (nI (ho k)) k ng).1 = nI g) = (tT σ0 ho g k = true)) (hQ : ∀ τ, samI σ τ → Q (if k = 0 then nI (cnF (fun i => decide (ru i = g)) n) else if k = 1 then nI (cnF (fun i => decide (ru i = g) && !tT σ0 ho g i) n) else ansF (oF σ0 ho g) (lF σ0 ho g) (cnF (fun i => decide (ru i = g) && !tT σ0 ho g i) n) n) τ) : xI1 221 [.ref 84, .int (nI g), .int (nI k)] σ Q := by
  have hn20 := hD.1
  have hng := hD.2.1
  have hng31 : ng < 2147483648 := by omega
  have hG0 : 0 ≤ nI g ∧ nI g ≤ nI ng - 1 := (rng_iff hng31).mpr ⟨g, hg, rfl⟩
  have hK0 : 0 ≤ nI k ∧ nI k ≤ 2 := ⟨nI_pos' (by omega), (nI_leI (b := 2) (by omega) (by decide)).mpr hk⟩
  obtain ⟨s1, s2, s3⟩ := smF_eq (σ := σ0) hD (show g < 4 by omega)
  have hlt : (4 : Nat) ^ 20 < 2 ^ 63 := by decide
  have hlk : cnF (fun i => decide (ru i = g) && !tT σ0 ho g i) n ≤ 20 := Nat.le_trans (cnF_le _ _) hn20
  have hend : ∀ τ l7 l8 l9 l10 l11 l12, samI σ τ → lrow τ 117 21 (wsF (oF σ0 ho g) (lF σ0 ho g) n) → xC 221 294 [some (.ref 84), some (.int (nI g)), some (.int (nI k)), some (.int (nI (cnF (fun i => decide (ru i = g)) n))), some (.int (nI (cnF (fun i => decide (ru i = g) && !tT σ0 ho g i) n))), some (.long (lN (prF (fun i => bN (ho i) 4) n))), none, l7, l8, l9, l10, l11, l12] [] τ (xqI Q) := by
    intro τ l7 l8 l9 l10 l11 l12 hs hr
    have hq := hQ τ hs
    have : k = 0 ∨ k = 1 ∨ k = 2 := by omega
    rcases this with rfl | rfl | rfl
    · simp only [s221_294, s221_295, s221_296, s221_299, s221_300, s221_303, s221_304, s221_307, s221_309, xcx_i, xcx_r, xcx_n, xcx_l, xcx_0, show ((2 : Int32) ≤ nI 0) = False from eq_false (by decide), show (nI 0 = 0) = True from eq_true rfl, if_false, if_true, not_true]
      exact hq
    · simp only [s221_294, s221_295, s221_296, s221_299, s221_300, s221_303, s221_304, s221_307, s221_309, xcx_i, xcx_r, xcx_n, xcx_l, xcx_0, show ((2 : Int32) ≤ nI 1) = False from eq_false (by decide), show (nI 1 = 0) = False from eq_false (by decide), if_false, if_true, not_false_eq_true]
      exact hq
    · generalize hlk' : cnF (fun i => decide (ru i = g) && !tT σ0 ho g i) n = lk at hlk hq
      generalize hw : wsF (oF σ0 ho g) (lF σ0 ho g) n = w at s1 hr
      have hA : ansF (oF σ0 ho g) (lF σ0 ho g) lk n = (lN (1000 * tlF w lk 21) / lN (smF w 21)).toInt32 := by unfold ansF; rw [hw]
      rw [if_neg (by decide), if_neg (by decide), hA, s1] at hq
      have loop : ∀ m j, j + m = 21 → ∀ l6, xC 221 317 [some (.ref 84), some (.int (nI g)), some (.int (nI 2)), some (.int (nI (cnF (fun i => decide (ru i = g)) n))), some (.int (nI lk)), some (.long (lN (prF (fun i => bN (ho i) 4) n))), l6, some (.long (lN (tlF w lk j))), none, some (.int (nI j)), l10, l11, l12] [] τ (xqI Q) ∨ ¬ lk ≤ j := by
        intro m
        induction m with
        | zero =>
          intro j hj l6
          left
          obtain rfl : j = 21 := by omega
          have hne : ¬ lN (prF (fun i => bN (ho i) 4) n) = 0 := by
            intro q
            have := (pk_lEQ (a := prF (fun i => bN (ho i) 4) n) (b := 0) (by omega) (by decide)).mp q
            omega
          have e1000 : (1000 : Int64) * lN (tlF w lk 21) = lN (1000 * tlF w lk 21) := lN_mul 1000 _
          rw [s221_317]
          simp only [s221_319, s221_321, s221_324, s221_326, s221_327, s221_330, s221_332, s221_333, s221_334, s221_336, s221_339, s221_342, s221_345, s221_347, s221_348, s221_350, s221_351, s221_352, xcx_i, xcx_r, xcx_n, xcx_l, xcx_0, show ((20 : Int32) < nI 21) = True from eq_true (by decide), if_true, hne, not_false_eq_true, true_and, e1000]
          exact hq
        | succ m ih =>
          intro j hj l6
          by_cases c : lk ≤ j
          · left
            have ihh : xC 221 317 [some (.ref 84), some (.int (nI g)), some (.int (nI 2)), some (.int (nI (cnF (fun i => decide (ru i = g)) n))), some (.int (nI lk)), some (.long (lN (prF (fun i => bN (ho i) 4) n))), xe_cl l6, some (.long (lN (tlF w lk (j + 1)))), none, some (.int (nI (j + 1))), l10, l11, l12] [] τ (xqI Q) := by
              rcases ih (j + 1) (by omega) (xe_cl l6) with q | q
              · exact q
              · omega
            rw [show tlF w lk (j + 1) = tlF w lk j + if lk ≤ j then w j else 0 from rfl, if_pos c] at ihh
            have e : ((20 : Int32) < nI j) = False := eq_false (fun q => by have := (nI_ltI (a := 20) (b := j) (by decide) (by omega)).mp q; omega)
            have b0 : j < 100000 := by omega
            have c0 : j < 22 := by omega
            have r0 := hr j (by omega)
            rw [s221_317]
            simp only [s221_319, s221_321, s221_324, s221_326, s221_327, s221_330, s221_332, s221_333, s221_334, s221_336, s221_339, xcx_i, xcx_r, xcx_n, xcx_l, xcx_0, e, if_false, xcl_117, xln_117, b0, c0, cl_s, pos_s, true_and, r0, lN_add, nI_1]
            exact ihh
          · right; exact c
      simp only [s221_294, s221_295, s221_296, s221_299, s221_300, s221_303, s221_304, s221_307, s221_309, s221_310, s221_311, s221_313, s221_315, xcx_i, xcx_r, xcx_n, xcx_l, xcx_0, show ((2 : Int32) ≤ nI 2) = True from eq_true (by decide), if_true, hlk']
      have hl := loop (21 - lk) lk (by omega) none
      rw [tlF_low w lk lk (Nat.le_refl _)] at hl
      rcases hl with q | q
      · exact q
      · omega
  have init : ∀ m i, i + m = 22 → ∀ τ, samI σ τ → (∀ j, j < i → τ.2.1 117 j = lN (if j = 0 then 1 else 0)) → xC 221 36 [some (.ref 84), some (.int (nI g)), some (.int (nI k)), some (.int 0), some (.int 0), some (.long 1), none, some (.int (nI i)), none, none, none, none, none] [] τ (xqI Q) := by
    intro m
    induction m with
    | zero =>
      intro i hi τ hs hd
      obtain rfl : i = 22 := by omega
      rw [s221_36]
      simp only [s221_38, s221_40, s221_43, s221_44, s221_47, s221_49, s221_51, s221_54, s221_55, s221_58, s221_59, s221_60, s221_63, s221_66, s221_67, xcx_i, xcx_r, xcx_n, xcx_l, xcx_0, show ((21 : Int32) < nI 22) = True from eq_true (by decide), if_true]
      exact Mluck_loop (σ0 := σ0) hD hM hg hT hend n 0 (by omega) τ _ _ _ _ _ hs (fun j hj => hd j (by omega))
    | succ m ih =>
      intro i hi τ hs hd
      have e : ((21 : Int32) < nI i) = False := eq_false (fun q => by have := (nI_ltI (a := 21) (b := i) (by decide) (by omega)).mp q; omega)
      have b0 : i < 100000 := by omega
      have c0 : i < 22 := by omega
      have hnext : ∀ v, v = lN (if i = 0 then 1 else 0) → xC 221 36 [some (.ref 84), some (.int (nI g)), some (.int (nI k)), some (.int 0), some (.int 0), some (.long 1), none, some (.int (nI (i + 1))), none, none, none, none, none] [] (xe_sl τ 117 i v) (xqI Q) := by
        intro v hv
        refine ih (i + 1) (by omega) _ hs.sl (fun j hj => ?_)
        rw [sl_rd]
        by_cases q : j = i
        · rw [if_pos ⟨rfl, q⟩, q, hv]
        · rw [if_neg (fun w => q w.2)]; exact hd j (by omega)
      rw [s221_36]
      by_cases z : i = 0
      · subst z
        simp only [s221_38, s221_40, s221_43, s221_44, s221_47, s221_49, s221_51, s221_54, s221_55, s221_58, s221_59, s221_60, s221_63, xcx_i, xcx_r, xcx_n, xcx_l, xcx_0, e, if_false, show (nI 0 = 0) = True from eq_true rfl, not_true, if_true, xcl_117, xln_117, b0, c0, cl_s, pos_s, true_and, nI_1]
        exact hnext 1 rfl
      · have ez : (nI i = 0) = False := eq_false (fun q => z ((nI_eq (a := i) (b := 0) (by omega) (by decide)).mp q))
        simp only [s221_38, s221_40, s221_43, s221_44, s221_47, s221_49, s221_51, s221_54, s221_55, s221_58, s221_59, s221_60, s221_63, xcx_i, xcx_r, xcx_n, xcx_l, xcx_0, e, if_false, ez, not_false_eq_true, if_true, xcl_117, xln_117, b0, c0, cl_s, pos_s, true_and, nI_1]
        exact hnext 0 (by rw [if_neg z]; rfl)
  rw [e221]
  simp only [s221_0, s221_1, s221_2, s221_3, s221_6, s221_7, s221_8, s221_11, s221_14, s221_15, s221_16, s221_17, s221_20, s221_23, s221_24, s221_25, s221_26, s221_27, s221_28, s221_30, s221_31, s221_33, s221_34, xcx_i, xcx_r, xcx_n, xcx_l, xcx_0, hM.2.1, in_eq, if_pos hG0, if_pos hK0, xb_f, ite_not, true_or, or_true, true_and]
  exact init 22 0 (by omega) σ (samI.rf _) (fun j hj => absurd hj (Nat.not_lt_zero j))
theorem op_luck (a w : Int32) : xOp 132 221 [.int a, .int w] := by
  intro xs L σ hI
  obtain ⟨p, ns, nr, nd, ng, nt, hp, hpe, hb, ⟨hst, -, -, hgX, -⟩, ⟨hm0, -, -, hmg, -⟩⟩ := hI.1.get
  obtain ⟨n, hn20, k1, k2, hrow⟩ := hI.2.2.2.2.2.1
  have hng := hb.2.2.2.1
  have hng31 : ng < 2147483648 := by omega
  have e23 : (σ.1 84 23).toNatClampNeg = ng := by rw [hmg]; exact nI_cl ng hng31
  have hpw := pw4 hng
  have hr : ∀ i, i < n → (σ.1 60 i = nI (cnum σ 60 i) ∧ σ.1 61 i = nI (cnum σ 61 i)) ∧ 0 < cnum σ 60 i ∧ cnum σ 60 i < 2 ^ ng ∧ cnum σ 61 i < ng ∧ (cnum σ 60 i).testBit (cnum σ 61 i) = true := by
    intro i hi
    obtain ⟨-, -, h, g, h1, h2, h3, h4, h5, h6⟩ := hrow i hi
    rw [e23] at h2 h3
    have e1 : cnum σ 60 i = h := by unfold cnum; rw [h4]; exact nI_cl h (by omega)
    have e2 : cnum σ 61 i = g := by unfold cnum; rw [h5]; exact nI_cl g (by omega)
    rw [e1, e2]
    exact ⟨⟨h4, h5⟩, h1, h2, h3, h6⟩
  have hD : rDt n ng (cnum σ 60) (cnum σ 61) := ⟨hn20, hng, fun i hi => (hr i hi).2⟩
  have hX : rX σ n (cnum σ 60) (cnum σ 61) := ⟨k1, fun i hi => (hr i hi).1⟩
  have hM : rM σ n ng (cnum σ 60) (cnum σ 61) := ⟨k2, hmg, fun i hi => ⟨(hrow i hi).1.trans (hr i hi).1.1, (hrow i hi).2.1.trans (hr i hi).1.2⟩⟩
  by_cases hG : 0 ≤ a ∧ a ≤ nI ng - 1
  · obtain ⟨g, hg, rfl⟩ := (rng_iff hng31).mp hG
    have hg4 : g < 4 := by omega
    have hT : ∀ k, k < n → ((tM (σ.1 106) (nI (cnum σ 60 k)) k ng).1 = nI g) = (tT σ (cnum σ 60) g k = true) := by
      intro k hk
      unfold tT
      rw [decide_eq_true_eq, turn_same (by omega) hng (hr k hk).2.2.1, tM_congr (fun i hi => (hrow i (by omega)).2.1)]
    have hfin : ∀ τ, samI σ τ → ∀ k, k ≤ 2 → xI1 221 (.ref 84 :: [.int (nI g), .int (nI k)]) τ (fun r2 σ2 => (if k = 0 then nI (cnF (fun i => decide (cnum σ 61 i = g)) n) else if k = 1 then nI (cnF (fun i => decide (cnum σ 61 i = g) && !tT σ (cnum σ 60) g i) n) else ansF (oF σ (cnum σ 60) g) (lF σ (cnum σ 60) g) (cnF (fun i => decide (cnum σ 61 i = g) && !tT σ (cnum σ 60) g i) n) n) = r2 ∧ xInv xs L σ2) := by
      intro τ hs k hk
      refine Mluck_eq (σ0 := σ) hD (hM.sam hs) hg hk (fun j hj => ?_) (fun τ2 hs2 => ⟨rfl, hI.sim (hs.tr hs2).sim⟩)
      rw [hs.1]; exact hT j hj
    rw [e132]
    by_cases w0 : w = 0
    · subst w0
      rcases hp with rfl | rfl <;> simp only [s132_0, s132_1, s132_2, s132_3, s132_6, s132_7_4, s132_7_7, s132_10, s132_11, s132_12, s132_15, s132_18, s132_19, s132_20, s132_21, s132_48, s132_49, s132_52, s132_53, s132_56, s132_57, s132_58, s132_61, s132_62, s132_65, s132_66, s132_67, s132_70, s132_71, s132_74, s132_75, s132_76, xcx_i, xcx_r, xcx_n, xcx_l, xcx_0, hpe, toldOf_eq, hgX, within_eq, if_pos hG, xb_f, ite_not, if_true, XtimesRung hD hX hg4, true_or, or_true, true_and] <;> exact hfin σ (samI.rf _) 0 (by decide)
    · by_cases w1 : w = 1
      · subst w1
        rcases hp with rfl | rfl <;> simp only [s132_0, s132_1, s132_2, s132_3, s132_6, s132_7_4, s132_7_7, s132_10, s132_11, s132_12, s132_15, s132_18, s132_19, s132_20, s132_21, s132_48, s132_49, s132_52, s132_53, s132_56, s132_57, s132_58, s132_61, s132_62, s132_65, s132_66, s132_67, s132_70, s132_71, s132_74, s132_75, s132_76, xcx_i, xcx_r, xcx_n, xcx_l, xcx_0, hpe, toldOf_eq, hgX, within_eq, if_pos hG, xb_f, ite_not, if_true, w0, if_false, XluckOf hD hX hg4, true_or, or_true, true_and] <;> exact hfin σ (samI.rf _) 1 (by decide)
      · by_cases w2 : w = 2
        · subst w2
          rcases hp with rfl | rfl
          · simp only [s132_0, s132_1, s132_2, s132_3, s132_6, s132_7_4, s132_7_7, s132_10, s132_11, s132_12, s132_15, s132_18, s132_19, s132_20, s132_21, s132_48, s132_49, s132_52, s132_53, s132_56, s132_57, s132_58, s132_61, s132_62, s132_65, s132_66, s132_67, s132_70, s132_71, xcx_i, xcx_r, xcx_n, xcx_l, xcx_0, hpe, toldOf_eq, hgX, within_eq, if_pos hG, xb_f, ite_not, if_true, w0, w1, if_false, true_or, or_true, true_and]
            refine XchanceOf hD hX hg4 (fun τ hs => ?_)
            simp only [s132_74, xcx_i, xcx_r, xcx_n, xcx_l, xcx_0]
            exact hfin τ hs 2 (by decide)
          · simp only [s132_0, s132_1, s132_2, s132_3, s132_6, s132_7_4, s132_7_7, s132_10, s132_11, s132_12, s132_15, s132_18, s132_19, s132_20, s132_21, s132_48, s132_49, s132_52, s132_53, s132_56, s132_57, s132_58, s132_61, s132_62, s132_65, s132_66, s132_67, s132_70, s132_71, xcx_i, xcx_r, xcx_n, xcx_l, xcx_0, hpe, toldOf_eq, hgX, within_eq, if_pos hG, xb_f, ite_not, if_true, w0, w1, if_false, true_or, or_true, true_and]
            refine XchanceOf hD hX hg4 (fun τ hs => ?_)
            simp only [s132_74, xcx_i, xcx_r, xcx_n, xcx_l, xcx_0]
            exact hfin τ hs 2 (by decide)
        · have hw : ¬ (0 ≤ w ∧ w ≤ 2) := by
            rintro ⟨q1, q2⟩
            obtain ⟨k, hk, rfl⟩ := nI_of (Int32.not_lt.mpr q1)
            have := (nI_leI (b := 2) hk (by decide)).mp q2
            have : k = 0 ∨ k = 1 ∨ k = 2 := by omega
            rcases this with rfl | rfl | rfl
            · exact w0 rfl
            · exact w1 rfl
            · exact w2 rfl
          have hm : ∀ Q : Int32 → xM → Prop, xI1 221 [.ref 84, .int (nI g), .int w] σ Q = Q (-1) σ := by
            intro Q
            rw [e221]
            simp only [s221_0, s221_1, s221_2, s221_3, s221_6, s221_7, s221_8, s221_11, s221_14, s221_15, s221_16, s221_17, s221_20, s221_23, s221_24, xcx_i, xcx_r, xcx_n, xcx_l, xcx_0, hmg, in_eq, if_pos hG, if_neg hw, xb_f, ite_not, true_or, or_true, true_and]
          rcases hp with rfl | rfl <;> simp only [s132_0, s132_1, s132_2, s132_3, s132_6, s132_7_4, s132_7_7, s132_10, s132_11, s132_12, s132_15, s132_18, s132_19, s132_20, s132_21, s132_48, s132_49, s132_52, s132_53, s132_56, s132_57, s132_58, s132_61, s132_62, s132_65, s132_66, s132_67, s132_70, s132_71, s132_74, s132_75, s132_76, xcx_i, xcx_r, xcx_n, xcx_l, xcx_0, hpe, toldOf_eq, hgX, within_eq, if_pos hG, xb_f, ite_not, if_true, w0, w1, w2, if_false, true_or, or_true, true_and] <;> rw [hm] <;> exact ⟨rfl, hI⟩
  · have hm : ∀ Q : Int32 → xM → Prop, xI1 221 [.ref 84, .int a, .int w] σ Q = Q (-1) σ := by
      intro Q
      rw [e221]
      simp only [s221_0, s221_1, s221_2, s221_3, s221_6, s221_7, s221_8, s221_11, s221_14, s221_15, s221_16, s221_17, s221_20, s221_23, s221_24, xcx_i, xcx_r, xcx_n, xcx_l, xcx_0, hmg, in_eq, if_neg hG, xb_f, ite_not, true_or, or_true, true_and]
    rw [e132]
    rcases hp with rfl | rfl <;> simp only [s132_0, s132_1, s132_2, s132_3, s132_6, s132_7_4, s132_7_7, s132_10, s132_11, s132_12, s132_15, s132_18, s132_19, s132_20, s132_21, s132_48, s132_49, s132_52, s132_53, s132_56, s132_57, s132_58, s132_61, s132_62, s132_65, s132_66, s132_67, s132_70, s132_71, s132_74, s132_75, s132_76, xcx_i, xcx_r, xcx_n, xcx_l, xcx_0, hpe, toldOf_eq, hgX, within_eq, if_neg hG, xb_f, ite_not, if_true, true_or, or_true, true_and] <;> rw [hm] <;> exact ⟨rfl, hI⟩
