/-! chance, the class's; luck, the reference's -/
def ansF (o l : Nat → Nat) (lk n : Nat) : Int32 := (lN (1000 * tlF (wsF o l n) lk 21) / lN (smF (wsF o l n) 21)).toInt32
theorem oF_l {σ : xM} {ho : Nat → Nat} {g i : Nat} (hg : g < 4) : oF σ ho g i + lF σ ho g i = bN (ho i) 4 := by
  unfold oF
  by_cases h : ((ho i).testBit g && !tT σ ho g i) = true
  · have hl : lF σ ho g i = 1 := if_pos h
    rw [Bool.and_eq_true] at h
    have := bN_pos h.1 4 hg
    rw [hl]; omega
  · have hl : lF σ ho g i = 0 := if_neg h
    rw [hl]; rfl
theorem smF_eq {σ : xM} {n ng g : Nat} {ho ru : Nat → Nat} (hD : rDt n ng ho ru) (hg : g < 4) : smF (wsF (oF σ ho g) (lF σ ho g) n) 21 = prF (fun i => bN (ho i) 4) n ∧ 1 ≤ prF (fun i => bN (ho i) 4) n ∧ prF (fun i => bN (ho i) 4) n ≤ 4 ^ 20 := by
  have hn20 := hD.1
  have h1 := smF_all (oF σ ho g) (lF σ ho g) (fun i => bN (ho i) 4) n hn20 (fun j _ => oF_l hg)
  have h2 := prF_bd (n := fun i => bN (ho i) 4) n (fun j hj => ⟨bN_pos (hD.2.2 j hj).2.2.2 4 (by have := (hD.2.2 j hj).2.2.1; have := hD.2.1; omega), bN_le _ _⟩)
  exact ⟨h1, h2.1, Nat.le_trans h2.2 (Nat.pow_le_pow_right (by decide) hn20)⟩
theorem XchanceOf {σ : xM} {n ng g : Nat} {ho ru : Nat → Nat} {Q : Int32 → xM → Prop} (hD : rDt n ng ho ru) (hX : rX σ n ho ru) (hg : g < 4) (hQ : ∀ τ, samI σ τ → Q (ansF (oF σ ho g) (lF σ ho g) (cnF (fun i => decide (ru i = g) && !tT σ ho g i) n) n) τ) : xI1 89 [.ref 59, .int (nI g)] σ Q := by
  obtain ⟨s1, s2, s3⟩ := smF_eq (σ := σ) hD hg
  have hlk : cnF (fun i => decide (ru i = g) && !tT σ ho g i) n ≤ 20 := Nat.le_trans (cnF_le _ _) hD.1
  generalize hlk' : cnF (fun i => decide (ru i = g) && !tT σ ho g i) n = lk at hlk hQ
  generalize hw : wsF (oF σ ho g) (lF σ ho g) n = w at s1
  have hA : ansF (oF σ ho g) (lF σ ho g) lk n = (lN (1000 * tlF w lk 21) / lN (smF w 21)).toInt32 := by unfold ansF; rw [hw]
  rw [hA] at hQ
  have e21 : (Int32.ofNat 21 : Int32) = nI 21 := rfl
  have hlt : (4 : Nat) ^ 20 < 2 ^ 63 := by decide
  have loop : ∀ m k, k + m = 21 → ∀ τ, samI σ τ → lrow τ 62 21 w → xC 89 19 [some (.ref 59), some (.int (nI g)), some (.int (nI lk)), some (.long (lN (smF w k))), none, some (.long (lN (tlF w lk k))), none, some (.int (nI k))] [] τ (xqI Q) := by
    intro m
    induction m with
    | zero =>
      intro k hk τ hs hr
      obtain rfl : k = 21 := by omega
      have hpos : ¬ lN (smF w 21) ≤ 0 := by
        intro q
        have := (pk_lLE (a := smF w 21) (b := 0) (by omega) (by decide)).mp q
        omega
      have hc : (lg_cmp (lN (smF w 21)) 0 ≤ 0) = False := eq_false (fun q => hpos ((lg_cmp_le _ _).mp q))
      have hne : ¬ lN (smF w 21) = 0 := fun q => hpos (by rw [q]; decide)
      have e1000 : (1000 : Int64) * lN (tlF w lk 21) = lN (1000 * tlF w lk 21) := lN_mul 1000 _
      rw [s89_19]
      simp only [s89_21, s89_22, s89_25, s89_25_l, s89_25_q, s89_26, s89_29, s89_30, s89_31, s89_34, s89_36, s89_37, s89_38, s89_39, s89_41, s89_42, s89_45, s89_47, s89_48, s89_51, s89_53, s89_54, s89_55, s89_57, s89_60, s89_63, s89_64, s89_65, s89_66, s89_69, s89_72, s89_74, s89_75, s89_76, s89_77, s89_78, s89_81, s89_82, xcx_i, xcx_r, xcx_n, xcx_l, xcx_0, s89_25L, xcl_62, xln_62, e21, Int32.le_refl, if_true, hc, if_false, hne, not_false_eq_true, true_and, e1000]
      exact hQ τ hs
    | succ m ih =>
      intro k hk τ hs hr
      have e := lt4N (n := 21) (i := k) (by omega) (by omega)
      have b0 : k < 100000 := by omega
      have c0 : k < 21 := by omega
      have r0 := hr k c0
      have ihh := ih (k + 1) (by omega) τ hs hr
      rw [show smF w (k + 1) = smF w k + w k from rfl, show tlF w lk (k + 1) = tlF w lk k + if lk ≤ k then w k else 0 from rfl] at ihh
      have e2 : (nI k < nI lk) = ¬ (lk ≤ k) := by rw [nI_ltL (by omega) (by omega)]; exact propext ⟨fun q => by omega, fun q => by omega⟩
      rw [s89_19]
      by_cases c : lk ≤ k
      · rw [if_pos c] at ihh
        simp only [s89_21, s89_22, s89_25, s89_25_l, s89_25_q, s89_26, s89_29, s89_30, s89_31, s89_34, s89_36, s89_37, s89_38, s89_39, s89_41, s89_42, s89_45, s89_47, s89_48, s89_51, s89_53, s89_54, s89_55, s89_57, s89_60, xcx_i, xcx_r, xcx_n, xcx_l, xcx_0, s89_25L, xcl_62, xln_62, e21, e, if_false, b0, c0, cl_s, pos_s, true_and, r0, lN_add, e2, c, not_true, nI_1]
        exact ihh
      · rw [if_neg c] at ihh
        simp only [s89_21, s89_22, s89_25, s89_25_l, s89_25_q, s89_26, s89_29, s89_30, s89_31, s89_34, s89_36, s89_37, s89_38, s89_39, s89_41, s89_42, s89_45, s89_47, s89_48, s89_51, s89_53, s89_54, s89_55, s89_57, s89_60, xcx_i, xcx_r, xcx_n, xcx_l, xcx_0, s89_25L, xcl_62, xln_62, e21, e, if_false, b0, c0, cl_s, pos_s, true_and, r0, lN_add, e2, c, not_false_eq_true, if_true, nI_1]
        exact ihh
  rw [e89]
  simp only [s89_0, s89_1, s89_2, xcx_i, xcx_r, xcx_n, xcx_l, xcx_0]
  refine XcountWays hD hX hg (fun τ hs hr => ?_)
  have hL : ∀ Q : Int32 → xM → Prop, xI1 88 [.ref 59, .int (nI g)] τ Q = Q (nI lk) τ := fun Q => by
    rw [XluckOf hD (hX.sam hs) hg]
    congr 2
    rw [← hlk']
    congr 1
    funext i
    rw [tT_sam hs]
  rw [hw] at hr
  simp only [s89_5, s89_6, s89_7, s89_10, s89_11, s89_12, s89_13, s89_14, s89_16, s89_17, xcx_i, xcx_r, xcx_n, xcx_l, xcx_0, hL]
  exact loop 21 0 (by omega) τ hs hr
theorem bitv {h g : Nat} (hh : h < 16) (hg : g < 4) : nI h >>> (nI g &&& 31) &&& 1 = nI (if h.testBit g = true then 1 else 0) := by
  have hall : ∀ h : Nat, h < 16 → ∀ g : Nat, g < 4 → nI h >>> (nI g &&& 31) &&& 1 = nI (if h.testBit g = true then 1 else 0) := by decide +kernel
  exact hall h hh g hg
def wpm (w : Nat → Nat) (o l m : Nat) : Nat → Nat := fun j => if m ≤ j then wst w o l j else w j
theorem rM.sam {σ τ : xM} {n ng : Nat} {ho ru : Nat → Nat} (h : rM σ n ng ho ru) (hs : samI σ τ) : rM τ n ng ho ru := by
  unfold rM; rw [hs.1]; exact h
section LUCKM
variable {l1 l2 l3 l4 l5 l6 l7 l8 l9 : Option Value} {σ : xM} {Q : Option Value → xM → Prop}
theorem Mways {n : Nat} (w : Nat → Nat) (may : Bool) (hn : 1 ≤ n ∧ n ≤ 4) : ∀ m, m ≤ 21 → ∀ τ, samI σ τ → lrow τ 117 21 (wpm w (if may then n - 1 else n) (if may then 1 else 0) m) → (∀ τ l12, samI σ τ → lrow τ 117 21 (wst w (if may then n - 1 else n) (if may then 1 else 0)) → xC 221 288 [some (.ref 84), l1, l2, l3, l4, l5, l6, l7, l8, l9, some (.int (nI n)), some (.int (if may then 1 else 0)), l12] [] τ Q) → xC 221 223 [some (.ref 84), l1, l2, l3, l4, l5, l6, l7, l8, l9, some (.int (nI n)), some (.int (if may then 1 else 0)), some (.int (nI m - 1))] [] τ Q := by
  intro m
  have h10 : ¬ (1 : Int32) = 0 := by decide
  induction m with
  | zero =>
    intro _ τ hs hr hQ
    have e : (nI 0 - 1 < 0) = True := eq_true (by decide)
    rw [s221_223]
    simp only [s221_225, xcx_i, xcx_r, xcx_n, xcx_l, xcx_0, e, if_true]
    refine hQ τ _ hs (fun j hj => ?_)
    rw [hr j hj]; unfold wpm; rw [if_pos (Nat.zero_le j)]
  | succ m ih =>
    intro hm τ hs hr hQ
    have e : (nI m < 0) = False := eq_false (nI_pos (by omega))
    have b0 : m < 100000 := by omega
    have c0 : m < 22 := by omega
    have r0 : τ.2.1 117 m = lN (w m) := by
      rw [hr m (by omega)]; unfold wpm; rw [if_neg (by omega)]
    have hnext : ∀ v, v = lN (wst w (if may then n - 1 else n) (if may then 1 else 0) m) → xC 221 223 [some (.ref 84), l1, l2, l3, l4, l5, l6, l7, l8, l9, some (.int (nI n)), some (.int (if may then 1 else 0)), some (.int (nI m - 1))] [] (xe_sl τ 117 m v) Q := by
      intro v hv
      refine ih (by omega) _ hs.sl (fun j hj => ?_) hQ
      rw [sl_rd]
      unfold wpm
      by_cases q : j = m
      · rw [if_pos ⟨rfl, q⟩, if_pos (by omega), q, hv]
      · rw [if_neg (fun w => q w.2), hr j hj]
        unfold wpm
        by_cases q2 : m + 1 ≤ j
        · rw [if_pos q2, if_pos (show m ≤ j by omega)]
        · rw [if_neg q2, if_neg (show ¬ m ≤ j by omega)]
    cases may with
    | true =>
      have en : nI n - 1 = nI (n - 1) := pk_sub (b := 1) hn.1
      rw [if_pos rfl, if_pos rfl] at hnext
      rw [nI_pred, s221_223]
      by_cases z : m = 0
      · subst z
        have ez : (nI 0 ≤ 0) = True := eq_true (by decide)
        simp only [s221_225, s221_228, s221_229, s221_232, s221_234, s221_235, s221_238, s221_240, s221_241, s221_243, s221_246, s221_248, s221_249, s221_250, s221_253, s221_255, s221_256, s221_257, s221_259, s221_262, s221_264, s221_267, s221_268, s221_271, s221_273, s221_274, s221_275, s221_276, s221_279, s221_280, s221_281, s221_282, s221_285, xcx_i, xcx_r, xcx_n, xcx_l, xcx_0, e, if_false, if_true, h10, not_false_eq_true, xcl_117, xln_117, b0, c0, cl_s, pos_s, true_and, r0, en, i2l_nI (show n - 1 < 2147483648 by omega), lN_mul, ez, am1]
        refine hnext _ ?_
        unfold wst
        rw [if_pos rfl]
        exact lN_add _ 0
      · obtain ⟨m', rfl⟩ : ∃ m', m = m' + 1 := ⟨m - 1, by omega⟩
        have ez : (nI (m' + 1) ≤ 0) = False := eq_false (fun q => by have := (nI_leI (a := m' + 1) (b := 0) (by omega) (by decide)).mp q; omega)
        have b1 : m' < 100000 := by omega
        have c1 : m' < 22 := by omega
        have r1 : τ.2.1 117 m' = lN (w m') := by
          rw [hr m' (by omega)]; unfold wpm; rw [if_neg (by omega)]
        simp only [s221_225, s221_228, s221_229, s221_232, s221_234, s221_235, s221_238, s221_240, s221_241, s221_243, s221_246, s221_248, s221_249, s221_250, s221_253, s221_255, s221_256, s221_257, s221_259, s221_262, s221_264, s221_267, s221_268, s221_271, s221_273, s221_274, s221_275, s221_276, s221_279, s221_280, s221_281, s221_282, s221_285, xcx_i, xcx_r, xcx_n, xcx_l, xcx_0, e, if_false, if_true, h10, not_false_eq_true, xcl_117, xln_117, nI_pred, b0, c0, b1, c1, cl_s, pos_s, true_and, r0, r1, en, i2l_nI (show n - 1 < 2147483648 by omega), lN_mul, lN_add, ez, am1]
        refine (nI_pred m' ▸ hnext _ ?_ : _)
        unfold wst
        rw [if_neg (by omega), Nat.mul_one, Nat.add_sub_cancel]
    | false =>
      rw [if_neg (by decide), if_neg (by decide)] at hnext
      rw [nI_pred, s221_223]
      simp only [s221_225, s221_228, s221_229, s221_232, s221_234, s221_235, s221_238, s221_240, s221_241, s221_243, s221_246, s221_248, s221_249, s221_250, s221_253, s221_255, s221_256, s221_257, s221_259, s221_262, s221_264, s221_267, s221_268, s221_271, s221_273, s221_274, s221_275, s221_276, s221_279, s221_280, s221_281, s221_282, s221_285, xcx_i, xcx_r, xcx_n, xcx_l, xcx_0, e, if_false, if_true, Bool.false_eq_true, not_true, xcl_117, xln_117, b0, c0, cl_s, pos_s, true_and, r0, i2l_nI (show n < 2147483648 by omega), lN_mul, am1]
      refine hnext _ ?_
      unfold wst
      by_cases z : m = 0
      · rw [if_pos z, z]; exact lN_add _ 0
      · rw [if_neg z, Nat.mul_zero]; exact lN_add _ 0
theorem Mbits {ng h k : Nat} {x9 : Int32} (hh : h < 16) (hg : ng ≤ 4) (hk : k < 20) (h23 : σ.1 84 23 = nI ng) (h105 : σ.1 105 k = nI h) {l12 : Option Value} : ∀ m i, i + m = ng → xC 221 151 [some (.ref 84), l1, l2, l3, l4, l5, l6, some (.int (nI k)), l8, some (.int x9), some (.int (nI (bN h i))), some (.int (nI i)), l12] [] σ Q = xC 221 183 [some (.ref 84), l1, l2, l3, l4, l5, l6, some (.int (nI k)), l8, some (.int x9), some (.int (nI (bN h ng))), some (.int (nI ng)), l12] [] σ Q := by
  intro m
  induction m with
  | zero =>
    intro i hi
    obtain rfl : i = ng := by omega
    rw [s221_151]
    simp only [s221_153, s221_154, s221_157, xcx_i, xcx_r, xcx_n, xcx_l, xcx_0, h23, Int32.le_refl, if_true]
  | succ m ih =>
    intro i hi
    have e := lt4N (n := ng) (i := i) (by omega) (by omega)
    have b0 : k < 100000 := by omega
    have ihh := ih (i + 1) (by omega)
    rw [show bN h (i + 1) = bN h i + if h.testBit i then 1 else 0 from rfl] at ihh
    rw [s221_151]
    simp only [s221_153, s221_154, s221_157, s221_160, s221_162, s221_163, s221_166, s221_168, s221_169, s221_171, s221_172, s221_173, s221_174, s221_175, s221_177, s221_180, xcx_i, xcx_r, xcx_n, xcx_l, xcx_0, h23, e, if_false, xcl_105, xln_105, b0, hk, cl_s, pos_s, true_and, h105, bitv hh (show i < 4 by omega), nI_add, nI_1]
    exact ihh
end LUCKM
