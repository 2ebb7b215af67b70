/-! luck, the class's -/
def rDt (n ng : Nat) (ho ru : Nat → Nat) : Prop := n ≤ 20 ∧ ng ≤ 4 ∧ ∀ i, i < n → 0 < ho i ∧ ho i < 2 ^ ng ∧ ru i < ng ∧ (ho i).testBit (ru i) = true
def rX (σ : xM) (n : Nat) (ho ru : Nat → Nat) : Prop := σ.1 59 0 = nI n ∧ ∀ i, i < n → σ.1 60 i = nI (ho i) ∧ σ.1 61 i = nI (ru i)
def rM (σ : xM) (n ng : Nat) (ho ru : Nat → Nat) : Prop := σ.1 84 40 = nI n ∧ σ.1 84 23 = nI ng ∧ ∀ i, i < n → σ.1 105 i = nI (ho i) ∧ σ.1 106 i = nI (ru i)
def tT (σ : xM) (ho : Nat → Nat) (g i : Nat) : Bool := decide ((tB (σ.1 61) (nI (ho i)) i 4).1 = nI g)
def cnF (P : Nat → Bool) : Nat → Nat
  | 0 => 0
  | m + 1 => cnF P m + if P m then 1 else 0
theorem cnF_le (P : Nat → Bool) : ∀ m, cnF P m ≤ m := by
  intro m
  induction m with
  | zero => exact Nat.le_refl _
  | succ m ih => unfold cnF; split <;> omega
theorem ho16 {n ng : Nat} {ho ru : Nat → Nat} (h : rDt n ng ho ru) {i : Nat} (hi : i < n) : ho i < 16 := by
  have := pw4 h.2.1
  have := (h.2.2 i hi).2.1
  omega
theorem xat60 {σ : xM} {v : Nat} (h : v < 20) : xat σ 60 (nI v) = σ.1 60 v := xat_n (by rw [xln_60]; exact h)
theorem xat61 {σ : xM} {v : Nat} (h : v < 20) : xat σ 61 (nI v) = σ.1 61 v := xat_n (by rw [xln_61]; exact h)
theorem XisTurn {σ : xM} {n ng g i : Nat} {ho ru : Nat → Nat} {Q : Int32 → xM → Prop} (hD : rDt n ng ho ru) (hX : rX σ n ho ru) (hi : i < n) : xI1 86 [.ref 59, .int (nI i), .int (nI g)] σ Q = Q (if tT σ ho g i then 1 else 0) σ := by
  have hn20 := hD.1
  have i20 : i < 20 := by omega
  have h60 := (hX.2 i hi).1
  have ht : ∀ Q : Int32 → xM → Prop, xI1 84 [.ref 59, .int (nI i), .int (nI (ho i))] σ Q = _ := fun Q => XturnBehind_eq (by omega)
  rw [e86]
  simp only [s86_0, s86_1, s86_2, s86_3, s86_6, s86_7, s86_10, s86_13, s86_14, s86_17, s86_18, s86_21, s86_22, xcx_i, xcx_r, xcx_n, xcx_l, xcx_0, at_eq, xcl_60, xat60 i20, h60, ht, ite_not, true_or, or_true, true_and]
  unfold tT
  by_cases c : (tB (σ.1 61) (nI (ho i)) i 4).1 = nI g
  · simp only [c, if_true, decide_true]
  · simp only [c, if_false, decide_false, Bool.false_eq_true]
theorem XtimesRung {σ : xM} {n ng g : Nat} {ho ru : Nat → Nat} {Q : Int32 → xM → Prop} (hD : rDt n ng ho ru) (hX : rX σ n ho ru) (hg : g < 4) : xI1 87 [.ref 59, .int (nI g)] σ Q = Q (nI (cnF (fun i => decide (ru i = g)) n)) σ := by
  have hn20 := hD.1
  have loop : ∀ m i, i + m = n → xC 87 4 [some (.ref 59), some (.int (nI g)), some (.int (nI (cnF (fun i => decide (ru i = g)) i))), some (.int (nI i))] [] σ (xqI Q) = Q (nI (cnF (fun i => decide (ru i = g)) n)) σ := by
    intro m
    induction m with
    | zero =>
      intro i hi
      obtain rfl : i = n := by omega
      rw [s87_4]
      simp only [s87_0, s87_1, s87_2, s87_3, s87_5, s87_6, s87_9, s87_12, s87_13, s87_16, s87_17, s87_20, s87_21, s87_24, s87_27, s87_30, s87_33, s87_34, xcx_i, xcx_r, xcx_n, xcx_l, xcx_0, hX.1, Int32.le_refl, if_true]
    | succ m ih =>
      intro i hi
      have e := lt4N (n := n) (i := i) (by omega) (by omega)
      have i20 : i < 20 := by omega
      have h61 := (hX.2 i (by omega)).2
      have hru := (hD.2.2 i (by omega)).2.2.1
      have hng := hD.2.1
      have eg : (nI (ru i) = nI g) = (ru i = g) := propext (nI_eq (by omega) (by omega))
      have ihh := ih (i + 1) (by omega)
      rw [show cnF (fun i => decide (ru i = g)) (i + 1) = cnF (fun i => decide (ru i = g)) i + if decide (ru i = g) = true then 1 else 0 from rfl] at ihh
      rw [s87_4]
      by_cases c : ru i = g
      · rw [if_pos (decide_eq_true c)] at ihh
        simp only [s87_0, s87_1, s87_2, s87_3, s87_5, s87_6, s87_9, s87_12, s87_13, s87_16, s87_17, s87_20, s87_21, s87_24, s87_27, s87_30, s87_33, s87_34, xcx_i, xcx_r, xcx_n, xcx_l, xcx_0, hX.1, e, if_false, at_eq, xcl_61, xat61 i20, h61, eg, c, not_true, if_true, nI_1]
        exact ihh
      · rw [if_neg (fun q => c (of_decide_eq_true q))] at ihh
        simp only [s87_0, s87_1, s87_2, s87_3, s87_5, s87_6, s87_9, s87_12, s87_13, s87_16, s87_17, s87_20, s87_21, s87_24, s87_27, s87_30, s87_33, s87_34, xcx_i, xcx_r, xcx_n, xcx_l, xcx_0, hX.1, e, if_false, at_eq, xcl_61, xat61 i20, h61, eg, c, not_false_eq_true, if_true, nI_1]
        exact ihh
  rw [e87]
  simp only [s87_0, s87_1, s87_2, s87_3, xcx_i, xcx_r, xcx_n, xcx_l, xcx_0]
  exact loop n 0 (by omega)
theorem XluckOf {σ : xM} {n ng g : Nat} {ho ru : Nat → Nat} {Q : Int32 → xM → Prop} (hD : rDt n ng ho ru) (hX : rX σ n ho ru) (hg : g < 4) : xI1 88 [.ref 59, .int (nI g)] σ Q = Q (nI (cnF (fun i => decide (ru i = g) && !tT σ ho g i) n)) σ := by
  have hn20 := hD.1
  have h10 : ¬ (1 : Int32) = 0 := by decide
  have loop : ∀ m i, i + m = n → xC 88 4 [some (.ref 59), some (.int (nI g)), some (.int (nI (cnF (fun i => decide (ru i = g) && !tT σ ho g i) i))), some (.int (nI i))] [] σ (xqI Q) = Q (nI (cnF (fun i => decide (ru i = g) && !tT σ ho g i) n)) σ := by
    intro m
    induction m with
    | zero =>
      intro i hi
      obtain rfl : i = n := by omega
      rw [s88_4]
      simp only [s88_0, s88_1, s88_2, s88_3, s88_5, s88_6, s88_9, s88_12, s88_13, s88_16, s88_17, s88_20, s88_21, s88_24, s88_25, s88_26, s88_27, s88_30, s88_33, s88_36, s88_39, s88_42, s88_43, xcx_i, xcx_r, xcx_n, xcx_l, xcx_0, hX.1, Int32.le_refl, if_true]
    | succ m ih =>
      intro i hi
      have e := lt4N (n := n) (i := i) (by omega) (by omega)
      have i20 : i < 20 := by omega
      have h61 := (hX.2 i (by omega)).2
      have hru := (hD.2.2 i (by omega)).2.2.1
      have hng := hD.2.1
      have eg : (nI (ru i) = nI g) = (ru i = g) := propext (nI_eq (by omega) (by omega))
      have hT : ∀ Q : Int32 → xM → Prop, xI1 86 [.ref 59, .int (nI i), .int (nI g)] σ Q = _ := fun Q => XisTurn hD hX (by omega)
      have ihh := ih (i + 1) (by omega)
      rw [show cnF (fun i => decide (ru i = g) && !tT σ ho g i) (i + 1) = cnF (fun i => decide (ru i = g) && !tT σ ho g i) i + if (decide (ru i = g) && !tT σ ho g i) = true then 1 else 0 from rfl] at ihh
      rw [s88_4]
      by_cases c : ru i = g
      · by_cases t : tT σ ho g i = true
        · rw [if_neg (by rw [t, Bool.not_true, Bool.and_false]; decide)] at ihh
          simp only [s88_0, s88_1, s88_2, s88_3, s88_5, s88_6, s88_9, s88_12, s88_13, s88_16, s88_17, s88_20, s88_21, s88_24, s88_25, s88_26, s88_27, s88_30, s88_33, s88_36, s88_39, s88_42, s88_43, xcx_i, xcx_r, xcx_n, xcx_l, xcx_0, hX.1, e, if_false, at_eq, xcl_61, xat61 i20, h61, eg, c, not_true, if_true, hT, t, h10, not_false_eq_true, nI_1, true_or, or_true, true_and]
          exact ihh
        · rw [Bool.not_eq_true] at t
          rw [if_pos (by rw [t, decide_eq_true c]; decide)] at ihh
          simp only [s88_0, s88_1, s88_2, s88_3, s88_5, s88_6, s88_9, s88_12, s88_13, s88_16, s88_17, s88_20, s88_21, s88_24, s88_25, s88_26, s88_27, s88_30, s88_33, s88_36, s88_39, s88_42, s88_43, xcx_i, xcx_r, xcx_n, xcx_l, xcx_0, hX.1, e, if_false, at_eq, xcl_61, xat61 i20, h61, eg, c, not_true, if_true, hT, t, Bool.false_eq_true, nI_1, true_or, or_true, true_and]
          exact ihh
      · rw [if_neg (by rw [decide_eq_false c, Bool.false_and]; decide)] at ihh
        simp only [s88_0, s88_1, s88_2, s88_3, s88_5, s88_6, s88_9, s88_12, s88_13, s88_16, s88_17, s88_20, s88_21, s88_24, s88_25, s88_26, s88_27, s88_30, s88_33, s88_36, s88_39, s88_42, s88_43, xcx_i, xcx_r, xcx_n, xcx_l, xcx_0, hX.1, e, if_false, at_eq, xcl_61, xat61 i20, h61, eg, c, not_false_eq_true, if_true, nI_1]
        exact ihh
  rw [e88]
  simp only [s88_0, s88_1, s88_2, s88_3, xcx_i, xcx_r, xcx_n, xcx_l, xcx_0]
  exact loop n 0 (by omega)
def lF (σ : xM) (ho : Nat → Nat) (g i : Nat) : Nat := if ((ho i).testBit g && !tT σ ho g i) = true then 1 else 0
def oF (σ : xM) (ho : Nat → Nat) (g i : Nat) : Nat := bN (ho i) 4 - lF σ ho g i
theorem rX.sam {σ τ : xM} {n : Nat} {ho ru : Nat → Nat} (h : rX σ n ho ru) (hs : samI σ τ) : rX τ n ho ru := by
  unfold rX; rw [hs.1]; exact h
theorem tT_sam {σ τ : xM} {ho : Nat → Nat} {g i : Nat} (hs : samI σ τ) : tT τ ho g i = tT σ ho g i := by
  unfold tT; rw [hs.1]
/-- half done, from above -/
def wpt (w : Nat → Nat) (o l k : Nat) : Nat → Nat := fun j => if k < j then wst w o l j else w j
theorem XcountWays {σ : xM} {n ng g : Nat} {ho ru : Nat → Nat} {Q : xM → Prop} (hD : rDt n ng ho ru) (hX : rX σ n ho ru) (hg : g < 4) (hQ : ∀ τ, samI σ τ → lrow τ 62 21 (wsF (oF σ ho g) (lF σ ho g) n) → Q τ) : xV 90 [.ref 59, .int (nI g)] σ Q := by
  have hn20 := hD.1
  have h10 : ¬ (1 : Int32) = 0 := by decide
  have inner : ∀ (w : Nat → Nat) (o l : Nat) (v2 : Nat), o < 100 → l < 100 → ∀ k, k ≤ 20 → ∀ τ, samI σ τ → lrow τ 62 21 (wpt w o l k) → (∀ τ l5, samI σ τ → lrow τ 62 21 (wst w o l) → xC 90 132 [some (.ref 59), some (.int (nI g)), some (.int (nI v2)), some (.int (nI o)), some (.int (nI l)), l5] [] τ (xqV Q)) → xC 90 79 [some (.ref 59), some (.int (nI g)), some (.int (nI v2)), some (.int (nI o)), some (.int (nI l)), some (.int (nI k))] [] τ (xqV Q) := by
    intro w o l v2 ho hl k
    induction k with
    | zero =>
      intro _ τ hs hr hQ
      have e : (nI 0 ≤ 0) = True := eq_true (by decide)
      have z0 : ((0 : Int32) ≤ 0) = True := eq_true (by decide)
      have zc : (0 : Int32).toNatClampNeg = 0 := by decide
      have r0 : τ.2.1 62 0 = lN (w 0) := by
        rw [hr 0 (by decide)]; unfold wpt; rw [if_neg (by omega)]
      rw [s90_79]
      simp only [s90_81, s90_84, s90_85, s90_88, s90_90, s90_91, s90_94, s90_96, s90_97, s90_98, s90_99, s90_100, s90_101, s90_104, s90_106, s90_107, s90_108, s90_109, s90_111, s90_112, s90_113, s90_114, s90_115, s90_118, s90_121, s90_122, s90_125, s90_126, s90_127, s90_128, s90_129, s90_130, s90_131, xcx_i, xcx_r, xcx_n, xcx_l, xcx_0, e, if_true, xcl_62, xln_62, z0, zc, Nat.reduceLT, and_self, true_and, r0, i2l_nI (show o < 2147483648 by omega), lN_mul]
      refine hQ _ _ hs.sl (fun j hj => ?_)
      rw [sl_rd]
      unfold wst
      by_cases q : j = 0
      · rw [if_pos ⟨rfl, q⟩, if_pos q]
      · rw [if_neg (fun w => q w.2), hr j hj]
        unfold wpt wst
        rw [if_pos (by omega)]
    | succ k ih =>
      intro hk τ hs hr hQ
      have e : (nI (k + 1) ≤ 0) = False := eq_false (fun q => by have := (nI_leI (a := k + 1) (b := 0) (by omega) (by decide)).mp q; omega)
      have b0 : k < 100000 := by omega
      have b1 : k + 1 < 100000 := by omega
      have c0 : k < 21 := by omega
      have c1 : k + 1 < 21 := by omega
      have r0 : τ.2.1 62 k = lN (w k) := by
        rw [hr k (by omega)]; unfold wpt; rw [if_neg (by omega)]
      have r1 : τ.2.1 62 (k + 1) = lN (w (k + 1)) := by
        rw [hr (k + 1) (by omega)]; unfold wpt; rw [if_neg (by omega)]
      rw [s90_79]
      simp only [s90_81, s90_84, s90_85, s90_88, s90_90, s90_91, s90_94, s90_96, s90_97, s90_98, s90_99, s90_100, s90_101, s90_104, s90_106, s90_107, s90_108, s90_109, s90_111, s90_112, s90_113, s90_114, s90_115, s90_118, xcx_i, xcx_r, xcx_n, xcx_l, xcx_0, e, if_false, nI_pred, xcl_62, xln_62, b0, b1, c0, c1, cl_s, pos_s, true_and, r0, r1, i2l_nI (show o < 2147483648 by omega), i2l_nI (show l < 2147483648 by omega), lN_mul, lN_add, pk_m1]
      refine ih (by omega) _ hs.sl (fun j hj => ?_) hQ
      rw [sl_rd]
      unfold wpt
      by_cases q : j = k + 1
      · rw [if_pos ⟨rfl, q⟩, if_pos (by omega)]
        unfold wst
        rw [if_neg (by omega), q, Nat.add_sub_cancel]
      · rw [if_neg (fun w => q w.2), hr j hj]
        unfold wpt
        by_cases q2 : k + 1 < j
        · rw [if_pos q2, if_pos (by omega)]
        · rw [if_neg q2, if_neg (by omega)]
  have loop : ∀ m i, i + m = n → ∀ τ l3 l4 l5, samI σ τ → lrow τ 62 21 (wsF (oF σ ho g) (lF σ ho g) i) → xC 90 17 [some (.ref 59), some (.int (nI g)), some (.int (nI i)), l3, l4, l5] [] τ (xqV Q) := by
    intro m
    induction m with
    | zero =>
      intro i hi τ l3 l4 l5 hs hr
      obtain rfl : i = n := by omega
      have hk := (hX.sam hs).1
      rw [s90_17]
      simp only [s90_18, s90_19, s90_22, s90_138, xcx_i, xcx_r, xcx_n, xcx_l, xcx_0, hk, Int32.le_refl, if_true]
      exact hQ τ hs hr
    | succ m ih =>
      intro i hi τ l3 l4 l5 hs hr
      have hin : i < n := by omega
      have hXτ := hX.sam hs
      have hk := hXτ.1
      have e := lt4N (n := n) (i := i) hin (by omega)
      have i20 : i < 20 := by omega
      have h60 := (hXτ.2 i hin).1
      have h16 := ho16 hD hin
      have hT : ∀ Q : Int32 → xM → Prop, xI1 86 [.ref 59, .int (nI i), .int (nI g)] τ Q = _ := fun Q => XisTurn hD hXτ hin
      have hbit : (nI (ho i) >>> (nI g &&& 31) &&& 1 = 1) = ((ho i).testBit g = true) := bit16 h16 hg
      have hb4 := bN_le (ho i) 4
      have e21 : (Int32.ofNat 21 : Int32) - 1 = nI 20 := by decide
      have hstep : ∀ o l, o < 100 → l < 100 → oF σ ho g i = o → lF σ ho g i = l → xC 90 79 [some (.ref 59), some (.int (nI g)), some (.int (nI i)), some (.int (nI o)), some (.int (nI l)), some (.int (nI 20))] [] τ (xqV Q) := by
        intro o l ho' hl' eo el
        refine inner (wsF (oF σ ho g) (lF σ ho g) i) o l i ho' hl' 20 (Nat.le_refl _) τ hs (fun j hj => ?_) (fun τ' l5 hs' hr' => ?_)
        · unfold wpt; rw [if_neg (by omega)]; exact hr j hj
        · simp only [s90_132, s90_135, xcx_i, xcx_r, xcx_n, xcx_l, xcx_0, nI_1]
          refine ih (i + 1) (by omega) τ' _ _ _ hs' (fun j hj => ?_)
          rw [hr' j hj, ← eo, ← el]; rfl
      rw [s90_17]
      by_cases b : (ho i).testBit g = true
      · by_cases t : tT τ ho g i = true
        · have hl0 : lF σ ho g i = 0 := by unfold lF; rw [tT_sam hs] at t; rw [t, Bool.not_true, Bool.and_false]; rfl
          have ho0 : oF σ ho g i = bN (ho i) 4 := by unfold oF; rw [hl0]; rfl
          simp only [s90_18, s90_19, s90_22, s90_25, s90_26, s90_29, s90_30, s90_33, s90_36, s90_37, s90_38, s90_40, s90_41, s90_44, s90_45, s90_48, s90_49, s90_52, s90_55, s90_56, s90_57, s90_58, s90_61, s90_64, s90_67, s90_68, s90_70, s90_71, s90_74, s90_74_l, s90_74_q, s90_75, s90_76, s90_77, xcx_i, xcx_r, xcx_n, xcx_l, xcx_0, s90_74L, hk, e, if_false, at_eq, xcl_60, xcl_62, xln_62, xat60 i20, h60, bitCount_eq h16, hasBit_eq, hbit, b, xb_f, ite_not, if_true, hT, t, h10, not_true, not_false_eq_true, e21, true_or, or_true, true_and]
          exact hstep _ 0 (by omega) (by decide) ho0 hl0
        · rw [Bool.not_eq_true] at t
          have hl0 : lF σ ho g i = 1 := by unfold lF; rw [tT_sam hs] at t; rw [t, b]; rfl
          have ho0 : oF σ ho g i = bN (ho i) 4 - 1 := by unfold oF; rw [hl0]
          have hpos := bN_pos b 4 hg
          have em : nI (bN (ho i) 4) + -1 = nI (bN (ho i) 4 - 1) := by
            rw [am1]; exact pk_sub (b := 1) hpos
          simp only [s90_18, s90_19, s90_22, s90_25, s90_26, s90_29, s90_30, s90_33, s90_36, s90_37, s90_38, s90_40, s90_41, s90_44, s90_45, s90_48, s90_49, s90_52, s90_55, s90_56, s90_57, s90_58, s90_61, s90_64, s90_67, s90_68, s90_70, s90_71, s90_74, s90_74_l, s90_74_q, s90_75, s90_76, s90_77, xcx_i, xcx_r, xcx_n, xcx_l, xcx_0, s90_74L, hk, e, if_false, at_eq, xcl_60, xcl_62, xln_62, xat60 i20, h60, bitCount_eq h16, hasBit_eq, hbit, b, xb_f, ite_not, if_true, hT, t, Bool.false_eq_true, not_true, em, e21, true_or, or_true, true_and]
          exact hstep _ 1 (by omega) (by decide) ho0 hl0
      · have hl0 : lF σ ho g i = 0 := by unfold lF; rw [Bool.not_eq_true] at b; rw [b, Bool.false_and]; rfl
        have ho0 : oF σ ho g i = bN (ho i) 4 := by unfold oF; rw [hl0]; rfl
        simp only [s90_18, s90_19, s90_22, s90_25, s90_26, s90_29, s90_30, s90_33, s90_36, s90_37, s90_38, s90_40, s90_41, s90_44, s90_45, s90_48, s90_49, s90_52, s90_55, s90_56, s90_57, s90_58, s90_61, s90_64, s90_67, s90_68, s90_70, s90_71, s90_74, s90_74_l, s90_74_q, s90_75, s90_76, s90_77, xcx_i, xcx_r, xcx_n, xcx_l, xcx_0, s90_74L, hk, e, if_false, at_eq, xcl_60, xcl_62, xln_62, xat60 i20, h60, bitCount_eq h16, hasBit_eq, hbit, b, xb_f, ite_not, not_false_eq_true, if_true, e21, true_or, or_true, true_and, Bool.false_eq_true]
        exact hstep _ 0 (by omega) (by decide) ho0 hl0
  have z0 : ((0 : Int32) ≤ 0) = True := eq_true (by decide)
  have zc : (0 : Int32).toNatClampNeg = 0 := by decide
  rw [e90]
  simp only [s90_0, s90_1, s90_4, s90_5, xcx_i, xcx_r, xcx_n, xcx_l, xcx_0]
  refine XfillL (n := 21) xcl_62 xln_62 (fun τ1 hs1 h1 => ?_)
  simp only [s90_8, s90_9, s90_12, s90_13, s90_14, s90_15, s90_16, xcx_i, xcx_r, xcx_n, xcx_l, xcx_0, xcl_62, xln_62, z0, zc, Nat.reduceLT, and_self, true_and]
  refine loop n 0 (by omega) _ _ _ _ hs1.sl (fun j hj => ?_)
  rw [sl_rd]
  show _ = lN (if j = 0 then 1 else 0)
  by_cases q : j = 0
  · rw [if_pos ⟨rfl, q⟩, if_pos q]; rfl
  · rw [if_neg (fun w => q w.2), if_neg q, h1 j hj]; rfl
