/-! lift, of -/
theorem hasVisit_eq {σ : xM} {l : Int32} {Q : Int32 → xM → Prop} : xI1 16 [.ref 63, .int l] σ Q = Q (xb (0 ≤ l ∧ l ≤ σ.1 63 0 - 1)) σ := by
  rw [e16]
  simp only [s16_0, s16_1, s16_2, s16_3, s16_6, s16_7, s16_8, s16_11, within_eq, xb_01, true_and]
theorem isVisit_eq {σ : xM} {l : Int32} {Q : Int32 → xM → Prop} : xI1 228 [.ref 84, .int l] σ Q = Q (xb (0 ≤ l ∧ l ≤ σ.1 84 43 - 1)) σ := by
  rw [e228]
  simp only [s228_0, s228_1, s228_2, s228_3, s228_6, s228_7, s228_8, s228_11, in_eq, xb_01, true_and]
theorem isLaid_eq {σ : xM} {l : Nat} (hl : l < 5) {Q : Int32 → xM → Prop} : xI1 17 [.ref 63, .int (nI l)] σ Q = Q (xb (¬ σ.1 69 l = -1)) σ := by
  have hl2 : l < xt_len.getD 69 0 := by rw [xln_69]; exact hl
  rw [e17]
  simp only [s17_0, s17_1, s17_4, s17_5, s17_8, s17_9, s17_12, s17_13, s17_16, s17_17, at_eq, xcl_69, xat_n hl2, xb]
  by_cases h : σ.1 69 l = -1
  · simp [h]
  · simp [h]
theorem putAt_eq {σ : xM} {l : Nat} {a b : Int32} (hl : l < 5) {Q : xM → Prop} : xV 18 [.ref 63, .int (nI l), .int a, .int b] σ Q = Q (xe_si (xe_si σ 68 l a) 69 l b) := by
  rw [e18]
  simp only [s18_0, s18_1, s18_4, s18_5, s18_6, s18_9, s18_10, s18_13, s18_14, s18_15, s18_18, put_eq, xcl_68, xcl_69, xln_68, xln_69, xpt_n, hl]
theorem op_lift (a : Int32) : xOp 137 231 [.int a] := by
  intro xs L σ hI
  obtain ⟨n, hn5, k1, k2, hrow⟩ := hI.2.2.2.2.2.2.1
  have hn31 : n < 2147483648 := by omega
  rw [e137]
  by_cases hG : 0 ≤ a ∧ a ≤ nI n - 1
  · obtain ⟨l, hl, rfl⟩ := (rng_iff hn31).mp hG
    have hl5 : l < 5 := by omega
    have b0 : l < 100000 := by omega
    have h9 := (hrow l hl).2.2.2.2.1
    have g1 := eq_true hG.1
    have g2 := eq_true hG.2
    by_cases hq : σ.1 69 l = -1
    · have hq2 : σ.1 109 l = -1 := h9.trans hq
      simp only [s137_0, s137_1, s137_4, s137_5, s137_8, s137_11, s137_12, s137_15, s137_16, s137_19, s137_22, s137_23, s137_24, s137_25, s137_28, s137_29, s137_30, s137_31, s137_34, s137_35, hasVisit_eq, k1, xb_f, ite_not, g1, g2, and_self, isLaid_eq hl5, hq, not_true, if_true, if_false, true_or, or_true, true_and, not_false_eq_true]
      rw [e231]
      simp only [s231_0, s231_1, s231_2, s231_5, s231_8, s231_9, s231_12, s231_13, s231_14, s231_15, s231_18, s231_19, s231_20, s231_21, s231_24, s231_25, s231_26, s231_27, s231_28, isVisit_eq, k2, xb_f, ite_not, g1, g2, and_self, xcl_109, xln_109, b0, hl5, cl_s, pos_s, hq2, if_true, true_or, or_true, true_and]
      first | exact hI | exact ⟨trivial, hI⟩
    · have hq2 : ¬ σ.1 109 l = -1 := fun e => hq (h9.symm.trans e)
      simp only [s137_0, s137_1, s137_4, s137_5, s137_8, s137_11, s137_12, s137_15, s137_16, s137_19, s137_22, s137_23, s137_24, s137_25, s137_28, s137_29, s137_30, s137_31, s137_34, s137_35, hasVisit_eq, k1, xb_f, ite_not, g1, g2, and_self, isLaid_eq hl5, putAt_eq hl5, hq, not_true, if_true, if_false, true_or, or_true, true_and, not_false_eq_true]
      rw [e231]
      simp only [s231_0, s231_1, s231_2, s231_5, s231_8, s231_9, s231_12, s231_13, s231_14, s231_15, s231_18, s231_19, s231_20, s231_21, s231_24, s231_25, s231_26, s231_27, s231_28, isVisit_eq, si_rd, Nat.reduceEqDiff, false_and, k2, xb_f, ite_not, g1, g2, and_self, xcl_109, xln_109, b0, hl5, cl_s, pos_s, hq2, if_true, if_false, true_or, or_true, true_and]
      refine ⟨hI.1.fr ⟨rfl, rfl, rfl, rfl, rfl, rfl, rfl, rfl, rfl, rfl, rfl, rfl, rfl, rfl, rfl, rfl⟩, hI.2.1, hI.2.2.1, hI.2.2.2.1, hI.2.2.2.2.1, hI.2.2.2.2.2.1, ?_, hI.2.2.2.2.2.2.2.1, hI.2.2.2.2.2.2.2.2.1, hI.2.2.2.2.2.2.2.2.2⟩
      have hN := (sameP.row (σ := σ) (σ' := xe_si (xe_si (xe_si σ 68 l (-1)) 69 l (-1)) 109 l (-1)) ⟨rfl, rfl, rfl, rfl, rfl, rfl, rfl, rfl, rfl, rfl, rfl, rfl, rfl, rfl, rfl, rfl⟩ hI.1).1
      refine ⟨n, hn5, k1, k2, fun v hv => ?_⟩
      rw [hN]
      have h := hrow v hv
      by_cases q : v = l
      · subst q
        simp only [si_rd, Nat.reduceEqDiff, false_and, and_self, if_true, if_false, true_and] at h ⊢
        exact ⟨h.1, h.2.1, h.2.2.1, h.2.2.2.1, h.2.2.2.2.2.1, h.2.2.2.2.2.2.1, h.2.2.2.2.2.2.2.1, h.2.2.2.2.2.2.2.2.1, fun _ => trivial, fun e => absurd rfl e, h.2.2.2.2.2.2.2.2.2.2.2⟩
      · have f0 : (v = l) = False := eq_false q
        simpa only [si_rd, Nat.reduceEqDiff, f0, and_false, false_and, if_false] using h
  · simp only [s137_0, s137_1, s137_4, s137_5, s137_8, s137_11, s137_12, s137_15, s137_16, s137_19, s137_22, s137_23, s137_24, s137_25, s137_28, s137_29, s137_30, s137_31, s137_34, s137_35, hasVisit_eq, k1, xb_f, ite_not, if_neg hG, true_or, or_true, true_and]
    rw [e231]
    simp only [s231_0, s231_1, s231_2, s231_5, s231_8, s231_9, s231_12, s231_13, s231_14, s231_15, s231_18, s231_19, s231_20, s231_21, s231_24, s231_25, s231_26, s231_27, s231_28, isVisit_eq, k2, xb_f, ite_not, if_neg hG, true_or, or_true, true_and]
    first | exact hI | exact ⟨trivial, hI⟩
/-! the depth at a place -/
def dI (N : Nat → Int32) (x : Int32) : Nat → Int32
  | 0 => 0
  | n + 1 => if N (24 + 3 * n) ≤ x ∧ x ≤ N (24 + 3 * n + 1) then N (24 + 3 * n + 2) else dI N x n
theorem dI_dpt (N : Nat → Int32) (x : Int32) : ∀ n, (dI N x n).toInt = dpt N x.toInt n := by
  intro n
  induction n with
  | zero => rfl
  | succ n ih =>
    unfold dI dpt
    simp only [Int32.le_iff_toInt_le]
    split
    · rfl
    · exact ih
theorem xrow_p {σ : xM} {p i : Nat} (hp : p = 4 ∨ p = 7) (hi : i < 54) : xat σ (p + 1) (nI i) = σ.1 (p + 1) i := by
  rcases hp with rfl | rfl
  · exact xat_n (by rw [xln_5]; exact hi)
  · exact xat_n (by rw [xln_8]; exact hi)
theorem am1 (x : Int32) : x + (-1) = x - 1 := (Int32.sub_eq_add_neg x 1).symm
theorem XdepthAt_eq {σ : xM} {p nd : Nat} {x : Int32} {Q : Int32 → xM → Prop} (hp : p = 4 ∨ p = 7) (hd : xat σ (p + 2) 2 = nI nd) (h4 : nd ≤ 4) : xI1 81 [.ref p, .int x] σ Q = Q (dI (σ.1 (p + 1)) x nd) σ := by
  have loop : ∀ n, n ≤ 4 → ∀ l, xC 81 8 [some (.ref p), some (.int x), some (.int (nI n - 1)), l] [] σ (xqI Q) = Q (dI (σ.1 (p + 1)) x n) σ := by
    intro n
    induction n with
    | zero =>
      intro _ l
      have e : (nI 0 - 1 < 0) = True := eq_true (by decide)
      simp only [s81_8, s81_9, s81_66, s81_67, e, if_true]
      first | done | rfl
    | succ n ih =>
      intro hn l
      have e0 : (24 : Int32) + 3 * nI n = nI (24 + 3 * n) := by rw [ml_3]; exact nI_add 24 _
      have e : (nI n < 0) = False := eq_false (nI_pos (by omega))
      rw [nI_pred]
      rcases hp with rfl | rfl
      · rw [s81_8]; simp only [s81_0, s81_1, s81_2_4, s81_2_7, s81_5, s81_6, s81_7, s81_9, s81_12, s81_15, s81_16, s81_19, s81_20, s81_21, s81_22, s81_23, s81_24, s81_25, s81_26_4, s81_26_7, s81_29, s81_30, s81_33, s81_34_4, s81_34_7, s81_37, s81_38, s81_39, s81_40, s81_43, s81_46, s81_49, s81_50_4, s81_50_7, s81_53, s81_54, s81_55, s81_56, s81_59, s81_60, s81_63, s81_66, s81_67, xcx_i, xcx_r, xcx_n, xcx_l, xcx_0, am1, e, if_false, at_t2, tab2_2, e0, al_1, al_2, at_eq, xcl_5, xrow_p (p := 4) (Or.inl rfl) (show 24 + 3 * n < 54 by omega), xrow_p (p := 4) (Or.inl rfl) (show 24 + 3 * n + 1 < 54 by omega), xrow_p (p := 4) (Or.inl rfl) (show 24 + 3 * n + 2 < 54 by omega), within_eq, xb_f, ite_not, true_or, or_true, true_and]
        unfold dI
        split
        · rfl
        · exact ih (by omega) _
      · rw [s81_8]; simp only [s81_0, s81_1, s81_2_4, s81_2_7, s81_5, s81_6, s81_7, s81_9, s81_12, s81_15, s81_16, s81_19, s81_20, s81_21, s81_22, s81_23, s81_24, s81_25, s81_26_4, s81_26_7, s81_29, s81_30, s81_33, s81_34_4, s81_34_7, s81_37, s81_38, s81_39, s81_40, s81_43, s81_46, s81_49, s81_50_4, s81_50_7, s81_53, s81_54, s81_55, s81_56, s81_59, s81_60, s81_63, s81_66, s81_67, xcx_i, xcx_r, xcx_n, xcx_l, xcx_0, am1, e, if_false, at_t2, tab2_2, e0, al_1, al_2, at_eq, xcl_8, xrow_p (p := 7) (Or.inr rfl) (show 24 + 3 * n < 54 by omega), xrow_p (p := 7) (Or.inr rfl) (show 24 + 3 * n + 1 < 54 by omega), xrow_p (p := 7) (Or.inr rfl) (show 24 + 3 * n + 2 < 54 by omega), within_eq, xb_f, ite_not, true_or, or_true, true_and]
        unfold dI
        split
        · rfl
        · exact ih (by omega) _
  rw [e81]
  rcases hp with rfl | rfl <;> simp only [s81_0, s81_1, s81_2_4, s81_2_7, s81_5, s81_6, s81_7, xcx_i, xcx_r, xcx_n, xcx_l, xcx_0, toldOf_eq, hd, true_or, or_true, true_and] <;> exact loop nd h4 _
def dU (de : Nat → Int32) (x : Int32) : Nat → Int32
  | 0 => 0
  | n + 1 => if de (3 * n) ≤ x ∧ x ≤ de (3 * n + 1) then de (3 * n + 2) else dU de x n
theorem MdepthAt_eq {σ : xM} {nd : Nat} {x : Int32} {Q : Int32 → xM → Prop} (hd : σ.1 84 21 = nI nd) (h4 : nd ≤ 4) : xI1 222 [.ref 84, .int x] σ Q = Q (dU (σ.1 94) x nd) σ := by
  have loop : ∀ k n, n + k = nd → xC 222 4 [some (.ref 84), some (.int x), some (.int (dU (σ.1 94) x n)), some (.int (nI n))] [] σ (xqI Q) = Q (dU (σ.1 94) x nd) σ := by
    intro k
    induction k with
    | zero =>
      intro n hn
      obtain rfl : n = nd := by omega
      rw [s222_4]
      simp only [s222_0, s222_1, s222_2, s222_3, s222_5, s222_6, s222_9, s222_12, s222_13, s222_14, s222_17, s222_18, s222_19, s222_20, s222_21, s222_22, s222_25, s222_26, s222_27, s222_28, s222_29, s222_30, s222_31, s222_34, s222_37, s222_38, s222_41, s222_42, s222_43, s222_44, s222_45, s222_46, s222_47, s222_48, s222_51, s222_54, s222_55, hd, nI_leL (a := n) (b := n) (by omega) (by omega), Nat.le_refl, if_true]
    | succ k ih =>
      intro n hn
      have e : (nI nd ≤ nI n) = False := eq_false (fun q => by have := (nI_leI (show nd < 2147483648 by omega) (show n < 2147483648 by omega)).mp q; omega)
      have b0 : 3 * n < 100000 := by omega
      have b1 : 3 * n + 1 < 100000 := by omega
      have b2 : 3 * n + 2 < 100000 := by omega
      have c0 : 3 * n < 12 := by omega
      have c1 : 3 * n + 1 < 12 := by omega
      have c2 : 3 * n + 2 < 12 := by omega
      rw [s222_4]
      simp only [s222_0, s222_1, s222_2, s222_3, s222_5, s222_6, s222_9, s222_12, s222_13, s222_14, s222_17, s222_18, s222_19, s222_20, s222_21, s222_22, s222_25, s222_26, s222_27, s222_28, s222_29, s222_30, s222_31, s222_34, s222_37, s222_38, s222_41, s222_42, s222_43, s222_44, s222_45, s222_46, s222_47, s222_48, s222_51, s222_54, s222_55, xcx_i, xcx_r, xcx_n, xcx_l, xcx_0, hd, e, if_false, ml_3, al_1, al_2, xcl_94, xln_94, b0, b1, b2, c0, c1, c2, cl_s, pos_s, in_eq, xb_f, ite_not, true_or, or_true, true_and, nI_1]
      have h := ih (n + 1) (by omega)
      rw [show dU (σ.1 94) x (n + 1) = if σ.1 94 (3 * n) ≤ x ∧ x ≤ σ.1 94 (3 * n + 1) then σ.1 94 (3 * n + 2) else dU (σ.1 94) x n from rfl] at h
      by_cases q : σ.1 94 (3 * n) ≤ x ∧ x ≤ σ.1 94 (3 * n + 1)
      · rw [if_pos q] at h ⊢; exact h
      · rw [if_neg q] at h ⊢; exact h
  rw [e222]
  simp only [s222_0, s222_1, s222_2, s222_3, xcx_i, xcx_r, xcx_n, xcx_l, xcx_0]
  exact loop nd 0 (by omega)
theorem dU_dI {de N : Nat → Int32} {x : Int32} {nd : Nat} (h : ∀ i, i < nd → de (3 * i) = N (24 + 3 * i) ∧ de (3 * i + 1) = N (24 + 3 * i + 1) ∧ de (3 * i + 2) = N (24 + 3 * i + 2)) : ∀ n, n ≤ nd → dU de x n = dI N x n := by
  intro n
  induction n with
  | zero => intro _; rfl
  | succ n ih =>
    intro hn
    obtain ⟨h1, h2, h3⟩ := h n (by omega)
    unfold dU dI
    rw [h1, h2, h3, ih (by omega)]
theorem gP.deep {σ : xM} (h : gP σ) : ∀ x nd, σ.1 84 21 = nI nd → nd ≤ 4 → dU (σ.1 94) x nd = dI (σ.1 (σ.2.2 1 + 1)) x nd := by
  obtain ⟨hpp, ns, nr, nd, ng, nt, hb, hT, hm, _, _, hde, _⟩ := h
  intro x k hk h4
  have e : nI nd = nI k := hm.2.2.1.symm.trans hk
  have hb3 := hb.2.2.1
  obtain rfl : nd = k := (nI_eq (show nd < 2147483648 by omega) (show k < 2147483648 by omega)).mp e
  exact dU_dI (fun i hi => ⟨(hde i hi).1, (hde i hi).2.1, (hde i hi).2.2.1⟩) nd (Nat.le_refl _)
theorem op_depth (a : Int32) : xOp 133 223 [.int a] := by
  intro xs L σ hI
  obtain ⟨p, ns, nr, nd, ng, nt, hp, hpe, hb, ⟨hst, -, hdd, -⟩, ⟨hm0, -, hmd, -⟩⟩ := hI.1.get
  have hns8 := hb.1
  have hnd4 := hb.2.2.1
  have hns31 : ns < 2147483648 := by omega
  have hdp := hI.1.deep a nd hmd hnd4
  rw [hpe] at hdp
  have hx : ∀ Q : Int32 → xM → Prop, xI1 133 [.ref 0, .int a] σ Q = (if 0 < ns ∧ (0 ≤ a ∧ a ≤ 200) then Q (dI (σ.1 (p + 1)) a nd) σ else Q (-1) σ) := by
    intro Q
    have hda : ∀ Q : Int32 → xM → Prop, xI1 81 [.ref p, .int a] σ Q = _ := fun Q => XdepthAt_eq hp hdd hnd4
    rw [e133]
    rcases hp with rfl | rfl <;> simp only [s133_0, s133_1, s133_4_4, s133_4_7, s133_7, s133_10, s133_11, s133_12, s133_15, s133_18, s133_21, s133_22, s133_25, s133_26_4, s133_26_7, s133_29, s133_32, s133_33, hpe, stands_eq, hst, within_eq, hda, xb_f, ite_not, guard1, true_or, or_true, true_and, nr_0, hns31]
  have hm : ∀ Q : Int32 → xM → Prop, xI1 223 [.ref 84, .int a] σ Q = (if 0 < ns ∧ (0 ≤ a ∧ a ≤ 200) then Q (dU (σ.1 94) a nd) σ else Q (-1) σ) := by
    intro Q
    have h0 : (nI ns ≤ 0) = ¬ 0 < ns := by rw [nle_0 hns31]; exact propext ⟨fun q => by omega, fun q => by omega⟩
    rw [e223]
    simp only [s223_0, s223_1, s223_4, s223_7, s223_8, s223_9, s223_12, s223_15, s223_18, s223_19, s223_20, s223_23, s223_26, s223_27, hm0, h0, in_eq, MdepthAt_eq hmd hnd4, xb_f, ite_not, guard1, true_or, or_true, true_and]
  rw [hx]
  by_cases hG : 0 < ns ∧ (0 ≤ a ∧ a ≤ 200)
  · rw [if_pos hG, hm, if_pos hG, hdp]
    exact ⟨rfl, hI⟩
  · rw [if_neg hG, hm, if_neg hG]
    exact ⟨rfl, hI⟩
