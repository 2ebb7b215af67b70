/-! ship, mend, lift, ring -/
theorem rng_iff {x : Int32} {n : Nat} (hn : n < 2147483648) : (0 ≤ x ∧ x ≤ nI n - 1) = (∃ l, l < n ∧ x = nI l) := by
  apply propext
  constructor
  · rintro ⟨h0, h1⟩
    cases n with
    | zero =>
      have := Int32.le_iff_toInt_le.mp h1
      have h2 := i0_le.mp h0
      have e : (nI 0 - 1).toInt = -1 := by decide
      omega
    | succ m =>
      rw [nI_pred] at h1
      obtain ⟨l, hl, rfl⟩ := nI_of (Int32.not_lt.mpr h0)
      exact ⟨l, by have := (nI_leI hl (by omega)).mp h1; omega, rfl⟩
  · rintro ⟨l, hl, rfl⟩
    cases n with
    | zero => omega
    | succ m =>
      rw [nI_pred]
      exact ⟨nI_pos' (by omega), (nI_leI (by omega) (by omega)).mpr (by omega)⟩
theorem bd_nI {n : Nat} {a b : Int} (hn : n < 2147483648) (h1 : a ≤ n) (h2 : (n : Int) ≤ b) : bd (nI n) a b := by
  unfold bd; rw [nI_ti hn]; exact ⟨h1, h2⟩
theorem op_ship (a b : Int32) : xOp 113 179 [.int a, .int b] := by
  intro xs L σ hI
  obtain ⟨p, ns, nr, nd, ng, nt, hp, hpe, hb, ⟨hst, -⟩, ⟨hm0, -⟩⟩ := hI.1.get
  have hns8 := hb.1
  have hns31 : ns < 2147483648 := by omega
  have hc : ∀ Q : xM → Prop, xV 100 [.ref 10, .int a, .int b] σ Q = Q (xe_si (xe_si (xe_si (xe_si σ 10 0 1) 10 1 a) 10 2 b) 10 3 0) := by
    intro Q
    rw [e100]
    simp only [s100_0, s100_1, s100_2_10, s100_2_17, s100_2_24, s100_2_31, s100_5, s100_6, s100_7_10, s100_7_17, s100_7_24, s100_7_31, s100_10, s100_11, s100_12_10, s100_12_17, s100_12_24, s100_12_31, s100_15, s100_16, s100_17_10, s100_17_17, s100_17_24, s100_17_31, s100_20, or_true, true_and]
  have hx : ∀ Q : Int32 → xM → Prop, xI1 113 [.ref 0, .int a, .int b] σ Q = (if 0 < ns ∧ (0 ≤ a ∧ a ≤ 199) ∧ (0 ≤ b ∧ b ≤ 30) then Q 1 (xe_si (xe_si (xe_si (xe_si σ 10 0 1) 10 1 a) 10 2 b) 10 3 0) else Q 0 σ) := by
    intro Q
    rw [e113]
    rcases hp with rfl | rfl <;> simp only [s113_0, s113_1, s113_4_4, s113_4_7, s113_7, s113_10, s113_11, s113_12, s113_15, s113_18, s113_21, s113_22, s113_23, s113_25, s113_28, s113_31, s113_32, s113_33, s113_34, s113_37, s113_38, s113_39_10, s113_39_17, s113_39_24, s113_39_31, s113_42, s113_43, hpe, stands_eq, hst, within_eq, hc, xb_f, ite_not, guard1, and_self, if_true, if_false, true_or, or_true, true_and, nr_0, hns31]
  have hm : ∀ (τ : xM) (Q : Int32 → xM → Prop), τ.1 84 17 = nI ns → xI1 179 [.ref 84, .int a, .int b] τ Q = (if 0 < ns ∧ (0 ≤ a ∧ a ≤ 199) ∧ (0 ≤ b ∧ b ≤ 30) then Q 1 (xe_si (xe_si (xe_si (xe_si τ 84 28 1) 84 29 a) 84 30 b) 84 31 0) else Q 0 τ) := by
    intro τ Q h1
    rw [e179]
    simp only [s179_0, s179_1, s179_4, s179_7, s179_8, s179_9, s179_12, s179_15, s179_18, s179_19, s179_20, s179_22, s179_25, s179_28, s179_29, s179_30, s179_31, s179_32, s179_35, s179_36, s179_37, s179_40, s179_41, s179_42, s179_45, s179_46, s179_47, s179_50, s179_51, h1, in_eq, xb_f, ite_not, guard1, and_self, if_true, if_false, true_or, or_true, true_and, nz_0, hns31]
  rw [hx]
  by_cases hG : 0 < ns ∧ (0 ≤ a ∧ a ≤ 199) ∧ (0 ≤ b ∧ b ≤ 30)
  · rw [if_pos hG, hm (xe_si (xe_si (xe_si (xe_si σ 10 0 1) 10 1 a) 10 2 b) 10 3 0) _ hm0, if_pos hG]
    refine ⟨rfl, ⟨hI.1.fr ⟨rfl, rfl, rfl, rfl, rfl, rfl, rfl, rfl, rfl, rfl, rfl, rfl, rfl, rfl, rfl, rfl⟩, hI.2.1, ?_, hI.2.2.2.1, hI.2.2.2.2.1, hI.2.2.2.2.2.1, hI.2.2.2.2.2.2.1.fr hI.1 ⟨rfl, rfl, rfl, rfl, rfl, rfl, rfl, rfl, rfl, rfl, rfl, rfl, rfl, rfl, rfl, rfl⟩ ⟨rfl, rfl, rfl, rfl, rfl, rfl, rfl, rfl, rfl, rfl, rfl, rfl⟩, hI.2.2.2.2.2.2.2.1, hI.2.2.2.2.2.2.2.2.1, hI.2.2.2.2.2.2.2.2.2⟩⟩
    refine ⟨0, by omega, rfl, rfl, Or.inr rfl, rfl, fun _ => rfl, fun _ => ⟨rfl, rfl, bd_of hG.2.1, bd_of hG.2.2, ?_⟩, fun l hl => absurd hl (Nat.not_lt_zero l)⟩
    show 1 ≤ (σ.1 84 17).toInt
    rw [hm0, nI_ti hns31]; omega
  · rw [if_neg hG, hm _ _ hm0, if_neg hG]
    exact ⟨rfl, hI⟩
theorem hasLine_eq {σ : xM} {l : Int32} {Q : Int32 → xM → Prop} : xI1 101 [.ref 10, .int l] σ Q = Q (xb (0 ≤ l ∧ l ≤ σ.1 10 3 - 1)) σ := by
  rw [e101]
  simp only [s101_0, s101_1, s101_2, s101_3_10, s101_3_17, s101_3_24, s101_3_31, s101_6, s101_7, s101_8, s101_11, within_eq, xb_01, true_and]
theorem isLine_eq {σ : xM} {l : Int32} {Q : Int32 → xM → Prop} : xI1 182 [.ref 84, .int l] σ Q = Q (xb (0 ≤ l ∧ l ≤ σ.1 84 31 - 1)) σ := by
  rw [e182]
  simp only [s182_0, s182_1, s182_2, s182_3, s182_6, s182_7, s182_8, s182_11, in_eq, xb_01, true_and]
theorem mayMakeFast_eq {σ : xM} {h s : Int32} {Q : Int32 → xM → Prop} : xI1 149 [.int h, .int s] σ Q = Q (xb ((0 ≤ h ∧ h ≤ 99) ∧ (0 ≤ s ∧ s ≤ 20))) σ := by
  rw [e149]
  simp only [s149_0, s149_1, s149_2, s149_4, s149_7, s149_10, s149_11, s149_12, s149_14, s149_17, s149_20, s149_21, s149_24, s149_25, within_eq, xb_f, ite_not, guard1, true_or, or_true, true_and, qif (Q := Q)]
  rfl
theorem makeFast_eq {σ : xM} {l : Nat} {h s : Int32} {Q : xM → Prop} (hl : l < 6) : xV 103 [.ref 10, .int (nI l), .int h, .int s] σ Q = Q (xe_si (xe_si σ 11 l h) 15 l s) := by
  rw [e103]
  simp only [s103_0, s103_1_10, s103_1_17, s103_1_24, s103_1_31, s103_4, s103_5, s103_6, s103_9, s103_10_10, s103_10_17, s103_10_24, s103_10_31, s103_13, s103_14, s103_15, s103_18, put_eq, xcl_11, xcl_15, xln_11, xln_15, xpt_n, hl]
theorem op_mend (a b c : Int32) : xOp 115 183 [.int a, .int b, .int c] := by
  intro xs L σ hI
  obtain ⟨n, hn6, k1, k2, h01, h28, hz, h1, hrow⟩ := hI.2.2.1
  have hn31 : n < 2147483648 := by omega
  rw [e115]
  simp only [s115_0, s115_1, s115_4, s115_5_10, s115_5_17, s115_5_24, s115_5_31, s115_8, s115_11, s115_12, s115_13, s115_16, s115_19, s115_20, s115_21, s115_22, s115_25, s115_26, s115_27, s115_28_10, s115_28_17, s115_28_24, s115_28_31, s115_31, s115_32, hasLine_eq, mayMakeFast_eq, k1, xb_f, ite_not, guard1]
  have hM : ∀ (τ : xM) (Q : Int32 → xM → Prop), τ.1 84 31 = nI n → xI1 183 [.ref 84, .int a, .int b, .int c] τ Q = (if (0 ≤ a ∧ a ≤ nI n - 1) ∧ (0 ≤ b ∧ b ≤ 99) ∧ (0 ≤ c ∧ c ≤ 20) then xC 183 30 [some (.ref 84), some (.int a), some (.int b), some (.int c)] [] τ (xqI Q) else Q 0 τ) := by
    intro τ Q h
    rw [e183]
    simp only [s183_0, s183_1, s183_2, s183_5, s183_8, s183_9, s183_10, s183_12, s183_15, s183_18, s183_19, s183_20, s183_22, s183_25, s183_28, s183_29, isLine_eq, in_eq, h, xb_f, ite_not, guard1, true_or, or_true, true_and]
  by_cases hG : (0 ≤ a ∧ a ≤ nI n - 1) ∧ (0 ≤ b ∧ b ≤ 99) ∧ (0 ≤ c ∧ c ≤ 20)
  · rw [if_pos hG]
    obtain ⟨l, hl, rfl⟩ := (rng_iff hn31).mp hG.1
    have b0 : 6 * l + 5 < 100000 := by omega
    have b1 : 6 * l + 3 < 100000 := by omega
    have c0 : 6 * l + 5 < 36 := by omega
    have c1 : 6 * l + 3 < 36 := by omega
    simp only [makeFast_eq (show l < 6 by omega), or_true, true_and]
    rw [hM (xe_si (xe_si σ 11 l b) 15 l c) _ k2, if_pos hG]
    simp only [s183_0, s183_1, s183_2, s183_5, s183_8, s183_9, s183_10, s183_12, s183_15, s183_18, s183_19, s183_20, s183_22, s183_25, s183_28, s183_29, s183_30, s183_31, s183_34, s183_36, s183_37, s183_38, s183_39, s183_40, s183_41, s183_42, s183_43, s183_46, s183_48, s183_49, s183_50, s183_51, s183_52, s183_53, s183_54, s183_55, xcl_98, xln_98, ml_6, al_5, al_3, b0, b1, c0, c1, cl_s, pos_s, true_and, or_true]
    refine ⟨hI.1.fr ⟨rfl, rfl, rfl, rfl, rfl, rfl, rfl, rfl, rfl, rfl, rfl, rfl, rfl, rfl, rfl, rfl⟩, hI.2.1, ?_, hI.2.2.2.1, hI.2.2.2.2.1, hI.2.2.2.2.2.1, hI.2.2.2.2.2.2.1.fr hI.1 ⟨rfl, rfl, rfl, rfl, rfl, rfl, rfl, rfl, rfl, rfl, rfl, rfl, rfl, rfl, rfl, rfl⟩ ⟨rfl, rfl, rfl, rfl, rfl, rfl, rfl, rfl, rfl, rfl, rfl, rfl⟩, hI.2.2.2.2.2.2.2.1, hI.2.2.2.2.2.2.2.2.1, hI.2.2.2.2.2.2.2.2.2⟩
    refine ⟨n, hn6, k1, k2, h01, h28, hz, h1, fun i hi => ?_⟩
    have h := hrow i hi
    unfold gLn at h ⊢
    by_cases q : i = l
    · subst q
      have f1 : (6 * i = 6 * i + 3) = False := eq_false (by omega)
      have f2 : (6 * i = 6 * i + 5) = False := eq_false (by omega)
      have g1 := bd_of hG.2.1
      have g2 := bd_of hG.2.2
      simp only [si_rd, Nat.reduceEqDiff, Nat.add_left_cancel_iff, f1, f2, and_false, false_and, and_self, if_false, if_true, true_and] at h ⊢
      exact ⟨h.1, h.2.1, h.2.2.1, h.2.2.2.2.1, h.2.2.2.2.2.2.1, h.2.2.2.2.2.2.2.1, h.2.2.2.2.2.2.2.2.1, g2, h.2.2.2.2.2.2.2.2.2.2.1, g1⟩
    · have f0 : (i = l) = False := eq_false q
      have f1 : ∀ x y, x < 6 → y < 6 → (6 * i + x = 6 * l + y) = False := fun x y hx hy => eq_false (by omega)
      have f2 : ∀ y, y < 6 → (6 * i = 6 * l + y) = False := fun y hy => eq_false (by omega)
      simpa only [si_rd, Nat.reduceEqDiff, f0, f1, f2, Nat.reduceLT, and_false, false_and, if_false] using h
  · rw [if_neg hG]
    simp only [or_true, true_or, true_and]
    rw [hM _ _ k2, if_neg hG]
    exact ⟨rfl, hI⟩
theorem ringsAdd_eq {σ : xM} {a b : Int32} {n : Nat} {Q : xM → Prop} (hn : σ.1 59 0 = nI n) (h6 : n < 20) : xV 83 [.ref 59, .int a, .int b] σ Q = Q (xe_si (xe_si (xe_si σ 60 n a) 61 n b) 59 0 (nI (n + 1))) := by
  rw [e83]
  simp only [s83_0, s83_1, s83_4, s83_5, s83_8, s83_9, s83_12, s83_13, s83_16, s83_17, s83_20, s83_21, s83_24, s83_25, s83_26, s83_29, s83_30, s83_31, s83_34, put_eq, xcl_60, xcl_61, xln_60, xln_61, hn, xpt_n, h6, si_rd, nI_1, Nat.reduceEqDiff, false_and, if_false]
theorem mayBeHome_eq {σ : xM} {a : Int32} {p ng : Nat} {Q : Int32 → xM → Prop} (hp : p = 4 ∨ p = 7) (hpe : σ.2.2 1 = p) (hg : xat σ (p + 2) 4 = nI ng) (h4 : ng ≤ 4) : xI1 153 [.ref 0, .int a] σ Q = Q (xb (∃ l, l < 2 ^ ng ∧ 0 < l ∧ a = nI l)) σ := by
  have hpw := pw4 h4
  have e1 : (1 ≤ a ∧ a ≤ nI (2 ^ ng) - 1) = (∃ l, l < 2 ^ ng ∧ 0 < l ∧ a = nI l) := by
    apply propext
    constructor
    · rintro ⟨h0, h1⟩
      have h00 : 0 ≤ a := Int32.le_trans (by decide) h0
      obtain ⟨l, hl, rfl⟩ := (rng_iff (n := 2 ^ ng) (by omega)).mp ⟨h00, h1⟩
      have : 1 ≤ l := (nI_leI (by decide) (by omega)).mp h0
      exact ⟨l, hl, by omega, rfl⟩
    · rintro ⟨l, hl, h0, rfl⟩
      exact ⟨(nI_leI (by decide) (by omega)).mpr h0, ((rng_iff (n := 2 ^ ng) (by omega)).mpr ⟨l, hl, rfl⟩).2⟩
  rw [e153]
  rcases hp with rfl | rfl <;> simp only [s153_0, s153_1, s153_2, s153_3, s153_4, s153_7, s153_8_4, s153_8_7, s153_11, s153_12, s153_13, s153_14, s153_17, hpe, toldOf_eq, hg, shl1 (show ng ≤ 12 by omega), within_eq, true_or, or_true, xb_01, true_and, e1]
theorem isHome_eq {σ : xM} {a : Int32} {ng : Nat} {Q : Int32 → xM → Prop} (hg : σ.1 84 23 = nI ng) (h4 : ng ≤ 4) : xI1 216 [.ref 84, .int a] σ Q = Q (xb (∃ l, l < 2 ^ ng ∧ 0 < l ∧ a = nI l)) σ := by
  have hpw := pw4 h4
  rw [e216]
  simp only [s216_0, s216_1, s216_4, s216_5, s216_6, s216_7, s216_10, s216_11, s216_14, s216_15, s216_18, s216_19, hg, shl1 (show ng ≤ 12 by omega), true_or, or_true, true_and, qif (Q := Q)]
  congr 1
  unfold xb
  by_cases h0 : a ≤ 0
  · rw [if_pos h0, if_neg]
    rintro ⟨l, hl, h1, rfl⟩
    have := (nI_leI (a := l) (b := 0) (by omega) (by decide)).mp h0
    omega
  · rw [if_neg h0]
    obtain ⟨l, hl, rfl⟩ := nI_of (x := a) (Int32.not_lt.mpr (Int32.le_of_lt (Int32.not_le.mp h0)))
    have h1 : 0 < l := by
      rcases Nat.eq_zero_or_pos l with rfl | q
      · exact absurd (by decide) h0
      · exact q
    by_cases h2 : nI (2 ^ ng) ≤ nI l
    · rw [if_pos h2, if_neg]
      rintro ⟨k, hk, h3, e⟩
      have e2 := (nI_eq hl (show k < 2 ^ 31 by omega)).mp e
      have := (nI_leI (show 2 ^ ng < 2 ^ 31 by omega) hl).mp h2
      omega
    · rw [if_neg h2, if_pos]
      refine ⟨l, ?_, h1, rfl⟩
      rcases Nat.lt_or_ge l (2 ^ ng) with q | q
      · exact q
      · exact absurd ((nI_leI (show 2 ^ ng < 2 ^ 31 by omega) hl).mpr q) h2
theorem op_ring (a b : Int32) : xOp 129 217 [.int a, .int b] := by
  intro xs L σ hI
  obtain ⟨p, ns, nr, nd, ng, nt, hp, hpe, hb, ⟨hst, -, -, hg, -⟩, ⟨hm0, -, -, hmg, -⟩⟩ := hI.1.get
  obtain ⟨n, hn6, k1, k2, hrow⟩ := hI.2.2.2.2.2.1
  have hb1 := hb.1
  have hb4 := hb.2.2.2.1
  have hz := hb.2.2.2.2.2
  have hn31 : n < 2147483648 := by omega
  have hns31 : ns < 2147483648 := by omega
  have hg31 : ng < 2147483648 := by omega
  have hpw := pw4 hb4
  have hx : ∀ Q : Int32 → xM → Prop, xI1 129 [.ref 0, .int a, .int b] σ Q = (if (∃ l, l < 2 ^ ng ∧ 0 < l ∧ a = nI l) ∧ n < 20 ∧ (∃ l, l < ng ∧ b = nI l) ∧ a >>> (b &&& 31) &&& 1 = 1 then xC 129 50 [some (.ref 0), some (.int a), some (.int b)] [] σ (xqI Q) else Q (-1) σ) := by
    intro Q
    rw [e129]
    have hmb : ∀ (Q : Int32 → xM → Prop), xI1 153 [.ref 0, .int a] σ Q = _ := fun Q => mayBeHome_eq hp hpe hg hb4
    rcases hp with rfl | rfl <;> simp only [s129_0, s129_1, s129_2, s129_5, s129_8, s129_9, s129_12, s129_15, s129_17, s129_20, s129_21, s129_22, s129_23, s129_24, s129_25, s129_28, s129_29_4, s129_29_7, s129_32, s129_33, s129_34, s129_37, s129_40, s129_41, s129_42, s129_45, s129_48, s129_49, hpe, toldOf_eq, hg, hmb, within_eq, hasBit_eq, rng_iff hg31, k1, xb_f, ite_not, guard1, true_or, or_true, true_and, nl_20, hn31]
  have hm : ∀ (τ : xM) (Q : Int32 → xM → Prop), τ.1 84 17 = nI ns → τ.1 84 23 = nI ng → τ.1 84 40 = nI n → xI1 217 [.ref 84, .int a, .int b] τ Q = (if 0 < ns ∧ (∃ l, l < 2 ^ ng ∧ 0 < l ∧ a = nI l) ∧ (∃ l, l < ng ∧ b = nI l) ∧ a >>> (b &&& 31) &&& 1 = 1 then (if n = 20 then Q (-1) τ else xC 217 48 [some (.ref 84), some (.int a), some (.int b)] [] τ (xqI Q)) else Q (-1) τ) := by
    intro τ Q h1 h2 h3
    rw [e217]
    simp only [s217_0, s217_1, s217_4, s217_7, s217_8, s217_9, s217_12, s217_15, s217_16, s217_17, s217_18, s217_21, s217_22, s217_23, s217_26, s217_29, s217_30, s217_31, s217_32, s217_33, s217_34, s217_37, s217_38, s217_41, s217_43, s217_46, s217_47, h1, h2, h3, isHome_eq h2 hb4, in_eq, rng_iff hg31, and01, xb_f, ite_not, guard1, true_or, or_true, true_and, nz_0, nq_20, hn31, hns31]
  rw [hx]
  by_cases hG : (∃ l, l < 2 ^ ng ∧ 0 < l ∧ a = nI l) ∧ n < 20 ∧ (∃ l, l < ng ∧ b = nI l) ∧ a >>> (b &&& 31) &&& 1 = 1
  · rw [if_pos hG]
    obtain ⟨⟨h, hh, hh0, rfl⟩, h20, ⟨g, hgg, rfl⟩, hbit⟩ := hG
    have hns0 : 0 < ns := by
      rcases Nat.eq_zero_or_pos ns with q | q
      · have := (hz q).2.2.1; omega
      · exact q
    simp only [s129_50, s129_51, s129_54, s129_55, s129_56, s129_59, s129_60, s129_63, s129_66, ringsAdd_eq k1 h20, si_rd, and_self, if_true]
    rw [hm (xe_si (xe_si (xe_si σ 60 n (nI h)) 61 n (nI g)) 59 0 (nI (n + 1))) _ hm0 hmg k2, if_pos ⟨hns0, ⟨h, hh, hh0, rfl⟩, ⟨g, hgg, rfl⟩, hbit⟩, if_neg (by omega)]
    have b0 : n < 100000 := by omega
    simp only [s217_48, s217_49, s217_52, s217_53, s217_56, s217_57, s217_58, s217_59, s217_62, s217_63, s217_66, s217_67, s217_68, s217_69, s217_70, s217_73, s217_74, s217_75, s217_78, s217_79, s217_82, si_rd, Nat.reduceEqDiff, false_and, if_false, k2, xcl_105, xcl_106, xln_105, xln_106, b0, h20, cl_s, pos_s, true_and, nI_1, and_self, if_true]
    refine ⟨hI.1.fr ⟨rfl, rfl, rfl, rfl, rfl, rfl, rfl, rfl, rfl, rfl, rfl, rfl, rfl, rfl, rfl, rfl⟩, hI.2.1, hI.2.2.1, hI.2.2.2.1, hI.2.2.2.2.1, ?_, hI.2.2.2.2.2.2.1.fr hI.1 ⟨rfl, rfl, rfl, rfl, rfl, rfl, rfl, rfl, rfl, rfl, rfl, rfl, rfl, rfl, rfl, rfl⟩ ⟨rfl, rfl, rfl, rfl, rfl, rfl, rfl, rfl, rfl, rfl, rfl, rfl⟩, hI.2.2.2.2.2.2.2.1, hI.2.2.2.2.2.2.2.2.1, hI.2.2.2.2.2.2.2.2.2⟩
    refine ⟨n + 1, by omega, rfl, rfl, fun i hi => ?_⟩
    have hbb : h.testBit g = true := by rw [← bit16 (by omega) (by omega)]; exact hbit
    have e23 : (nI ng).toNatClampNeg = ng := nI_cl ng hg31
    rcases Nat.lt_or_eq_of_le (Nat.le_of_lt_succ hi) with q | q
    · have h := hrow i q
      have f0 : (i = n) = False := eq_false (by omega)
      simpa only [si_rd, Nat.reduceEqDiff, f0, and_false, false_and, if_false] using h
    · subst q
      simp only [si_rd, Nat.reduceEqDiff, and_false, false_and, and_self, if_false, if_true, true_and]
      exact ⟨h, g, hh0, by rw [hmg, e23]; exact hh, by rw [hmg, e23]; exact hgg, rfl, rfl, hbb⟩
  · rw [if_neg hG, hm _ _ hm0 hmg k2]
    by_cases hG2 : 0 < ns ∧ (∃ l, l < 2 ^ ng ∧ 0 < l ∧ a = nI l) ∧ (∃ l, l < ng ∧ b = nI l) ∧ a >>> (b &&& 31) &&& 1 = 1
    · rw [if_pos hG2, if_pos]
      · exact ⟨rfl, hI⟩
      · rcases Nat.lt_or_ge n 20 with q | q
        · exact absurd ⟨hG2.2.1, q, hG2.2.2.1, hG2.2.2.2⟩ hG
        · omega
    · rw [if_neg hG2]
      exact ⟨rfl, hI⟩
