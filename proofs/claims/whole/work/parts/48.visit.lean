/-! visit, fits, lay, about, firstFit -/
def chB (k j : Nat) : Bool := scr k j || decide ((63 ≤ k ∧ k ≤ 72) ∨ (107 ≤ k ∧ k ≤ 109) ∨ (k = 84 ∧ j = 43))
theorem xInv.simB {xs : Nat → Int32} {L : Nat} {σ σ' : xM} (h : xInv xs L σ) (hs : xSimW chB σ σ') (hw : gB σ') : xInv xs L σ' := by
  obtain ⟨hP, hT, hS, hI, hC, hR, hB, hN, hL, hX⟩ := h
  obtain ⟨e1, e2⟩ := hs.port (fun _ => rfl) (fun _ => rfl) (fun _ => rfl) (fun _ => rfl) hP.1
  have r92 := hs.row (k := 92) fun _ => rfl
  have r93 := hs.row (k := 93) fun _ => rfl
  have r94 := hs.row (k := 94) fun _ => rfl
  have r95 := hs.row (k := 95) fun _ => rfl
  have r96 := hs.row (k := 96) fun _ => rfl
  have r97 := hs.row (k := 97) fun _ => rfl
  have m17 := hs.1 84 17 rfl
  have m19 := hs.1 84 19 rfl
  have m21 := hs.1 84 21 rfl
  have m23 := hs.1 84 23 rfl
  have m25 := hs.1 84 25 rfl
  refine ⟨⟨by rw [hs.2]; exact hP.1, ?_⟩, ?_, ?_, ?_, ?_, ?_, ?_, ?_, ?_, ?_⟩
  · rw [e1, e2, r92, r93, r94, r95, r96, r97]
    have h := hP.2
    unfold gPV at h ⊢
    rw [m17, m19, m21, m23, m25]
    exact h
  · unfold gT at hT ⊢
    rw [hs.1 2 1 rfl, hs.1 84 1 rfl, hs.row (k := 85) fun _ => rfl, hs.row (k := 3) fun _ => rfl]
    exact hT
  · unfold gS at hS ⊢
    rw [hs.1 84 31 rfl, hs.1 84 28 rfl, hs.1 84 29 rfl, hs.1 84 30 rfl, m17, m19, hs.row (k := 10) fun _ => rfl, hs.row (k := 11) fun _ => rfl, hs.row (k := 12) fun _ => rfl, hs.row (k := 13) fun _ => rfl, hs.row (k := 14) fun _ => rfl, hs.row (k := 15) fun _ => rfl, hs.row (k := 16) fun _ => rfl, hs.row (k := 98) fun _ => rfl]
    exact hS
  · unfold gI gIk at hI ⊢
    rw [m17, m19, hs.row (k := 99) fun _ => rfl, hs.row (k := 100) fun _ => rfl, hs.row (k := 101) fun _ => rfl, hs.row (k := 102) fun _ => rfl, hs.row (k := 103) fun _ => rfl, hs.row (k := 17) fun _ => rfl, hs.row (k := 17 + 1) fun _ => rfl, hs.row (k := 17 + 2) fun _ => rfl, hs.row (k := 17 + 3) fun _ => rfl, hs.row (k := 17 + 4) fun _ => rfl, hs.row (k := 17 + 5) fun _ => rfl, hs.row (k := 17 + 6) fun _ => rfl,
      hs.row (k := 24) fun _ => rfl, hs.row (k := 24 + 1) fun _ => rfl, hs.row (k := 24 + 2) fun _ => rfl, hs.row (k := 24 + 3) fun _ => rfl, hs.row (k := 24 + 4) fun _ => rfl, hs.row (k := 24 + 5) fun _ => rfl, hs.row (k := 24 + 6) fun _ => rfl,
      hs.row (k := 31) fun _ => rfl, hs.row (k := 31 + 1) fun _ => rfl, hs.row (k := 31 + 2) fun _ => rfl, hs.row (k := 31 + 3) fun _ => rfl, hs.row (k := 31 + 4) fun _ => rfl, hs.row (k := 31 + 5) fun _ => rfl, hs.row (k := 31 + 6) fun _ => rfl]
    exact hI
  · unfold gC at hC ⊢
    rw [hs.1 51 0 rfl, hs.1 84 38 rfl, hs.row (k := 104) fun _ => rfl, hs.row (k := 53) fun _ => rfl, hs.row (k := 54) fun _ => rfl, hs.row (k := 55) fun _ => rfl, hs.row (k := 56) fun _ => rfl]
    exact hC
  · unfold gR at hR ⊢
    rw [hs.1 59 0 rfl, hs.1 84 40 rfl, m23, hs.row (k := 105) fun _ => rfl, hs.row (k := 106) fun _ => rfl, hs.row (k := 60) fun _ => rfl, hs.row (k := 61) fun _ => rfl]
    exact hR
  · exact hw
  · unfold gN at hN ⊢
    rw [hs.1 73 0 rfl, hs.1 84 47 rfl, hs.row (k := 110) fun _ => rfl, hs.row (k := 75) fun _ => rfl, hs.row (k := 76) fun _ => rfl, hs.row (k := 77) fun _ => rfl]
    exact hN
  · unfold gL at hL ⊢
    rw [hs.1 80 0 rfl, hs.1 84 49 rfl, hs.row (k := 111) fun _ => rfl, hs.row (k := 81) fun _ => rfl, hs.row (k := 82) fun _ => rfl, hs.row (k := 83) fun _ => rfl]
    exact hL
  · unfold gX at hX ⊢
    rw [hs.1 1011 0 rfl, hs.row (k := 1010) fun _ => rfl]
    exact hX
theorem chB_scr {σ τ : xM} (h : xSim σ τ) : xSimW chB σ τ := ⟨fun k j hk => h.1 k j (by unfold chB at hk; rw [Bool.or_eq_false_iff] at hk; exact hk.1), h.2⟩
theorem neg_div100 {x : Int32} (h : x < 0) : ¬ (10 ≤ x / 100) := by
  intro q
  have h1 := Int32.lt_iff_toInt_lt.mp h
  have h2 := Int32.le_iff_toInt_le.mp q
  have e0 : (0 : Int32).toInt = 0 := by decide
  have e10 : (10 : Int32).toInt = 10 := by decide
  rw [Int32.toInt_div_of_ne_right _ _ (by decide), show (100 : Int32).toInt = 100 by decide, e10] at h2
  have : x.toInt.tdiv 100 ≤ 0 := by
    rw [show x.toInt = -(-x.toInt) by omega, Int.neg_tdiv]
    have := Int.tdiv_nonneg (a := -x.toInt) (b := 100) (by omega) (by decide)
    omega
  omega
theorem neg_rem100 {x : Int32} (h : x < 0) : ¬ (1 ≤ x - x / 100 * 100) := by
  intro q
  have h1 := Int32.lt_iff_toInt_lt.mp h
  have h2 := Int32.le_iff_toInt_le.mp q
  have e0 : (0 : Int32).toInt = 0 := by decide
  have e1 : (1 : Int32).toInt = 1 := by decide
  have hd : x / 100 = iI (x.toInt.tdiv 100) := by
    rw [← iI_of (x / 100), Int32.toInt_div_of_ne_right _ _ (by decide), show (100 : Int32).toInt = 100 by decide]
  have hx : x - x / 100 * 100 = iI (x.toInt.tmod 100) := by
    rw [hd, show (100 : Int32) = iI 100 from rfl, iI_mul]
    rw [show x - iI (x.toInt.tdiv 100 * 100) = iI x.toInt - iI (x.toInt.tdiv 100 * 100) by rw [iI_of], iI_sub]
    congr 1
    have := Int.tmod_add_mul_tdiv x.toInt 100
    omega
  have hm1 : x.toInt.tmod 100 ≤ 0 := by
    rw [show x.toInt = -(-x.toInt) by omega, Int.neg_tmod]
    have := Int.tmod_nonneg (a := -x.toInt) 100 (by omega)
    omega
  have hm2 : -100 < x.toInt.tmod 100 := by
    rw [show x.toInt = -(-x.toInt) by omega, Int.neg_tmod]
    have := Int.tmod_lt_of_pos (-x.toInt) (b := 100) (by decide)
    omega
  rw [hx, iI_ti (by omega) (by omega), e1] at h2
  omega
def shl (σ : xM) (n : Nat) (f : Nat → Int32) (m : Nat) : xM := (fun a b => if a = 72 ∧ 20 * n ≤ b ∧ b < 20 * n + m then f (b - 20 * n) else σ.1 a b, σ.2)
theorem shl_rd (σ : xM) (n : Nat) (f : Nat → Int32) (m a b : Nat) : (shl σ n f m).1 a b = if a = 72 ∧ 20 * n ≤ b ∧ b < 20 * n + m then f (b - 20 * n) else σ.1 a b := rfl
theorem shl_0 (σ : xM) (n : Nat) (f : Nat → Int32) : shl σ n f 0 = σ := by
  apply Prod.ext
  · funext a b; rw [shl_rd, if_neg (fun q => by omega)]
  · rfl
theorem shl_ne {σ : xM} {n : Nat} {f : Nat → Int32} {m a : Nat} (h : a ≠ 72) : (shl σ n f m).1 a = σ.1 a := by
  funext b; rw [shl_rd, if_neg (fun q => h q.1)]
theorem shl_s (σ : xM) (n : Nat) (f : Nat → Int32) (m : Nat) : xe_si (shl σ n f m) 72 (20 * n + m) (f m) = shl σ n f (m + 1) := by
  apply Prod.ext
  · funext a b
    simp only [si_rd, shl_rd]
    by_cases h2 : a = 72 ∧ b = 20 * n + m
    · rw [if_pos h2, if_pos ⟨h2.1, by omega, by omega⟩, h2.2, Nat.add_sub_cancel_left]
    · rw [if_neg h2]
      by_cases h3 : a = 72 ∧ 20 * n ≤ b ∧ b < 20 * n + m
      · rw [if_pos h3, if_pos ⟨h3.1, by omega, by omega⟩]
      · rw [if_neg h3, if_neg (fun q => h3 ⟨q.1, q.2.1, by rcases Nat.lt_or_ge b (20 * n + m) with w | w; exact w; exact absurd ⟨q.1, by omega⟩ h2⟩)]
  · rfl
def vB (σ : xM) (n a b c d : Nat) : xM := xe_si (xe_si (xe_si (xe_si (xe_si (xe_si σ 64 n (nI a)) 65 n (nI b)) 66 n (nI c)) 67 n (nI d)) 68 n (-1)) 69 n (-1)
theorem berthsAdd_eq {σ : xM} {n p nd k t : Nat} {dp wa : Nat → Nat} {Q : xM → Prop} (hB : pB σ p nd dp wa) (hn : σ.1 63 0 = nI n) (h5 : n < 5) (hk : k < 20000) (ht : t < 20000) : xV 15 [.ref 63, .ref p, .int (nI k), .int (nI t)] σ Q = Q (xe_si (shl (vB σ n (k / 100) (k % 100) (t / 100) (t % 100)) n (fun t => nI (ldN dp (10 * t) (k / 100))) 20) 63 0 (nI (n + 1))) := by
  have hdk : nI k / 100 = nI (k / 100) := pk_div (d := 100) (by omega) (by decide) (by decide)
  have hdt : nI t / 100 = nI (t / 100) := pk_div (d := 100) (by omega) (by decide) (by decide)
  have hrk : nI k - nI (k / 100) * 100 = nI (k % 100) := by
    have := pk_rem (d := 100) (a := k) (by omega) (by decide) (by decide)
    rw [← this, hdk.symm]; rfl
  have hrt : nI t - nI (t / 100) * 100 = nI (t % 100) := by
    have := pk_rem (d := 100) (a := t) (by omega) (by decide) (by decide)
    rw [← this, hdt.symm]; rfl
  have h100 : ¬ (100 : Int32) = 0 := by decide
  have hB2 : pB (vB σ n (k / 100) (k % 100) (t / 100) (t % 100)) p nd dp wa := by
    refine hB.sim rfl ?_ ?_ rfl rfl rfl <;> rcases hB.1 with e | e <;> rw [e] <;> rfl
  have hp := hB.1
  have loop : ∀ m i, i + m = 20 → xC 15 73 [some (.ref 63), some (.ref p), some (.int (nI k)), some (.int (nI t)), some (.int (nI i))] [] (shl (vB σ n (k / 100) (k % 100) (t / 100) (t % 100)) n (fun t => nI (ldN dp (10 * t) (k / 100))) i) (xqV Q) = Q (xe_si (shl (vB σ n (k / 100) (k % 100) (t / 100) (t % 100)) n (fun t => nI (ldN dp (10 * t) (k / 100))) 20) 63 0 (nI (n + 1))) := by
    intro m
    induction m with
    | zero =>
      intro i hi
      obtain rfl : i = 20 := by omega
      have e63 : (shl (vB σ n (k / 100) (k % 100) (t / 100) (t % 100)) n (fun t => nI (ldN dp (10 * t) (k / 100))) 20).1 63 0 = nI n := by
        rw [shl_ne (by decide)]; exact hn
      rw [s15_73]
      simp only [s15_0, s15_1, s15_4, s15_5, s15_8, s15_9, s15_11, s15_12, s15_15, s15_16, s15_19, s15_20, s15_23, s15_24, s15_26, s15_27, s15_30, s15_31, s15_34, s15_35, s15_38, s15_39, s15_41, s15_42, s15_45, s15_46, s15_49, s15_50, s15_53, s15_54, s15_56, s15_57, s15_60, s15_61, s15_62, s15_65, s15_66, s15_67, s15_70, s15_71, s15_75, s15_77, s15_80, s15_81, s15_84, s15_85, s15_88, s15_90, s15_91, s15_93, s15_94, s15_95, s15_97, s15_99, s15_100, s15_101, s15_103, s15_104_4, s15_104_7, s15_107, s15_110, s15_113, s15_116, s15_117, s15_118, s15_121, s15_122, s15_123, s15_126, xcx_i, xcx_r, xcx_n, xcx_l, xcx_0, show ((20 : Int32) ≤ nI 20) = True from eq_true (by decide), if_true, e63, nI_1]
    | succ m ih =>
      intro i hi
      have e : ((20 : Int32) ≤ nI i) = False := eq_false (fun q => by have := (nI_leI (a := 20) (b := i) (by decide) (by omega)).mp q; omega)
      have e63 : (shl (vB σ n (k / 100) (k % 100) (t / 100) (t % 100)) n (fun t => nI (ldN dp (10 * t) (k / 100))) i).1 63 0 = nI n := by
        rw [shl_ne (by decide)]; exact hn
      have hB3 : pB (shl (vB σ n (k / 100) (k % 100) (t / 100) (t % 100)) n (fun t => nI (ldN dp (10 * t) (k / 100))) i) p nd dp wa := by
        refine hB2.sim rfl (shl_ne ?_) (shl_ne ?_) (congrFun (shl_ne (by decide)) 21) (shl_ne (by decide)) (shl_ne (by decide)) <;> rcases hp with e | e <;> rw [e] <;> decide
      have hX : ∀ Q : Int32 → xM → Prop, xI1 82 [.ref p, .int (nI (i * 10)), .int (nI (k / 100))] (shl (vB σ n (k / 100) (k % 100) (t / 100) (t % 100)) n (fun t => nI (ldN dp (10 * t) (k / 100))) i) Q = Q (nI (ldN dp (i * 10) (k / 100))) _ := fun Q => XleastDepth hB3 (by omega)
      have hxp : ∀ v, xpt (shl (vB σ n (k / 100) (k % 100) (t / 100) (t % 100)) n (fun t => nI (ldN dp (10 * t) (k / 100))) i) 72 (nI (n * 20 + i)) v = xe_si (shl (vB σ n (k / 100) (k % 100) (t / 100) (t % 100)) n (fun t => nI (ldN dp (10 * t) (k / 100))) i) 72 (20 * n + i) v := fun v => by
        rw [xpt_n (by rw [xln_72]; omega), Nat.mul_comm n 20]
      have hsl := shl_s (vB σ n (k / 100) (k % 100) (t / 100) (t % 100)) n (fun t => nI (ldN dp (10 * t) (k / 100))) i
      rw [Nat.mul_comm 10 i] at hsl
      rw [s15_73]
      rcases hp with rfl | rfl
      · simp only [s15_0, s15_1, s15_4, s15_5, s15_8, s15_9, s15_11, s15_12, s15_15, s15_16, s15_19, s15_20, s15_23, s15_24, s15_26, s15_27, s15_30, s15_31, s15_34, s15_35, s15_38, s15_39, s15_41, s15_42, s15_45, s15_46, s15_49, s15_50, s15_53, s15_54, s15_56, s15_57, s15_60, s15_61, s15_62, s15_65, s15_66, s15_67, s15_70, s15_71, s15_75, s15_77, s15_80, s15_81, s15_84, s15_85, s15_88, s15_90, s15_91, s15_93, s15_94, s15_95, s15_97, s15_99, s15_100, s15_101, s15_103, s15_104_4, s15_104_7, s15_107, s15_110, s15_113, s15_116, s15_117, s15_118, s15_121, s15_122, s15_123, s15_126, xcx_i, xcx_r, xcx_n, xcx_l, xcx_0, e, if_false, e63, mr_20, mr_10, nI_add, hdk, h100, not_false_eq_true, true_and, hX, put_eq, xcl_72, hxp, hsl, nI_1, true_or, or_true]
        exact ih (i + 1) (by omega)
      · simp only [s15_0, s15_1, s15_4, s15_5, s15_8, s15_9, s15_11, s15_12, s15_15, s15_16, s15_19, s15_20, s15_23, s15_24, s15_26, s15_27, s15_30, s15_31, s15_34, s15_35, s15_38, s15_39, s15_41, s15_42, s15_45, s15_46, s15_49, s15_50, s15_53, s15_54, s15_56, s15_57, s15_60, s15_61, s15_62, s15_65, s15_66, s15_67, s15_70, s15_71, s15_75, s15_77, s15_80, s15_81, s15_84, s15_85, s15_88, s15_90, s15_91, s15_93, s15_94, s15_95, s15_97, s15_99, s15_100, s15_101, s15_103, s15_104_4, s15_104_7, s15_107, s15_110, s15_113, s15_116, s15_117, s15_118, s15_121, s15_122, s15_123, s15_126, xcx_i, xcx_r, xcx_n, xcx_l, xcx_0, e, if_false, e63, mr_20, mr_10, nI_add, hdk, h100, not_false_eq_true, true_and, hX, put_eq, xcl_72, hxp, hsl, nI_1, true_or, or_true]
        exact ih (i + 1) (by omega)
  have hl := loop 20 0 (by omega)
  rw [shl_0] at hl
  have n5 : n < 5 := h5
  have hput : ∀ (τ : xM) (a b : Int32) (Q : xM → Prop), xV 18 [.ref 63, .int (nI n), .int a, .int b] τ Q = _ := fun τ a b Q => putAt_eq h5
  rw [e15]
  rcases hp with rfl | rfl
  · simp only [s15_0, s15_1, s15_4, s15_5, s15_8, s15_9, s15_11, s15_12, s15_15, s15_16, s15_19, s15_20, s15_23, s15_24, s15_26, s15_27, s15_30, s15_31, s15_34, s15_35, s15_38, s15_39, s15_41, s15_42, s15_45, s15_46, s15_49, s15_50, s15_53, s15_54, s15_56, s15_57, s15_60, s15_61, s15_62, s15_65, s15_66, s15_67, s15_70, s15_71, xcx_i, xcx_r, xcx_n, xcx_l, xcx_0, put_eq, xcl_64, xcl_65, xcl_66, xcl_67, xln_64, xln_65, xln_66, xln_67, hn, xpt_n, n5, si_rd, hdk, hdt, hrk, hrt, h100, not_false_eq_true, true_and, hput, Nat.reduceEqDiff, false_and, if_false, true_or, or_true]
    exact hl
  · simp only [s15_0, s15_1, s15_4, s15_5, s15_8, s15_9, s15_11, s15_12, s15_15, s15_16, s15_19, s15_20, s15_23, s15_24, s15_26, s15_27, s15_30, s15_31, s15_34, s15_35, s15_38, s15_39, s15_41, s15_42, s15_45, s15_46, s15_49, s15_50, s15_53, s15_54, s15_56, s15_57, s15_60, s15_61, s15_62, s15_65, s15_66, s15_67, s15_70, s15_71, xcx_i, xcx_r, xcx_n, xcx_l, xcx_0, put_eq, xcl_64, xcl_65, xcl_66, xcl_67, xln_64, xln_65, xln_66, xln_67, hn, xpt_n, n5, si_rd, hdk, hdt, hrk, hrt, h100, not_false_eq_true, true_and, hput, Nat.reduceEqDiff, false_and, if_false, true_or, or_true]
    exact hl
