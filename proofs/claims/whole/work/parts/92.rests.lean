/-! rests, pull -/
theorem maySail_eq {h w s : Int32} {σ : xM} {Q : Int32 → xM → Prop} : xI1 151 [.ref 0, .int h, .int w, .int s] σ Q = Q (xb (¬ σ.1 10 0 = 0 ∧ (0 ≤ h ∧ h ≤ 99) ∧ (0 ≤ w ∧ w ≤ 999) ∧ (-99 ≤ s ∧ s ≤ 99))) σ := by
  rw [e151]
  by_cases c1 : σ.1 10 0 = 0
  · simp only [s151_0, s151_1, s151_4_10, s151_4_17, s151_4_24, s151_4_31, s151_7, s151_10, s151_11, s151_12, s151_13, s151_16, s151_19, s151_20, s151_23, s151_24, xcx_i, xcx_r, xcx_n, xcx_l, xcx_0, c1, not_true, if_true, if_false, false_and, xb, true_or, or_true, true_and]
  · by_cases c2 : (0 ≤ h ∧ h ≤ 99) ∧ (0 ≤ w ∧ w ≤ 999) ∧ (-99 ≤ s ∧ s ≤ 99)
    · simp only [s151_0, s151_1, s151_4_10, s151_4_17, s151_4_24, s151_4_31, s151_7, s151_10, s151_11, s151_12, s151_13, s151_16, s151_19, s151_20, s151_23, s151_24, xcx_i, xcx_r, xcx_n, xcx_l, xcx_0, c1, not_false_eq_true, if_true, if_false, mayBlow_eq, xb_f, ite_not, if_pos c2, true_or, or_true, true_and]
      unfold xb; rw [if_pos c2]
    · simp only [s151_0, s151_1, s151_4_10, s151_4_17, s151_4_24, s151_4_31, s151_7, s151_10, s151_11, s151_12, s151_13, s151_16, s151_19, s151_20, s151_23, s151_24, xcx_i, xcx_r, xcx_n, xcx_l, xcx_0, c1, not_false_eq_true, if_true, if_false, mayBlow_eq, xb_f, ite_not, if_neg c2, true_or, or_true, true_and]
      unfold xb; rw [if_neg c2]
theorem isWeather_eq {h w s : Int32} {σ : xM} {Q : Int32 → xM → Prop} : xI1 198 [.ref 84, .int h, .int w, .int s] σ Q = Q (xb (¬ σ.1 84 28 = 0 ∧ (0 ≤ h ∧ h ≤ 99) ∧ (0 ≤ w ∧ w ≤ 999) ∧ (-99 ≤ s ∧ s ≤ 99))) σ := by
  rw [e198]
  by_cases c1 : σ.1 84 28 = 0
  · simp only [s198_0, s198_1, s198_4, s198_7, s198_8, s198_9, s198_11, s198_14, s198_17, s198_18, s198_19, s198_22, s198_25, s198_28, s198_29, s198_31, s198_33, s198_36, s198_39, s198_40, s198_43, s198_44, xcx_i, xcx_r, xcx_n, xcx_l, xcx_0, c1, not_true, if_true, if_false, false_and, xb, true_or, or_true, true_and]
  · by_cases c2 : 0 ≤ h ∧ h ≤ 99
    · by_cases c3 : 0 ≤ w ∧ w ≤ 999
      · by_cases c4 : -99 ≤ s ∧ s ≤ 99
        · simp only [s198_0, s198_1, s198_4, s198_7, s198_8, s198_9, s198_11, s198_14, s198_17, s198_18, s198_19, s198_22, s198_25, s198_28, s198_29, s198_31, s198_33, s198_36, s198_39, s198_40, s198_43, s198_44, xcx_i, xcx_r, xcx_n, xcx_l, xcx_0, c1, not_false_eq_true, if_true, if_false, in_eq, xb_f, ite_not, if_pos c2, if_pos c3, if_pos c4, true_or, or_true, true_and]
          unfold xb; rw [if_pos ⟨c2, c3, c4⟩]
        · simp only [s198_0, s198_1, s198_4, s198_7, s198_8, s198_9, s198_11, s198_14, s198_17, s198_18, s198_19, s198_22, s198_25, s198_28, s198_29, s198_31, s198_33, s198_36, s198_39, s198_40, s198_43, s198_44, xcx_i, xcx_r, xcx_n, xcx_l, xcx_0, c1, not_false_eq_true, if_true, if_false, in_eq, xb_f, ite_not, if_pos c2, if_pos c3, if_neg c4, true_or, or_true, true_and]
          unfold xb; rw [if_neg (fun q => c4 q.2.2)]
      · simp only [s198_0, s198_1, s198_4, s198_7, s198_8, s198_9, s198_11, s198_14, s198_17, s198_18, s198_19, s198_22, s198_25, s198_28, s198_29, s198_31, s198_33, s198_36, s198_39, s198_40, s198_43, s198_44, xcx_i, xcx_r, xcx_n, xcx_l, xcx_0, c1, not_false_eq_true, if_true, if_false, in_eq, xb_f, ite_not, if_pos c2, if_neg c3, true_or, or_true, true_and]
        unfold xb; rw [if_neg (fun q => c3 q.2.1)]
    · simp only [s198_0, s198_1, s198_4, s198_7, s198_8, s198_9, s198_11, s198_14, s198_17, s198_18, s198_19, s198_22, s198_25, s198_28, s198_29, s198_31, s198_33, s198_36, s198_39, s198_40, s198_43, s198_44, xcx_i, xcx_r, xcx_n, xcx_l, xcx_0, c1, not_false_eq_true, if_true, if_false, in_eq, xb_f, ite_not, if_neg c2, true_or, or_true, true_and]
      unfold xb; rw [if_neg (fun q => c2 q.1)]
theorem toI {x : Int32} {a b : Int32} (h : a ≤ x ∧ x ≤ b) : ∃ z : Int, x = iI z ∧ a.toInt ≤ z ∧ z ≤ b.toInt := ⟨x.toInt, (iI_of x).symm, Int32.le_iff_toInt_le.mp h.1, Int32.le_iff_toInt_le.mp h.2⟩
theorem toN {x : Int32} {b : Nat} (hb : b < 2147483648) (h : 0 ≤ x ∧ x ≤ nI b) : ∃ z : Nat, x = nI z ∧ z ≤ b := by
  obtain ⟨k, hk, rfl⟩ := nI_of (Int32.not_lt.mpr h.1)
  exact ⟨k, rfl, (nI_leI hk hb).mp h.2⟩
theorem Mall_eq {σ : xM} {m : Nat} {Q : Int32 → xM → Prop} (hl : σ.1 84 31 = nI m) (hm : m ≤ 6) : xI1 197 [.ref 84] σ Q = Q (nI (2 ^ m - 1)) σ := by
  have hpw1 : 1 ≤ 2 ^ m := Nat.one_le_two_pow
  have epw : nI (2 ^ m) - 1 = nI (2 ^ m - 1) := pk_sub (b := 1) hpw1
  rw [e197]
  simp only [s197_0, s197_1, s197_2, s197_5, s197_6, s197_7, s197_8, xcx_i, xcx_r, xcx_n, xcx_l, xcx_0, hl, shl1 (show m ≤ 12 by omega), epw]
theorem allB {m i : Nat} (h : i < m) : (2 ^ m - 1).testBit i = true := by
  rw [Nat.testBit_two_pow_sub_one, decide_eq_true h]
theorem all64 {m : Nat} (h : m ≤ 6) : 2 ^ m - 1 < 64 := by
  have : 2 ^ m ≤ 2 ^ 6 := Nat.pow_le_pow_right (by decide) h
  omega
theorem XlayToRest {σ : xM} {p n ns nr bow deck hour : Nat} {D E : Nat → Nat → Nat} {w s : Int} {Q : Int32 → xM → Prop} (ha : ¬ σ.1 10 0 = 0) (h : sdX σ p n ns nr bow deck D E) (hb : sdB n ns nr bow deck D E) (hn : σ.1 10 3 = nI n) (hh : hour ≤ 99) (hw : 0 ≤ w ∧ w ≤ 999) (hs : -99 ≤ s ∧ s ≤ 99) (hQ : ∀ τ u v, xSim σ τ → moX τ n (2 ^ n - 1) (wyF D E bow) (rmF D E bow deck hour) (hdF D E) (brF D E) (D 1) → isB (csF (wyF D E bow) (rmF D E bow deck hour) (hdF D E) (2 ^ n - 1) n w s) u v → seX τ n (2 ^ n - 1) (wyF D E bow) (rmF D E bow deck hour) (hdF D E) w s u v → Q 1 τ) : xI1 152 [.ref 0, .int (nI hour), .int (iI w), .int (iI s)] σ Q := by
  have hG : ¬ σ.1 10 0 = 0 ∧ (0 ≤ nI hour ∧ nI hour ≤ 99) ∧ (0 ≤ iI w ∧ iI w ≤ 999) ∧ (-99 ≤ iI s ∧ iI s ≤ 99) := ⟨ha, ⟨nI_pos' (by omega), (nI_leI (b := 99) (by omega) (by decide)).mpr hh⟩, ⟨(iI_le (a := 0) (by omega) (by omega) (by omega) (by omega)).mpr hw.1, (iI_le (b := 999) (by omega) (by omega) (by omega) (by omega)).mpr hw.2⟩, ⟨(iI_le (a := -99) (by omega) (by omega) (by omega) (by omega)).mpr hs.1, (iI_le (b := 99) (by omega) (by omega) (by omega) (by omega)).mpr hs.2⟩⟩
  have hpe := h.1.2.1
  have hmo : ∀ Q : xM → Prop, (∀ τ, xSim σ τ → moX τ n (2 ^ n - 1) (wyF D E bow) (rmF D E bow deck hour) (hdF D E) (brF D E) (D 1) → τ.1 38 7 = 0 → Q τ) → xV 43 [.ref 38, .ref p, .ref 10, .int (nI n), .int (nI hour)] σ Q := fun Q hQ => Xmoor h hb (Nat.le_refl n) hh (fun τ h1 h2 h3 _ => hQ τ h1 h2 h3)
  have after : ∀ τ, xSim σ τ → moX τ n (2 ^ n - 1) (wyF D E bow) (rmF D E bow deck hour) (hdF D E) (brF D E) (D 1) → τ.1 38 7 = 0 → xC 152 35 [some (.ref 0), some (.int (nI hour)), some (.int (iI w)), some (.int (iI s))] [] τ (xqI Q) := by
    intro τ h1 h2 h3
    simp only [s152_35, s152_36, s152_39, s152_40, s152_41, xcx_i, xcx_r, xcx_n, xcx_l, xcx_0]
    refine Xsettle h2 (Or.inl h3) hw hs (fun τ' u v hg _ _ hB hS => ?_)
    simp only [s152_44, s152_45, xcx_i, xcx_r, xcx_n, xcx_l, xcx_0, true_or, or_true, true_and]
    exact hQ τ' u v (h1.tr hg.sim) (h2.mog hg) hB hS
  rw [e152]
  rcases h.1.1 with rfl | rfl
  · simp only [s152_0, s152_1, s152_2, s152_3, s152_4, s152_7, s152_10, s152_11, s152_12, s152_13, s152_16, s152_17, s152_20, s152_21, s152_24, s152_25, s152_28_10, s152_28_17, s152_28_24, s152_28_31, s152_31, s152_32, xcx_i, xcx_r, xcx_n, xcx_l, xcx_0, maySail_eq, xb_f, ite_not, if_pos hG, hpe, hn, true_or, or_true, true_and]
    exact hmo _ after
  · simp only [s152_0, s152_1, s152_2, s152_3, s152_4, s152_7, s152_10, s152_11, s152_12, s152_13, s152_16, s152_17, s152_20, s152_21, s152_24, s152_25, s152_28_10, s152_28_17, s152_28_24, s152_28_31, s152_31, s152_32, xcx_i, xcx_r, xcx_n, xcx_l, xcx_0, maySail_eq, xb_f, ite_not, if_pos hG, hpe, hn, true_or, or_true, true_and]
    exact hmo _ after
theorem XlayToRest_out {σ : xM} {a b c : Int32} {Q : Int32 → xM → Prop} (hG : ¬ (¬ σ.1 10 0 = 0 ∧ (0 ≤ a ∧ a ≤ 99) ∧ (0 ≤ b ∧ b ≤ 999) ∧ (-99 ≤ c ∧ c ≤ 99))) : xI1 152 [.ref 0, .int a, .int b, .int c] σ Q = Q 0 σ := by
  rw [e152]
  simp only [s152_0, s152_1, s152_2, s152_3, s152_4, s152_7, s152_10, s152_11, xcx_i, xcx_r, xcx_n, xcx_l, xcx_0, maySail_eq, xb_f, ite_not, if_neg hG, true_or, or_true, true_and]
theorem op_rests (a b c d : Int32) : xOp 118 199 [.int a, .int b, .int c, .int d] := by
  intro xs L σ hI
  have h28 : σ.1 84 28 = σ.1 10 0 := by
    obtain ⟨n, hn6, k1, k2, h01, h28, hz, h1, hrow⟩ := hI.2.2.1
    exact h28
  have h01 : σ.1 10 0 = 0 ∨ σ.1 10 0 = 1 := by
    obtain ⟨n, hn6, k1, k2, h01, h28, hz, h1, hrow⟩ := hI.2.2.1
    exact h01
  by_cases hG : ¬ σ.1 10 0 = 0 ∧ (0 ≤ a ∧ a ≤ 99) ∧ (0 ≤ b ∧ b ≤ 999) ∧ (-99 ≤ c ∧ c ≤ 99)
  · obtain ⟨ha, hga, hgb, hgc⟩ := id hG
    obtain ⟨hour, rfl, hh⟩ := toN (b := 99) (by decide) hga
    obtain ⟨w, rfl, hw1, hw2⟩ := toI hgb
    obtain ⟨s, rfl, hs1, hs2⟩ := toI hgc
    have hw : 0 ≤ w ∧ w ≤ 999 := ⟨hw1, hw2⟩
    have hs : -99 ≤ s ∧ s ≤ 99 := ⟨hs1, hs2⟩
    have ha1 : σ.1 10 0 = 1 := by
      rcases h01 with q | q
      · exact absurd q ha
      · exact q
    obtain ⟨p, n, ns, nr, bow, deck, D, E, hb, hsl, hX, hM, kx, km, hns1⟩ := hI.ship ha1
    have hn6 := hb.1
    have h10 : ¬ (1 : Int32) = 0 := by decide
    have hfin : ∀ τ u v, xSim σ τ → isB (csF (wyF D E bow) (rmF D E bow deck hour) (hdF D E) (2 ^ n - 1) n w s) u v → seX τ n (2 ^ n - 1) (wyF D E bow) (rmF D E bow deck hour) (hdF D E) w s u v → xC 118 13 [some (.ref 0), some (.int (nI hour)), some (.int (iI w)), some (.int (iI s)), some (.int d)] [] τ (xqI (fun r1 σ1 => xI1 199 (.ref 84 :: [.int (nI hour), .int (iI w), .int (iI s), .int d]) σ1 (fun r2 σ2 => r1 = r2 ∧ xInv xs L σ2))) := by
      intro τ u v hsim hB hS
      obtain ⟨e2, e3, e4, e5, -⟩ := hS
      have hMτ := hM.sim hsim
      have kmτ : τ.1 84 31 = nI n := (hsim.1 84 31 rfl).trans km
      have h28τ : τ.1 84 28 = σ.1 10 0 := (hsim.1 84 28 rfl).trans h28
      have hGm : ¬ τ.1 84 28 = 0 ∧ (0 ≤ nI hour ∧ nI hour ≤ 99) ∧ (0 ≤ iI w ∧ iI w ≤ 999) ∧ (-99 ≤ iI s ∧ iI s ≤ 99) := by rw [h28τ]; exact hG
      have hfr : ∀ Q : xM → Prop, (∀ τ2, mrs τ τ2 → τ2.1 84 52 = iI u → τ2.1 84 53 = iI v → Q τ2) → xV 196 [.ref 84, .int (nI hour), .int (iI w), .int (iI s), .int (nI (2 ^ n - 1))] τ Q := by
        intro Q hQ
        refine MfindsRest hMτ hb hh (Nat.le_refl n) kmτ (all64 hn6) hw hs (fun τ2 u' v' hr hu hv hB' => ?_)
        obtain ⟨rfl, rfl⟩ := isB_eq hB hB'
        exact hQ τ2 hr hu hv
      have hinv : ∀ τ2, mrs τ τ2 → xInv xs L τ2 := fun τ2 hr => hI.sim (hsim.tr hr.sim)
      by_cases hd : 0 ≤ d ∧ d ≤ 3
      · obtain ⟨k, rfl, hk⟩ := toN (b := 3) (by decide) hd
        have : k = 0 ∨ k = 1 ∨ k = 2 ∨ k = 3 := by omega
        rcases this with rfl | rfl | rfl | rfl
        · simp only [s118_13, s118_15, s118_44, s118_45, s118_48, s118_51, xcx_i, xcx_r, xcx_n, xcx_l, xcx_0, show (nI 0 = 0) = True from eq_true rfl, if_true, e2]
          rw [e199]
          simp only [s199_0, s199_1, s199_2, s199_3, s199_4, s199_7, s199_10, s199_12, s199_13, s199_14, s199_17, s199_20, s199_23, s199_24, s199_25, s199_26, s199_27, s199_28, s199_29, s199_32, xcx_i, xcx_r, xcx_n, xcx_l, xcx_0, isWeather_eq, in_eq, xb_f, ite_not, if_pos hGm, if_pos hd, Mall_eq kmτ hn6, true_or, or_true, true_and]
          refine hfr _ (fun τ2 hr hu hv => ?_)
          simp only [s199_35, s199_37, s199_40, s199_41, s199_44, s199_105, xcx_i, xcx_r, xcx_n, xcx_l, xcx_0, show (nI 0 = 0) = True from eq_true rfl, not_true, if_true, if_false, hu]
          first | exact hinv τ2 hr | exact ⟨trivial, hinv τ2 hr⟩
        · simp only [s118_13, s118_15, s118_44, s118_45, s118_48, s118_51, s118_52, s118_53, s118_56, s118_59, xcx_i, xcx_r, xcx_n, xcx_l, xcx_0, show (nI 1 = 0) = False from eq_false (by decide), show (nI 1 = 1) = True from eq_true rfl, if_true, if_false, e3]
          rw [e199]
          simp only [s199_0, s199_1, s199_2, s199_3, s199_4, s199_7, s199_10, s199_12, s199_13, s199_14, s199_17, s199_20, s199_23, s199_24, s199_25, s199_26, s199_27, s199_28, s199_29, s199_32, xcx_i, xcx_r, xcx_n, xcx_l, xcx_0, isWeather_eq, in_eq, xb_f, ite_not, if_pos hGm, if_pos hd, Mall_eq kmτ hn6, true_or, or_true, true_and]
          refine hfr _ (fun τ2 hr hu hv => ?_)
          simp only [s199_35, s199_37, s199_40, s199_41, s199_44, s199_47, s199_49, s199_50, s199_53, s199_54, s199_57, s199_105, xcx_i, xcx_r, xcx_n, xcx_l, xcx_0, show (nI 1 = 0) = False from eq_false (by decide), show (nI 1 = 1) = True from eq_true rfl, not_true, not_false_eq_true, if_true, if_false, hv]
          first | exact hinv τ2 hr | exact ⟨trivial, hinv τ2 hr⟩
        · simp only [s118_13, s118_15, s118_44, s118_45, s118_48, s118_51, s118_52, s118_53, s118_56, s118_59, s118_60, s118_61, s118_64, s118_67, xcx_i, xcx_r, xcx_n, xcx_l, xcx_0, show (nI 2 = 0) = False from eq_false (by decide), show (nI 2 = 1) = False from eq_false (by decide), show (nI 2 = 2) = True from eq_true rfl, if_true, if_false, e4]
          rw [e199]
          simp only [s199_0, s199_1, s199_2, s199_3, s199_4, s199_7, s199_10, s199_12, s199_13, s199_14, s199_17, s199_20, s199_23, s199_24, s199_25, s199_26, s199_27, s199_28, s199_29, s199_32, xcx_i, xcx_r, xcx_n, xcx_l, xcx_0, isWeather_eq, in_eq, xb_f, ite_not, if_pos hGm, if_pos hd, Mall_eq kmτ hn6, true_or, or_true, true_and]
          refine hfr _ (fun τ2 hr hu hv => ?_)
          have km2 : τ2.1 84 31 = nI n := (hr.1 84 31 (fun z => by omega)).trans kmτ
          have hA : ∀ Q : Int32 → xM → Prop, xI1 193 [.ref 84, .int (nI hour), .int (iI u), .int (iI v), .int (iI s), .int (nI (2 ^ n - 1))] τ2 Q = _ := fun Q => Malong (hMτ.sim hr.sim) hb hh hB.1 (Nat.le_refl n) km2 (all64 hn6)
          simp only [s199_35, s199_37, s199_40, s199_41, s199_44, s199_47, s199_49, s199_50, s199_53, s199_54, s199_57, s199_60, s199_62, s199_63, s199_66, s199_67, s199_68, s199_69, s199_72, s199_73, s199_76, s199_77, s199_78, s199_81, s199_84, s199_87, s199_88, s199_89, s199_90, s199_93, s199_94, s199_97, s199_98, s199_99, s199_102, s199_105, xcx_i, xcx_r, xcx_n, xcx_l, xcx_0, show (nI 2 = 0) = False from eq_false (by decide), show (nI 2 = 1) = False from eq_false (by decide), show (nI 2 = 2) = True from eq_true rfl, not_true, not_false_eq_true, if_true, if_false, hu, hv, Mall_eq km2 hn6, hA, true_or, or_true]
          first | exact hinv τ2 hr | exact ⟨trivial, hinv τ2 hr⟩
        · simp only [s118_13, s118_15, s118_44, s118_45, s118_48, s118_51, s118_52, s118_53, s118_56, s118_59, s118_60, s118_61, s118_64, s118_67, s118_68, s118_69, s118_72, s118_75, xcx_i, xcx_r, xcx_n, xcx_l, xcx_0, show (nI 3 = 0) = False from eq_false (by decide), show (nI 3 = 1) = False from eq_false (by decide), show (nI 3 = 2) = False from eq_false (by decide), show (nI 3 = 3) = True from eq_true rfl, if_true, if_false, e5]
          rw [e199]
          simp only [s199_0, s199_1, s199_2, s199_3, s199_4, s199_7, s199_10, s199_12, s199_13, s199_14, s199_17, s199_20, s199_23, s199_24, s199_25, s199_26, s199_27, s199_28, s199_29, s199_32, xcx_i, xcx_r, xcx_n, xcx_l, xcx_0, isWeather_eq, in_eq, xb_f, ite_not, if_pos hGm, if_pos hd, Mall_eq kmτ hn6, true_or, or_true, true_and]
          refine hfr _ (fun τ2 hr hu hv => ?_)
          have km2 : τ2.1 84 31 = nI n := (hr.1 84 31 (fun z => by omega)).trans kmτ
          have hA : ∀ Q : Int32 → xM → Prop, xI1 195 [.ref 84, .int (nI hour), .int (iI u), .int (iI v), .int (iI w), .int (nI (2 ^ n - 1))] τ2 Q = _ := fun Q => MoffBy (hMτ.sim hr.sim) hb hh hB.1 (Nat.le_refl n) km2 (all64 hn6) hw
          simp only [s199_35, s199_37, s199_40, s199_41, s199_44, s199_47, s199_49, s199_50, s199_53, s199_54, s199_57, s199_60, s199_62, s199_63, s199_66, s199_67, s199_68, s199_69, s199_72, s199_73, s199_76, s199_77, s199_78, s199_81, s199_84, s199_87, s199_88, s199_89, s199_90, s199_93, s199_94, s199_97, s199_98, s199_99, s199_102, s199_105, xcx_i, xcx_r, xcx_n, xcx_l, xcx_0, show (nI 3 = 0) = False from eq_false (by decide), show (nI 3 = 1) = False from eq_false (by decide), show (nI 3 = 2) = False from eq_false (by decide), not_true, not_false_eq_true, if_true, if_false, hu, hv, Mall_eq km2 hn6, hA, true_or, or_true]
          first | exact hinv τ2 hr | exact ⟨trivial, hinv τ2 hr⟩
      · have w0 : d ≠ 0 := fun q => hd (by rw [q]; decide)
        have w1 : d ≠ 1 := fun q => hd (by rw [q]; decide)
        have w2 : d ≠ 2 := fun q => hd (by rw [q]; decide)
        have w3 : d ≠ 3 := fun q => hd (by rw [q]; decide)
        simp only [s118_13, s118_15, s118_44, s118_45, s118_48, s118_51, s118_52, s118_53, s118_56, s118_59, s118_60, s118_61, s118_64, s118_67, s118_68, s118_69, s118_72, s118_75, s118_76, s118_78, xcx_i, xcx_r, xcx_n, xcx_l, xcx_0, w0, w1, w2, w3, if_false]
        rw [e199]
        simp only [s199_0, s199_1, s199_2, s199_3, s199_4, s199_7, s199_10, s199_12, s199_13, s199_14, s199_17, s199_20, s199_23, xcx_i, xcx_r, xcx_n, xcx_l, xcx_0, isWeather_eq, in_eq, xb_f, ite_not, if_pos hGm, if_neg hd, true_or, or_true, true_and]
        first | exact hI.sim hsim | exact ⟨trivial, hI.sim hsim⟩ | exact ⟨rfl, hI.sim hsim⟩
    rw [e118]
    simp only [s118_0, s118_1, s118_2, s118_3, s118_4, xcx_i, xcx_r, xcx_n, xcx_l, xcx_0]
    refine XlayToRest ha hX hb kx hh hw hs (fun τ u v hsim hmo hB hS => ?_)
    simp only [s118_7, s118_10, s118_12, xcx_i, xcx_r, xcx_n, xcx_l, xcx_0, h10, not_false_eq_true, if_true, true_or, or_true, true_and]
    exact hfin τ u v hsim hB hS
  · have hGm : ¬ (¬ σ.1 84 28 = 0 ∧ (0 ≤ a ∧ a ≤ 99) ∧ (0 ≤ b ∧ b ≤ 999) ∧ (-99 ≤ c ∧ c ≤ 99)) := by rw [h28]; exact hG
    rw [e118]
    simp only [s118_0, s118_1, s118_2, s118_3, s118_4, s118_7, s118_10, s118_12, xcx_i, xcx_r, xcx_n, xcx_l, xcx_0, XlayToRest_out hG, not_true, if_false, true_or, or_true, true_and]
    rw [e199]
    simp only [s199_0, s199_1, s199_2, s199_3, s199_4, s199_7, s199_10, s199_12, s199_13, s199_14, s199_17, s199_20, s199_23, xcx_i, xcx_r, xcx_n, xcx_l, xcx_0, isWeather_eq, xb_f, ite_not, if_neg hGm, true_or, or_true, true_and]
    first | exact hI | exact ⟨trivial, hI⟩ | exact ⟨rfl, hI⟩
