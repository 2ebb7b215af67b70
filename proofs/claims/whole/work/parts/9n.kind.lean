/-! the kind of a row -/
def kdR (bt : Nat → Nat) (i j : Nat) (r : Int32) : Prop := (∃ s, s < 7 ∧ spl bt (1100 + s) i j ∧ r = nI s) ∨ ((∀ s, s < 7 → ¬ spl bt (1100 + s) i j) ∧ r = -1)
theorem XkindOf {σ : xM} {n i j : Nat} {bt : Nat → Nat} {Q : Int32 → xM → Prop} (h : txt σ n bt) (hij : i ≤ j) (hj : j ≤ n) (he : σ.1 2 2 = nI j) (hQ : ∀ r, kdR bt i j r → Q r σ) : xI1 97 [.ref 2, .int (nI i)] σ Q := by
  have sp : ∀ s, s < 7 → ∀ Q : Int32 → xM → Prop, (spl bt (1100 + s) i j → Q 1 σ) → (¬ spl bt (1100 + s) i j → Q 0 σ) → xI1 98 [.ref 2, .ref (1100 + s), .int (nI i)] σ Q := fun s hs Q q1 q0 => Xspells h (by omega) hij hj he q1 q0
  have z1 : ¬ (1 : Int32) = 0 := by decide
  have cl : ∀ s, s < 7 → xe_cls (1100 + s) = 50 := fun s hs => (stw_cls (by omega)).1
  have hit : ∀ s, s < 7 → spl bt (1100 + s) i j → Q (nI s) σ := fun s hs q => hQ _ (Or.inl ⟨s, hs, q, rfl⟩)
  have c0 := cl 0 (by decide)
  have c1 := cl 1 (by decide)
  have c2 := cl 2 (by decide)
  have c3 := cl 3 (by decide)
  have c4 := cl 4 (by decide)
  have c5 := cl 5 (by decide)
  have c6 := cl 6 (by decide)
  rw [e97]
  simp only [s97_0, s97_1, s97_3, s97_4, xcx_i, xcx_r, xcx_n, xcx_l, xcx_0, c0]
  refine sp 0 (by decide) _ (fun q => ?_) (fun n0 => ?_)
  · simp only [s97_7, s97_10, s97_11, xcx_i, xcx_r, xcx_n, xcx_l, xcx_0, z1, if_false]; exact hit 0 (by decide) q
  simp only [s97_7, s97_10, s97_11, s97_12, s97_13, s97_15, s97_16, xcx_i, xcx_r, xcx_n, xcx_l, xcx_0, if_true, c1]
  refine sp 1 (by decide) _ (fun q => ?_) (fun n1 => ?_)
  · simp only [s97_19, s97_22, s97_23, xcx_i, xcx_r, xcx_n, xcx_l, xcx_0, z1, if_false]; exact hit 1 (by decide) q
  simp only [s97_19, s97_22, s97_23, s97_24, s97_25, s97_27, s97_28, xcx_i, xcx_r, xcx_n, xcx_l, xcx_0, if_true, c2]
  refine sp 2 (by decide) _ (fun q => ?_) (fun n2 => ?_)
  · simp only [s97_31, s97_34, s97_35, xcx_i, xcx_r, xcx_n, xcx_l, xcx_0, z1, if_false]; exact hit 2 (by decide) q
  simp only [s97_31, s97_34, s97_35, s97_36, s97_37, s97_39, s97_40, xcx_i, xcx_r, xcx_n, xcx_l, xcx_0, if_true, c3]
  refine sp 3 (by decide) _ (fun q => ?_) (fun n3 => ?_)
  · simp only [s97_43, s97_46, s97_47, xcx_i, xcx_r, xcx_n, xcx_l, xcx_0, z1, if_false]; exact hit 3 (by decide) q
  simp only [s97_43, s97_46, s97_47, s97_48, s97_49, s97_51, s97_52, xcx_i, xcx_r, xcx_n, xcx_l, xcx_0, if_true, c4]
  refine sp 4 (by decide) _ (fun q => ?_) (fun n4 => ?_)
  · simp only [s97_55, s97_58, s97_59, xcx_i, xcx_r, xcx_n, xcx_l, xcx_0, z1, if_false]; exact hit 4 (by decide) q
  simp only [s97_55, s97_58, s97_59, s97_60, s97_61, s97_63, s97_64, xcx_i, xcx_r, xcx_n, xcx_l, xcx_0, if_true, c5]
  refine sp 5 (by decide) _ (fun q => ?_) (fun n5 => ?_)
  · simp only [s97_67, s97_70, s97_71, xcx_i, xcx_r, xcx_n, xcx_l, xcx_0, z1, if_false]; exact hit 5 (by decide) q
  simp only [s97_67, s97_70, s97_71, s97_72, s97_73, s97_75, s97_76, xcx_i, xcx_r, xcx_n, xcx_l, xcx_0, if_true, c6]
  refine sp 6 (by decide) _ (fun q => ?_) (fun n6 => ?_)
  · simp only [s97_79, s97_82, s97_84, s97_87, s97_88, xcx_i, xcx_r, xcx_n, xcx_l, xcx_0, z1, if_false]; exact hit 6 (by decide) q
  simp only [s97_79, s97_82, s97_84, s97_87, s97_88, xcx_i, xcx_r, xcx_n, xcx_l, xcx_0, if_true]
  refine hQ _ (Or.inr ⟨fun s hs => ?_, rfl⟩)
  have : s = 0 ∨ s = 1 ∨ s = 2 ∨ s = 3 ∨ s = 4 ∨ s = 5 ∨ s = 6 := by omega
  rcases this with rfl | rfl | rfl | rfl | rfl | rfl | rfl
  · exact n0
  · exact n1
  · exact n2
  · exact n3
  · exact n4
  · exact n5
  · exact n6
theorem XreadKind {σ : xM} {n i : Nat} {bt : Nat → Nat} {Q : Int32 → xM → Prop} (h : txt σ n bt) (hi : i ≤ n) (he : σ.1 2 2 = nI i) (hQ : ∀ τ r, heM σ τ (runE isLt bt n (n - i) i) → kdR bt i (runE isLt bt n (n - i) i) r → Q r τ) : xI1 96 [.ref 2] σ Q := by
  have hn := h.1
  have loop : ∀ f i', i' + f = n → ∀ τ, heM σ τ i' → (∀ τ', heM σ τ' (runE isLt bt n f i') → xC 96 50 [some (.ref 2), some (.int (nI i))] [] τ' (xqI Q)) → xC 96 5 [some (.ref 2), some (.int (nI i))] [] τ (xqI Q) := by
    intro f
    induction f with
    | zero =>
      intro i' hi' τ hr hQ
      obtain rfl : i' = n := by omega
      have hx := heM.txt h hr
      have hq := hQ τ hr
      rw [s96_5]
      simp only [s96_6, s96_9, s96_10, s96_13, xcx_i, xcx_r, xcx_n, xcx_l, xcx_0, hr.2.2, hx.2.1, Int32.le_refl, if_true]
      exact hq
    | succ f ih =>
      intro i' hi' τ hr hQ
      have hx := heM.txt h hr
      have e := lt4N (n := n) (i := i') (by omega) (by omega)
      obtain ⟨b1, b2, b3⟩ := hx.2.2.2 i' (by omega)
      have w1 : ((97 : Int32) ≤ nI (bt i')) = (97 ≤ bt i') := nI_leL (a := 97) (by decide) (by omega)
      have w2 : (nI (bt i') ≤ (122 : Int32)) = (bt i' ≤ 122) := nI_leL (b := 122) (by omega) (by decide)
      have ew : (97 ≤ nI (bt i') ∧ nI (bt i') ≤ 122) = (97 ≤ bt i' ∧ bt i' ≤ 122) := by rw [w1, w2]
      rw [s96_5]
      by_cases c : 97 ≤ bt i' ∧ bt i' ≤ 122
      · rw [show runE isLt bt n (f + 1) i' = runE isLt bt n f (i' + 1) from if_pos ⟨by omega, by rw [isLt_iff]; exact c⟩] at hQ
        have cw : (97 ≤ nI (bt i') ∧ nI (bt i') ≤ 122) := by rw [ew]; exact c
        have next := ih (i' + 1) (by omega) (xe_si τ 2 2 (nI (i' + 1))) hr.si hQ
        simp only [s96_6, s96_9, s96_10, s96_13, s96_16, s96_17, s96_20, s96_21, s96_24, s96_27, s96_29, s96_31, s96_34, s96_37, s96_38, s96_39, s96_42, s96_43, s96_44, s96_47, xcx_i, xcx_r, xcx_n, xcx_l, xcx_0, hr.2.2, hx.2.1, e, if_false, at_eq, xcl_3, xat3 (show i' < 500 by omega), b1, within_eq, if_pos cw, xb_f, ite_not, nI_1, true_or, or_true, true_and]
        exact next
      · rw [show runE isLt bt n (f + 1) i' = i' from if_neg (fun z => by rw [isLt_iff] at z; exact c z.2)] at hQ
        have hq := hQ τ hr
        have cw : ¬ (97 ≤ nI (bt i') ∧ nI (bt i') ≤ 122) := by rw [ew]; exact c
        simp only [s96_6, s96_9, s96_10, s96_13, s96_16, s96_17, s96_20, s96_21, s96_24, s96_27, s96_29, s96_31, s96_34, xcx_i, xcx_r, xcx_n, xcx_l, xcx_0, hr.2.2, hx.2.1, e, if_false, at_eq, xcl_3, xat3 (show i' < 500 by omega), b1, within_eq, if_neg cw, xb_f, ite_not, true_or, or_true, true_and]
        exact hq
  rw [e96]
  simp only [s96_0, s96_1, s96_4, xcx_i, xcx_r, xcx_n, xcx_l, xcx_0, he]
  refine loop (n - i) i (by omega) σ ⟨fun _ _ _ => rfl, rfl, he⟩ (fun τ' hr => ?_)
  obtain ⟨g1, g2, -, -⟩ := runE_bd (P := isLt) (bt := bt) (n := n) (n - i) i (by omega)
  simp only [s96_50, s96_51, s96_52, xcx_i, xcx_r, xcx_n, xcx_l, xcx_0]
  refine XkindOf (heM.txt h hr) g1 g2 hr.2.2 (fun r hk => ?_)
  simp only [s96_55, xcx_i, xcx_r, xcx_n, xcx_l, xcx_0]
  exact hQ τ' r hr hk
