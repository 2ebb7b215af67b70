/-! the reference's line -/
theorem stw_same : stw 1107 = stw 1100 ∧ stw 1108 = stw 1101 ∧ stw 1109 = stw 1102 ∧ stw 1110 = stw 1104 ∧ stw 1111 = stw 1103 ∧ stw 1112 = stw 1106 ∧ stw 1113 = stw 1105 := ⟨rfl, rfl, rfl, rfl, rfl, rfl, rfl⟩
theorem spl_same {bt : Nat → Nat} {i j k l : Nat} (e : stw k = stw l) : spl bt k i j = spl bt l i j := by unfold spl; rw [e]
/-- what a line changes -/
def frM (σ τ : xM) : Prop := (∀ c j, ¬ (86 ≤ c ∧ c ≤ 91) → c ≠ 112 → ¬ (c = 84 ∧ (j = 2 ∨ j = 3 ∨ j = 4 ∨ j = 51 ∨ j = 6 ∨ j = 8 ∨ j = 10 ∨ j = 12 ∨ j = 14)) → τ.1 c j = σ.1 c j) ∧ τ.2.2 = σ.2.2
theorem frM.rf (σ : xM) : frM σ σ := ⟨fun _ _ _ _ _ => rfl, rfl⟩
theorem frM.tr {a b c : xM} (h1 : frM a b) (h2 : frM b c) : frM a c := ⟨fun x j q1 q2 q3 => (h2.1 x j q1 q2 q3).trans (h1.1 x j q1 q2 q3), h2.2.trans h1.2⟩
theorem frM.lx {a b c : xM} (h1 : frM a b) (h2 : lx5 b c) : frM a c := ⟨fun x j q1 q2 q3 => (h2.1 x j (fun z => q3 ⟨z.1, by omega⟩)).trans (h1.1 x j q1 q2 q3), h2.2.trans h1.2⟩
theorem cS_in : ∀ k : Nat, k < 7 → cS k = 2 ∨ cS k = 6 ∨ cS k = 8 ∨ cS k = 10 ∨ cS k = 12 ∨ cS k = 14 := by decide +kernel
theorem frK.m {k : Nat} {σ τ : xM} (hk : k < 7) (h : frK k σ τ) : frM σ τ := by
  obtain ⟨q1, q2, q3, q4, q5, q6⟩ := c_in k hk
  have q7 := cS_in k hk
  exact ⟨fun c j r1 r2 r3 => h.1 c j (by omega) (fun z => r3 ⟨z.1, by omega⟩), h.2⟩
theorem frM.txt {n : Nat} {σ τ : xM} {bt : Nat → Nat} (h : txR σ n bt) (hr : frM σ τ) : txR τ n bt := by
  obtain ⟨h1, h2, h3, h4⟩ := h
  refine ⟨h1, h2, (hr.1 84 1 (by omega) (by omega) (by omega)).trans h3, fun i hi => ?_⟩
  rw [hr.1 85 i (by omega) (by omega) (by omega)]
  exact h4 i hi
theorem tk_word {σ : xM} {n i k : Nat} {bt : Nat → Nat} (ht : tkR bt n i σ) (hi : i ≤ n) (hk : 1100 ≤ k ∧ k < 1114) (h : spl bt k i (runE isLt bt n (n - i) i)) : σ.1 84 2 = nI (runE isLt bt n (n - i) i) := by
  have h3 := stw_ge hk
  obtain ⟨g1, g2, g3, g4⟩ := runE_bd (P := isLt) (bt := bt) (n := n) (n - i) i (by omega)
  have hl : isLt (bt i) = true := g4 i (Nat.le_refl i) (by have := h.1; omega)
  have hin : i < n := by have := h.1; omega
  obtain ⟨-, ⟨c, k3, k2⟩ | ⟨c, cl, k3, k2, k5⟩ | ⟨c, cd, k3, k2, k5⟩ | ⟨c, cl, cd, k3, k2⟩⟩ := ht
  · omega
  · exact k2
  · rw [isLt_iff] at hl; rw [isDg_iff] at cd; omega
  · rw [hl] at cl; cases cl
theorem rowR_k {bt : Nat → Nat} {n i k : Nat} {N T : Nat → Nat} (hk : k < 7) (hs : spl bt (1100 + k) i (runE isLt bt n (n - i) i)) : (T k < mxT k → rowR bt n N T i = lnR bt n k N T (runE isLt bt n (n - i) i)) ∧ (¬ T k < mxT k → rowR bt n N T i = (false, N, T, i)) := by
  have e := kdF_of hk hs
  unfold rowR
  rw [e]
  exact ⟨fun z => if_pos ⟨hk, z⟩, fun z => if_neg (fun y => z y.2)⟩
theorem rowR_no {bt : Nat → Nat} {n i : Nat} {N T : Nat → Nat} (h : ∀ k, k < 7 → ¬ spl bt (1100 + k) i (runE isLt bt n (n - i) i)) : rowR bt n N T i = (false, N, T, i) := by
  have e := kdF_no h
  unfold rowR
  rw [e]
  exact if_neg (fun z => absurd z.1 (by decide))
theorem Mline0 {σ : xM} {n i : Nat} {bt N T : Nat → Nat} {Q : Int32 → xM → Prop} (h : txR σ n bt) (ht : tkR bt n i σ) (hi : i ≤ n) (hR : rD σ N T) (hv : vNT N T) (hQ1 : ∀ τ, (rowR bt n N T i).1 = true → frM σ τ → rD τ (rowR bt n N T i).2.1 (rowR bt n N T i).2.2.1 → tkR bt n (runE isBl bt n (n - (rowR bt n N T i).2.2.2) (rowR bt n N T i).2.2.2) τ → Q 1 τ) (hQ0 : ∀ τ, ¬ (rowR bt n N T i).1 = true → frM σ τ → τ.1 84 4 = nI (rowR bt n N T i).2.2.2 → Q 0 τ) : xI1 175 [.ref 84] σ Q := by
  obtain ⟨g1, g2, -, -⟩ := runE_bd (P := isLt) (bt := bt) (n := n) (n - i) i (by omega)
  have z1 : ((1 : Int32) = 0) = False := eq_false (by decide)
  have go : ∀ k, k < 7 → spl bt (1100 + k) i (runE isLt bt n (n - i) i) → (¬ T k < mxT k → Q 0 σ) ∧ (∀ τ, T k < mxT k → (lnR bt n k N T (runE isLt bt n (n - i) i)).1 = true → frK k σ τ → rD τ (lnR bt n k N T (runE isLt bt n (n - i) i)).2.1 (lnR bt n k N T (runE isLt bt n (n - i) i)).2.2.1 → tkR bt n (runE isBl bt n (n - (lnR bt n k N T (runE isLt bt n (n - i) i)).2.2.2) (lnR bt n k N T (runE isLt bt n (n - i) i)).2.2.2) τ → Q 1 τ) ∧ (∀ τ, T k < mxT k → ¬ (lnR bt n k N T (runE isLt bt n (n - i) i)).1 = true → frK k σ τ → τ.1 84 4 = nI (lnR bt n k N T (runE isLt bt n (n - i) i)).2.2.2 → Q 0 τ) := by
    intro k hk hs
    obtain ⟨e1, e2⟩ := rowR_k (N := N) (T := T) hk hs
    refine ⟨fun z => ?_, fun τ z ok hf hr hk' => ?_, fun τ z ok hf h4 => ?_⟩
    · exact hQ0 σ (by rw [e2 z]; intro y; cases y) (frM.rf σ) (by rw [e2 z]; exact ht.1)
    · exact hQ1 τ (by rw [e1 z]; exact ok) (hf.m hk) (by rw [e1 z]; exact hr) (by rw [e1 z]; exact hk')
    · exact hQ0 τ (by rw [e1 z]; exact ok) (hf.m hk) (by rw [e1 z]; exact h4)
  have wd : ∀ k, k < 7 → ∀ w, 1107 ≤ w ∧ w < 1114 → stw w = stw (1100 + k) → ∀ Q : Int32 → xM → Prop, (spl bt (1100 + k) i (runE isLt bt n (n - i) i) → Q 1 σ) → (¬ spl bt (1100 + k) i (runE isLt bt n (n - i) i) → Q 0 σ) → xI1 166 [.ref 84, .ref w] σ Q := by
    intro k hk w hw ew Q q1 q0
    rw [← spl_same ew] at q1 q0
    exact MisWord h ht hi (by omega) q1 q0
  have h2 : ∀ k, k < 7 → spl bt (1100 + k) i (runE isLt bt n (n - i) i) → σ.1 84 2 = nI (runE isLt bt n (n - i) i) := fun k hk hs => tk_word ht hi (by omega) hs
  rw [e175]
  simp only [s175_0, s175_1, s175_3, xcx_i, xcx_r, xcx_n, xcx_l, xcx_0]
  refine wd 0 (by decide) 1107 (by decide) stw_same.1 _ (fun s0 => ?_) (fun n0 => ?_)
  · obtain ⟨a1, a2, a3⟩ := go 0 (by decide) s0
    simp only [s175_6, s175_9, s175_10, xcx_i, xcx_r, xcx_n, xcx_l, xcx_0, z1, if_false]
    refine MstoneLine h (h2 0 (by decide) s0) g2 hR hv (fun z => ?_) (fun τ z ok hf hr hk => ?_) (fun τ z ok hf h4 => ?_)
    · have hq := a1 z
      simp only [s175_13, xcx_i, xcx_r, xcx_n, xcx_l, xcx_0, true_or, or_true, true_and]
      exact hq
    · have hq := a2 τ z ok hf hr hk
      simp only [s175_13, xcx_i, xcx_r, xcx_n, xcx_l, xcx_0, true_or, or_true, true_and]
      exact hq
    · have hq := a3 τ z ok hf h4
      simp only [s175_13, xcx_i, xcx_r, xcx_n, xcx_l, xcx_0, true_or, or_true, true_and]
      exact hq
  simp only [s175_6, s175_9, s175_10, s175_13, s175_14, s175_15, s175_17, xcx_i, xcx_r, xcx_n, xcx_l, xcx_0, if_true]
  refine wd 1 (by decide) 1108 (by decide) stw_same.2.1 _ (fun s1 => ?_) (fun n1 => ?_)
  · obtain ⟨a1, a2, a3⟩ := go 1 (by decide) s1
    simp only [s175_20, s175_23, s175_24, xcx_i, xcx_r, xcx_n, xcx_l, xcx_0, z1, if_false]
    refine MropeLine h (h2 1 (by decide) s1) g2 hR hv (fun z => ?_) (fun τ z ok hf hr hk => ?_) (fun τ z ok hf h4 => ?_)
    · have hq := a1 z
      simp only [s175_27, xcx_i, xcx_r, xcx_n, xcx_l, xcx_0, true_or, or_true, true_and]
      exact hq
    · have hq := a2 τ z ok hf hr hk
      simp only [s175_27, xcx_i, xcx_r, xcx_n, xcx_l, xcx_0, true_or, or_true, true_and]
      exact hq
    · have hq := a3 τ z ok hf h4
      simp only [s175_27, xcx_i, xcx_r, xcx_n, xcx_l, xcx_0, true_or, or_true, true_and]
      exact hq
  simp only [s175_20, s175_23, s175_24, s175_27, s175_28, s175_29, s175_31, xcx_i, xcx_r, xcx_n, xcx_l, xcx_0, if_true]
  refine wd 2 (by decide) 1109 (by decide) stw_same.2.2.1 _ (fun s2 => ?_) (fun n2 => ?_)
  · obtain ⟨a1, a2, a3⟩ := go 2 (by decide) s2
    simp only [s175_34, s175_37, s175_38, xcx_i, xcx_r, xcx_n, xcx_l, xcx_0, z1, if_false]
    refine MdeepLine h (h2 2 (by decide) s2) g2 hR hv (fun z => ?_) (fun τ z ok hf hr hk => ?_) (fun τ z ok hf h4 => ?_)
    · have hq := a1 z
      simp only [s175_41, xcx_i, xcx_r, xcx_n, xcx_l, xcx_0, true_or, or_true, true_and]
      exact hq
    · have hq := a2 τ z ok hf hr hk
      simp only [s175_41, xcx_i, xcx_r, xcx_n, xcx_l, xcx_0, true_or, or_true, true_and]
      exact hq
    · have hq := a3 τ z ok hf h4
      simp only [s175_41, xcx_i, xcx_r, xcx_n, xcx_l, xcx_0, true_or, or_true, true_and]
      exact hq
  simp only [s175_34, s175_37, s175_38, s175_41, s175_42, s175_43, s175_45, xcx_i, xcx_r, xcx_n, xcx_l, xcx_0, if_true]
  refine wd 4 (by decide) 1110 (by decide) stw_same.2.2.2.1 _ (fun s4 => ?_) (fun n4 => ?_)
  · obtain ⟨a1, a2, a3⟩ := go 4 (by decide) s4
    simp only [s175_48, s175_51, s175_52, xcx_i, xcx_r, xcx_n, xcx_l, xcx_0, z1, if_false]
    refine MgangLine h (h2 4 (by decide) s4) g2 hR hv (fun z => ?_) (fun τ z ok hf hr hk => ?_) (fun τ z ok hf h4 => ?_)
    · have hq := a1 z
      simp only [s175_55, xcx_i, xcx_r, xcx_n, xcx_l, xcx_0, true_or, or_true, true_and]
      exact hq
    · have hq := a2 τ z ok hf hr hk
      simp only [s175_55, xcx_i, xcx_r, xcx_n, xcx_l, xcx_0, true_or, or_true, true_and]
      exact hq
    · have hq := a3 τ z ok hf h4
      simp only [s175_55, xcx_i, xcx_r, xcx_n, xcx_l, xcx_0, true_or, or_true, true_and]
      exact hq
  simp only [s175_48, s175_51, s175_52, s175_55, s175_56, s175_57, s175_59, xcx_i, xcx_r, xcx_n, xcx_l, xcx_0, if_true]
  refine wd 3 (by decide) 1111 (by decide) stw_same.2.2.2.2.1 _ (fun s3 => ?_) (fun n3 => ?_)
  · obtain ⟨a1, a2, a3⟩ := go 3 (by decide) s3
    simp only [s175_62, s175_65, s175_66, s175_67, s175_70, s175_72, xcx_i, xcx_r, xcx_n, xcx_l, xcx_0, z1, if_false]
    refine MonceLine (k := 3) (c := 90) (hi := 9) (by decide) (by decide) rfl rfl xcl_90 xln_90 (by decide) (by decide) (by decide) h (h2 3 (by decide) s3) g2 hR hv (fun z => ?_) (fun τ z ok hf hr hk => ?_) (fun τ z ok hf h4 => ?_)
    · have hq := a1 z
      simp only [s175_75, xcx_i, xcx_r, xcx_n, xcx_l, xcx_0, true_or, or_true, true_and]
      exact hq
    · have hq := a2 τ z ok hf hr hk
      simp only [s175_75, xcx_i, xcx_r, xcx_n, xcx_l, xcx_0, true_or, or_true, true_and]
      exact hq
    · have hq := a3 τ z ok hf h4
      simp only [s175_75, xcx_i, xcx_r, xcx_n, xcx_l, xcx_0, true_or, or_true, true_and]
      exact hq
  simp only [s175_62, s175_65, s175_66, s175_67, s175_70, s175_72, s175_75, s175_76, s175_77, s175_79, xcx_i, xcx_r, xcx_n, xcx_l, xcx_0, if_true]
  refine wd 6 (by decide) 1112 (by decide) stw_same.2.2.2.2.2.1 _ (fun s6 => ?_) (fun n6 => ?_)
  · obtain ⟨a1, a2, a3⟩ := go 6 (by decide) s6
    simp only [s175_82, s175_85, s175_86, s175_87, s175_90, s175_92, xcx_i, xcx_r, xcx_n, xcx_l, xcx_0, z1, if_false]
    refine MonceLine (k := 6) (c := 91) (hi := 99) (by decide) (by decide) rfl rfl xcl_91 xln_91 (by decide) (by decide) (by decide) h (h2 6 (by decide) s6) g2 hR hv (fun z => ?_) (fun τ z ok hf hr hk => ?_) (fun τ z ok hf h4 => ?_)
    · have hq := a1 z
      simp only [s175_95, xcx_i, xcx_r, xcx_n, xcx_l, xcx_0, true_or, or_true, true_and]
      exact hq
    · have hq := a2 τ z ok hf hr hk
      simp only [s175_95, xcx_i, xcx_r, xcx_n, xcx_l, xcx_0, true_or, or_true, true_and]
      exact hq
    · have hq := a3 τ z ok hf h4
      simp only [s175_95, xcx_i, xcx_r, xcx_n, xcx_l, xcx_0, true_or, or_true, true_and]
      exact hq
  simp only [s175_82, s175_85, s175_86, s175_87, s175_90, s175_92, s175_95, s175_96, s175_97, s175_99, xcx_i, xcx_r, xcx_n, xcx_l, xcx_0, if_true]
  refine wd 5 (by decide) 1113 (by decide) stw_same.2.2.2.2.2.2 _ (fun s5 => ?_) (fun n5 => ?_)
  · obtain ⟨a1, a2, a3⟩ := go 5 (by decide) s5
    simp only [s175_102, s175_105, s175_106, xcx_i, xcx_r, xcx_n, xcx_l, xcx_0, z1, if_false]
    refine MtugsLine h (h2 5 (by decide) s5) g2 hR hv (fun z => ?_) (fun τ z ok hf hr hk => ?_) (fun τ z ok hf h4 => ?_)
    · have hq := a1 z
      simp only [s175_109, s175_112, s175_113, s175_116, s175_117, xcx_i, xcx_r, xcx_n, xcx_l, xcx_0, z1, if_true, if_false, true_or, or_true, true_and]
      exact hq
    · have hq := a2 τ z ok hf hr hk
      simp only [s175_109, s175_112, s175_113, s175_116, s175_117, xcx_i, xcx_r, xcx_n, xcx_l, xcx_0, z1, if_true, if_false, true_or, or_true, true_and]
      exact hq
    · have hq := a3 τ z ok hf h4
      simp only [s175_109, s175_112, s175_113, s175_116, s175_117, xcx_i, xcx_r, xcx_n, xcx_l, xcx_0, z1, if_true, if_false, true_or, or_true, true_and]
      exact hq
  simp only [s175_102, s175_105, s175_106, s175_109, s175_112, s175_113, s175_116, s175_117, xcx_i, xcx_r, xcx_n, xcx_l, xcx_0, if_true, true_or, or_true, true_and]
  have e := rowR_no (bt := bt) (n := n) (i := i) (N := N) (T := T) (fun k hk hs => by
    have : k = 0 ∨ k = 1 ∨ k = 2 ∨ k = 3 ∨ k = 4 ∨ k = 5 ∨ k = 6 := by omega
    rcases this with rfl | rfl | rfl | rfl | rfl | rfl | rfl
    · exact n0 hs
    · exact n1 hs
    · exact n2 hs
    · exact n3 hs
    · exact n4 hs
    · exact n5 hs
    · exact n6 hs)
  exact hQ0 σ (by rw [e]; intro y; cases y) (frM.rf σ) (by rw [e]; exact ht.1)
