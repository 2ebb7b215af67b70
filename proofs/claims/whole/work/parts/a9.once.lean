/-! the reference's lines: tugs, and what is told once -/
theorem MtugsLine {σ : xM} {n j : Nat} {bt N T : Nat → Nat} {Q : Int32 → xM → Prop} (h : txR σ n bt) (h2 : σ.1 84 2 = nI j) (hj : j ≤ n) (hR : rD σ N T) (hv : vNT N T) (hQf : ¬ T 5 < mxT 5 → Q 0 σ) (hQ1 : ∀ τ, T 5 < mxT 5 → (lnR bt n 5 N T j).1 = true → frK 5 σ τ → rD τ (lnR bt n 5 N T j).2.1 (lnR bt n 5 N T j).2.2.1 → tkR bt n (runE isBl bt n (n - (lnR bt n 5 N T j).2.2.2) (lnR bt n 5 N T j).2.2.2) τ → Q 1 τ) (hQ0 : ∀ τ, T 5 < mxT 5 → ¬ (lnR bt n 5 N T j).1 = true → frK 5 σ τ → τ.1 84 4 = nI (lnR bt n 5 N T j).2.2.2 → Q 0 τ) : xI1 174 [.ref 84] σ Q := by
  have hn := h.1
  have hP : (T 5 = 0 ∧ σ.1 84 14 = -1) ∨ (T 5 = 1 ∧ σ.1 84 14 = nI (N 50)) := hR 5 (by decide)
  rw [e174]
  rcases hP with ⟨hT, hc⟩ | ⟨hT, hc⟩
  · have cT : T 5 < mxT 5 := by rw [hT]; decide
    have i0 : ptA 5 + T 5 * ptN 5 + 0 = 50 := by rw [hT]; rfl
    rw [show lnR bt n 5 N T j = endR bt n 5 T (fR bt n 5 T 1 0 N j) from rfl] at hQ1 hQ0
    simp only [s174_0, s174_1, s174_4, s174_5, s174_8, s174_9, s174_10, s174_11, xcx_i, xcx_r, xcx_n, xcx_l, xcx_0, hc, if_true]
    refine Mleads h hj h2 (fun τ1 m1 t1 => ?_)
    have f1 := (frK.rf 5 σ).lx m1.to5
    have x1 := frK.txt (by decide) h f1
    obtain ⟨u1, u2, -, -⟩ := runE_bd (P := isBl) (bt := bt) (n := n) (n - j) j (by omega)
    have eF0 : mayB 5 0 (nuA bt n (runE isBl bt n (n - j) j)) N T = true → fR bt n 5 T 1 0 N j = fR bt n 5 T 0 1 (upN N (ptA 5 + T 5 * ptN 5 + 0) (nuA bt n (runE isBl bt n (n - j) j)).toNat) (runE isDg bt n (n - runE isBl bt n (n - j) j) (runE isBl bt n (n - j) j)) := fun z => if_pos z
    have eG0 : ¬ mayB 5 0 (nuA bt n (runE isBl bt n (n - j) j)) N T = true → fR bt n 5 T 1 0 N j = (false, N, runE isBl bt n (n - j) j) := fun z => if_neg z
    generalize runE isBl bt n (n - j) j = q0 at u1 u2 t1 eF0 eG0
    obtain ⟨w1, w2, -, -⟩ := runE_bd (P := isDg) (bt := bt) (n := n) (n - q0) q0 (by omega)
    simp only [s174_14, s174_15, s174_16, s174_18, xcx_i, xcx_r, xcx_n, xcx_l, xcx_0]
    refine Mfld (k := 5) (f := 0) (lo := 0) (hi := 6) (N := N) (T := T) x1 t1 u2 (by decide) (by decide) ?_ (fun τ2 m2 l2 e2 d2 t2 => ?_) (fun m2 => ?_)
    · apply propext
      constructor
      · intro z; exact z.1
      · intro z; exact ⟨z, fun y => absurd y (by omega), fun y => absurd y (by omega)⟩
    · rw [eF0 m2, i0] at hQ1 hQ0
      generalize (nuA bt n q0).toNat = v0 at e2 d2 hQ1 hQ0
      generalize runE isDg bt n (n - q0) q0 = p0 at w1 w2 t2 hQ1 hQ0
      have f3 : frK 5 σ (xe_si τ2 84 14 (nI v0)) := (f1.lx l2).slot
      have x3 := frK.txt (by decide) h f3
      have t3 := t2.si (c := 84) (j := 14) (v := nI v0) (by omega)
      simp only [s174_21, s174_24, s174_25, s174_26, s174_27, s174_28, s174_31, s174_34, s174_35, xcx_i, xcx_r, xcx_n, xcx_l, xcx_0, show ((1 : Int32) = 0) = False from eq_false (by decide), not_false_eq_true, if_true, e2]
      refine MlineEnd (k := 5) (i := p0) (N := N) (N' := upN N 50 v0) (T := T) (by decide) f3 x3 t3 w2 hR (fun x hx => ?_) cT hv.1 (Or.inr ⟨show upN T 5 (T 5 + 1) 5 = 1 by rw [hT]; rfl, (si_rd ..).trans ((if_pos ⟨rfl, rfl⟩).trans (congrArg nI (show v0 = upN N 50 v0 50 from (if_pos rfl).symm)))⟩) (fun τ' ok hf hr ht => ?_) (fun τ' ok hf h4 => ?_)
      · rw [hT, show ptA 5 = 50 from rfl, show ptN 5 = 1 from rfl] at hx
        unfold upN
        rw [if_neg (by omega)]
      · have hq := hQ1 τ' cT ok hf hr ht
        simp only [s174_38, xcx_i, xcx_r, xcx_n, xcx_l, xcx_0, true_or, or_true, true_and]
        exact hq
      · have hq := hQ0 τ' cT ok hf h4
        simp only [s174_38, xcx_i, xcx_r, xcx_n, xcx_l, xcx_0, true_or, or_true, true_and]
        exact hq
    · rw [eG0 m2] at hQ1 hQ0
      have hq := hQ0 τ1 cT (fun z => by cases z) f1 t1.1
      simp only [s174_21, s174_24, s174_25, xcx_i, xcx_r, xcx_n, xcx_l, xcx_0, not_true, if_false, true_or, or_true, true_and]
      exact hq
  · have hb : N 50 ≤ 6 := by
      have := (hv.2.1 5 0 0 (by decide) (by decide) (by omega)).2
      exact this
    have eT : (nI (N 50) = -1) = False := eq_false (fun q => by
      have : (nI (N 50)).toInt = (-1 : Int32).toInt := by rw [q]
      rw [nI_iI, iI_ti (by omega) (by omega)] at this
      have e2 : (-1 : Int32).toInt = -1 := rfl
      omega)
    have hq := hQf (by rw [hT]; decide)
    simp only [s174_0, s174_1, s174_4, s174_5, s174_8, s174_9, xcx_i, xcx_r, xcx_n, xcx_l, xcx_0, hc, eT, if_false, true_or, or_true, true_and]
    exact hq
theorem MonceLine {σ : xM} {n j k c hi : Nat} {bt N T : Nat → Nat} {Q : Int32 → xM → Prop} (hk : k < 7) (h36 : k = 3 ∨ k = 6) (hcc : cC k = c) (hmx : mxT k = 1) (cls : xe_cls c = 100) (len : xt_len.getD c 0 = ptN k) (hpn : ptN k ≤ 6) (hl : ∀ f, f < ptN k → lmL k f = 0 ∧ lmH k f = hi) (hhi : hi ≤ 99) (h : txR σ n bt) (h2 : σ.1 84 2 = nI j) (hj : j ≤ n) (hR : rD σ N T) (hv : vNT N T) (hQf : ¬ T k < mxT k → Q 0 σ) (hQ1 : ∀ τ, T k < mxT k → (lnR bt n k N T j).1 = true → frK k σ τ → rD τ (lnR bt n k N T j).2.1 (lnR bt n k N T j).2.2.1 → tkR bt n (runE isBl bt n (n - (lnR bt n k N T j).2.2.2) (lnR bt n k N T j).2.2.2) τ → Q 1 τ) (hQ0 : ∀ τ, T k < mxT k → ¬ (lnR bt n k N T j).1 = true → frK k σ τ → τ.1 84 4 = nI (lnR bt n k N T j).2.2.2 → Q 0 τ) : xI1 173 [.ref 84, .ref c, .int (nI hi)] σ Q := by
  have hn := h.1
  have hpe := pt_end k hk
  have c84 : c ≠ 84 := by have := c_in k hk; omega
  have hP : (T k = 0 ∧ σ.1 (cC k) 0 = -1) ∨ (T k = 1 ∧ rrw σ (cC k) (ptA k) (ptN k) N) := by
    have := hR k hk
    unfold rP at this
    rw [if_pos h36] at this
    exact this
  rw [hcc] at hP
  have ec0 : σ.1 c ((0 : Int32).toNatClampNeg) = σ.1 c 0 := rfl
  have ec1 : ((0 : Int32) ≤ 0 ∧ (0 : Int32).toNatClampNeg < ptN k) = True := eq_true ⟨by decide, hpe.2.1⟩
  rw [e173]
  rcases hP with ⟨hT, hc⟩ | ⟨hT, hc⟩
  · have cT : T k < mxT k := by rw [hT, hmx]; decide
    have loop : ∀ m f N' i τ l, f + m = ptN k → i ≤ n → frK k σ τ → tkR bt n (runE isBl bt n (n - i) i) τ → rrw τ c (ptA k) f N' → (∀ x, ¬ (ptA k ≤ x ∧ x < ptA k + ptN k) → N' x = N x) → (∀ τ', (endR bt n k T (fR bt n k T m f N' i)).1 = true → frK k σ τ' → rD τ' (endR bt n k T (fR bt n k T m f N' i)).2.1 (endR bt n k T (fR bt n k T m f N' i)).2.2.1 → tkR bt n (runE isBl bt n (n - (endR bt n k T (fR bt n k T m f N' i)).2.2.2) (endR bt n k T (fR bt n k T m f N' i)).2.2.2) τ' → Q 1 τ') → (∀ τ', ¬ (endR bt n k T (fR bt n k T m f N' i)).1 = true → frK k σ τ' → τ'.1 84 4 = nI (endR bt n k T (fR bt n k T m f N' i)).2.2.2 → Q 0 τ') → l = nI f → xC 173 15 [some (.ref 84), some (.ref c), some (.int (nI hi)), some (.int l)] [] τ (xqI Q) := by
      intro m
      induction m with
      | zero =>
        intro f N' i τ l hf hi hr ht hw hN hQ1 hQ0 hl0
        subst hl0
        obtain rfl : f = ptN k := by omega
        have el : (Int32.ofNat (ptN k) ≤ nI (ptN k)) = True := eq_true (Int32.le_refl _)
        rw [s173_15]
        simp only [s173_16, s173_17, s173_17_l, s173_17_q, s173_18, s173_21, s173_22, s173_23, s173_24, s173_27, s173_30, s173_31, s173_32, s173_33, s173_34, s173_35, s173_38, s173_39, s173_42, s173_45, s173_46, xcx_i, xcx_r, xcx_n, xcx_l, xcx_0, cls, len, el, if_true]
        refine MlineEnd (k := k) (i := i) (N := N) (N' := N') (T := T) hk hr (frK.txt hk h hr) ht hi hR (fun x hx => hN x (fun z => hx (by rw [hT, Nat.zero_mul]; omega))) cT hv.1 ?_ (fun τ' ok hf hr ht => ?_) (fun τ' ok hf h4 => ?_)
        · unfold rP
          rw [if_pos h36, hcc]
          exact Or.inr ⟨show upN T k (T k + 1) k = 1 by rw [hT]; exact if_pos rfl, hw⟩
        · have hq := hQ1 τ' ok hf hr ht
          simp only [s173_49, xcx_i, xcx_r, xcx_n, xcx_l, xcx_0, true_or, or_true, true_and]
          exact hq
        · have hq := hQ0 τ' ok hf h4
          simp only [s173_49, xcx_i, xcx_r, xcx_n, xcx_l, xcx_0, true_or, or_true, true_and]
          exact hq
      | succ m ih =>
        intro f N' i τ l hf hi0 hr ht hw hN hQ1 hQ0 hl0
        subst hl0
        have el : (Int32.ofNat (ptN k) ≤ nI f) = False := lt4N (n := ptN k) (i := f) (by omega) (by omega)
        obtain ⟨u1, u2, -, -⟩ := runE_bd (P := isBl) (bt := bt) (n := n) (n - i) i (by omega)
        have eF0 : mayB k f (nuA bt n (runE isBl bt n (n - i) i)) N' T = true → fR bt n k T (m + 1) f N' i = fR bt n k T m (f + 1) (upN N' (ptA k + T k * ptN k + f) (nuA bt n (runE isBl bt n (n - i) i)).toNat) (runE isDg bt n (n - runE isBl bt n (n - i) i) (runE isBl bt n (n - i) i)) := fun z => if_pos z
        have eG0 : ¬ mayB k f (nuA bt n (runE isBl bt n (n - i) i)) N' T = true → fR bt n k T (m + 1) f N' i = (false, N', runE isBl bt n (n - i) i) := fun z => if_neg z
        generalize runE isBl bt n (n - i) i = q0 at u1 u2 ht eF0 eG0
        obtain ⟨w1, w2, -, -⟩ := runE_bd (P := isDg) (bt := bt) (n := n) (n - q0) q0 (by omega)
        obtain ⟨l1, l2⟩ := hl f (by omega)
        rw [s173_15]
        simp only [s173_16, s173_17, s173_17_l, s173_17_q, s173_18, s173_21, s173_22, s173_23, s173_24, xcx_i, xcx_r, xcx_n, xcx_l, xcx_0, cls, len, el, if_false]
        refine Mfld (k := k) (f := f) (lo := 0) (hi := hi) (N := N') (T := T) (frK.txt hk h hr) ht u2 (by decide) (by omega) ?_ (fun τ2 m2 l2 e2 d2 t2 => ?_) (fun m2 => ?_)
        · apply propext
          unfold mayP
          rw [l1, l2]
          constructor
          · intro z; exact z.1
          · intro z; exact ⟨z, fun y => absurd y (by omega), fun y => absurd y (by omega)⟩
        · rw [eF0 m2, show ptA k + T k * ptN k + f = ptA k + f by rw [hT, Nat.zero_mul, Nat.add_zero]] at hQ1 hQ0
          generalize (nuA bt n q0).toNat = v0 at e2 d2 hQ1 hQ0
          generalize runE isDg bt n (n - q0) q0 = p0 at w1 w2 t2 hQ1 hQ0
          have b0 : f < 100000 := by omega
          have c0 : f < ptN k := by omega
          have f3 : frK k σ (xe_si τ2 c f (nI v0)) := by
            have := (hr.lx l2).row (j := f) (v := nI v0)
            rw [hcc] at this
            exact this
          have next := ih (f + 1) (upN N' (ptA k + f) v0) p0 (xe_si τ2 c f (nI v0)) _ (by omega) w2 f3 (t2.si (fun z => c84 z.1)) ((hw.lx c84 l2).put) (fun x hx => by
            unfold upN
            rw [if_neg (by omega)]
            exact hN x hx) hQ1 hQ0 rfl
          simp only [s173_27, s173_30, s173_31, s173_32, s173_33, s173_34, s173_35, s173_38, s173_39, s173_42, xcx_i, xcx_r, xcx_n, xcx_l, xcx_0, show ((1 : Int32) = 0) = False from eq_false (by decide), not_false_eq_true, if_true, e2, nI_1, cls, len, b0, c0, cl_s, pos_s, true_and]
          exact next
        · rw [eG0 m2] at hQ1 hQ0
          have hq := hQ0 τ (fun z => by cases z) hr ht.1
          simp only [s173_27, s173_30, s173_31, xcx_i, xcx_r, xcx_n, xcx_l, xcx_0, not_true, if_false, true_or, or_true, true_and]
          exact hq
    simp only [s173_0, s173_1, s173_2, s173_3, s173_4, s173_7, s173_8, s173_9, s173_10, s173_13, s173_14, xcx_i, xcx_r, xcx_n, xcx_l, xcx_0, cls, len, ec1, ec0, hc, if_true, true_and]
    refine Mleads h hj h2 (fun τ1 m1 t1 => ?_)
    have f1 := (frK.rf k σ).lx m1.to5
    exact loop (ptN k) 0 N j τ1 0 (by omega) hj f1 t1 (fun x hx => absurd hx (Nat.not_lt_zero x)) (fun x _ => rfl) (fun τ' => hQ1 τ' cT) (fun τ' => hQ0 τ' cT) rfl
  · have hv0 := hv.2.1 k 0 0 hk hpe.2.1 (by omega)
    rw [(hl 0 hpe.2.1).2, Nat.zero_mul, Nat.add_zero] at hv0
    have e0 := hc 0 hpe.2.1
    rw [Nat.add_zero] at e0
    have eT : (nI (N (ptA k)) = -1) = False := eq_false (fun q => by
      have : (nI (N (ptA k))).toInt = (-1 : Int32).toInt := by rw [q]
      rw [nI_iI, iI_ti (by omega) (by omega)] at this
      have e2 : (-1 : Int32).toInt = -1 := rfl
      omega)
    have hq := hQf (by rw [hT, hmx]; decide)
    simp only [s173_0, s173_1, s173_2, s173_3, s173_4, s173_7, s173_8, xcx_i, xcx_r, xcx_n, xcx_l, xcx_0, cls, len, ec1, ec0, e0, eT, if_false, true_or, or_true, true_and]
    exact hq
