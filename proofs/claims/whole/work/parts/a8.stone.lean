/-! the reference's lines: stone -/
theorem MstoneLoop {τ : xM} {n b : Nat} {bt N T : Nat → Nat} {Q : Int32 → xM → Prop} (h : txR τ n bt) (ht : tkR bt n b τ) (hb : b ≤ n) (hn : n ≤ 500) (hc : τ.1 84 6 = nI (T 0)) (hr : rrw τ 86 0 (2 * T 0) N) (h8 : T 0 ≤ 8) (hv : ∀ x, x < T 0 → N (2 * x) ≤ 199) : ∀ m i, i + m = T 0 → (∀ x, x < i → ¬ (N (2 * x) : Int) = nuA bt n b) → ((∃ x, x < T 0 ∧ (N (2 * x) : Int) = nuA bt n b) → Q 0 τ) → ((∀ x, x < T 0 → ¬ (N (2 * x) : Int) = nuA bt n b) → xC 169 58 [some (.ref 84), some (.int (nI (T 0)))] [] τ (xqI Q)) → xC 169 17 [some (.ref 84), some (.int (nI i))] [] τ (xqI Q) := by
  have hkind : (τ.1 84 3 = 2 ∧ ∃ dv, τ.2.1 84 5 = lN dv ∧ nuR (nuA bt n b) dv) ∨ (¬ τ.1 84 3 = 2 ∧ nuA bt n b = -1) := by
    obtain ⟨-, ⟨c, k3, k2⟩ | ⟨c, cl, k3, k2, k5⟩ | ⟨c, cd, k3, k2, k5⟩ | ⟨c, cl, cd, k3, k2⟩⟩ := ht
    · exact Or.inr ⟨by rw [k3]; decide, (nuA_no hb (Or.inr c)).1⟩
    · refine Or.inr ⟨by rw [k3]; decide, (nuA_no hb (Or.inl ?_)).1⟩
      cases hz : isDg (bt b) with
      | false => rfl
      | true => rw [isDg_iff] at hz; rw [isLt_iff] at cl; omega
    · exact Or.inl ⟨k3, _, k5, nuA_dg c cd⟩
    · refine Or.inr ⟨fun q => ?_, (nuA_no hb (Or.inl cd)).1⟩
      rw [k3] at q
      by_cases z : bt b = 59
      · rw [if_pos z] at q; exact absurd q (by decide)
      · rw [if_neg z] at q; exact absurd q (by decide)
  intro m
  induction m with
  | zero =>
    intro i hi hd hQ0 hQ1
    obtain rfl : i = T 0 := by omega
    rw [s169_17]
    simp only [s169_18, s169_19, s169_22, xcx_i, xcx_r, xcx_n, xcx_l, xcx_0, hc, Int32.le_refl, if_true]
    exact hQ1 hd
  | succ m ih =>
    intro i hi hd hQ0 hQ1
    have e := lt4N (n := T 0) (i := i) (by omega) (by omega)
    have b0 : 2 * i < 100000 := by omega
    have c0 : 2 * i < 16 := by omega
    have er := hr (2 * i) (by omega)
    rw [Nat.zero_add] at er
    have h199 := hv i (by omega)
    have el : (nI (N (2 * i))).toInt64 = lN (N (2 * i)) := i2l_nI (by omega)
    rw [s169_17]
    rcases hkind with ⟨k3, dv, k5, hnu⟩ | ⟨k3, hno⟩
    · have hdv : dv ≤ 99999 := by rcases hnu with ⟨-, q⟩ | ⟨-, -, q⟩ <;> omega
      have ec : (lg_cmp (lN (N (2 * i))) (lN dv) = 0) = (N (2 * i) = dv) := by
        apply propext
        rw [lg_cmp_eq]
        exact ⟨fun q => lN_inj (by omega) (by omega) q, fun q => by rw [q]⟩
      by_cases c : N (2 * i) = dv
      · have c' : (N (2 * i) = dv) = True := eq_true c
        have hq := hQ0 ⟨i, by omega, by rcases hnu with ⟨q, -⟩ | ⟨q, q2, -⟩ <;> omega⟩
        simp only [s169_18, s169_19, s169_22, s169_25, s169_26, s169_29, s169_30, s169_33, s169_34, s169_37, s169_38, s169_39, s169_40, s169_41, s169_42, s169_43, s169_46, s169_47, s169_50, s169_51, xcx_i, xcx_r, xcx_n, xcx_l, xcx_0, hc, e, if_false, k3, not_true, ml_2, xcl_86, xln_86, b0, c0, cl_s, pos_s, er, el, k5, ec, c', true_or, or_true, true_and]
        exact hq
      · have c' : (N (2 * i) = dv) = False := eq_false c
        have next := ih (i + 1) (by omega) (fun x hx => by
          rcases Nat.lt_or_eq_of_le (Nat.le_of_lt_succ hx) with z | z
          · exact hd x z
          · subst z; rcases hnu with ⟨q, -⟩ | ⟨q, q2, -⟩ <;> omega) hQ0 hQ1
        simp only [s169_18, s169_19, s169_22, s169_25, s169_26, s169_29, s169_30, s169_33, s169_34, s169_37, s169_38, s169_39, s169_40, s169_41, s169_42, s169_43, s169_46, s169_47, s169_50, s169_51, s169_52, s169_55, xcx_i, xcx_r, xcx_n, xcx_l, xcx_0, hc, e, if_false, k3, not_true, ml_2, xcl_86, xln_86, b0, c0, cl_s, pos_s, er, el, k5, ec, c', not_false_eq_true, if_true, nI_1, true_or, or_true, true_and]
        exact next
    · have next := ih (i + 1) (by omega) (fun x hx => by omega) hQ0 hQ1
      simp only [s169_18, s169_19, s169_22, s169_25, s169_26, s169_29, s169_30, s169_33, s169_34, s169_37, s169_38, s169_39, s169_40, s169_41, s169_42, s169_43, s169_46, s169_47, s169_50, s169_51, s169_52, s169_55, xcx_i, xcx_r, xcx_n, xcx_l, xcx_0, hc, e, if_false, k3, not_false_eq_true, if_true, nI_1, true_or, or_true, true_and]
      exact next
theorem MstoneLine {σ : xM} {n j : Nat} {bt N T : Nat → Nat} {Q : Int32 → xM → Prop} (h : txR σ n bt) (h2 : σ.1 84 2 = nI j) (hj : j ≤ n) (hR : rD σ N T) (hv : vNT N T) (hQf : ¬ T 0 < mxT 0 → Q 0 σ) (hQ1 : ∀ τ, T 0 < mxT 0 → (lnR bt n 0 N T j).1 = true → frK 0 σ τ → rD τ (lnR bt n 0 N T j).2.1 (lnR bt n 0 N T j).2.2.1 → tkR bt n (runE isBl bt n (n - (lnR bt n 0 N T j).2.2.2) (lnR bt n 0 N T j).2.2.2) τ → Q 1 τ) (hQ0 : ∀ τ, T 0 < mxT 0 → ¬ (lnR bt n 0 N T j).1 = true → frK 0 σ τ → τ.1 84 4 = nI (lnR bt n 0 N T j).2.2.2 → Q 0 τ) : xI1 169 [.ref 84] σ Q := by
  have hn := h.1
  have hP : σ.1 84 6 = nI (T 0) ∧ rrw σ 86 0 (T 0 * 2) N := hR 0 (by decide)
  obtain ⟨hc, r0⟩ := hP
  rw [Nat.mul_comm] at r0
  have hTs := hv.1
  have hm0 : T 0 ≤ 8 := hTs 0 (by decide)
  rw [e169]
  by_cases cT : T 0 < 8
  · have eT : (nI (T 0) = 8) = False := eq_false (fun q => by
      have := (nI_eq (b := 8) (by omega) (by decide)).mp q
      omega)
    have b0 : 2 * T 0 < 100000 := by omega
    have c0 : 2 * T 0 < 16 := by omega
    have i0 : ptA 0 + T 0 * ptN 0 + 0 = 0 + (2 * T 0) := by
      rw [show ptA 0 = 0 from rfl, show ptN 0 = 2 from rfl, Nat.mul_comm]; omega
    have b1 : 2 * T 0 + 1 < 100000 := by omega
    have c1 : 2 * T 0 + 1 < 16 := by omega
    have i1 : ptA 0 + T 0 * ptN 0 + 1 = 0 + (2 * T 0 + 1) := by
      rw [show ptA 0 = 0 from rfl, show ptN 0 = 2 from rfl, Nat.mul_comm]; omega
    rw [show lnR bt n 0 N T j = endR bt n 0 T (fR bt n 0 T 2 0 N j) from rfl] at hQ1 hQ0
    simp only [s169_0, s169_1, s169_4, s169_6, s169_9, s169_10, s169_11, s169_12, s169_15, s169_16, xcx_i, xcx_r, xcx_n, xcx_l, xcx_0, hc, eT, not_false_eq_true, if_true]
    refine Mleads h hj h2 (fun τ1 m1 t1 => ?_)
    have k1 : τ1.1 84 6 = nI (T 0) := (m1.1 84 6 (by omega)).trans hc
    have r1 := r0.lx (by decide) m1.to5
    have f1 := (frK.rf 0 σ).lx m1.to5
    have x1 := frK.txt (by decide) h f1
    have g0 : j ≤ n := hj
    obtain ⟨u1, u2, -, -⟩ := runE_bd (P := isBl) (bt := bt) (n := n) (n - j) j (by omega)
    have eF0 : mayB 0 0 (nuA bt n (runE isBl bt n (n - j) j)) N T = true → fR bt n 0 T 2 0 N j = fR bt n 0 T 1 1 (upN N (ptA 0 + T 0 * ptN 0 + 0) (nuA bt n (runE isBl bt n (n - j) j)).toNat) (runE isDg bt n (n - (runE isBl bt n (n - j) j)) (runE isBl bt n (n - j) j)) := fun z => if_pos z
    have eG0 : ¬ mayB 0 0 (nuA bt n (runE isBl bt n (n - j) j)) N T = true → fR bt n 0 T 2 0 N j = (false, N, (runE isBl bt n (n - j) j)) := fun z => if_neg z
    generalize runE isBl bt n (n - j) j = q0 at u1 u2 t1 eF0 eG0
    obtain ⟨w1, w2, -, -⟩ := runE_bd (P := isDg) (bt := bt) (n := n) (n - q0) q0 (by omega)
    have hv0 : ∀ x, x < T 0 → N (2 * x) ≤ 199 := fun x hx => by
      have := (hv.2.1 0 0 x (by decide) (by decide) hx).2
      rw [show ptA 0 + x * ptN 0 + 0 = 2 * x from (by rw [show ptA 0 = 0 from rfl, show ptN 0 = 2 from rfl]; omega)] at this
      exact this
    refine MstoneLoop x1 t1 u2 hn k1 r1 hm0 hv0 (T 0) 0 (by omega) (fun x hx => absurd hx (Nat.not_lt_zero x)) (fun hx => ?_) (fun hx => ?_)
    · have mB : ¬ mayB 0 0 (nuA bt n q0) N T = true := by
        rw [mayB_iff]
        intro z
        obtain ⟨x, h1, h2⟩ := hx
        exact z.2.1 ⟨rfl, rfl⟩ x h1 h2
      rw [eG0 mB] at hQ1 hQ0
      exact hQ0 τ1 cT (fun z => by cases z) f1 t1.1
    simp only [s169_58, s169_59, s169_60, s169_63, xcx_i, xcx_r, xcx_n, xcx_l, xcx_0]
    refine Mfld (k := 0) (f := 0) (lo := 0) (hi := 199) (N := N) (T := T) x1 t1 u2 (by decide) (by decide) ?_ (fun τ2 m2 l2 e2 d2 t2 => ?_) (fun m2 => ?_)
    · apply propext
      constructor
      · intro z; exact z.1
      · intro z; exact ⟨z, fun _ => hx, fun y => absurd y (by omega)⟩
    · rw [eF0 m2, i0] at hQ1 hQ0
      generalize (nuA bt n q0).toNat = v0 at e2 d2 hQ1 hQ0
      generalize runE isDg bt n (n - q0) q0 = p0 at w1 w2 t2 hQ1 hQ0
      have k2 : τ2.1 84 6 = nI (T 0) := (l2.1 84 6 (by omega)).trans k1
      have r3 := ((r1.lx (by decide) l2).put (v := v0))
      have f3 : frK 0 σ (xe_si τ2 86 (2 * T 0) (nI v0)) := (f1.lx l2).row
      have x3 := frK.txt (by decide) h f3
      have t3 := t2.si (c := 86) (j := (2 * T 0)) (v := nI v0) (by omega)
      have k3 : (xe_si τ2 86 (2 * T 0) (nI v0)).1 84 6 = nI (T 0) := (si_rd ..).trans ((if_neg (by omega)).trans k2)
      simp only [s169_66, s169_69, s169_70, s169_71, s169_72, s169_75, s169_76, s169_77, s169_80, s169_81, s169_82, s169_85, s169_86, s169_87, s169_88, s169_91, xcx_i, xcx_r, xcx_n, xcx_l, xcx_0, show ((1 : Int32) = 0) = False from eq_false (by decide), not_false_eq_true, if_true, e2, k2, k3, ml_2, nI_add, nI_1, xcl_86, xln_86, b0, c0, cl_s, pos_s, true_and]
      obtain ⟨u3, u4, -, -⟩ := runE_bd (P := isBl) (bt := bt) (n := n) (n - p0) p0 (by omega)
      have eF1 : mayB 0 1 (nuA bt n (runE isBl bt n (n - p0) p0)) (upN N (0 + (2 * T 0)) v0) T = true → fR bt n 0 T 1 1 (upN N (0 + (2 * T 0)) v0) p0 = fR bt n 0 T 0 2 (upN (upN N (0 + (2 * T 0)) v0) (ptA 0 + T 0 * ptN 0 + 1) (nuA bt n (runE isBl bt n (n - p0) p0)).toNat) (runE isDg bt n (n - (runE isBl bt n (n - p0) p0)) (runE isBl bt n (n - p0) p0)) := fun z => if_pos z
      have eG1 : ¬ mayB 0 1 (nuA bt n (runE isBl bt n (n - p0) p0)) (upN N (0 + (2 * T 0)) v0) T = true → fR bt n 0 T 1 1 (upN N (0 + (2 * T 0)) v0) p0 = (false, (upN N (0 + (2 * T 0)) v0), (runE isBl bt n (n - p0) p0)) := fun z => if_neg z
      generalize runE isBl bt n (n - p0) p0 = q1 at u3 u4 t3 eF1 eG1
      obtain ⟨w3, w4, -, -⟩ := runE_bd (P := isDg) (bt := bt) (n := n) (n - q1) q1 (by omega)
      refine Mfld (k := 0) (f := 1) (lo := 1) (hi := 999) (N := (upN N (0 + (2 * T 0)) v0)) (T := T) x3 t3 u4 (by decide) (by decide) ?_ (fun τ4 m4 l4 e4 d4 t4 => ?_) (fun m4 => ?_)
      · apply propext
        constructor
        · intro z; exact z.1
        · intro z; exact ⟨z, fun y => absurd y (by omega), fun y => absurd y (by omega)⟩
      · rw [eF1 m4, i1] at hQ1 hQ0
        generalize (nuA bt n q1).toNat = v1 at e4 d4 hQ1 hQ0
        generalize runE isDg bt n (n - q1) q1 = p1 at w3 w4 t4 hQ1 hQ0
        have k4 : τ4.1 84 6 = nI (T 0) := (l4.1 84 6 (by omega)).trans k3
        have r5 := ((r3.lx (by decide) l4).put (v := v1))
        have f5 : frK 0 σ (xe_si τ4 86 (2 * T 0 + 1) (nI v1)) := (f3.lx l4).row
        have x5 := frK.txt (by decide) h f5
        have t5 := t4.si (c := 86) (j := (2 * T 0 + 1)) (v := nI v1) (by omega)
        have k5 : (xe_si τ4 86 (2 * T 0 + 1) (nI v1)).1 84 6 = nI (T 0) := (si_rd ..).trans ((if_neg (by omega)).trans k4)
        have f6 : frK 0 σ (xe_si (xe_si τ4 86 (2 * T 0 + 1) (nI v1)) 84 6 (nI (T 0 + 1))) := f5.slot
        have x6 := frK.txt (by decide) h f6
        have t6 := t5.si (c := 84) (j := 6) (v := nI (T 0 + 1)) (by omega)
        have r6 := r5.ne (c' := 84) (j := 6) (v := nI (T 0 + 1)) (by decide)
        simp only [s169_94, s169_97, s169_98, s169_99, s169_100, s169_103, s169_104, s169_105, s169_108, s169_109, s169_110, s169_111, s169_112, s169_115, s169_116, s169_117, s169_118, s169_121, s169_122, s169_123, s169_126, s169_127, xcx_i, xcx_r, xcx_n, xcx_l, xcx_0, show ((1 : Int32) = 0) = False from eq_false (by decide), not_false_eq_true, if_true, e4, k4, k5, ml_2, nI_1, xcl_86, xln_86, b1, c1, cl_s, pos_s, true_and]
        refine MlineEnd (k := 0) (i := p1) (N := N) (N' := (upN (upN N (0 + (2 * T 0)) v0) (0 + (2 * T 0 + 1)) v1)) (T := T) (by decide) f6 x6 t6 w4 hR (fun x hx => ?_) cT hTs ⟨(si_rd ..).trans (if_pos ⟨rfl, rfl⟩), ?_⟩ (fun τ' ok hf hr ht => ?_) (fun τ' ok hf h4 => ?_)
        · rw [show ptA 0 = 0 from rfl, show ptN 0 = 2 from rfl, Nat.mul_comm] at hx
          unfold upN
          rw [if_neg (by omega), if_neg (by omega)]
        · rw [show upN T 0 (T 0 + 1) 0 * ptN 0 = 2 * T 0 + 1 + 1 from (Nat.mul_comm _ _).trans (by show 2 * (T 0 + 1) = _; omega)]
          exact r6
        · have hq := hQ1 τ' cT ok hf hr ht
          simp only [s169_130, xcx_i, xcx_r, xcx_n, xcx_l, xcx_0, true_or, or_true, true_and]
          exact hq
        · have hq := hQ0 τ' cT ok hf h4
          simp only [s169_130, xcx_i, xcx_r, xcx_n, xcx_l, xcx_0, true_or, or_true, true_and]
          exact hq
      · rw [eG1 m4] at hQ1 hQ0
        have hq := hQ0 (xe_si τ2 86 (2 * T 0) (nI v0)) cT (fun z => by cases z) f3 t3.1
        simp only [s169_94, s169_97, s169_98, xcx_i, xcx_r, xcx_n, xcx_l, xcx_0, not_true, if_false, true_or, or_true, true_and]
        exact hq
    · rw [eG0 m2] at hQ1 hQ0
      have hq := hQ0 τ1 cT (fun z => by cases z) f1 t1.1
      simp only [s169_66, s169_69, s169_70, xcx_i, xcx_r, xcx_n, xcx_l, xcx_0, not_true, if_false, true_or, or_true, true_and]
      exact hq
  · have hq := hQf cT
    have eT : (nI (T 0) = 8) = True := eq_true (by rw [show T 0 = 8 by omega]; rfl)
    simp only [s169_0, s169_1, s169_4, s169_6, s169_9, s169_10, xcx_i, xcx_r, xcx_n, xcx_l, xcx_0, hc, eT, not_true, if_false, true_or, or_true, true_and]
    exact hq
