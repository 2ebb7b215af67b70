/-! the reference's lines: rope, deep, gang -/
def lnR (bt : Nat → Nat) (n k : Nat) (N T : Nat → Nat) (j : Nat) : Bool × (Nat → Nat) × (Nat → Nat) × Nat := endR bt n k T (fR bt n k T (ptN k) 0 N j)
theorem rrw.put {τ : xM} {c a m v : Nat} {N : Nat → Nat} (h : rrw τ c a m N) : rrw (xe_si τ c m (nI v)) c a (m + 1) (upN N (a + m) v) := by
  intro i hi
  rw [si_rd]
  unfold upN
  by_cases z : i = m
  · rw [if_pos ⟨rfl, z⟩, if_pos (by omega)]
  · rw [if_neg (fun y => z y.2), if_neg (by omega)]
    exact h i (by omega)
theorem rrw.lx {τ τ' : xM} {c a m : Nat} {N : Nat → Nat} (h : rrw τ c a m N) (hc : c ≠ 84) (hf : lx5 τ τ') : rrw τ' c a m N := fun i hi => by rw [hf.1 c i (fun z => hc z.1)]; exact h i hi
theorem rrw.ne {τ : xM} {c a m c' j : Nat} {v : Int32} {N : Nat → Nat} (h : rrw τ c a m N) (hc : c ≠ c') : rrw (xe_si τ c' j v) c a m N := fun i hi => by rw [si_rd, if_neg (fun z => hc z.1)]; exact h i hi
theorem MropeLine {σ : xM} {n j : Nat} {bt N T : Nat → Nat} {Q : Int32 → xM → Prop} (h : txR σ n bt) (h2 : σ.1 84 2 = nI j) (hj : j ≤ n) (hR : rD σ N T) (hv : vNT N T) (hQf : ¬ T 1 < mxT 1 → Q 0 σ) (hQ1 : ∀ τ, T 1 < mxT 1 → (lnR bt n 1 N T j).1 = true → frK 1 σ τ → rD τ (lnR bt n 1 N T j).2.1 (lnR bt n 1 N T j).2.2.1 → tkR bt n (runE isBl bt n (n - (lnR bt n 1 N T j).2.2.2) (lnR bt n 1 N T j).2.2.2) τ → Q 1 τ) (hQ0 : ∀ τ, T 1 < mxT 1 → ¬ (lnR bt n 1 N T j).1 = true → frK 1 σ τ → τ.1 84 4 = nI (lnR bt n 1 N T j).2.2.2 → Q 0 τ) : xI1 170 [.ref 84] σ Q := by
  have hn := h.1
  have hP : σ.1 84 8 = nI (T 1) ∧ rrw σ 87 16 (T 1 * 2) N := hR 1 (by decide)
  obtain ⟨hc, r0⟩ := hP
  rw [Nat.mul_comm] at r0
  have hTs := hv.1
  have hm1 : T 1 ≤ 4 := hTs 1 (by decide)
  rw [e170]
  by_cases cT : T 1 < 4
  · have eT : (nI (T 1) = 4) = False := eq_false (fun q => by
      have := (nI_eq (b := 4) (by omega) (by decide)).mp q
      omega)
    have b0 : 2 * T 1 < 100000 := by omega
    have c0 : 2 * T 1 < 8 := by omega
    have i0 : ptA 1 + T 1 * ptN 1 + 0 = 16 + (2 * T 1) := by
      rw [show ptA 1 = 16 from rfl, show ptN 1 = 2 from rfl, Nat.mul_comm]; omega
    have b1 : 2 * T 1 + 1 < 100000 := by omega
    have c1 : 2 * T 1 + 1 < 8 := by omega
    have i1 : ptA 1 + T 1 * ptN 1 + 1 = 16 + (2 * T 1 + 1) := by
      rw [show ptA 1 = 16 from rfl, show ptN 1 = 2 from rfl, Nat.mul_comm]; omega
    rw [show lnR bt n 1 N T j = endR bt n 1 T (fR bt n 1 T 2 0 N j) from rfl] at hQ1 hQ0
    simp only [s170_0, s170_1, s170_4, s170_5, s170_8, s170_9, s170_10, s170_11, xcx_i, xcx_r, xcx_n, xcx_l, xcx_0, hc, eT, not_false_eq_true, if_true]
    refine Mleads h hj h2 (fun τ1 m1 t1 => ?_)
    have k1 : τ1.1 84 8 = nI (T 1) := (m1.1 84 8 (by omega)).trans hc
    have r1 := r0.lx (by decide) m1.to5
    have f1 := (frK.rf 1 σ).lx m1.to5
    have x1 := frK.txt (by decide) h f1
    have g0 : j ≤ n := hj
    obtain ⟨u1, u2, -, -⟩ := runE_bd (P := isBl) (bt := bt) (n := n) (n - j) j (by omega)
    have eF0 : mayB 1 0 (nuA bt n (runE isBl bt n (n - j) j)) N T = true → fR bt n 1 T 2 0 N j = fR bt n 1 T 1 1 (upN N (ptA 1 + T 1 * ptN 1 + 0) (nuA bt n (runE isBl bt n (n - j) j)).toNat) (runE isDg bt n (n - (runE isBl bt n (n - j) j)) (runE isBl bt n (n - j) j)) := fun z => if_pos z
    have eG0 : ¬ mayB 1 0 (nuA bt n (runE isBl bt n (n - j) j)) N T = true → fR bt n 1 T 2 0 N j = (false, N, (runE isBl bt n (n - j) j)) := fun z => if_neg z
    generalize runE isBl bt n (n - j) j = q0 at u1 u2 t1 eF0 eG0
    obtain ⟨w1, w2, -, -⟩ := runE_bd (P := isDg) (bt := bt) (n := n) (n - q0) q0 (by omega)
    simp only [s170_14, s170_15, s170_16, s170_19, xcx_i, xcx_r, xcx_n, xcx_l, xcx_0]
    refine Mfld (k := 1) (f := 0) (lo := 1) (hi := 999) (N := N) (T := T) x1 t1 u2 (by decide) (by decide) ?_ (fun τ2 m2 l2 e2 d2 t2 => ?_) (fun m2 => ?_)
    · apply propext
      constructor
      · intro z; exact z.1
      · intro z; exact ⟨z, fun y => absurd y (by omega), fun y => absurd y (by omega)⟩
    · rw [eF0 m2, i0] at hQ1 hQ0
      generalize (nuA bt n q0).toNat = v0 at e2 d2 hQ1 hQ0
      generalize runE isDg bt n (n - q0) q0 = p0 at w1 w2 t2 hQ1 hQ0
      have k2 : τ2.1 84 8 = nI (T 1) := (l2.1 84 8 (by omega)).trans k1
      have r3 := ((r1.lx (by decide) l2).put (v := v0))
      have f3 : frK 1 σ (xe_si τ2 87 (2 * T 1) (nI v0)) := (f1.lx l2).row
      have x3 := frK.txt (by decide) h f3
      have t3 := t2.si (c := 87) (j := (2 * T 1)) (v := nI v0) (by omega)
      have k3 : (xe_si τ2 87 (2 * T 1) (nI v0)).1 84 8 = nI (T 1) := (si_rd ..).trans ((if_neg (by omega)).trans k2)
      simp only [s170_22, s170_25, s170_26, s170_27, s170_28, s170_31, s170_32, s170_33, s170_36, s170_37, s170_38, s170_41, s170_42, s170_43, s170_44, s170_46, xcx_i, xcx_r, xcx_n, xcx_l, xcx_0, show ((1 : Int32) = 0) = False from eq_false (by decide), not_false_eq_true, if_true, e2, k2, k3, ml_2, nI_add, nI_1, xcl_87, xln_87, b0, c0, cl_s, pos_s, true_and]
      obtain ⟨u3, u4, -, -⟩ := runE_bd (P := isBl) (bt := bt) (n := n) (n - p0) p0 (by omega)
      have eF1 : mayB 1 1 (nuA bt n (runE isBl bt n (n - p0) p0)) (upN N (16 + (2 * T 1)) v0) T = true → fR bt n 1 T 1 1 (upN N (16 + (2 * T 1)) v0) p0 = fR bt n 1 T 0 2 (upN (upN N (16 + (2 * T 1)) v0) (ptA 1 + T 1 * ptN 1 + 1) (nuA bt n (runE isBl bt n (n - p0) p0)).toNat) (runE isDg bt n (n - (runE isBl bt n (n - p0) p0)) (runE isBl bt n (n - p0) p0)) := fun z => if_pos z
      have eG1 : ¬ mayB 1 1 (nuA bt n (runE isBl bt n (n - p0) p0)) (upN N (16 + (2 * T 1)) v0) T = true → fR bt n 1 T 1 1 (upN N (16 + (2 * T 1)) v0) p0 = (false, (upN N (16 + (2 * T 1)) v0), (runE isBl bt n (n - p0) p0)) := fun z => if_neg z
      generalize runE isBl bt n (n - p0) p0 = q1 at u3 u4 t3 eF1 eG1
      obtain ⟨w3, w4, -, -⟩ := runE_bd (P := isDg) (bt := bt) (n := n) (n - q1) q1 (by omega)
      refine Mfld (k := 1) (f := 1) (lo := 1) (hi := 20) (N := (upN N (16 + (2 * T 1)) v0)) (T := T) x3 t3 u4 (by decide) (by decide) ?_ (fun τ4 m4 l4 e4 d4 t4 => ?_) (fun m4 => ?_)
      · apply propext
        constructor
        · intro z; exact z.1
        · intro z; exact ⟨z, fun y => absurd y (by omega), fun y => absurd y (by omega)⟩
      · rw [eF1 m4, i1] at hQ1 hQ0
        generalize (nuA bt n q1).toNat = v1 at e4 d4 hQ1 hQ0
        generalize runE isDg bt n (n - q1) q1 = p1 at w3 w4 t4 hQ1 hQ0
        have k4 : τ4.1 84 8 = nI (T 1) := (l4.1 84 8 (by omega)).trans k3
        have r5 := ((r3.lx (by decide) l4).put (v := v1))
        have f5 : frK 1 σ (xe_si τ4 87 (2 * T 1 + 1) (nI v1)) := (f3.lx l4).row
        have x5 := frK.txt (by decide) h f5
        have t5 := t4.si (c := 87) (j := (2 * T 1 + 1)) (v := nI v1) (by omega)
        have k5 : (xe_si τ4 87 (2 * T 1 + 1) (nI v1)).1 84 8 = nI (T 1) := (si_rd ..).trans ((if_neg (by omega)).trans k4)
        have f6 : frK 1 σ (xe_si (xe_si τ4 87 (2 * T 1 + 1) (nI v1)) 84 8 (nI (T 1 + 1))) := f5.slot
        have x6 := frK.txt (by decide) h f6
        have t6 := t5.si (c := 84) (j := 8) (v := nI (T 1 + 1)) (by omega)
        have r6 := r5.ne (c' := 84) (j := 8) (v := nI (T 1 + 1)) (by decide)
        simp only [s170_49, s170_52, s170_53, s170_54, s170_55, s170_58, s170_59, s170_60, s170_63, s170_64, s170_65, s170_66, s170_67, s170_70, s170_71, s170_72, s170_73, s170_76, s170_77, s170_78, s170_81, s170_82, xcx_i, xcx_r, xcx_n, xcx_l, xcx_0, show ((1 : Int32) = 0) = False from eq_false (by decide), not_false_eq_true, if_true, e4, k4, k5, ml_2, nI_1, xcl_87, xln_87, b1, c1, cl_s, pos_s, true_and]
        refine MlineEnd (k := 1) (i := p1) (N := N) (N' := (upN (upN N (16 + (2 * T 1)) v0) (16 + (2 * T 1 + 1)) v1)) (T := T) (by decide) f6 x6 t6 w4 hR (fun x hx => ?_) cT hTs ⟨(si_rd ..).trans (if_pos ⟨rfl, rfl⟩), ?_⟩ (fun τ' ok hf hr ht => ?_) (fun τ' ok hf h4 => ?_)
        · rw [show ptA 1 = 16 from rfl, show ptN 1 = 2 from rfl, Nat.mul_comm] at hx
          unfold upN
          rw [if_neg (by omega), if_neg (by omega)]
        · rw [show upN T 1 (T 1 + 1) 1 * ptN 1 = 2 * T 1 + 1 + 1 from (Nat.mul_comm _ _).trans (by show 2 * (T 1 + 1) = _; omega)]
          exact r6
        · have hq := hQ1 τ' cT ok hf hr ht
          simp only [s170_85, xcx_i, xcx_r, xcx_n, xcx_l, xcx_0, true_or, or_true, true_and]
          exact hq
        · have hq := hQ0 τ' cT ok hf h4
          simp only [s170_85, xcx_i, xcx_r, xcx_n, xcx_l, xcx_0, true_or, or_true, true_and]
          exact hq
      · rw [eG1 m4] at hQ1 hQ0
        have hq := hQ0 (xe_si τ2 87 (2 * T 1) (nI v0)) cT (fun z => by cases z) f3 t3.1
        simp only [s170_49, s170_52, s170_53, xcx_i, xcx_r, xcx_n, xcx_l, xcx_0, not_true, if_false, true_or, or_true, true_and]
        exact hq
    · rw [eG0 m2] at hQ1 hQ0
      have hq := hQ0 τ1 cT (fun z => by cases z) f1 t1.1
      simp only [s170_22, s170_25, s170_26, xcx_i, xcx_r, xcx_n, xcx_l, xcx_0, not_true, if_false, true_or, or_true, true_and]
      exact hq
  · have hq := hQf cT
    have eT : (nI (T 1) = 4) = True := eq_true (by rw [show T 1 = 4 by omega]; rfl)
    simp only [s170_0, s170_1, s170_4, s170_5, s170_8, s170_9, xcx_i, xcx_r, xcx_n, xcx_l, xcx_0, hc, eT, not_true, if_false, true_or, or_true, true_and]
    exact hq
theorem MgangLine {σ : xM} {n j : Nat} {bt N T : Nat → Nat} {Q : Int32 → xM → Prop} (h : txR σ n bt) (h2 : σ.1 84 2 = nI j) (hj : j ≤ n) (hR : rD σ N T) (hv : vNT N T) (hQf : ¬ T 4 < mxT 4 → Q 0 σ) (hQ1 : ∀ τ, T 4 < mxT 4 → (lnR bt n 4 N T j).1 = true → frK 4 σ τ → rD τ (lnR bt n 4 N T j).2.1 (lnR bt n 4 N T j).2.2.1 → tkR bt n (runE isBl bt n (n - (lnR bt n 4 N T j).2.2.2) (lnR bt n 4 N T j).2.2.2) τ → Q 1 τ) (hQ0 : ∀ τ, T 4 < mxT 4 → ¬ (lnR bt n 4 N T j).1 = true → frK 4 σ τ → τ.1 84 4 = nI (lnR bt n 4 N T j).2.2.2 → Q 0 τ) : xI1 172 [.ref 84] σ Q := by
  have hn := h.1
  have hP : σ.1 84 12 = nI (T 4) ∧ rrw σ 89 42 (T 4 * 2) N := hR 4 (by decide)
  obtain ⟨hc, r0⟩ := hP
  rw [Nat.mul_comm] at r0
  have hTs := hv.1
  have hm4 : T 4 ≤ 4 := hTs 4 (by decide)
  rw [e172]
  by_cases cT : T 4 < 4
  · have eT : (nI (T 4) = 4) = False := eq_false (fun q => by
      have := (nI_eq (b := 4) (by omega) (by decide)).mp q
      omega)
    have b0 : 2 * T 4 < 100000 := by omega
    have c0 : 2 * T 4 < 8 := by omega
    have i0 : ptA 4 + T 4 * ptN 4 + 0 = 42 + (2 * T 4) := by
      rw [show ptA 4 = 42 from rfl, show ptN 4 = 2 from rfl, Nat.mul_comm]; omega
    have b1 : 2 * T 4 + 1 < 100000 := by omega
    have c1 : 2 * T 4 + 1 < 8 := by omega
    have i1 : ptA 4 + T 4 * ptN 4 + 1 = 42 + (2 * T 4 + 1) := by
      rw [show ptA 4 = 42 from rfl, show ptN 4 = 2 from rfl, Nat.mul_comm]; omega
    rw [show lnR bt n 4 N T j = endR bt n 4 T (fR bt n 4 T 2 0 N j) from rfl] at hQ1 hQ0
    simp only [s172_0, s172_1, s172_4, s172_5, s172_8, s172_9, s172_10, s172_11, xcx_i, xcx_r, xcx_n, xcx_l, xcx_0, hc, eT, not_false_eq_true, if_true]
    refine Mleads h hj h2 (fun τ1 m1 t1 => ?_)
    have k1 : τ1.1 84 12 = nI (T 4) := (m1.1 84 12 (by omega)).trans hc
    have r1 := r0.lx (by decide) m1.to5
    have f1 := (frK.rf 4 σ).lx m1.to5
    have x1 := frK.txt (by decide) h f1
    have g0 : j ≤ n := hj
    obtain ⟨u1, u2, -, -⟩ := runE_bd (P := isBl) (bt := bt) (n := n) (n - j) j (by omega)
    have eF0 : mayB 4 0 (nuA bt n (runE isBl bt n (n - j) j)) N T = true → fR bt n 4 T 2 0 N j = fR bt n 4 T 1 1 (upN N (ptA 4 + T 4 * ptN 4 + 0) (nuA bt n (runE isBl bt n (n - j) j)).toNat) (runE isDg bt n (n - (runE isBl bt n (n - j) j)) (runE isBl bt n (n - j) j)) := fun z => if_pos z
    have eG0 : ¬ mayB 4 0 (nuA bt n (runE isBl bt n (n - j) j)) N T = true → fR bt n 4 T 2 0 N j = (false, N, (runE isBl bt n (n - j) j)) := fun z => if_neg z
    generalize runE isBl bt n (n - j) j = q0 at u1 u2 t1 eF0 eG0
    obtain ⟨w1, w2, -, -⟩ := runE_bd (P := isDg) (bt := bt) (n := n) (n - q0) q0 (by omega)
    simp only [s172_14, s172_15, s172_16, s172_18, xcx_i, xcx_r, xcx_n, xcx_l, xcx_0]
    refine Mfld (k := 4) (f := 0) (lo := 1) (hi := 20) (N := N) (T := T) x1 t1 u2 (by decide) (by decide) ?_ (fun τ2 m2 l2 e2 d2 t2 => ?_) (fun m2 => ?_)
    · apply propext
      constructor
      · intro z; exact z.1
      · intro z; exact ⟨z, fun y => absurd y (by omega), fun y => absurd y (by omega)⟩
    · rw [eF0 m2, i0] at hQ1 hQ0
      generalize (nuA bt n q0).toNat = v0 at e2 d2 hQ1 hQ0
      generalize runE isDg bt n (n - q0) q0 = p0 at w1 w2 t2 hQ1 hQ0
      have k2 : τ2.1 84 12 = nI (T 4) := (l2.1 84 12 (by omega)).trans k1
      have r3 := ((r1.lx (by decide) l2).put (v := v0))
      have f3 : frK 4 σ (xe_si τ2 89 (2 * T 4) (nI v0)) := (f1.lx l2).row
      have x3 := frK.txt (by decide) h f3
      have t3 := t2.si (c := 89) (j := (2 * T 4)) (v := nI v0) (by omega)
      have k3 : (xe_si τ2 89 (2 * T 4) (nI v0)).1 84 12 = nI (T 4) := (si_rd ..).trans ((if_neg (by omega)).trans k2)
      simp only [s172_21, s172_24, s172_25, s172_26, s172_27, s172_30, s172_31, s172_32, s172_35, s172_36, s172_37, s172_40, s172_41, s172_42, s172_43, s172_46, xcx_i, xcx_r, xcx_n, xcx_l, xcx_0, show ((1 : Int32) = 0) = False from eq_false (by decide), not_false_eq_true, if_true, e2, k2, k3, ml_2, nI_add, nI_1, xcl_89, xln_89, b0, c0, cl_s, pos_s, true_and]
      obtain ⟨u3, u4, -, -⟩ := runE_bd (P := isBl) (bt := bt) (n := n) (n - p0) p0 (by omega)
      have eF1 : mayB 4 1 (nuA bt n (runE isBl bt n (n - p0) p0)) (upN N (42 + (2 * T 4)) v0) T = true → fR bt n 4 T 1 1 (upN N (42 + (2 * T 4)) v0) p0 = fR bt n 4 T 0 2 (upN (upN N (42 + (2 * T 4)) v0) (ptA 4 + T 4 * ptN 4 + 1) (nuA bt n (runE isBl bt n (n - p0) p0)).toNat) (runE isDg bt n (n - (runE isBl bt n (n - p0) p0)) (runE isBl bt n (n - p0) p0)) := fun z => if_pos z
      have eG1 : ¬ mayB 4 1 (nuA bt n (runE isBl bt n (n - p0) p0)) (upN N (42 + (2 * T 4)) v0) T = true → fR bt n 4 T 1 1 (upN N (42 + (2 * T 4)) v0) p0 = (false, (upN N (42 + (2 * T 4)) v0), (runE isBl bt n (n - p0) p0)) := fun z => if_neg z
      generalize runE isBl bt n (n - p0) p0 = q1 at u3 u4 t3 eF1 eG1
      obtain ⟨w3, w4, -, -⟩ := runE_bd (P := isDg) (bt := bt) (n := n) (n - q1) q1 (by omega)
      refine Mfld (k := 4) (f := 1) (lo := 0) (hi := 600) (N := (upN N (42 + (2 * T 4)) v0)) (T := T) x3 t3 u4 (by decide) (by decide) ?_ (fun τ4 m4 l4 e4 d4 t4 => ?_) (fun m4 => ?_)
      · apply propext
        constructor
        · intro z; exact z.1
        · intro z; exact ⟨z, fun y => absurd y (by omega), fun y => absurd y (by omega)⟩
      · rw [eF1 m4, i1] at hQ1 hQ0
        generalize (nuA bt n q1).toNat = v1 at e4 d4 hQ1 hQ0
        generalize runE isDg bt n (n - q1) q1 = p1 at w3 w4 t4 hQ1 hQ0
        have k4 : τ4.1 84 12 = nI (T 4) := (l4.1 84 12 (by omega)).trans k3
        have r5 := ((r3.lx (by decide) l4).put (v := v1))
        have f5 : frK 4 σ (xe_si τ4 89 (2 * T 4 + 1) (nI v1)) := (f3.lx l4).row
        have x5 := frK.txt (by decide) h f5
        have t5 := t4.si (c := 89) (j := (2 * T 4 + 1)) (v := nI v1) (by omega)
        have k5 : (xe_si τ4 89 (2 * T 4 + 1) (nI v1)).1 84 12 = nI (T 4) := (si_rd ..).trans ((if_neg (by omega)).trans k4)
        have f6 : frK 4 σ (xe_si (xe_si τ4 89 (2 * T 4 + 1) (nI v1)) 84 12 (nI (T 4 + 1))) := f5.slot
        have x6 := frK.txt (by decide) h f6
        have t6 := t5.si (c := 84) (j := 12) (v := nI (T 4 + 1)) (by omega)
        have r6 := r5.ne (c' := 84) (j := 12) (v := nI (T 4 + 1)) (by decide)
        simp only [s172_49, s172_52, s172_53, s172_54, s172_55, s172_58, s172_59, s172_60, s172_63, s172_64, s172_65, s172_66, s172_67, s172_70, s172_71, s172_72, s172_73, s172_76, s172_77, s172_78, s172_81, s172_82, xcx_i, xcx_r, xcx_n, xcx_l, xcx_0, show ((1 : Int32) = 0) = False from eq_false (by decide), not_false_eq_true, if_true, e4, k4, k5, ml_2, nI_1, xcl_89, xln_89, b1, c1, cl_s, pos_s, true_and]
        refine MlineEnd (k := 4) (i := p1) (N := N) (N' := (upN (upN N (42 + (2 * T 4)) v0) (42 + (2 * T 4 + 1)) v1)) (T := T) (by decide) f6 x6 t6 w4 hR (fun x hx => ?_) cT hTs ⟨(si_rd ..).trans (if_pos ⟨rfl, rfl⟩), ?_⟩ (fun τ' ok hf hr ht => ?_) (fun τ' ok hf h4 => ?_)
        · rw [show ptA 4 = 42 from rfl, show ptN 4 = 2 from rfl, Nat.mul_comm] at hx
          unfold upN
          rw [if_neg (by omega), if_neg (by omega)]
        · rw [show upN T 4 (T 4 + 1) 4 * ptN 4 = 2 * T 4 + 1 + 1 from (Nat.mul_comm _ _).trans (by show 2 * (T 4 + 1) = _; omega)]
          exact r6
        · have hq := hQ1 τ' cT ok hf hr ht
          simp only [s172_85, xcx_i, xcx_r, xcx_n, xcx_l, xcx_0, true_or, or_true, true_and]
          exact hq
        · have hq := hQ0 τ' cT ok hf h4
          simp only [s172_85, xcx_i, xcx_r, xcx_n, xcx_l, xcx_0, true_or, or_true, true_and]
          exact hq
      · rw [eG1 m4] at hQ1 hQ0
        have hq := hQ0 (xe_si τ2 89 (2 * T 4) (nI v0)) cT (fun z => by cases z) f3 t3.1
        simp only [s172_49, s172_52, s172_53, xcx_i, xcx_r, xcx_n, xcx_l, xcx_0, not_true, if_false, true_or, or_true, true_and]
        exact hq
    · rw [eG0 m2] at hQ1 hQ0
      have hq := hQ0 τ1 cT (fun z => by cases z) f1 t1.1
      simp only [s172_21, s172_24, s172_25, xcx_i, xcx_r, xcx_n, xcx_l, xcx_0, not_true, if_false, true_or, or_true, true_and]
      exact hq
  · have hq := hQf cT
    have eT : (nI (T 4) = 4) = True := eq_true (by rw [show T 4 = 4 by omega]; rfl)
    simp only [s172_0, s172_1, s172_4, s172_5, s172_8, s172_9, xcx_i, xcx_r, xcx_n, xcx_l, xcx_0, hc, eT, not_true, if_false, true_or, or_true, true_and]
    exact hq
theorem MdeepLine {σ : xM} {n j : Nat} {bt N T : Nat → Nat} {Q : Int32 → xM → Prop} (h : txR σ n bt) (h2 : σ.1 84 2 = nI j) (hj : j ≤ n) (hR : rD σ N T) (hv : vNT N T) (hQf : ¬ T 2 < mxT 2 → Q 0 σ) (hQ1 : ∀ τ, T 2 < mxT 2 → (lnR bt n 2 N T j).1 = true → frK 2 σ τ → rD τ (lnR bt n 2 N T j).2.1 (lnR bt n 2 N T j).2.2.1 → tkR bt n (runE isBl bt n (n - (lnR bt n 2 N T j).2.2.2) (lnR bt n 2 N T j).2.2.2) τ → Q 1 τ) (hQ0 : ∀ τ, T 2 < mxT 2 → ¬ (lnR bt n 2 N T j).1 = true → frK 2 σ τ → τ.1 84 4 = nI (lnR bt n 2 N T j).2.2.2 → Q 0 τ) : xI1 171 [.ref 84] σ Q := by
  have hn := h.1
  have hP : σ.1 84 10 = nI (T 2) ∧ rrw σ 88 24 (T 2 * 3) N := hR 2 (by decide)
  obtain ⟨hc, r0⟩ := hP
  rw [Nat.mul_comm] at r0
  have hTs := hv.1
  have hm2 : T 2 ≤ 4 := hTs 2 (by decide)
  rw [e171]
  by_cases cT : T 2 < 4
  · have eT : (nI (T 2) = 4) = False := eq_false (fun q => by
      have := (nI_eq (b := 4) (by omega) (by decide)).mp q
      omega)
    have b0 : 3 * T 2 < 100000 := by omega
    have c0 : 3 * T 2 < 12 := by omega
    have i0 : ptA 2 + T 2 * ptN 2 + 0 = 24 + (3 * T 2) := by
      rw [show ptA 2 = 24 from rfl, show ptN 2 = 3 from rfl, Nat.mul_comm]; omega
    have b1 : 3 * T 2 + 1 < 100000 := by omega
    have c1 : 3 * T 2 + 1 < 12 := by omega
    have i1 : ptA 2 + T 2 * ptN 2 + 1 = 24 + (3 * T 2 + 1) := by
      rw [show ptA 2 = 24 from rfl, show ptN 2 = 3 from rfl, Nat.mul_comm]; omega
    have b2 : 3 * T 2 + 2 < 100000 := by omega
    have c2 : 3 * T 2 + 2 < 12 := by omega
    have i2 : ptA 2 + T 2 * ptN 2 + 2 = 24 + (3 * T 2 + 2) := by
      rw [show ptA 2 = 24 from rfl, show ptN 2 = 3 from rfl, Nat.mul_comm]; omega
    rw [show lnR bt n 2 N T j = endR bt n 2 T (fR bt n 2 T 3 0 N j) from rfl] at hQ1 hQ0
    simp only [s171_0, s171_1, s171_4, s171_5, s171_8, s171_9, s171_10, s171_11, xcx_i, xcx_r, xcx_n, xcx_l, xcx_0, hc, eT, not_false_eq_true, if_true]
    refine Mleads h hj h2 (fun τ1 m1 t1 => ?_)
    have k1 : τ1.1 84 10 = nI (T 2) := (m1.1 84 10 (by omega)).trans hc
    have r1 := r0.lx (by decide) m1.to5
    have f1 := (frK.rf 2 σ).lx m1.to5
    have x1 := frK.txt (by decide) h f1
    have g0 : j ≤ n := hj
    obtain ⟨u1, u2, -, -⟩ := runE_bd (P := isBl) (bt := bt) (n := n) (n - j) j (by omega)
    have eF0 : mayB 2 0 (nuA bt n (runE isBl bt n (n - j) j)) N T = true → fR bt n 2 T 3 0 N j = fR bt n 2 T 2 1 (upN N (ptA 2 + T 2 * ptN 2 + 0) (nuA bt n (runE isBl bt n (n - j) j)).toNat) (runE isDg bt n (n - (runE isBl bt n (n - j) j)) (runE isBl bt n (n - j) j)) := fun z => if_pos z
    have eG0 : ¬ mayB 2 0 (nuA bt n (runE isBl bt n (n - j) j)) N T = true → fR bt n 2 T 3 0 N j = (false, N, (runE isBl bt n (n - j) j)) := fun z => if_neg z
    generalize runE isBl bt n (n - j) j = q0 at u1 u2 t1 eF0 eG0
    obtain ⟨w1, w2, -, -⟩ := runE_bd (P := isDg) (bt := bt) (n := n) (n - q0) q0 (by omega)
    simp only [s171_14, s171_15, s171_16, s171_19, xcx_i, xcx_r, xcx_n, xcx_l, xcx_0]
    refine Mfld (k := 2) (f := 0) (lo := 0) (hi := 200) (N := N) (T := T) x1 t1 u2 (by decide) (by decide) ?_ (fun τ2 m2 l2 e2 d2 t2 => ?_) (fun m2 => ?_)
    · apply propext
      constructor
      · intro z; exact z.1
      · intro z; exact ⟨z, fun y => absurd y (by omega), fun y => absurd y (by omega)⟩
    · rw [eF0 m2, i0] at hQ1 hQ0
      have h200 : (nuA bt n q0).toNat ≤ 200 := by
        have z : mayP 2 0 (nuA bt n q0) N T := by rw [← mayB_iff]; exact m2
        have z2 := z.1.2
        have e : lmH 2 0 = 200 := rfl
        omega
      generalize (nuA bt n q0).toNat = v0 at e2 d2 hQ1 hQ0 h200
      generalize runE isDg bt n (n - q0) q0 = p0 at w1 w2 t2 hQ1 hQ0
      have k2 : τ2.1 84 10 = nI (T 2) := (l2.1 84 10 (by omega)).trans k1
      have r3 := ((r1.lx (by decide) l2).put (v := v0))
      have f3 : frK 2 σ (xe_si τ2 88 (3 * T 2) (nI v0)) := (f1.lx l2).row
      have x3 := frK.txt (by decide) h f3
      have t3 := t2.si (c := 88) (j := (3 * T 2)) (v := nI v0) (by omega)
      have k3 : (xe_si τ2 88 (3 * T 2) (nI v0)).1 84 10 = nI (T 2) := (si_rd ..).trans ((if_neg (by omega)).trans k2)
      simp only [s171_22, s171_25, s171_26, s171_27, s171_28, s171_31, s171_32, s171_33, s171_36, s171_37, s171_38, s171_41, s171_42, s171_43, s171_44, s171_47, s171_48, s171_49, s171_52, xcx_i, xcx_r, xcx_n, xcx_l, xcx_0, show ((1 : Int32) = 0) = False from eq_false (by decide), not_false_eq_true, if_true, e2, k2, k3, ml_3, nI_add, nI_1, xcl_88, xln_88, b0, c0, cl_s, pos_s, true_and, show (xe_si τ2 88 (3 * T 2) (nI v0)).1 84 51 = nI v0 from (si_rd ..).trans ((if_neg (by omega)).trans e2)]
      obtain ⟨u3, u4, -, -⟩ := runE_bd (P := isBl) (bt := bt) (n := n) (n - p0) p0 (by omega)
      have eF1 : mayB 2 1 (nuA bt n (runE isBl bt n (n - p0) p0)) (upN N (24 + (3 * T 2)) v0) T = true → fR bt n 2 T 2 1 (upN N (24 + (3 * T 2)) v0) p0 = fR bt n 2 T 1 2 (upN (upN N (24 + (3 * T 2)) v0) (ptA 2 + T 2 * ptN 2 + 1) (nuA bt n (runE isBl bt n (n - p0) p0)).toNat) (runE isDg bt n (n - (runE isBl bt n (n - p0) p0)) (runE isBl bt n (n - p0) p0)) := fun z => if_pos z
      have eG1 : ¬ mayB 2 1 (nuA bt n (runE isBl bt n (n - p0) p0)) (upN N (24 + (3 * T 2)) v0) T = true → fR bt n 2 T 2 1 (upN N (24 + (3 * T 2)) v0) p0 = (false, (upN N (24 + (3 * T 2)) v0), (runE isBl bt n (n - p0) p0)) := fun z => if_neg z
      generalize runE isBl bt n (n - p0) p0 = q1 at u3 u4 t3 eF1 eG1
      obtain ⟨w3, w4, -, -⟩ := runE_bd (P := isDg) (bt := bt) (n := n) (n - q1) q1 (by omega)
      refine Mfld (k := 2) (f := 1) (lo := v0 + 1) (hi := 200) (N := (upN N (24 + (3 * T 2)) v0)) (T := T) x3 t3 u4 (by omega) (by decide) ?_ (fun τ4 m4 l4 e4 d4 t4 => ?_) (fun m4 => ?_)
      · apply propext
        have en : ((upN N (24 + (3 * T 2)) v0)) (24 + 3 * T 2) = v0 := by unfold upN; exact if_pos rfl
        unfold mayP
        rw [en, show lmL 2 1 = 0 from rfl, show lmH 2 1 = 200 from rfl]
        constructor
        · intro z; have := z.2.2 ⟨rfl, rfl⟩; omega
        · intro z; exact ⟨by omega, fun y => absurd y (by omega), fun _ => by omega⟩
      · rw [eF1 m4, i1] at hQ1 hQ0
        generalize (nuA bt n q1).toNat = v1 at e4 d4 hQ1 hQ0
        generalize runE isDg bt n (n - q1) q1 = p1 at w3 w4 t4 hQ1 hQ0
        have k4 : τ4.1 84 10 = nI (T 2) := (l4.1 84 10 (by omega)).trans k3
        have r5 := ((r3.lx (by decide) l4).put (v := v1))
        have f5 : frK 2 σ (xe_si τ4 88 (3 * T 2 + 1) (nI v1)) := (f3.lx l4).row
        have x5 := frK.txt (by decide) h f5
        have t5 := t4.si (c := 88) (j := (3 * T 2 + 1)) (v := nI v1) (by omega)
        have k5 : (xe_si τ4 88 (3 * T 2 + 1) (nI v1)).1 84 10 = nI (T 2) := (si_rd ..).trans ((if_neg (by omega)).trans k4)
        simp only [s171_55, s171_58, s171_59, s171_60, s171_61, s171_64, s171_65, s171_66, s171_69, s171_70, s171_71, s171_72, s171_73, s171_76, s171_77, s171_78, s171_79, s171_81, xcx_i, xcx_r, xcx_n, xcx_l, xcx_0, show ((1 : Int32) = 0) = False from eq_false (by decide), not_false_eq_true, if_true, e4, k4, k5, ml_3, nI_1, xcl_88, xln_88, b1, c1, cl_s, pos_s, true_and]
        obtain ⟨u5, u6, -, -⟩ := runE_bd (P := isBl) (bt := bt) (n := n) (n - p1) p1 (by omega)
        have eF2 : mayB 2 2 (nuA bt n (runE isBl bt n (n - p1) p1)) (upN (upN N (24 + (3 * T 2)) v0) (24 + (3 * T 2 + 1)) v1) T = true → fR bt n 2 T 1 2 (upN (upN N (24 + (3 * T 2)) v0) (24 + (3 * T 2 + 1)) v1) p1 = fR bt n 2 T 0 3 (upN (upN (upN N (24 + (3 * T 2)) v0) (24 + (3 * T 2 + 1)) v1) (ptA 2 + T 2 * ptN 2 + 2) (nuA bt n (runE isBl bt n (n - p1) p1)).toNat) (runE isDg bt n (n - (runE isBl bt n (n - p1) p1)) (runE isBl bt n (n - p1) p1)) := fun z => if_pos z
        have eG2 : ¬ mayB 2 2 (nuA bt n (runE isBl bt n (n - p1) p1)) (upN (upN N (24 + (3 * T 2)) v0) (24 + (3 * T 2 + 1)) v1) T = true → fR bt n 2 T 1 2 (upN (upN N (24 + (3 * T 2)) v0) (24 + (3 * T 2 + 1)) v1) p1 = (false, (upN (upN N (24 + (3 * T 2)) v0) (24 + (3 * T 2 + 1)) v1), (runE isBl bt n (n - p1) p1)) := fun z => if_neg z
        generalize runE isBl bt n (n - p1) p1 = q2 at u5 u6 t5 eF2 eG2
        obtain ⟨w5, w6, -, -⟩ := runE_bd (P := isDg) (bt := bt) (n := n) (n - q2) q2 (by omega)
        refine Mfld (k := 2) (f := 2) (lo := 0) (hi := 40) (N := (upN (upN N (24 + (3 * T 2)) v0) (24 + (3 * T 2 + 1)) v1)) (T := T) x5 t5 u6 (by decide) (by decide) ?_ (fun τ6 m6 l6 e6 d6 t6 => ?_) (fun m6 => ?_)
        · apply propext
          constructor
          · intro z; exact z.1
          · intro z; exact ⟨z, fun y => absurd y (by omega), fun y => absurd y (by omega)⟩
        · rw [eF2 m6, i2] at hQ1 hQ0
          generalize (nuA bt n q2).toNat = v2 at e6 d6 hQ1 hQ0
          generalize runE isDg bt n (n - q2) q2 = p2 at w5 w6 t6 hQ1 hQ0
          have k6 : τ6.1 84 10 = nI (T 2) := (l6.1 84 10 (by omega)).trans k5
          have r7 := ((r5.lx (by decide) l6).put (v := v2))
          have f7 : frK 2 σ (xe_si τ6 88 (3 * T 2 + 2) (nI v2)) := (f5.lx l6).row
          have x7 := frK.txt (by decide) h f7
          have t7 := t6.si (c := 88) (j := (3 * T 2 + 2)) (v := nI v2) (by omega)
          have k7 : (xe_si τ6 88 (3 * T 2 + 2) (nI v2)).1 84 10 = nI (T 2) := (si_rd ..).trans ((if_neg (by omega)).trans k6)
          have nI_k2 : nI (3 * T 2) + 2 = nI (3 * T 2 + 2) := nI_add _ 2
          have f8 : frK 2 σ (xe_si (xe_si τ6 88 (3 * T 2 + 2) (nI v2)) 84 10 (nI (T 2 + 1))) := f7.slot
          have x8 := frK.txt (by decide) h f8
          have t8 := t7.si (c := 84) (j := 10) (v := nI (T 2 + 1)) (by omega)
          have r8 := r7.ne (c' := 84) (j := 10) (v := nI (T 2 + 1)) (by decide)
          simp only [s171_84, s171_87, s171_88, s171_89, s171_90, s171_93, s171_94, s171_95, s171_98, s171_99, s171_100, s171_101, s171_102, s171_105, s171_106, s171_107, s171_108, s171_111, s171_112, s171_113, s171_116, s171_117, xcx_i, xcx_r, xcx_n, xcx_l, xcx_0, show ((1 : Int32) = 0) = False from eq_false (by decide), not_false_eq_true, if_true, e6, k6, k7, ml_3, nI_add, nI_1, xcl_88, xln_88, b2, c2, cl_s, pos_s, true_and, nI_k2]
          refine MlineEnd (k := 2) (i := p2) (N := N) (N' := (upN (upN (upN N (24 + (3 * T 2)) v0) (24 + (3 * T 2 + 1)) v1) (24 + (3 * T 2 + 2)) v2)) (T := T) (by decide) f8 x8 t8 w6 hR (fun x hx => ?_) cT hTs ⟨(si_rd ..).trans (if_pos ⟨rfl, rfl⟩), ?_⟩ (fun τ' ok hf hr ht => ?_) (fun τ' ok hf h4 => ?_)
          · rw [show ptA 2 = 24 from rfl, show ptN 2 = 3 from rfl, Nat.mul_comm] at hx
            unfold upN
            rw [if_neg (by omega), if_neg (by omega), if_neg (by omega)]
          · rw [show upN T 2 (T 2 + 1) 2 * ptN 2 = 3 * T 2 + 2 + 1 from (Nat.mul_comm _ _).trans (by show 3 * (T 2 + 1) = _; omega)]
            exact r8
          · have hq := hQ1 τ' cT ok hf hr ht
            simp only [s171_120, xcx_i, xcx_r, xcx_n, xcx_l, xcx_0, true_or, or_true, true_and]
            exact hq
          · have hq := hQ0 τ' cT ok hf h4
            simp only [s171_120, xcx_i, xcx_r, xcx_n, xcx_l, xcx_0, true_or, or_true, true_and]
            exact hq
        · rw [eG2 m6] at hQ1 hQ0
          have hq := hQ0 (xe_si τ4 88 (3 * T 2 + 1) (nI v1)) cT (fun z => by cases z) f5 t5.1
          simp only [s171_84, s171_87, s171_88, xcx_i, xcx_r, xcx_n, xcx_l, xcx_0, not_true, if_false, true_or, or_true, true_and]
          exact hq
      · rw [eG1 m4] at hQ1 hQ0
        have hq := hQ0 (xe_si τ2 88 (3 * T 2) (nI v0)) cT (fun z => by cases z) f3 t3.1
        simp only [s171_55, s171_58, s171_59, xcx_i, xcx_r, xcx_n, xcx_l, xcx_0, not_true, if_false, true_or, or_true, true_and]
        exact hq
    · rw [eG0 m2] at hQ1 hQ0
      have hq := hQ0 τ1 cT (fun z => by cases z) f1 t1.1
      simp only [s171_22, s171_25, s171_26, xcx_i, xcx_r, xcx_n, xcx_l, xcx_0, not_true, if_false, true_or, or_true, true_and]
      exact hq
  · have hq := hQf cT
    have eT : (nI (T 2) = 4) = True := eq_true (by rw [show T 2 = 4 by omega]; rfl)
    simp only [s171_0, s171_1, s171_4, s171_5, s171_8, s171_9, xcx_i, xcx_r, xcx_n, xcx_l, xcx_0, hc, eT, not_true, if_false, true_or, or_true, true_and]
    exact hq
