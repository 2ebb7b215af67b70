/-! moorings: the class's tables -/
def moX (τ : xM) (n H : Nat) (W R K B : Nat → Int) (S : Nat → Nat) : Prop := ldOk n W R K B S ∧ H < 64 ∧ τ.1 38 0 = nI n ∧ τ.1 38 1 = nI H ∧ ∀ i, i < n → τ.1 40 i = iI (W i) ∧ τ.1 41 i = iI (R i) ∧ τ.1 43 i = iI (K i) ∧ τ.1 44 i = iI (B i) ∧ τ.1 45 i = nI (S i)
def rowI (τ : xM) (k n : Nat) (f : Nat → Int) : Prop := ∀ i, i < n → τ.1 k i = iI (f i)
def upI (f : Nat → Int) (j : Nat) (v : Int) : Nat → Int := fun i => if i = j then v else f i
theorem rowI.si {τ : xM} {k n j : Nat} {v : Int} {f : Nat → Int} (h : rowI τ k n f) : rowI (xe_si τ k j (iI v)) k n (upI f j v) := by
  intro i hi
  rw [si_rd]
  unfold upI
  by_cases q : i = j
  · rw [if_pos ⟨rfl, q⟩, if_pos q]
  · rw [if_neg (fun w => q w.2), if_neg q]; exact h i hi
theorem rowI.ne {τ : xM} {k c n j : Nat} {v : Int32} {f : Nat → Int} (h : rowI τ k n f) (hc : k ≠ c) : rowI (xe_si τ c j v) k n f := by
  intro i hi
  rw [si_ne hc]; exact h i hi
theorem rowI.of {τ : xM} {k n : Nat} {f g : Nat → Int} (h : rowI τ k n f) (e : ∀ i, i < n → f i = g i) : rowI τ k n g := fun i hi => by rw [h i hi, e i hi]
theorem bit64 {h g : Nat} (hh : h < 64) (hg : g < 6) : (nI h >>> (nI g &&& 31) &&& 1 = 1) = (h.testBit g = true) := by
  have hall : ∀ h : Nat, h < 64 → ∀ g : Nat, g < 6 → (decide (nI h >>> (nI g &&& 31) &&& 1 = 1) = h.testBit g) := by decide +kernel
  have := hall h hh g hg
  rw [← this, decide_eq_true_eq]
theorem rankToU_eq {σ : xM} {r : Nat} {Q : Int32 → xM → Prop} (hr : r < 41) : xI1 48 [.int (nI r)] σ Q = Q (iI (uO r)) σ := by
  have h2 : ¬ (2 : Int32) = 0 := by decide
  have hall : ∀ r : Nat, r < 41 → (if nI r - nI r / 2 * 2 = 0 then nI r / 2 else -(nI r + 1) / 2) = iI (uO r) := by decide +kernel
  rw [e48]
  simp only [s48_0, s48_1, s48_2, s48_3, s48_6, s48_7, s48_8, s48_9, s48_12, s48_13, s48_14, s48_15, s48_16, s48_17, s48_18, xcx_i, xcx_r, xcx_n, xcx_l, xcx_0, h2, not_false_eq_true, true_and, ite_not, qif (Q := Q)]
  rw [hall r hr]
theorem aI_iI {x : Int} (h1 : -1000000 ≤ x) (h2 : x ≤ 1000000) : aI (iI x) = iI (x.natAbs : Int) := by
  unfold aI
  have e0 : (0 : Int32) = iI 0 := rfl
  by_cases c : 0 ≤ x
  · have q : (0 : Int32) ≤ iI x := by rw [e0]; exact (iI_le (by omega) (by omega) (by omega) (by omega)).mpr c
    rw [if_pos q]; congr 1; omega
  · have q : ¬ (0 : Int32) ≤ iI x := by rw [e0]; exact fun w => c ((iI_le (by omega) (by omega) (by omega) (by omega)).mp w)
    rw [if_neg q, iI_neg]; congr 1; omega
theorem mx_iI {a b : Int} (ha1 : -1000000 ≤ a) (ha2 : a ≤ 1000000) (hb1 : -1000000 ≤ b) (hb2 : b ≤ 1000000) : (if iI a < iI b then iI b else iI a) = iI (max a b) := by
  by_cases c : a < b
  · rw [if_pos ((iI_lt (by omega) (by omega) (by omega) (by omega)).mpr c)]; congr 1; omega
  · rw [if_neg (fun q => c ((iI_lt (by omega) (by omega) (by omega) (by omega)).mp q))]; congr 1; omega
theorem sg_iI {x : Int} (h1 : -1000000 ≤ x) (h2 : x ≤ 1000000) : (if iI x < 0 then (-1 : Int32) else if iI x = 0 then 0 else 1) = iI x.sign := by
  have e0 : (0 : Int32) = iI 0 := rfl
  rcases Int.lt_trichotomy x 0 with q | q | q
  · rw [if_pos (by rw [e0]; exact (iI_lt (by omega) (by omega) (by omega) (by omega)).mpr q), Int.sign_eq_neg_one_of_neg q]; rfl
  · rw [if_neg (by rw [e0]; exact fun w => by have := (iI_lt (a := x) (b := 0) (by omega) (by omega) (by omega) (by omega)).mp w; omega), if_pos (by rw [q]; rfl), q]; rfl
  · rw [if_neg (by rw [e0]; exact fun w => by have := (iI_lt (a := x) (b := 0) (by omega) (by omega) (by omega) (by omega)).mp w; omega), if_neg (by rw [e0]; exact fun w => by have := (iI_eq (a := x) (b := 0) (by omega) (by omega) (by omega) (by omega)).mp w; omega), Int.sign_eq_one_of_pos q]; rfl
/-- a row's entries of rank r, up to v, have grown by g -/
def adP (f g : Nat → Int) (r v : Nat) : Nat → Int := fun j => if 21 * r ≤ j ∧ j < 21 * r + v then f j + g (j - 21 * r) else f j
theorem xat40 {σ : xM} {v : Nat} (h : v < 6) : xat σ 40 (nI v) = σ.1 40 v := xat_n (by rw [xln_40]; exact h)
theorem xat41 {σ : xM} {v : Nat} (h : v < 6) : xat σ 41 (nI v) = σ.1 41 v := xat_n (by rw [xln_41]; exact h)
theorem xat43 {σ : xM} {v : Nat} (h : v < 6) : xat σ 43 (nI v) = σ.1 43 v := xat_n (by rw [xln_43]; exact h)
theorem xat44 {σ : xM} {v : Nat} (h : v < 6) : xat σ 44 (nI v) = σ.1 44 v := xat_n (by rw [xln_44]; exact h)
theorem xat45 {σ : xM} {v : Nat} (h : v < 6) : xat σ 45 (nI v) = σ.1 45 v := xat_n (by rw [xln_45]; exact h)
def tabs (σ τ : xM) : Prop := (∀ k, k ≠ 46 → k ≠ 47 → τ.1 k = σ.1 k) ∧ τ.2.2 = σ.2.2
theorem tabs.rf (σ : xM) : tabs σ σ := ⟨fun _ _ _ => rfl, rfl⟩
theorem tabs.tr {a b c : xM} (h1 : tabs a b) (h2 : tabs b c) : tabs a c := ⟨fun k q1 q2 => (h2.1 k q1 q2).trans (h1.1 k q1 q2), h2.2.trans h1.2⟩
theorem moX.tabs {σ τ : xM} {n H : Nat} {W R K B : Nat → Int} {S : Nat → Nat} (h : moX σ n H W R K B S) (hs : tabs σ τ) : moX τ n H W R K B S := by
  unfold moX
  rw [hs.1 38 (by decide) (by decide), hs.1 40 (by decide) (by decide), hs.1 41 (by decide) (by decide), hs.1 43 (by decide) (by decide), hs.1 44 (by decide) (by decide), hs.1 45 (by decide) (by decide)]
  exact h
theorem XaddPulls {σ : xM} {n H i r : Nat} {W R K B : Nat → Int} {S : Nat → Nat} {f46 f47 : Nat → Int} {Q : xM → Prop} (hM : moX σ n H W R K B S) (hi : i < n) (hr : r < 41) (h46 : rowI σ 46 861 f46) (h47 : rowI σ 47 861 f47) (hQ : ∀ τ, tabs σ τ → rowI τ 46 861 (adP f46 (fun v => (W i - uO r).sign * plI W R K (uO r) (v : Nat) i) r 21) → rowI τ 47 861 (adP f47 (fun v => plI W R K (uO r) (v : Nat) i) r 21) → Q τ) : xV 50 [.ref 38, .int (nI i), .int (nI r)] σ Q := by
  obtain ⟨hld, hH, -, -, hrow⟩ := hM
  have hn6 := hld.1
  obtain ⟨⟨w1, w2⟩, r1, r2, ⟨k1, k2⟩, ⟨b1, b2⟩, s1⟩ := hld.2 i hi
  obtain ⟨e40, e41, e43, e44, e45⟩ := hrow i hi
  obtain ⟨u1, u2⟩ := uO_gd hr
  have i6 : i < 6 := by omega
  generalize hfar : W i - uO r = far
  have hf1 : -320 ≤ far ∧ far ≤ 320 := by omega
  generalize hsl : (far.natAbs : Int) - R i = sl
  have hsl1 : -500 ≤ sl ∧ sl ≤ 400 := by omega
  have hpl : ∀ v : Nat, plI W R K (uO r) (v : Nat) i = if 1 ≤ sl + v then K i * (sl + v) else 0 := by
    intro v
    unfold plI drF
    rw [hfar]
    by_cases c : 1 ≤ sl + v
    · rw [if_pos c]; congr 1; omega
    · rw [if_neg c, show max 0 (((far.natAbs : Nat) : Int) + (v : Int) - R i) = 0 by omega, Int.mul_zero]
  have hbd : ∀ v : Nat, v < 21 → 0 ≤ plI W R K (uO r) (v : Nat) i ∧ plI W R K (uO r) (v : Nat) i ≤ 1600 := fun v hv => plI_bd hld ⟨u1, u2, by omega, by omega⟩ hi
  have m21 : nI r * 21 = nI (21 * r) := by rw [show nI r * 21 = nI (r * 21) from pk_mul r 21, Nat.mul_comm]
  have m21' : nI (r + 1) * 21 = nI (21 * r + 21) := by rw [show nI (r + 1) * 21 = nI ((r + 1) * 21) from pk_mul (r + 1) 21]; congr 1; omega
  have loop : ∀ m v : Nat, v + m = 21 → 1 ≤ sl + v → ∀ (τ : xM) l7, tabs σ τ → rowI τ 46 861 (adP f46 (fun v => far.sign * plI W R K (uO r) (v : Nat) i) r v) → rowI τ 47 861 (adP f47 (fun v => plI W R K (uO r) (v : Nat) i) r v) → xC 50 75 [some (.ref 38), some (.int (nI i)), some (.int (nI r)), some (.int (iI far)), some (.int (iI far.sign)), some (.int (iI sl)), some (.int (iI (K i))), l7, some (.int (iI (K i * (sl + v)))), some (.int (nI (21 * r + v)))] [] τ (xqV Q) := by
    intro m
    induction m with
    | zero =>
      intro v hv hp τ l7 hs h1 h2
      obtain rfl : v = 21 := by omega
      have e : (nI (21 * r + 21) ≤ nI (21 * r + 21)) = True := eq_true (Int32.le_refl _)
      rw [s50_75]
      simp only [s50_77, s50_78, s50_79, s50_80, s50_82, s50_83, s50_134, xcx_i, xcx_r, xcx_n, xcx_l, xcx_0, nI_1, m21', e, if_true]
      rw [hfar] at hQ
      exact hQ τ hs h1 h2
    | succ m ih =>
      intro v hv hp τ l7 hs h1 h2
      have hr1 : r + 1 ≤ 41 := by omega
      have e := lt4N (n := 21 * r + 21) (i := 21 * r + v) (by omega) (by omega)
      have e2 : ((861 : Int32) ≤ nI (21 * r + v)) = False := eq_false (fun q => by have := (nI_leI (a := 861) (b := 21 * r + v) (by decide) (by omega)).mp q; omega)
      have b0 : 21 * r + v < 100000 := by omega
      have c0 : 21 * r + v < 861 := by omega
      have hv1 := hpl v
      rw [if_pos hp] at hv1
      have r46 : τ.1 46 (21 * r + v) = iI (f46 (21 * r + v)) := by rw [h1 _ c0]; unfold adP; rw [if_neg (by omega)]
      have r47 : τ.1 47 (21 * r + v) = iI (f47 (21 * r + v)) := by rw [h2 _ c0]; unfold adP; rw [if_neg (by omega)]
      have hstep : K i * (sl + ((v + 1 : Nat) : Int)) = K i * (sl + v) + K i := by
        rw [show sl + ((v + 1 : Nat) : Int) = (sl + v) + 1 by omega, Int.mul_add, Int.mul_one]
      have ihh := ih (v + 1) (by omega) (by omega)
      rw [hstep] at ihh
      have nx : ∀ (f g : Nat → Int) (j : Nat), j < 861 → (if j = 21 * r + v then f (21 * r + v) + g v else adP f g r v j) = adP f g r (v + 1) j := by
        intro f g j hj
        unfold adP
        by_cases q : j = 21 * r + v
        · rw [if_pos q, if_pos (by omega), q, show 21 * r + v - 21 * r = v by omega]
        · rw [if_neg q]
          by_cases q2 : 21 * r ≤ j ∧ j < 21 * r + v
          · rw [if_pos q2, if_pos (by omega)]
          · rw [if_neg q2, if_neg (by omega)]
      rw [s50_75]
      simp only [s50_77, s50_78, s50_79, s50_80, s50_82, s50_83, s50_86, s50_88, s50_91, s50_94, s50_95, s50_98, s50_100, s50_101, s50_102, s50_104, s50_105, s50_106, s50_107, s50_110, s50_112, s50_113, s50_114, s50_116, s50_118, s50_119, s50_120, s50_121, s50_123, s50_125, s50_126, s50_128, s50_131, xcx_i, xcx_r, xcx_n, xcx_l, xcx_0, nI_1, m21', e, e2, if_false, xcl_46, xcl_47, xln_46, xln_47, b0, c0, cl_s, pos_s, true_and, si_rd, Nat.reduceEqDiff, false_and, r46, r47, iI_add, iI_mul]
      refine ihh _ _ (hs.tr ⟨fun k q1 q2 => by rw [si_ne q1, si_ne q2], rfl⟩) ?_ ?_
      · refine (rowI.si ((h1.ne (by decide)))).of (fun j hj => ?_)
        rw [← hv1]
        exact nx f46 (fun v => far.sign * plI W R K (uO r) (v : Nat) i) j hj
      · refine (rowI.ne (rowI.si h2) (by decide)).of (fun j hj => ?_)
        rw [← hv1]
        exact nx f47 (fun v => plI W R K (uO r) (v : Nat) i) j hj
  have e0 : (0 : Int32) = iI 0 := rfl
  have hmx : (if (0 : Int32) < iI (1 - sl) then iI (1 - sl) else 0) = nI ((max 0 (1 - sl)).toNat) := by
    rw [nI_iI, e0, mx_iI (by omega) (by omega) (by omega) (by omega)]
    congr 1; omega
  have habs : aI (iI far) = iI (far.natAbs : Int) := aI_iI (by omega) (by omega)
  have hone : (1 : Int32) - iI sl = iI (1 - sl) := iI_sub 1 sl
  have hcmp : (if iI far < 0 then (-1 : Int32) else if iI far = 0 then 0 else 1) = iI far.sign := sg_iI (by omega) (by omega)
  have hsl' : iI (far.natAbs : Int) - iI (R i) = iI sl := by rw [iI_sub, hsl]
  have hfr' : iI (W i) - iI (uO r) = iI far := by rw [iI_sub, hfar]
  generalize hfr : (max 0 (1 - sl)).toNat = fr at hmx
  have hfr2 : (fr : Int) = max 0 (1 - sl) := by omega
  have hpull : iI (K i) * (iI sl + nI fr) = iI (K i * (sl + fr)) := by rw [nI_iI, iI_add, iI_mul]
  rw [e50]
  simp only [s50_0, s50_1, s50_4, s50_5, s50_8, s50_9, s50_12, s50_13, s50_14, s50_15, s50_16, s50_19, s50_21, s50_22, s50_25, s50_26, s50_29, s50_30, s50_33, s50_34, s50_36, s50_37, s50_40, s50_41, s50_44, s50_46, s50_47, s50_48, s50_50, s50_51, s50_54, s50_56, s50_58, s50_60, s50_62, s50_63, s50_64, s50_66, s50_67, s50_69, s50_70, s50_72, s50_73, xcx_i, xcx_r, xcx_n, xcx_l, xcx_0, at_eq, xcl_40, xcl_41, xcl_43, xat40 i6, xat41 i6, xat43 i6, e40, e41, e43, rankToU_eq hr, compare_eq, absA, max_eq, hfr', hcmp, habs, hsl', hone, hmx, hpull, m21, nI_add]
  by_cases c : fr < 21
  · refine loop (21 - fr) fr (by omega) (by omega) σ _ (tabs.rf σ) (h46.of (fun j hj => ?_)) (h47.of (fun j hj => ?_))
    · unfold adP
      by_cases q : 21 * r ≤ j ∧ j < 21 * r + fr
      · rw [if_pos q]
        show f46 j = f46 j + far.sign * plI W R K (uO r) ((j - 21 * r : Nat) : Int) i
        rw [hpl, if_neg (by omega), Int.mul_zero, Int.add_zero]
      · rw [if_neg q]
    · unfold adP
      by_cases q : 21 * r ≤ j ∧ j < 21 * r + fr
      · rw [if_pos q]
        show f47 j = f47 j + plI W R K (uO r) ((j - 21 * r : Nat) : Int) i
        rw [hpl, if_neg (by omega), Int.add_zero]
      · rw [if_neg q]
  · have e : (nI (21 * r + 21) ≤ nI (21 * r + fr)) = True := eq_true ((nI_leI (by omega) (by omega)).mpr (by omega))
    rw [s50_75]
    simp only [s50_77, s50_78, s50_79, s50_80, s50_82, s50_83, s50_134, xcx_i, xcx_r, xcx_n, xcx_l, xcx_0, nI_1, m21', e, if_true]
    rw [hfar] at hQ
    refine hQ σ (tabs.rf σ) (h46.of (fun j hj => ?_)) (h47.of (fun j hj => ?_))
    · unfold adP
      by_cases q : 21 * r ≤ j ∧ j < 21 * r + 21
      · rw [if_pos q]
        show f46 j = f46 j + far.sign * plI W R K (uO r) ((j - 21 * r : Nat) : Int) i
        rw [hpl, if_neg (by omega), Int.mul_zero, Int.add_zero]
      · rw [if_neg q]
    · unfold adP
      by_cases q : 21 * r ≤ j ∧ j < 21 * r + 21
      · rw [if_pos q]
        show f47 j = f47 j + plI W R K (uO r) ((j - 21 * r : Nat) : Int) i
        rw [hpl, if_neg (by omega), Int.add_zero]
      · rw [if_neg q]
