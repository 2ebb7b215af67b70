/-! moved -/
def swD (D : Nat → Nat → Nat) (l v : Nat) : Nat → Nat → Nat := fun k => if k = 3 then upN (D 3) l v else D k
theorem swD_3 {D : Nat → Nat → Nat} {l v : Nat} : swD D l v 3 = upN (D 3) l v := rfl
theorem swD_b {n ns nr bow deck : Nat} {D E : Nat → Nat → Nat} {l v : Nat} (hb : sdB n ns nr bow deck D E) (hv : v ≤ 40) : sdB n ns nr bow deck (swD D l v) E := by
  obtain ⟨h1, h2, h3, h4, h5, h6, h7⟩ := hb
  refine ⟨h1, h2, h3, h4, h5, fun i hi => ?_, h7⟩
  obtain ⟨a1, a2, a3, a4, a5, a6⟩ := h6 i hi
  refine ⟨a1, a2, a3, ?_, a5, a6⟩
  rw [swD_3]; unfold upN; split <;> omega
def reX (D E : Nat → Nat → Nat) (bow deck hour n : Nat) (w s : Int) (l k : Nat) (u : Int) : Prop := ∃ v, isB (csF (wyF D E bow) (rmF (swD D l (D 3 l + k)) E bow deck hour) (hdF D E) (2 ^ n - 1) n w s) u v
def mvR (D E : Nat → Nat → Nat) (bow deck hour n : Nat) (w s : Int) (l : Nat) (a : Int32) (r : Nat) : Prop := r ≤ 21 ∧ (∀ k, 1 ≤ k → k < r → ∃ u, reX D E bow deck hour n w s l k u ∧ ¬ iI u = a) ∧ (r = 21 ∨ (1 ≤ r ∧ ∃ u, reX D E bow deck hour n w s l r u ∧ iI u = a))
theorem rm_up {D E : Nat → Nat → Nat} {bow deck hour l v i : Nat} : rmF (swD D l (v + 1)) E bow deck hour i = rmF (swD D l v) E bow deck hour i + if i = l then 1 else 0 := by
  show ((wyF D E bow i).natAbs : Int) + ((((deck : Int) - E 4 (D 5 i)).natAbs : Int) + (upN (D 3) l (v + 1) i : Nat) - (((deck : Int) - E 4 hour).natAbs : Int)) = ((wyF D E bow i).natAbs : Int) + ((((deck : Int) - E 4 (D 5 i)).natAbs : Int) + (upN (D 3) l v i : Nat) - (((deck : Int) - E 4 hour).natAbs : Int)) + _
  unfold upN
  split <;> omega
theorem Xslacken {τ : xM} {n l v ns nr bow deck hour : Nat} {D E : Nat → Nat → Nat} {Q : xM → Prop} (hb : sdB n ns nr bow deck D E) (hl : l < n) (hv : v + 1 ≤ 40) (hM : moX τ n (2 ^ n - 1) (wyF D E bow) (rmF (swD D l v) E bow deck hour) (hdF D E) (brF D E) (D 1)) (hQ : ∀ τ', xSim τ τ' → moX τ' n (2 ^ n - 1) (wyF D E bow) (rmF (swD D l (v + 1)) E bow deck hour) (hdF D E) (brF D E) (D 1) → τ'.1 38 7 = 0 → Q τ') : xV 45 [.ref 38, .int (nI l)] τ Q := by
  obtain ⟨hld, hH, h0, h1, hrow⟩ := hM
  have hn6 := hb.1
  have l6 : l < 6 := by omega
  have e41 := (hrow l hl).2.1
  have ep : iI (rmF (swD D l v) E bow deck hour l) + 1 = iI (rmF (swD D l (v + 1)) E bow deck hour l) := by
    rw [rm_up, if_pos rfl, show (1 : Int32) = iI 1 from rfl, iI_add]
  have hx : ∀ x, xpt τ 41 (nI l) x = xe_si τ 41 l x := fun x => xpt_n (by rw [xln_41]; omega)
  have ha : xat τ 41 (nI l) = τ.1 41 l := xat_n (by rw [xln_41]; omega)
  rw [e45]
  simp only [s45_0, s45_1, s45_4, s45_5, s45_6, s45_9, s45_10, s45_13, s45_14, s45_15, s45_18, s45_19, s45_20, s45_23, xcx_i, xcx_r, xcx_n, xcx_l, xcx_0, at_eq, put_eq, xcl_41, ha, e41, ep, hx, true_or, or_true, true_and]
  refine hQ (xe_si (xe_si τ 41 l (iI (rmF (swD D l (v + 1)) E bow deck hour l))) 38 7 0) (((xSim.rf τ).si rfl).si rfl) ⟨(swD_b hb hv).ld hour (Nat.le_refl n), hH, ?_, ?_, fun i hi => ?_⟩ rfl
  · rw [si_rd, if_neg (fun z => by omega), si_ne (by decide)]; exact h0
  · rw [si_rd, if_neg (fun z => by omega), si_ne (by decide)]; exact h1
  · obtain ⟨r1, r2, r3, r4, r5⟩ := hrow i hi
    refine ⟨by rw [si_ne (by decide), si_ne (by decide)]; exact r1, ?_, by rw [si_ne (by decide), si_ne (by decide)]; exact r3, by rw [si_ne (by decide), si_ne (by decide)]; exact r4, by rw [si_ne (by decide), si_ne (by decide)]; exact r5⟩
    rw [si_ne (by decide), si_rd]
    by_cases c : i = l
    · subst c; rw [if_pos ⟨rfl, rfl⟩]
    · rw [if_neg (fun z => c z.2), r2, rm_up, if_neg c, Int.add_zero]
def mov (l : Nat) (σ τ : xM) : Prop := (∀ k j, ¬ (k = 84 ∧ (j = 52 ∨ j = 53)) → ¬ (k = 98 ∧ j = 6 * l + 3) → τ.1 k j = σ.1 k j) ∧ τ.2.2 = σ.2.2
theorem mov.sd {σ τ : xM} {n ns nr bow deck l v : Nat} {D E : Nat → Nat → Nat} (h : sdM σ n ns nr bow deck D E) (hm : mov l σ τ) (hl : τ.1 98 (6 * l + 3) = nI v) : sdM τ n ns nr bow deck (swD D l v) E := by
  obtain ⟨h1, ⟨h2, h3⟩, h4, h5, h6, h7⟩ := h
  have c84 : ∀ j, j ≠ 52 → j ≠ 53 → τ.1 84 j = σ.1 84 j := fun j q1 q2 => hm.1 84 j (fun z => z.2.elim q1 q2) (fun z => by omega)
  have row : ∀ k, k ≠ 84 → k ≠ 98 → ∀ j, τ.1 k j = σ.1 k j := fun k q1 q2 j => hm.1 k j (fun z => q1 z.1) (fun z => q2 z.1)
  have c98 : ∀ j, j ≠ 6 * l + 3 → τ.1 98 j = σ.1 98 j := fun j q => hm.1 98 j (fun z => by omega) (fun z => q z.2)
  refine ⟨by rw [c84 17 (by decide) (by decide)]; exact h1, ⟨by rw [c84 29 (by decide) (by decide)]; exact h2, by rw [c84 30 (by decide) (by decide)]; exact h3⟩, fun i hi => ?_, fun s hs => ?_, fun r hr => ?_, fun h => ?_⟩
  · obtain ⟨a0, a1, a2, a3, a4, a5⟩ := h4 i hi
    refine ⟨by rw [c98 _ (by omega)]; exact a0, by rw [c98 _ (by omega)]; exact a1, by rw [c98 _ (by omega)]; exact a2, ?_, by rw [c98 _ (by omega)]; exact a4, by rw [c98 _ (by omega)]; exact a5⟩
    rw [swD_3]; unfold upN
    by_cases c : i = l
    · subst c; rw [if_pos rfl]; exact hl
    · rw [if_neg c, c98 _ (by omega)]; exact a3
  · rw [row 92 (by decide) (by decide), row 92 (by decide) (by decide)]; exact h5 s hs
  · rw [row 93 (by decide) (by decide), row 93 (by decide) (by decide)]; exact h6 r hr
  · rw [row 96 (by decide) (by decide)]; exact h7 h
theorem mov.mrs {σ τ τ' : xM} {l : Nat} (h : mov l σ τ) (hr : mrs τ τ') : mov l σ τ' := ⟨fun k j q1 q2 => (hr.1 k j q1).trans (h.1 k j q1 q2), hr.2.trans h.2⟩
theorem mov.si {σ τ : xM} {l : Nat} {x : Int32} (h : mov l σ τ) : mov l σ (xe_si τ 98 (6 * l + 3) x) := ⟨fun k j q1 q2 => by rw [si_rd, if_neg q2]; exact h.1 k j q1 q2, h.2⟩
theorem Mmo_loop {σ : xM} {n ns nr bow deck hour l : Nat} {D E : Nat → Nat → Nat} {w s : Int} {a : Int32} {r : Nat} {Q : Int32 → xM → Prop} (h : sdM σ n ns nr bow deck D E) (hb : sdB n ns nr bow deck D E) (hln : l < n) (h20 : D 3 l ≤ 20) (hh : hour ≤ 99) (hl : σ.1 84 31 = nI n) (hw : 0 ≤ w ∧ w ≤ 999) (hs : -99 ≤ s ∧ s ≤ 99) (hr : mvR D E bow deck hour n w s l a r) (hQ : ∀ τ', mrs σ τ' → Q (if r = 21 then -1 else nI r) τ') : ∀ f k, 1 ≤ k → k + f = r → ∀ τ, mov l σ τ → xC 206 48 [some (.ref 84), some (.int (nI hour)), some (.int (iI w)), some (.int (iI s)), some (.int (nI l)), some (.int a), some (.int (nI (D 3 l))), some (.int (-1)), some (.int (nI k))] [] τ (xqI Q) := by
  have hn6 := hb.1
  have l6 : l < 6 := by omega
  have b0 : 6 * l + 3 < 100000 := by omega
  have c0 : 6 * l + 3 < 36 := by omega
  obtain ⟨hr1, hr2, hr3⟩ := hr
  have hend : ∀ τ, mov l σ τ → mrs σ (xe_si τ 98 (6 * l + 3) (nI (D 3 l))) := by
    intro τ hm
    refine ⟨fun k j q => ?_, hm.2⟩
    rw [si_rd]
    by_cases c : k = 98 ∧ j = 6 * l + 3
    · rw [if_pos c, c.1, c.2]
      exact ((h.2.2.1 l hln).2.2.2.1).symm
    · rw [if_neg c]; exact hm.1 k j q c
  have hstep : ∀ k τ, k ≤ 20 → mov l σ τ → ∀ Q : xM → Prop, (∀ τ2 u, mov l σ τ2 → τ2.1 84 52 = iI u → reX D E bow deck hour n w s l k u → Q τ2) → xV 196 [.ref 84, .int (nI hour), .int (iI w), .int (iI s), .int (nI (2 ^ n - 1))] (xe_si τ 98 (6 * l + 3) (nI (D 3 l + k))) Q := by
    intro k τ hk hm Q hQ
    have hm2 : mov l σ (xe_si τ 98 (6 * l + 3) (nI (D 3 l + k))) := hm.si
    have hX := hm2.sd h (v := D 3 l + k) (by rw [si_rd, if_pos ⟨rfl, rfl⟩])
    refine MfindsRest hX (swD_b hb (by omega)) hh (Nat.le_refl n) ?_ (all64 hn6) hw hs (fun τ2 u v hr hu hv hB => ?_)
    · exact (hm2.1 84 31 (fun z => by omega) (fun z => by omega)).trans hl
    · exact hQ τ2 u (hm2.mrs hr) hu ⟨v, hB⟩
  intro f
  induction f with
  | zero =>
    intro k hk hi τ hm
    obtain rfl : k = r := by omega
    have hq := hQ _ (hend τ hm)
    rw [s206_48]
    rcases hr3 with rfl | ⟨h1, u, hre, hu⟩
    · rw [if_pos rfl] at hq
      simp only [s206_50, s206_52, s206_108, s206_109, s206_112, s206_114, s206_116, s206_117, s206_118, s206_119, s206_121, s206_122, s206_124, xcx_i, xcx_r, xcx_n, xcx_l, xcx_0, show ((20 : Int32) < nI 21) = True from eq_true (by decide), if_true, xcl_98, xln_98, ml_6, al_3, b0, c0, cl_s, pos_s, true_and, or_true]
      exact hq
    · by_cases c : k = 21
      · subst c
        rw [if_pos rfl] at hq
        simp only [s206_50, s206_52, s206_108, s206_109, s206_112, s206_114, s206_116, s206_117, s206_118, s206_119, s206_121, s206_122, s206_124, xcx_i, xcx_r, xcx_n, xcx_l, xcx_0, show ((20 : Int32) < nI 21) = True from eq_true (by decide), if_true, xcl_98, xln_98, ml_6, al_3, b0, c0, cl_s, pos_s, true_and, or_true]
        exact hq
      · have e : ((20 : Int32) < nI k) = False := eq_false (fun q => by have q2 : nI 20 < nI k := q; rw [nI_ltL (by decide) (by omega)] at q2; omega)
        have hlτ : τ.1 84 31 = nI n := (hm.1 84 31 (fun z => by omega) (fun z => by omega)).trans hl
        have hl2 : (xe_si τ 98 (6 * l + 3) (nI (D 3 l + k))).1 84 31 = nI n := by rw [si_ne (by decide)]; exact hlτ
        simp only [s206_50, s206_52, s206_55, s206_57, s206_58, s206_61, s206_62, s206_65, s206_67, s206_69, s206_70, s206_71, s206_72, s206_74, s206_76, s206_77, s206_78, s206_79, s206_80, s206_81, s206_82, s206_83, s206_86, xcx_i, xcx_r, xcx_n, xcx_l, xcx_0, e, not_true, if_true, if_false, xcl_98, xln_98, ml_6, al_3, nI_add, b0, c0, cl_s, pos_s, true_and, or_true, Mall_eq hl2 hn6]
        refine hstep k τ (by omega) hm _ (fun τ2 u' hm2 h52 hre' => ?_)
        obtain ⟨v, hB⟩ := hre
        obtain ⟨v', hB'⟩ := hre'
        obtain ⟨rfl, rfl⟩ := isB_eq hB hB'
        have hq := hQ _ (hend τ2 hm2)
        rw [if_neg c] at hq
        by_cases c2 : k = 20
        · subst c2
          simp only [s206_89, s206_90, s206_93, s206_95, s206_98, s206_100, s206_102, s206_105, xcx_i, xcx_r, xcx_n, xcx_l, xcx_0, h52, hu, not_true, if_true, if_false, nI_1]
          rw [s206_48]
          simp only [s206_50, s206_52, s206_108, s206_109, s206_112, s206_114, s206_116, s206_117, s206_118, s206_119, s206_121, s206_122, s206_124, xcx_i, xcx_r, xcx_n, xcx_l, xcx_0, show ((20 : Int32) < nI 21) = True from eq_true (by decide), if_true, xcl_98, xln_98, ml_6, al_3, b0, c0, cl_s, pos_s, true_and, or_true]
          exact hq
        · have e2 : ((20 : Int32) < nI (k + 1)) = False := eq_false (fun q => by have q2 : nI 20 < nI (k + 1) := q; rw [nI_ltL (by decide) (by omega)] at q2; omega)
          have em : (nI k = -1) = False := nI_m1 (by omega)
          simp only [s206_89, s206_90, s206_93, s206_95, s206_98, s206_100, s206_102, s206_105, xcx_i, xcx_r, xcx_n, xcx_l, xcx_0, h52, hu, not_true, if_true, if_false, nI_1]
          rw [s206_48]
          simp only [s206_50, s206_52, s206_55, s206_57, s206_58, s206_108, s206_109, s206_112, s206_114, s206_116, s206_117, s206_118, s206_119, s206_121, s206_122, s206_124, xcx_i, xcx_r, xcx_n, xcx_l, xcx_0, e2, em, not_false_eq_true, if_true, if_false, xcl_98, xln_98, ml_6, al_3, b0, c0, cl_s, pos_s, true_and, or_true]
          exact hq
  | succ f ih =>
    intro k hk hi τ hm
    have e : ((20 : Int32) < nI k) = False := eq_false (fun q => by have q2 : nI 20 < nI k := q; rw [nI_ltL (by decide) (by omega)] at q2; omega)
    have hlτ : τ.1 84 31 = nI n := (hm.1 84 31 (fun z => by omega) (fun z => by omega)).trans hl
    have hl2 : (xe_si τ 98 (6 * l + 3) (nI (D 3 l + k))).1 84 31 = nI n := by rw [si_ne (by decide)]; exact hlτ
    rw [s206_48]
    simp only [s206_50, s206_52, s206_55, s206_57, s206_58, s206_61, s206_62, s206_65, s206_67, s206_69, s206_70, s206_71, s206_72, s206_74, s206_76, s206_77, s206_78, s206_79, s206_80, s206_81, s206_82, s206_83, s206_86, xcx_i, xcx_r, xcx_n, xcx_l, xcx_0, e, not_true, if_true, if_false, xcl_98, xln_98, ml_6, al_3, nI_add, b0, c0, cl_s, pos_s, true_and, or_true, Mall_eq hl2 hn6]
    refine hstep k τ (by omega) hm _ (fun τ2 u' hm2 h52 hre' => ?_)
    obtain ⟨u, ⟨v, hB⟩, hu⟩ := hr2 k hk (by omega)
    obtain ⟨v', hB'⟩ := hre'
    obtain ⟨rfl, rfl⟩ := isB_eq hB hB'
    simp only [s206_89, s206_90, s206_93, s206_95, s206_98, s206_100, s206_102, s206_105, xcx_i, xcx_r, xcx_n, xcx_l, xcx_0, h52, hu, not_false_eq_true, if_true, if_false, nI_1]
    exact ih (k + 1) (by omega) (by omega) τ2 hm2
theorem Xmo_loop {σ : xM} {n ns nr bow deck hour l p : Nat} {D E : Nat → Nat → Nat} {w s : Int} {a : Int32} {Q : Int32 → xM → Prop} (h : sdX σ p n ns nr bow deck D E) (hb : sdB n ns nr bow deck D E) (hln : l < n) (h20 : D 3 l ≤ 20) (hw : 0 ≤ w ∧ w ≤ 999) (hs : -99 ≤ s ∧ s ≤ 99) (hQ : ∀ τ r, xSim σ τ → mvR D E bow deck hour n w s l a r → Q (if r = 21 then -1 else nI r) τ) : ∀ f k, k + f = 20 → ∀ τ, xSim σ τ → moX τ n (2 ^ n - 1) (wyF D E bow) (rmF (swD D l (D 3 l + k)) E bow deck hour) (hdF D E) (brF D E) (D 1) → (∀ k', 1 ≤ k' → k' < k + 1 → ∃ u, reX D E bow deck hour n w s l k' u ∧ ¬ iI u = a) → xC 123 62 [some (.ref 0), some (.int (nI hour)), some (.int (iI w)), some (.int (iI s)), some (.int (nI l)), some (.int a), some (.int (nI (k + 1)))] [] τ (xqI Q) := by
  intro f
  induction f with
  | zero =>
    intro k hk τ hsim hM hlow
    obtain rfl : k = 20 := by omega
    have hq := hQ τ 21 hsim ⟨Nat.le_refl _, hlow, Or.inl rfl⟩
    rw [if_pos rfl] at hq
    rw [s123_62]
    simp only [s123_64, s123_66, s123_108, s123_109, xcx_i, xcx_r, xcx_n, xcx_l, xcx_0, show ((20 : Int32) < nI (20 + 1)) = True from eq_true (by decide), if_true]
    exact hq
  | succ f ih =>
    intro k hk τ hsim hM hlow
    have e : ((20 : Int32) < nI (k + 1)) = False := eq_false (fun q => by have q2 : nI 20 < nI (k + 1) := q; rw [nI_ltL (by decide) (by omega)] at q2; omega)
    rw [s123_62]
    simp only [s123_64, s123_66, s123_69, s123_70, s123_73, s123_75, xcx_i, xcx_r, xcx_n, xcx_l, xcx_0, e, if_false]
    refine Xslacken hb hln (by omega) hM (fun τ1 hs1 hM1 h71 => ?_)
    simp only [s123_78, s123_79, s123_82, s123_83, s123_84, xcx_i, xcx_r, xcx_n, xcx_l, xcx_0]
    refine Xsettle hM1 (Or.inl h71) hw hs (fun τ2 u v hg _ _ hB hS => ?_)
    have hsim2 := (hsim.tr hs1).tr hg.sim
    have hu2 := hS.1
    have hre : reX D E bow deck hour n w s l (k + 1) u := ⟨v, hB⟩
    by_cases c : iI u = a
    · have hq := hQ τ2 (k + 1) hsim2 ⟨by omega, hlow, Or.inr ⟨by omega, u, hre, c⟩⟩
      rw [if_neg (by omega)] at hq
      simp only [s123_87, s123_88, s123_91, s123_94, s123_96, s123_99, s123_101, xcx_i, xcx_r, xcx_n, xcx_l, xcx_0, hu2, c, not_true, if_true, if_false]
      exact hq
    · simp only [s123_87, s123_88, s123_91, s123_94, s123_96, s123_99, s123_101, s123_102, s123_105, xcx_i, xcx_r, xcx_n, xcx_l, xcx_0, hu2, c, not_false_eq_true, if_true, if_false, nI_1]
      exact ih (k + 1) (by omega) τ2 hsim2 (hM1.mog hg) (fun k' q1 q2 => by
        rcases Nat.lt_or_eq_of_le (Nat.le_of_lt_succ q2) with q | q
        · exact hlow k' q1 q
        · subst q; exact ⟨u, hre, c⟩)
