/-! the class reads one row -/
theorem r93_12 {p : Nat} (hp : p = 4 ∨ p = 7) {l0 l1 l2 l3 l4 l5 l6 : Option Value} {x1 : Int32} {σ : xM} {Q : Option Value → xM → Prop} : xC 93 12 [l0, l1, l2, l3, l4, l5, l6] [.int x1, .ref p] σ Q = xI1 67 [.ref p, .int x1] σ (fun r σ' => xC 93 15 [l0, l1, l2, l3, l4, l5, l6] [.int r] σ' Q) := by
  rcases hp with rfl | rfl
  · exact s93_12_4
  · exact s93_12_7
theorem r93_57 {p : Nat} (hp : p = 4 ∨ p = 7) {l0 l1 l2 l3 l4 l5 l6 : Option Value} {x1 : Int32} {x2 : Int32} {x3 : Int32} {σ : xM} {Q : Option Value → xM → Prop} : xC 93 57 [l0, l1, l2, l3, l4, l5, l6] [.int x3, .int x2, .int x1, .ref p] σ Q = xI1 68 [.ref p, .int x1, .int x2, .int x3] σ (fun r σ' => xC 93 60 [l0, l1, l2, l3, l4, l5, l6] [.int r] σ' Q) := by
  rcases hp with rfl | rfl
  · exact s93_57_4
  · exact s93_57_7
theorem r93_72 {p : Nat} (hp : p = 4 ∨ p = 7) {l0 l1 l2 l3 l4 l5 l6 : Option Value} {x1 : Int32} {x2 : Int32} {x3 : Int32} {σ : xM} {Q : Option Value → xM → Prop} : xC 93 72 [l0, l1, l2, l3, l4, l5, l6] [.int x3, .int x2, .int x1, .ref p] σ Q = xV 70 [.ref p, .int x1, .int x2, .int x3] σ (fun σ' => xC 93 75 [l0, l1, l2, l3, l4, l5, l6] [] σ' Q) := by
  rcases hp with rfl | rfl
  · exact s93_72_4
  · exact s93_72_7
theorem r93_111 {p : Nat} (hp : p = 4 ∨ p = 7) {l0 l1 l2 l3 l4 l5 l6 : Option Value} {x1 : Int32} {σ : xM} {Q : Option Value → xM → Prop} : xC 93 111 [l0, l1, l2, l3, l4, l5, l6] [.int x1, .ref p] σ Q = xV 71 [.ref p, .int x1] σ (fun σ' => xC 93 114 [l0, l1, l2, l3, l4, l5, l6] [] σ' Q) := by
  rcases hp with rfl | rfl
  · exact s93_111_4
  · exact s93_111_7
def frH (p : Nat) (σ τ : xM) : Prop := (∀ k j, k ≠ p + 1 → k ≠ p + 2 → ¬ (k = 2 ∧ j = 2) → τ.1 k j = σ.1 k j) ∧ τ.2.2 = σ.2.2
theorem frH.rf (p : Nat) (σ : xM) : frH p σ σ := ⟨fun _ _ _ _ _ => rfl, rfl⟩
theorem frH.tr {p : Nat} {a b c : xM} (h1 : frH p a b) (h2 : frH p b c) : frH p a c := ⟨fun k j q1 q2 q3 => (h2.1 k j q1 q2 q3).trans (h1.1 k j q1 q2 q3), h2.2.trans h1.2⟩
theorem frH.he {p j : Nat} {a b c : xM} (h1 : frH p a b) (h2 : heM b c j) : frH p a c := ⟨fun k j q1 q2 q3 => (h2.1 k j q3).trans (h1.1 k j q1 q2 q3), h2.2.1.trans h1.2⟩
theorem frH.dr {p : Nat} {a b c : xM} (h1 : frH p a b) (h2 : drM p b c) : frH p a c := ⟨fun k j q1 q2 q3 => (congrFun (h2.1 k q1 q2) j).trans (h1.1 k j q1 q2 q3), h2.2.trans h1.2⟩
theorem frH.txt {p n : Nat} {σ τ : xM} {bt : Nat → Nat} (hp : p = 4 ∨ p = 7) (h : txt σ n bt) (hr : frH p σ τ) : txt τ n bt := by
  obtain ⟨h1, h2, h3, h4⟩ := h
  refine ⟨h1, (hr.1 2 1 (by omega) (by omega) (by omega)).trans h2, (hr.1 84 1 (by omega) (by omega) (by omega)).trans h3, fun i hi => ?_⟩
  rw [hr.1 3 i (by omega) (by omega) (by omega), hr.1 85 i (by omega) (by omega) (by omega)]
  exact h4 i hi
theorem drT.he {p j : Nat} {σ τ : xM} {N T : Nat → Nat} (hp : p = 4 ∨ p = 7) (h : drT σ p N T) (hr : heM σ τ j) : drT τ p N T :=
  ⟨fun i hi => by rw [hr.1 (p + 1) i (by omega)]; exact h.1 i hi, fun k hk => by rw [hr.1 (p + 2) k (by omega)]; exact h.2 k hk⟩
theorem nuE_bd {bt : Nat → Nat} : ∀ m i, (∀ j, j < m → 48 ≤ bt (i + j) ∧ bt (i + j) ≤ 57) → ∀ a, -1 ≤ a → a ≤ 10000 → -1 ≤ nuE bt m i a ∧ nuE bt m i a ≤ 10000 := by
  intro m
  induction m with
  | zero => intro i _ a h1 h2; exact ⟨h1, h2⟩
  | succ m ih =>
    intro i hd a h1 h2
    have h0 := hd 0 (Nat.succ_pos m)
    rw [Nat.add_zero] at h0
    rw [show nuE bt (m + 1) i a = nuE bt m (i + 1) (if a = -1 then (bt i : Int) - 48 else min (a * 10 + ((bt i : Int) - 48)) 10000) from rfl]
    refine ih (i + 1) (fun j hj => ?_) _ ?_ ?_
    · have := hd (j + 1) (by omega)
      rw [show i + (j + 1) = i + 1 + j by omega] at this
      exact this
    · split <;> omega
    · split <;> omega
theorem nuA_fold {bt : Nat → Nat} {n i : Nat} : nuE bt (runE isDg bt n (n - i) i - i) i (-1) = nuA bt n i := rfl
theorem nuA_bd {bt : Nat → Nat} {n i : Nat} (hi : i ≤ n) : -1 ≤ nuA bt n i ∧ nuA bt n i ≤ 10000 := by
  obtain ⟨g1, g2, g3, g4⟩ := runE_bd (P := isDg) (bt := bt) (n := n) (n - i) i (by omega)
  unfold nuA
  refine nuE_bd _ i (fun j hj => ?_) (-1) (by omega) (by omega)
  have := g4 (i + j) (by omega) (by omega)
  rw [isDg_iff] at this
  exact this
theorem Xfields {p : Nat} {σ : xM} {n k i0 : Nat} {bt T : Nat → Nat} {Q : Int32 → xM → Prop} (hp : p = 4 ∨ p = 7) (h : txt σ n bt) (hk : k < 7) (hT : T k < mxT k) : ∀ m f N i, f + m = ptN k → i ≤ n → ∀ τ l5 l6, frH p σ τ → τ.1 2 2 = nI i → drT τ p N T → (∀ τ' l5 l6, (fR bt n k T m f N i).1 = true → frH p σ τ' → τ'.1 2 2 = nI (fR bt n k T m f N i).2.2 → drT τ' p (fR bt n k T m f N i).2.1 T → xC 93 81 [some (.ref 2), some (.ref p), some (.int (nI i0)), some (.int (nI k)), some (.int (nI (ptN k))), l5, l6] [] τ' (xqI Q)) → (∀ τ', ¬ (fR bt n k T m f N i).1 = true → frH p σ τ' → Q (nI (fR bt n k T m f N i).2.2) τ') → xC 93 23 [some (.ref 2), some (.ref p), some (.int (nI i0)), some (.int (nI k)), some (.int (nI f)), l5, l6] [] τ (xqI Q) := by
  obtain ⟨-, tN⟩ := tab_all k hk
  obtain ⟨-, mx8, pN6⟩ := mx_all k hk
  have hend := pt_end k hk
  intro m
  induction m with
  | zero =>
    intro f N i hf hi τ l5 l6 hr he hd hQ1 hQ0
    obtain rfl : f = ptN k := by omega
    rw [s93_23]
    simp only [s93_25, s93_28, s93_29, s93_32, xcx_i, xcx_r, xcx_n, xcx_l, xcx_0, at_t1, tN, Int32.le_refl, if_true]
    exact hQ1 τ l5 l6 rfl hr he hd
  | succ m ih =>
    intro f N i hf hi τ l5 l6 hr he hd hQ1 hQ0
    obtain ⟨g1, g2, -, -⟩ := runE_bd (P := isBl) (bt := bt) (n := n) (n - i) i (by omega)
    obtain ⟨g3, g4, -, -⟩ := runE_bd (P := isDg) (bt := bt) (n := n) (n - runE isBl bt n (n - i) i) (runE isBl bt n (n - i) i) (by omega)
    have e : (nI (ptN k) ≤ nI f) = False := eq_false (fun q => by rw [nI_leI (by omega) (by omega)] at q; omega)
    rw [s93_23]
    simp only [s93_25, s93_28, s93_29, s93_32, s93_35, s93_36, xcx_i, xcx_r, xcx_n, xcx_l, xcx_0, at_t1, tN, e, if_false]
    refine XskipBlanks (frH.txt hp h hr) hi he (fun τ1 h1 => ?_)
    simp only [s93_39, s93_40, s93_43, s93_45, s93_46, xcx_i, xcx_r, xcx_n, xcx_l, xcx_0, h1.2.2]
    refine XreadNumber (heM.txt (frH.txt hp h hr) h1) g2 h1.2.2 (fun τ2 h2 => ?_)
    have hd2 := drT.he hp (drT.he hp hd h1) h2
    have hr2 := (hr.he h1).he h2
    have hb := nuA_bd (bt := bt) g2
    simp only [s93_49, s93_51, s93_52, s93_53, s93_55, xcx_i, xcx_r, xcx_n, xcx_l, xcx_0, r93_57 hp, nuA_fold]
    refine XmayTell (f := f) (v := nuA bt n (runE isBl bt n (n - i) i)) hp hd2 hk (by omega) hT hb (fun hm => ?_) (fun hm => ?_)
    · have hmB : mayB k f (nuA bt n (runE isBl bt n (n - i) i)) N T = true := by rw [mayB_iff]; exact hm
      rw [show fR bt n k T (m + 1) f N i = fR bt n k T m (f + 1) (upN N (ptA k + T k * ptN k + f) (nuA bt n (runE isBl bt n (n - i) i)).toNat) (runE isDg bt n (n - runE isBl bt n (n - i) i) (runE isBl bt n (n - i) i)) from if_pos hmB] at hQ1 hQ0
      have hpi := pt_in (k := k) (t := T k) (f := f) hT (by omega)
      have h54 : ptA k + T k * ptN k + f < 54 := by omega
      have hvl : 0 ≤ nuA bt n (runE isBl bt n (n - i) i) := by have := hm.1; omega
      have ev : iI (nuA bt n (runE isBl bt n (n - i) i)) = nI (nuA bt n (runE isBl bt n (n - i) i)).toNat := by rw [nI_iI, Int.toNat_of_nonneg hvl]
      have hr3 : frH p σ (xe_si τ2 (p + 1) (ptA k + T k * ptN k + f) (iI (nuA bt n (runE isBl bt n (n - i) i)))) := ⟨fun a b q1 q2 q3 => by rw [si_rd, if_neg (fun z => q1 z.1)]; exact hr2.1 a b q1 q2 q3, hr2.2⟩
      have hd3 : drT (xe_si τ2 (p + 1) (ptA k + T k * ptN k + f) (iI (nuA bt n (runE isBl bt n (n - i) i)))) p (upN N (ptA k + T k * ptN k + f) (nuA bt n (runE isBl bt n (n - i) i)).toNat) T := by
        refine ⟨fun j hj => ?_, fun l hl => ?_⟩
        · rw [si_rd]
          unfold upN
          by_cases z : j = ptA k + T k * ptN k + f
          · rw [if_pos ⟨rfl, z⟩, if_pos z]
            exact ⟨ev, by omega⟩
          · rw [if_neg (fun y => z y.2), if_neg z]
            exact hd2.1 j hj
        · rw [si_rd, if_neg (fun y => by omega)]
          exact hd2.2 l hl
      have he3 : (xe_si τ2 (p + 1) (ptA k + T k * ptN k + f) (iI (nuA bt n (runE isBl bt n (n - i) i)))).1 2 2 = nI (runE isDg bt n (n - runE isBl bt n (n - i) i) (runE isBl bt n (n - i) i)) := by
        rw [si_rd, if_neg (fun y => by omega)]; exact h2.2.2
      have next := ih (f + 1) _ _ (by omega) g4 _ (some (.int (nI (runE isBl bt n (n - i) i)))) (some (.int (iI (nuA bt n (runE isBl bt n (n - i) i))))) hr3 he3 hd3 hQ1 hQ0
      have tl : ∀ Q : xM → Prop, xV 70 [.ref p, .int (nI k), .int (nI f), .int (iI (nuA bt n (runE isBl bt n (n - i) i)))] τ2 Q = _ := fun Q => Xtell hp hk (hd2.2 k hk).1 h54
      simp only [s93_60, s93_63, s93_65, s93_66, s93_67, s93_68, s93_70, s93_72_4, s93_72_7, s93_75, s93_78, xcx_i, xcx_r, xcx_n, xcx_l, xcx_0, r93_72 hp, show ((1 : Int32) = 0) = False from eq_false (by decide), not_false_eq_true, if_true, tl, nI_1, true_or, or_true, true_and]
      exact next
    · have hmB : ¬ mayB k f (nuA bt n (runE isBl bt n (n - i) i)) N T = true := by rw [mayB_iff]; exact hm
      rw [show fR bt n k T (m + 1) f N i = (false, N, runE isBl bt n (n - i) i) from if_neg hmB] at hQ1 hQ0
      have hq := hQ0 τ2 (fun z => by cases z) hr2
      simp only [s93_60, s93_63, s93_65, xcx_i, xcx_r, xcx_n, xcx_l, xcx_0, not_true, if_false, true_or, or_true, true_and]
      exact hq
theorem XreadOne {p : Nat} {σ : xM} {n i : Nat} {bt N T : Nat → Nat} {Q : Int32 → xM → Prop} (hp : p = 4 ∨ p = 7) (h : txt σ n bt) (hi : i ≤ n) (he : σ.1 2 2 = nI i) (hd : drT σ p N T) (hQ1 : ∀ τ, (rowR bt n N T i).1 = true → frH p σ τ → τ.1 2 2 = nI (rowR bt n N T i).2.2.2 → drT τ p (rowR bt n N T i).2.1 (rowR bt n N T i).2.2.1 → Q (-1) τ) (hQ0 : ∀ τ, ¬ (rowR bt n N T i).1 = true → frH p σ τ → Q (nI (rowR bt n N T i).2.2.2) τ) : xI1 93 [.ref 2, .ref p] σ Q := by
  have hn := h.1
  obtain ⟨g1, g2, -, -⟩ := runE_bd (P := isLt) (bt := bt) (n := n) (n - i) i (by omega)
  rw [e93]
  simp only [s93_0, s93_1, s93_4, s93_5, s93_6, xcx_i, xcx_r, xcx_n, xcx_l, xcx_0, he]
  refine XreadKind h hi he (fun τ1 r h1 hk => ?_)
  simp only [s93_9, s93_10, s93_11, xcx_i, xcx_r, xcx_n, xcx_l, xcx_0]
  have hd1 := drT.he hp hd h1
  have hr1 := (frH.rf p σ).he h1
  unfold rowR at hQ1 hQ0
  generalize runE isLt bt n (n - i) i = j at g1 g2 h1 hk hQ1 hQ0
  rcases kdR_eq hk with ⟨k7, rfl⟩ | ⟨k7, rfl⟩
  · generalize kdF bt i j = k at k7 hQ1 hQ0 hk
    obtain ⟨t0, mx8, pN6⟩ := mx_all k k7
    obtain ⟨tk, tk2⟩ := hd1.2 k k7
    have er : (nI (T k) < nI (mxT k)) = (T k < mxT k) := propext (nI_ltI (by omega) (by omega))
    have hro : ∀ Q : Int32 → xM → Prop, xI1 67 [.ref p, .int (nI k)] τ1 Q = Q (xb (T k < mxT k)) τ1 := fun Q => by
      rw [XhasRoom hp k7, tk, t0]
      refine congrArg (fun z => Q z τ1) ?_
      unfold xb
      by_cases z : T k < mxT k
      · rw [if_pos z, if_pos (by rw [er]; exact z)]
      · rw [if_neg z, if_neg (by rw [er]; exact z)]
    by_cases c : T k < mxT k
    · rw [if_pos ⟨k7, c⟩] at hQ1 hQ0
      have loop := Xfields (i0 := i) (Q := Q) hp h k7 c (ptN k) 0 N j (by omega) g2 τ1 none none hr1 h1.2.2 hd1
      unfold endR at hQ1 hQ0
      obtain ⟨-, ⟨f2, f3⟩, -⟩ := fR_eq (bt := bt) (n := n) (k := k) (T := T) (ptN k) 0 N j g2
      generalize fR bt n k T (ptN k) 0 N j = r at loop hQ1 hQ0 f2 f3
      simp only [s93_12_4, s93_12_7, s93_15, s93_18, s93_19, s93_20, s93_21, xcx_i, xcx_r, xcx_n, xcx_l, xcx_0, r93_12 hp, hro, xb_f, ite_not, if_pos c, true_or, or_true, true_and]
      refine loop (fun τ2 l5 l6 ok hr2 he2 hd2 => ?_) (fun τ2 ok hr2 => ?_)
      · rw [if_pos ok] at hQ1 hQ0
        simp only [s93_81, s93_82, xcx_i, xcx_r, xcx_n, xcx_l, xcx_0]
        refine XskipBlanks (frH.txt hp h hr2) f3 he2 (fun τ3 h3 => ?_)
        obtain ⟨g3, g4, -, -⟩ := runE_bd (P := isBl) (bt := bt) (n := n) (n - r.2.2) r.2.2 (by omega)
        have hr3 := hr2.he h3
        have hd3 := drT.he hp hd2 h3
        have hx3 := heM.txt (frH.txt hp h hr2) h3
        have he3 := h3.2.2
        generalize runE isBl bt n (n - r.2.2) r.2.2 = b at g3 g4 h3 he3 hQ1 hQ0
        have hby : ∀ Q : Int32 → xM → Prop, xI1 94 [.ref 2] τ3 Q = _ := fun Q => XbyteHere hx3 g4 he3
        by_cases cb : b < n ∧ bt b = 59
        · rw [if_pos cb] at hQ1
          have hen : ∀ (τ : xM) (Q : xM → Prop), xV 71 [.ref p, .int (nI k)] τ Q = _ := fun τ Q => XendRow hp k7
          have e59 : nI (bt b) = 59 := by rw [cb.2]; rfl
          obtain ⟨t3, -⟩ := hd3.2 k k7
          have e1 : (xe_si τ3 2 2 (nI (b + 1))).1 (p + 2) k = nI (T k) := by rw [si_rd, if_neg (fun y => by omega)]; exact t3
          have hq := hQ1 (xe_si (xe_si τ3 2 2 (nI (b + 1))) (p + 2) k (nI (T k + 1))) rfl ⟨fun a b q1 q2 q3 => by rw [si_rd, if_neg (fun z => q2 z.1), si_rd, if_neg (fun z => q3 z)]; exact hr3.1 a b q1 q2 q3, hr3.2⟩ (by
            rw [si_rd, if_neg (fun y => by omega), si_rd, if_pos ⟨rfl, rfl⟩]) ⟨fun j hj => by
              rw [si_rd, if_neg (fun y => by omega), si_rd, if_neg (fun y => by omega)]; exact hd3.1 j hj, fun l hl => by
              rw [si_rd]
              show _ = nI (upN T k (T k + 1) l) ∧ upN T k (T k + 1) l ≤ mxT l
              unfold upN
              by_cases z : l = k
              · rw [if_pos ⟨rfl, z⟩, if_pos z, z]; exact ⟨rfl, c⟩
              · rw [if_neg (fun y => z y.2), if_neg z, si_rd, if_neg (fun y => by omega)]; exact hd3.2 l hl⟩
          simp only [s93_85, s93_86, s93_89, s93_91, s93_94, s93_95, s93_98, s93_99, s93_100, s93_101, s93_104, s93_105, s93_106, s93_109, s93_110, s93_111_4, s93_111_7, s93_114, s93_115, xcx_i, xcx_r, xcx_n, xcx_l, xcx_0, r93_111 hp, hby, if_pos cb.1, e59, if_true, he3, nI_1, hen, e1, true_or, or_true, true_and]
          exact hq
        · rw [if_neg cb] at hQ0
          have hq := hQ0 τ3 (fun z => by cases z) hr3
          have e59 : ((if b < n then nI (bt b) else -1) = 59) = False := by
            refine eq_false (fun z => ?_)
            by_cases c5 : b < n
            · rw [if_pos c5] at z
              obtain ⟨-, q2, -⟩ := hx3.2.2.2 b c5
              exact cb ⟨c5, (nI_eq (b := 59) (by omega) (by decide)).mp z⟩
            · rw [if_neg c5] at z
              exact absurd z (by decide)
          simp only [s93_85, s93_86, s93_89, s93_91, s93_94, s93_95, s93_98, xcx_i, xcx_r, xcx_n, xcx_l, xcx_0, hby, e59, if_false, he3, true_or, or_true, true_and]
          exact hq
      · rw [if_neg ok] at hQ0
        exact hQ0 τ2 (fun z => by cases z) hr2
    · rw [if_neg (fun z => c z.2)] at hQ0
      have hq := hQ0 τ1 (fun z => by cases z) hr1
      simp only [s93_12_4, s93_12_7, s93_15, s93_18, s93_19, xcx_i, xcx_r, xcx_n, xcx_l, xcx_0, r93_12 hp, hro, xb_f, ite_not, if_neg c, true_or, or_true, true_and]
      exact hq
  · rw [if_neg (fun z => by omega)] at hQ0
    have hq := hQ0 τ1 (fun z => by cases z) hr1
    simp only [s93_12_4, s93_12_7, s93_15, s93_18, s93_19, xcx_i, xcx_r, xcx_n, xcx_l, xcx_0, r93_12 hp, XhasRoom_no, not_true, if_false, true_or, or_true, true_and]
    exact hq
