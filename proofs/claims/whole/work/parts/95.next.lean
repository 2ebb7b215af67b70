/-! what goes next: the reference's; lines that go -/
theorem Mbears {τ : xM} {n ns nr bow deck i : Nat} {D E : Nat → Nat → Nat} {Q : Int32 → xM → Prop} (h : sdM τ n ns nr bow deck D E) (hb : sdB n ns nr bow deck D E) (hi : i < n) : xI1 191 [.ref 84, .int (nI i)] τ Q = Q (iI (brF D E i)) τ := by
  obtain ⟨hns, ⟨q1, q2⟩, ql, qs, qr, qw⟩ := h
  obtain ⟨e0, e1, e2, e3, e4, e5⟩ := ql i hi
  obtain ⟨a1, a2, a3, a4, a5, a6⟩ := hb.2.2.2.2.2.1 i hi
  obtain ⟨c1, c2, c3⟩ := hb.2.2.2.2.2.2.2.1 _ a3
  have hn6 := hb.1
  have hr4 := hb.2.2.1
  have i6 : i < 6 := by omega
  have b0 : 2 * D 2 i < 100000 := by omega
  have c0 : 2 * D 2 i < 8 := by omega
  have er := (qr _ a3).1
  have ed : nI (E 2 (D 2 i)) - nI (D 4 i) = iI ((E 2 (D 2 i) : Int) - D 4 i) := by rw [nI_iI, nI_iI, iI_sub]
  have elt : (iI ((E 2 (D 2 i) : Int) - D 4 i) < 0) = ((E 2 (D 2 i) : Int) - D 4 i < 0) := propext (iI_lt (b := 0) (by omega) (by omega) (by omega) (by omega))
  have ele : (0 ≤ iI ((E 2 (D 2 i) : Int) - D 4 i)) = (0 ≤ (E 2 (D 2 i) : Int) - D 4 i) := propext (iI_le (a := 0) (by omega) (by omega) (by omega) (by omega))
  rw [e191]
  by_cases c : 0 ≤ (E 2 (D 2 i) : Int) - D 4 i
  · have eb : brF D E i = (E 2 (D 2 i) : Int) - D 4 i := by unfold brF; omega
    rw [eb]
    simp only [s191_0, s191_1, s191_4, s191_5, s191_6, s191_7, s191_8, s191_11, s191_12, s191_13, s191_14, s191_15, s191_16, s191_19, s191_20, s191_21, s191_22, s191_25, s191_26, s191_29, s191_30, xcx_i, xcx_r, xcx_n, xcx_l, xcx_0, Mf2 i6, Mf4 i6, e2, e4, ml_2, xcl_93, xln_93, b0, c0, cl_s, pos_s, true_and, er, ed, ele, c, if_true, true_or, or_true]
  · have eb : brF D E i = 0 := by unfold brF; omega
    rw [eb]
    simp only [s191_0, s191_1, s191_4, s191_5, s191_6, s191_7, s191_8, s191_11, s191_12, s191_13, s191_14, s191_15, s191_16, s191_19, s191_20, s191_21, s191_22, s191_25, s191_26, s191_29, s191_30, xcx_i, xcx_r, xcx_n, xcx_l, xcx_0, Mf2 i6, Mf4 i6, e2, e4, ml_2, xcl_93, xln_93, b0, c0, cl_s, pos_s, true_and, er, ed, ele, c, if_false, true_or, or_true]
    rfl
theorem MgoesNext {σ : xM} {n m ns nr bow deck hour H : Nat} {D E : Nat → Nat → Nat} {w s : Int} {Q : Int32 → xM → Prop} (h : sdM σ n ns nr bow deck D E) (hb : sdB n ns nr bow deck D E) (hh : hour ≤ 99) (hm : m ≤ n) (hl : σ.1 84 31 = nI m) (hH : H < 64) (hw : 0 ≤ w ∧ w ≤ 999) (hs : -99 ≤ s ∧ s ≤ 99) (hQ : ∀ τ u v, mrs σ τ → τ.1 84 52 = iI u → τ.1 84 53 = iI v → isB (csF (wyF D E bow) (rmF D E bow deck hour) (hdF D E) H m w s) u v → Q (iI (wh2 (plI (wyF D E bow) (rmF D E bow deck hour) (hdF D E) u v) (brF D E) (D 1) (E 1) H m ns).2) τ) : xI1 201 [.ref 84, .int (nI hour), .int (iI w), .int (iI s), .int (nI H)] σ Q := by
  have hld := hb.ld hour hm
  have hm6 := hld.1
  rw [e201]
  simp only [s201_0, s201_1, s201_2, s201_3, s201_4, s201_6, xcx_i, xcx_r, xcx_n, xcx_l, xcx_0]
  refine MfindsRest h hb hh hm hl hH hw hs (fun τ u v hr hu hv hB => ?_)
  have hq := hQ τ u v hr hu hv hB
  have hg := hB.1
  have hX := h.sim hr.sim
  have hl' : τ.1 84 31 = nI m := (hr.1 84 31 (fun z => by omega)).trans hl
  have hns : τ.1 84 17 = nI ns := hX.1
  have hs8 := hb.2.1
  have hP : ∀ i, i < m → 0 ≤ plI (wyF D E bow) (rmF D E bow deck hour) (hdF D E) u v i ∧ plI (wyF D E bow) (rmF D E bow deck hour) (hdF D E) u v i ≤ 1600 := fun i hi => plI_bd hld hg hi
  have hBb : ∀ i, i < m → 0 ≤ brF D E i ∧ brF D E i ≤ 999 := fun i hi => (hld.2 i hi).2.2.2.2.1
  have hpl : ∀ i, i < m → ∀ Q : Int32 → xM → Prop, xI1 190 [.ref 84, .int (nI i), .int (nI hour), .int (iI u), .int (iI v)] τ Q = Q (iI (plI (wyF D E bow) (rmF D E bow deck hour) (hdF D E) u v i)) τ := fun i hi Q => MpullAt hX hb hh hg (by omega)
  generalize plI (wyF D E bow) (rmF D E bow deck hour) (hdF D E) u v = P at hq hP hpl
  have inner : ∀ s' l5 l6, s' < ns → ∀ k i, i + k = m → xC 201 118 [some (.ref 84), some (.int (nI hour)), some (.int (iI w)), some (.int (iI s)), some (.int (nI H)), l5, l6, some (.int (nI s')), some (.int (iI (ptF P (D 1) H s' i - E 1 s'))), some (.int (nI i))] [] τ (xqI Q) = xC 201 176 [some (.ref 84), some (.int (nI hour)), some (.int (iI w)), some (.int (iI s)), some (.int (nI H)), l5, l6, some (.int (nI s')), some (.int (iI (ptF P (D 1) H s' m - E 1 s'))), some (.int (nI m))] [] τ (xqI Q) := by
    intro s' l5 l6 hs' k
    induction k with
    | zero =>
      intro i hi
      obtain rfl : i = m := by omega
      rw [s201_118]
      simp only [s201_120, s201_121, s201_124, xcx_i, xcx_r, xcx_n, xcx_l, xcx_0, hl', Int32.le_refl, if_true]
    | succ k ih =>
      intro i hi
      have e := lt4N (n := m) (i := i) (by omega) (by omega)
      have i6 : i < 6 := by omega
      have e1 := (hX.2.2.1 i (by omega)).2.1
      have d1 := (hb.2.2.2.2.2.1 i (by omega)).2.1
      have hbit : (nI H >>> (nI i &&& 31) &&& 1 = 1) = (H.testBit i = true) := bit64 hH i6
      have es : (nI (D 1 i) = nI s') = (D 1 i = s') := propext (nI_eq (by omega) (by omega))
      have ihh := ih (i + 1) (by omega)
      rw [show ptF P (D 1) H s' (i + 1) = ptF P (D 1) H s' i + if H.testBit i = true ∧ D 1 i = s' then P i else 0 from rfl] at ihh
      rw [s201_118]
      by_cases b : H.testBit i = true
      · by_cases c : D 1 i = s'
        · have es' : (nI (D 1 i) = nI s') = True := by rw [es]; exact eq_true c
          have ea : iI (ptF P (D 1) H s' i - E 1 s') + iI (P i) = iI (ptF P (D 1) H s' i + P i - E 1 s') := by rw [iI_add]; congr 1; omega
          rw [if_pos ⟨b, c⟩] at ihh
          simp only [s201_120, s201_121, s201_124, s201_127, s201_129, s201_131, s201_132, s201_133, s201_134, s201_135, s201_138, s201_139, s201_141, s201_142, s201_145, s201_147, s201_150, s201_152, s201_153, s201_155, s201_156, s201_157, s201_160, s201_161, s201_164, s201_167, s201_168, s201_170, s201_173, xcx_i, xcx_r, xcx_n, xcx_l, xcx_0, hl', e, if_false, hbit, b, not_true, if_true, Mf1 i6, e1, es', hu, hv, hpl i (by omega), ea, nI_1, true_or, or_true]
          exact ihh
        · rw [if_neg (fun q => c q.2), Int.add_zero] at ihh
          simp only [s201_120, s201_121, s201_124, s201_127, s201_129, s201_131, s201_132, s201_133, s201_134, s201_135, s201_138, s201_139, s201_141, s201_142, s201_145, s201_147, s201_150, s201_152, s201_153, s201_155, s201_156, s201_157, s201_160, s201_161, s201_164, s201_167, s201_168, s201_170, s201_173, xcx_i, xcx_r, xcx_n, xcx_l, xcx_0, hl', e, if_false, hbit, b, not_true, if_true, Mf1 i6, e1, es, c, not_false_eq_true, nI_1, true_or, or_true]
          exact ihh
      · rw [if_neg (fun q => b q.1), Int.add_zero] at ihh
        simp only [s201_120, s201_121, s201_124, s201_127, s201_129, s201_131, s201_132, s201_133, s201_134, s201_135, s201_138, s201_139, s201_141, s201_142, s201_145, s201_147, s201_150, s201_152, s201_153, s201_155, s201_156, s201_157, s201_160, s201_161, s201_164, s201_167, s201_168, s201_170, s201_173, xcx_i, xcx_r, xcx_n, xcx_l, xcx_0, hl', e, if_false, hbit, b, not_false_eq_true, if_true, nI_1, true_or, or_true, Bool.false_eq_true]
        exact ihh
  have stones : ∀ k s', s' + k = ns → ∀ l8 l9, xC 201 92 [some (.ref 84), some (.int (nI hour)), some (.int (iI w)), some (.int (iI s)), some (.int (nI H)), some (.int (iI (wh2 P (brF D E) (D 1) (E 1) H m s').2)), some (.int (iI (wh2 P (brF D E) (D 1) (E 1) H m s').1)), some (.int (nI s')), l8, l9] [] τ (xqI Q) := by
    intro k
    induction k with
    | zero =>
      intro s' hs' l8 l9
      obtain rfl : s' = ns := by omega
      rw [s201_92]
      simp only [s201_94, s201_95, s201_98, s201_203, s201_205, xcx_i, xcx_r, xcx_n, xcx_l, xcx_0, hns, Int32.le_refl, if_true]
      exact hq
    | succ k ih =>
      intro s' hs' l8 l9
      have e := lt4N (n := ns) (i := s') (by omega) (by omega)
      obtain ⟨t1, t2, -⟩ := ptF_bd (S := D 1) (H := H) (s := s') hm6 hP m (Nat.le_refl m)
      obtain ⟨w1, w2, -⟩ := wh2_bd (S := D 1) (sb := E 1) (H := H) hm6 hP hBb s'
      have hE := (hb.2.2.2.2.2.2.1 s' (by omega)).2
      have b0 : 2 * s' + 1 < 100000 := by omega
      have c0 : 2 * s' + 1 < 16 := by omega
      have esb := (hX.2.2.2.1 s' (by omega)).2
      have en : -nI (E 1 s') = iI (ptF P (D 1) H s' 0 - E 1 s') := by
        rw [nI_iI, iI_neg]; congr 1
        show -(E 1 s' : Int) = 0 - E 1 s'
        omega
      have e10 : (10 : Int32) + nI s' = iI (10 + (s' : Int)) := by rw [nI_iI, show (10 : Int32) = iI 10 from rfl, iI_add]
      have ele : (iI (wh2 P (brF D E) (D 1) (E 1) H m s').1 < iI (ptF P (D 1) H s' m - E 1 s')) = ((wh2 P (brF D E) (D 1) (E 1) H m s').1 < ptF P (D 1) H s' m - E 1 s') := propext (iI_lt (by omega) (by omega) (by omega) (by omega))
      have ihh := ih (s' + 1) (by omega)
      rw [s201_92]
      simp only [s201_94, s201_95, s201_98, s201_101, s201_102, s201_105, s201_106, s201_108, s201_109, s201_110, s201_111, s201_112, s201_113, s201_115, s201_116, xcx_i, xcx_r, xcx_n, xcx_l, xcx_0, hns, e, if_false, ml_2, al_1, xcl_92, xln_92, b0, c0, cl_s, pos_s, true_and, esb, en]
      refine (iff_of_eq (inner s' _ _ (by omega) m 0 (by omega))).mpr ?_
      by_cases c : (wh2 P (brF D E) (D 1) (E 1) H m s').1 < ptF P (D 1) H s' m - E 1 s'
      · rw [show wh2 P (brF D E) (D 1) (E 1) H m (s' + 1) = (ptF P (D 1) H s' m - E 1 s', 10 + (s' : Int)) from if_pos c] at ihh
        simp only [s201_176, s201_178, s201_180, s201_183, s201_186, s201_188, s201_190, s201_192, s201_194, s201_195, s201_197, s201_200, xcx_i, xcx_r, xcx_n, xcx_l, xcx_0, ele, c, if_true, e10, nI_1]
        exact ihh _ _
      · rw [show wh2 P (brF D E) (D 1) (E 1) H m (s' + 1) = wh2 P (brF D E) (D 1) (E 1) H m s' from if_neg c] at ihh
        simp only [s201_176, s201_178, s201_180, s201_183, s201_186, s201_188, s201_190, s201_192, s201_194, s201_195, s201_197, s201_200, xcx_i, xcx_r, xcx_n, xcx_l, xcx_0, ele, c, if_false, nI_1]
        exact ihh _ _
  have lines : ∀ k i, i + k = m → ∀ l8, xC 201 18 [some (.ref 84), some (.int (nI hour)), some (.int (iI w)), some (.int (iI s)), some (.int (nI H)), some (.int (iI (wh1 P (brF D E) H i).2)), some (.int (iI (wh1 P (brF D E) H i).1)), some (.int (nI i)), l8, none] [] τ (xqI Q) := by
    intro k
    induction k with
    | zero =>
      intro i hi l8
      obtain rfl : i = m := by omega
      rw [s201_18]
      simp only [s201_20, s201_21, s201_24, s201_89, s201_90, xcx_i, xcx_r, xcx_n, xcx_l, xcx_0, hl', Int32.le_refl, if_true]
      exact stones ns 0 (by omega) _ _
    | succ k ih =>
      intro i hi l8
      have e := lt4N (n := m) (i := i) (by omega) (by omega)
      have i6 : i < 6 := by omega
      have hbit : (nI H >>> (nI i &&& 31) &&& 1 = 1) = (H.testBit i = true) := bit64 hH i6
      obtain ⟨p1, p2⟩ := hP i (by omega)
      obtain ⟨b1, b2⟩ := hBb i (by omega)
      obtain ⟨w1, w2, -⟩ := wh1_bd (H := H) hP hBb i (by omega)
      have hbe : ∀ Q : Int32 → xM → Prop, xI1 191 [.ref 84, .int (nI i)] τ Q = Q (iI (brF D E i)) τ := fun Q => Mbears hX hb (by omega)
      have ihh := fun l8 => ih (i + 1) (by omega) l8
      rw [s201_18]
      by_cases b : H.testBit i = true
      · have ed : iI (P i) - iI (brF D E i) = iI (P i - brF D E i) := iI_sub _ _
        have elt : (iI (wh1 P (brF D E) H i).1 < iI (P i - brF D E i)) = ((wh1 P (brF D E) H i).1 < P i - brF D E i) := propext (iI_lt (by omega) (by omega) (by omega) (by omega))
        by_cases c : (wh1 P (brF D E) H i).1 < P i - brF D E i
        · rw [show wh1 P (brF D E) H (i + 1) = (P i - brF D E i, (i : Int)) from if_pos ⟨b, c⟩] at ihh
          simp only [s201_20, s201_21, s201_24, s201_27, s201_29, s201_31, s201_32, s201_33, s201_34, s201_37, s201_38, s201_41, s201_42, s201_44, s201_45, s201_46, s201_49, s201_50, s201_53, s201_56, s201_57, s201_59, s201_62, s201_63, s201_65, s201_67, s201_69, s201_72, s201_75, s201_77, s201_79, s201_81, s201_83, s201_86, xcx_i, xcx_r, xcx_n, xcx_l, xcx_0, hl', e, if_false, and01, hbit, b, not_true, hu, hv, hpl i (by omega), hbe, ed, elt, c, if_true, nI_1, true_or, or_true]
          have hh2 := ihh (some (.int (iI (P i - brF D E i))))
          rw [← nI_iI] at hh2
          exact hh2
        · rw [show wh1 P (brF D E) H (i + 1) = wh1 P (brF D E) H i from if_neg (fun q => c q.2)] at ihh
          simp only [s201_20, s201_21, s201_24, s201_27, s201_29, s201_31, s201_32, s201_33, s201_34, s201_37, s201_38, s201_41, s201_42, s201_44, s201_45, s201_46, s201_49, s201_50, s201_53, s201_56, s201_57, s201_59, s201_62, s201_63, s201_65, s201_67, s201_69, s201_72, s201_75, s201_77, s201_79, s201_81, s201_83, s201_86, xcx_i, xcx_r, xcx_n, xcx_l, xcx_0, hl', e, if_false, and01, hbit, b, not_true, hu, hv, hpl i (by omega), hbe, ed, elt, c, nI_1, true_or, or_true]
          exact ihh _
      · have elt : (iI (wh1 P (brF D E) H i).1 < 0) = False := eq_false (fun q => by
          have := (iI_lt (b := 0) (by omega) (by omega) (by omega) (by omega)).mp q
          omega)
        rw [show wh1 P (brF D E) H (i + 1) = wh1 P (brF D E) H i from if_neg (fun q => b q.1)] at ihh
        simp only [s201_20, s201_21, s201_24, s201_27, s201_29, s201_31, s201_32, s201_33, s201_34, s201_37, s201_38, s201_41, s201_42, s201_44, s201_45, s201_46, s201_49, s201_50, s201_53, s201_56, s201_57, s201_59, s201_62, s201_63, s201_65, s201_67, s201_69, s201_72, s201_75, s201_77, s201_79, s201_81, s201_83, s201_86, xcx_i, xcx_r, xcx_n, xcx_l, xcx_0, hl', e, if_false, and01, hbit, b, not_false_eq_true, not_true, elt, if_true, nI_1, true_or, or_true, Bool.false_eq_true]
        exact ihh _
  simp only [s201_9, s201_10, s201_12, s201_13, s201_15, s201_16, xcx_i, xcx_r, xcx_n, xcx_l, xcx_0]
  exact lines m 0 (by omega) _
/-! lines that go -/
def clB (H i : Nat) : Nat := if H.testBit i then H - 2 ^ i else H
def dpF (H : Nat) (S : Nat → Nat) (k : Nat) : Nat → Nat
  | 0 => H
  | i + 1 => if i = k ∨ 10 + S i = k then clB (dpF H S k i) i else dpF H S k i
theorem clB_all : ∀ H : Nat, H < 64 → ∀ i : Nat, i < 6 → nI H &&& (((1 : Int32) <<< (nI i &&& 31)) ^^^ -1) = nI (clB H i) ∧ clB H i < 64 ∧ ∀ j : Nat, j < 6 → (clB H i).testBit j = (H.testBit j && !Nat.beq j i) := by decide +kernel
theorem dpF_lt {H : Nat} {S : Nat → Nat} {k : Nat} (hH : H < 64) : ∀ m, m ≤ 6 → dpF H S k m < 64 := by
  intro m
  induction m with
  | zero => intro _; exact hH
  | succ m ih =>
    intro hm
    unfold dpF
    split
    · exact (clB_all _ (ih (by omega)) m (by omega)).2.1
    · exact ih (by omega)
theorem dpF_low {H : Nat} {S : Nat → Nat} {k : Nat} (hk : k < 10) : ∀ m, dpF H S k m = if k < m then clB H k else H := by
  intro m
  induction m with
  | zero => rw [if_neg (Nat.not_lt_zero k)]; rfl
  | succ m ih =>
    unfold dpF
    by_cases c : m = k ∨ 10 + S m = k
    · have c' : m = k := by omega
      rw [if_pos c, ih, if_neg (by omega), if_pos (by omega), c']
    · rw [if_neg c, ih]
      by_cases q : k < m
      · rw [if_pos q, if_pos (by omega)]
      · rw [if_neg q, if_neg (by omega)]
theorem Xdrop {σ : xM} {n H k : Nat} {W R K B : Nat → Int} {S : Nat → Nat} {Q : xM → Prop} (hM : moX σ n H W R K B S) (hk : k < 100) (hQ : ∀ τ, xSim σ τ → moX τ n (dpF H S k n) W R K B S → τ.1 38 7 = 0 → (∀ a, a ≠ 38 → τ.1 a = σ.1 a) → Q τ) : xV 46 [.ref 38, .int (nI k)] σ Q := by
  obtain ⟨hld, hH, hn, h1, hrow⟩ := id hM
  have hn6 := hld.1
  have loop : ∀ m i, i + m = n → ∀ τ, xSim σ τ → (∀ a, a ≠ 38 → τ.1 a = σ.1 a) → τ.1 38 0 = nI n → τ.1 38 1 = nI (dpF H S k i) → xC 46 2 [some (.ref 38), some (.int (nI k)), some (.int (nI i))] [] τ (xqV Q) := by
    intro m
    induction m with
    | zero =>
      intro i hi τ hs ha h0 h1'
      obtain rfl : i = n := by omega
      rw [s46_2]
      simp only [s46_3, s46_4, s46_7, s46_50, s46_51, s46_52, s46_55, xcx_i, xcx_r, xcx_n, xcx_l, xcx_0, h0, Int32.le_refl, if_true, true_or, or_true, true_and]
      refine hQ _ (hs.si rfl) ⟨hld, dpF_lt hH i hn6, ?_, ?_, fun j hj => ?_⟩ rfl (fun a h => by rw [si_ne h]; exact ha a h)
      · rw [si_rd, if_neg (fun z => by omega)]; exact h0
      · rw [si_rd, if_neg (fun z => by omega)]; exact h1'
      · rw [si_ne (by decide), si_ne (by decide), si_ne (by decide), si_ne (by decide), si_ne (by decide), ha 40 (by decide), ha 41 (by decide), ha 43 (by decide), ha 44 (by decide), ha 45 (by decide)]
        exact hrow j hj
    | succ m ih =>
      intro i hi τ hs ha h0 h1'
      have e := lt4N (n := n) (i := i) (by omega) (by omega)
      have i6 : i < 6 := by omega
      have e45 : τ.1 45 i = nI (S i) := by rw [ha 45 (by decide)]; exact (hrow i (by omega)).2.2.2.2
      have s8 := (hld.2 i (by omega)).2.2.2.2.2
      have ei : (nI i = nI k) = (i = k) := propext (nI_eq (by omega) (by omega))
      have e10 : (10 : Int32) + nI (S i) = nI (10 + S i) := nI_add 10 _
      have es : (nI (10 + S i) = nI k) = (10 + S i = k) := propext (nI_eq (by omega) (by omega))
      have hc := (clB_all _ (dpF_lt (S := S) (k := k) hH i (by omega)) i i6).1
      have ihh := ih (i + 1) (by omega)
      rw [show dpF H S k (i + 1) = if i = k ∨ 10 + S i = k then clB (dpF H S k i) i else dpF H S k i from rfl] at ihh
      rw [s46_2]
      by_cases c1 : i = k
      · have ei' : (nI i = nI k) = True := by rw [ei]; exact eq_true c1
        rw [if_pos (Or.inl c1)] at ihh
        simp only [s46_3, s46_4, s46_7, s46_10, s46_11, s46_12, s46_15, s46_17, s46_18, s46_21, s46_22, s46_25, s46_26, s46_27, s46_30, s46_31, s46_32, s46_35, s46_36, s46_37, s46_38, s46_39, s46_40, s46_41, s46_44, s46_47, xcx_i, xcx_r, xcx_n, xcx_l, xcx_0, h0, e, if_false, ei', if_true, h1', hc, nI_1]
        exact ihh _ (hs.si rfl) (fun a h => by rw [si_ne h]; exact ha a h) (by rw [si_rd, if_neg (fun z => by omega)]; exact h0) rfl
      · by_cases c2 : 10 + S i = k
        · have es' : (nI (10 + S i) = nI k) = True := by rw [es]; exact eq_true c2
          rw [if_pos (Or.inr c2)] at ihh
          simp only [s46_3, s46_4, s46_7, s46_10, s46_11, s46_12, s46_15, s46_17, s46_18, s46_21, s46_22, s46_25, s46_26, s46_27, s46_30, s46_31, s46_32, s46_35, s46_36, s46_37, s46_38, s46_39, s46_40, s46_41, s46_44, s46_47, xcx_i, xcx_r, xcx_n, xcx_l, xcx_0, h0, e, if_false, ei, c1, at_eq, xcl_45, xat45 i6, e45, e10, es', not_true, if_true, h1', hc, nI_1]
          exact ihh _ (hs.si rfl) (fun a h => by rw [si_ne h]; exact ha a h) (by rw [si_rd, if_neg (fun z => by omega)]; exact h0) rfl
        · rw [if_neg (fun q => q.elim c1 c2)] at ihh
          simp only [s46_3, s46_4, s46_7, s46_10, s46_11, s46_12, s46_15, s46_17, s46_18, s46_21, s46_22, s46_25, s46_26, s46_27, s46_30, s46_31, s46_32, s46_35, s46_36, s46_37, s46_38, s46_39, s46_40, s46_41, s46_44, s46_47, xcx_i, xcx_r, xcx_n, xcx_l, xcx_0, h0, e, if_false, ei, c1, at_eq, xcl_45, xat45 i6, e45, e10, es, c2, not_false_eq_true, if_true, nI_1]
          exact ihh τ hs ha h0 h1'
  rw [e46]
  simp only [s46_0, s46_1, xcx_i, xcx_r, xcx_n, xcx_l, xcx_0]
  exact loop n 0 (by omega) σ (xSim.rf σ) (fun _ _ => rfl) hn h1
theorem Mwithout {σ : xM} {n m ns nr bow deck H k : Nat} {D E : Nat → Nat → Nat} {Q : Int32 → xM → Prop} (h : sdM σ n ns nr bow deck D E) (hb : sdB n ns nr bow deck D E) (hm : m ≤ n) (hl : σ.1 84 31 = nI m) (hH : H < 64) (hk : k < m ∨ (10 ≤ k ∧ k < 18)) : xI1 202 [.ref 84, .int (nI H), .int (nI k)] σ Q = Q (nI (dpF H (D 1) k m)) σ := by
  have hn6 := hb.1
  have e10 : ((10 : Int32) ≤ nI k) = (10 ≤ k) := nI_leL (a := 10) (by decide) (by omega)
  rw [e202]
  by_cases c : 10 ≤ k
  · have loop : ∀ j i, i + j = m → xC 202 19 [some (.ref 84), some (.int (nI H)), some (.int (nI k)), some (.int (nI (dpF H (D 1) k i))), some (.int (nI i))] [] σ (xqI Q) = Q (nI (dpF H (D 1) k m)) σ := by
      intro j
      induction j with
      | zero =>
        intro i hi
        obtain rfl : i = m := by omega
        rw [s202_19]
        simp only [s202_21, s202_22, s202_25, s202_57, s202_58, xcx_i, xcx_r, xcx_n, xcx_l, xcx_0, hl, Int32.le_refl, if_true]
      | succ j ih =>
        intro i hi
        have e := lt4N (n := m) (i := i) (by omega) (by omega)
        have i6 : i < 6 := by omega
        have e1 := (h.2.2.1 i (by omega)).2.1
        have d1 := (hb.2.2.2.2.2.1 i (by omega)).2.1
        have hs8 := hb.2.1
        have ek : nI k - 10 = nI (k - 10) := pk_sub (b := 10) c
        have es : (nI (D 1 i) = nI (k - 10)) = (10 + D 1 i = k) := by rw [nI_eqL (by omega) (by omega)]; exact propext ⟨fun q => by omega, fun q => by omega⟩
        have hc := (clB_all _ (dpF_lt (S := D 1) (k := k) hH i (by omega)) i i6).1
        have ihh := ih (i + 1) (by omega)
        rw [show dpF H (D 1) k (i + 1) = if i = k ∨ 10 + D 1 i = k then clB (dpF H (D 1) k i) i else dpF H (D 1) k i from rfl] at ihh
        rw [s202_19]
        by_cases c2 : 10 + D 1 i = k
        · have es' : (nI (D 1 i) = nI (k - 10)) = True := by rw [es]; exact eq_true c2
          rw [if_pos (Or.inr c2)] at ihh
          simp only [s202_21, s202_22, s202_25, s202_28, s202_29, s202_31, s202_32, s202_35, s202_36, s202_38, s202_39, s202_42, s202_43, s202_44, s202_46, s202_47, s202_48, s202_49, s202_50, s202_51, s202_54, xcx_i, xcx_r, xcx_n, xcx_l, xcx_0, hl, e, if_false, Mf1 i6, e1, ek, es', not_true, if_true, hc, nI_1, true_or, or_true]
          exact ihh
        · rw [if_neg (fun q => q.elim (fun z => by omega) c2)] at ihh
          simp only [s202_21, s202_22, s202_25, s202_28, s202_29, s202_31, s202_32, s202_35, s202_36, s202_38, s202_39, s202_42, s202_43, s202_44, s202_46, s202_47, s202_48, s202_49, s202_50, s202_51, s202_54, xcx_i, xcx_r, xcx_n, xcx_l, xcx_0, hl, e, if_false, Mf1 i6, e1, ek, es, c2, not_false_eq_true, if_true, nI_1, true_or, or_true]
          exact ihh
    simp only [s202_0, s202_1, s202_3, s202_6, s202_7, s202_8, s202_9, s202_10, s202_11, s202_12, s202_13, s202_14, s202_15, s202_16, s202_17, xcx_i, xcx_r, xcx_n, xcx_l, xcx_0, e10, c, if_true]
    exact loop m 0 (by omega)
  · have hkm : k < m := by omega
    have hc := (clB_all H hH k (by omega)).1
    rw [dpF_low (by omega), if_pos hkm]
    simp only [s202_0, s202_1, s202_3, s202_6, s202_7, s202_8, s202_9, s202_10, s202_11, s202_12, s202_13, xcx_i, xcx_r, xcx_n, xcx_l, xcx_0, e10, c, if_false, hc]
