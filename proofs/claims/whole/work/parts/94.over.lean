/-! what goes first -/
def wh1 (P B : Nat → Int) (H : Nat) : Nat → Int × Int
  | 0 => (0, -1)
  | i + 1 => if H.testBit i = true ∧ (wh1 P B H i).1 < P i - B i then (P i - B i, (i : Int)) else wh1 P B H i
def ptF (P : Nat → Int) (S : Nat → Nat) (H s : Nat) : Nat → Int
  | 0 => 0
  | i + 1 => ptF P S H s i + if H.testBit i = true ∧ S i = s then P i else 0
def wh2 (P B : Nat → Int) (S sb : Nat → Nat) (H n : Nat) : Nat → Int × Int
  | 0 => wh1 P B H n
  | s + 1 => if (wh2 P B S sb H n s).1 < ptF P S H s n - sb s then (ptF P S H s n - sb s, 10 + (s : Int)) else wh2 P B S sb H n s
theorem wh1_bd {P B : Nat → Int} {H n : Nat} (hP : ∀ i, i < n → 0 ≤ P i ∧ P i ≤ 1600) (hB : ∀ i, i < n → 0 ≤ B i ∧ B i ≤ 999) : ∀ m, m ≤ n → 0 ≤ (wh1 P B H m).1 ∧ (wh1 P B H m).1 ≤ 1600 ∧ ((wh1 P B H m).2 = -1 ∨ ∃ i : Nat, i < m ∧ (wh1 P B H m).2 = i ∧ H.testBit i = true) := by
  intro m
  induction m with
  | zero => intro _; exact ⟨Int.le_refl _, (by show (0 : Int) ≤ 1600; decide), Or.inl rfl⟩
  | succ m ih =>
    intro hm
    obtain ⟨i1, i2, i3⟩ := ih (by omega)
    obtain ⟨p1, p2⟩ := hP m (by omega)
    obtain ⟨b1, b2⟩ := hB m (by omega)
    by_cases c : H.testBit m = true ∧ (wh1 P B H m).1 < P m - B m
    · rw [show wh1 P B H (m + 1) = (P m - B m, (m : Int)) from if_pos c]
      exact ⟨by show 0 ≤ P m - B m; omega, by show P m - B m ≤ 1600; omega, Or.inr ⟨m, by omega, rfl, c.1⟩⟩
    · rw [show wh1 P B H (m + 1) = wh1 P B H m from if_neg c]
      refine ⟨i1, i2, ?_⟩
      rcases i3 with q | ⟨i, q1, q2, q3⟩
      · exact Or.inl q
      · exact Or.inr ⟨i, by omega, q2, q3⟩
theorem ptF_bd {P : Nat → Int} {S : Nat → Nat} {H s n : Nat} (hn : n ≤ 6) (hP : ∀ i, i < n → 0 ≤ P i ∧ P i ≤ 1600) : ∀ m, m ≤ n → 0 ≤ ptF P S H s m ∧ ptF P S H s m ≤ 1600 * m ∧ (0 < ptF P S H s m → ∃ i, i < m ∧ H.testBit i = true ∧ S i = s) := by
  intro m
  induction m with
  | zero => intro _; exact ⟨Int.le_refl _, by show (0 : Int) ≤ 1600 * ((0 : Nat) : Int); decide, fun q => absurd q (by show ¬ (0 : Int) < 0; decide)⟩
  | succ m ih =>
    intro hm
    obtain ⟨i1, i2, i3⟩ := ih (by omega)
    obtain ⟨p1, p2⟩ := hP m (by omega)
    show 0 ≤ ptF P S H s m + (if H.testBit m = true ∧ S m = s then P m else 0) ∧ ptF P S H s m + (if H.testBit m = true ∧ S m = s then P m else 0) ≤ 1600 * ((m + 1 : Nat) : Int) ∧ (0 < ptF P S H s m + (if H.testBit m = true ∧ S m = s then P m else 0) → _)
    by_cases c : H.testBit m = true ∧ S m = s
    · rw [if_pos c]
      exact ⟨by omega, by omega, fun _ => ⟨m, by omega, c.1, c.2⟩⟩
    · rw [if_neg c]
      refine ⟨by omega, by omega, fun q => ?_⟩
      obtain ⟨i, q1, q2, q3⟩ := i3 (by omega)
      exact ⟨i, by omega, q2, q3⟩
theorem wh2_bd {P B : Nat → Int} {S sb : Nat → Nat} {H n : Nat} (hn : n ≤ 6) (hP : ∀ i, i < n → 0 ≤ P i ∧ P i ≤ 1600) (hB : ∀ i, i < n → 0 ≤ B i ∧ B i ≤ 999) : ∀ m, 0 ≤ (wh2 P B S sb H n m).1 ∧ (wh2 P B S sb H n m).1 ≤ 9600 ∧ ((wh2 P B S sb H n m).2 = -1 ∨ (∃ i : Nat, i < n ∧ (wh2 P B S sb H n m).2 = i ∧ H.testBit i = true) ∨ ∃ s : Nat, s < m ∧ (wh2 P B S sb H n m).2 = 10 + (s : Int) ∧ ∃ i, i < n ∧ H.testBit i = true ∧ S i = s) := by
  intro m
  induction m with
  | zero =>
    obtain ⟨i1, i2, i3⟩ := wh1_bd (H := H) hP hB n (Nat.le_refl n)
    refine ⟨i1, by show (wh1 P B H n).1 ≤ 9600; omega, ?_⟩
    rcases i3 with q | q
    · exact Or.inl q
    · exact Or.inr (Or.inl q)
  | succ m ih =>
    obtain ⟨i1, i2, i3⟩ := ih
    obtain ⟨t1, t2, t3⟩ := ptF_bd (S := S) (H := H) (s := m) hn hP n (Nat.le_refl n)
    by_cases c : (wh2 P B S sb H n m).1 < ptF P S H m n - sb m
    · rw [show wh2 P B S sb H n (m + 1) = (ptF P S H m n - sb m, 10 + (m : Int)) from if_pos c]
      exact ⟨by show 0 ≤ ptF P S H m n - sb m; omega, by show ptF P S H m n - sb m ≤ 9600; omega, Or.inr (Or.inr ⟨m, by omega, rfl, t3 (by omega)⟩)⟩
    · rw [show wh2 P B S sb H n (m + 1) = wh2 P B S sb H n m from if_neg c]
      refine ⟨i1, i2, ?_⟩
      rcases i3 with q | q | ⟨s, q1, q2⟩
      · exact Or.inl q
      · exact Or.inr (Or.inl q)
      · exact Or.inr (Or.inr ⟨s, by omega, q2⟩)
theorem XpullsTo {τ : xM} {n H s : Nat} {W R K B : Nat → Int} {S : Nat → Nat} {u v : Int} {Q : Int32 → xM → Prop} (hM : moX τ n H W R K B S) (hs : s < 8) (hr : rowI τ 39 n (fun i => if H.testBit i then plI W R K u v i else 0)) : xI1 54 [.ref 38, .int (nI s)] τ Q = Q (iI (ptF (plI W R K u v) S H s n)) τ := by
  obtain ⟨hld, hH, hn, h1, hrow⟩ := hM
  have hn6 := hld.1
  have loop : ∀ m i, i + m = n → xC 54 4 [some (.ref 38), some (.int (nI s)), some (.int (iI (ptF (plI W R K u v) S H s i))), some (.int (nI i))] [] τ (xqI Q) = Q (iI (ptF (plI W R K u v) S H s n)) τ := by
    intro m
    induction m with
    | zero =>
      intro i hi
      obtain rfl : i = n := by omega
      rw [s54_4]
      simp only [s54_5, s54_6, s54_9, s54_41, s54_42, xcx_i, xcx_r, xcx_n, xcx_l, xcx_0, hn, Int32.le_refl, if_true]
    | succ m ih =>
      intro i hi
      have e := lt4N (n := n) (i := i) (by omega) (by omega)
      have i6 : i < 6 := by omega
      have r : τ.1 39 i = iI (if H.testBit i then plI W R K u v i else 0) := hr i (by omega)
      have e45 := (hrow i (by omega)).2.2.2.2
      have s8 := (hld.2 i (by omega)).2.2.2.2.2
      have es : (nI (S i) = nI s) = (S i = s) := propext (nI_eq (by omega) (by omega))
      have ihh := ih (i + 1) (by omega)
      rw [show ptF (plI W R K u v) S H s (i + 1) = ptF (plI W R K u v) S H s i + if H.testBit i = true ∧ S i = s then plI W R K u v i else 0 from rfl] at ihh
      rw [s54_4]
      by_cases c : S i = s
      · by_cases b : H.testBit i = true
        · rw [if_pos ⟨b, c⟩] at ihh
          rw [if_pos b] at r
          have es' : (nI (S i) = nI s) = True := by rw [es]; exact eq_true c
          simp only [s54_5, s54_6, s54_9, s54_12, s54_13, s54_16, s54_17, s54_20, s54_21, s54_24, s54_25, s54_26, s54_29, s54_30, s54_33, s54_34, s54_35, s54_38, xcx_i, xcx_r, xcx_n, xcx_l, xcx_0, hn, e, if_false, at_eq, xcl_39, xcl_45, xat39 i6, xat45 i6, e45, es', not_true, if_true, r, iI_add, nI_1]
          exact ihh
        · rw [if_neg (fun q => b q.1)] at ihh
          rw [if_neg b] at r
          have es' : (nI (S i) = nI s) = True := by rw [es]; exact eq_true c
          simp only [s54_5, s54_6, s54_9, s54_12, s54_13, s54_16, s54_17, s54_20, s54_21, s54_24, s54_25, s54_26, s54_29, s54_30, s54_33, s54_34, s54_35, s54_38, xcx_i, xcx_r, xcx_n, xcx_l, xcx_0, hn, e, if_false, at_eq, xcl_39, xcl_45, xat39 i6, xat45 i6, e45, es', not_true, if_true, r, iI_add, nI_1]
          exact ihh
      · rw [if_neg (fun q => c q.2), Int.add_zero] at ihh
        simp only [s54_5, s54_6, s54_9, s54_12, s54_13, s54_16, s54_17, s54_20, s54_21, s54_24, s54_25, s54_26, s54_29, s54_30, s54_33, s54_34, s54_35, s54_38, xcx_i, xcx_r, xcx_n, xcx_l, xcx_0, hn, e, if_false, at_eq, xcl_45, xat45 i6, e45, es, c, not_false_eq_true, if_true, nI_1]
        exact ihh
  rw [e54]
  simp only [s54_0, s54_1, s54_2, s54_3, xcx_i, xcx_r, xcx_n, xcx_l, xcx_0]
  exact loop n 0 (by omega)
theorem XmostOver {τ : xM} {n H p ns nr bow deck : Nat} {W R K B : Nat → Int} {S : Nat → Nat} {D E : Nat → Nat → Nat} {k : Nat} {u v : Int} {Q : Int32 → xM → Prop} (hM : moX τ n H W R K B S) (hX : sdX τ p k ns nr bow deck D E) (hb : sdB k ns nr bow deck D E) (hg : gdU u v) (hr : rowI τ 39 n (fun i => if H.testBit i then plI W R K u v i else 0)) : xI1 53 [.ref 38, .ref p] τ Q = Q (iI (wh2 (plI W R K u v) B S (E 1) H n ns).2) τ := by
  obtain ⟨hld, hH, hn, h1, hrow⟩ := id hM
  have hn6 := hld.1
  have hP : ∀ i, i < n → 0 ≤ plI W R K u v i ∧ plI W R K u v i ≤ 1600 := fun i hi => plI_bd hld hg hi
  have hBb : ∀ i, i < n → 0 ≤ B i ∧ B i ≤ 999 := fun i hi => (hld.2 i hi).2.2.2.2.1
  obtain ⟨⟨hp, hpe, hst⟩, -, -, qs, -, -⟩ := hX
  have hs8 := hb.2.1
  have stones : ∀ m s, s + m = ns → ∀ l5, xC 53 58 [some (.ref 38), some (.ref p), some (.int (iI (wh2 (plI W R K u v) B S (E 1) H n s).1)), some (.int (iI (wh2 (plI W R K u v) B S (E 1) H n s).2)), some (.int (nI s)), l5] [] τ (xqI Q) = Q (iI (wh2 (plI W R K u v) B S (E 1) H n ns).2) τ := by
    intro m
    induction m with
    | zero =>
      intro s hs l5
      obtain rfl : s = ns := by omega
      rw [s53_58]
      rcases hp with rfl | rfl <;> simp only [s53_60, s53_61, s53_62_4, s53_62_7, s53_65, s53_104, s53_105, xcx_i, xcx_r, xcx_n, xcx_l, xcx_0, toldOf_eq, hst, Int32.le_refl, if_true, true_or, or_true]
    | succ m ih =>
      intro s hs l5
      have e := lt4N (n := ns) (i := s) (by omega) (by omega)
      have hpt : ∀ Q : Int32 → xM → Prop, xI1 54 [.ref 38, .int (nI s)] τ Q = _ := fun Q => XpullsTo hM (by omega) hr
      obtain ⟨t1, t2, -⟩ := ptF_bd (S := S) (H := H) (s := s) hn6 hP n (Nat.le_refl n)
      obtain ⟨w1, w2, -⟩ := wh2_bd (S := S) (sb := E 1) (H := H) hn6 hP hBb s
      have hE := (hb.2.2.2.2.2.2.1 s (by omega)).2
      have hsb : xat τ (p + 1) (0 + nI (2 * s) + 1) = nI (E 1 s) := by
        have e0 : (0 : Int32) + nI (2 * s) = nI (2 * s) := by rw [show (0 : Int32) = nI 0 from rfl, nI_add, Nat.zero_add]
        rw [e0, nI_1, xrow_p hp (by omega)]
        exact (qs s (by omega)).2
      have ed : iI (ptF (plI W R K u v) S H s n) - nI (E 1 s) = iI (ptF (plI W R K u v) S H s n - E 1 s) := by rw [nI_iI, iI_sub]
      have e10 : (10 : Int32) + nI s = iI (10 + (s : Int)) := by rw [nI_iI, show (10 : Int32) = iI 10 from rfl, iI_add]
      have ele : (iI (ptF (plI W R K u v) S H s n - E 1 s) ≤ iI (wh2 (plI W R K u v) B S (E 1) H n s).1) = ¬ ((wh2 (plI W R K u v) B S (E 1) H n s).1 < ptF (plI W R K u v) S H s n - E 1 s) := propext ((iI_le (by omega) (by omega) (by omega) (by omega)).trans ⟨fun q => by omega, fun q => by omega⟩)
      have ihh := fun l5 => ih (s + 1) (by omega) l5
      rw [s53_58]
      by_cases c : (wh2 (plI W R K u v) B S (E 1) H n s).1 < ptF (plI W R K u v) S H s n - E 1 s
      · rw [show wh2 (plI W R K u v) B S (E 1) H n (s + 1) = (ptF (plI W R K u v) S H s n - E 1 s, 10 + (s : Int)) from if_pos c] at ihh
        rcases hp with rfl | rfl <;> simp only [s53_60, s53_61, s53_62_4, s53_62_7, s53_65, s53_68, s53_69, s53_71, s53_74, s53_75, s53_77_4, s53_77_7, s53_80, s53_81, s53_83, s53_85, s53_86, s53_89, s53_91, s53_92, s53_94, s53_96, s53_97, s53_98, s53_101, xcx_i, xcx_r, xcx_n, xcx_l, xcx_0, toldOf_eq, hst, e, if_false, hpt, stoneBears_eq, ml_2, hsb, ed, ele, c, not_true, e10, nI_1, true_or, or_true] <;> exact ihh _
      · rw [show wh2 (plI W R K u v) B S (E 1) H n (s + 1) = wh2 (plI W R K u v) B S (E 1) H n s from if_neg c] at ihh
        rcases hp with rfl | rfl <;> simp only [s53_60, s53_61, s53_62_4, s53_62_7, s53_65, s53_68, s53_69, s53_71, s53_74, s53_75, s53_77_4, s53_77_7, s53_80, s53_81, s53_83, s53_85, s53_86, s53_89, s53_91, s53_92, s53_94, s53_96, s53_97, s53_98, s53_101, xcx_i, xcx_r, xcx_n, xcx_l, xcx_0, toldOf_eq, hst, e, if_false, hpt, stoneBears_eq, ml_2, hsb, ed, ele, c, not_false_eq_true, if_true, nI_1, true_or, or_true] <;> exact ihh _
  have lines : ∀ m i, i + m = n → ∀ l5, xC 53 7 [some (.ref 38), some (.ref p), some (.int (iI (wh1 (plI W R K u v) B H i).1)), some (.int (iI (wh1 (plI W R K u v) B H i).2)), some (.int (nI i)), l5] [] τ (xqI Q) = Q (iI (wh2 (plI W R K u v) B S (E 1) H n ns).2) τ := by
    intro m
    induction m with
    | zero =>
      intro i hi l5
      obtain rfl : i = n := by omega
      rw [s53_7]
      simp only [s53_9, s53_10, s53_13, s53_55, s53_56, xcx_i, xcx_r, xcx_n, xcx_l, xcx_0, hn, Int32.le_refl, if_true]
      exact stones ns 0 (by omega) _
    | succ m ih =>
      intro i hi l5
      have e := lt4N (n := n) (i := i) (by omega) (by omega)
      have i6 : i < 6 := by omega
      have r : τ.1 39 i = iI (if H.testBit i then plI W R K u v i else 0) := hr i (by omega)
      have e44 := (hrow i (by omega)).2.2.2.1
      obtain ⟨p1, p2⟩ := hP i (by omega)
      obtain ⟨b1, b2⟩ := hBb i (by omega)
      obtain ⟨w1, w2, -⟩ := wh1_bd (H := H) hP hBb i (by omega)
      have ihh := fun l5 => ih (i + 1) (by omega) l5
      rw [s53_7]
      by_cases b : H.testBit i = true
      · rw [if_pos b] at r
        have ed : iI (plI W R K u v i) - iI (B i) = iI (plI W R K u v i - B i) := iI_sub _ _
        have ele : (iI (plI W R K u v i - B i) ≤ iI (wh1 (plI W R K u v) B H i).1) = ¬ ((wh1 (plI W R K u v) B H i).1 < plI W R K u v i - B i) := propext ((iI_le (by omega) (by omega) (by omega) (by omega)).trans ⟨fun q => by omega, fun q => by omega⟩)
        by_cases c : (wh1 (plI W R K u v) B H i).1 < plI W R K u v i - B i
        · rw [show wh1 (plI W R K u v) B H (i + 1) = (plI W R K u v i - B i, (i : Int)) from if_pos ⟨b, c⟩] at ihh
          simp only [s53_9, s53_10, s53_13, s53_16, s53_17, s53_20, s53_22, s53_25, s53_26, s53_29, s53_31, s53_34, s53_35, s53_37, s53_39, s53_40, s53_43, s53_45, s53_46, s53_48, s53_49, s53_52, xcx_i, xcx_r, xcx_n, xcx_l, xcx_0, hn, e, if_false, at_eq, xcl_39, xcl_44, xat39 i6, xat44 i6, r, e44, ed, ele, c, not_true, nI_1]
          have hh := ihh (some (.int (iI (plI W R K u v i - B i))))
          rw [← nI_iI] at hh
          exact hh
        · rw [show wh1 (plI W R K u v) B H (i + 1) = wh1 (plI W R K u v) B H i from if_neg (fun q => c q.2)] at ihh
          simp only [s53_9, s53_10, s53_13, s53_16, s53_17, s53_20, s53_22, s53_25, s53_26, s53_29, s53_31, s53_34, s53_35, s53_37, s53_39, s53_40, s53_43, s53_45, s53_46, s53_48, s53_49, s53_52, xcx_i, xcx_r, xcx_n, xcx_l, xcx_0, hn, e, if_false, at_eq, xcl_39, xcl_44, xat39 i6, xat44 i6, r, e44, ed, ele, c, not_false_eq_true, if_true, nI_1]
          exact ihh _
      · rw [if_neg b] at r
        have ed : iI 0 - iI (B i) = iI (0 - B i) := iI_sub _ _
        have ele : (iI (0 - B i) ≤ iI (wh1 (plI W R K u v) B H i).1) = True := eq_true ((iI_le (by omega) (by omega) (by omega) (by omega)).mpr (by omega))
        rw [show wh1 (plI W R K u v) B H (i + 1) = wh1 (plI W R K u v) B H i from if_neg (fun q => b q.1)] at ihh
        simp only [s53_9, s53_10, s53_13, s53_16, s53_17, s53_20, s53_22, s53_25, s53_26, s53_29, s53_31, s53_34, s53_35, s53_37, s53_39, s53_40, s53_43, s53_45, s53_46, s53_48, s53_49, s53_52, xcx_i, xcx_r, xcx_n, xcx_l, xcx_0, hn, e, if_false, at_eq, xcl_39, xcl_44, xat39 i6, xat44 i6, r, e44, ed, ele, if_true, nI_1]
        exact ihh _
  rw [e53]
  simp only [s53_0, s53_1, s53_2, s53_3, s53_4, s53_5, xcx_i, xcx_r, xcx_n, xcx_l, xcx_0]
  exact lines n 0 (by omega) _
