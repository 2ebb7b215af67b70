/-! about -/
def hAg (d : Nat) (wa : Nat → Nat) (dr h : Nat) : Nat → Nat
  | 0 => 0
  | i + 1 => hAg d wa dr h i + if d + wa (h + i) < dr then 1 else 0
theorem hAg_le (d : Nat) (wa : Nat → Nat) (dr h : Nat) : ∀ i, hAg d wa dr h i ≤ i := by
  intro i
  induction i with
  | zero => exact Nat.le_refl _
  | succ i ih => unfold hAg; split <;> omega
theorem XhoursAground {σ : xM} {n v pp nd q h : Nat} {le dr co st dp wa : Nat → Nat} {Q : Int32 → xM → Prop} (hB : pB σ pp nd dp wa) (hV : vX σ n le dr co st) (hv : v < n) (h68 : σ.1 68 v = nI q) (h69 : σ.1 69 v = nI h) (hq : q ≤ 200) (hh : h ≤ 199) : xI1 21 [.ref 63, .ref pp, .int (nI v)] σ Q = Q (nI (hAg (ldN dp q (le v)) wa (dr v) h (st v))) σ := by
  obtain ⟨hn5, k1, hrow⟩ := hV
  obtain ⟨⟨v1, v2, v3, v4, v5, v6, v7⟩, v64, v65, v66, v67⟩ := hrow v hv
  have hv5 : v < 5 := by omega
  have hX : ∀ Q : Int32 → xM → Prop, xI1 82 [.ref pp, .int (nI q), .int (nI (le v))] σ Q = _ := fun Q => XleastDepth hB (by omega)
  have hW : ∀ (k : Nat), k < 100000 → ∀ Q : Int32 → xM → Prop, xI1 76 [.ref pp, .int (nI k)] σ Q = Q (nI (wa k)) σ := fun k hk Q => Xwa hB hk
  have hpp := hB.1
  have loop : ∀ m i, i + m = st v → xC 21 27 [some (.ref 63), some (.ref pp), some (.int (nI v)), some (.int (nI (ldN dp q (le v)))), some (.int (nI (hAg (ldN dp q (le v)) wa (dr v) h i))), some (.int (nI i))] [] σ (xqI Q) = Q (nI (hAg (ldN dp q (le v)) wa (dr v) h (st v))) σ := by
    intro m
    induction m with
    | zero =>
      intro i hi
      have hi2 : i = st v := by omega
      have e : (nI (st v) ≤ nI i) = True := eq_true (by rw [hi2]; exact Int32.le_refl _)
      rw [s21_27]
      simp only [s21_0, s21_1, s21_2, s21_5, s21_6, s21_9, s21_10, s21_13, s21_14, s21_17_4, s21_17_7, s21_20, s21_21, s21_22, s21_24, s21_25, s21_29, s21_30, s21_33, s21_34, s21_37, s21_40, s21_41, s21_42, s21_43, s21_46, s21_47, s21_50, s21_52, s21_53_4, s21_53_7, s21_56, s21_57, s21_58, s21_61, s21_62, s21_65, s21_68, s21_71, s21_74, s21_77, s21_79, xcx_i, xcx_r, xcx_n, xcx_l, xcx_0, at_eq, xcl_67, xat67 hv5, v67, Int32.le_refl, if_true, hi2]
    | succ m ih =>
      intro i hi
      have e : (nI (st v) ≤ nI i) = False := eq_false (fun q => by have := (nI_leI (a := st v) (b := i) (by omega) (by omega)).mp q; omega)
      have hw := (hB.2.2.2.2.2 (h + i)).2.2
      have hd := ldN_le hB.2.2.2.2.1 q (le v)
      have e1 : (nI (ldN dp q (le v) + wa (h + i)) < nI (dr v)) = (ldN dp q (le v) + wa (h + i) < dr v) := nI_ltL (by omega) (by omega)
      have e2 : (nI (dr v) ≤ nI (ldN dp q (le v) + wa (h + i))) = ¬ (ldN dp q (le v) + wa (h + i) < dr v) := by rw [nI_leL (by omega) (by omega)]; exact propext ⟨fun q => by omega, fun q => by omega⟩
      have ihh := ih (i + 1) (by omega)
      rw [show hAg (ldN dp q (le v)) wa (dr v) h (i + 1) = hAg (ldN dp q (le v)) wa (dr v) h i + if ldN dp q (le v) + wa (h + i) < dr v then 1 else 0 from rfl] at ihh
      rw [s21_27]
      by_cases c : ldN dp q (le v) + wa (h + i) < dr v
      · rw [if_pos c] at ihh
        rcases hpp with rfl | rfl <;> simp only [s21_0, s21_1, s21_2, s21_5, s21_6, s21_9, s21_10, s21_13, s21_14, s21_17_4, s21_17_7, s21_20, s21_21, s21_22, s21_24, s21_25, s21_29, s21_30, s21_33, s21_34, s21_37, s21_40, s21_41, s21_42, s21_43, s21_46, s21_47, s21_50, s21_52, s21_53_4, s21_53_7, s21_56, s21_57, s21_58, s21_61, s21_62, s21_65, s21_68, s21_71, s21_74, s21_77, s21_79, xcx_i, xcx_r, xcx_n, xcx_l, xcx_0, at_eq, xcl_65, xcl_67, xcl_69, xat65 hv5, xat67 hv5, xat69 hv5, v65, v67, h69, e, if_false, if_true, nI_add, hW (h + i) (by omega), e1, e2, c, not_true, nI_1, true_or, or_true, ihh]
      · rw [if_neg c] at ihh
        rcases hpp with rfl | rfl <;> simp only [s21_0, s21_1, s21_2, s21_5, s21_6, s21_9, s21_10, s21_13, s21_14, s21_17_4, s21_17_7, s21_20, s21_21, s21_22, s21_24, s21_25, s21_29, s21_30, s21_33, s21_34, s21_37, s21_40, s21_41, s21_42, s21_43, s21_46, s21_47, s21_50, s21_52, s21_53_4, s21_53_7, s21_56, s21_57, s21_58, s21_61, s21_62, s21_65, s21_68, s21_71, s21_74, s21_77, s21_79, xcx_i, xcx_r, xcx_n, xcx_l, xcx_0, at_eq, xcl_65, xcl_67, xcl_69, xat65 hv5, xat67 hv5, xat69 hv5, v65, v67, h69, e, if_false, if_true, nI_add, hW (h + i) (by omega), e1, e2, c, not_false_eq_true, nI_1, true_or, or_true] <;> exact ihh
  rw [e21]
  rcases hpp with rfl | rfl <;> simp only [s21_0, s21_1, s21_2, s21_5, s21_6, s21_9, s21_10, s21_13, s21_14, s21_17_4, s21_17_7, s21_20, s21_21, s21_22, s21_24, s21_25, xcx_i, xcx_r, xcx_n, xcx_l, xcx_0, at_eq, xcl_64, xcl_68, xat64 hv5, xat68 hv5, v64, h68, hX, true_or, or_true] <;> exact loop (st v) 0 (by omega)
theorem Mabout_loop {σ : xM} {n v pp nd q h : Nat} {w : Int32} {le dr co st dp wa : Nat → Nat} {Q : Int32 → xM → Prop} (hB : pB σ pp nd dp wa) (hV : vM σ n le dr co st) (hS : shM σ n le dp) (hv : v < n) (h68 : σ.1 108 v = nI q) (h69 : σ.1 109 v = nI h) (hq : q + le v ≤ 200) (hh : h ≤ 199) : ∀ m i, i + m = st v → xC 232 85 [some (.ref 84), some (.int (nI v)), some (.int w), some (.int (nI (hAg (ldN dp q (le v)) wa (dr v) h i))), some (.int (nI (h + i)))] [] σ (xqI Q) = Q (nI (hAg (ldN dp q (le v)) wa (dr v) h (st v))) σ := by
  obtain ⟨hn5, k1, hrow⟩ := hV
  obtain ⟨⟨v1, v2, v3, v4, v5, v6, v7⟩, v64, v65, v66, v67⟩ := hrow v hv
  have hv5 : v < 5 := by omega
  have hW : ∀ (k : Nat), k < 100000 → ∀ Q : Int32 → xM → Prop, xI1 186 [.ref 84, .int (nI k)] σ Q = Q (nI (wa k)) σ := fun k hk Q => Mwa hB hk
  have m201 : (201 : Int32) * nI v = nI (201 * v) := pk_mul 201 v
  have b0 : v < 100000 := by omega
  have b1 : 201 * v + q < 100000 := by omega
  have c1 : 201 * v + q < 1005 := by omega
  have hsh := hS v q hv hq
  intro m
  induction m with
  | zero =>
    intro i hi
    have hi2 : i = st v := by omega
    have e : (nI (h + st v) ≤ nI (h + i)) = True := eq_true (by rw [hi2]; exact Int32.le_refl _)
    rw [s232_85]
    simp only [s232_87, s232_88, s232_91, s232_92, s232_93, s232_94, s232_95, s232_96, s232_99, s232_100, s232_150, s232_151, xcx_i, xcx_r, xcx_n, xcx_l, xcx_0, xcl_109, xln_109, hv5, b0, cl_s, pos_s, true_and, h69, Mov3 hv5, v67, nI_add, Int32.le_refl, if_true, hi2]
  | succ m ih =>
    intro i hi
    have e : (nI (h + st v) ≤ nI (h + i)) = False := eq_false (fun q => by have := (nI_leI (a := h + st v) (b := h + i) (by omega) (by omega)).mp q; omega)
    have hw := (hB.2.2.2.2.2 (h + i)).2.2
    have hd := ldN_le hB.2.2.2.2.1 q (le v)
    have e1 : (nI (ldN dp q (le v) + wa (h + i)) < nI (dr v)) = (ldN dp q (le v) + wa (h + i) < dr v) := nI_ltL (by omega) (by omega)
    have e2 : (nI (dr v) ≤ nI (ldN dp q (le v) + wa (h + i))) = ¬ (ldN dp q (le v) + wa (h + i) < dr v) := by rw [nI_leL (by omega) (by omega)]; exact propext ⟨fun q => by omega, fun q => by omega⟩
    have ihh := ih (i + 1) (by omega)
    rw [show hAg (ldN dp q (le v)) wa (dr v) h (i + 1) = hAg (ldN dp q (le v)) wa (dr v) h i + if ldN dp q (le v) + wa (h + i) < dr v then 1 else 0 from rfl] at ihh
    rw [s232_85]
    by_cases c : ldN dp q (le v) + wa (h + i) < dr v
    · rw [if_pos c] at ihh
      simp only [s232_87, s232_88, s232_91, s232_92, s232_93, s232_94, s232_95, s232_96, s232_99, s232_100, s232_103, s232_104, s232_105, s232_108, s232_111, s232_112, s232_113, s232_114, s232_117, s232_118, s232_119, s232_120, s232_121, s232_122, s232_124, s232_127, s232_128, s232_129, s232_130, s232_131, s232_134, s232_137, s232_138, s232_141, s232_142, s232_143, s232_144, s232_147, xcx_i, xcx_r, xcx_n, xcx_l, xcx_0, xcl_109, xln_109, xcl_108, xln_108, xcl_118, xln_118, hv5, b0, b1, c1, cl_s, pos_s, true_and, h68, h69, hsh, Mov1 hv5, Mov3 hv5, v65, v67, m201, nI_add, e, if_false, hW (h + i) (by omega), e1, e2, c, not_true, if_true, nI_1, true_or, or_true]
      exact ihh
    · rw [if_neg c] at ihh
      have z : ∀ k, nI k + (0 : Int32) = nI k := fun k => nI_add k 0
      simp only [s232_87, s232_88, s232_91, s232_92, s232_93, s232_94, s232_95, s232_96, s232_99, s232_100, s232_103, s232_104, s232_105, s232_108, s232_111, s232_112, s232_113, s232_114, s232_117, s232_118, s232_119, s232_120, s232_121, s232_122, s232_124, s232_127, s232_128, s232_129, s232_130, s232_131, s232_134, s232_137, s232_138, s232_141, s232_142, s232_143, s232_144, s232_147, xcx_i, xcx_r, xcx_n, xcx_l, xcx_0, xcl_109, xln_109, xcl_108, xln_108, xcl_118, xln_118, hv5, b0, b1, c1, cl_s, pos_s, true_and, h68, h69, hsh, Mov1 hv5, Mov3 hv5, v65, v67, m201, nI_add, e, if_false, hW (h + i) (by omega), e1, e2, c, not_false_eq_true, if_true, nI_1, true_or, or_true, z]
      exact ihh
theorem op_about (a w : Int32) : xOp 138 232 [.int a, .int w] := by
  intro xs L σ hI
  obtain ⟨n, le, dr, co, st, La, p, nd, dp, wa, hVX, hVM, hLX, hLM, hSX, hB, hfit⟩ := gB.get hI.2.2.2.2.2.2.1 hI.1
  have hn5 := hVX.1
  have hn31 : n < 2147483648 := by omega
  have hkx := hVX.2.1
  have hkm := hVM.2.1
  have hpe := hB.2.1
  by_cases hG : 0 ≤ a ∧ a ≤ nI n - 1
  · obtain ⟨v, hv, rfl⟩ := (rng_iff hn31).mp hG
    have hv5 : v < 5 := by omega
    have b0 : v < 100000 := by omega
    have g1 := eq_true hG.1
    have g2 := eq_true hG.2
    obtain ⟨⟨v1, v2, v3, v4, v5, v6, v7⟩, x64, x65, x66, x67⟩ := hVX.2.2 v hv
    obtain ⟨-, m64, m65, m66, m67⟩ := hVM.2.2 v hv
    by_cases hw : 0 ≤ w ∧ w ≤ 6
    · obtain ⟨k, hk, rfl⟩ := nI_of (Int32.not_lt.mpr hw.1)
      have hk6 : k ≤ 6 := (nI_leI (b := 6) hk (by decide)).mp hw.2
      have w1 := eq_true hw.1
      have w2 := eq_true hw.2
      have hMr : ∀ (k : Nat) (x : Int32), k < 4 → σ.1 107 (4 * v + k) = x → ∀ Q : Int32 → xM → Prop, xI1 232 [.ref 84, .int (nI v), .int (nI k)] σ Q = Q x σ := by
        intro k x hk hx Q
        have e4 : (nI k < 4) = True := eq_true ((nI_ltI (b := 4) (by omega) (by decide)).mpr hk)
        have e4' : ((4 : Int32) ≤ nI k) = False := eq_false (Int32.not_le.mpr ((nI_ltI (b := 4) (by omega) (by decide)).mpr hk))
        have z1 : ((0 : Int32) ≤ nI k) = True := eq_true (nI_pos' (by omega))
        have z2 : (nI k ≤ 6) = True := eq_true ((nI_leI (b := 6) (by omega) (by decide)).mpr (by omega))
        rw [e232]
        simp only [s232_0, s232_1, s232_2, s232_5, s232_8, s232_9, s232_10, s232_12, s232_15, s232_18, s232_19, s232_20, s232_21, s232_22, s232_25, s232_26, s232_27, s232_28, s232_31, xcx_i, xcx_r, xcx_n, xcx_l, xcx_0, isVisit_eq, in_eq, hkm, g1, g2, z1, z2, and_self, xb_f, ite_not, not_true, if_true, if_false, e4, e4', MofVisit hv5 hk, hx, true_or, or_true, true_and]
      have : k = 0 ∨ k = 1 ∨ k = 2 ∨ k = 3 ∨ k = 4 ∨ k = 5 ∨ k = 6 := by omega
      rcases this with rfl | rfl | rfl | rfl | rfl | rfl | rfl
      · rw [e138]
        simp only [s138_0, s138_1, s138_4, s138_5, s138_8, s138_11, s138_12, s138_13, s138_14, s138_56, s138_57, s138_60, s138_63, s138_64, s138_67, xcx_i, xcx_r, xcx_n, xcx_l, xcx_0, hasVisit_eq, hkx, g1, g2, and_self, xb_f, ite_not, not_true, if_true, if_false, at_eq, xcl_64, xat64 hv5, x64, true_or, or_true, true_and, show (nI 0 = 0) = True from eq_true rfl]
        rw [hMr 0 _ (by decide) m64]
        exact ⟨rfl, hI⟩
      · rw [e138]
        simp only [s138_0, s138_1, s138_4, s138_5, s138_8, s138_11, s138_12, s138_13, s138_14, s138_68, s138_69, s138_72, s138_75, s138_76, s138_79, xcx_i, xcx_r, xcx_n, xcx_l, xcx_0, hasVisit_eq, hkx, g1, g2, and_self, xb_f, ite_not, not_true, if_true, if_false, at_eq, xcl_65, xat65 hv5, x65, true_or, or_true, true_and, show (nI 1 = 0) = False from eq_false (by decide), show (nI 1 = 1) = True from eq_true rfl]
        rw [hMr 1 _ (by decide) m65]
        exact ⟨rfl, hI⟩
      · rw [e138]
        simp only [s138_0, s138_1, s138_4, s138_5, s138_8, s138_11, s138_12, s138_13, s138_14, s138_80, s138_81, s138_84, s138_87, s138_88, s138_91, xcx_i, xcx_r, xcx_n, xcx_l, xcx_0, hasVisit_eq, hkx, g1, g2, and_self, xb_f, ite_not, not_true, if_true, if_false, at_eq, xcl_66, xat66 hv5, x66, true_or, or_true, true_and, show (nI 2 = 0) = False from eq_false (by decide), show (nI 2 = 1) = False from eq_false (by decide), show (nI 2 = 2) = True from eq_true rfl]
        rw [hMr 2 _ (by decide) m66]
        exact ⟨rfl, hI⟩
      · rw [e138]
        simp only [s138_0, s138_1, s138_4, s138_5, s138_8, s138_11, s138_12, s138_13, s138_14, s138_92, s138_93, s138_96, s138_99, s138_100, s138_103, xcx_i, xcx_r, xcx_n, xcx_l, xcx_0, hasVisit_eq, hkx, g1, g2, and_self, xb_f, ite_not, not_true, if_true, if_false, at_eq, xcl_67, xat67 hv5, x67, true_or, or_true, true_and, show (nI 3 = 0) = False from eq_false (by decide), show (nI 3 = 1) = False from eq_false (by decide), show (nI 3 = 2) = False from eq_false (by decide), show (nI 3 = 3) = True from eq_true rfl]
        rw [hMr 3 _ (by decide) m67]
        exact ⟨rfl, hI⟩
      · obtain ⟨-, -, -, -, q5, -, -, -, -, q6, q7, -⟩ := hI.2.2.2.2.2.2.1.choose_spec.2.2.2 v (by
          have e := hI.2.2.2.2.2.2.1.choose_spec.2.1
          have h5 := hI.2.2.2.2.2.2.1.choose_spec.1
          have := (nI_eq (show n < 2147483648 by omega) (show _ < 2147483648 by omega)).mp (hkx.symm.trans e)
          omega)
        rw [e138]
        simp only [s138_0, s138_1, s138_4, s138_5, s138_8, s138_11, s138_12, s138_13, s138_14, s138_104, s138_105, s138_108, s138_111, s138_112, s138_115, xcx_i, xcx_r, xcx_n, xcx_l, xcx_0, hasVisit_eq, hkx, g1, g2, and_self, xb_f, ite_not, not_true, if_true, if_false, at_eq, xcl_68, xat68 hv5, true_or, or_true, true_and, show (nI 4 = 0) = False from eq_false (by decide), show (nI 4 = 1) = False from eq_false (by decide), show (nI 4 = 2) = False from eq_false (by decide), show (nI 4 = 3) = False from eq_false (by decide), show (nI 4 = 4) = True from eq_true rfl]
        by_cases c : σ.1 69 v = -1
        · have c2 := q5.trans c
          rw [e232]
          simp only [s232_0, s232_1, s232_2, s232_5, s232_8, s232_9, s232_10, s232_12, s232_15, s232_18, s232_19, s232_20, s232_21, s232_22, s232_32, s232_33, s232_36, s232_37, s232_38, s232_39, s232_42, s232_43, xcx_i, xcx_r, xcx_n, xcx_l, xcx_0, isVisit_eq, in_eq, hkm, g1, g2, w1, w2, and_self, xb_f, ite_not, not_true, if_true, if_false, show (nI 4 < 4) = False from eq_false (by decide), show ((4 : Int32) ≤ nI 4) = True from eq_true (by decide), xcl_109, xln_109, b0, hv5, cl_s, pos_s, c2, true_or, or_true, true_and]
          exact ⟨q6 c, hI⟩
        · have c2 : ¬ σ.1 109 v = -1 := fun e => c (q5.symm.trans e)
          rw [e232]
          simp only [s232_0, s232_1, s232_2, s232_5, s232_8, s232_9, s232_10, s232_12, s232_15, s232_18, s232_19, s232_20, s232_21, s232_22, s232_32, s232_33, s232_36, s232_37, s232_38, s232_39, s232_44, s232_45, s232_47, s232_50, s232_51, s232_52, s232_55, s232_56, s232_59, s232_60, s232_61, s232_70, xcx_i, xcx_r, xcx_n, xcx_l, xcx_0, isVisit_eq, in_eq, hkm, g1, g2, w1, w2, and_self, xb_f, ite_not, not_true, if_true, if_false, show (nI 4 < 4) = False from eq_false (by decide), show ((4 : Int32) ≤ nI 4) = True from eq_true (by decide), show ((6 : Int32) ≤ nI 4) = False from eq_false (by decide), show (nI 4 = 4) = True from eq_true rfl, not_false_eq_true, xcl_108, xln_108, xcl_109, xln_109, b0, hv5, cl_s, pos_s, c2, true_or, or_true, true_and]
          exact ⟨(q7 c).1.symm, hI⟩
      · obtain ⟨-, -, -, -, q5, -, -, -, -, q6, q7, -⟩ := hI.2.2.2.2.2.2.1.choose_spec.2.2.2 v (by
          have e := hI.2.2.2.2.2.2.1.choose_spec.2.1
          have h5 := hI.2.2.2.2.2.2.1.choose_spec.1
          have := (nI_eq (show n < 2147483648 by omega) (show _ < 2147483648 by omega)).mp (hkx.symm.trans e)
          omega)
        rw [e138]
        simp only [s138_0, s138_1, s138_4, s138_5, s138_8, s138_11, s138_12, s138_13, s138_14, s138_116, s138_117, s138_120, s138_123, s138_124, s138_127, xcx_i, xcx_r, xcx_n, xcx_l, xcx_0, hasVisit_eq, hkx, g1, g2, and_self, xb_f, ite_not, not_true, if_true, if_false, at_eq, xcl_69, xat69 hv5, true_or, or_true, true_and, show (nI 5 = 0) = False from eq_false (by decide), show (nI 5 = 1) = False from eq_false (by decide), show (nI 5 = 2) = False from eq_false (by decide), show (nI 5 = 3) = False from eq_false (by decide), show (nI 5 = 4) = False from eq_false (by decide), show (nI 5 = 5) = True from eq_true rfl]
        by_cases c : σ.1 69 v = -1
        · have c2 := q5.trans c
          rw [e232]
          simp only [s232_0, s232_1, s232_2, s232_5, s232_8, s232_9, s232_10, s232_12, s232_15, s232_18, s232_19, s232_20, s232_21, s232_22, s232_32, s232_33, s232_36, s232_37, s232_38, s232_39, s232_42, s232_43, xcx_i, xcx_r, xcx_n, xcx_l, xcx_0, isVisit_eq, in_eq, hkm, g1, g2, w1, w2, and_self, xb_f, ite_not, not_true, if_true, if_false, show (nI 5 < 4) = False from eq_false (by decide), show ((4 : Int32) ≤ nI 5) = True from eq_true (by decide), xcl_109, xln_109, b0, hv5, cl_s, pos_s, c2, true_or, or_true, true_and]
          exact ⟨c, hI⟩
        · have c2 : ¬ σ.1 109 v = -1 := fun e => c (q5.symm.trans e)
          rw [e232]
          simp only [s232_0, s232_1, s232_2, s232_5, s232_8, s232_9, s232_10, s232_12, s232_15, s232_18, s232_19, s232_20, s232_21, s232_22, s232_32, s232_33, s232_36, s232_37, s232_38, s232_39, s232_44, s232_45, s232_47, s232_50, s232_51, s232_52, s232_64, s232_65, s232_68, s232_69, s232_70, xcx_i, xcx_r, xcx_n, xcx_l, xcx_0, isVisit_eq, in_eq, hkm, g1, g2, w1, w2, and_self, xb_f, ite_not, not_true, if_true, if_false, show (nI 5 < 4) = False from eq_false (by decide), show ((4 : Int32) ≤ nI 5) = True from eq_true (by decide), show ((6 : Int32) ≤ nI 5) = False from eq_false (by decide), show (nI 5 = 4) = False from eq_false (by decide), not_false_eq_true, xcl_109, xln_109, b0, hv5, cl_s, pos_s, c2, true_or, or_true, true_and]
          exact ⟨q5.symm, hI⟩
      · cases hLv : La v with
        | none =>
          have h1 := (hLX v hv).1 hLv
          have h2 := (hLM v hv).1 hLv
          rw [e138]
          simp only [s138_0, s138_1, s138_4, s138_5, s138_8, s138_11, s138_12, s138_13, s138_14, s138_128, s138_129, s138_132, s138_133, s138_136, s138_154, s138_155, xcx_i, xcx_r, xcx_n, xcx_l, xcx_0, hasVisit_eq, isLaid_eq hv5, h1, hkx, g1, g2, and_self, xb_f, ite_not, not_true, not_false_eq_true, if_true, if_false, true_or, or_true, true_and, show (nI 6 = 0) = False from eq_false (by decide), show (nI 6 = 1) = False from eq_false (by decide), show (nI 6 = 2) = False from eq_false (by decide), show (nI 6 = 3) = False from eq_false (by decide), show (nI 6 = 4) = False from eq_false (by decide), show (nI 6 = 5) = False from eq_false (by decide), show (nI 6 = 6) = True from eq_true rfl]
          rw [e232]
          simp only [s232_0, s232_1, s232_2, s232_5, s232_8, s232_9, s232_10, s232_12, s232_15, s232_18, s232_19, s232_20, s232_21, s232_22, s232_32, s232_33, s232_36, s232_37, s232_38, s232_39, s232_42, s232_43, xcx_i, xcx_r, xcx_n, xcx_l, xcx_0, isVisit_eq, in_eq, hkm, g1, g2, w1, w2, and_self, xb_f, ite_not, not_true, if_true, if_false, show (nI 6 < 4) = False from eq_false (by decide), show ((4 : Int32) ≤ nI 6) = True from eq_true (by decide), xcl_109, xln_109, b0, hv5, cl_s, pos_s, h2, true_or, or_true, true_and]
          first | exact hI | exact ⟨trivial, hI⟩
        | some qh =>
          obtain ⟨q, h⟩ := qh
          obtain ⟨x1, x2, x3, x4⟩ := (hLX v hv).2 q h hLv
          obtain ⟨y1, y2, -, -⟩ := (hLM v hv).2 q h hLv
          have hq := hfit v q h hv hLv
          have hm1 := nI_m1 (show h < 2147483648 by omega)
          have hH : ∀ Q : Int32 → xM → Prop, xI1 21 [.ref 63, .ref p, .int (nI v)] σ Q = _ := fun Q => XhoursAground hB hVX hv x1 x2 x3 x4
          have hfin : xI1 232 [.ref 84, .int (nI v), .int (nI 6)] σ (fun r2 σ2 => nI (hAg (ldN dp q (le v)) wa (dr v) h (st v)) = r2 ∧ xInv xs L σ2) := by
            rw [e232]
            simp only [s232_0, s232_1, s232_2, s232_5, s232_8, s232_9, s232_10, s232_12, s232_15, s232_18, s232_19, s232_20, s232_21, s232_22, s232_32, s232_33, s232_36, s232_37, s232_38, s232_39, s232_44, s232_45, s232_47, s232_71, s232_72, xcx_i, xcx_r, xcx_n, xcx_l, xcx_0, isVisit_eq, in_eq, hkm, g1, g2, w1, w2, and_self, xb_f, ite_not, not_true, if_true, if_false, show (nI 6 < 4) = False from eq_false (by decide), show ((4 : Int32) ≤ nI 6) = True from eq_true (by decide), show ((6 : Int32) ≤ nI 6) = True from eq_true (by decide), not_false_eq_true, xcl_109, xln_109, b0, hv5, cl_s, pos_s, y2, hm1, true_or, or_true, true_and]
            refine Msounds_eq hB hVM (fun τ hs hsh => ?_)
            have y1' : τ.1 108 v = nI q := by rw [hs.1 108 (by decide)]; exact y1
            have y2' : τ.1 109 v = nI h := by rw [hs.1 109 (by decide)]; exact y2
            simp only [s232_75, s232_76, s232_77, s232_78, s232_81, s232_82, s232_83, xcx_i, xcx_r, xcx_n, xcx_l, xcx_0, xcl_109, xln_109, b0, hv5, cl_s, pos_s, y2', true_and]
            have hl := fun Q => Mabout_loop (σ := τ) (Q := Q) (w := nI 6) (hB.only hs (by decide)) (hVM.only hs (by decide)) hsh hv y1' y2' hq x4 (st v) 0 (by omega)
            refine (iff_of_eq (hl _)).mpr ⟨rfl, hI.sim (hs.sim scr118)⟩
          rw [e138]
          rcases hB.1 with rfl | rfl <;> simp only [s138_0, s138_1, s138_4, s138_5, s138_8, s138_11, s138_12, s138_13, s138_14, s138_128, s138_129, s138_132, s138_133, s138_136, s138_139, s138_140, s138_143, s138_144, s138_147, s138_148, s138_151, s138_155, xcx_i, xcx_r, xcx_n, xcx_l, xcx_0, hasVisit_eq, isLaid_eq hv5, x2, hm1, hpe, hkx, g1, g2, and_self, xb_f, ite_not, not_true, not_false_eq_true, if_true, if_false, hH, true_or, or_true, true_and, show (nI 6 = 0) = False from eq_false (by decide), show (nI 6 = 1) = False from eq_false (by decide), show (nI 6 = 2) = False from eq_false (by decide), show (nI 6 = 3) = False from eq_false (by decide), show (nI 6 = 4) = False from eq_false (by decide), show (nI 6 = 5) = False from eq_false (by decide), show (nI 6 = 6) = True from eq_true rfl] <;> exact hfin
    · have w0 : w ≠ 0 := fun q => hw (by rw [q]; decide)
      have w1 : w ≠ 1 := fun q => hw (by rw [q]; decide)
      have w2 : w ≠ 2 := fun q => hw (by rw [q]; decide)
      have w3 : w ≠ 3 := fun q => hw (by rw [q]; decide)
      have w4 : w ≠ 4 := fun q => hw (by rw [q]; decide)
      have w5 : w ≠ 5 := fun q => hw (by rw [q]; decide)
      have w6 : w ≠ 6 := fun q => hw (by rw [q]; decide)
      rw [e138]
      simp only [s138_0, s138_1, s138_4, s138_5, s138_8, s138_11, s138_12, s138_13, s138_14, s138_156, s138_157, xcx_i, xcx_r, xcx_n, xcx_l, xcx_0, hasVisit_eq, hkx, g1, g2, and_self, xb_f, ite_not, not_true, if_true, if_false, w0, w1, w2, w3, w4, w5, w6, true_or, or_true, true_and]
      rw [e232]
      simp only [s232_0, s232_1, s232_2, s232_5, s232_8, s232_9, s232_10, s232_12, s232_15, s232_18, s232_19, xcx_i, xcx_r, xcx_n, xcx_l, xcx_0, isVisit_eq, in_eq, hkm, g1, g2, and_self, xb_f, ite_not, not_true, if_true, if_false, if_neg hw, true_or, or_true, true_and]
      first | exact hI | exact ⟨rfl, hI⟩
  · rw [e138]
    simp only [s138_0, s138_1, s138_4, s138_5, s138_8, s138_11, s138_12, s138_13, s138_14, s138_56, s138_57, s138_60, s138_63, s138_64, s138_67, s138_68, s138_69, s138_72, s138_75, s138_76, s138_79, s138_80, s138_81, s138_84, s138_87, s138_88, s138_91, s138_92, s138_93, s138_96, s138_99, s138_100, s138_103, s138_104, s138_105, s138_108, s138_111, s138_112, s138_115, s138_116, s138_117, s138_120, s138_123, s138_124, s138_127, s138_128, s138_129, s138_132, s138_133, s138_136, s138_139, s138_140, s138_143, s138_144, s138_147, s138_148, s138_151, s138_154, s138_155, s138_156, s138_157, xcx_i, xcx_r, xcx_n, xcx_l, xcx_0, hasVisit_eq, hkx, xb_f, ite_not, if_neg hG, true_or, or_true, true_and]
    rw [e232]
    simp only [s232_0, s232_1, s232_2, s232_5, s232_8, s232_9, s232_10, s232_12, s232_15, s232_18, s232_19, s232_20, s232_21, s232_22, s232_25, s232_26, s232_27, s232_28, s232_31, s232_32, s232_33, s232_36, s232_37, s232_38, s232_39, s232_42, s232_43, s232_44, s232_45, s232_47, s232_50, s232_51, s232_52, s232_55, s232_56, s232_59, s232_60, s232_61, s232_64, s232_65, s232_68, s232_69, s232_70, s232_71, s232_72, s232_75, s232_76, s232_77, s232_78, s232_81, s232_82, s232_83, s232_87, s232_88, s232_91, s232_92, s232_93, s232_94, s232_95, s232_96, s232_99, s232_100, s232_103, s232_104, s232_105, s232_108, s232_111, s232_112, s232_113, s232_114, s232_117, s232_118, s232_119, s232_120, s232_121, s232_122, s232_124, s232_127, s232_128, s232_129, s232_130, s232_131, s232_134, s232_137, s232_138, s232_141, s232_142, s232_143, s232_144, s232_147, s232_150, s232_151, xcx_i, xcx_r, xcx_n, xcx_l, xcx_0, isVisit_eq, hkm, xb_f, ite_not, if_neg hG, true_or, or_true, true_and]
    first | exact hI | exact ⟨rfl, hI⟩
