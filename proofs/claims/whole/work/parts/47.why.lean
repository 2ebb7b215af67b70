/-! the reference's reasons -/
theorem sub_le10 {a b c : Nat} (ha : a < 100000) (hb : b < 100000) (hc : c < 100000) : (10 ≤ nI a - nI b - nI c) = (b + c + 10 ≤ a) := by
  rw [nI_iI, nI_iI, nI_iI, iI_sub, iI_sub, show (10 : Int32) = iI 10 from rfl]
  rw [propext (iI_le (a := 10) (b := (a : Int) - b - c) (by omega) (by omega) (by omega) (by omega))]
  exact propext ⟨fun q => by omega, fun q => by omega⟩
theorem sub_lt10 {a b c : Nat} (ha : a < 100000) (hb : b < 100000) (hc : c < 100000) : (nI a - nI b - nI c < 10) = ¬ (b + c + 10 ≤ a) := by
  rw [← sub_le10 ha hb hc, Int32.not_le]
theorem Mwhy_loop {σ : xM} {n v p h : Nat} {d : Int32} {le dr co st : Nat → Nat} {L : Nat → Option (Nat × Nat)} {Q : Int32 → xM → Prop} (hV : vM σ n le dr co st) (hL : lM σ n L) (hv : v < n) (hp : p ≤ 200) (hh : h ≤ 199) : ∀ m i, i + m = n → ∀ l6 l7, xC 227 105 [some (.ref 84), some (.int (nI v)), some (.int (nI p)), some (.int (nI h)), some (.int d), some (.int (nI i)), l6, l7] [] σ (xqI Q) = Q (wcode (nbF le st L v p h m i)) σ := by
  obtain ⟨hn5, k1, hrow⟩ := hV
  obtain ⟨⟨v1, v2, v3, v4, v5, v6, v7⟩, v64, v65, v66, v67⟩ := hrow v hv
  have hv5 : v < 5 := by omega
  intro m
  induction m with
  | zero =>
    intro i hi l6 l7
    obtain rfl : i = n := by omega
    have e : (nI i ≤ nI i) = True := eq_true (Int32.le_refl _)
    rw [s227_105]
    simp only [s227_0, s227_1, s227_2, s227_3, s227_4, s227_7, s227_10, s227_11, s227_12, s227_13, s227_14, s227_17, s227_18, s227_19, s227_20, s227_23, s227_24, s227_27, s227_30, s227_31, s227_34, s227_37, s227_38, s227_39, s227_40, s227_43, s227_46, s227_47, s227_48, s227_49, s227_50, s227_51, s227_53, s227_55, s227_56, s227_57, s227_60, s227_61, s227_62, s227_63, s227_64, s227_67, s227_68, s227_69, s227_72, s227_73, s227_74, s227_76, s227_77, s227_78, s227_79, s227_80, s227_81, s227_84, s227_85, s227_88, s227_89, s227_90, s227_91, s227_92, s227_95, s227_96, s227_97, s227_100, s227_101, s227_102, s227_103, s227_107, s227_108, s227_111, s227_114, s227_116, s227_117, s227_120, s227_121, s227_124, s227_126, s227_127, s227_128, s227_131, s227_134, s227_135, s227_136, s227_139, s227_141, s227_142, s227_143, s227_145, s227_146, s227_149, s227_150, s227_153, s227_154, s227_157, s227_159, s227_160, s227_161, s227_162, s227_163, s227_164, s227_167, s227_168, s227_171, s227_172, s227_175, s227_176, s227_178, s227_179, s227_182, s227_184, s227_185, s227_186, s227_187, s227_188, s227_189, s227_190, s227_193, s227_194, s227_196, s227_199, s227_200, s227_201, s227_204, s227_206, s227_207, s227_208, s227_209, s227_211, s227_212, s227_215, s227_216, s227_218, s227_221, s227_222, s227_225, s227_226, s227_228, s227_230, s227_233, s227_235, s227_238, s227_240, s227_242, s227_243, s227_244, s227_247, s227_250, s227_251, xcx_i, xcx_r, xcx_n, xcx_l, xcx_0, k1, e, if_true]
    first | done | rfl
  | succ m ih =>
    intro i hi l6 l7
    have hin : i < n := by omega
    obtain ⟨⟨w1, w2, w3, w4, w5, w6, w7⟩, w64, w65, w66, w67⟩ := hrow i hin
    obtain ⟨l1, l2⟩ := hL i hin
    have e : (nI n ≤ nI i) = False := eq_false (fun q => by have := (nI_leI (a := n) (b := i) (by omega) (by omega)).mp q; omega)
    have i5 : i < 5 := by omega
    have b0 : i < 100000 := by omega
    have eiv : (nI i = nI v) = (i = v) := propext (nI_eq (by omega) (by omega))
    rw [show nbF le st L v p h (m + 1) i = if cnf le st L v p h i then some i else nbF le st L v p h m (i + 1) from rfl]
    have ihh := ih (i + 1) (by omega)
    rw [s227_105]
    cases hLi : L i with
    | none =>
      have h69 := l1 hLi
      have hc : cnf le st L v p h i = false := by unfold cnf; rw [hLi]
      simp only [s227_0, s227_1, s227_2, s227_3, s227_4, s227_7, s227_10, s227_11, s227_12, s227_13, s227_14, s227_17, s227_18, s227_19, s227_20, s227_23, s227_24, s227_27, s227_30, s227_31, s227_34, s227_37, s227_38, s227_39, s227_40, s227_43, s227_46, s227_47, s227_48, s227_49, s227_50, s227_51, s227_53, s227_55, s227_56, s227_57, s227_60, s227_61, s227_62, s227_63, s227_64, s227_67, s227_68, s227_69, s227_72, s227_73, s227_74, s227_76, s227_77, s227_78, s227_79, s227_80, s227_81, s227_84, s227_85, s227_88, s227_89, s227_90, s227_91, s227_92, s227_95, s227_96, s227_97, s227_100, s227_101, s227_102, s227_103, s227_107, s227_108, s227_111, s227_114, s227_116, s227_117, s227_120, s227_121, s227_124, s227_126, s227_127, s227_128, s227_131, s227_134, s227_135, s227_136, s227_139, s227_141, s227_142, s227_143, s227_145, s227_146, s227_149, s227_150, s227_153, s227_154, s227_157, s227_159, s227_160, s227_161, s227_162, s227_163, s227_164, s227_167, s227_168, s227_171, s227_172, s227_175, s227_176, s227_178, s227_179, s227_182, s227_184, s227_185, s227_186, s227_187, s227_188, s227_189, s227_190, s227_193, s227_194, s227_196, s227_199, s227_200, s227_201, s227_204, s227_206, s227_207, s227_208, s227_209, s227_211, s227_212, s227_215, s227_216, s227_218, s227_221, s227_222, s227_225, s227_226, s227_228, s227_230, s227_233, s227_235, s227_238, s227_240, s227_242, s227_243, s227_244, s227_247, s227_250, s227_251, xcx_i, xcx_r, xcx_n, xcx_l, xcx_0, k1, e, if_false, xcl_109, xln_109, i5, b0, cl_s, pos_s, true_and, h69, not_true, if_true, ite_self, nI_1, hc, Bool.false_eq_true, ihh]
    | some ph =>
      obtain ⟨pi, hi2⟩ := ph
      obtain ⟨h68, h69, b1, b2⟩ := l2 pi hi2 hLi
      have e1 : (nI (hi2 + st i) ≤ nI h) = ¬ h < hi2 + st i := by rw [nI_leL (by omega) (by omega)]; exact propext ⟨fun q => by omega, fun q => by omega⟩
      have e2 : (nI (h + st v) ≤ nI hi2) = ¬ hi2 < h + st v := by rw [nI_leL (by omega) (by omega)]; exact propext ⟨fun q => by omega, fun q => by omega⟩
      have f1 : (nI h < nI (hi2 + st i)) = (h < hi2 + st i) := nI_ltL (by omega) (by omega)
      have f2 : (nI hi2 < nI (h + st v)) = (hi2 < h + st v) := nI_ltL (by omega) (by omega)
      have e3 : ((10 : Int32) ≤ nI pi - nI p - nI (le v)) = (p + le v + 10 ≤ pi) := sub_le10 (by omega) (by omega) (by omega)
      have e4 : ((10 : Int32) ≤ nI p - nI pi - nI (le i)) = (pi + le i + 10 ≤ p) := sub_le10 (by omega) (by omega) (by omega)
      have f3 : (nI pi - nI p - nI (le v) < 10) = ¬ (p + le v + 10 ≤ pi) := sub_lt10 (by omega) (by omega) (by omega)
      have f4 : (nI p - nI pi - nI (le i) < 10) = ¬ (pi + le i + 10 ≤ p) := sub_lt10 (by omega) (by omega) (by omega)
      have h10 : ¬ (1 : Int32) = 0 := by decide
      by_cases hc : cnf le st L v p h i = true
      · have hc2 := hc
        unfold cnf at hc2
        rw [hLi] at hc2
        obtain ⟨c1, c2, c3, c4, c5⟩ := of_decide_eq_true hc2
        have c6 : ¬ (p + le v + 10 ≤ pi) := by omega
        have c7 : ¬ (pi + le i + 10 ≤ p) := by omega
        simp only [s227_0, s227_1, s227_2, s227_3, s227_4, s227_7, s227_10, s227_11, s227_12, s227_13, s227_14, s227_17, s227_18, s227_19, s227_20, s227_23, s227_24, s227_27, s227_30, s227_31, s227_34, s227_37, s227_38, s227_39, s227_40, s227_43, s227_46, s227_47, s227_48, s227_49, s227_50, s227_51, s227_53, s227_55, s227_56, s227_57, s227_60, s227_61, s227_62, s227_63, s227_64, s227_67, s227_68, s227_69, s227_72, s227_73, s227_74, s227_76, s227_77, s227_78, s227_79, s227_80, s227_81, s227_84, s227_85, s227_88, s227_89, s227_90, s227_91, s227_92, s227_95, s227_96, s227_97, s227_100, s227_101, s227_102, s227_103, s227_107, s227_108, s227_111, s227_114, s227_116, s227_117, s227_120, s227_121, s227_124, s227_126, s227_127, s227_128, s227_131, s227_134, s227_135, s227_136, s227_139, s227_141, s227_142, s227_143, s227_145, s227_146, s227_149, s227_150, s227_153, s227_154, s227_157, s227_159, s227_160, s227_161, s227_162, s227_163, s227_164, s227_167, s227_168, s227_171, s227_172, s227_175, s227_176, s227_178, s227_179, s227_182, s227_184, s227_185, s227_186, s227_187, s227_188, s227_189, s227_190, s227_193, s227_194, s227_196, s227_199, s227_200, s227_201, s227_204, s227_206, s227_207, s227_208, s227_209, s227_211, s227_212, s227_215, s227_216, s227_218, s227_221, s227_222, s227_225, s227_226, s227_228, s227_230, s227_233, s227_235, s227_238, s227_240, s227_242, s227_243, s227_244, s227_247, s227_250, s227_251, xcx_i, xcx_r, xcx_n, xcx_l, xcx_0, k1, e, if_false, xcl_108, xcl_109, xln_108, xln_109, i5, b0, cl_s, pos_s, true_and, h68, h69, Mov0 hv5, Mov0 i5, Mov3 hv5, Mov3 i5, v64, v67, w64, w67, eiv, nI_m1 (show hi2 < 2147483648 by omega), not_false_eq_true, not_true, nI_add, e1, e2, f1, f2, e3, e4, f3, f4, c1, c2, c3, c6, c7, if_true, h10, true_or, or_true, hc, wcode]
      · have hcf : cnf le st L v p h i = false := by rw [Bool.not_eq_true] at hc; exact hc
        unfold cnf at hc
        rw [hLi] at hc
        have hc3 : ¬ (i ≠ v ∧ h < hi2 + st i ∧ hi2 < h + st v ∧ p < pi + le i + 10 ∧ pi < p + le v + 10) := fun q => hc (decide_eq_true q)
        by_cases c1 : i = v
        · subst c1
          simp only [s227_0, s227_1, s227_2, s227_3, s227_4, s227_7, s227_10, s227_11, s227_12, s227_13, s227_14, s227_17, s227_18, s227_19, s227_20, s227_23, s227_24, s227_27, s227_30, s227_31, s227_34, s227_37, s227_38, s227_39, s227_40, s227_43, s227_46, s227_47, s227_48, s227_49, s227_50, s227_51, s227_53, s227_55, s227_56, s227_57, s227_60, s227_61, s227_62, s227_63, s227_64, s227_67, s227_68, s227_69, s227_72, s227_73, s227_74, s227_76, s227_77, s227_78, s227_79, s227_80, s227_81, s227_84, s227_85, s227_88, s227_89, s227_90, s227_91, s227_92, s227_95, s227_96, s227_97, s227_100, s227_101, s227_102, s227_103, s227_107, s227_108, s227_111, s227_114, s227_116, s227_117, s227_120, s227_121, s227_124, s227_126, s227_127, s227_128, s227_131, s227_134, s227_135, s227_136, s227_139, s227_141, s227_142, s227_143, s227_145, s227_146, s227_149, s227_150, s227_153, s227_154, s227_157, s227_159, s227_160, s227_161, s227_162, s227_163, s227_164, s227_167, s227_168, s227_171, s227_172, s227_175, s227_176, s227_178, s227_179, s227_182, s227_184, s227_185, s227_186, s227_187, s227_188, s227_189, s227_190, s227_193, s227_194, s227_196, s227_199, s227_200, s227_201, s227_204, s227_206, s227_207, s227_208, s227_209, s227_211, s227_212, s227_215, s227_216, s227_218, s227_221, s227_222, s227_225, s227_226, s227_228, s227_230, s227_233, s227_235, s227_238, s227_240, s227_242, s227_243, s227_244, s227_247, s227_250, s227_251, xcx_i, xcx_r, xcx_n, xcx_l, xcx_0, k1, e, if_false, if_true, nI_1, hcf, Bool.false_eq_true, ihh]
        · by_cases c2 : h < hi2 + st i
          · by_cases c3 : hi2 < h + st v
            · by_cases c4 : p + le v + 10 ≤ pi
              · simp only [s227_0, s227_1, s227_2, s227_3, s227_4, s227_7, s227_10, s227_11, s227_12, s227_13, s227_14, s227_17, s227_18, s227_19, s227_20, s227_23, s227_24, s227_27, s227_30, s227_31, s227_34, s227_37, s227_38, s227_39, s227_40, s227_43, s227_46, s227_47, s227_48, s227_49, s227_50, s227_51, s227_53, s227_55, s227_56, s227_57, s227_60, s227_61, s227_62, s227_63, s227_64, s227_67, s227_68, s227_69, s227_72, s227_73, s227_74, s227_76, s227_77, s227_78, s227_79, s227_80, s227_81, s227_84, s227_85, s227_88, s227_89, s227_90, s227_91, s227_92, s227_95, s227_96, s227_97, s227_100, s227_101, s227_102, s227_103, s227_107, s227_108, s227_111, s227_114, s227_116, s227_117, s227_120, s227_121, s227_124, s227_126, s227_127, s227_128, s227_131, s227_134, s227_135, s227_136, s227_139, s227_141, s227_142, s227_143, s227_145, s227_146, s227_149, s227_150, s227_153, s227_154, s227_157, s227_159, s227_160, s227_161, s227_162, s227_163, s227_164, s227_167, s227_168, s227_171, s227_172, s227_175, s227_176, s227_178, s227_179, s227_182, s227_184, s227_185, s227_186, s227_187, s227_188, s227_189, s227_190, s227_193, s227_194, s227_196, s227_199, s227_200, s227_201, s227_204, s227_206, s227_207, s227_208, s227_209, s227_211, s227_212, s227_215, s227_216, s227_218, s227_221, s227_222, s227_225, s227_226, s227_228, s227_230, s227_233, s227_235, s227_238, s227_240, s227_242, s227_243, s227_244, s227_247, s227_250, s227_251, xcx_i, xcx_r, xcx_n, xcx_l, xcx_0, k1, e, if_false, xcl_108, xcl_109, xln_108, xln_109, i5, b0, cl_s, pos_s, true_and, h68, h69, Mov0 hv5, Mov0 i5, Mov3 hv5, Mov3 i5, v64, v67, w64, w67, eiv, nI_m1 (show hi2 < 2147483648 by omega), not_false_eq_true, not_true, nI_add, e1, e2, f1, f2, e3, e4, f3, f4, c1, c2, c3, c4, if_true, h10, true_or, or_true, hcf, Bool.false_eq_true, nI_1, ihh]
              · have c5 : pi + le i + 10 ≤ p := by
                  rcases Nat.lt_or_ge p (pi + le i + 10) with q | q
                  · exact absurd ⟨c1, c2, c3, q, by omega⟩ hc3
                  · exact q
                simp only [s227_0, s227_1, s227_2, s227_3, s227_4, s227_7, s227_10, s227_11, s227_12, s227_13, s227_14, s227_17, s227_18, s227_19, s227_20, s227_23, s227_24, s227_27, s227_30, s227_31, s227_34, s227_37, s227_38, s227_39, s227_40, s227_43, s227_46, s227_47, s227_48, s227_49, s227_50, s227_51, s227_53, s227_55, s227_56, s227_57, s227_60, s227_61, s227_62, s227_63, s227_64, s227_67, s227_68, s227_69, s227_72, s227_73, s227_74, s227_76, s227_77, s227_78, s227_79, s227_80, s227_81, s227_84, s227_85, s227_88, s227_89, s227_90, s227_91, s227_92, s227_95, s227_96, s227_97, s227_100, s227_101, s227_102, s227_103, s227_107, s227_108, s227_111, s227_114, s227_116, s227_117, s227_120, s227_121, s227_124, s227_126, s227_127, s227_128, s227_131, s227_134, s227_135, s227_136, s227_139, s227_141, s227_142, s227_143, s227_145, s227_146, s227_149, s227_150, s227_153, s227_154, s227_157, s227_159, s227_160, s227_161, s227_162, s227_163, s227_164, s227_167, s227_168, s227_171, s227_172, s227_175, s227_176, s227_178, s227_179, s227_182, s227_184, s227_185, s227_186, s227_187, s227_188, s227_189, s227_190, s227_193, s227_194, s227_196, s227_199, s227_200, s227_201, s227_204, s227_206, s227_207, s227_208, s227_209, s227_211, s227_212, s227_215, s227_216, s227_218, s227_221, s227_222, s227_225, s227_226, s227_228, s227_230, s227_233, s227_235, s227_238, s227_240, s227_242, s227_243, s227_244, s227_247, s227_250, s227_251, xcx_i, xcx_r, xcx_n, xcx_l, xcx_0, k1, e, if_false, xcl_108, xcl_109, xln_108, xln_109, i5, b0, cl_s, pos_s, true_and, h68, h69, Mov0 hv5, Mov0 i5, Mov3 hv5, Mov3 i5, v64, v67, w64, w67, eiv, nI_m1 (show hi2 < 2147483648 by omega), not_false_eq_true, not_true, nI_add, e1, e2, f1, f2, e3, e4, f3, f4, c1, c2, c3, c4, c5, if_true, h10, true_or, or_true, hcf, Bool.false_eq_true, nI_1, ihh]
            · by_cases c4 : p + le v + 10 ≤ pi <;> by_cases c5 : pi + le i + 10 ≤ p <;> simp only [s227_0, s227_1, s227_2, s227_3, s227_4, s227_7, s227_10, s227_11, s227_12, s227_13, s227_14, s227_17, s227_18, s227_19, s227_20, s227_23, s227_24, s227_27, s227_30, s227_31, s227_34, s227_37, s227_38, s227_39, s227_40, s227_43, s227_46, s227_47, s227_48, s227_49, s227_50, s227_51, s227_53, s227_55, s227_56, s227_57, s227_60, s227_61, s227_62, s227_63, s227_64, s227_67, s227_68, s227_69, s227_72, s227_73, s227_74, s227_76, s227_77, s227_78, s227_79, s227_80, s227_81, s227_84, s227_85, s227_88, s227_89, s227_90, s227_91, s227_92, s227_95, s227_96, s227_97, s227_100, s227_101, s227_102, s227_103, s227_107, s227_108, s227_111, s227_114, s227_116, s227_117, s227_120, s227_121, s227_124, s227_126, s227_127, s227_128, s227_131, s227_134, s227_135, s227_136, s227_139, s227_141, s227_142, s227_143, s227_145, s227_146, s227_149, s227_150, s227_153, s227_154, s227_157, s227_159, s227_160, s227_161, s227_162, s227_163, s227_164, s227_167, s227_168, s227_171, s227_172, s227_175, s227_176, s227_178, s227_179, s227_182, s227_184, s227_185, s227_186, s227_187, s227_188, s227_189, s227_190, s227_193, s227_194, s227_196, s227_199, s227_200, s227_201, s227_204, s227_206, s227_207, s227_208, s227_209, s227_211, s227_212, s227_215, s227_216, s227_218, s227_221, s227_222, s227_225, s227_226, s227_228, s227_230, s227_233, s227_235, s227_238, s227_240, s227_242, s227_243, s227_244, s227_247, s227_250, s227_251, xcx_i, xcx_r, xcx_n, xcx_l, xcx_0, k1, e, if_false, xcl_108, xcl_109, xln_108, xln_109, i5, b0, cl_s, pos_s, true_and, h68, h69, Mov0 hv5, Mov0 i5, Mov3 hv5, Mov3 i5, v64, v67, w64, w67, eiv, nI_m1 (show hi2 < 2147483648 by omega), not_false_eq_true, not_true, nI_add, e1, e2, f1, f2, e3, e4, f3, f4, c1, c2, c3, c4, c5, if_true, h10, true_or, or_true, hcf, Bool.false_eq_true, nI_1, ihh]
          · by_cases c4 : p + le v + 10 ≤ pi <;> by_cases c5 : pi + le i + 10 ≤ p <;> simp only [s227_0, s227_1, s227_2, s227_3, s227_4, s227_7, s227_10, s227_11, s227_12, s227_13, s227_14, s227_17, s227_18, s227_19, s227_20, s227_23, s227_24, s227_27, s227_30, s227_31, s227_34, s227_37, s227_38, s227_39, s227_40, s227_43, s227_46, s227_47, s227_48, s227_49, s227_50, s227_51, s227_53, s227_55, s227_56, s227_57, s227_60, s227_61, s227_62, s227_63, s227_64, s227_67, s227_68, s227_69, s227_72, s227_73, s227_74, s227_76, s227_77, s227_78, s227_79, s227_80, s227_81, s227_84, s227_85, s227_88, s227_89, s227_90, s227_91, s227_92, s227_95, s227_96, s227_97, s227_100, s227_101, s227_102, s227_103, s227_107, s227_108, s227_111, s227_114, s227_116, s227_117, s227_120, s227_121, s227_124, s227_126, s227_127, s227_128, s227_131, s227_134, s227_135, s227_136, s227_139, s227_141, s227_142, s227_143, s227_145, s227_146, s227_149, s227_150, s227_153, s227_154, s227_157, s227_159, s227_160, s227_161, s227_162, s227_163, s227_164, s227_167, s227_168, s227_171, s227_172, s227_175, s227_176, s227_178, s227_179, s227_182, s227_184, s227_185, s227_186, s227_187, s227_188, s227_189, s227_190, s227_193, s227_194, s227_196, s227_199, s227_200, s227_201, s227_204, s227_206, s227_207, s227_208, s227_209, s227_211, s227_212, s227_215, s227_216, s227_218, s227_221, s227_222, s227_225, s227_226, s227_228, s227_230, s227_233, s227_235, s227_238, s227_240, s227_242, s227_243, s227_244, s227_247, s227_250, s227_251, xcx_i, xcx_r, xcx_n, xcx_l, xcx_0, k1, e, if_false, xcl_108, xcl_109, xln_108, xln_109, i5, b0, cl_s, pos_s, true_and, h68, h69, Mov0 hv5, Mov0 i5, Mov3 hv5, Mov3 i5, v64, v67, w64, w67, eiv, nI_m1 (show hi2 < 2147483648 by omega), not_false_eq_true, not_true, nI_add, e1, e2, f1, f2, e3, e4, f3, f4, c1, c2, c4, c5, if_true, h10, true_or, or_true, hcf, Bool.false_eq_true, nI_1, ihh]
theorem Mwhy_eq {σ : xM} {n v pp nd : Nat} {p h : Int32} {le dr co st dp wa : Nat → Nat} {L : Nat → Option (Nat × Nat)} {Q : Int32 → xM → Prop} (hB : pB σ pp nd dp wa) (hV : vM σ n le dr co st) (hL : lM σ n L) (hS : shM σ n le dp) (hv : v < n) : xI1 227 [.ref 84, .int (nI v), .int p, .int h] σ Q = Q (whyF le dr co st dp wa L n v p h) σ := by
  have hV2 := hV
  obtain ⟨hn5, k1, hrow⟩ := hV
  obtain ⟨⟨v1, v2, v3, v4, v5, v6, v7⟩, v64, v65, v66, v67⟩ := hrow v hv
  have hv5 : v < 5 := by omega
  have m201 : (201 : Int32) * nI v = nI (201 * v) := pk_mul 201 v
  unfold whyF
  by_cases c1 : h < nI (co v)
  · rw [e227]
    simp only [s227_0, s227_1, s227_2, s227_3, s227_4, s227_7, s227_10, s227_11, xcx_i, xcx_r, xcx_n, xcx_l, xcx_0, Mov2 hv5, v66, Int32.not_le.mpr c1, c1, if_true, if_false]
  have c1' := Int32.not_lt.mp c1
  obtain ⟨h, hh31, rfl⟩ := nI_of (x := h) (Int32.not_lt.mpr (Int32.le_trans (nI_pos' (by omega)) c1'))
  have esub := nI_sub200 (show le v ≤ 200 by omega)
  by_cases c2 : 0 ≤ p ∧ p ≤ nI (200 - le v)
  · obtain ⟨p, hp31, rfl⟩ := nI_of (x := p) (Int32.not_lt.mpr c2.1)
    have hp : p ≤ 200 - le v := (nI_leI hp31 (by omega)).mp c2.2
    have g1 := eq_true c2.1
    have g2 := eq_true c2.2
    by_cases c3 : 199 < nI h
    · have c3' := Int32.not_le.mpr c3
      rw [e227]
      simp only [s227_0, s227_1, s227_2, s227_3, s227_4, s227_7, s227_12, s227_13, s227_14, s227_17, s227_18, s227_19, s227_20, s227_23, s227_24, s227_27, s227_30, s227_31, s227_34, s227_37, s227_38, xcx_i, xcx_r, xcx_n, xcx_l, xcx_0, Mov0 hv5, Mov2 hv5, v64, v66, esub, in_eq, xb_f, ite_not, c1, c1', g1, g2, c3, c3', not_true, and_self, if_true, if_false, true_or, or_true, true_and]
    · have c3' := Int32.not_lt.mp c3
      have hh : h ≤ 199 := (nI_leI (b := 199) hh31 (by decide)).mp c3'
      have hld := ldN_le hB.2.2.2.2.1 p (le v)
      have hw1 := (hB.2.2.2.2.2 h).2.2
      have hw2 := (hB.2.2.2.2.2 (h + st v)).2.2
      have hW : ∀ (k : Nat), k < 100000 → ∀ Q : Int32 → xM → Prop, xI1 186 [.ref 84, .int (nI k)] σ Q = Q (nI (wa k)) σ := fun k hk Q => Mwa hB hk
      have e1 : (nI (ldN dp p (le v) + wa h) < nI (dr v + 1)) = (ldN dp p (le v) + wa h < dr v + 1) := nI_ltL (by omega) (by omega)
      have e2 : (nI (ldN dp p (le v) + wa (h + st v)) < nI (dr v + 1)) = (ldN dp p (le v) + wa (h + st v) < dr v + 1) := nI_ltL (by omega) (by omega)
      have e1' : (nI (dr v + 1) ≤ nI (ldN dp p (le v) + wa h)) = ¬ (ldN dp p (le v) + wa h < dr v + 1) := by rw [nI_leL (by omega) (by omega)]; exact propext ⟨fun q => by omega, fun q => by omega⟩
      have e2' : (nI (dr v + 1) ≤ nI (ldN dp p (le v) + wa (h + st v))) = ¬ (ldN dp p (le v) + wa (h + st v) < dr v + 1) := by rw [nI_leL (by omega) (by omega)]; exact propext ⟨fun q => by omega, fun q => by omega⟩
      have b0 : 201 * v + p < 100000 := by omega
      have c0 : 201 * v + p < 1005 := by omega
      have hsh := hS v p hv (by omega)
      have hlp := fun l6 l7 => Mwhy_loop (σ := σ) (Q := Q) (d := nI (ldN dp p (le v))) hV2 hL hv (show p ≤ 200 by omega) hh n 0 (by omega) l6 l7
      rw [e227, nI_cl h (by omega), nI_cl p (by omega)]
      simp only [s227_0, s227_1, s227_2, s227_3, s227_4, s227_7, s227_12, s227_13, s227_14, s227_17, s227_18, s227_19, s227_20, s227_23, s227_24, s227_27, s227_30, s227_31, s227_34, s227_39, s227_40, s227_43, s227_46, s227_47, s227_48, s227_49, s227_50, s227_51, s227_53, s227_55, s227_56, s227_57, s227_60, s227_61, s227_62, s227_63, s227_64, s227_67, s227_68, s227_69, s227_72, s227_73, s227_74, s227_76, s227_77, s227_78, s227_79, s227_80, s227_81, s227_84, s227_85, s227_88, s227_89, s227_90, s227_91, s227_92, s227_95, s227_96, s227_97, s227_100, s227_101, s227_102, s227_103, xcx_i, xcx_r, xcx_n, xcx_l, xcx_0, Mov0 hv5, Mov1 hv5, Mov2 hv5, Mov3 hv5, v64, v65, v66, v67, esub, in_eq, xb_f, ite_not, c1, c1', g1, g2, c3, c3', not_true, and_self, if_true, if_false, true_or, or_true, true_and, m201, nI_add, al_1, xcl_118, xln_118, b0, c0, cl_s, pos_s, hsh, hW h (by omega), hW (h + st v) (by omega), e1, e2, e1', e2']
      by_cases d1 : ldN dp p (le v) + wa h < dr v + 1
      · simp only [if_pos d1]
      · simp only [if_neg d1]
        by_cases d2 : ldN dp p (le v) + wa (h + st v) < dr v + 1
        · simp only [if_pos d2]
        · simp only [if_neg d2]
          exact hlp none none
  · rw [e227]
    simp only [s227_0, s227_1, s227_2, s227_3, s227_4, s227_7, s227_12, s227_13, s227_14, s227_17, s227_18, s227_19, s227_20, s227_23, s227_24, s227_27, s227_37, s227_38, xcx_i, xcx_r, xcx_n, xcx_l, xcx_0, Mov0 hv5, Mov2 hv5, v64, v66, esub, in_eq, xb_f, ite_not, c1, c1', c2, not_false_eq_true, if_true, if_false, true_or, or_true, true_and]
