/-! the reference's tokens: letters -/
theorem Mletters {σ : xM} {n i0 : Nat} {bt : Nat → Nat} {l1 : Option Value} {Q : xM → Prop} (h : txR σ n bt) : ∀ f i, i + f = n → i0 ≤ i → ∀ τ, (∀ j, i0 ≤ j → j < i → bt j ≤ 122) → lxM σ τ → τ.1 84 2 = nI i → τ.1 84 4 = nI i0 → τ.2.1 84 5 = lN (pkN bt i0 (min (i - i0) 8)) → (∀ τ', lxM σ τ' → τ'.1 84 2 = nI (runE isLt bt n f i) → τ'.1 84 4 = nI i0 → τ'.1 84 3 = 1 → τ'.2.1 84 5 = lN (if runE isLt bt n f i - i0 ≤ 8 then pkN bt i0 (runE isLt bt n f i - i0) else 0) → Q τ') → xC 164 99 [some (.ref 84), l1] [] τ (xqV Q) := by
  have hn := h.1
  have fin : ∀ i τ, i ≤ n → i0 ≤ i → lxM σ τ → τ.1 84 2 = nI i → τ.1 84 4 = nI i0 → τ.2.1 84 5 = lN (pkN bt i0 (min (i - i0) 8)) → (∀ τ', lxM σ τ' → τ'.1 84 2 = nI i → τ'.1 84 4 = nI i0 → τ'.1 84 3 = 1 → τ'.2.1 84 5 = lN (if i - i0 ≤ 8 then pkN bt i0 (i - i0) else 0) → Q τ') → xC 164 174 [some (.ref 84), l1] [] τ (xqV Q) := by
    intro i τ hin hi0 hr h2 h4 h5 hQ
    have es : nI i - nI i0 = nI (i - i0) := by rw [nI_iI, nI_iI, nI_iI, iI_sub]; congr 1; omega
    have ele : (nI (i - i0) ≤ (8 : Int32)) = (i - i0 ≤ 8) := nI_leL (b := 8) (by omega) (by decide)
    by_cases c : i - i0 ≤ 8
    · rw [if_pos c] at hQ
      rw [show min (i - i0) 8 = i - i0 by omega] at h5
      have hq := hQ (xe_si τ 84 3 1) (hr.si (Or.inr (Or.inl rfl))) h2 h4 rfl h5
      simp only [s164_174, s164_175, s164_178, s164_179, s164_182, s164_183, s164_185, s164_188, s164_189, s164_190, s164_193, s164_194, s164_195, s164_198, s164_325, xcx_i, xcx_r, xcx_n, xcx_l, xcx_0, h2, h4, es, ele, c, if_true]
      exact hq
    · rw [if_neg c] at hQ
      have hq := hQ (xe_si (xe_sl τ 84 5 0) 84 3 1) (lxM.si (show lxM σ (xe_sl τ 84 5 0) from hr) (Or.inr (Or.inl rfl))) h2 h4 rfl rfl
      simp only [s164_174, s164_175, s164_178, s164_179, s164_182, s164_183, s164_185, s164_188, s164_189, s164_190, s164_193, s164_194, s164_195, s164_198, s164_325, xcx_i, xcx_r, xcx_n, xcx_l, xcx_0, h2, h4, es, ele, c, if_false]
      exact hq
  intro f
  induction f with
  | zero =>
    intro i hi hi0 τ hlt hr h2 h4 h5 hQ
    obtain rfl : i = n := by omega
    have hx := lxM.txt h hr
    have hz := fin i τ (Nat.le_refl i) hi0 hr h2 h4 h5 hQ
    rw [s164_99]
    simp only [s164_100, s164_103, s164_104, s164_107, xcx_i, xcx_r, xcx_n, xcx_l, xcx_0, h2, hx.2.2.1, Int32.le_refl, if_true]
    exact hz
  | succ f ih =>
    intro i hi hi0 τ hlt hr h2 h4 h5 hQ
    have hx := lxM.txt h hr
    have e := lt4N (n := n) (i := i) (by omega) (by omega)
    obtain ⟨b1, b2, b3⟩ := hx.2.2.2 i (by omega)
    have b3' : τ.1 85 i = sbt (bt i) := b3
    have i1 : i < 100000 := by omega
    have i2 : i < 500 := by omega
    have hlr : ∀ Q : Int32 → xM → Prop, xI1 162 [.int (sbt (bt i))] τ Q = _ := fun Q => MisLetter b2
    have es : nI i - nI i0 = nI (i - i0) := by rw [nI_iI, nI_iI, nI_iI, iI_sub]; congr 1; omega
    have ele : ((8 : Int32) ≤ nI (i - i0)) = (8 ≤ i - i0) := nI_leL (a := 8) (by decide) (by omega)
    rw [s164_99]
    by_cases c : 97 ≤ bt i ∧ bt i ≤ 122
    · rw [show runE isLt bt n (f + 1) i = runE isLt bt n f (i + 1) from if_pos ⟨by omega, by rw [isLt_iff]; exact c⟩] at hQ
      have hlt' : ∀ j, i0 ≤ j → j < i + 1 → bt j ≤ 122 := fun j q1 q2 => by
        rcases Nat.lt_or_eq_of_le (Nat.le_of_lt_succ q2) with z | z
        · exact hlt j q1 z
        · subst z; exact c.2
      by_cases z : 8 ≤ i - i0
      · have next := ih (i + 1) (by omega) (by omega) (xe_si τ 84 2 (nI (i + 1))) hlt' (hr.si (Or.inl rfl)) (by rw [si_rd, if_pos ⟨rfl, rfl⟩]) h4 (by
          rw [show min (i + 1 - i0) 8 = min (i - i0) 8 by omega]; exact h5) hQ
        simp only [s164_100, s164_103, s164_104, s164_107, s164_110, s164_111, s164_114, s164_115, s164_118, s164_119, s164_122, s164_125, s164_126, s164_129, s164_130, s164_133, s164_134, s164_136, s164_139, s164_140, s164_141, s164_144, s164_146, s164_147, s164_148, s164_151, s164_152, s164_155, s164_156, s164_157, s164_158, s164_161, s164_162, s164_163, s164_166, s164_167, s164_168, s164_171, xcx_i, xcx_r, xcx_n, xcx_l, xcx_0, h2, hx.2.2.1, e, if_false, xcl_85, true_or, xln_85, i1, i2, cl_s, pos_s, true_and, b3', hlr, xb_f, ite_not, if_pos c, h4, es, ele, z, if_true, nI_1, or_true]
        exact next
      · have hb : bt (i0 + (i - i0)) = bt i := by rw [show i0 + (i - i0) = i by omega]
        have e1 : pkN bt i0 (i - i0 + 1) = pkN bt i0 (i - i0) * 256 + bt i := by
          show pkN bt i0 (i - i0) * 256 + bt (i0 + (i - i0)) = _
          rw [hb]
        have hbd : pkN bt i0 (i - i0 + 1) < 2 ^ 63 := pkN_63 (by omega) (fun j hj => hlt' (i0 + j) (by omega) (by omega))
        rw [show min (i - i0) 8 = i - i0 by omega] at h5
        have ev : lN (pkN bt i0 (i - i0)) <<< ((8 : Int32).toInt64 &&& 63) ||| (sbt (bt i)).toInt64 = lN (pkN bt i0 (i - i0 + 1)) := by
          rw [sbt_lo _ (by omega), i2l_nI (by omega), e1]
          exact lN_pk (by rw [← e1]; exact hbd) (by omega)
        have next := ih (i + 1) (by omega) (by omega) (xe_si (xe_sl τ 84 5 (lN (pkN bt i0 (i - i0 + 1)))) 84 2 (nI (i + 1))) hlt' (lxM.si (show lxM σ (xe_sl τ 84 5 (lN (pkN bt i0 (i - i0 + 1)))) from hr) (Or.inl rfl)) (by rw [si_rd, if_pos ⟨rfl, rfl⟩]) h4 (by
          rw [show min (i + 1 - i0) 8 = i - i0 + 1 by omega]; rfl) hQ
        simp only [s164_100, s164_103, s164_104, s164_107, s164_110, s164_111, s164_114, s164_115, s164_118, s164_119, s164_122, s164_125, s164_126, s164_129, s164_130, s164_133, s164_134, s164_136, s164_139, s164_140, s164_141, s164_144, s164_146, s164_147, s164_148, s164_151, s164_152, s164_155, s164_156, s164_157, s164_158, s164_161, s164_162, s164_163, s164_166, s164_167, s164_168, s164_171, xcx_i, xcx_r, xcx_n, xcx_l, xcx_0, h2, hx.2.2.1, e, if_false, xcl_85, true_or, xln_85, i1, i2, cl_s, pos_s, true_and, b3', hlr, xb_f, ite_not, if_pos c, h4, es, ele, z, h5, ev, sl_i, nI_1, or_true]
        exact next
    · rw [show runE isLt bt n (f + 1) i = i from if_neg (fun z => by rw [isLt_iff] at z; exact c z.2)] at hQ
      have hz := fin i τ (by omega) hi0 hr h2 h4 h5 hQ
      simp only [s164_100, s164_103, s164_104, s164_107, s164_110, s164_111, s164_114, s164_115, s164_118, s164_119, s164_122, xcx_i, xcx_r, xcx_n, xcx_l, xcx_0, h2, hx.2.2.1, e, if_false, xcl_85, true_or, xln_85, i1, i2, cl_s, pos_s, true_and, b3', hlr, xb_f, ite_not, if_neg c, or_true]
      exact hz
