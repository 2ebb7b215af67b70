/-! luck -/
theorem Mluck_loop {σ0 σ : xM} {n ng g : Nat} {w : Int32} {ho ru : Nat → Nat} {Q : Int32 → xM → Prop} (hD : rDt n ng ho ru) (hM : rM σ n ng ho ru) (hg : g < ng) (hT : ∀ k, k < n → ((tM (σ.1 106) (nI (ho k)) k ng).1 = nI g) = (tT σ0 ho g k = true)) (hQ : ∀ τ l7 l8 l9 l10 l11 l12, samI σ τ → lrow τ 117 21 (wsF (oF σ0 ho g) (lF σ0 ho g) n) → xC 221 294 [some (.ref 84), some (.int (nI g)), some (.int w), some (.int (nI (cnF (fun i => decide (ru i = g)) n))), some (.int (nI (cnF (fun i => decide (ru i = g) && !tT σ0 ho g i) n))), some (.long (lN (prF (fun i => bN (ho i) 4) n))), none, l7, l8, l9, l10, l11, l12] [] τ (xqI Q)) : ∀ m k, k + m = n → ∀ τ l8 l9 l10 l11 l12, samI σ τ → lrow τ 117 21 (wsF (oF σ0 ho g) (lF σ0 ho g) k) → xC 221 69 [some (.ref 84), some (.int (nI g)), some (.int w), some (.int (nI (cnF (fun i => decide (ru i = g)) k))), some (.int (nI (cnF (fun i => decide (ru i = g) && !tT σ0 ho g i) k))), some (.long (lN (prF (fun i => bN (ho i) 4) k))), none, some (.int (nI k)), l8, l9, l10, l11, l12] [] τ (xqI Q) := by
  have hn20 := hD.1
  have hng := hD.2.1
  have h10 : ¬ (1 : Int32) = 0 := by decide
  intro m
  induction m with
  | zero =>
    intro k hk τ l8 l9 l10 l11 l12 hs hr
    obtain rfl : k = n := by omega
    have h40 := (hM.sam hs).1
    rw [s221_69]
    simp only [s221_71, s221_72, s221_75, xcx_i, xcx_r, xcx_n, xcx_l, xcx_0, h40, Int32.le_refl, if_true]
    exact hQ τ _ _ _ _ _ _ hs hr
  | succ m ih =>
    intro k hk τ l8 l9 l10 l11 l12 hs hr
    have hkn : k < n := by omega
    have hMτ := hM.sam hs
    have h40 := hMτ.1
    have h23 := hMτ.2.1
    obtain ⟨h105, h106⟩ := hMτ.2.2 k hkn
    have e := lt4N (n := n) (i := k) hkn (by omega)
    have k20 : k < 20 := by omega
    have b0 : k < 100000 := by omega
    have h16 := ho16 hD hkn
    obtain ⟨d1, d2, d3, d4⟩ := hD.2.2 k hkn
    have hturn : ∀ Q : Int32 → xM → Prop, xI1 219 [.ref 84, .int (nI (ho k)), .int (nI k)] τ Q = Q (tM (σ.1 106) (nI (ho k)) k ng).1 τ := fun Q => by rw [MturnAt_eq (by omega) h23 hng, hs.1]
    have htk := hT k hkn
    generalize htx : (tM (σ.1 106) (nI (ho k)) k ng).1 = tx at hturn htk
    have eg : (nI (ru k) = nI g) = (ru k = g) := propext (nI_eq (by omega) (by omega))
    have hbit : (nI (ho k) >>> (nI g &&& 31) &&& 1 = 1) = ((ho k).testBit g = true) := bit16 h16 (by omega)
    have hb4 : bN (ho k) ng = bN (ho k) 4 := by
      have := bN_far d2 (4 - ng)
      rw [show ng + (4 - ng) = 4 by omega] at this
      exact this.symm
    have hbp := bN_pos d4 ng d3
    have hbl := bN_le (ho k) 4
    have z : ∀ k, nI k + (0 : Int32) = nI k := fun k => nI_add k 0
    have tail : ∀ (x3 x4 : Nat) (l9' : Int32), x3 = cnF (fun i => decide (ru i = g)) (k + 1) → x4 = cnF (fun i => decide (ru i = g) && !tT σ0 ho g i) (k + 1) → xC 221 145 [some (.ref 84), some (.int (nI g)), some (.int w), some (.int (nI x3)), some (.int (nI x4)), some (.long (lN (prF (fun i => bN (ho i) 4) k))), none, some (.int (nI k)), some (.int tx), some (.int l9'), l10, l11, l12] [] τ (xqI Q) := by
      intro x3 x4 l9' e3 e4
      have hbits := Mbits (σ := τ) (Q := xqI Q) (l1 := some (.int (nI g))) (l2 := some (.int w)) (l3 := some (.int (nI x3))) (l4 := some (.int (nI x4))) (l5 := some (.long (lN (prF (fun i => bN (ho i) 4) k)))) (l6 := none) (l8 := some (.int tx)) (x9 := l9') (l12 := l12) h16 hng k20 h23 h105 ng 0 (by omega)
      rw [show bN (ho k) 0 = 0 from rfl, hb4] at hbits
      have hpr : lN (prF (fun i => bN (ho i) 4) k) * lN (bN (ho k) 4) = lN (prF (fun i => bN (ho i) 4) (k + 1)) := lN_mul _ _
      have hways : ∀ (may : Bool), (if may then 1 else 0) = lF σ0 ho g k → xC 221 223 [some (.ref 84), some (.int (nI g)), some (.int w), some (.int (nI x3)), some (.int (nI x4)), some (.long (lN (prF (fun i => bN (ho i) 4) (k + 1)))), none, some (.int (nI k)), some (.int tx), some (.int l9'), some (.int (nI (bN (ho k) 4))), some (.int (if may then 1 else 0)), some (.int (nI 21 - 1))] [] τ (xqI Q) := by
        intro may hmay
        refine Mways (wsF (oF σ0 ho g) (lF σ0 ho g) k) may ⟨by omega, by omega⟩ 21 (Nat.le_refl _) τ hs (fun j hj => ?_) (fun τ' l12' hs' hr' => ?_)
        · unfold wpm; rw [if_neg (by omega)]; exact hr j hj
        · simp only [s221_288, s221_291, xcx_i, xcx_r, xcx_n, xcx_l, xcx_0, nI_1]
          rw [e3, e4]
          cases may <;> simp only [xcx_i, xcx_r, xcx_n, xcx_l, xcx_0, if_true, if_false, Bool.false_eq_true] <;> refine ih (k + 1) (by omega) τ' _ _ _ _ _ hs' (fun j hj => ?_)
          · rw [hr' j hj]
            have : oF σ0 ho g k = bN (ho k) 4 := by unfold oF; rw [← hmay]; rfl
            show lN (wst _ (bN (ho k) 4) 0 j) = lN (wst _ (oF σ0 ho g k) (lF σ0 ho g k) j)
            rw [this, ← hmay]; rfl
          · rw [hr' j hj]
            have : oF σ0 ho g k = bN (ho k) 4 - 1 := by unfold oF; rw [← hmay]; rfl
            show lN (wst _ (bN (ho k) 4 - 1) 1 j) = lN (wst _ (oF σ0 ho g k) (lF σ0 ho g k) j)
            rw [this, ← hmay]; rfl
      simp only [s221_145, s221_146, s221_148, s221_149, xcx_i, xcx_r, xcx_n, xcx_l, xcx_0]
      refine (iff_of_eq hbits).mpr ?_
      have e20 : (20 : Int32) = nI 21 - 1 := by decide
      by_cases b : (ho k).testBit g = true
      · by_cases t : tx = nI g
        · have t2 : tT σ0 ho g k = true := by rw [← htk]; exact t
          have hl0 : lF σ0 ho g k = 0 := by unfold lF; rw [t2, Bool.not_true, Bool.and_false]; rfl
          have hw := hways false hl0.symm
          simp only [s221_183, s221_185, s221_187, s221_188, s221_189, s221_191, s221_192, s221_195, s221_197, s221_198, s221_199, s221_200, s221_201, s221_202, s221_203, s221_206, s221_208, s221_209, s221_212, s221_213, s221_216, s221_217, s221_219, s221_221, xcx_i, xcx_r, xcx_n, xcx_l, xcx_0, i2l_nI (show bN (ho k) 4 < 2147483648 by omega), hpr, xcl_105, xln_105, b0, k20, cl_s, pos_s, true_and, h105, hbit, b, t, not_true, if_true, if_false]
          rw [t] at hw
          exact hw
        · have t2 : tT σ0 ho g k = false := by rw [← Bool.not_eq_true, ← htk]; exact t
          have hl0 : lF σ0 ho g k = 1 := by unfold lF; rw [t2, b]; rfl
          have hw := hways true hl0.symm
          simp only [s221_183, s221_185, s221_187, s221_188, s221_189, s221_191, s221_192, s221_195, s221_197, s221_198, s221_199, s221_200, s221_201, s221_202, s221_203, s221_206, s221_208, s221_209, s221_212, s221_213, s221_216, s221_217, s221_219, s221_221, xcx_i, xcx_r, xcx_n, xcx_l, xcx_0, i2l_nI (show bN (ho k) 4 < 2147483648 by omega), hpr, xcl_105, xln_105, b0, k20, cl_s, pos_s, true_and, h105, hbit, b, t, not_true, if_true, if_false]
          exact hw
      · have hl0 : lF σ0 ho g k = 0 := by unfold lF; rw [Bool.not_eq_true] at b; rw [b, Bool.false_and]; rfl
        have hw := hways false hl0.symm
        simp only [s221_183, s221_185, s221_187, s221_188, s221_189, s221_191, s221_192, s221_195, s221_197, s221_198, s221_199, s221_200, s221_201, s221_202, s221_203, s221_206, s221_208, s221_209, s221_212, s221_213, s221_216, s221_217, s221_219, s221_221, xcx_i, xcx_r, xcx_n, xcx_l, xcx_0, i2l_nI (show bN (ho k) 4 < 2147483648 by omega), hpr, xcl_105, xln_105, b0, k20, cl_s, pos_s, true_and, h105, hbit, b, not_false_eq_true, if_true, if_false]
        exact hw
    rw [s221_69]
    by_cases c : ru k = g
    · have e3 : cnF (fun i => decide (ru i = g)) k + 1 = cnF (fun i => decide (ru i = g)) (k + 1) := by
        show _ = cnF (fun i => decide (ru i = g)) k + if decide (ru k = g) = true then 1 else 0
        rw [if_pos (decide_eq_true c)]
      by_cases t : tx = nI g
      · have t2 : tT σ0 ho g k = true := by rw [← htk]; exact t
        have e4 : cnF (fun i => decide (ru i = g) && !tT σ0 ho g i) k = cnF (fun i => decide (ru i = g) && !tT σ0 ho g i) (k + 1) := by
          show _ = cnF (fun i => decide (ru i = g) && !tT σ0 ho g i) k + if (decide (ru k = g) && !tT σ0 ho g k) = true then 1 else 0
          rw [t2, Bool.not_true, Bool.and_false]; rfl
        have ht := tail _ _ 1 e3 e4
        rw [t] at ht
        simp only [s221_71, s221_72, s221_75, s221_78, s221_79, s221_80, s221_83, s221_85, s221_86, s221_88, s221_91, s221_93, s221_94, s221_97, s221_99, s221_100, s221_101, s221_104, s221_105, s221_108, s221_109, s221_111, s221_112, s221_114, s221_117, s221_118, s221_121, s221_122, s221_123, s221_124, s221_126, s221_128, s221_131, s221_133, s221_134, s221_137, s221_138, s221_141, s221_142, s221_143, xcx_i, xcx_r, xcx_n, xcx_l, xcx_0, h40, e, if_false, xcl_105, xcl_106, xln_105, xln_106, b0, k20, cl_s, pos_s, true_and, h105, h106, hturn, eg, c, not_true, if_true, h10, t, nI_1, z, true_or, or_true]
        exact ht
      · have t2 : tT σ0 ho g k = false := by rw [← Bool.not_eq_true, ← htk]; exact t
        have e4 : cnF (fun i => decide (ru i = g) && !tT σ0 ho g i) k + 1 = cnF (fun i => decide (ru i = g) && !tT σ0 ho g i) (k + 1) := by
          show _ = cnF (fun i => decide (ru i = g) && !tT σ0 ho g i) k + if (decide (ru k = g) && !tT σ0 ho g k) = true then 1 else 0
          rw [t2, decide_eq_true c]; rfl
        have ht := tail _ _ 1 e3 e4
        simp only [s221_71, s221_72, s221_75, s221_78, s221_79, s221_80, s221_83, s221_85, s221_86, s221_88, s221_91, s221_93, s221_94, s221_97, s221_99, s221_100, s221_101, s221_104, s221_105, s221_108, s221_109, s221_111, s221_112, s221_114, s221_117, s221_118, s221_121, s221_122, s221_123, s221_124, s221_126, s221_128, s221_131, s221_133, s221_134, s221_137, s221_138, s221_141, s221_142, s221_143, xcx_i, xcx_r, xcx_n, xcx_l, xcx_0, h40, e, if_false, xcl_105, xcl_106, xln_105, xln_106, b0, k20, cl_s, pos_s, true_and, h105, h106, hturn, eg, c, not_true, if_true, h10, t, nI_1, z, true_or, or_true]
        exact ht
    · have e3 : cnF (fun i => decide (ru i = g)) k = cnF (fun i => decide (ru i = g)) (k + 1) := by
        show _ = cnF (fun i => decide (ru i = g)) k + if decide (ru k = g) = true then 1 else 0
        rw [if_neg (fun q => c (of_decide_eq_true q))]; rfl
      have e4 : cnF (fun i => decide (ru i = g) && !tT σ0 ho g i) k = cnF (fun i => decide (ru i = g) && !tT σ0 ho g i) (k + 1) := by
        show _ = cnF (fun i => decide (ru i = g) && !tT σ0 ho g i) k + if (decide (ru k = g) && !tT σ0 ho g k) = true then 1 else 0
        rw [decide_eq_false c, Bool.false_and]; rfl
      have ht := tail _ _ 0 e3 e4
      simp only [s221_71, s221_72, s221_75, s221_78, s221_79, s221_80, s221_83, s221_85, s221_86, s221_88, s221_91, s221_93, s221_94, s221_97, s221_99, s221_100, s221_101, s221_104, s221_105, s221_108, s221_109, s221_111, s221_112, s221_114, s221_117, s221_118, s221_121, s221_122, s221_123, s221_124, s221_126, s221_128, s221_131, s221_133, s221_134, s221_137, s221_138, s221_141, s221_142, s221_143, xcx_i, xcx_r, xcx_n, xcx_l, xcx_0, h40, e, if_false, xcl_105, xcl_106, xln_105, xln_106, b0, k20, cl_s, pos_s, true_and, h105, h106, hturn, eg, c, not_false_eq_true, not_true, if_true, nI_1, z, true_or, or_true]
      exact ht
