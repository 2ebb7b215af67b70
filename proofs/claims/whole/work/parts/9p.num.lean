/-! the reference's tokens: numbers -/
theorem sbt_lo : ∀ b : Nat, b < 128 → sbt b = nI b := by decide +kernel
def dvE (bt : Nat → Nat) : Nat → Nat → Nat → Nat
  | 0, _, a => a
  | m + 1, i, a => dvE bt m (i + 1) (if 9999 < a then a else 10 * a + bt i - 48)
theorem lN_ti {x : Nat} (h : x < 1000000) : (lN x).toInt = (x : Nat) := by
  show (Int64.ofNat x).toInt = _
  rw [Int64.toInt_ofNat_of_lt (by omega)]
theorem lN_s48 {x : Nat} (h : 48 ≤ x) : lN x - 48 = lN (x - 48) := by
  have e : lN (x - 48) + lN 48 = lN x := by
    rw [lN_add]; congr 1; omega
  rw [← e]
  exact Int64.add_sub_cancel _ _
theorem Mdigits {σ : xM} {n : Nat} {bt : Nat → Nat} {l1 : Option Value} {Q : xM → Prop} (h : txR σ n bt) : ∀ f i, i + f = n → ∀ (a : Nat) τ, a ≤ 99999 → lxM σ τ → τ.1 84 2 = nI i → τ.1 84 4 = σ.1 84 4 → τ.2.1 84 5 = lN a → (∀ τ', lxM σ τ' → τ'.1 84 2 = nI (runE isDg bt n f i) → τ'.1 84 4 = σ.1 84 4 → τ'.1 84 3 = 2 → τ'.2.1 84 5 = lN (dvE bt (runE isDg bt n f i - i) i a) → Q τ') → xC 164 208 [some (.ref 84), l1] [] τ (xqV Q) := by
  have hn := h.1
  intro f
  induction f with
  | zero =>
    intro i hi a τ ha hr h2 h4 h5 hQ
    obtain rfl : i = n := by omega
    have hx := lxM.txt h hr
    have hq := hQ (xe_si τ 84 3 2) (hr.si (Or.inr (Or.inl rfl))) h2 h4 rfl (by rw [show runE isDg bt i 0 i - i = 0 from Nat.sub_self i]; exact h5)
    rw [s164_208]
    simp only [s164_209, s164_212, s164_213, s164_216, s164_292, s164_293, s164_294, s164_297, s164_325, xcx_i, xcx_r, xcx_n, xcx_l, xcx_0, h2, hx.2.2.1, Int32.le_refl, if_true]
    exact hq
  | succ f ih =>
    intro i hi a τ ha hr h2 h4 h5 hQ
    have hx := lxM.txt h hr
    have e := lt4N (n := n) (i := i) (by omega) (by omega)
    obtain ⟨b1, b2, b3⟩ := hx.2.2.2 i (by omega)
    have b3' : τ.1 85 i = sbt (bt i) := b3
    have i1 : i < 100000 := by omega
    have i2 : i < 500 := by omega
    have hdg : ∀ Q : Int32 → xM → Prop, xI1 163 [.int (sbt (bt i))] τ Q = _ := fun Q => MisDigit b2
    rw [s164_208]
    by_cases c : 48 ≤ bt i ∧ bt i ≤ 57
    · obtain ⟨g1, -⟩ := runE_bd (P := isDg) (bt := bt) (n := n) f (i + 1) (by omega)
      rw [show runE isDg bt n (f + 1) i = runE isDg bt n f (i + 1) from if_pos ⟨by omega, by rw [isDg_iff]; exact c⟩, show runE isDg bt n f (i + 1) - i = (runE isDg bt n f (i + 1) - (i + 1)) + 1 by omega] at hQ
      by_cases z : 9999 < a
      · have next := ih (i + 1) (by omega) a (xe_si (xe_sl τ 84 5 (lN a)) 84 2 (nI (i + 1))) ha (hr.si (Or.inl rfl)) (by rw [si_rd, if_pos ⟨rfl, rfl⟩]) h4 rfl (fun τ' q1 q2 q3 q4 q5 => hQ τ' q1 q2 q3 q4 (by
          rw [q5, show dvE bt (runE isDg bt n f (i + 1) - (i + 1) + 1) i a = dvE bt (runE isDg bt n f (i + 1) - (i + 1)) (i + 1) (if 9999 < a then a else 10 * a + bt i - 48) from rfl, if_pos z]))
        have ec : (lg_cmp (lN a) 9999 ≤ 0) = False := eq_false (fun q => by
          have q2 := Int64.le_iff_toInt_le.mp ((lg_cmp_le _ _).mp q)
          rw [lN_ti (by omega)] at q2
          have q3 : (9999 : Int64).toInt = 9999 := rfl
          omega)
        simp only [s164_209, s164_212, s164_213, s164_216, s164_219, s164_220, s164_223, s164_224, s164_227, s164_228, s164_231, s164_234, s164_235, s164_236, s164_239, s164_242, s164_243, s164_246, s164_247, s164_250, s164_253, s164_256, s164_257, s164_260, s164_261, s164_262, s164_265, s164_266, s164_269, s164_270, s164_271, s164_272, s164_275, s164_276, s164_279, s164_280, s164_281, s164_284, s164_285, s164_286, s164_289, xcx_i, xcx_r, xcx_n, xcx_l, xcx_0, h2, hx.2.2.1, e, if_false, xcl_85, true_or, xln_85, i1, i2, cl_s, pos_s, true_and, b3', hdg, xb_f, ite_not, if_pos c, h5, ec, sl_i, h2, nI_1, or_true]
        exact next
      · have next := ih (i + 1) (by omega) (10 * a + bt i - 48) (xe_si (xe_sl τ 84 5 (lN (10 * a + bt i - 48))) 84 2 (nI (i + 1))) (by omega) (hr.si (Or.inl rfl)) (by rw [si_rd, if_pos ⟨rfl, rfl⟩]) h4 rfl (fun τ' q1 q2 q3 q4 q5 => hQ τ' q1 q2 q3 q4 (by
          rw [q5, show dvE bt (runE isDg bt n f (i + 1) - (i + 1) + 1) i a = dvE bt (runE isDg bt n f (i + 1) - (i + 1)) (i + 1) (if 9999 < a then a else 10 * a + bt i - 48) from rfl, if_neg z]))
        have ec : (lg_cmp (lN a) 9999 ≤ 0) = True := eq_true ((lg_cmp_le _ _).mpr (Int64.le_iff_toInt_le.mpr (by
          rw [lN_ti (by omega)]
          have q3 : (9999 : Int64).toInt = 9999 := rfl
          omega)))
        have ev : (10 : Int64) * lN a + (sbt (bt i)).toInt64 - 48 = lN (10 * a + bt i - 48) := by
          rw [sbt_lo _ (by omega), i2l_nI (by omega), show (10 : Int64) * lN a = lN (10 * a) from lN_mul 10 a, lN_add, lN_s48 (by omega)]
        simp only [s164_209, s164_212, s164_213, s164_216, s164_219, s164_220, s164_223, s164_224, s164_227, s164_228, s164_231, s164_234, s164_235, s164_236, s164_239, s164_242, s164_243, s164_246, s164_247, s164_250, s164_253, s164_256, s164_257, s164_260, s164_261, s164_262, s164_265, s164_266, s164_269, s164_270, s164_271, s164_272, s164_275, s164_276, s164_279, s164_280, s164_281, s164_284, s164_285, s164_286, s164_289, xcx_i, xcx_r, xcx_n, xcx_l, xcx_0, h2, hx.2.2.1, e, if_false, xcl_85, true_or, xln_85, i1, i2, cl_s, pos_s, true_and, b3', hdg, xb_f, ite_not, if_pos c, h5, ec, if_true, ev, sl_i, h2, nI_1, or_true]
        exact next
    · rw [show runE isDg bt n (f + 1) i = i from if_neg (fun z => by rw [isDg_iff] at z; exact c z.2), Nat.sub_self] at hQ
      have hq := hQ (xe_si τ 84 3 2) (hr.si (Or.inr (Or.inl rfl))) h2 h4 rfl h5
      simp only [s164_209, s164_212, s164_213, s164_216, s164_219, s164_220, s164_223, s164_224, s164_227, s164_228, s164_231, s164_292, s164_293, s164_294, s164_297, s164_325, xcx_i, xcx_r, xcx_n, xcx_l, xcx_0, h2, hx.2.2.1, e, if_false, xcl_85, true_or, xln_85, i1, i2, cl_s, pos_s, true_and, b3', hdg, xb_f, ite_not, if_neg c, if_true, or_true]
      exact hq
