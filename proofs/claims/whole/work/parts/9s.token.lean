/-! the reference's tokens, whole -/
def tkR (bt : Nat → Nat) (n i : Nat) (τ : xM) : Prop := τ.1 84 4 = nI i ∧ ((i = n ∧ τ.1 84 3 = 0 ∧ τ.1 84 2 = nI n) ∨ (i < n ∧ isLt (bt i) = true ∧ τ.1 84 3 = 1 ∧ τ.1 84 2 = nI (runE isLt bt n (n - i) i) ∧ τ.2.1 84 5 = lN (if runE isLt bt n (n - i) i - i ≤ 8 then pkN bt i (runE isLt bt n (n - i) i - i) else 0)) ∨ (i < n ∧ isDg (bt i) = true ∧ τ.1 84 3 = 2 ∧ τ.1 84 2 = nI (runE isDg bt n (n - i) i) ∧ τ.2.1 84 5 = lN (dvE bt (runE isDg bt n (n - i) i - i) i 0)) ∨ (i < n ∧ isLt (bt i) = false ∧ isDg (bt i) = false ∧ τ.1 84 3 = (if bt i = 59 then 3 else 4) ∧ τ.1 84 2 = nI (i + 1)))
theorem Mleads {σ : xM} {n i : Nat} {bt : Nat → Nat} {Q : xM → Prop} (h : txR σ n bt) (hi : i ≤ n) (he : σ.1 84 2 = nI i) (hQ : ∀ τ, lxM σ τ → tkR bt n (runE isBl bt n (n - i) i) τ → Q τ) : xV 164 [.ref 84] σ Q := by
  have hn := h.1
  refine Mblanks h hi he (fun τ hr h2 => ?_)
  obtain ⟨g1, g2, -, -⟩ := runE_bd (P := isBl) (bt := bt) (n := n) (n - i) i (by omega)
  generalize runE isBl bt n (n - i) i = p at hQ h2 g1 g2
  have hx := lxM.txt h hr
  have hr3 : lxM σ (xe_si (xe_sl (xe_si τ 84 4 (nI p)) 84 5 0) 84 3 0) := lxM.si (show lxM σ (xe_sl (xe_si τ 84 4 (nI p)) 84 5 0) from hr.si (Or.inr (Or.inr rfl))) (Or.inr (Or.inl rfl))
  have k2 : (xe_si (xe_sl (xe_si τ 84 4 (nI p)) 84 5 0) 84 3 0).1 84 2 = nI p := h2
  have k4 : (xe_si (xe_sl (xe_si τ 84 4 (nI p)) 84 5 0) 84 3 0).1 84 4 = nI p := rfl
  have k5 : (xe_si (xe_sl (xe_si τ 84 4 (nI p)) 84 5 0) 84 3 0).2.1 84 5 = lN 0 := rfl
  have k3 : (xe_si (xe_sl (xe_si τ 84 4 (nI p)) 84 5 0) 84 3 0).1 84 3 = 0 := rfl
  have hx3 := lxM.txt h hr3
  generalize ht3 : xe_si (xe_sl (xe_si τ 84 4 (nI p)) 84 5 0) 84 3 0 = τ3 at hr3 k2 k4 k5 k3 hx3
  have e1 := hx3.2.2.1
  by_cases c : p = n
  · have hq := hQ τ3 hr3 ⟨k4, Or.inl ⟨c, k3, by rw [k2, c]⟩⟩
    have c' : (nI p = nI n) = True := eq_true (by rw [c])
    simp only [s164_52, s164_53, s164_54, s164_57, s164_60, s164_61, s164_62, s164_65, s164_66, s164_67, s164_70, s164_71, s164_74, s164_75, s164_78, s164_81, xcx_i, xcx_r, xcx_n, xcx_l, xcx_0, h2, ht3, k2, e1, c', not_true, if_false]
    exact hq
  · have hp : p < n := by omega
    have c' : (nI p = nI n) = False := eq_false (fun q => c ((nI_eq (by omega) (by omega)).mp q))
    obtain ⟨b1, b2, b3⟩ := hx3.2.2.2 p hp
    have b3' : τ3.1 85 p = sbt (bt p) := b3
    have i1 : p < 100000 := by omega
    have i2 : p < 500 := by omega
    have hlr : ∀ Q : Int32 → xM → Prop, xI1 162 [.int (sbt (bt p))] τ3 Q = _ := fun Q => MisLetter b2
    have hdg : ∀ Q : Int32 → xM → Prop, xI1 163 [.int (sbt (bt p))] τ3 Q = _ := fun Q => MisDigit b2
    by_cases cl : 97 ≤ bt p ∧ bt p ≤ 122
    · have next := Mletters (l1 := some (.int (sbt (bt p)))) (Q := Q) h (n - p) p (by omega) (Nat.le_refl p) τ3 (fun j q1 q2 => absurd q2 (by omega)) hr3 k2 k4 (by rw [Nat.sub_self]; exact k5) (fun τ' q1 q2 q3 q4 q5 => hQ τ' q1 ⟨q3, Or.inr (Or.inl ⟨hp, by rw [isLt_iff]; exact cl, q4, q2, q5⟩)⟩)
      simp only [s164_52, s164_53, s164_54, s164_57, s164_60, s164_61, s164_62, s164_65, s164_66, s164_67, s164_70, s164_71, s164_74, s164_75, s164_78, s164_81, s164_82, s164_83, s164_86, s164_87, s164_90, s164_91, s164_92, s164_93, s164_96, xcx_i, xcx_r, xcx_n, xcx_l, xcx_0, h2, ht3, k2, e1, c', not_false_eq_true, if_true, xcl_85, true_or, xln_85, i1, i2, cl_s, pos_s, true_and, b3', hlr, xb_f, ite_not, if_pos cl, or_true]
      exact next
    · by_cases cd : 48 ≤ bt p ∧ bt p ≤ 57
      · have next := Mdigits (l1 := some (.int (sbt (bt p)))) (Q := Q) (h := hx3) (n - p) p (by omega) 0 τ3 (by omega) (lxM.rf τ3) k2 rfl k5 (fun τ' q1 q2 q3 q4 q5 => hQ τ' (hr3.tr q1) ⟨q3.trans k4, Or.inr (Or.inr (Or.inl ⟨hp, by rw [isDg_iff]; exact cd, q4, q2, q5⟩))⟩)
        simp only [s164_52, s164_53, s164_54, s164_57, s164_60, s164_61, s164_62, s164_65, s164_66, s164_67, s164_70, s164_71, s164_74, s164_75, s164_78, s164_81, s164_82, s164_83, s164_86, s164_87, s164_90, s164_91, s164_92, s164_93, s164_96, s164_201, s164_202, s164_205, xcx_i, xcx_r, xcx_n, xcx_l, xcx_0, h2, ht3, k2, e1, c', not_false_eq_true, if_true, xcl_85, true_or, xln_85, i1, i2, cl_s, pos_s, true_and, b3', hlr, hdg, xb_f, ite_not, if_neg cl, if_pos cd, or_true]
        exact next
      · have fl : isLt (bt p) = false := by
          cases hz : isLt (bt p) with
          | false => rfl
          | true => rw [isLt_iff] at hz; exact absurd hz cl
        have fd : isDg (bt p) = false := by
          cases hz : isDg (bt p) with
          | false => rfl
          | true => rw [isDg_iff] at hz; exact absurd hz cd
        obtain ⟨-, -, -, -, -, -, e59⟩ := sbt_all (bt p) (by omega)
        rw [decide_eq_true_eq] at e59
        by_cases c59 : bt p = 59
        · have hq := hQ (xe_si (xe_si τ3 84 3 3) 84 2 (nI (p + 1))) ((hr3.si (Or.inr (Or.inl rfl))).si (Or.inl rfl)) ⟨k4, Or.inr (Or.inr (Or.inr ⟨hp, fl, fd, by rw [if_pos c59]; rfl, rfl⟩))⟩
          have c59' : (bt p = 59) = True := eq_true c59
          simp only [s164_52, s164_53, s164_54, s164_57, s164_60, s164_61, s164_62, s164_65, s164_66, s164_67, s164_70, s164_71, s164_74, s164_75, s164_78, s164_81, s164_82, s164_83, s164_86, s164_87, s164_90, s164_91, s164_92, s164_93, s164_96, s164_201, s164_202, s164_205, s164_300, s164_301, s164_302, s164_304, s164_307, s164_308, s164_311, s164_312, s164_315, s164_316, s164_317, s164_320, s164_321, s164_322, s164_325, xcx_i, xcx_r, xcx_n, xcx_l, xcx_0, h2, ht3, k2, e1, c', not_false_eq_true, not_true, if_true, if_false, xcl_85, true_or, xln_85, i1, i2, cl_s, pos_s, true_and, b3', hlr, hdg, xb_f, ite_not, if_neg cl, if_neg cd, e59, c59', si_rd, Nat.reduceEqDiff, and_false, nI_1, or_true]
          exact hq
        · have hq := hQ (xe_si (xe_si τ3 84 3 4) 84 2 (nI (p + 1))) ((hr3.si (Or.inr (Or.inl rfl))).si (Or.inl rfl)) ⟨k4, Or.inr (Or.inr (Or.inr ⟨hp, fl, fd, by rw [if_neg c59]; rfl, rfl⟩))⟩
          simp only [s164_52, s164_53, s164_54, s164_57, s164_60, s164_61, s164_62, s164_65, s164_66, s164_67, s164_70, s164_71, s164_74, s164_75, s164_78, s164_81, s164_82, s164_83, s164_86, s164_87, s164_90, s164_91, s164_92, s164_93, s164_96, s164_201, s164_202, s164_205, s164_300, s164_301, s164_302, s164_304, s164_307, s164_308, s164_311, s164_312, s164_315, s164_316, s164_317, s164_320, s164_321, s164_322, s164_325, xcx_i, xcx_r, xcx_n, xcx_l, xcx_0, h2, ht3, k2, e1, c', not_false_eq_true, if_true, if_false, xcl_85, true_or, xln_85, i1, i2, cl_s, pos_s, true_and, b3', hlr, hdg, xb_f, ite_not, if_neg cl, if_neg cd, e59, c59, si_rd, Nat.reduceEqDiff, and_false, nI_1, or_true]
          exact hq
