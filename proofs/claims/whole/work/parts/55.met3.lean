/-! lawful rows -/
theorem xat_sin {σ : xM} {a k j : Nat} {v i : Int32} (h : (a = k) = False) : xat (xe_si σ k j v) a i = xat σ a i := by
  unfold xat
  rw [si_ne (fun e => by rw [h] at e; exact e)]
theorem XgangOf {σ : xM} {r c : Nat} {Q : Int32 → xM → Prop} (hr : r < 2147483648) (hc : c < 16) : xI1 28 [.int (nI r), .int (nI c)] σ Q = Q (nI (r / 4 ^ c % 4)) σ := by
  rw [e28]
  simp only [s28_0, s28_1, s28_2, s28_3, s28_4, s28_5, s28_6, s28_7, xcx_i, xcx_r, xcx_n, xcx_l, xcx_0, ml_2, gang4 hr hc]
theorem MgangOf {σ : xM} {r c : Nat} {Q : Int32 → xM → Prop} (hr : r < 2147483648) (hc : c < 16) : xI1 209 [.ref 84, .int (nI r), .int (nI c)] σ Q = Q (nI (r / 4 ^ c % 4)) σ := by
  rw [e209]
  simp only [s209_0, s209_1, s209_2, s209_3, s209_4, s209_5, s209_6, s209_7, xcx_i, xcx_r, xcx_n, xcx_l, xcx_0, ml_2, gang4 hr hc]
theorem pw46 {n : Nat} (h : n ≤ 6) : 2 ^ (2 * n) ≤ 4096 := by
  have : 2 ^ (2 * n) ≤ 2 ^ 12 := Nat.pow_le_pow_right (by decide) (by omega)
  omega
theorem xat54 {σ : xM} {v : Nat} (h : v < 6) : xat σ 54 (nI v) = σ.1 54 v := xat_n (by rw [xln_54]; exact h)
theorem xat53 {σ : xM} {v : Nat} (h : v < 6) : xat σ 53 (nI v) = σ.1 53 v := xat_n (by rw [xln_53]; exact h)
theorem xat55 {σ : xM} {v : Nat} (h : v < 6) : xat σ 55 (nI v) = σ.1 55 v := xat_n (by rw [xln_55]; exact h)
theorem xat56 {σ : xM} {v : Nat} (h : v < 6) : xat σ 56 (nI v) = σ.1 56 v := xat_n (by rw [xln_56]; exact h)
theorem xatP {σ : xM} {p i : Nat} (hp : p = 4 ∨ p = 7) (hi : i < 12) : xat σ (p + 1) (42 + nI i) = σ.1 (p + 1) (42 + i) := by
  rw [show (42 : Int32) + nI i = nI (42 + i) from nI_add 42 i]
  exact xrow_p hp (by omega)
theorem XisLawful {σ : xM} {p nc ng nt r : Nat} {mi me la wn mn sl : Nat → Nat} {Q : Int32 → xM → Prop} (hC : cX σ p nc mi me la wn ng mn sl nt) (hr : r < 2 ^ (2 * nc)) : xI1 29 [.ref 51, .ref p, .int (nI r)] σ Q = Q (if lwF me wn ng mn nt r nc 0 then 1 else 0) σ := by
  obtain ⟨⟨hc6, hg4, ht6, hcb, hgb⟩, ⟨hp, hpe, hg, ht, hgr⟩, hk, hrow⟩ := hC
  have hpw := pw46 hc6
  have loop : ∀ m c, c + m = nc → ∀ l4, xC 29 22 [some (.ref 51), some (.ref p), some (.int (nI r)), some (.int (nI c)), l4] [] σ (xqI Q) = Q (if lwF me wn ng mn nt r m c then 1 else 0) σ := by
    intro m
    induction m with
    | zero =>
      intro c hc l4
      obtain rfl : c = nc := by omega
      rw [s29_22]
      simp only [s29_0, s29_1, s29_2, s29_3, s29_4, s29_5, s29_8, s29_9, s29_10, s29_11, s29_12, s29_15, s29_18, s29_19, s29_20, s29_21, s29_23, s29_24, s29_27, s29_30, s29_31, s29_32, s29_35, s29_37, s29_39, s29_40, s29_41_4, s29_41_7, s29_44, s29_47, s29_48, s29_50_4, s29_50_7, s29_53, s29_54, s29_57, s29_58, s29_61, s29_64, s29_65, s29_66, s29_67, s29_70, s29_71, s29_74, s29_75_4, s29_75_7, s29_78, s29_81, s29_82, s29_83, s29_86, s29_89, s29_90, xcx_i, xcx_r, xcx_n, xcx_l, xcx_0, hk, Int32.le_refl, if_true, true_and, true_or, or_true, true_and]
      first | done | rfl
    | succ m ih =>
      intro c hc l4
      have e : (nI nc ≤ nI c) = False := eq_false (fun q => by have := (nI_leI (a := nc) (b := c) (by omega) (by omega)).mp q; omega)
      obtain ⟨b1, b2, b3, b4⟩ := hcb c (by omega)
      obtain ⟨a1, a2, a3, a4⟩ := hrow c (by omega)
      have hG : ∀ Q : Int32 → xM → Prop, xI1 28 [.int (nI r), .int (nI c)] σ Q = _ := fun Q => XgangOf (by omega) (by omega)
      have hg4' : r / 4 ^ c % 4 < 4 := Nat.mod_lt _ (by decide)
      have e1 : (nI ng ≤ nI (r / 4 ^ c % 4)) = ¬ (r / 4 ^ c % 4 < ng) := by rw [nI_leL (by omega) (by omega)]; exact propext ⟨fun q => by omega, fun q => by omega⟩
      have e3 : (nI (wn c) ≤ nI nt) = (wn c ≤ nt) := nI_leL (by omega) (by omega)
      have c6 : c < 6 := by omega
      have ihh := fun l4 => ih (c + 1) (by omega) l4
      rw [show lwF me wn ng mn nt r (m + 1) c = (decide (r / 4 ^ c % 4 < ng) && decide (me c ≤ mn (r / 4 ^ c % 4)) && decide (wn c ≤ nt) && lwF me wn ng mn nt r m (c + 1)) from rfl]
      rw [s29_22]
      by_cases c1 : r / 4 ^ c % 4 < ng
      · obtain ⟨g1, g2⟩ := hgr _ c1
        obtain ⟨g3, g4⟩ := hgb _ c1
        have e2 : (nI (me c) ≤ nI (mn (r / 4 ^ c % 4))) = (me c ≤ mn (r / 4 ^ c % 4)) := nI_leL (by omega) (by omega)
        have hmen := fun q => xatP (σ := σ) (p := p) (i := 2 * (r / 4 ^ c % 4)) hp q
        by_cases c2 : me c ≤ mn (r / 4 ^ c % 4)
        · by_cases c3 : wn c ≤ nt
          · rcases hp with rfl | rfl <;> simp only [s29_0, s29_1, s29_2, s29_3, s29_4, s29_5, s29_8, s29_9, s29_10, s29_11, s29_12, s29_15, s29_18, s29_19, s29_20, s29_21, s29_23, s29_24, s29_27, s29_30, s29_31, s29_32, s29_35, s29_37, s29_39, s29_40, s29_41_4, s29_41_7, s29_44, s29_47, s29_48, s29_50_4, s29_50_7, s29_53, s29_54, s29_57, s29_58, s29_61, s29_64, s29_65, s29_66, s29_67, s29_70, s29_71, s29_74, s29_75_4, s29_75_7, s29_78, s29_81, s29_82, s29_83, s29_86, s29_89, s29_90, xcx_i, xcx_r, xcx_n, xcx_l, xcx_0, hk, e, if_false, hG, toldOf_eq, hg, e1, c1, not_true, men_eq, tugs_eq, ht, ml_2, hmen (by omega), g1, at_eq, xcl_54, xcl_56, xat54 c6, xat56 c6, a2, a4, e2, c2, e3, c3, if_true, decide_true, Bool.true_and, nI_1, true_or, or_true, true_and, ihh]
          · rcases hp with rfl | rfl <;> simp only [s29_0, s29_1, s29_2, s29_3, s29_4, s29_5, s29_8, s29_9, s29_10, s29_11, s29_12, s29_15, s29_18, s29_19, s29_20, s29_21, s29_23, s29_24, s29_27, s29_30, s29_31, s29_32, s29_35, s29_37, s29_39, s29_40, s29_41_4, s29_41_7, s29_44, s29_47, s29_48, s29_50_4, s29_50_7, s29_53, s29_54, s29_57, s29_58, s29_61, s29_64, s29_65, s29_66, s29_67, s29_70, s29_71, s29_74, s29_75_4, s29_75_7, s29_78, s29_81, s29_82, s29_83, s29_86, s29_89, s29_90, xcx_i, xcx_r, xcx_n, xcx_l, xcx_0, hk, e, if_false, hG, toldOf_eq, hg, e1, c1, not_true, men_eq, tugs_eq, ht, ml_2, hmen (by omega), g1, at_eq, xcl_54, xcl_56, xat54 c6, xat56 c6, a2, a4, e2, c2, e3, c3, if_true, decide_true, decide_false, Bool.true_and, Bool.false_and, Bool.false_eq_true, true_or, or_true, true_and]
        · rcases hp with rfl | rfl <;> simp only [s29_0, s29_1, s29_2, s29_3, s29_4, s29_5, s29_8, s29_9, s29_10, s29_11, s29_12, s29_15, s29_18, s29_19, s29_20, s29_21, s29_23, s29_24, s29_27, s29_30, s29_31, s29_32, s29_35, s29_37, s29_39, s29_40, s29_41_4, s29_41_7, s29_44, s29_47, s29_48, s29_50_4, s29_50_7, s29_53, s29_54, s29_57, s29_58, s29_61, s29_64, s29_65, s29_66, s29_67, s29_70, s29_71, s29_74, s29_75_4, s29_75_7, s29_78, s29_81, s29_82, s29_83, s29_86, s29_89, s29_90, xcx_i, xcx_r, xcx_n, xcx_l, xcx_0, hk, e, if_false, hG, toldOf_eq, hg, e1, c1, not_true, men_eq, ml_2, hmen (by omega), g1, at_eq, xcl_54, xat54 c6, a2, e2, c2, decide_true, decide_false, Bool.true_and, Bool.false_and, Bool.false_eq_true, true_or, or_true, true_and]
      · rcases hp with rfl | rfl <;> simp only [s29_0, s29_1, s29_2, s29_3, s29_4, s29_5, s29_8, s29_9, s29_10, s29_11, s29_12, s29_15, s29_18, s29_19, s29_20, s29_21, s29_23, s29_24, s29_27, s29_30, s29_31, s29_32, s29_35, s29_37, s29_39, s29_40, s29_41_4, s29_41_7, s29_44, s29_47, s29_48, s29_50_4, s29_50_7, s29_53, s29_54, s29_57, s29_58, s29_61, s29_64, s29_65, s29_66, s29_67, s29_70, s29_71, s29_74, s29_75_4, s29_75_7, s29_78, s29_81, s29_82, s29_83, s29_86, s29_89, s29_90, xcx_i, xcx_r, xcx_n, xcx_l, xcx_0, hk, e, if_false, hG, toldOf_eq, hg, e1, c1, not_false_eq_true, if_true, decide_false, Bool.false_and, Bool.false_eq_true, true_or, or_true, true_and]
  have h0 : 0 ≤ nI r ∧ nI r ≤ nI (2 ^ (2 * nc)) - 1 := (rng_iff (by omega)).mpr ⟨r, hr, rfl⟩
  rw [e29]
  simp only [s29_0, s29_1, s29_2, s29_3, s29_4, s29_5, s29_8, s29_9, s29_10, s29_11, s29_12, s29_15, s29_18, s29_19, s29_20, s29_21, xcx_i, xcx_r, xcx_n, xcx_l, xcx_0, hk, ml_2, shl1 (show 2 * nc ≤ 12 by omega), within_eq, xb_f, ite_not, if_pos h0, true_or, or_true, true_and]
  exact loop nc 0 (by omega) _
theorem XisLawful_out {σ : xM} {p nc ng nt : Nat} {a : Int32} {mi me la wn mn sl : Nat → Nat} {Q : Int32 → xM → Prop} (hC : cX σ p nc mi me la wn ng mn sl nt) (hr : ¬ ∃ r, r < 2 ^ (2 * nc) ∧ a = nI r) : xI1 29 [.ref 51, .ref p, .int a] σ Q = Q 0 σ := by
  obtain ⟨⟨hc6, hg4, ht6, hcb, hgb⟩, ⟨hp, hpe, hg, ht, hgr⟩, hk, hrow⟩ := hC
  have hpw := pw46 hc6
  rw [e29]
  simp only [s29_0, s29_1, s29_2, s29_3, s29_4, s29_5, s29_8, s29_9, s29_10, s29_11, s29_12, s29_15, s29_18, s29_19, xcx_i, xcx_r, xcx_n, xcx_l, xcx_0, hk, ml_2, shl1 (show 2 * nc ≤ 12 by omega), within_eq, rng_iff (show 2 ^ (2 * nc) < 2147483648 by omega), hr, xb_f, ite_not, if_false, true_or, or_true, true_and]
theorem MisLawful {σ : xM} {nc ng nt r ns : Nat} {mi me la wn mn sl : Nat → Nat} {Q : Int32 → xM → Prop} (hC : cM σ nc mi me la wn ng mn sl nt) (hns : σ.1 84 17 = nI ns) (hns8 : ns ≤ 8) (hns0 : 0 < ns) (hr : r < 2 ^ (2 * nc)) : xI1 210 [.ref 84, .int (nI r)] σ Q = Q (if lwF me wn ng mn nt r nc 0 then 1 else 0) σ := by
  obtain ⟨⟨hc6, hg4, ht6, hcb, hgb⟩, ⟨hg, ht, hgr⟩, hk, hrow⟩ := hC
  have hpw := pw46 hc6
  have loop : ∀ m c, c + m = nc → ∀ l3, xC 210 27 [some (.ref 84), some (.int (nI r)), some (.int (nI c)), l3] [] σ (xqI Q) = Q (if lwF me wn ng mn nt r m c then 1 else 0) σ := by
    intro m
    induction m with
    | zero =>
      intro c hc l3
      obtain rfl : c = nc := by omega
      rw [s210_27]
      simp only [s210_0, s210_1, s210_4, s210_7, s210_8, s210_11, s210_12, s210_13, s210_14, s210_15, s210_18, s210_19, s210_20, s210_23, s210_24, s210_25, s210_26, s210_28, s210_29, s210_32, s210_35, s210_36, s210_37, s210_38, s210_41, s210_42, s210_43, s210_44, s210_47, s210_50, s210_51, s210_54, s210_55, s210_56, s210_57, s210_58, s210_59, s210_62, s210_63, s210_64, s210_65, s210_66, s210_67, s210_68, s210_71, s210_72, s210_75, s210_76, s210_79, s210_80, s210_81, s210_82, s210_83, s210_84, s210_85, s210_88, s210_89, s210_90, s210_93, s210_96, s210_97, xcx_i, xcx_r, xcx_n, xcx_l, xcx_0, hk, Int32.le_refl, if_true, true_and, true_or, or_true, true_and]
      first | done | rfl
    | succ m ih =>
      intro c hc l3
      have e : (nI nc ≤ nI c) = False := eq_false (fun q => by have := (nI_leI (a := nc) (b := c) (by omega) (by omega)).mp q; omega)
      obtain ⟨b1, b2, b3, b4⟩ := hcb c (by omega)
      obtain ⟨a1, a2, a3, a4⟩ := hrow c (by omega)
      have hG : ∀ Q : Int32 → xM → Prop, xI1 209 [.ref 84, .int (nI r), .int (nI c)] σ Q = _ := fun Q => MgangOf (by omega) (by omega)
      have hg4' : r / 4 ^ c % 4 < 4 := Nat.mod_lt _ (by decide)
      have e1 : (nI ng ≤ nI (r / 4 ^ c % 4)) = ¬ (r / 4 ^ c % 4 < ng) := by rw [nI_leL (by omega) (by omega)]; exact propext ⟨fun q => by omega, fun q => by omega⟩
      have e3 : (nI (wn c) ≤ nI nt) = (wn c ≤ nt) := nI_leL (by omega) (by omega)
      have d1 : 4 * c + 1 < 100000 := by omega
      have d2 : 4 * c + 1 < 24 := by omega
      have d3 : 4 * c + 3 < 100000 := by omega
      have d4 : 4 * c + 3 < 24 := by omega
      have d5 : 2 * (r / 4 ^ c % 4) < 100000 := by omega
      have d6 : 2 * (r / 4 ^ c % 4) < 8 := by omega
      have ihh := fun l4 => ih (c + 1) (by omega) l4
      rw [show lwF me wn ng mn nt r (m + 1) c = (decide (r / 4 ^ c % 4 < ng) && decide (me c ≤ mn (r / 4 ^ c % 4)) && decide (wn c ≤ nt) && lwF me wn ng mn nt r m (c + 1)) from rfl]
      rw [s210_27]
      by_cases c1 : r / 4 ^ c % 4 < ng
      · obtain ⟨g1, g2⟩ := hgr _ c1
        obtain ⟨g3, g4⟩ := hgb _ c1
        have e2 : (nI (mn (r / 4 ^ c % 4)) < nI (me c)) = ¬ (me c ≤ mn (r / 4 ^ c % 4)) := by rw [nI_ltL (by omega) (by omega)]; exact propext ⟨fun q => by omega, fun q => by omega⟩
        by_cases c2 : me c ≤ mn (r / 4 ^ c % 4)
        · by_cases c3 : wn c ≤ nt
          · simp only [s210_0, s210_1, s210_4, s210_7, s210_8, s210_11, s210_12, s210_13, s210_14, s210_15, s210_18, s210_19, s210_20, s210_23, s210_24, s210_25, s210_26, s210_28, s210_29, s210_32, s210_35, s210_36, s210_37, s210_38, s210_41, s210_42, s210_43, s210_44, s210_47, s210_50, s210_51, s210_54, s210_55, s210_56, s210_57, s210_58, s210_59, s210_62, s210_63, s210_64, s210_65, s210_66, s210_67, s210_68, s210_71, s210_72, s210_75, s210_76, s210_79, s210_80, s210_81, s210_82, s210_83, s210_84, s210_85, s210_88, s210_89, s210_90, s210_93, s210_96, s210_97, xcx_i, xcx_r, xcx_n, xcx_l, xcx_0, hk, e, if_false, hG, hg, ht, e1, c1, not_true, ml_2, ml_4, al_1, al_3, xcl_95, xln_95, xcl_104, xln_104, d1, d2, d3, d4, d5, d6, cl_s, pos_s, true_and, g1, a2, a4, e2, c2, e3, c3, if_true, decide_true, Bool.true_and, nI_1, true_or, or_true, true_and, ihh]
          · simp only [s210_0, s210_1, s210_4, s210_7, s210_8, s210_11, s210_12, s210_13, s210_14, s210_15, s210_18, s210_19, s210_20, s210_23, s210_24, s210_25, s210_26, s210_28, s210_29, s210_32, s210_35, s210_36, s210_37, s210_38, s210_41, s210_42, s210_43, s210_44, s210_47, s210_50, s210_51, s210_54, s210_55, s210_56, s210_57, s210_58, s210_59, s210_62, s210_63, s210_64, s210_65, s210_66, s210_67, s210_68, s210_71, s210_72, s210_75, s210_76, s210_79, s210_80, s210_81, s210_82, s210_83, s210_84, s210_85, s210_88, s210_89, s210_90, s210_93, s210_96, s210_97, xcx_i, xcx_r, xcx_n, xcx_l, xcx_0, hk, e, if_false, hG, hg, ht, e1, c1, not_true, ml_2, ml_4, al_1, al_3, xcl_95, xln_95, xcl_104, xln_104, d1, d2, d3, d4, d5, d6, cl_s, pos_s, true_and, g1, a2, a4, e2, c2, e3, c3, if_true, decide_true, decide_false, Bool.true_and, Bool.false_and, Bool.false_eq_true, true_or, or_true, true_and]
        · simp only [s210_0, s210_1, s210_4, s210_7, s210_8, s210_11, s210_12, s210_13, s210_14, s210_15, s210_18, s210_19, s210_20, s210_23, s210_24, s210_25, s210_26, s210_28, s210_29, s210_32, s210_35, s210_36, s210_37, s210_38, s210_41, s210_42, s210_43, s210_44, s210_47, s210_50, s210_51, s210_54, s210_55, s210_56, s210_57, s210_58, s210_59, s210_62, s210_63, s210_64, s210_65, s210_66, s210_67, s210_68, s210_71, s210_72, s210_75, s210_76, s210_79, s210_80, s210_81, s210_82, s210_83, s210_84, s210_85, s210_88, s210_89, s210_90, s210_93, s210_96, s210_97, xcx_i, xcx_r, xcx_n, xcx_l, xcx_0, hk, e, if_false, hG, hg, ht, e1, c1, not_true, ml_2, ml_4, al_1, al_3, xcl_95, xln_95, xcl_104, xln_104, d1, d2, d3, d4, d5, d6, cl_s, pos_s, true_and, g1, a2, e2, c2, not_false_eq_true, if_true, decide_true, decide_false, Bool.true_and, Bool.false_and, Bool.false_eq_true, true_or, or_true, true_and]
      · simp only [s210_0, s210_1, s210_4, s210_7, s210_8, s210_11, s210_12, s210_13, s210_14, s210_15, s210_18, s210_19, s210_20, s210_23, s210_24, s210_25, s210_26, s210_28, s210_29, s210_32, s210_35, s210_36, s210_37, s210_38, s210_41, s210_42, s210_43, s210_44, s210_47, s210_50, s210_51, s210_54, s210_55, s210_56, s210_57, s210_58, s210_59, s210_62, s210_63, s210_64, s210_65, s210_66, s210_67, s210_68, s210_71, s210_72, s210_75, s210_76, s210_79, s210_80, s210_81, s210_82, s210_83, s210_84, s210_85, s210_88, s210_89, s210_90, s210_93, s210_96, s210_97, xcx_i, xcx_r, xcx_n, xcx_l, xcx_0, hk, e, if_false, hG, hg, e1, c1, not_false_eq_true, if_true, decide_false, Bool.false_and, Bool.false_eq_true, true_or, or_true, true_and]
  have h0 : (nI r < 0) = False := eq_false (nI_pos (by omega))
  have h1 : (nI r < nI (2 ^ (2 * nc))) = True := eq_true ((nI_ltI (by omega) (by omega)).mpr hr)
  have h3 : (nI (2 ^ (2 * nc)) ≤ nI r) = False := eq_false (fun q => by have := (nI_leI (a := 2 ^ (2 * nc)) (b := r) (by omega) (by omega)).mp q; omega)
  have h2 : (nI ns = 0) = False := eq_false (fun q => by have := (nI_eq (a := ns) (b := 0) (by omega) (by decide)).mp q; omega)
  rw [e210]
  simp only [s210_0, s210_1, s210_4, s210_7, s210_8, s210_11, s210_12, s210_13, s210_14, s210_15, s210_18, s210_19, s210_20, s210_23, s210_24, s210_25, s210_26, xcx_i, xcx_r, xcx_n, xcx_l, xcx_0, hns, h2, hk, ml_2, shl1 (show 2 * nc ≤ 12 by omega), h0, h1, h3, if_true, if_false, not_true, not_false_eq_true, true_or, or_true, true_and]
  exact loop nc 0 (by omega) _
theorem MisLawful_out {σ : xM} {nc ng nt ns : Nat} {a : Int32} {mi me la wn mn sl : Nat → Nat} {Q : Int32 → xM → Prop} (hC : cM σ nc mi me la wn ng mn sl nt) (hns : σ.1 84 17 = nI ns) (hns8 : ns ≤ 8) (hr : ns = 0 ∨ ¬ ∃ r, r < 2 ^ (2 * nc) ∧ a = nI r) : xI1 210 [.ref 84, .int a] σ Q = Q 0 σ := by
  obtain ⟨⟨hc6, hg4, ht6, hcb, hgb⟩, ⟨hg, ht, hgr⟩, hk, hrow⟩ := hC
  have hpw := pw46 hc6
  rw [e210]
  rcases Nat.eq_zero_or_pos ns with h0 | h0
  · subst h0
    simp only [s210_0, s210_1, s210_4, s210_7, s210_8, s210_11, s210_12, s210_13, s210_14, s210_15, s210_18, s210_19, s210_20, s210_23, s210_24, xcx_i, xcx_r, xcx_n, xcx_l, xcx_0, hns, show (nI 0 = 0) = True from eq_true rfl, if_true, not_true, if_false, true_or, or_true, true_and]
  · have h2 : (nI ns = 0) = False := eq_false (fun q => by have := (nI_eq (a := ns) (b := 0) (by omega) (by decide)).mp q; omega)
    have hr2 : ¬ ∃ r, r < 2 ^ (2 * nc) ∧ a = nI r := by
      rcases hr with q | q
      · omega
      · exact q
    by_cases c1 : a < 0
    · simp only [s210_0, s210_1, s210_4, s210_7, s210_8, s210_11, s210_12, s210_13, s210_14, s210_15, s210_18, s210_19, s210_20, s210_23, s210_24, xcx_i, xcx_r, xcx_n, xcx_l, xcx_0, hns, h2, if_false, not_false_eq_true, c1, if_true, true_or, or_true, true_and]
    · obtain ⟨r, hr31, rfl⟩ := nI_of c1
      have c2 : ¬ r < 2 ^ (2 * nc) := fun q => hr2 ⟨r, q, rfl⟩
      have h1 : (nI r < nI (2 ^ (2 * nc))) = False := eq_false (fun q => c2 ((nI_ltI (by omega) (by omega)).mp q))
      have h3 : (nI (2 ^ (2 * nc)) ≤ nI r) = True := eq_true ((nI_leI (by omega) (by omega)).mpr (by omega))
      simp only [s210_0, s210_1, s210_4, s210_7, s210_8, s210_11, s210_12, s210_13, s210_14, s210_15, s210_18, s210_19, s210_20, s210_23, s210_24, xcx_i, xcx_r, xcx_n, xcx_l, xcx_0, hns, h2, hk, ml_2, shl1 (show 2 * nc ≤ 12 by omega), c1, h1, h3, if_true, if_false, not_true, not_false_eq_true, true_or, or_true, true_and]
