/-! pay, both -/
theorem xInv.wages {xs : Nat → Int32} {L : Nat} {σ : xM} (hI : xInv xs L σ) : ∃ wg, ∀ p, σ.2.2 1 = p → wgX σ p wg := by
  obtain ⟨p, ns, nr, nd, ng, nt, hp, hpe, hb, -, ⟨hm0, hm1, hmd, hmg, hmt⟩⟩ := hI.1.get
  obtain ⟨r1, r2, r4, r5, r6⟩ := hI.1.rows hpe hm0 hm1 hmg hb.1 hb.2.1 hb.2.2.2.1
  refine ⟨fun i => if i < 3 then cnum σ (p + 1) (51 + i) else 0, fun p' hp' => ⟨fun i => ?_, fun i hi => ?_⟩⟩
  · by_cases q : i < 3
    · have := bdD (r6 i q).2 (by decide)
      show (if i < 3 then cnum σ (p + 1) (51 + i) else 0) ≤ 99
      rw [if_pos q]; omega
    · show (if i < 3 then cnum σ (p + 1) (51 + i) else 0) ≤ 99
      rw [if_neg q]; omega
  · obtain rfl : p = p' := hpe.symm.trans hp'
    have h := bdD (r6 i hi).2 (by decide)
    show σ.1 (p + 1) (51 + i) = nI (if i < 3 then cnum σ (p + 1) (51 + i) else 0) ∧ σ.1 97 i = nI (if i < 3 then cnum σ (p + 1) (51 + i) else 0)
    rw [if_pos hi]
    exact ⟨h.1, (r6 i hi).1.trans h.1⟩
theorem rem1440 {a : Nat} (h : a < 100000) : nI a - nI a / 1440 * 1440 = nI (a % 1440) := pk_rem (d := 1440) (by omega) (by decide) (by decide)
theorem Mpay_loop {σ : xM} {nc ng nt r g : Nat} {mi me la wn mn sl wg b : Nat → Nat} {Q : Int32 → xM → Prop} (hC : cM σ nc mi me la wn ng mn sl nt) (hw : ∀ i, i < 3 → σ.1 97 i = nI (wg i)) (hr : r < 2147483648) (hg : g < 4) (hb : rowIs σ 113 nc b) (hbb : ∀ d, d < nc → mi d ≤ b d ∧ b d ≤ 5799) : ∀ m c s, c + m = nc → ∀ l5 l6, xC 215 34 [some (.ref 84), some (.int (nI r)), some (.int (nI g)), some (.int (nI s)), some (.int (nI c)), l5, l6] [] σ (xqI Q) = Q (nI (pyF b mi la (fun c => r / 4 ^ c % 4) wg g m c s)) σ := by
  obtain ⟨⟨hc6, hg4, ht6, hcb, hgb⟩, ⟨hgp, htp, hgr⟩, hk, hrow⟩ := hC
  intro m
  induction m with
  | zero =>
    intro c s hc l5 l6
    obtain rfl : c = nc := by omega
    rw [s215_34]
    simp only [s215_36, s215_37, s215_40, s215_183, s215_184, xcx_i, xcx_r, xcx_n, xcx_l, xcx_0, hk, Int32.le_refl, if_true]
    first | done | rfl
  | succ m ih =>
    intro c s hc l5 l6
    have e := lt4N (n := nc) (i := c) (by omega) (by omega)
    have hG : ∀ Q : Int32 → xM → Prop, xI1 209 [.ref 84, .int (nI r), .int (nI c)] σ Q = _ := fun Q => MgangOf hr (by omega)
    have hg4' : r / 4 ^ c % 4 < 4 := Nat.mod_lt _ (by decide)
    have eg : (nI (r / 4 ^ c % 4) = nI g) = (r / 4 ^ c % 4 = g) := propext (nI_eq (by omega) (by omega))
    have ihh := fun s l6 l7 => ih (c + 1) s (by omega) l6 l7
    rw [show pyF b mi la (fun c => r / 4 ^ c % 4) wg g (m + 1) c s = pyF b mi la (fun c => r / 4 ^ c % 4) wg g m (c + 1) (if r / 4 ^ c % 4 = g then s + (wg 0 + wg 1 * ((b c - mi c + 14) / 15) + wg 2 * ((emF (b c + la c) - emF (b c) + 59) / 60)) else s) from rfl]
    obtain ⟨b1, b2, b3, b4⟩ := hcb c (by omega)
    obtain ⟨a1, a2, a3, a4⟩ := hrow c (by omega)
    obtain ⟨q1, q2⟩ := hbb c (by omega)
    have c6 : c < 6 := by omega
    have hbc : σ.1 113 c = nI (b c) := hb c (by omega)
    have w0 := hw 0 (by decide)
    have w1 := hw 1 (by decide)
    have w2 := hw 2 (by decide)
    have hle := emF_le (b c) (la c)
    have hbd := emF_bd (b c + la c)
    have h15 : ¬ (15 : Int32) = 0 := by decide
    have h60 : ¬ (60 : Int32) = 0 := by decide
    have h14 : ¬ (1440 : Int32) = 0 := by decide
    have p1 : nI (b c) - nI (mi c) = nI (b c - mi c) := pk_sub q1
    have p3 : nI (b c - mi c + 14) / 15 = nI ((b c - mi c + 14) / 15) := div15 (by omega)
    have p4 : nI (emF (b c + la c) - emF (b c) + 59) / 60 = nI ((emF (b c + la c) - emF (b c) + 59) / 60) := div60 (by omega)
    have p5 : nI (b c - mi c) + 14 = nI (b c - mi c + 14) := nI_add _ 14
    have p6 : nI (emF (b c + la c) - emF (b c)) + 59 = nI (emF (b c + la c) - emF (b c) + 59) := nI_add _ 59
    have d0 : 4 * c < 100000 := by omega
    have d1 : 4 * c < 24 := by omega
    have d2 : 4 * c + 2 < 100000 := by omega
    have d3 : 4 * c + 2 < 24 := by omega
    have d4 : c < 100000 := by omega
    have z0 : ((0 : Int32) ≤ 0) = True := eq_true (by decide)
    have z1 : ((0 : Int32) ≤ 1) = True := eq_true (by decide)
    have z2 : ((0 : Int32) ≤ 2) = True := eq_true (by decide)
    have y0 : (0 : Int32).toNatClampNeg = 0 := by decide
    have y1 : (1 : Int32).toNatClampNeg = 1 := by decide
    have y2 : (2 : Int32).toNatClampNeg = 2 := by decide
    have night : ∀ m' k, k + m' = la c → ∃ l6', xC 215 69 [some (.ref 84), some (.int (nI r)), some (.int (nI g)), some (.int (nI s)), some (.int (nI c)), some (.int (nI (emF (b c + k) - emF (b c)))), some (.int (nI (b c + k)))] [] σ (xqI Q) = xC 215 121 [some (.ref 84), some (.int (nI r)), some (.int (nI g)), some (.int (nI s)), some (.int (nI c)), some (.int (nI (emF (b c + la c) - emF (b c)))), l6'] [] σ (xqI Q) := by
      intro m'
      induction m' with
      | zero =>
        intro k hk2
        obtain hkl : k = la c := by omega
        refine ⟨some (.int (nI (b c + la c))), ?_⟩
        rw [s215_69, hkl]
        simp only [s215_71, s215_72, s215_75, s215_77, s215_78, s215_79, s215_82, s215_83, s215_85, s215_86, s215_87, s215_88, s215_89, s215_90, xcx_i, xcx_r, xcx_n, xcx_l, xcx_0, xcl_104, xcl_113, xln_104, xln_113, ml_4, al_2, d2, d3, d4, c6, cl_s, pos_s, true_and, hbc, a3, nI_add, Int32.le_refl, if_true]
      | succ m' ih' =>
        intro k hk2
        obtain ⟨l6', ih2⟩ := ih' (k + 1) (by omega)
        refine ⟨l6', ?_⟩
        have e' := lt4N (n := b c + la c) (i := b c + k) (by omega) (by omega)
        have r1 : nI (b c + k) - nI (b c + k) / 1440 * 1440 = nI ((b c + k) % 1440) := rem1440 (by omega)
        have hlk := emF_le (b c) k
        have hs := emF_s (b c + k)
        have e36 : (nI ((b c + k) % 1440) < 360) = ((b c + k) % 1440 < 360) := nI_ltL (b := 360) (by omega) (by decide)
        have e36' : ((360 : Int32) ≤ nI ((b c + k) % 1440)) = ¬ ((b c + k) % 1440 < 360) := (nI_leL (a := 360) (b := (b c + k) % 1440) (by decide) (by omega)).trans (propext ⟨fun q => by omega, fun q => by omega⟩)
        rw [← Nat.add_assoc] at ih2
        rw [s215_69]
        by_cases c3 : (b c + k) % 1440 < 360
        · rw [if_pos c3] at hs
          rw [show emF (b c + k + 1) - emF (b c) = emF (b c + k) - emF (b c) + 1 by omega] at ih2
          simp only [s215_71, s215_72, s215_75, s215_77, s215_78, s215_79, s215_82, s215_83, s215_85, s215_86, s215_87, s215_88, s215_89, s215_90, s215_93, s215_95, s215_97, s215_100, s215_101, s215_104, s215_107, s215_108, s215_111, s215_112, s215_113, s215_115, s215_118, xcx_i, xcx_r, xcx_n, xcx_l, xcx_0, xcl_104, xcl_113, xln_104, xln_113, ml_4, al_2, d2, d3, d4, c6, cl_s, pos_s, true_and, hbc, a3, nI_add, e', if_false, h14, not_false_eq_true, r1, e36', c3, not_true, if_true, nI_1]
          exact ih2
        · rw [if_neg c3] at hs
          rw [show emF (b c + k + 1) - emF (b c) = emF (b c + k) - emF (b c) by omega] at ih2
          have z : ∀ k, nI k + (0 : Int32) = nI k := fun k => nI_add k 0
          simp only [s215_71, s215_72, s215_75, s215_77, s215_78, s215_79, s215_82, s215_83, s215_85, s215_86, s215_87, s215_88, s215_89, s215_90, s215_93, s215_95, s215_97, s215_100, s215_101, s215_104, s215_107, s215_108, s215_111, s215_112, s215_113, s215_115, s215_118, xcx_i, xcx_r, xcx_n, xcx_l, xcx_0, xcl_104, xcl_113, xln_104, xln_113, ml_4, al_2, d2, d3, d4, c6, cl_s, pos_s, true_and, hbc, a3, nI_add, e', if_false, h14, not_false_eq_true, r1, e36', c3, if_true, nI_1, z]
          exact ih2
    rw [s215_34]
    by_cases cg : r / 4 ^ c % 4 = g
    · rw [if_pos cg]
      obtain ⟨l6', hn⟩ := night (la c) 0 (by omega)
      rw [Nat.add_zero, Nat.sub_self] at hn
      simp only [s215_36, s215_37, s215_40, s215_43, s215_44, s215_45, s215_47, s215_50, s215_51, s215_54, s215_57, s215_58, s215_60, s215_61, s215_64, s215_66, s215_67, xcx_i, xcx_r, xcx_n, xcx_l, xcx_0, hk, e, if_false, hG, eg, cg, if_true, not_true, xcl_113, xln_113, d4, c6, cl_s, pos_s, true_and, hbc, true_or, or_true]
      refine Eq.trans hn ?_
      simp only [s215_121, s215_122, s215_123, s215_126, s215_127, s215_128, s215_129, s215_132, s215_133, s215_134, s215_135, s215_138, s215_140, s215_141, s215_142, s215_145, s215_146, s215_148, s215_149, s215_150, s215_151, s215_153, s215_154, s215_156, s215_157, s215_158, s215_159, s215_160, s215_163, s215_164, s215_165, s215_167, s215_169, s215_170, s215_172, s215_173, s215_174, s215_175, s215_176, s215_177, s215_180, xcx_i, xcx_r, xcx_n, xcx_l, xcx_0, xcl_97, xcl_104, xcl_113, xln_97, xln_104, xln_113, z0, z1, z2, y0, y1, y2, Nat.reduceLT, w0, w1, w2, ml_4, d0, d1, d4, c6, cl_s, pos_s, true_and, hbc, a1, p1, p5, h15, h60, not_false_eq_true, p3, p6, p4, pk_mul, nI_add, nI_1, ihh]
    · rw [if_neg cg]
      simp only [s215_36, s215_37, s215_40, s215_43, s215_44, s215_45, s215_47, s215_50, s215_51, s215_54, s215_177, s215_180, xcx_i, xcx_r, xcx_n, xcx_l, xcx_0, hk, e, if_false, hG, eg, cg, if_true, true_or, or_true, true_and, nI_1, ihh]
theorem op_pay (a b : Int32) : xOp 128 215 [.int a, .int b] := by
  intro xs L σ hI
  obtain ⟨p, ns, nc, ng, nt, mi, me, la, wn, mn, sl, hCX, hCM, hns8, hst, hm0, hz⟩ := hI.calls
  obtain ⟨wg, hwg⟩ := hI.wages
  have hns31 : ns < 2147483648 := by omega
  have hp := hCX.2.1.1
  have hpe := hCX.2.1.2.1
  have hw := hwg p hpe
  have hc6 := hCX.1.1
  have hg4 := hCX.1.2.1
  have hng31 : ng < 2147483648 := by omega
  have hpw := pw46 hc6
  have hgX := hCX.2.1.2.2.1
  have hgM := hCM.2.1.1
  by_cases hL : ∃ r, r < 2 ^ (2 * nc) ∧ a = nI r ∧ 0 < ns ∧ lwF me wn ng mn nt r nc 0 = true ∧ ∃ g, g < ng ∧ b = nI g
  · obtain ⟨r, hr, rfl, hns0, hlw, g, hg, rfl⟩ := hL
    have hgi := lwF_row hlw
    have h10 : ¬ (1 : Int32) = 0 := by decide
    have hG0 : 0 ≤ nI g ∧ nI g ≤ nI ng - 1 := (rng_iff hng31).mpr ⟨g, hg, rfl⟩
    have hbb := run_b (mi := mi) (la := la) (wn := wn) (sl := sl) (gi := fun c => r / 4 ^ c % 4) (nt := nt) hc6 (fun d hd => ⟨(hCX.1.2.2.2.1 d hd).1, (hCX.1.2.2.2.1 d hd).2.2.1, (hCX.1.2.2.2.2 _ (hgi d hd)).2⟩) nc (Nat.le_refl _)
    have hfin : ∀ τ1, MX σ τ1 nc (run mi la wn sl (fun c => r / 4 ^ c % 4) nt nc) → xI1 215 (.ref 84 :: [.int (nI r), .int (nI g)]) τ1 (fun r2 σ2 => nI (pyF (run mi la wn sl (fun c => r / 4 ^ c % 4) nt nc).b mi la (fun c => r / 4 ^ c % 4) wg g nc 0 0) = r2 ∧ xInv xs L σ2) := by
      intro τ1 hM1
      have hs1 := hM1.1
      have hM := hCM.sim hs1
      have hm01 : τ1.1 84 17 = nI ns := (hs1.1 84 17 rfl).trans hm0
      have hlM : ∀ Q : Int32 → xM → Prop, xI1 210 [.ref 84, .int (nI r)] τ1 Q = _ := fun Q => MisLawful hM hm01 hns8 hns0 hr
      rw [hlw, if_pos rfl] at hlM
      have hgMτ : τ1.1 84 23 = nI ng := (hs1.1 84 23 rfl).trans hgM
      rw [e215]
      simp only [s215_0, s215_1, s215_2, s215_5, s215_8, s215_9, s215_10, s215_11, s215_14, s215_15, s215_16, s215_19, s215_22, s215_23, s215_24, s215_25, s215_26, xcx_i, xcx_r, xcx_n, xcx_l, xcx_0, hlM, h10, not_false_eq_true, if_true, hgMτ, in_eq, if_pos hG0, xb_f, ite_not, true_or, or_true, true_and]
      refine Mmeets hM (by omega) hgi (fun τ2 hM2 => ?_)
      simp only [s215_29, s215_30, s215_31, s215_32, xcx_i, xcx_r, xcx_n, xcx_l, xcx_0]
      have hl := fun Q => Mpay_loop (σ := τ2) (r := r) (g := g) (wg := wg) (Q := Q) (hM.sim hM2.1) (fun i hi => by rw [hM2.1.row (k := 97) fun _ => rfl, hs1.row (k := 97) fun _ => rfl]; exact (hw.2 i hi).2) (by omega) (by omega) hM2.2.2.1 hbb nc 0 0 (by omega) none none
      exact (iff_of_eq (hl _)).mpr ⟨rfl, hI.sim (hs1.tr hM2.1)⟩
    have hlX : ∀ Q : Int32 → xM → Prop, xI1 29 [.ref 51, .ref p, .int (nI r)] σ Q = _ := fun Q => XisLawful hCX hr
    rw [hlw, if_pos rfl] at hlX
    have hpay : ∀ τ1, MX σ τ1 nc (run mi la wn sl (fun c => r / 4 ^ c % 4) nt nc) → ∀ Q : Int32 → xM → Prop, xI1 34 [.ref 51, .ref p, .int (nI r), .int (nI g)] τ1 Q = Q (nI (pyF (run mi la wn sl (fun c => r / 4 ^ c % 4) nt nc).b mi la (fun c => r / 4 ^ c % 4) wg g nc 0 0)) τ1 := by
      intro τ1 hM1 Q
      refine XpayOf (hCX.sim hM1.1) ⟨hw.1, fun i hi => ?_⟩ (by omega) (by omega) hM1.2.2.1 hbb
      have e : τ1.1 (p + 1) = σ.1 (p + 1) := by
        rcases hp with q | q <;> rw [q]
        · exact hM1.1.row fun _ => rfl
        · exact hM1.1.row fun _ => rfl
      rw [e, hM1.1.row (k := 97) fun _ => rfl]
      exact hw.2 i hi
    rw [e128]
    rcases hp with rfl | rfl
    · simp only [s128_0, s128_1, s128_2, s128_3, s128_6, s128_7_4, s128_7_7, s128_10, s128_11, s128_12, s128_15, s128_18, s128_19, s128_22, s128_23, s128_26, s128_27, s128_30, s128_33, s128_34, s128_35, s128_36, s128_39, s128_40, s128_43, s128_44, xcx_i, xcx_r, xcx_n, xcx_l, xcx_0, hpe, toldOf_eq, hgX, within_eq, if_pos hG0, xb_f, ite_not, hlX, h10, not_false_eq_true, if_true, true_or, or_true, true_and]
      refine Xmeet hCX (by omega) hgi (fun τ1 hM1 => ?_)
      have hpe1 : τ1.2.2 1 = 4 := by rw [hM1.1.2]; exact hpe
      simp only [s128_47, s128_48, s128_51, s128_52, s128_55, s128_56, s128_57, s128_60, xcx_i, xcx_r, xcx_n, xcx_l, xcx_0, hpe1, hpay τ1 hM1, true_or, or_true]
      exact hfin τ1 hM1
    · simp only [s128_0, s128_1, s128_2, s128_3, s128_6, s128_7_4, s128_7_7, s128_10, s128_11, s128_12, s128_15, s128_18, s128_19, s128_22, s128_23, s128_26, s128_27, s128_30, s128_33, s128_34, s128_35, s128_36, s128_39, s128_40, s128_43, s128_44, xcx_i, xcx_r, xcx_n, xcx_l, xcx_0, hpe, toldOf_eq, hgX, within_eq, if_pos hG0, xb_f, ite_not, hlX, h10, not_false_eq_true, if_true, true_or, or_true, true_and]
      refine Xmeet hCX (by omega) hgi (fun τ1 hM1 => ?_)
      have hpe1 : τ1.2.2 1 = 7 := by rw [hM1.1.2]; exact hpe
      simp only [s128_47, s128_48, s128_51, s128_52, s128_55, s128_56, s128_57, s128_60, xcx_i, xcx_r, xcx_n, xcx_l, xcx_0, hpe1, hpay τ1 hM1, true_or, or_true]
      exact hfin τ1 hM1
  · have hx : ∀ Q : Int32 → xM → Prop, xI1 128 [.ref 0, .int a, .int b] σ Q = Q (-1) σ := by
      intro Q
      by_cases c1 : 0 ≤ b ∧ b ≤ nI ng - 1
      · obtain ⟨g, hg, rfl⟩ := (rng_iff hng31).mp c1
        have hns0 : 0 < ns := by
          rcases Nat.eq_zero_or_pos ns with q | q
          · have := hz q; omega
          · exact q
        have hlX : ∀ Q : Int32 → xM → Prop, xI1 29 [.ref 51, .ref p, .int a] σ Q = Q 0 σ := by
          intro Q
          by_cases c2 : ∃ r, r < 2 ^ (2 * nc) ∧ a = nI r
          · obtain ⟨r, hr, rfl⟩ := c2
            have : ¬ lwF me wn ng mn nt r nc 0 = true := fun q => hL ⟨r, hr, rfl, hns0, q, g, hg, rfl⟩
            rw [XisLawful hCX hr, if_neg this]
          · exact XisLawful_out hCX c2
        rw [e128]
        rcases hp with rfl | rfl <;> simp only [s128_0, s128_1, s128_2, s128_3, s128_6, s128_7_4, s128_7_7, s128_10, s128_11, s128_12, s128_15, s128_18, s128_19, s128_22, s128_23, s128_26, s128_27, s128_30, s128_33, s128_34, xcx_i, xcx_r, xcx_n, xcx_l, xcx_0, hpe, toldOf_eq, hgX, within_eq, if_pos c1, xb_f, ite_not, hlX, not_true, if_false, true_or, or_true, true_and, if_true, if_false, ite_self]
      · rw [e128]
        rcases hp with rfl | rfl <;> simp only [s128_0, s128_1, s128_2, s128_3, s128_6, s128_7_4, s128_7_7, s128_10, s128_11, s128_12, s128_15, s128_18, s128_19, s128_22, s128_23, s128_26, s128_27, s128_30, s128_33, s128_34, xcx_i, xcx_r, xcx_n, xcx_l, xcx_0, hpe, toldOf_eq, hgX, within_eq, if_neg c1, xb_f, ite_not, true_or, or_true, true_and, if_true, if_false, ite_self]
    have hm : ∀ Q : Int32 → xM → Prop, xI1 215 [.ref 84, .int a, .int b] σ Q = Q (-1) σ := by
      intro Q
      by_cases c2 : 0 < ns ∧ ∃ r, r < 2 ^ (2 * nc) ∧ a = nI r ∧ lwF me wn ng mn nt r nc 0 = true
      · obtain ⟨c1, r, hr, rfl, hlw⟩ := c2
        have h10 : ¬ (1 : Int32) = 0 := by decide
        have hlM : ∀ Q : Int32 → xM → Prop, xI1 210 [.ref 84, .int (nI r)] σ Q = _ := fun Q => MisLawful hCM hm0 hns8 c1 hr
        rw [hlw, if_pos rfl] at hlM
        have hg0 : ¬ (0 ≤ b ∧ b ≤ nI ng - 1) := by
          intro q
          obtain ⟨g, hg, rfl⟩ := (rng_iff hng31).mp q
          exact hL ⟨r, hr, rfl, c1, hlw, g, hg, rfl⟩
        rw [e215]
        simp only [s215_0, s215_1, s215_2, s215_5, s215_8, s215_9, s215_10, s215_11, s215_14, s215_15, s215_16, s215_19, s215_22, s215_23, xcx_i, xcx_r, xcx_n, xcx_l, xcx_0, hlM, h10, not_false_eq_true, if_true, hgM, in_eq, if_neg hg0, xb_f, ite_not, true_or, or_true, true_and, if_true, if_false, ite_self]
      · have hlM : ∀ Q : Int32 → xM → Prop, xI1 210 [.ref 84, .int a] σ Q = Q 0 σ := by
          intro Q
          by_cases c3 : 0 < ns ∧ ∃ r, r < 2 ^ (2 * nc) ∧ a = nI r
          · obtain ⟨c1, r, hr, rfl⟩ := c3
            have : ¬ lwF me wn ng mn nt r nc 0 = true := fun q => c2 ⟨c1, r, hr, rfl, q⟩
            rw [MisLawful hCM hm0 hns8 c1 hr, if_neg this]
          · refine MisLawful_out hCM hm0 hns8 ?_
            rcases Nat.eq_zero_or_pos ns with q | q
            · exact Or.inl q
            · exact Or.inr (fun z => c3 ⟨q, z⟩)
        rw [e215]
        simp only [s215_0, s215_1, s215_2, s215_5, s215_8, s215_9, s215_10, s215_11, s215_14, s215_15, s215_16, s215_19, s215_22, s215_23, xcx_i, xcx_r, xcx_n, xcx_l, xcx_0, hlM, not_true, if_false, true_or, or_true, true_and, if_true, if_false, ite_self]
    rw [hx, hm]
    exact ⟨rfl, hI⟩
