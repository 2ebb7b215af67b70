/-! the course of the calls -/
def CS : Type := (Nat → Nat) × (Nat → Nat) × (Nat → Nat) × (Nat → Nat)
def CS.w (s : CS) : Nat → Nat := s.1
def CS.b (s : CS) : Nat → Nat := s.2.1
def CS.g (s : CS) : Nat → Nat := s.2.2.1
def CS.t (s : CS) : Nat → Nat := s.2.2.2
def mkS (w b g t : Nat → Nat) : CS := (w, b, g, t)
def stF (s : CS) (mi wn gi : Nat → Nat) (c : Nat) : Nat := max (mi c) (max (s.g (gi c)) (if wn c = 0 then 0 else s.t (wn c - 1)))
def stI (s : CS) (wn gi : Nat → Nat) (c : Nat) : Nat := if (if wn c = 0 then 0 else s.t (wn c - 1)) < s.g (gi c) then 1 else if s.g (gi c) < (if wn c = 0 then 0 else s.t (wn c - 1)) then 2 else 3
def stp (mi la wn sl gi : Nat → Nat) (nt c : Nat) (s : CS) : CS :=
  mkS (upN (upN s.w 0 (s.w 0 + (stF s mi wn gi c - mi c))) (stI s wn gi c) (s.w (stI s wn gi c) + (stF s mi wn gi c - mi c))) (upN s.b c (stF s mi wn gi c)) (upN s.g (gi c) (stF s mi wn gi c + la c + sl (gi c))) (srtF (fil s.t (wn c) (stF s mi wn gi c + la c)) (nt - 1) 1)
def bdS (c : Nat) (s : CS) : Prop := (∀ i, s.g i ≤ 999 + 800 * c) ∧ (∀ i, s.t i ≤ 999 + 800 * c) ∧ ∀ i, i < 4 → s.w i ≤ 6000 * c
def s00 : CS := mkS (fun _ => 0) (fun _ => 0) (fun _ => 0) (fun _ => 0)
def run (mi la wn sl gi : Nat → Nat) (nt : Nat) : Nat → CS
  | 0 => s00
  | c + 1 => stp mi la wn sl gi nt c (run mi la wn sl gi nt c)
theorem stI_lt (s : CS) (wn gi : Nat → Nat) (c : Nat) : 1 ≤ stI s wn gi c ∧ stI s wn gi c < 4 := by
  unfold stI
  by_cases h1 : (if wn c = 0 then 0 else s.t (wn c - 1)) < s.g (gi c)
  · rw [if_pos h1]; omega
  · rw [if_neg h1]
    by_cases h2 : s.g (gi c) < (if wn c = 0 then 0 else s.t (wn c - 1))
    · rw [if_pos h2]; omega
    · rw [if_neg h2]; omega
theorem stF_bd {s : CS} {mi wn gi : Nat → Nat} {c : Nat} (h : bdS c s) (hm : mi c ≤ 999) : mi c ≤ stF s mi wn gi c ∧ stF s mi wn gi c ≤ 999 + 800 * c := by
  have h1 := h.1 (gi c)
  have h2 := h.2.1 (wn c - 1)
  unfold stF
  split <;> omega
theorem stp_bd {s : CS} {mi la wn sl gi : Nat → Nat} {nt c : Nat} (h : bdS c s) (hc : c < 6) (hm : mi c ≤ 999) (hl : la c ≤ 200) (hs : sl (gi c) ≤ 600) : bdS (c + 1) (stp mi la wn sl gi nt c s) := by
  obtain ⟨f1, f2⟩ := stF_bd (wn := wn) (gi := gi) h hm
  obtain ⟨i1, i2⟩ := stI_lt s wn gi c
  refine ⟨upN_bd (fun i => by have := h.1 i; omega) (by omega), srtF_bd _ _ _ (fil_bd (fun i => by have := h.2.1 i; omega) (by omega)), fun i hi => ?_⟩
  show upN (upN s.w 0 (s.w 0 + (stF s mi wn gi c - mi c))) (stI s wn gi c) (s.w (stI s wn gi c) + (stF s mi wn gi c - mi c)) i ≤ 6000 * (c + 1)
  unfold upN
  have h0 := h.2.2 0 (by decide)
  have hi1 := h.2.2 i hi
  have hi2 := h.2.2 _ i2
  split
  · omega
  · split <;> omega
theorem run_bd {mi la wn sl gi : Nat → Nat} {nt : Nat} : ∀ c, c ≤ 6 → (∀ d, d < c → mi d ≤ 999 ∧ la d ≤ 200 ∧ sl (gi d) ≤ 600) → bdS c (run mi la wn sl gi nt c) := by
  intro c
  induction c with
  | zero => intro _ _; exact ⟨fun _ => Nat.zero_le _, fun _ => Nat.zero_le _, fun _ _ => Nat.zero_le _⟩
  | succ c ih =>
    intro hc h
    obtain ⟨h1, h2, h3⟩ := h c (by omega)
    exact stp_bd (ih (by omega) (fun d hd => h d (by omega))) (by omega) h1 h2 h3
def MX (σ τ : xM) (c : Nat) (s : CS) : Prop := xSim σ τ ∧ (∀ i, i < 4 → τ.1 51 (i + 1) = nI (s.w i)) ∧ rowIs τ 52 c s.b ∧ rowIs τ 57 4 s.g ∧ rowIs τ 58 6 s.t ∧ bdS c s
def MM (σ τ : xM) (c : Nat) (s : CS) : Prop := xSim σ τ ∧ rowIs τ 114 4 s.w ∧ rowIs τ 113 c s.b ∧ rowIs τ 115 4 s.g ∧ rowIs τ 116 6 s.t ∧ bdS c s
theorem mxN {a b : Nat} (ha : a < 2147483648) (hb : b < 2147483648) : (if nI a < nI b then nI b else nI a) = nI (max a b) := by
  by_cases h : a < b
  · rw [if_pos ((nI_ltI ha hb).mpr h), Nat.max_eq_right (by omega)]
  · rw [if_neg (fun q => h ((nI_ltI ha hb).mp q)), Nat.max_eq_left (by omega)]
theorem xat57 {σ : xM} {v : Nat} (h : v < 4) : xat σ 57 (nI v) = σ.1 57 v := xat_n (by rw [xln_57]; exact h)
theorem xat58 {σ : xM} {v : Nat} (h : v < 6) : xat σ 58 (nI v) = σ.1 58 v := xat_n (by rw [xln_58]; exact h)
theorem only.to {c : Nat} {σ τ τ' : xM} (h : xSim σ τ) (hs : only c τ τ') (hc : ∀ j, scr c j = true) : xSim σ τ' := h.tr (hs.sim hc)
theorem XmeetOne {σ τ : xM} {p nc ng nt c : Nat} {mi me la wn mn sl gi : Nat → Nat} {s : CS} {Q : xM → Prop} (hC : cX σ p nc mi me la wn ng mn sl nt) (hc : c < nc) (hgi : gi c < ng) (hM : MX σ τ c s) (hQ : ∀ τ', MX σ τ' (c + 1) (stp mi la wn sl gi nt c s) → Q τ') : xV 31 [.ref 51, .ref p, .int (nI (gi c)), .int (nI c)] τ Q := by
  obtain ⟨hs, hw, hb, hg, ht, hbd⟩ := hM
  have hCτ := hC.sim hs
  obtain ⟨⟨hc6, hg4, ht6, hcb, hgb⟩, ⟨hp, hpe, hgp, htp, hgr⟩, hk, hrow⟩ := hCτ
  obtain ⟨b1, b2, b3, b4⟩ := hcb c hc
  obtain ⟨a1, a2, a3, a4⟩ := hrow c hc
  obtain ⟨g1, g2⟩ := hgr _ hgi
  obtain ⟨g3, g4⟩ := hgb _ hgi
  have c6 : c < 6 := by omega
  have hbd' := stp_bd (la := la) (wn := wn) (nt := nt) (sl := sl) hbd c6 b1 b3 g4
  obtain ⟨f1, f2⟩ := stF_bd (wn := wn) (gi := gi) hbd b1
  obtain ⟨i1, i2⟩ := stI_lt s wn gi c
  have hwb := fun i hi => hbd.2.2 i hi
  -- from pc 141 on
  have tail : ∀ (τ2 : xM) (l4 l5 l7 : Option Value), xSim σ τ2 → (∀ i, i < 4 → τ2.1 51 (i + 1) = nI ((stp mi la wn sl gi nt c s).w i)) → rowIs τ2 52 c s.b → rowIs τ2 57 4 s.g → rowIs τ2 58 6 s.t → xC 31 141 [some (.ref 51), some (.ref p), some (.int (nI (gi c))), some (.int (nI c)), l4, l5, some (.int (nI (stF s mi wn gi c))), l7] [] τ2 (xqV Q) := by
    intro τ2 l4 l5 l7 hs2 hw2 hb2 hg2 ht2
    obtain ⟨-, ⟨-, hpe2, hgp2, htp2, hgr2⟩, hk2, hrow2⟩ := hC.sim hs2
    obtain ⟨a1', a2', a3', a4'⟩ := hrow2 c hc
    obtain ⟨g1', g2'⟩ := hgr2 _ hgi
    have hx52 : ∀ x (τ : xM), xpt τ 52 (nI c) x = xe_si τ 52 c x := fun x τ => xpt_n (by rw [xln_52]; exact c6)
    have hx57 : ∀ x (τ : xM), xpt τ 57 (nI (gi c)) x = xe_si τ 57 (gi c) x := fun x τ => xpt_n (by rw [xln_57]; omega)
    have hsl : xat τ2 (p + 1) (42 + nI (2 * gi c) + 1) = nI (sl (gi c)) := by
      rw [show (42 : Int32) + nI (2 * gi c) + 1 = nI (42 + 2 * gi c + 1) by rw [show (42 : Int32) + nI (2 * gi c) = nI (42 + 2 * gi c) from nI_add 42 _, nI_1], xrow_p hp (by omega)]
      exact g2'
    have hfin : ∀ Q' : xM → Prop, (∀ τ', MX σ τ' (c + 1) (stp mi la wn sl gi nt c s) → Q' τ') → xV 32 [.ref 51, .int (nI (wn c)), .int (nI (stF s mi wn gi c + la c)), .int (nI nt)] (xe_si (xe_si τ2 52 c (nI (stF s mi wn gi c))) 57 (gi c) (nI (stF s mi wn gi c + la c + sl (gi c)))) Q' := by
      intro Q' hQ'
      have htb := hbd.2.1
      refine XtakeTugs (f := s.t) (by omega) (fun i => by have := htb i; omega) b4 ht6 ((ht2.ne (by decide)).ne (by decide)) (fun τ' ho hr => hQ' τ' ?_)
      refine ⟨only.to ((hs2.si rfl).si rfl) ho (fun _ => rfl), fun i hi => ?_, ?_, ?_, hr, hbd'⟩
      · rw [ho.1 51 (by decide)]; exact hw2 i hi
      · intro i hi
        rw [ho.1 52 (by decide), si_ne (by decide), si_rd]
        show _ = nI (upN s.b c (stF s mi wn gi c) i)
        unfold upN
        by_cases q : i = c
        · rw [if_pos ⟨rfl, q⟩, if_pos q]
        · rw [if_neg (fun w => q w.2), if_neg q]; exact hb2 i (by omega)
      · exact ((hg2.ne (by decide)).si).only ho (by decide)
    rcases hp with rfl | rfl
    · simp only [s31_141, s31_142, s31_145, s31_146, s31_148, s31_151, s31_152, s31_155, s31_156, s31_158, s31_159, s31_162, s31_163, s31_166, s31_167, s31_168, s31_169_4, s31_169_7, s31_172, s31_173, s31_176, s31_177, s31_178, s31_181, s31_182, s31_185, s31_187, s31_188, s31_191, s31_192, s31_195, s31_196, s31_197_4, s31_197_7, s31_200, s31_203, xcx_i, xcx_r, xcx_n, xcx_l, xcx_0, put_eq, at_eq, xcl_52, xcl_55, xcl_56, xcl_57, hx52, hx57, xat_sin, si_rd, false_and, if_false, Nat.reduceAdd, Nat.reduceEqDiff, xat55 c6, xat56 c6, a3', a4', nI_add, sleep_eq, tugs_eq, ml_2, hsl, htp2, true_or, or_true]
      exact hfin _ hQ
    · simp only [s31_141, s31_142, s31_145, s31_146, s31_148, s31_151, s31_152, s31_155, s31_156, s31_158, s31_159, s31_162, s31_163, s31_166, s31_167, s31_168, s31_169_4, s31_169_7, s31_172, s31_173, s31_176, s31_177, s31_178, s31_181, s31_182, s31_185, s31_187, s31_188, s31_191, s31_192, s31_195, s31_196, s31_197_4, s31_197_7, s31_200, s31_203, xcx_i, xcx_r, xcx_n, xcx_l, xcx_0, put_eq, at_eq, xcl_52, xcl_55, xcl_56, xcl_57, hx52, hx57, xat_sin, si_rd, false_and, if_false, Nat.reduceAdd, Nat.reduceEqDiff, xat55 c6, xat56 c6, a3', a4', nI_add, sleep_eq, tugs_eq, ml_2, hsl, htp2, true_or, or_true]
      exact hfin _ hQ
  -- up to pc 88
  have hgg : τ.1 57 (gi c) = nI (s.g (gi c)) := hg _ (by omega)
  have mid : xC 31 88 [some (.ref 51), some (.ref p), some (.int (nI (gi c))), some (.int (nI c)), some (.int (nI (s.g (gi c)))), some (.int (nI (if wn c = 0 then 0 else s.t (wn c - 1)))), some (.int (nI (stF s mi wn gi c))), some (.int (nI (stF s mi wn gi c - mi c)))] [] (xe_si τ 51 1 (nI (s.w 0 + (stF s mi wn gi c - mi c)))) (xqV Q) := by
    have hgB := hbd.1 (gi c)
    have htB : (if wn c = 0 then 0 else s.t (wn c - 1)) ≤ 999 + 800 * c := by
      split
      · omega
      · exact hbd.2.1 _
    have e1 : (nI (s.g (gi c)) ≤ nI (if wn c = 0 then 0 else s.t (wn c - 1))) = ¬ ((if wn c = 0 then 0 else s.t (wn c - 1)) < s.g (gi c)) := by rw [nI_leL (by omega) (by omega)]; exact propext ⟨fun q => by omega, fun q => by omega⟩
    have e2 : (nI (if wn c = 0 then 0 else s.t (wn c - 1)) ≤ nI (s.g (gi c))) = ¬ (s.g (gi c) < (if wn c = 0 then 0 else s.t (wn c - 1))) := by rw [nI_leL (by omega) (by omega)]; exact propext ⟨fun q => by omega, fun q => by omega⟩
    have fin : ∀ (k : Nat) (l4 l5 l7 : Option Value), stI s wn gi c = k → 1 ≤ k → k < 4 → xC 31 141 [some (.ref 51), some (.ref p), some (.int (nI (gi c))), some (.int (nI c)), l4, l5, some (.int (nI (stF s mi wn gi c))), l7] [] (xe_si (xe_si τ 51 1 (nI (s.w 0 + (stF s mi wn gi c - mi c)))) 51 (k + 1) (nI (s.w k + (stF s mi wn gi c - mi c)))) (xqV Q) := by
      intro k l4 l5 l7 hk h1 h4
      refine tail _ _ _ _ ((hs.si rfl).si (by show (k + 1 != 0) = true; rw [bne_iff_ne]; omega)) (fun i hi => ?_) ((hb.ne (by decide)).ne (by decide)) ((hg.ne (by decide)).ne (by decide)) ((ht.ne (by decide)).ne (by decide))
      show _ = nI (upN (upN s.w 0 (s.w 0 + (stF s mi wn gi c - mi c))) (stI s wn gi c) (s.w (stI s wn gi c) + (stF s mi wn gi c - mi c)) i)
      rw [hk, si_rd, si_rd]
      unfold upN
      by_cases q : i = k
      · rw [if_pos ⟨rfl, by omega⟩, if_pos q]
      · rw [if_neg (fun w => q (by omega)), if_neg q]
        by_cases q2 : i = 0
        · rw [if_pos ⟨rfl, by omega⟩, if_pos q2]
        · rw [if_neg (fun w => q2 (by omega)), if_neg q2]; exact hw i hi
    have w1 := hw 1 (by decide)
    have w2 := hw 2 (by decide)
    have w3 := hw 3 (by decide)
    rw [show (1 : Nat) + 1 = 2 from rfl] at w1
    rw [show (2 : Nat) + 1 = 3 from rfl] at w2
    rw [show (3 : Nat) + 1 = 4 from rfl] at w3
    by_cases c1 : (if wn c = 0 then 0 else s.t (wn c - 1)) < s.g (gi c)
    · have hk : stI s wn gi c = 1 := by unfold stI; rw [if_pos c1]
      simp only [s31_88, s31_90, s31_92, s31_95, s31_96, s31_97, s31_100, s31_102, s31_103, s31_106, s31_109, s31_111, s31_113, s31_116, s31_117, s31_118, s31_121, s31_123, s31_124, s31_127, s31_130, s31_131, s31_132, s31_135, s31_137, s31_138, xcx_i, xcx_r, xcx_n, xcx_l, xcx_0, e1, c1, not_true, if_false, si_rd, Nat.reduceEqDiff, and_false, w1, nI_add]
      exact fin 1 _ _ _ hk (by decide) (by decide)
    · by_cases c2 : s.g (gi c) < (if wn c = 0 then 0 else s.t (wn c - 1))
      · have hk : stI s wn gi c = 2 := by unfold stI; rw [if_neg c1, if_pos c2]
        simp only [s31_88, s31_90, s31_92, s31_95, s31_96, s31_97, s31_100, s31_102, s31_103, s31_106, s31_109, s31_111, s31_113, s31_116, s31_117, s31_118, s31_121, s31_123, s31_124, s31_127, s31_130, s31_131, s31_132, s31_135, s31_137, s31_138, xcx_i, xcx_r, xcx_n, xcx_l, xcx_0, e1, e2, c1, c2, not_true, not_false_eq_true, if_true, if_false, si_rd, Nat.reduceEqDiff, and_false, w2, nI_add]
        exact fin 2 _ _ _ hk (by decide) (by decide)
      · have hk : stI s wn gi c = 3 := by unfold stI; rw [if_neg c1, if_neg c2]
        simp only [s31_88, s31_90, s31_92, s31_95, s31_96, s31_97, s31_100, s31_102, s31_103, s31_106, s31_109, s31_111, s31_113, s31_116, s31_117, s31_118, s31_121, s31_123, s31_124, s31_127, s31_130, s31_131, s31_132, s31_135, s31_137, s31_138, xcx_i, xcx_r, xcx_n, xcx_l, xcx_0, e1, e2, c1, c2, not_false_eq_true, if_true, si_rd, Nat.reduceEqDiff, and_false, if_false, w3, nI_add]
        exact fin 3 _ _ _ hk (by decide) (by decide)
  have w0 := hw 0 (by decide)
  rw [show (0 : Nat) + 1 = 1 from rfl] at w0
  have hgB := hbd.1 (gi c)
  rw [e31]
  by_cases cz : wn c = 0
  · have e0 : (nI (wn c) ≤ 0) = True := eq_true (by rw [cz]; decide)
    have hF : stF s mi wn gi c = max (mi c) (max (s.g (gi c)) 0) := by unfold stF; rw [if_pos cz]
    rw [if_pos cz] at mid
    have m1 : (if nI (s.g (gi c)) < 0 then 0 else nI (s.g (gi c))) = nI (max (s.g (gi c)) 0) := mxN (a := s.g (gi c)) (b := 0) (by omega) (by decide)
    have m2 : (if nI (mi c) < nI (max (s.g (gi c)) 0) then nI (max (s.g (gi c)) 0) else nI (mi c)) = nI (stF s mi wn gi c) := by rw [hF]; exact mxN (by omega) (by omega)
    simp only [s31_0, s31_1, s31_4, s31_5, s31_8, s31_10, s31_11, s31_14, s31_15, s31_18, s31_21, s31_22, s31_25, s31_26, s31_29, s31_30, s31_33, s31_34, s31_35, s31_38, s31_41, s31_42, s31_44, s31_45, s31_48, s31_49, s31_52, s31_54, s31_56, s31_59, s31_62, s31_64, s31_66, s31_67, s31_70, s31_71, s31_74, s31_75, s31_77, s31_78, s31_79, s31_82, s31_84, s31_85, xcx_i, xcx_r, xcx_n, xcx_l, xcx_0, at_eq, xcl_53, xcl_56, xcl_57, xcl_58, xat57 (show gi c < 4 by omega), xat56 c6, xat53 c6, hgg, a1, a4, e0, if_true, max_eq, m1, m2, pk_sub f1, w0, nI_add]
    exact mid
  · have e0 : (nI (wn c) ≤ 0) = False := eq_false (fun q => by have := (nI_leI (a := wn c) (b := 0) (by omega) (by decide)).mp q; omega)
    have htt : xat τ 58 (nI (wn c) - 1) = nI (s.t (wn c - 1)) := by
      rw [show (1 : Int32) = nI 1 from rfl, pk_sub (show 1 ≤ wn c by omega), xat58 (show wn c - 1 < 6 by omega)]
      exact ht _ (by omega)
    have hF : stF s mi wn gi c = max (mi c) (max (s.g (gi c)) (s.t (wn c - 1))) := by unfold stF; rw [if_neg cz]
    rw [if_neg cz] at mid
    have htB := hbd.2.1 (wn c - 1)
    have m1 : (if nI (s.g (gi c)) < nI (s.t (wn c - 1)) then nI (s.t (wn c - 1)) else nI (s.g (gi c))) = nI (max (s.g (gi c)) (s.t (wn c - 1))) := mxN (by omega) (by omega)
    have m2 : (if nI (mi c) < nI (max (s.g (gi c)) (s.t (wn c - 1))) then nI (max (s.g (gi c)) (s.t (wn c - 1))) else nI (mi c)) = nI (stF s mi wn gi c) := by rw [hF]; exact mxN (by omega) (by omega)
    simp only [s31_0, s31_1, s31_4, s31_5, s31_8, s31_10, s31_11, s31_14, s31_15, s31_18, s31_21, s31_22, s31_25, s31_26, s31_29, s31_30, s31_33, s31_34, s31_35, s31_38, s31_41, s31_42, s31_44, s31_45, s31_48, s31_49, s31_52, s31_54, s31_56, s31_59, s31_62, s31_64, s31_66, s31_67, s31_70, s31_71, s31_74, s31_75, s31_77, s31_78, s31_79, s31_82, s31_84, s31_85, xcx_i, xcx_r, xcx_n, xcx_l, xcx_0, at_eq, xcl_53, xcl_56, xcl_57, xcl_58, xat57 (show gi c < 4 by omega), xat56 c6, xat53 c6, htt, hgg, a1, a4, e0, if_false, max_eq, m1, m2, pk_sub f1, w0, nI_add]
    exact mid
