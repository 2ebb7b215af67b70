/-! pay -/
def emF (u : Nat) : Nat := u / 1440 * 360 + min (u % 1440) 360
theorem emF_s (u : Nat) : emF (u + 1) = emF u + if u % 1440 < 360 then 1 else 0 := by
  unfold emF
  by_cases h : u % 1440 < 360
  · rw [if_pos h]; omega
  · rw [if_neg h]; omega
theorem emF_le (u k : Nat) : emF u ≤ emF (u + k) := by
  induction k with
  | zero => exact Nat.le_refl _
  | succ k ih => rw [show u + (k + 1) = (u + k) + 1 from rfl, emF_s]; omega
theorem emF_bd (u : Nat) : emF u ≤ u + 360 := by unfold emF; omega
theorem run_b {mi la wn sl gi : Nat → Nat} {nt nc : Nat} (hnc : nc ≤ 6) (h : ∀ d, d < nc → mi d ≤ 999 ∧ la d ≤ 200 ∧ sl (gi d) ≤ 600) : ∀ c, c ≤ nc → ∀ d, d < c → mi d ≤ (run mi la wn sl gi nt c).b d ∧ (run mi la wn sl gi nt c).b d ≤ 5799 := by
  intro c
  induction c with
  | zero => intro _ d hd; exact absurd hd (Nat.not_lt_zero d)
  | succ c ih =>
    intro hc d hd
    have hb := run_bd (mi := mi) (la := la) (wn := wn) (sl := sl) (gi := gi) (nt := nt) c (by omega) (fun d hd => h d (by omega))
    have hf := stF_bd (mi := mi) (wn := wn) (gi := gi) hb (h c (by omega)).1
    show mi d ≤ upN (run mi la wn sl gi nt c).b c (stF (run mi la wn sl gi nt c) mi wn gi c) d ∧ upN (run mi la wn sl gi nt c).b c (stF (run mi la wn sl gi nt c) mi wn gi c) d ≤ 5799
    unfold upN
    by_cases q : d = c
    · rw [if_pos q, q]; omega
    · rw [if_neg q]; exact ih (by omega) d (by omega)
def pyF (b mi la gi wg : Nat → Nat) (g : Nat) : Nat → Nat → Nat → Nat
  | 0, _, s => s
  | m + 1, c, s => pyF b mi la gi wg g m (c + 1) (if gi c = g then s + (wg 0 + wg 1 * ((b c - mi c + 14) / 15) + wg 2 * ((emF (b c + la c) - emF (b c) + 59) / 60)) else s)
theorem XearlyMinutes {σ : xM} {u : Nat} {Q : Int32 → xM → Prop} (hu : u < 100000) : xI1 35 [.int (nI u)] σ Q = Q (nI (emF u)) σ := by
  have h1 : nI u / 1440 = nI (u / 1440) := pk_div (d := 1440) (by omega) (by decide) (by decide)
  have h2 : nI u - nI (u / 1440) * 1440 = nI (u % 1440) := by
    rw [← h1]; exact pk_rem (d := 1440) (by omega) (by decide) (by decide)
  have h0 : ¬ (1440 : Int32) = 0 := by decide
  have h3 : nI (u / 1440) * 360 = nI (u / 1440 * 360) := pk_mul _ 360
  have h4 : (if (360 : Int32) < nI (u % 1440) then 360 else nI (u % 1440)) = nI (min (u % 1440) 360) := mnN (a := u % 1440) (b := 360) (by omega) (by decide)
  rw [e35]
  simp only [s35_0, s35_1, s35_4, s35_5, s35_8, s35_9, s35_10, s35_13, s35_14, s35_17, s35_20, s35_21, xcx_i, xcx_r, xcx_n, xcx_l, xcx_0, h0, not_false_eq_true, true_and, h1, h2, h3, min_eq, h4, nI_add, emF]
def wgX (σ : xM) (p : Nat) (wg : Nat → Nat) : Prop := (∀ i, wg i ≤ 99) ∧ ∀ i, i < 3 → σ.1 (p + 1) (51 + i) = nI (wg i) ∧ σ.1 97 i = nI (wg i)
theorem div15 {a : Nat} (h : a < 100000) : nI a / 15 = nI (a / 15) := pk_div (d := 15) (by omega) (by decide) (by decide)
theorem div60 {a : Nat} (h : a < 100000) : nI a / 60 = nI (a / 60) := pk_div (d := 60) (by omega) (by decide) (by decide)
theorem XpayOf {σ : xM} {p nc ng nt r g : Nat} {mi me la wn mn sl wg b : Nat → Nat} {Q : Int32 → xM → Prop} (hC : cX σ p nc mi me la wn ng mn sl nt) (hw : wgX σ p wg) (hr : r < 2147483648) (hg : g < 4) (hb : rowIs σ 52 nc b) (hbb : ∀ d, d < nc → mi d ≤ b d ∧ b d ≤ 5799) : xI1 34 [.ref 51, .ref p, .int (nI r), .int (nI g)] σ Q = Q (nI (pyF b mi la (fun c => r / 4 ^ c % 4) wg g nc 0 0)) σ := by
  obtain ⟨⟨hc6, hg4, ht6, hcb, hgb⟩, ⟨hp, hpe, hgp, htp, hgr⟩, hk, hrow⟩ := hC
  have loop : ∀ m c s, c + m = nc → ∀ l6 l7, xC 34 6 [some (.ref 51), some (.ref p), some (.int (nI r)), some (.int (nI g)), some (.int (nI s)), some (.int (nI c)), l6, l7] [] σ (xqI Q) = Q (nI (pyF b mi la (fun c => r / 4 ^ c % 4) wg g m c s)) σ := by
    intro m
    induction m with
    | zero =>
      intro c s hc l6 l7
      obtain rfl : c = nc := by omega
      rw [s34_6]
      simp only [s34_8, s34_9, s34_12, s34_123, s34_125, xcx_i, xcx_r, xcx_n, xcx_l, xcx_0, hk, Int32.le_refl, if_true]
      first | done | rfl
    | succ m ih =>
      intro c s hc l6 l7
      have e := lt4N (n := nc) (i := c) (by omega) (by omega)
      have hG : ∀ Q : Int32 → xM → Prop, xI1 28 [.int (nI r), .int (nI c)] σ Q = _ := fun Q => XgangOf hr (by omega)
      have hg4' : r / 4 ^ c % 4 < 4 := Nat.mod_lt _ (by decide)
      have eg : (nI (r / 4 ^ c % 4) = nI g) = (r / 4 ^ c % 4 = g) := propext (nI_eq (by omega) (by omega))
      have ihh := fun s l6 l7 => ih (c + 1) s (by omega) l6 l7
      rw [show pyF b mi la (fun c => r / 4 ^ c % 4) wg g (m + 1) c s = pyF b mi la (fun c => r / 4 ^ c % 4) wg g m (c + 1) (if r / 4 ^ c % 4 = g then s + (wg 0 + wg 1 * ((b c - mi c + 14) / 15) + wg 2 * ((emF (b c + la c) - emF (b c) + 59) / 60)) else s) from rfl]
      obtain ⟨b1, b2, b3, b4⟩ := hcb c (by omega)
      obtain ⟨a1, a2, a3, a4⟩ := hrow c (by omega)
      obtain ⟨q1, q2⟩ := hbb c (by omega)
      have c6 : c < 6 := by omega
      have hx52 : xat σ 52 (nI c) = nI (b c) := by rw [xat_n (by rw [xln_52]; exact c6)]; exact hb c (by omega)
      have w0 : xat σ (p + 1) (51 + 0) = nI (wg 0) := (xrow_p (i := 51) hp (by decide)).trans (hw.2 0 (by decide)).1
      have w1 : xat σ (p + 1) (51 + 1) = nI (wg 1) := (xrow_p (i := 52) hp (by decide)).trans (hw.2 1 (by decide)).1
      have w2 : xat σ (p + 1) (51 + 2) = nI (wg 2) := (xrow_p (i := 53) hp (by decide)).trans (hw.2 2 (by decide)).1
      have hle := emF_le (b c) (la c)
      have hbd := emF_bd (b c + la c)
      have h15 : ¬ (15 : Int32) = 0 := by decide
      have h60 : ¬ (60 : Int32) = 0 := by decide
      have p1 : nI (b c) - nI (mi c) = nI (b c - mi c) := pk_sub q1
      have p2 : nI (emF (b c + la c)) - nI (emF (b c)) = nI (emF (b c + la c) - emF (b c)) := pk_sub hle
      have p3 : nI (b c - mi c + 14) / 15 = nI ((b c - mi c + 14) / 15) := div15 (by omega)
      have p4 : nI (emF (b c + la c) - emF (b c) + 59) / 60 = nI ((emF (b c + la c) - emF (b c) + 59) / 60) := div60 (by omega)
      have p5 : nI (b c - mi c) + 14 = nI (b c - mi c + 14) := nI_add _ 14
      have p6 : nI (emF (b c + la c) - emF (b c)) + 59 = nI (emF (b c + la c) - emF (b c) + 59) := nI_add _ 59
      have hE1 : ∀ Q : Int32 → xM → Prop, xI1 35 [.int (nI (b c + la c))] σ Q = _ := fun Q => XearlyMinutes (by omega)
      have hE2 : ∀ Q : Int32 → xM → Prop, xI1 35 [.int (nI (b c))] σ Q = _ := fun Q => XearlyMinutes (by omega)
      rw [s34_6]
      by_cases cg : r / 4 ^ c % 4 = g
      · have hsum : s + wg 0 + wg 1 * ((b c - mi c + 14) / 15) + wg 2 * ((emF (b c + la c) - emF (b c) + 59) / 60) = s + (wg 0 + wg 1 * ((b c - mi c + 14) / 15) + wg 2 * ((emF (b c + la c) - emF (b c) + 59) / 60)) := by omega
        rw [if_pos cg, ← hsum]
        rcases hp with rfl | rfl <;> simp only [s34_8, s34_9, s34_12, s34_15, s34_16, s34_18, s34_21, s34_22, s34_25, s34_26, s34_29, s34_31, s34_34, s34_36, s34_38, s34_39, s34_42, s34_44, s34_47, s34_48, s34_51, s34_53, s34_56, s34_57, s34_59, s34_61, s34_62, s34_63_4, s34_63_7, s34_66, s34_67, s34_69, s34_71, s34_72, s34_73_4, s34_73_7, s34_76, s34_78, s34_79, s34_82, s34_84, s34_87, s34_88, s34_90, s34_91, s34_93, s34_94, s34_95, s34_96, s34_98, s34_100, s34_101, s34_102_4, s34_102_7, s34_105, s34_107, s34_109, s34_110, s34_112, s34_113, s34_114, s34_115, s34_117, s34_120, xcx_i, xcx_r, xcx_n, xcx_l, xcx_0, hk, e, if_false, hG, eg, cg, not_true, if_true, at_eq, xcl_52, xcl_53, xcl_55, hx52, xat53 c6, xat55 c6, a1, a3, nI_add, hE1, hE2, p1, p2, p3, p4, p5, p6, h15, h60, not_false_eq_true, true_and, wage_eq, w0, w1, w2, pk_mul, nI_1, true_or, or_true, ihh]
      · rw [if_neg cg]
        rcases hp with rfl | rfl <;> simp only [s34_8, s34_9, s34_12, s34_15, s34_16, s34_18, s34_21, s34_22, s34_25, s34_26, s34_29, s34_31, s34_34, s34_36, s34_38, s34_39, s34_42, s34_44, s34_47, s34_48, s34_51, s34_53, s34_56, s34_57, s34_59, s34_61, s34_62, s34_63_4, s34_63_7, s34_66, s34_67, s34_69, s34_71, s34_72, s34_73_4, s34_73_7, s34_76, s34_78, s34_79, s34_82, s34_84, s34_87, s34_88, s34_90, s34_91, s34_93, s34_94, s34_95, s34_96, s34_98, s34_100, s34_101, s34_102_4, s34_102_7, s34_105, s34_107, s34_109, s34_110, s34_112, s34_113, s34_114, s34_115, s34_117, s34_120, xcx_i, xcx_r, xcx_n, xcx_l, xcx_0, hk, e, if_false, hG, eg, cg, not_false_eq_true, if_true, nI_1, true_or, or_true, true_and, ihh]
  rw [e34]
  simp only [s34_0, s34_1, s34_3, s34_4, xcx_i, xcx_r, xcx_n, xcx_l, xcx_0]
  exact loop nc 0 0 (by omega) _ _
