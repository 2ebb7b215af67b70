/-! best: layBest -/
def wyR (D E : Nat → Nat → Nat) (bow deck hour m ns : Nat) (w s : Int) (t : Nat) (ok : Int) (g : Int32) : Prop := ∃ u v, isB (csF (wyF (stD D (dg ns m t)) E bow) (rmF (stD D (dg ns m t)) E bow deck hour) (hdF D E) (2 ^ m - 1) m w s) u v ∧ ok = (wh2 (plI (wyF (stD D (dg ns m t)) E bow) (rmF (stD D (dg ns m t)) E bow deck hour) (hdF D E) u v) (brF D E) (dg ns m t) (E 1) (2 ^ m - 1) m ns).2 ∧ g = mxL (fun i => ldI (plI (wyF (stD D (dg ns m t)) E bow) (rmF (stD D (dg ns m t)) E bow deck hour) (hdF D E) u v i) (brF D E i)) m
theorem wyR_eq {D E : Nat → Nat → Nat} {bow deck hour m ns : Nat} {w s : Int} {t : Nat} {ok ok' : Int} {g g' : Int32} (h1 : wyR D E bow deck hour m ns w s t ok g) (h2 : wyR D E bow deck hour m ns w s t ok' g') : ok = ok' ∧ g = g' := by
  obtain ⟨u, v, b1, e1, f1⟩ := h1
  obtain ⟨u', v', b2, e2, f2⟩ := h2
  obtain ⟨rfl, rfl⟩ := isB_eq b1 b2
  exact ⟨e1.trans e2.symm, f1.trans f2.symm⟩
theorem wyR_bd {D E : Nat → Nat → Nat} {bow deck hour n m ns nr : Nat} {w s : Int} {t : Nat} {ok : Int} {g : Int32} (hb : sdB n ns nr bow deck D E) (hm : m ≤ n) (hns : 1 ≤ ns) (h : wyR D E bow deck hour m ns w s t ok g) : (∃ k : Nat, g = nI k ∧ k ≤ 1600000) ∧ (ok = -1 → ∃ k : Nat, g = nI k ∧ k ≤ 1000) := by
  obtain ⟨u, v, hB, e, f⟩ := h
  have hbt := stD_b hb hm (S := dg ns m t) (fun i _ => Nat.mod_lt _ hns)
  have hld := hbt.ld hour (Nat.le_refl m)
  have hP : ∀ i, i < m → 0 ≤ plI (wyF (stD D (dg ns m t)) E bow) (rmF (stD D (dg ns m t)) E bow deck hour) (hdF D E) u v i ∧ plI (wyF (stD D (dg ns m t)) E bow) (rmF (stD D (dg ns m t)) E bow deck hour) (hdF D E) u v i ≤ 1600 := fun i hi => plI_bd hld hB.1 hi
  have hBb : ∀ i, i < m → 0 ≤ brF D E i ∧ brF D E i ≤ 999 := fun i hi => (hld.2 i hi).2.2.2.2.1
  refine ⟨?_, fun q => ?_⟩
  · rw [f]
    exact mxL_bd m (fun i hi => ldI_nat (hP i hi) (hBb i hi))
  · rw [f]
    rw [q] at e
    have h1 := wh1_no m (wh2_no ns e.symm)
    exact mxL_bd m (fun i hi => ldI_small (hP i hi) (hBb i hi) (h1.2 i hi (allB hi)))
def bsF (ok : Nat → Int) (g : Nat → Int32) : Nat → Int32 × Nat
  | 0 => (-1, 0)
  | t + 1 => if ok t = -1 ∧ ((bsF ok g t).1 = -1 ∨ g t < (bsF ok g t).1) then (g t, t) else bsF ok g t
def cbF (b : Int32 × Nat) : Int32 := if b.1 = -1 then 1000000 else b.1
theorem bsF_in {ok : Nat → Int} {g : Nat → Int32} (h : ∀ t, ok t = -1 → ∃ k : Nat, g t = nI k ∧ k ≤ 1000) : ∀ t, (bsF ok g t).1 = -1 ∨ ∃ k : Nat, (bsF ok g t).1 = nI k ∧ k ≤ 1000 := by
  intro t
  induction t with
  | zero => exact Or.inl rfl
  | succ t ih =>
    by_cases c : ok t = -1 ∧ ((bsF ok g t).1 = -1 ∨ g t < (bsF ok g t).1)
    · rw [show bsF ok g (t + 1) = (g t, t) from if_pos c]; exact Or.inr (h t c.1)
    · rw [show bsF ok g (t + 1) = bsF ok g t from if_neg c]; exact ih
theorem bsF_stop {ok : Nat → Int} {g : Nat → Int32} (h : ∀ t, ∃ k : Nat, g t = nI k ∧ k ≤ 1600000) {t : Nat} (h1 : ¬ (bsF ok g t).1 = -1) (h2 : (bsF ok g t).1 ≤ 0) : ∀ d, bsF ok g (t + d) = bsF ok g t := by
  intro d
  induction d with
  | zero => rfl
  | succ d ih =>
    have c : ¬ (ok (t + d) = -1 ∧ ((bsF ok g (t + d)).1 = -1 ∨ g (t + d) < (bsF ok g (t + d)).1)) := by
      rw [ih]
      rintro ⟨-, q | q⟩
      · exact h1 q
      · obtain ⟨k, e, hk⟩ := h (t + d)
        rw [e] at q
        have : nI k < 0 := Int32.lt_of_lt_of_le q h2
        rw [nl_0 (by omega)] at this
        omega
    rw [show bsF ok g (t + (d + 1)) = bsF ok g (t + d) from if_neg c]
    exact ih
theorem moX.of {σ τ : xM} {n H : Nat} {W R K B : Nat → Int} {S : Nat → Nat} (h : moX σ n H W R K B S) (hr : ∀ a, (a = 38 ∨ 40 ≤ a ∧ a ≤ 45) → ∀ j, τ.1 a j = σ.1 a j) : moX τ n H W R K B S := by
  obtain ⟨q1, q2, q3, q4, q5⟩ := h
  refine ⟨q1, q2, (hr 38 (by decide) 0).trans q3, (hr 38 (by decide) 1).trans q4, fun i hi => ?_⟩
  rw [hr 40 (by decide), hr 41 (by decide), hr 43 (by decide), hr 44 (by decide), hr 45 (by decide)]
  exact q5 i hi
theorem xSim.cp50 {σ τ : xM} {n : Nat} (h : xSim σ τ) : xSim σ (xe_cp τ 45 50 0 0 n) := ⟨fun k j hk => by
  rw [cp_rd, if_neg (fun z => by obtain ⟨z, -⟩ := z; subst z; cases hk)]; exact h.1 k j hk, h.2⟩
theorem XlayBest {σ τ0 : xM} {p n m ns nr bow deck hour : Nat} {D E : Nat → Nat → Nat} {w s : Int} {S0 : Nat → Nat} {W0 R0 : Nat → Int} {ok : Nat → Int} {g : Nat → Int32} {Q : Int32 → xM → Prop} (h : sdX σ p n ns nr bow deck D E) (hb : sdB n ns nr bow deck D E) (hm : m ≤ n) (hm1 : 1 ≤ m) (hm3 : m ≤ 3) (hns : 1 ≤ ns) (hw : 0 ≤ w ∧ w ≤ 999) (hs : -99 ≤ s ∧ s ≤ 99) (hk : ∀ t, wyR D E bow deck hour m ns w s t (ok t) (g t)) (hs0 : xSim σ τ0) (hM0 : moX τ0 m (2 ^ m - 1) W0 R0 (hdF D E) (brF D E) S0) (h42 : ∀ i, i < m → τ0.1 42 i = iI (spF D E deck hour i)) (hQ0 : ∀ τ, xSim σ τ → (bsF ok g (ns ^ m)).1 = -1 → Q 0 τ) (hQ1 : ∀ τ, xSim σ τ → ¬ (bsF ok g (ns ^ m)).1 = -1 → τ.1 48 2 = (bsF ok g (ns ^ m)).1 → (∀ i, i < m → τ.1 50 i = nI (dg ns m (bsF ok g (ns ^ m)).2 i)) → Q 1 τ) : xI1 38 [.ref 48, .ref 38, .ref p, .ref 10, .int (iI w), .int (iI s)] τ0 Q := by
  have hn6 := hb.1
  have hns8 := hb.2.1
  have hp := h.1.1
  have hN : ns ^ m ≤ 512 := by
    have h1 : ns ^ m ≤ 8 ^ m := Nat.pow_le_pow_left hns8 m
    have h2 : 8 ^ m ≤ 8 ^ 3 := Nat.pow_le_pow_right (by decide) hm3
    exact Nat.le_trans h1 h2
  have hin := bsF_in (ok := ok) (g := g) (fun t => (wyR_bd hb hm hns (hk t)).2)
  have hgb : ∀ t, ∃ k : Nat, g t = nI k ∧ k ≤ 1600000 := fun t => (wyR_bd hb hm hns (hk t)).1
  have hend : ∀ l7 l8 τ, xSim σ τ → τ.1 48 2 = cbF (bsF ok g (ns ^ m)) → (¬ (bsF ok g (ns ^ m)).1 = -1 → ∀ i, i < m → τ.1 50 i = nI (dg ns m (bsF ok g (ns ^ m)).2 i)) → xC 38 121 [some (.ref 48), some (.ref 38), some (.ref p), some (.ref 10), some (.int (iI w)), some (.int (iI s)), some (.int (nI (ns ^ m))), l7, l8] [] τ (xqI Q) := by
    intro l7 l8 τ hsm h48 h50
    rcases hin (ns ^ m) with q | ⟨k, q, hk1⟩
    · have hc : cbF (bsF ok g (ns ^ m)) = 1000000 := by unfold cbF; rw [if_pos q]
      rw [hc] at h48
      simp only [s38_121, s38_122, s38_125, s38_127, s38_130, s38_131, s38_134, s38_135, xcx_i, xcx_r, xcx_n, xcx_l, xcx_0, h48, Int32.le_refl, if_true, true_or, or_true, true_and]
      exact hQ0 τ hsm q
    · have hne : ¬ (bsF ok g (ns ^ m)).1 = -1 := by rw [q, nI_m1 (by omega)]; exact id
      have hc : cbF (bsF ok g (ns ^ m)) = (bsF ok g (ns ^ m)).1 := by unfold cbF; rw [if_neg hne]
      have e : ((1000000 : Int32) ≤ (bsF ok g (ns ^ m)).1) = False := eq_false (fun z => by
        rw [q] at z
        have := (nI_leI (a := 1000000) (b := k) (by decide) (by omega)).mp z
        omega)
      have hq := hQ1 τ hsm hne (by rw [h48, hc]) (h50 hne)
      rw [hc] at h48
      simp only [s38_121, s38_122, s38_125, s38_127, s38_130, s38_131, s38_134, s38_135, xcx_i, xcx_r, xcx_n, xcx_l, xcx_0, h48, e, if_false, true_or, or_true, true_and]
      exact hq
  have loop : ∀ f t, t + f = ns ^ m → ∀ l8 τ S W R, xSim σ τ → moX τ m (2 ^ m - 1) W R (hdF D E) (brF D E) S → (∀ i, i < m → τ.1 42 i = iI (spF D E deck hour i)) → τ.1 48 2 = cbF (bsF ok g t) → (¬ (bsF ok g t).1 = -1 → ∀ i, i < m → τ.1 50 i = nI (dg ns m (bsF ok g t).2 i)) → xC 38 40 [some (.ref 48), some (.ref 38), some (.ref p), some (.ref 10), some (.int (iI w)), some (.int (iI s)), some (.int (nI (ns ^ m))), some (.int (nI t)), l8] [] τ (xqI Q) := by
    intro f
    induction f with
    | zero =>
      intro t ht l8 τ S W R hsm hM h42 h48 h50
      obtain rfl : t = ns ^ m := by omega
      rw [s38_40]
      simp only [s38_42, s38_44, xcx_i, xcx_r, xcx_n, xcx_l, xcx_0, Int32.le_refl, if_true]
      exact hend _ _ τ hsm h48 h50
    | succ f ih =>
      intro t ht l8 τ S W R hsm hM h42 h48 h50
      have e := lt4N (n := ns ^ m) (i := t) (by omega) (by omega)
      rw [s38_40]
      by_cases c0 : cbF (bsF ok g t) ≤ 0
      · have hne : ¬ (bsF ok g t).1 = -1 := fun q => by
          have : cbF (bsF ok g t) = 1000000 := by unfold cbF; rw [if_pos q]
          rw [this] at c0
          exact absurd c0 (by decide)
        have hc : cbF (bsF ok g t) = (bsF ok g t).1 := by unfold cbF; rw [if_neg hne]
        have hst := bsF_stop hgb hne (by rw [← hc]; exact c0) (f + 1)
        rw [ht] at hst
        have hz := hend (some (.int (nI t))) l8 τ hsm (by rw [hst]; exact h48) (by rw [hst]; exact h50)
        simp only [s38_42, s38_44, s38_47, s38_48, s38_51, xcx_i, xcx_r, xcx_n, xcx_l, xcx_0, e, if_false, h48, c0, if_true]
        exact hz
      · simp only [s38_42, s38_44, s38_47, s38_48, s38_51, s38_54, s38_55, s38_56, s38_57, s38_59, xcx_i, xcx_r, xcx_n, xcx_l, xcx_0, e, if_false, h48, c0]
        have after : ∀ τ1, xSim τ τ1 → moX τ1 m (2 ^ m - 1) (wyF (stD D (dg ns m t)) E bow) (rmF (stD D (dg ns m t)) E bow deck hour) (hdF D E) (brF D E) (dg ns m t) → τ1.1 38 7 = 0 → (∀ a, a ≠ 38 → a ≠ 40 → a ≠ 41 → a ≠ 45 → τ1.1 a = τ.1 a) → xC 38 62 [some (.ref 48), some (.ref 38), some (.ref p), some (.ref 10), some (.int (iI w)), some (.int (iI s)), some (.int (nI (ns ^ m))), some (.int (nI t)), l8] [] τ1 (xqI Q) := by
          intro τ1 hs1 hM1 h71 hf1
          simp only [s38_62, s38_63, s38_65, s38_67, xcx_i, xcx_r, xcx_n, xcx_l, xcx_0]
          refine Xsettle hM1 (Or.inl h71) hw hs (fun τ2 u v hg _ _ hB hS => ?_)
          have hs2 := (hsm.tr hs1).tr hg.sim
          have hM2 := hM1.mog hg
          have fr : ∀ a, a ≠ 38 → a ≠ 40 → a ≠ 41 → a ≠ 45 → a ≠ 39 → a ≠ 46 → a ≠ 47 → τ2.1 a = τ.1 a := fun a b1 b2 b3 b4 b5 b6 b7 => (hg.1 a b1 b5 b6 b7).trans (hf1 a b1 b2 b3 b4)
          have k48 : τ2.1 48 2 = cbF (bsF ok g t) := by rw [fr 48 (by decide) (by decide) (by decide) (by decide) (by decide) (by decide) (by decide)]; exact h48
          have k42 : ∀ i, i < m → τ2.1 42 i = iI (spF D E deck hour i) := fun i hi => by rw [fr 42 (by decide) (by decide) (by decide) (by decide) (by decide) (by decide) (by decide)]; exact h42 i hi
          have k50 : ¬ (bsF ok g t).1 = -1 → ∀ i, i < m → τ2.1 50 i = nI (dg ns m (bsF ok g t).2 i) := fun q i hi => by rw [fr 50 (by decide) (by decide) (by decide) (by decide) (by decide) (by decide) (by decide)]; exact h50 q i hi
          have hgl : ∀ Q : Int32 → xM → Prop, xI1 56 [.ref 38] τ2 Q = _ := fun Q => XgreatestLoad hM2 (fun l hl => allB hl) hS.2.2.2.2
          have hmo : ∀ Q : Int32 → xM → Prop, xI1 53 [.ref 38, .ref p] τ2 Q = _ := fun Q => XmostOver hM2 (h.sim hs2) hb hB.1 hS.2.2.2.2
          obtain ⟨eo, eg⟩ := wyR_eq ⟨u, v, hB, rfl, rfl⟩ (hk t)
          have hit := wh2_nat (S := dg ns m t) (sb := E 1) (H := 2 ^ m - 1) (n := m) (ns := ns) (by omega) hns8 (fun i hi => plI_bd hM2.1 hB.1 hi) (fun i hi => (hM2.1.2 i hi).2.2.2.2.1)
          rw [eg] at hgl
          rw [eo] at hmo hit
          have hstep : bsF ok g (t + 1) = if ok t = -1 ∧ ((bsF ok g t).1 = -1 ∨ g t < (bsF ok g t).1) then (g t, t) else bsF ok g t := rfl
          have ele : (cbF (bsF ok g t) ≤ g t) = ¬ g t < cbF (bsF ok g t) := propext Int32.not_lt.symm
          have ihh := ih (t + 1) (by omega)
          have keep : (¬ (ok t = -1 ∧ ((bsF ok g t).1 = -1 ∨ g t < (bsF ok g t).1))) → xC 38 40 [some (.ref 48), some (.ref 38), some (.ref p), some (.ref 10), some (.int (iI w)), some (.int (iI s)), some (.int (nI (ns ^ m))), some (.int (nI (t + 1))), some (.int (g t))] [] τ2 (xqI Q) := by
            intro q
            rw [if_neg q] at hstep
            exact ihh _ τ2 _ _ _ hs2 hM2 k42 (by rw [hstep]; exact k48) (by rw [hstep]; exact k50)
          have cb : ok t = -1 → ((bsF ok g t).1 = -1 ∨ g t < (bsF ok g t).1) → g t < cbF (bsF ok g t) := by
            intro q1 q2
            unfold cbF
            by_cases z : (bsF ok g t).1 = -1
            · rw [if_pos z]
              obtain ⟨k, e1, e2⟩ := (wyR_bd hb hm hns (hk t)).2 q1
              rw [e1]
              exact (nI_ltI (a := k) (b := 1000000) (by omega) (by decide)).mpr (by omega)
            · rw [if_neg z]
              exact q2.elim (fun y => absurd y z) id
          have cb' : g t < cbF (bsF ok g t) → ((bsF ok g t).1 = -1 ∨ g t < (bsF ok g t).1) := by
            intro q
            by_cases z : (bsF ok g t).1 = -1
            · exact Or.inl z
            · unfold cbF at q
              rw [if_neg z] at q
              exact Or.inr q
          by_cases c1 : g t < cbF (bsF ok g t)
          · rcases hit with eok | ⟨k, eok, hk100⟩
            · have em : (iI (ok t) = -1) = True := eq_true (by rw [eok]; rfl)
              rw [if_pos ⟨eok, cb' c1⟩] at hstep
              have hgn : ¬ g t = -1 := by
                obtain ⟨k, e1, e2⟩ := hgb t
                rw [e1, nI_m1 (by omega)]; exact id
              have next : xC 38 40 [some (.ref 48), some (.ref 38), some (.ref p), some (.ref 10), some (.int (iI w)), some (.int (iI s)), some (.int (nI (ns ^ m))), some (.int (nI (t + 1))), some (.int (g t))] [] (xe_cp (xe_si τ2 48 2 (g t)) 45 50 0 0 6) (xqI Q) := by
                refine ihh _ _ _ _ _ (hs2.si rfl).cp50 (hM2.of (fun a ha j => by rw [cp_rd, if_neg (fun z => by omega), si_rd, if_neg (fun z => by omega)])) (fun i hi => ?_) ?_ (fun _ i hi => ?_)
                · rw [cp_rd, if_neg (fun z => by omega), si_rd, if_neg (fun z => by omega)]; exact k42 i hi
                · rw [hstep, cp_rd, if_neg (fun z => by omega), si_rd, if_pos ⟨rfl, rfl⟩]
                  unfold cbF; rw [if_neg hgn]
                · rw [hstep, cp_rd, if_pos ⟨rfl, Nat.zero_le _, by omega⟩, si_rd, if_neg (fun z => by omega), Nat.zero_add, Nat.sub_zero]
                  exact (hM2.2.2.2.2 i hi).2.2.2.2
              rcases hp with rfl | rfl
              · simp only [s38_70, s38_71, s38_74, s38_76, s38_78, s38_79, s38_82, s38_85, s38_86, s38_87, s38_90, s38_91, s38_94, s38_95, s38_97, s38_100, s38_101, s38_104, s38_105, s38_106, s38_109, s38_110, s38_112, s38_115, s38_118, xcx_i, xcx_r, xcx_n, xcx_l, xcx_0, hgl, k48, ele, c1, not_true, if_false, hmo, em, not_true, if_true, xcl_45, xcl_50, xln_45, xln_50, show (0 : Int32).toNatClampNeg = 0 from rfl, show (6 : Int32).toNatClampNeg = 6 from rfl, show ((0 : Int32) ≤ 0) = True from eq_true (by decide), show ((0 : Int32) ≤ 6) = True from eq_true (by decide), show (0 + 6 ≤ 6) = True from eq_true (by decide), and_self, nI_1, true_or, or_true, true_and]
                exact next
              · simp only [s38_70, s38_71, s38_74, s38_76, s38_78, s38_79, s38_82, s38_85, s38_86, s38_87, s38_90, s38_91, s38_94, s38_95, s38_97, s38_100, s38_101, s38_104, s38_105, s38_106, s38_109, s38_110, s38_112, s38_115, s38_118, xcx_i, xcx_r, xcx_n, xcx_l, xcx_0, hgl, k48, ele, c1, not_true, if_false, hmo, em, not_true, if_true, xcl_45, xcl_50, xln_45, xln_50, show (0 : Int32).toNatClampNeg = 0 from rfl, show (6 : Int32).toNatClampNeg = 6 from rfl, show ((0 : Int32) ≤ 0) = True from eq_true (by decide), show ((0 : Int32) ≤ 6) = True from eq_true (by decide), show (0 + 6 ≤ 6) = True from eq_true (by decide), and_self, nI_1, true_or, or_true, true_and]
                exact next
            · have em : (iI (ok t) = -1) = False := by rw [eok]; exact iI_m1 hk100
              have hkp := keep (fun z => by rw [eok] at z; omega)
              rcases hp with rfl | rfl
              · simp only [s38_70, s38_71, s38_74, s38_76, s38_78, s38_79, s38_82, s38_85, s38_86, s38_87, s38_90, s38_91, s38_94, s38_95, s38_97, s38_100, s38_101, s38_104, s38_105, s38_106, s38_109, s38_110, s38_112, s38_115, s38_118, xcx_i, xcx_r, xcx_n, xcx_l, xcx_0, hgl, k48, ele, c1, not_true, if_false, hmo, em, not_false_eq_true, if_true, nI_1, true_or, or_true, true_and]
                exact hkp
              · simp only [s38_70, s38_71, s38_74, s38_76, s38_78, s38_79, s38_82, s38_85, s38_86, s38_87, s38_90, s38_91, s38_94, s38_95, s38_97, s38_100, s38_101, s38_104, s38_105, s38_106, s38_109, s38_110, s38_112, s38_115, s38_118, xcx_i, xcx_r, xcx_n, xcx_l, xcx_0, hgl, k48, ele, c1, not_true, if_false, hmo, em, not_false_eq_true, if_true, nI_1, true_or, or_true, true_and]
                exact hkp
          · have hkp := keep (fun z => c1 (cb z.1 z.2))
            simp only [s38_70, s38_71, s38_74, s38_76, s38_78, s38_79, s38_82, s38_85, s38_86, s38_87, s38_90, s38_91, s38_94, s38_95, s38_97, s38_100, s38_101, s38_104, s38_105, s38_106, s38_109, s38_110, s38_112, s38_115, s38_118, xcx_i, xcx_r, xcx_n, xcx_l, xcx_0, hgl, k48, ele, c1, not_false_eq_true, if_true, nI_1, true_or, or_true, true_and]
            exact hkp
        have hti : ∀ Q : xM → Prop, (∀ τ1, xSim τ τ1 → moX τ1 m (2 ^ m - 1) (wyF (stD D (dg ns m t)) E bow) (rmF (stD D (dg ns m t)) E bow deck hour) (hdF D E) (brF D E) (dg ns m t) → τ1.1 38 7 = 0 → (∀ a, a ≠ 38 → a ≠ 40 → a ≠ 41 → a ≠ 45 → τ1.1 a = τ.1 a) → Q τ1) → xV 39 [.ref 38, .ref p, .ref 10, .int (nI t)] τ Q := fun Q hQ => XtieWay (h.sim hsm) hb hm hm1 hns (by omega) hM h42 hQ
        rcases hp with rfl | rfl
        · exact hti _ after
        · exact hti _ after
  have ways : ∀ f i, i + f = m → ∀ τ, xSim σ τ → moX τ m (2 ^ m - 1) W0 R0 (hdF D E) (brF D E) S0 → (∀ i, i < m → τ.1 42 i = iI (spF D E deck hour i)) → τ.1 48 2 = 1000000 → xC 38 12 [some (.ref 48), some (.ref 38), some (.ref p), some (.ref 10), some (.int (iI w)), some (.int (iI s)), some (.int (nI (ns ^ i))), some (.int (nI i)), none] [] τ (xqI Q) := by
    intro f
    induction f with
    | zero =>
      intro i hi τ hsm hM h42 h48
      obtain rfl : i = m := by omega
      have hn := hM.2.2.1
      rw [s38_12]
      simp only [s38_14, s38_15, s38_18, s38_37, s38_38, xcx_i, xcx_r, xcx_n, xcx_l, xcx_0, hn, Int32.le_refl, if_true]
      exact loop (ns ^ i) 0 (by omega) _ τ _ _ _ hsm hM h42 h48 (fun q => absurd rfl q)
    | succ f ih =>
      intro i hi τ hsm hM h42 h48
      have hn := hM.2.2.1
      have e := lt4N (n := m) (i := i) (by omega) (by omega)
      have hst := (h.sim hsm).1.2.2
      have ep : nI (ns ^ i) * nI ns = nI (ns ^ (i + 1)) := by rw [Nat.pow_succ]; exact pk_mul _ _
      rw [s38_12]
      rcases hp with rfl | rfl
      · simp only [s38_14, s38_15, s38_18, s38_21, s38_23, s38_24, s38_25_4, s38_25_7, s38_28, s38_29, s38_31, s38_34, xcx_i, xcx_r, xcx_n, xcx_l, xcx_0, hn, e, if_false, toldOf_eq (Or.inl rfl), hst, ep, nI_1, true_or, or_true, true_and]
        exact ih (i + 1) (by omega) τ hsm hM h42 h48
      · simp only [s38_14, s38_15, s38_18, s38_21, s38_23, s38_24, s38_25_4, s38_25_7, s38_28, s38_29, s38_31, s38_34, xcx_i, xcx_r, xcx_n, xcx_l, xcx_0, hn, e, if_false, toldOf_eq (Or.inr rfl), hst, ep, nI_1, true_or, or_true, true_and]
        exact ih (i + 1) (by omega) τ hsm hM h42 h48
  rw [e38]
  simp only [s38_0, s38_1, s38_3, s38_6, s38_7, s38_9, s38_10, xcx_i, xcx_r, xcx_n, xcx_l, xcx_0]
  refine ways m 0 (by omega) _ (hs0.si rfl) (hM0.of (fun a ha j => by rw [si_rd, if_neg (fun z => by omega)])) (fun i hi => ?_) rfl
  exact h42 i hi
