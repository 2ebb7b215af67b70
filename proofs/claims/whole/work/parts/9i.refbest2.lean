/-! best: the reference's ways -/
theorem bsF_lt {ok : Nat → Int} {g : Nat → Int32} : ∀ t, (bsF ok g t).2 ≤ t := by
  intro t
  induction t with
  | zero => exact Nat.le_refl 0
  | succ t ih =>
    by_cases c : ok t = -1 ∧ ((bsF ok g t).1 = -1 ∨ g t < (bsF ok g t).1)
    · rw [show bsF ok g (t + 1) = (g t, t) from if_pos c]; exact Nat.le_succ t
    · rw [show bsF ok g (t + 1) = bsF ok g t from if_neg c]; omega
theorem MbestWays {σ : xM} {n m ns nr bow deck hour N : Nat} {D E : Nat → Nat → Nat} {w s : Int} {ew l6 : Int32} {ok : Nat → Int} {g : Nat → Int32} {Q : Int32 → xM → Prop} (h : sdM σ n ns nr bow deck D E) (hb : sdB n ns nr bow deck D E) (hm : m ≤ n) (hm1 : 1 ≤ m) (hns : 1 ≤ ns) (hh : hour ≤ 99) (hw : 0 ≤ w ∧ w ≤ 999) (hs : -99 ≤ s ∧ s ≤ 99) (hN : N ≤ 512) (hk : ∀ t, wyR D E bow deck hour m ns w s t (ok t) (g t)) (hQ : ∀ l11 l12 l13 l14 τ, fB m D σ τ → xC 207 291 [some (.ref 84), some (.int (nI hour)), some (.int (iI w)), some (.int (iI s)), some (.int (nI m)), some (.int ew), some (.int l6), some (.int (nI N)), some (.int (bsF ok g N).1), some (.int (nI (bsF ok g N).2)), some (.int (nI N)), l11, l12, l13, l14] [] τ (xqI Q)) : ∀ k t, t + k = N → ∀ l11 l12 l13 l14 τ, fB m D σ τ → xC 207 129 [some (.ref 84), some (.int (nI hour)), some (.int (iI w)), some (.int (iI s)), some (.int (nI m)), some (.int ew), some (.int l6), some (.int (nI N)), some (.int (bsF ok g t).1), some (.int (nI (bsF ok g t).2)), some (.int (nI t)), l11, l12, l13, l14] [] τ (xqI Q) := by
  have hn6 := hb.1
  have hns8 := hb.2.1
  intro k
  induction k with
  | zero =>
    intro t ht l11 l12 l13 l14 τ hf
    obtain rfl : t = N := by omega
    rw [s207_129]
    simp only [s207_131, s207_133, xcx_i, xcx_r, xcx_n, xcx_l, xcx_0, Int32.le_refl, if_true]
    exact hQ _ _ _ _ τ hf
  | succ k ih =>
    intro t ht l11 l12 l13 l14 τ hf
    have e := lt4N (n := N) (i := t) (by omega) (by omega)
    have em1 : nI m - 1 = iI ((m : Int) - 1) := by rw [nI_iI, show (1 : Int32) = iI 1 from rfl, iI_sub]
    have hpw : t / ns ^ (m - m) = t := by rw [Nat.sub_self, Nat.pow_zero, Nat.div_one]
    have hbt := stD_b hb hm (S := dg ns m t) (fun i _ => Nat.mod_lt _ hns)
    have hld := hbt.ld hour (Nat.le_refl m)
    have hstep : bsF ok g (t + 1) = if ok t = -1 ∧ ((bsF ok g t).1 = -1 ∨ g t < (bsF ok g t).1) then (g t, t) else bsF ok g t := rfl
    have ihh := ih (t + 1) (by omega)
    have after : ∀ (a11 a12 : Int32) τ1, fB m D σ τ1 → (∀ i, i < m → τ1.1 98 (6 * i + 1) = nI (dg ns m t i)) → xC 207 185 [some (.ref 84), some (.int (nI hour)), some (.int (iI w)), some (.int (iI s)), some (.int (nI m)), some (.int ew), some (.int l6), some (.int (nI N)), some (.int (bsF ok g t).1), some (.int (nI (bsF ok g t).2)), some (.int (nI t)), some (.int a11), some (.int a12), l13, l14] [] τ1 (xqI Q) := by
      intro a11 a12 τ1 hf1 hd
      have hX := hf1.1.sd h hm hd
      have h31 := hf1.2.1
      have keep : ∀ l11 l12 l13 l14 τ2, fB m D σ τ2 → (¬ (ok t = -1 ∧ ((bsF ok g t).1 = -1 ∨ g t < (bsF ok g t).1))) → xC 207 129 [some (.ref 84), some (.int (nI hour)), some (.int (iI w)), some (.int (iI s)), some (.int (nI m)), some (.int ew), some (.int l6), some (.int (nI N)), some (.int (bsF ok g t).1), some (.int (nI (bsF ok g t).2)), some (.int (nI (t + 1))), l11, l12, l13, l14] [] τ2 (xqI Q) := by
        intro l11 l12 l13 l14 τ2 hf2 q
        rw [if_neg q] at hstep
        rw [hstep] at ihh
        exact ihh _ _ _ _ τ2 hf2
      simp only [s207_185, s207_186, s207_187, s207_188, s207_189, s207_190, s207_193, xcx_i, xcx_r, xcx_n, xcx_l, xcx_0, Mall_eq h31 (show m ≤ 6 by omega)]
      refine MgoesNext hX hbt hh (Nat.le_refl m) h31 (all64 (by omega)) hw hs (fun τ2 u v hr hu hv hB => ?_)
      have hf2 := hf1.mrs hr
      obtain ⟨eo, eg⟩ := wyR_eq ⟨u, v, hB, rfl, rfl⟩ (hk t)
      have hit : ok t = -1 ∨ ∃ k : Nat, ok t = (k : Nat) ∧ k < 100 := by
        rw [← eo]
        exact wh2_nat (P := plI (wyF (stD D (dg ns m t)) E bow) (rmF (stD D (dg ns m t)) E bow deck hour) (hdF D E) u v) (B := brF D E) (by omega) hns8 (fun i hi => plI_bd hld hB.1 hi) (fun i hi => (hld.2 i hi).2.2.2.2.1)
      have eo' : (wh2 (plI (wyF (stD D (dg ns m t)) E bow) (rmF (stD D (dg ns m t)) E bow deck hour) (hdF (stD D (dg ns m t)) E) u v) (brF (stD D (dg ns m t)) E) (stD D (dg ns m t) 1) (E 1) (2 ^ m - 1) m ns).2 = ok t := eo
      rw [eo']
      rcases hit with eok | ⟨kk, eok, hk100⟩
      · have em : (iI (ok t) = -1) = True := eq_true (by rw [eok]; rfl)
        simp only [s207_196, s207_197, s207_200, s207_203, s207_204, s207_206, s207_207, xcx_i, xcx_r, xcx_n, xcx_l, xcx_0, em, if_true]
        refine Mgrl (hX.sim hr.sim) hbt hh hB.1 hu hv (fun l13 l14 => ?_) m 0 (by omega) _
        have eg' : mxL (fun i => ldI (plI (wyF (stD D (dg ns m t)) E bow) (rmF (stD D (dg ns m t)) E bow deck hour) (hdF (stD D (dg ns m t)) E) u v i) (brF (stD D (dg ns m t)) E i)) m = g t := eg
        rw [eg']
        by_cases c1 : (bsF ok g t).1 = -1
        · rw [if_pos ⟨eok, Or.inl c1⟩] at hstep
          rw [hstep] at ihh
          have c1' : ((bsF ok g t).1 = -1) = True := eq_true c1
          simp only [s207_261, s207_263, s207_264, s207_267, s207_269, s207_271, s207_274, s207_277, s207_279, s207_281, s207_283, s207_285, s207_288, xcx_i, xcx_r, xcx_n, xcx_l, xcx_0, c1', not_true, if_true, if_false, nI_1]
          exact ihh _ _ _ _ τ2 hf2
        · by_cases c2 : g t < (bsF ok g t).1
          · rw [if_pos ⟨eok, Or.inr c2⟩] at hstep
            rw [hstep] at ihh
            simp only [s207_261, s207_263, s207_264, s207_267, s207_269, s207_271, s207_274, s207_277, s207_279, s207_281, s207_283, s207_285, s207_288, xcx_i, xcx_r, xcx_n, xcx_l, xcx_0, c1, c2, if_true, if_false, nI_1]
            exact ihh _ _ _ _ τ2 hf2
          · have hkp := fun l11 l12 l13 l14 => keep l11 l12 l13 l14 τ2 hf2 (fun z => z.2.elim c1 c2)
            simp only [s207_261, s207_263, s207_264, s207_267, s207_269, s207_271, s207_274, s207_277, s207_279, s207_281, s207_283, s207_285, s207_288, xcx_i, xcx_r, xcx_n, xcx_l, xcx_0, c1, c2, if_false, nI_1]
            exact hkp _ _ _ _
      · have em : (iI (ok t) = -1) = False := by rw [eok]; exact iI_m1 hk100
        have hkp := fun l11 l12 l13 l14 => keep l11 l12 l13 l14 τ2 hf2 (fun z => by rw [eok] at z; omega)
        simp only [s207_196, s207_197, s207_200, s207_285, s207_288, xcx_i, xcx_r, xcx_n, xcx_l, xcx_0, em, if_false, nI_1]
        exact hkp _ _ _ _
    have start := Mdig h hb hm hns (by omega : t < 100000) after m (Nat.le_refl m) τ hf (fun i q1 q2 => absurd q2 (by omega))
    rw [hpw] at start
    rw [s207_129]
    simp only [s207_131, s207_133, s207_136, s207_138, s207_140, s207_142, s207_143, s207_144, xcx_i, xcx_r, xcx_n, xcx_l, xcx_0, e, if_false, em1]
    exact start
