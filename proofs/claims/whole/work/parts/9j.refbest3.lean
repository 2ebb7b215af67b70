/-! best: the reference's, whole -/
theorem Mbest_tail {σ : xM} {n m ns nr bow deck N bw : Nat} {D E : Nat → Nat → Nat} {hour w s ew best r : Int32} {Q : Int32 → xM → Prop} (h : sdM σ n ns nr bow deck D E) (hb : sdB n ns nr bow deck D E) (hl : σ.1 84 31 = nI n) (hm : m ≤ n) (hm1 : 1 ≤ m) (hns : 1 ≤ ns) (hbw : bw < 100000) (he : ew = -1 ∨ ∃ j, j < m ∧ ew = nI j) (hr1 : best = -1 → r = -1) (hr2 : ew = -1 → r = best) (hr3 : ∀ j, j < m → ew = nI j → ¬ best = -1 → r = nI (dg ns m bw j)) (hQ : ∀ τ, xSim σ τ → Q r τ) : ∀ k i, i + k = m → ∀ l11 l12 l13 l14 τ, fB m D σ τ → (∀ i', i' < i → τ.1 98 (6 * i' + 1) = nI (D 1 i')) → xC 207 294 [some (.ref 84), some (.int hour), some (.int w), some (.int s), some (.int (nI m)), some (.int ew), some (.int (nI n)), some (.int (nI N)), some (.int best), some (.int (nI bw)), some (.int (nI i)), l11, l12, l13, l14] [] τ (xqI Q) := by
  have hn6 := hb.1
  have hns8 := hb.2.1
  intro k
  induction k with
  | succ k ih =>
    intro i hi l11 l12 l13 l14 τ hf hd
    have e := lt4N (n := m) (i := i) (by omega) (by omega)
    have b0 : 6 * i + 1 < 100000 := by omega
    have c0 : 6 * i + 1 < 36 := by omega
    have b1 : i < 100000 := by omega
    have c1 : i < 6 := by omega
    have e112 := hf.2.2 i (by omega)
    have next := ih (i + 1) (by omega) l11 l12 l13 l14 (xe_si τ 98 (6 * i + 1) (nI (D 1 i))) (hf.s98 (by omega)) (fun i' hi' => by
      rw [si_rd]
      by_cases q : i' = i
      · subst q; rw [if_pos ⟨rfl, rfl⟩]
      · rw [if_neg (fun z => by omega)]; exact hd i' (by omega))
    rw [s207_294]
    simp only [s207_296, s207_298, s207_301, s207_302, s207_305, s207_307, s207_309, s207_310, s207_311, s207_312, s207_313, s207_316, s207_318, s207_319, s207_320, s207_323, xcx_i, xcx_r, xcx_n, xcx_l, xcx_0, e, if_false, ml_6, al_1, xcl_98, xln_98, xcl_112, xln_112, b0, c0, b1, c1, cl_s, pos_s, true_and, e112, nI_1, true_or, or_true]
    exact next
  | zero =>
    intro i hi l11 l12 l13 l14 τ hf hd
    obtain rfl : i = m := by omega
    have hsim : xSim σ (xe_si τ 84 31 (nI n)) := by
      refine ⟨fun k j hk => ?_, hf.1.2⟩
      rw [si_rd]
      by_cases c : k = 84 ∧ j = 31
      · rw [if_pos c, c.1, c.2]; exact hl.symm
      · rw [if_neg c]
        by_cases c2 : k = 98 ∧ ∃ i', i' < i ∧ j = 6 * i' + 1
        · obtain ⟨rfl, i', hi', rfl⟩ := c2
          rw [hd i' hi']
          exact ((h.2.2.1 i' (by omega)).2.1).symm
        · refine hf.1.1 k j (fun z => ?_) c2 (fun z => by subst z; cases hk)
          obtain ⟨z1, z2⟩ := z
          subst z1
          rcases z2 with z | z | z
          · subst z; cases hk
          · subst z; cases hk
          · exact c ⟨rfl, z⟩
    have hq := hQ _ hsim
    have e17 : (xe_si τ 84 31 (nI n)).1 84 17 = nI ns := by
      rw [si_rd, if_neg (fun z => by omega)]
      exact (hf.1.1 84 17 (fun z => by omega) (fun z => by omega) (by decide)).trans h.1
    rw [s207_294]
    by_cases cb : best = -1
    · have hr := hr1 cb
      subst hr
      have cb' : (best = -1) = True := eq_true cb
      simp only [s207_296, s207_298, s207_301, s207_302, s207_305, s207_307, s207_309, s207_310, s207_311, s207_312, s207_313, s207_316, s207_318, s207_319, s207_320, s207_323, s207_326, s207_327, s207_329, s207_332, s207_334, s207_335, s207_338, s207_340, s207_341, s207_344, s207_346, xcx_i, xcx_r, xcx_n, xcx_l, xcx_0, Int32.le_refl, if_true, cb']
      rw [cb]
      exact hq
    · rcases he with q | ⟨j, hj, q⟩
      · have hr := hr2 q
        subst hr
        simp only [s207_296, s207_298, s207_301, s207_302, s207_305, s207_307, s207_309, s207_310, s207_311, s207_312, s207_313, s207_316, s207_318, s207_319, s207_320, s207_323, s207_326, s207_327, s207_329, s207_332, s207_334, s207_335, s207_338, s207_340, s207_341, s207_344, s207_346, xcx_i, xcx_r, xcx_n, xcx_l, xcx_0, Int32.le_refl, if_true, cb, if_false, q, not_true]
        exact hq
      · have hr := hr3 j hj q cb
        subst hr
        subst q
        have ej : ¬ nI j = -1 := by rw [nI_m1 (by omega)]; exact id
        have e0 : ¬ nI ns = 0 := fun q => by have := (nI_eq (b := 0) (by omega) (by decide)).mp q; omega
        have loop : ∀ f i', i' = j + f → i' < i → ∀ x, x = bw / ns ^ (i - 1 - i') → xC 207 353 [some (.ref 84), some (.int hour), some (.int w), some (.int s), some (.int (nI i)), some (.int (nI j)), some (.int (nI n)), some (.int (nI N)), some (.int best), some (.int (nI x)), some (.int (nI i')), l11, l12, l13, l14] [] (xe_si τ 84 31 (nI n)) (xqI Q) := by
          intro f
          induction f with
          | zero =>
            intro i' hi' hlt x hx
            obtain rfl : i' = j := by omega
            have hle : bw / ns ^ (i - 1 - i') ≤ bw := Nat.div_le_self _ _
            have erem : nI x - nI x / nI ns * nI ns = nI (dg ns i bw i') := by
              have : dg ns i bw i' = x % ns := by rw [hx]; rfl
              rw [this]
              exact pk_rem (by omega) (by omega) (by omega)
            rw [s207_353]
            simp only [s207_355, s207_357, s207_360, s207_362, s207_363, s207_366, s207_367, s207_369, s207_372, s207_375, s207_377, s207_378, s207_381, s207_382, xcx_i, xcx_r, xcx_n, xcx_l, xcx_0, Int32.le_refl, if_true, e17, e0, not_false_eq_true, true_and, erem]
            exact hq
          | succ f ihf =>
            intro i' hi' hlt x hx
            have hle : bw / ns ^ (i - 1 - i') ≤ bw := Nat.div_le_self _ _
            have e := lt4N (n := i') (i := j) (by omega) (by omega)
            have ediv : nI x / nI ns = nI (bw / ns ^ (i - 1 - (i' - 1))) := by
              rw [pk_div (by omega) (by omega)]
              · rw [hx, Nat.div_div_eq_div_mul, ← Nat.pow_succ, show (i - 1 - i').succ = i - 1 - (i' - 1) by omega]
              · omega
            have ep : nI i' + -1 = nI (i' - 1) := by
              rw [nI_iI, nI_iI, show (-1 : Int32) = iI (-1) from rfl, iI_add]; congr 1; omega
            have next := ihf (i' - 1) (by omega) (by omega) _ rfl
            rw [s207_353]
            simp only [s207_355, s207_357, s207_360, s207_362, s207_363, s207_366, s207_367, s207_369, s207_372, xcx_i, xcx_r, xcx_n, xcx_l, xcx_0, e, if_false, e17, e0, not_false_eq_true, true_and, ediv, ep]
            exact next
        have em1 : nI i - 1 = nI (i - 1) := pk_sub (b := 1) hm1
        have start := loop (i - 1 - j) (i - 1) (by omega) (by omega) bw (by rw [Nat.sub_self, Nat.pow_zero, Nat.div_one])
        simp only [s207_296, s207_298, s207_301, s207_302, s207_305, s207_307, s207_309, s207_310, s207_311, s207_312, s207_313, s207_316, s207_318, s207_319, s207_320, s207_323, s207_326, s207_327, s207_329, s207_332, s207_334, s207_335, s207_338, s207_340, s207_341, s207_344, s207_346, s207_347, s207_349, s207_350, s207_351, xcx_i, xcx_r, xcx_n, xcx_l, xcx_0, Int32.le_refl, if_true, cb, if_false, ej, not_false_eq_true, em1]
        exact start
theorem Mbest_body {σ : xM} {n m ns nr bow deck hour : Nat} {D E : Nat → Nat → Nat} {w s : Int} {ew r : Int32} {ok : Nat → Int} {g : Nat → Int32} {Q : Int32 → xM → Prop} (h : sdM σ n ns nr bow deck D E) (hb : sdB n ns nr bow deck D E) (hl : σ.1 84 31 = nI n) (hm : m ≤ n) (hm1 : 1 ≤ m) (hm3 : m ≤ 3) (hns : 1 ≤ ns) (hh : hour ≤ 99) (hw : 0 ≤ w ∧ w ≤ 999) (hs : -99 ≤ s ∧ s ≤ 99) (hk : ∀ t, wyR D E bow deck hour m ns w s t (ok t) (g t)) (he : ew = -1 ∨ ∃ j, j < m ∧ ew = nI j) (hr1 : (bsF ok g (ns ^ m)).1 = -1 → r = -1) (hr2 : ew = -1 → r = (bsF ok g (ns ^ m)).1) (hr3 : ∀ j, j < m → ew = nI j → ¬ (bsF ok g (ns ^ m)).1 = -1 → r = nI (dg ns m (bsF ok g (ns ^ m)).2 j)) (hQ : ∀ τ, xSim σ τ → Q r τ) : xC 207 50 [some (.ref 84), some (.int (nI hour)), some (.int (iI w)), some (.int (iI s)), some (.int (nI m)), some (.int ew), none, none, none, none, none, none, none, none, none] [] σ (xqI Q) := by
  have hn6 := hb.1
  have hns8 := hb.2.1
  have hN : ns ^ m ≤ 512 := by
    have h1 : ns ^ m ≤ 8 ^ m := Nat.pow_le_pow_left hns8 m
    have h2 : 8 ^ m ≤ 8 ^ 3 := Nat.pow_le_pow_right (by decide) hm3
    exact Nat.le_trans h1 h2
  have ways : ∀ f i, i + f = m → ∀ τ, fB m D σ τ → xC 207 98 [some (.ref 84), some (.int (nI hour)), some (.int (iI w)), some (.int (iI s)), some (.int (nI m)), some (.int ew), some (.int (nI n)), some (.int (nI (ns ^ i))), some (.int (nI i)), none, none, none, none, none, none] [] τ (xqI Q) := by
    intro f
    induction f with
    | zero =>
      intro i hi τ hf
      obtain rfl : i = m := by omega
      rw [s207_98]
      simp only [s207_100, s207_102, s207_120, s207_121, s207_123, s207_124, s207_126, s207_127, xcx_i, xcx_r, xcx_n, xcx_l, xcx_0, Int32.le_refl, if_true]
      refine MbestWays h hb hm hm1 hns hh hw hs hN hk (fun l11 l12 l13 l14 τ' hf' => ?_) (ns ^ i) 0 (by omega) none none none none τ hf
      simp only [s207_291, s207_292, xcx_i, xcx_r, xcx_n, xcx_l, xcx_0]
      exact Mbest_tail h hb hl hm hm1 hns (by have := bsF_lt (ok := ok) (g := g) (ns ^ i); omega) he hr1 hr2 hr3 hQ i 0 (by omega) _ _ _ _ τ' hf' (fun i' q => absurd q (Nat.not_lt_zero i'))
    | succ f ih =>
      intro i hi τ hf
      have e := lt4N (n := m) (i := i) (by omega) (by omega)
      have e17 : τ.1 84 17 = nI ns := (hf.1.1 84 17 (fun z => by omega) (fun z => by omega) (by decide)).trans h.1
      have ep : nI (ns ^ i) * nI ns = nI (ns ^ (i + 1)) := by rw [Nat.pow_succ]; exact pk_mul _ _
      rw [s207_98]
      simp only [s207_100, s207_102, s207_105, s207_107, s207_108, s207_111, s207_112, s207_114, s207_117, xcx_i, xcx_r, xcx_n, xcx_l, xcx_0, e, if_false, e17, ep, nI_1]
      exact ih (i + 1) (by omega) τ hf
  have save : ∀ f i, i + f = m → ∀ τ, (∀ k j, k ≠ 112 → τ.1 k j = σ.1 k j) → τ.2.2 = σ.2.2 → (∀ i', i' < i → τ.1 112 i' = nI (D 1 i')) → xC 207 59 [some (.ref 84), some (.int (nI hour)), some (.int (iI w)), some (.int (iI s)), some (.int (nI m)), some (.int ew), some (.int (nI n)), some (.int (nI i)), none, none, none, none, none, none, none] [] τ (xqI Q) := by
    intro f
    induction f with
    | zero =>
      intro i hi τ hf hf2 hd
      obtain rfl : i = m := by omega
      rw [s207_59]
      simp only [s207_61, s207_63, s207_86, s207_87, s207_89, s207_92, s207_93, s207_95, s207_96, xcx_i, xcx_r, xcx_n, xcx_l, xcx_0, Int32.le_refl, if_true]
      refine ways i 0 (by omega) _ ⟨⟨fun k j q1 q2 q3 => ?_, hf2⟩, rfl, fun i' hi' => ?_⟩
      · rw [si_rd, if_neg (fun z => q1 ⟨z.1, Or.inr (Or.inr z.2)⟩)]; exact hf k j q3
      · rw [si_ne (by decide)]; exact hd i' hi'
    | succ f ih =>
      intro i hi τ hf hf2 hd
      have e := lt4N (n := m) (i := i) (by omega) (by omega)
      have i6 : i < 6 := by omega
      have b1 : i < 100000 := by omega
      have e1 : τ.1 98 (6 * i + 1) = nI (D 1 i) := (hf 98 _ (by decide)).trans (h.2.2.1 i (by omega)).2.1
      have next := ih (i + 1) (by omega) (xe_si τ 112 i (nI (D 1 i))) (fun k j q => by rw [si_ne q]; exact hf k j q) hf2 (fun i' hi' => by
        rw [si_rd]
        by_cases q : i' = i
        · subst q; rw [if_pos ⟨rfl, rfl⟩]
        · rw [if_neg (fun z => q z.2)]; exact hd i' (by omega))
      rw [s207_59]
      simp only [s207_61, s207_63, s207_66, s207_67, s207_70, s207_72, s207_73, s207_75, s207_76, s207_79, s207_80, s207_83, xcx_i, xcx_r, xcx_n, xcx_l, xcx_0, e, if_false, Mf1 i6, e1, xcl_112, xln_112, b1, i6, cl_s, pos_s, true_and, nI_1, true_or, or_true]
      exact next
  simp only [s207_50, s207_51, s207_54, s207_56, s207_57, xcx_i, xcx_r, xcx_n, xcx_l, xcx_0, hl]
  exact save m 0 (by omega) σ (fun _ _ _ => rfl) rfl (fun i' q => absurd q (Nat.not_lt_zero i'))
