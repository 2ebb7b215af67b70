/-! plan, the reference's: all orders -/
theorem Mafter {σ : xM} {N a : Nat} {w1 : Int32} {le dr co st : Nat → Nat} {L0 : Nat → Option (Nat × Nat)} {Q : Option Value → xM → Prop} (hV : vM σ N le dr co st) (hLM : lM σ N L0) (c : Option (Nat × (Nat → Option (Nat × Nat)))) (o : Option ((Nat → Option (Nat × Nat)) × Nat)) (hc : plOk c) (ho : ∀ K s', o = some (K, s') → s' < 1000000 ∧ (∀ v, v < N → (K v).isSome = true) ∧ ∀ v, v < N → (L0 v).isSome = true → K v = L0 v) {τ0 : xM} {L' : Nat → Option (Nat × Nat)} {l7 l8 : Option Value} (hT0 : TM σ τ0 N L0 a c L') (hL' : ∀ K s', o = some (K, s') → L' = K) (hQ : ∀ τ l6 l7 l8, TM σ τ N L0 a (plT o c) L0 → xC 236 354 [some (.ref 84), some (.int w1), some (.int (nI (cwF L0 N))), some (.int (nI (opF L0 N))), some (.int (bsI (plT o c))), some (.int 1), l6, l7, l8] [] τ Q) : xC 236 241 [some (.ref 84), some (.int w1), some (.int (nI (cwF L0 N))), some (.int (nI (opF L0 N))), some (.int (bsI c)), some (.int 1), some (.int (rsI o)), l7, l8] [] τ0 Q := by
  have hN5 := hV.1
  have hcw := cwF_le L0 N
  have hop := opF_lt L0 N
  have h32 : 2 ^ N ≤ 2 ^ 5 := Nat.pow_le_pow_right (by decide) hN5
  have lift : ∀ (c' : Option (Nat × (Nat → Option (Nat × Nat)))) (x4 x6 : Int32), ∀ m v, v + m = N → ∀ τ L l8, TM σ τ N L0 a c' L → (∀ u, u < v → L0 u = none → L u = none) → (∀ τ l7, TM σ τ N L0 a c' L0 → xC 236 354 [some (.ref 84), some (.int w1), some (.int (nI (cwF L0 N))), some (.int (nI (opF L0 N))), some (.int x4), some (.int 1), some (.int x6), l7, l8] [] τ Q) → xC 236 321 [some (.ref 84), some (.int w1), some (.int (nI (cwF L0 N))), some (.int (nI (opF L0 N))), some (.int x4), some (.int 1), some (.int x6), some (.int (nI v)), l8] [] τ Q := by
    intro c' x4 x6 m
    induction m with
    | zero =>
      intro v hv τ L l8 hT hd hQ
      obtain rfl : v = N := by omega
      have h43 := (hV.R hT.1).2.1
      rw [s236_321]
      simp only [s236_323, s236_324, s236_327, xcx_i, xcx_r, xcx_n, xcx_l, xcx_0, h43, Int32.le_refl, if_true]
      refine hQ τ _ (hT.code (fun u hu => ⟨fun q => ?_, fun p h q => ?_⟩))
      · exact (hT.2.1 u hu).1 (hd u hu q)
      · obtain ⟨z1, z2⟩ := hT.2.2.1 u hu (by rw [q]; rfl)
        rw [z1, z2]; exact (hLM u hu).2 p h q
    | succ m ih =>
      intro v hv τ L l8 hT hd hQ
      have h43 := (hV.R hT.1).2.1
      have e := lt4N (n := N) (i := v) (by omega) (by omega)
      have eb := openBit (L0 := L0) hN5 (show v < N by omega)
      have b0 : v < 100000 := by omega
      have v5 : v < 5 := by omega
      rw [s236_321]
      cases hL : L0 v with
      | none =>
        simp only [s236_323, s236_324, s236_327, s236_330, s236_331, s236_333, s236_334, s236_335, s236_336, s236_337, s236_340, s236_341, s236_344, s236_346, s236_347, s236_348, s236_351, xcx_i, xcx_r, xcx_n, xcx_l, xcx_0, h43, e, if_false, eb, hL, not_true, if_true, xcl_109, xln_109, v5, b0, cl_s, pos_s, true_and, nI_1]
        refine ih (v + 1) (by omega) _ (upL L v none) l8 (hT.lift hL) (fun u hu hn => ?_) hQ
        unfold upL
        by_cases q : u = v
        · rw [if_pos q]
        · rw [if_neg q]; exact hd u (by omega) hn
      | some x =>
        simp only [s236_323, s236_324, s236_327, s236_330, s236_331, s236_333, s236_334, s236_335, s236_336, s236_337, s236_340, s236_341, s236_344, s236_346, s236_347, s236_348, s236_351, xcx_i, xcx_r, xcx_n, xcx_l, xcx_0, h43, e, if_false, eb, hL, reduceCtorEq, not_false_eq_true, if_true, nI_1]
        refine ih (v + 1) (by omega) τ L l8 hT (fun u hu hn => ?_) hQ
        by_cases q : u = v
        · subst q; rw [hL] at hn; cases hn
        · exact hd u (by omega) hn
  cases o with
  | none =>
    simp only [s236_241, s236_243, s236_244, s236_247, s236_249, s236_250, s236_253, s236_255, s236_257, s236_260, s236_262, s236_264, s236_265, s236_269, s236_270, s236_273, s236_276, s236_277, s236_279, s236_280, s236_281, s236_282, s236_283, s236_286, s236_287, s236_290, s236_292, s236_295, s236_296, s236_299, s236_301, s236_302, s236_303, s236_304, s236_307, s236_309, s236_310, s236_311, s236_312, s236_315, s236_318, s236_319, xcx_i, xcx_r, xcx_n, xcx_l, xcx_0, rsI, if_true, true_or, or_true]
    exact lift c _ _ N 0 (by omega) τ0 L' _ hT0 (fun u hu => absurd hu (Nat.not_lt_zero u)) (fun τ l7 hT => hQ τ _ _ _ hT)
  | some y =>
    obtain ⟨K, s'⟩ := y
    obtain ⟨hs', hall, hkeep⟩ := ho K s' rfl
    obtain rfl := hL' K s' rfl
    have es := nI_m1 (show s' < 2147483648 by omega)
    have cp : plT (some (L', s')) c = some (s', L') → ∀ (x4 : Int32) l7, xC 236 260 [some (.ref 84), some (.int w1), some (.int (nI (cwF L0 N))), some (.int (nI (opF L0 N))), some (.int x4), some (.int 1), some (.int (nI s')), l7, l8] [] τ0 Q := by
      intro hpl x4 l7
      rw [hpl] at hQ
      have cpl : ∀ m v, v + m = N → ∀ τ, xSimW chR σ τ → (∀ k, k ≠ 120 → τ.1 k = τ0.1 k) → (∀ u, u < N → (L0 u).isSome = true → τ.1 120 u = nI (cdL L0 u)) → (∀ u, u < v → L0 u = none → τ.1 120 u = nI (cdL L' u)) → xC 236 267 [some (.ref 84), some (.int w1), some (.int (nI (cwF L0 N))), some (.int (nI (opF L0 N))), some (.int (nI s')), some (.int 1), some (.int (nI s')), some (.int (nI v)), l8] [] τ Q := by
        intro m
        induction m with
        | zero =>
          intro v hv τ hs hk h6 hd
          obtain rfl : v = N := by omega
          have h43 := (hV.R hs).2.1
          rw [s236_267]
          simp only [s236_269, s236_270, s236_273, s236_318, s236_319, xcx_i, xcx_r, xcx_n, xcx_l, xcx_0, h43, Int32.le_refl, if_true]
          refine lift (some (s', L')) _ _ v 0 (by omega) τ L' _ ⟨hs, ?_, ?_, ?_, h6, fun b K e u hu => ?_⟩ (fun u hu => absurd hu (Nat.not_lt_zero u)) (fun τ l7 hT => hQ τ _ _ _ hT)
          · unfold lM; rw [hk 108 (by decide), hk 109 (by decide)]; exact hT0.2.1
          · rw [hk 108 (by decide), hk 109 (by decide)]; exact hT0.2.2.1
          · exact fun i hi => by rw [hk 119 (by decide)]; exact hT0.2.2.2.1 i hi
          · cases e
            cases hL : L0 u with
            | none => exact hd u hu hL
            | some x =>
              rw [h6 u hu (by rw [hL]; rfl)]
              unfold cdL
              rw [hkeep u hu (by rw [hL]; rfl)]
        | succ m ih =>
          intro v hv τ hs hk h6 hd
          have h43 := (hV.R hs).2.1
          have e := lt4N (n := N) (i := v) (by omega) (by omega)
          have eb := openBit (L0 := L0) hN5 (show v < N by omega)
          have b0 : v < 100000 := by omega
          have v5 : v < 5 := by omega
          rw [s236_267]
          cases hL : L0 v with
          | none =>
            obtain ⟨x, hx⟩ := Option.isSome_iff_exists.mp (hall v (by omega))
            obtain ⟨p, h⟩ := x
            obtain ⟨l1, l2, l3, l4⟩ := (hT0.2.1 v (by omega)).2 p h hx
            have r1 : τ.1 108 v = nI p := by rw [hk 108 (by decide)]; exact l1
            have r2 : τ.1 109 v = nI h := by rw [hk 109 (by decide)]; exact l2
            have hcd : (1000 : Int32) * nI h + nI p = nI (cdL L' v) := by
              rw [ml_1000, nI_add]
              congr 1
              unfold cdL; rw [hx]
            simp only [s236_269, s236_270, s236_273, s236_276, s236_277, s236_279, s236_280, s236_281, s236_282, s236_283, s236_286, s236_287, s236_290, s236_292, s236_295, s236_296, s236_299, s236_301, s236_302, s236_303, s236_304, s236_307, s236_309, s236_310, s236_311, s236_312, s236_315, xcx_i, xcx_r, xcx_n, xcx_l, xcx_0, h43, e, if_false, eb, hL, not_true, if_true, xcl_108, xcl_109, xcl_120, xln_108, xln_109, xln_120, v5, b0, cl_s, pos_s, true_and, r1, r2, hcd, nI_1]
            refine ih (v + 1) (by omega) _ (hs.si rfl) (fun k hk1 => by rw [si_ne hk1]; exact hk k hk1) (fun u hu hsm => ?_) (fun u hu hn => ?_)
            · have : u ≠ v := fun q => by rw [q, hL] at hsm; cases hsm
              rw [si_rd, if_neg (fun z => this z.2)]; exact h6 u hu hsm
            · rw [si_rd]
              by_cases q : u = v
              · rw [if_pos ⟨rfl, q⟩, q]
              · rw [if_neg (fun z => q z.2)]; exact hd u (by omega) hn
          | some x =>
            simp only [s236_269, s236_270, s236_273, s236_276, s236_277, s236_279, s236_280, s236_281, s236_282, s236_283, s236_286, s236_287, s236_290, s236_292, s236_295, s236_296, s236_299, s236_301, s236_302, s236_303, s236_304, s236_307, s236_309, s236_310, s236_311, s236_312, s236_315, xcx_i, xcx_r, xcx_n, xcx_l, xcx_0, h43, e, if_false, eb, hL, reduceCtorEq, not_false_eq_true, if_true, nI_1]
            refine ih (v + 1) (by omega) τ hs hk h6 (fun u hu hn => ?_)
            by_cases q : u = v
            · subst q; rw [hL] at hn; cases hn
            · exact hd u (by omega) hn
      simp only [s236_260, s236_262, s236_264, s236_265, xcx_i, xcx_r, xcx_n, xcx_l, xcx_0]
      exact cpl N 0 (by omega) τ0 hT0.1 (fun k _ => rfl) hT0.2.2.2.2.1 (fun u hu => absurd hu (Nat.not_lt_zero u))
    cases c with
    | none =>
      simp only [s236_241, s236_243, s236_244, s236_247, s236_249, s236_250, s236_253, s236_255, s236_257, xcx_i, xcx_r, xcx_n, xcx_l, xcx_0, rsI, bsI, es, if_false, if_true]
      exact cp rfl _ _
    | some z =>
      obtain ⟨b, K2⟩ := z
      have hb := hc b K2 rfl
      have eb := nI_m1 (show b < 2147483648 by omega)
      have e2 : (nI b ≤ nI s') = ¬ (s' < b) := by rw [nI_leL (by omega) (by omega)]; exact propext ⟨fun q => by omega, fun q => by omega⟩
      by_cases q : s' < b
      · simp only [s236_241, s236_243, s236_244, s236_247, s236_249, s236_250, s236_253, s236_255, s236_257, xcx_i, xcx_r, xcx_n, xcx_l, xcx_0, rsI, bsI, es, eb, e2, q, not_true, if_false, if_true]
        exact cp (if_pos q) _ _
      · have hpl : plT (some (L', s')) (some (b, K2)) = some (b, K2) := if_neg q
        rw [hpl] at hQ
        simp only [s236_241, s236_243, s236_244, s236_247, s236_249, s236_250, s236_253, s236_255, s236_257, s236_318, s236_319, xcx_i, xcx_r, xcx_n, xcx_l, xcx_0, rsI, bsI, es, eb, e2, q, not_false_eq_true, if_false, if_true]
        exact lift _ _ _ N 0 (by omega) τ0 L' _ hT0 (fun u hu => absurd hu (Nat.not_lt_zero u)) (fun τ l7 hT => hQ τ _ _ _ hT)
theorem Mplan_loop {σ : xM} {N pp nd : Nat} {w1 : Int32} {le dr co st dp wa : Nat → Nat} {L0 : Nat → Option (Nat × Nat)} {Q : Int32 → xM → Prop} (hB : pB σ pp nd dp wa) (hV : vM σ N le dr co st) (hS : shM σ N le dp) (hLM : lM σ N L0) (cf : Option (Nat × (Nat → Option (Nat × Nat)))) (hQ : ∀ τ a l5 l6 l7 l8, TM σ τ N L0 a cf L0 → xC 236 364 [some (.ref 84), some (.int w1), some (.int (nI (cwF L0 N))), some (.int (nI (opF L0 N))), some (.int (bsI cf)), l5, l6, l7, l8] [] τ (xqI Q)) : ∀ (t : List Nat) (a : Nat) (c : Option (Nat × (Nat → Option (Nat × Nat)))) (τ : xM) (l6 l7 l8 : Option Value), chT (cwF L0 N) (a :: t) = true → onto (cwF L0 N) (a :: t) = true → plOk c → TM σ τ N L0 a c L0 → plF le dr co st dp wa N (cwF L0 N) (wvF L0 N) L0 (a :: t) c = cf → xC 236 127 [some (.ref 84), some (.int w1), some (.int (nI (cwF L0 N))), some (.int (nI (opF L0 N))), some (.int (bsI c)), some (.int 1), l6, l7, l8] [] τ (xqI Q) := by
  have hN5 := hV.1
  have hcw := cwF_le L0 N
  obtain ⟨u1, u2, u3⟩ := wvF_spec L0 N
  have h10 : ¬ (1 : Int32) = 0 := by decide
  have step : ∀ (a : Nat) (t : List Nat) (c : Option (Nat × (Nat → Option (Nat × Nat)))) (τ : xM) (l6 l7 l8 : Option Value), chT (cwF L0 N) (a :: t) = true → onto (cwF L0 N) (a :: t) = true → plOk c → TM σ τ N L0 a c L0 → (∀ τ l6 l7 l8, TM σ τ N L0 a (plT (ruF le dr co st dp wa N (fun i => wvF L0 N (decR a i)) (cwF L0 N) 0 L0 0) c) L0 → xC 236 354 [some (.ref 84), some (.int w1), some (.int (nI (cwF L0 N))), some (.int (nI (opF L0 N))), some (.int (bsI (plT (ruF le dr co st dp wa N (fun i => wvF L0 N (decR a i)) (cwF L0 N) 0 L0 0) c))), some (.int 1), l6, l7, l8] [] τ (xqI Q)) → xC 236 127 [some (.ref 84), some (.int w1), some (.int (nI (cwF L0 N))), some (.int (nI (opF L0 N))), some (.int (bsI c)), some (.int 1), l6, l7, l8] [] τ (xqI Q) := by
    intro a t c τ l6 l7 l8 hch hon hc hT hnext
    have hlt := chT_lt hch
    have honto := (onto_get hon).1
    rw [s236_127]
    simp only [s236_129, s236_132, s236_133, s236_135, s236_136, xcx_i, xcx_r, xcx_n, xcx_l, xcx_0, h10, if_false]
    refine Mlay_loop (w1 := w1) hB hV hS hlt (cwF L0 N) 0 (by omega) τ L0 0 _ hT (by omega) (fun τ1 L' l7 l8 hT1 hL' => ?_)
    refine Mafter hV hLM c _ hc (fun K s' e => ⟨?_, ?_, ?_⟩) hT1 hL' hnext
    · have := ruF_bd _ _ _ _ _ _ e; omega
    · intro v hv
      obtain ⟨r1, r2⟩ := ruF_all _ _ _ _ _ _ e
      cases hL : L0 v with
      | none =>
        obtain ⟨m, m1, m2⟩ := u3 v hv hL
        obtain ⟨i, i1, i2⟩ := honto m m1
        have := r1 i (Nat.zero_le _) (by omega)
        rw [show wvF L0 N (decR a i) = v by rw [i2]; exact m2] at this
        exact this
      | some x => exact r2 v (by rw [hL]; rfl)
    · intro v hv hs
      refine ruF_keep _ _ _ _ _ _ e (fun j _ hj q => ?_)
      have := (u1 (decR a j) (hlt j (by omega))).2
      rw [q] at this
      rw [this] at hs; cases hs
  have hww : ∀ x y, x < cwF L0 N → y < cwF L0 N → ((wvF L0 N x < wvF L0 N y) = (x < y)) ∧ wvF L0 N x < 1000 := fun x y hx hy => ⟨u2 x y hx hy, by have := (u1 x hx).1; omega⟩
  intro t
  induction t with
  | nil =>
    intro a c τ l6 l7 l8 hch hon hc hT hcf
    have hcf' : plT (ruF le dr co st dp wa N (fun i => wvF L0 N (decR a i)) (cwF L0 N) 0 L0 0) c = cf := hcf
    refine step a [] c τ _ _ _ hch hon hc hT (fun τ1 l6 l7 l8 hT1 => ?_)
    rw [hcf'] at hT1 ⊢
    simp only [s236_354, s236_355, s236_356, xcx_i, xcx_r, xcx_n, xcx_l, xcx_0]
    refine MisNext (w := wvF L0 N) (by omega) hT1.2.2.2.1 (chT_lt hch) hww (fun _ => ?_) (fun r' hr' => ?_)
    · simp only [s236_359, s236_361, xcx_i, xcx_r, xcx_n, xcx_l, xcx_0]
      rw [s236_127]
      simp only [s236_129, xcx_i, xcx_r, xcx_n, xcx_l, xcx_0, if_true]
      exact hQ τ1 a _ _ _ _ hT1
    · rw [chT_end hch] at hr'; cases hr'
  | cons b t ih =>
    intro a c τ l6 l7 l8 hch hon hc hT hcf
    obtain ⟨⟨r1, hn1, hr1⟩, hch2⟩ := chT_next hch
    have hok := plT_ok (le := le) (dr := dr) (co := co) (st := st) (dp := dp) (wa := wa) (n := N) (vs := fun i => wvF L0 N (decR a i)) (L := L0) (show cwF L0 N ≤ 5 by omega) hc
    refine step a (b :: t) c τ _ _ _ hch hon hc hT (fun τ1 l6 l7 l8 hT1 => ?_)
    simp only [s236_354, s236_355, s236_356, xcx_i, xcx_r, xcx_n, xcx_l, xcx_0]
    refine MisNext (w := wvF L0 N) (by omega) hT1.2.2.2.1 (chT_lt hch) hww (fun q => ?_) (fun r' hr' hl' τ2 ho2 hr2 => ?_)
    · rw [hn1] at q; cases q
    · rw [hn1] at hr'
      cases hr'
      simp only [s236_359, s236_361, xcx_i, xcx_r, xcx_n, xcx_l, xcx_0]
      obtain ⟨t1, t2, t4, t5, t6, t9⟩ := hT1
      refine ih b _ τ2 _ _ _ hch2 (onto_get hon).2 hok ⟨t1.tr (ho2.W (fun _ => rfl)), ?_, ?_, fun i hi => (hr2 i hi).trans (congrArg (fun z => nI (wvF L0 N z)) (hr1 i hi)), ?_, ?_⟩ hcf
      · unfold lM; rw [ho2.1 108 (by decide), ho2.1 109 (by decide)]; exact t2
      · rw [ho2.1 108 (by decide), ho2.1 109 (by decide)]; exact t4
      · rw [ho2.1 120 (by decide)]; exact t6
      · rw [ho2.1 120 (by decide)]; exact t9
