/-! plan, the class's: all orders -/
theorem XkeepPlan {σ τ0 : xM} {N a W : Nat} {le dr co st : Nat → Nat} {L0 L : Nat → Option (Nat × Nat)} {c : Option (Nat × (Nat → Option (Nat × Nat)))} {Q : xM → Prop} (hV : vX σ N le dr co st) (hT0 : TX σ τ0 N L0 a c L) (hall : ∀ v, v < N → (L v).isSome = true) (hQ : ∀ τ, TX σ τ N L0 a (some (W, L)) L → Q τ) : xV 26 [.ref 63, .int (nI W)] τ0 Q := by
  have hN5 := hV.1
  have loop : ∀ m i, i + m = N → ∀ τ, xSimW chP σ τ → (∀ k, k ≠ 63 → k ≠ 70 → τ.1 k = τ0.1 k) → τ.1 63 7 = nI W → (∀ j, j < i → τ.1 70 j = nI (cdL L j)) → xC 26 7 [some (.ref 63), some (.int (nI W)), some (.int (nI i))] [] τ (xqV Q) := by
    intro m
    induction m with
    | zero =>
      intro i hi τ hs hk h7 hd
      obtain rfl : i = N := by omega
      have h63 := (hV.P hs).2.1
      rw [s26_7]
      simp only [s26_8, s26_9, s26_12, s26_50, xcx_i, xcx_r, xcx_n, xcx_l, xcx_0, h63, Int32.le_refl, if_true]
      obtain ⟨h1, h2, h3, h4, h5, ⟨h6, h6'⟩, h8, h9⟩ := hT0
      refine hQ τ ⟨hs, fun v hv => ?_, fun v hv => ?_, fun v hv => ?_, fun m hm => ?_, ⟨?_, fun m hm => ?_⟩, h7, fun b K e v hv => ?_⟩
      · rw [hk 68 (by decide) (by decide), hk 69 (by decide) (by decide)]; exact h2 v hv
      · rw [hk 68 (by decide) (by decide)]; exact h3 v hv
      · rw [hk 68 (by decide) (by decide), hk 69 (by decide) (by decide)]; exact h4 v hv
      · rw [hk 71 (by decide) (by decide)]; exact h5 m hm
      · rw [hk 78 (by decide) (by decide)]; exact h6
      · rw [hk 79 (by decide) (by decide)]; exact h6' m hm
      · cases e; exact hd v hv
    | succ m ih =>
      intro i hi τ hs hk h7 hd
      have h63 := (hV.P hs).2.1
      have e := lt4N (n := N) (i := i) (by omega) (by omega)
      have i5 : i < 5 := by omega
      obtain ⟨x, hx⟩ := Option.isSome_iff_exists.mp (hall i (by omega))
      obtain ⟨p, h⟩ := x
      obtain ⟨l1, l2, l3, l4⟩ := (hT0.2.1 i (by omega)).2 p h hx
      have r68 : τ.1 68 i = nI p := by rw [hk 68 (by decide) (by decide)]; exact l1
      have r69 : τ.1 69 i = nI h := by rw [hk 69 (by decide) (by decide)]; exact l2
      have hxp : ∀ v, xpt τ 70 (nI i) v = xe_si τ 70 i v := fun v => xpt_n (by rw [xln_70]; exact i5)
      have hcd : nI h * 1000 + nI p = nI (cdL L i) := by
        rw [mr_1000, nI_add]
        congr 1
        unfold cdL; rw [hx]
        show h * 1000 + p = 1000 * h + p
        omega
      rw [s26_7]
      simp only [s26_8, s26_9, s26_12, s26_15, s26_16, s26_19, s26_20, s26_21, s26_24, s26_25, s26_28, s26_31, s26_32, s26_33, s26_36, s26_37, s26_40, s26_41, s26_44, s26_47, xcx_i, xcx_r, xcx_n, xcx_l, xcx_0, h63, e, if_false, at_eq, put_eq, xcl_68, xcl_69, xcl_70, xat68 i5, xat69 i5, r68, r69, hcd, hxp, nI_1]
      refine ih (i + 1) (by omega) _ (hs.si rfl) (fun k h1 h2 => by rw [si_ne h2]; exact hk k h1 h2) (by rw [si_ne (by decide)]; exact h7) (fun j hj => ?_)
      rw [si_rd]
      by_cases q : j = i
      · rw [if_pos ⟨rfl, q⟩, q]
      · rw [if_neg (fun w => q w.2)]; exact hd j (by omega)
  rw [e26]
  simp only [s26_0, s26_1, s26_2, s26_5, s26_6, xcx_i, xcx_r, xcx_n, xcx_l, xcx_0]
  exact loop N 0 (by omega) _ (hT0.1.si rfl) (fun k h1 _ => si_ne h1) rfl (fun j hj => absurd hj (Nat.not_lt_zero j))
theorem TX.code {σ τ : xM} {N : Nat} {L0 : Nat → Option (Nat × Nat)} {a : Nat} {c : Option (Nat × (Nat → Option (Nat × Nat)))} {L L' : Nat → Option (Nat × Nat)} (h : TX σ τ N L0 a c L) (he : ∀ v, v < N → L v = L' v) : TX σ τ N L0 a c L' := by
  obtain ⟨h1, h2, h3, h4⟩ := h
  refine ⟨h1, fun v hv => ?_, fun v hv => ?_, h4⟩
  · rw [← he v hv]; exact h2 v hv
  · rw [← he v hv]; exact h3 v hv
theorem ruF_bd {le dr co st dp wa : Nat → Nat} {n : Nat} {vs : Nat → Nat} : ∀ k i L s L' s', ruF le dr co st dp wa n vs k i L s = some (L', s') → s' ≤ s + 200 * k := by
  intro k
  induction k with
  | zero => intro i L s L' s' h; cases h; exact Nat.le_refl _
  | succ k ih =>
    intro i L s L' s' h
    cases hf : ffH le dr st dp wa L n (vs i) (200 - co (vs i)) (co (vs i)) with
    | none => unfold ruF at h; rw [hf] at h; cases h
    | some x =>
      obtain ⟨hh, p⟩ := x
      have hb := ffH_bd _ _ _ _ hf
      unfold ruF at h
      rw [hf] at h
      have := ih _ _ _ _ _ h
      omega
theorem XtryOrder {σ τ0 : xM} {N pp nd a : Nat} {le dr co st dp wa : Nat → Nat} {L0 : Nat → Option (Nat × Nat)} {c : Option (Nat × (Nat → Option (Nat × Nat)))} {Q : xM → Prop} (hB : pB σ pp nd dp wa) (hV : vX σ N le dr co st) (hS : shX σ N le dp) (hlt : ∀ i, i < cwF L0 N → decR a i < cwF L0 N) (hon : ∀ m, m < cwF L0 N → ∃ i, i < cwF L0 N ∧ decR a i = m) (hc : ∀ b K, c = some (b, K) → b < 1000000) (hLX : lX σ N L0) (hT0 : TX σ τ0 N L0 a c L0) (hQ : ∀ τ, TX σ τ N L0 a (plT (ruF le dr co st dp wa N (fun i => wvF L0 N (decR a i)) (cwF L0 N) 0 L0 0) c) L0 → Q τ) : xV 25 [.ref 63, .ref pp, .ref 78] τ0 Q := by
  have hN5 := hV.1
  have hcw := cwF_le L0 N
  obtain ⟨w1, w2, w3⟩ := wvF_spec L0 N
  have hpp := hB.1
  have hls := lsN_le hc
  have lift : ∀ (c' : Option (Nat × (Nat → Option (Nat × Nat)))) (x3 : Int32), ∀ m j, j + m = cwF L0 N → ∀ τ L l5 l6, TX σ τ N L0 a c' L → (∀ i, i < j → L (wvF L0 N i) = none) → (∀ τ, TX σ τ N L0 a c' L0 → Q τ) → xC 25 120 [some (.ref 63), some (.ref pp), some (.ref 78), some (.int x3), some (.int (nI j)), l5, l6] [] τ (xqV Q) := by
    intro c' l3 m
    induction m with
    | zero =>
      intro j hj τ L l5 l6 hT hd hQ
      have h78 := hT.2.2.2.2.2.1.1
      have e : (nI (cwF L0 N) ≤ nI j) = True := eq_true ((nI_leI (by omega) (by omega)).mpr (by omega))
      rw [s25_120]
      simp only [s25_122, s25_123, s25_126, s25_150, xcx_i, xcx_r, xcx_n, xcx_l, xcx_0, h78, e, if_true]
      obtain ⟨t1, t2, t3, t4, t5⟩ := hT
      have hwn : ∀ v, v < N → L0 v = none → L v = none := by
        intro v hv hL
        obtain ⟨m, m1, m2⟩ := w3 v hv hL
        rw [← m2]; exact hd m (by omega)
      refine hQ τ ⟨t1, fun v hv => ⟨fun q => ?_, fun p h q => ?_⟩, fun v hv q => ?_, t4, t5⟩
      · exact (t2 v hv).1 (hwn v hv q)
      · obtain ⟨z1, z2⟩ := t4 v hv (by rw [q]; rfl)
        rw [z1, z2]; exact (hLX v hv).2 p h q
      · exact t3 v hv (hwn v hv q)
    | succ m ih =>
      intro j hj τ L l5 l6 hT hd hQ
      have h78 := hT.2.2.2.2.2.1.1
      have e := lt4N (n := cwF L0 N) (i := j) (by omega) (by omega)
      obtain ⟨hvN, hvn⟩ := w1 j (by omega)
      have j5 : j < 5 := by omega
      have v5 : wvF L0 N j < 5 := by omega
      have r71 := hT.2.2.2.2.1 j (by omega)
      have hput : ∀ (τ : xM) (x y : Int32) (Q : xM → Prop), xV 18 [.ref 63, .int (nI (wvF L0 N j)), .int x, .int y] τ Q = _ := fun τ x y Q => putAt_eq v5
      rw [s25_120]
      simp only [s25_122, s25_123, s25_126, s25_129, s25_130, s25_131, s25_134, s25_136, s25_139, s25_140, s25_141, s25_144, s25_147, xcx_i, xcx_r, xcx_n, xcx_l, xcx_0, h78, e, if_false, at_eq, xcl_71, xat71 j5, r71, hput, nI_1]
      refine ih (j + 1) (by omega) _ (upL L (wvF L0 N j) none) _ _ (hT.lift hvn) (fun i hi => ?_) hQ
      · unfold upL
        by_cases q : wvF L0 N i = wvF L0 N j
        · rw [if_pos q]
        · rw [if_neg q]
          refine hd i ?_
          rcases Nat.lt_or_eq_of_le (Nat.le_of_lt_succ hi) with z | z
          · exact z
          · exact absurd (by rw [z]) q
  rw [e25]
  simp only [s25_0, s25_1, s25_2, s25_3, xcx_i, xcx_r, xcx_n, xcx_l, xcx_0]
  have hmono := fun L' s' => ruF_mono (le := le) (dr := dr) (co := co) (st := st) (dp := dp) (wa := wa) (n := N) (vs := fun i => wvF L0 N (decR a i)) (cwF L0 N) 0 L0 0 L' s'
  refine Xtry_loop (L := L0) (s := 0) hB hV hS hlt hls (cwF L0 N) 0 (by omega) τ0 _ _ hT0 (by omega) (fun τ L' s' l4 l5 l6 e hlt' hT => ?_) (fun τ L' W l4 l5 l6 e hW hW2 hT => ?_)
  · rw [e] at hQ
    have hpl : plT (some (L', s')) c = some (s', L') := by
      show plU s' L' c = _
      cases c with
      | none => rfl
      | some x => exact if_pos hlt'
    rw [hpl] at hQ
    have h63 := hT.2.2.2.2.2.2.1
    have e2 : (nI (lsN c) ≤ nI s') = False := eq_false (fun q => by have := (nI_leI (a := lsN c) (b := s') (by omega) (by omega)).mp q; omega)
    have hall : ∀ v, v < N → (L' v).isSome = true := by
      intro v hv
      obtain ⟨r1, r2⟩ := ruF_all _ _ _ _ _ _ e
      cases hL : L0 v with
      | none =>
        obtain ⟨m, m1, m2⟩ := w3 v hv hL
        obtain ⟨i, i1, i2⟩ := hon m m1
        have := r1 i (Nat.zero_le _) (by omega)
        rw [show wvF L0 N (decR a i) = v by rw [i2]; exact m2] at this
        exact this
      | some x => exact r2 v (by rw [hL]; rfl)
    simp only [s25_104, s25_105, s25_106, s25_109, s25_112, s25_113, s25_114, xcx_i, xcx_r, xcx_n, xcx_l, xcx_0, h63, e2, if_false]
    refine XkeepPlan hV hT hall (fun τ' hT' => ?_)
    simp only [s25_117, s25_118, xcx_i, xcx_r, xcx_n, xcx_l, xcx_0]
    exact lift _ _ (cwF L0 N) 0 (by omega) τ' L' _ _ hT' (fun i hi => absurd hi (Nat.not_lt_zero i)) hQ
  · have hpl : plT (ruF le dr co st dp wa N (fun i => wvF L0 N (decR a i)) (cwF L0 N) 0 L0 0) c = c := by
      cases hr : ruF le dr co st dp wa N (fun i => wvF L0 N (decR a i)) (cwF L0 N) 0 L0 0 with
      | none => rfl
      | some x =>
        obtain ⟨K, s'⟩ := x
        have hs' := e K s' hr
        show plU s' K c = c
        cases c with
        | none => exact absurd hs' (by have := ruF_bd _ _ _ _ _ _ hr; have : lsN none = 1000000 := rfl; omega)
        | some y => exact if_neg (by have : lsN (some y) = y.1 := rfl; omega)
    rw [hpl] at hQ
    have h63 := hT.2.2.2.2.2.2.1
    have e2 : (nI (lsN c) ≤ nI W) = True := eq_true ((nI_leI (by omega) (by omega)).mpr hW)
    simp only [s25_104, s25_105, s25_106, s25_109, s25_112, s25_113, s25_114, s25_117, s25_118, xcx_i, xcx_r, xcx_n, xcx_l, xcx_0, h63, e2, if_true]
    exact lift _ _ (cwF L0 N) 0 (by omega) τ L' _ _ hT (fun i hi => absurd hi (Nat.not_lt_zero i)) hQ
