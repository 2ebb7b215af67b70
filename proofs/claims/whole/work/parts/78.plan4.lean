/-! plan, the class's: planAll -/
def plOk (c : Option (Nat × (Nat → Option (Nat × Nat)))) : Prop := ∀ b K, c = some (b, K) → b < 1000000
theorem plT_ok {le dr co st dp wa : Nat → Nat} {n : Nat} {vs : Nat → Nat} {k : Nat} {L : Nat → Option (Nat × Nat)} {c : Option (Nat × (Nat → Option (Nat × Nat)))} (hk : k ≤ 5) (h : plOk c) : plOk (plT (ruF le dr co st dp wa n vs k 0 L 0) c) := by
  intro b K e
  cases hr : ruF le dr co st dp wa n vs k 0 L 0 with
  | none => rw [hr] at e; exact h b K e
  | some x =>
    obtain ⟨L', s'⟩ := x
    have hb := ruF_bd _ _ _ _ _ _ hr
    rw [hr] at e
    have e' : plU s' L' c = some (b, K) := e
    cases c with
    | none => cases e'; omega
    | some y =>
      obtain ⟨b', K'⟩ := y
      by_cases q : s' < b'
      · rw [show plU s' L' (some (b', K')) = some (s', L') from if_pos q] at e'
        cases e'; omega
      · rw [show plU s' L' (some (b', K')) = some (b', K') from if_neg q] at e'
        exact h b K e'
theorem XplanAll {σ : xM} {N pp nd : Nat} {le dr co st dp wa : Nat → Nat} {L0 : Nat → Option (Nat × Nat)} {Q : Int32 → xM → Prop} (hB : pB σ pp nd dp wa) (hV : vX σ N le dr co st) (hS : shX σ N le dp) (hLX : lX σ N L0) (hLZ : lZ σ N L0) (hQ : ∀ τ a, TX σ τ N L0 a (plF le dr co st dp wa N (cwF L0 N) (wvF L0 N) L0 (ordT (cwF L0 N)) none) L0 → Q (if (plF le dr co st dp wa N (cwF L0 N) (wvF L0 N) L0 (ordT (cwF L0 N)) none).isSome then 1 else 0) τ) : xI1 24 [.ref 63, .ref pp, .ref 78] σ Q := by
  have hN5 := hV.1
  have hcw := cwF_le L0 N
  have hpp := hB.1
  obtain ⟨hch, hlen, a0, t0, hat, hid⟩ := ordT_ok (show cwF L0 N ≤ 6 by omega)
  have hon := onto_ok (show cwF L0 N ≤ 5 by omega)
  have h10 : ¬ (1 : Int32) = 0 := by decide
  generalize hfin : plF le dr co st dp wa N (cwF L0 N) (wvF L0 N) L0 (ordT (cwF L0 N)) none = cf at hQ
  have hend : ∀ τ a (l4 : Option Value), plOk cf → TX σ τ N L0 a cf L0 → xC 24 86 [some (.ref 63), some (.ref pp), some (.ref 78), some (.int (nI (cwF L0 N))), l4] [] τ (xqI Q) := by
    intro τ a l4 hok hT
    have h63 := hT.2.2.2.2.2.2.1
    have hq := hQ τ a hT
    cases cf with
    | none =>
      have h63' : τ.1 63 7 = 1000000 := h63
      have hq : Q 0 τ := hq
      simp only [s24_86, s24_87, s24_90, s24_92, s24_95, s24_96, s24_99, s24_100, xcx_i, xcx_r, xcx_n, xcx_l, xcx_0, h63', Int32.le_refl, if_true, true_or, or_true, true_and]
      exact hq
    | some x =>
      have hb := hok x.1 x.2 rfl
      have h63' : τ.1 63 7 = nI x.1 := h63
      have e : ((1000000 : Int32) ≤ nI x.1) = False := eq_false (fun q => by have := (nI_leI (a := 1000000) (b := x.1) (by decide) (by omega)).mp q; omega)
      have hq : Q 1 τ := hq
      simp only [s24_86, s24_87, s24_90, s24_92, s24_95, s24_96, s24_99, s24_100, xcx_i, xcx_r, xcx_n, xcx_l, xcx_0, h63', e, if_false, true_or, or_true, true_and]
      exact hq
  have loop : ∀ (t : List Nat) (a k : Nat) (c : Option (Nat × (Nat → Option (Nat × Nat)))) (τ : xM), chT (cwF L0 N) (a :: t) = true → onto (cwF L0 N) (a :: t) = true → k + (a :: t).length ≤ 720 → plOk c → TX σ τ N L0 a c L0 → plF le dr co st dp wa N (cwF L0 N) (wvF L0 N) L0 (a :: t) c = cf → xC 24 56 [some (.ref 63), some (.ref pp), some (.ref 78), some (.int (nI (cwF L0 N))), some (.int (nI k))] [] τ (xqI Q) := by
    intro t
    induction t with
    | nil =>
      intro a k c τ hch hon hk hc hT hcf
      have hk' : k + 1 ≤ 720 := hk
      have e : ((720 : Int32) ≤ nI k) = False := eq_false (fun q => by have := (nI_leI (a := 720) (b := k) (by decide) (by omega)).mp q; omega)
      have hcf' : plT (ruF le dr co st dp wa N (fun i => wvF L0 N (decR a i)) (cwF L0 N) 0 L0 0) c = cf := hcf
      have hok := plT_ok (le := le) (dr := dr) (co := co) (st := st) (dp := dp) (wa := wa) (n := N) (vs := fun i => wvF L0 N (decR a i)) (L := L0) (show cwF L0 N ≤ 5 by omega) hc
      have hto : ∀ Q : xM → Prop, (∀ τ, TX σ τ N L0 a cf L0 → Q τ) → xV 25 [.ref 63, .ref pp, .ref 78] τ Q := fun Q hQ => XtryOrder hB hV hS (chT_lt hch) (onto_get hon).1 hc hLX hT (by rw [hcf']; exact hQ)
      have hafter : ∀ τ1, TX σ τ1 N L0 a cf L0 → xC 24 70 [some (.ref 63), some (.ref pp), some (.ref 78), some (.int (nI (cwF L0 N))), some (.int (nI k))] [] τ1 (xqI Q) := by
        intro τ1 hT1
        simp only [s24_70, s24_71, xcx_i, xcx_r, xcx_n, xcx_l, xcx_0]
        refine XorderNext (by omega) hT1.2.2.2.2.2.1.1 hT1.2.2.2.2.2.1.2 (chT_lt hch) (fun _ => ?_) (fun r' hr' => ?_)
        · simp only [s24_74, s24_77, xcx_i, xcx_r, xcx_n, xcx_l, xcx_0, not_true, if_false]
          exact hend τ1 a _ (by rw [← hcf']; exact hok) hT1
        · rw [chT_end hch] at hr'; cases hr'
      rw [s24_56]
      rcases hpp with rfl | rfl
      · simp only [s24_58, s24_61, s24_64, s24_65, s24_66, s24_67, xcx_i, xcx_r, xcx_n, xcx_l, xcx_0, e, if_false, true_or, or_true]
        exact hto _ hafter
      · simp only [s24_58, s24_61, s24_64, s24_65, s24_66, s24_67, xcx_i, xcx_r, xcx_n, xcx_l, xcx_0, e, if_false, true_or, or_true]
        exact hto _ hafter
    | cons b t ih =>
      intro a k c τ hch hon hk hc hT hcf
      have hk' : k + (t.length + 1 + 1) ≤ 720 := hk
      have e : ((720 : Int32) ≤ nI k) = False := eq_false (fun q => by have := (nI_leI (a := 720) (b := k) (by decide) (by omega)).mp q; omega)
      obtain ⟨⟨r1, hn1, hr1⟩, hch2⟩ := chT_next hch
      have hok := plT_ok (le := le) (dr := dr) (co := co) (st := st) (dp := dp) (wa := wa) (n := N) (vs := fun i => wvF L0 N (decR a i)) (L := L0) (show cwF L0 N ≤ 5 by omega) hc
      have hcf' : plF le dr co st dp wa N (cwF L0 N) (wvF L0 N) L0 (b :: t) (plT (ruF le dr co st dp wa N (fun i => wvF L0 N (decR a i)) (cwF L0 N) 0 L0 0) c) = cf := hcf
      generalize plT (ruF le dr co st dp wa N (fun i => wvF L0 N (decR a i)) (cwF L0 N) 0 L0 0) c = c' at hok hcf'
      have hto : ∀ Q : xM → Prop, (∀ τ, TX σ τ N L0 a (plT (ruF le dr co st dp wa N (fun i => wvF L0 N (decR a i)) (cwF L0 N) 0 L0 0) c) L0 → Q τ) → xV 25 [.ref 63, .ref pp, .ref 78] τ Q := fun Q hQ => XtryOrder hB hV hS (chT_lt hch) (onto_get hon).1 hc hLX hT hQ
      have hafter : ∀ τ1, TX σ τ1 N L0 a (plT (ruF le dr co st dp wa N (fun i => wvF L0 N (decR a i)) (cwF L0 N) 0 L0 0) c) L0 → xC 24 70 [some (.ref 63), some (.ref pp), some (.ref 78), some (.int (nI (cwF L0 N))), some (.int (nI k))] [] τ1 (xqI Q) := by
        intro τ1 hT1
        simp only [s24_70, s24_71, xcx_i, xcx_r, xcx_n, xcx_l, xcx_0]
        refine XorderNext (by omega) hT1.2.2.2.2.2.1.1 hT1.2.2.2.2.2.1.2 (chT_lt hch) (fun q => ?_) (fun r' hr' hl' τ2 ho2 hr2 => ?_)
        · rw [hn1] at q; cases q
        · rw [hn1] at hr'
          cases hr'
          simp only [s24_74, s24_77, s24_80, s24_83, xcx_i, xcx_r, xcx_n, xcx_l, xcx_0, h10, not_false_eq_true, if_true, nI_1]
          obtain ⟨t1, t2, t3, t4, t5, ⟨t6, t7⟩, t8, t9⟩ := hT1
          refine ih b (k + 1) _ τ2 hch2 (onto_get hon).2 (by show k + 1 + (t.length + 1) ≤ 720; omega) (plT_ok (by omega) hc) ⟨t1.tr (ho2.W (fun _ => rfl)), ?_, ?_, ?_, ?_, ⟨?_, fun i hi => (hr2 i hi).trans (congrArg nI (hr1 i hi))⟩, ?_, ?_⟩ hcf
          · unfold lX; rw [ho2.1 68 (by decide), ho2.1 69 (by decide)]; exact t2
          · unfold lZ; rw [ho2.1 68 (by decide)]; exact t3
          · rw [ho2.1 68 (by decide), ho2.1 69 (by decide)]; exact t4
          · rw [ho2.1 71 (by decide)]; exact t5
          · rw [ho2.1 78 (by decide)]; exact t6
          · rw [ho2.1 63 (by decide)]; exact t8
          · rw [ho2.1 70 (by decide)]; exact t9
      rw [s24_56]
      rcases hpp with rfl | rfl
      · simp only [s24_58, s24_61, s24_64, s24_65, s24_66, s24_67, xcx_i, xcx_r, xcx_n, xcx_l, xcx_0, e, if_false, true_or, or_true]
        exact hto _ hafter
      · simp only [s24_58, s24_61, s24_64, s24_65, s24_66, s24_67, xcx_i, xcx_r, xcx_n, xcx_l, xcx_0, e, if_false, true_or, or_true]
        exact hto _ hafter
  have wait : ∀ m v, v + m = N → ∀ τ, (∀ k, k ≠ 71 → τ.1 k = σ.1 k) → τ.2.2 = σ.2.2 → (∀ i, i < cwF L0 v → τ.1 71 i = nI (wvF L0 v i)) → xC 24 5 [some (.ref 63), some (.ref pp), some (.ref 78), some (.int (nI (cwF L0 v))), some (.int (nI v))] [] τ (xqI Q) := by
    intro m
    induction m with
    | zero =>
      intro v hv τ hk hp2 hd
      obtain rfl : v = N := by omega
      have h63 : τ.1 63 0 = nI v := by rw [hk 63 (by decide)]; exact hV.2.1
      rw [s24_5]
      simp only [s24_7, s24_8, s24_11, s24_14, s24_15, s24_17, s24_20, s24_23, s24_24, s24_27, s24_28, s24_30, s24_33, s24_36, s24_39, s24_42, s24_43, s24_45, s24_48, s24_49, s24_50, xcx_i, xcx_r, xcx_n, xcx_l, xcx_0, h63, Int32.le_refl, if_true]
      refine XorderBegin (by omega) (fun τ1 hs1 hk1 h78 hr1 => ?_)
      simp only [s24_53, s24_54, xcx_i, xcx_r, xcx_n, xcx_l, xcx_0]
      have hkk : ∀ k, k ≠ 71 → k ≠ 78 → k ≠ 79 → k ≠ 63 → τ1.1 k = σ.1 k := fun k h1 h2 h3 h4 => by rw [hk1 k h2 h3, si_ne h4, hk k h1]
      refine loop t0 a0 0 none τ1 (by rw [← hat]; exact hch) (by rw [← hat]; exact hon) (by rw [← hat]; omega) (fun b K e => (by cases e)) ⟨⟨fun k j hk' => ?_, ?_⟩, ?_, ?_, fun u hu hs => ?_, fun i hi => ?_, ⟨h78, fun i hi => by rw [hr1 i hi, hid i hi]⟩, ?_, fun b K e => (by cases e)⟩ (by rw [← hat]; exact hfin)
      · have hk2 := of_decide_eq_false hk'
        by_cases q : k = 63
        · subst q
          rw [hk1 63 (by decide) (by decide), si_rd, if_neg (fun z => by omega), hk 63 (by decide)]
        · rw [hkk k (by omega) (by omega) (by omega) q]
      · rw [hs1.2]; exact hp2
      · unfold lX; rw [hkk 68 (by decide) (by decide) (by decide) (by decide), hkk 69 (by decide) (by decide) (by decide) (by decide)]; exact hLX
      · unfold lZ; rw [hkk 68 (by decide) (by decide) (by decide) (by decide)]; exact hLZ
      · rw [hkk 68 (by decide) (by decide) (by decide) (by decide), hkk 69 (by decide) (by decide) (by decide) (by decide)]; exact ⟨rfl, rfl⟩
      · rw [hk1 71 (by decide) (by decide), si_ne (by decide)]; exact hd i hi
      · rw [hk1 63 (by decide) (by decide)]; rfl
    | succ m ih =>
      intro v hv τ hk hp2 hd
      have h63 : τ.1 63 0 = nI N := by rw [hk 63 (by decide)]; exact hV.2.1
      have e := lt4N (n := N) (i := v) (by omega) (by omega)
      have v5 : v < 5 := by omega
      have hcv := cwF_le L0 v
      have h69 : τ.1 69 v = σ.1 69 v := by rw [hk 69 (by decide)]
      have hxp : ∀ x, xpt τ 71 (nI (cwF L0 v)) x = xe_si τ 71 (cwF L0 v) x := fun x => xpt_n (by rw [xln_71]; omega)
      rw [s24_5]
      cases hL : L0 v with
      | none =>
        have l1 := (hLX v (by omega)).1 hL
        have e1 : cwF L0 (v + 1) = cwF L0 v + 1 := by
          show cwF L0 v + (if (L0 v).isNone then 1 else 0) = _
          rw [hL]; rfl
        have e2 : wvF L0 (v + 1) = upN (wvF L0 v) (cwF L0 v) v := by
          show (if (L0 v).isNone then _ else _) = _
          rw [hL]; rfl
        have ihh := ih (v + 1) (by omega)
        rw [e1, e2] at ihh
        simp only [s24_7, s24_8, s24_11, s24_14, s24_15, s24_17, s24_20, s24_23, s24_24, s24_27, s24_28, s24_30, s24_33, s24_36, s24_39, xcx_i, xcx_r, xcx_n, xcx_l, xcx_0, h63, e, if_false, isLaid_eq v5, h69, l1, xb_f, ite_not, not_true, not_false_eq_true, if_true, put_eq, xcl_71, hxp, nI_1, true_or, or_true, true_and]
        refine ihh _ (fun k h1 => by rw [si_ne h1]; exact hk k h1) hp2 (fun i hi => ?_)
        rw [si_rd]
        unfold upN
        by_cases q : i = cwF L0 v
        · rw [if_pos ⟨rfl, q⟩, if_pos q]
        · rw [if_neg (fun w => q w.2), if_neg q]; exact hd i (by omega)
      | some x =>
        obtain ⟨p, h⟩ := x
        obtain ⟨l1, l2, l3, l4⟩ := (hLX v (by omega)).2 p h hL
        have e1 : cwF L0 (v + 1) = cwF L0 v := by
          show cwF L0 v + (if (L0 v).isNone then 1 else 0) = _
          rw [hL]; rfl
        have e2 : wvF L0 (v + 1) = wvF L0 v := by
          show (if (L0 v).isNone then _ else _) = _
          rw [hL]; rfl
        have ihh := ih (v + 1) (by omega)
        rw [e1, e2] at ihh
        have hm1 := nI_m1 (show h < 2147483648 by omega)
        simp only [s24_7, s24_8, s24_11, s24_14, s24_15, s24_17, s24_20, s24_23, s24_24, s24_27, s24_28, s24_30, s24_33, s24_36, s24_39, xcx_i, xcx_r, xcx_n, xcx_l, xcx_0, h63, e, if_false, isLaid_eq v5, h69, l2, hm1, xb_f, ite_not, not_true, not_false_eq_true, if_true, nI_1, true_or, or_true, true_and]
        exact ihh τ hk hp2 hd
  rw [e24]
  simp only [s24_0, s24_1, s24_2, s24_3, xcx_i, xcx_r, xcx_n, xcx_l, xcx_0]
  exact wait N 0 (by omega) σ (fun _ _ => rfl) rfl (fun i hi => absurd hi (Nat.not_lt_zero i))
