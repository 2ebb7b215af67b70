/-! plan -/
theorem Mplan_eq {σ : xM} {N pp nd : Nat} {w1 : Int32} {le dr co st dp wa : Nat → Nat} {L0 : Nat → Option (Nat × Nat)} {Q : Int32 → xM → Prop} (hB : pB σ pp nd dp wa) (hV : vM σ N le dr co st) (hLM : lM σ N L0) (hQ : ∀ ρ τ a l5 l6 l7 l8, only 118 σ ρ → TM ρ τ N L0 a (plF le dr co st dp wa N (cwF L0 N) (wvF L0 N) L0 (ordT (cwF L0 N)) none) L0 → xC 236 364 [some (.ref 84), some (.int w1), some (.int (nI (cwF L0 N))), some (.int (nI (opF L0 N))), some (.int (bsI (plF le dr co st dp wa N (cwF L0 N) (wvF L0 N) L0 (ordT (cwF L0 N)) none))), l5, l6, l7, l8] [] τ (xqI Q)) : xC 236 22 [some (.ref 84), some (.int w1), none, none, none, none, none, none, none] [] σ (xqI Q) := by
  have hN5 := hV.1
  have hcw := cwF_le L0 N
  obtain ⟨hch, hlen, a0, t0, hat, hid⟩ := ordT_ok (show cwF L0 N ≤ 6 by omega)
  have hon := onto_ok (show cwF L0 N ≤ 5 by omega)
  generalize hfin : plF le dr co st dp wa N (cwF L0 N) (wvF L0 N) L0 (ordT (cwF L0 N)) none = cf at hQ
  simp only [s236_22, s236_23, xcx_i, xcx_r, xcx_n, xcx_l, xcx_0]
  refine Msounds_eq hB hV (fun ρ hρ hsh => ?_)
  have hBρ := hB.only hρ (by decide)
  have hVρ := hV.only hρ (by decide)
  have hLρ := hLM.only hρ (by decide)
  have init : ∀ m v, v + m = N → ∀ τ, xSimW chR ρ τ → (∀ k, k ≠ 119 → k ≠ 120 → τ.1 k = ρ.1 k) → (∀ i, i < cwF L0 v → τ.1 119 i = nI (wvF L0 v i)) → (∀ u, u < v → (L0 u).isSome = true → τ.1 120 u = nI (cdL L0 u)) → xC 236 33 [some (.ref 84), some (.int w1), some (.int (nI (cwF L0 v))), some (.int (nI (opF L0 v))), some (.int (nI v)), none, none, none, none] [] τ (xqI Q) := by
    intro m
    induction m with
    | zero =>
      intro v hv τ hs hk hd h6
      obtain rfl : v = N := by omega
      have h43 := (hVρ.R hs).2.1
      rw [s236_33]
      simp only [s236_35, s236_36, s236_39, s236_121, s236_122, s236_124, s236_125, xcx_i, xcx_r, xcx_n, xcx_l, xcx_0, h43, Int32.le_refl, if_true]
      refine Mplan_loop hBρ hVρ hsh hLρ cf (fun τ a l5 l6 l7 l8 hT => hQ ρ τ a l5 l6 l7 l8 hρ hT) t0 a0 none τ _ _ _ (by rw [← hat]; exact hch) (by rw [← hat]; exact hon) (fun b K e => (by cases e)) ⟨hs, ?_, ?_, fun i hi => ?_, h6, fun b K e => (by cases e)⟩ (by rw [← hat]; exact hfin)
      · unfold lM; rw [hk 108 (by decide) (by decide), hk 109 (by decide) (by decide)]; exact hLρ
      · rw [hk 108 (by decide) (by decide), hk 109 (by decide) (by decide)]; exact fun _ _ _ => ⟨rfl, rfl⟩
      · show τ.1 119 i = nI (wvF L0 v (decR a0 i))
        rw [hid i hi]; exact hd i hi
    | succ m ih =>
      intro v hv τ hs hk hd h6
      have h43 := (hVρ.R hs).2.1
      have e := lt4N (n := N) (i := v) (by omega) (by omega)
      have b0 : v < 100000 := by omega
      have v5 : v < 5 := by omega
      have hcv := cwF_le L0 v
      have b1 : cwF L0 v < 100000 := by omega
      have c1 : cwF L0 v < 6 := by omega
      have hop := opF_lt L0 v
      have h32 : 2 ^ v ≤ 2 ^ 4 := Nat.pow_le_pow_right (by decide) (by omega)
      rw [s236_33]
      cases hL : L0 v with
      | none =>
        have l1 : τ.1 109 v = -1 := by rw [hk 109 (by decide) (by decide)]; exact (hLρ v (by omega)).1 hL
        have e1 : cwF L0 (v + 1) = cwF L0 v + 1 := by
          show cwF L0 v + (if (L0 v).isNone then 1 else 0) = _
          rw [hL]; rfl
        have e2 : wvF L0 (v + 1) = upN (wvF L0 v) (cwF L0 v) v := by
          show (if (L0 v).isNone then _ else _) = _
          rw [hL]; rfl
        have e3 : opF L0 (v + 1) = opF L0 v + 2 ^ v := by
          show opF L0 v + (if (L0 v).isNone then 2 ^ v else 0) = _
          rw [hL]; rfl
        have ihh := ih (v + 1) (by omega)
        rw [e1, e2, e3] at ihh
        have hor := (bit5a v v5 (opF L0 v) (by omega) hop).1
        simp only [s236_35, s236_36, s236_39, s236_42, s236_43, s236_46, s236_48, s236_49, s236_52, s236_54, s236_55, s236_56, s236_59, s236_60, s236_63, s236_66, s236_67, s236_70, s236_72, s236_73, s236_74, s236_75, s236_78, s236_80, s236_81, s236_82, s236_83, s236_84, s236_87, s236_89, s236_90, s236_91, s236_94, s236_97, s236_98, s236_101, s236_102, s236_104, s236_105, s236_108, s236_109, s236_110, s236_112, s236_113, s236_114, s236_115, s236_118, xcx_i, xcx_r, xcx_n, xcx_l, xcx_0, h43, e, if_false, xcl_109, xcl_119, xcl_120, xln_109, xln_119, xln_120, v5, b0, b1, c1, cl_s, pos_s, true_and, si_rd, Nat.reduceEqDiff, false_and, l1, not_true, if_true, hor, nI_1]
        refine ihh _ ((hs.si rfl).si rfl) (fun k h1 h2 => by rw [si_ne h1, si_ne h2]; exact hk k h1 h2) (fun i hi => ?_) (fun u hu hsm => ?_)
        · rw [si_rd]
          unfold upN
          by_cases q : i = cwF L0 v
          · rw [if_pos ⟨rfl, q⟩, if_pos q]
          · rw [if_neg (fun w => q w.2), if_neg q, si_ne (by decide)]; exact hd i (by omega)
        · have : u ≠ v := fun q => by rw [q, hL] at hsm; cases hsm
          rw [si_ne (by decide), si_rd, if_neg (fun z => this z.2)]
          exact h6 u (by omega) hsm
      | some x =>
        obtain ⟨p, h⟩ := x
        obtain ⟨l1, l2, l3, l4⟩ := (hLρ v (by omega)).2 p h hL
        have r1 : τ.1 108 v = nI p := by rw [hk 108 (by decide) (by decide)]; exact l1
        have r2 : τ.1 109 v = nI h := by rw [hk 109 (by decide) (by decide)]; exact l2
        have e1 : cwF L0 (v + 1) = cwF L0 v := by
          show cwF L0 v + (if (L0 v).isNone then 1 else 0) = _
          rw [hL]; rfl
        have e2 : wvF L0 (v + 1) = wvF L0 v := by
          show (if (L0 v).isNone then _ else _) = _
          rw [hL]; rfl
        have e3 : opF L0 (v + 1) = opF L0 v := by
          show opF L0 v + (if (L0 v).isNone then 2 ^ v else 0) = _
          rw [hL]; rfl
        have ihh := ih (v + 1) (by omega)
        rw [e1, e2, e3] at ihh
        have hm1 := nI_m1 (show h < 2147483648 by omega)
        have hcd : (1000 : Int32) * nI h + nI p = nI (cdL L0 v) := by
          rw [ml_1000, nI_add]
          congr 1
          unfold cdL; rw [hL]
        simp only [s236_35, s236_36, s236_39, s236_42, s236_43, s236_46, s236_48, s236_49, s236_52, s236_54, s236_55, s236_56, s236_59, s236_60, s236_63, s236_66, s236_67, s236_70, s236_72, s236_73, s236_74, s236_75, s236_78, s236_80, s236_81, s236_82, s236_83, s236_84, s236_87, s236_89, s236_90, s236_91, s236_94, s236_97, s236_98, s236_101, s236_102, s236_104, s236_105, s236_108, s236_109, s236_110, s236_112, s236_113, s236_114, s236_115, s236_118, xcx_i, xcx_r, xcx_n, xcx_l, xcx_0, h43, e, if_false, xcl_108, xcl_109, xcl_120, xln_108, xln_109, xln_120, v5, b0, cl_s, pos_s, true_and, si_rd, Nat.reduceEqDiff, false_and, r1, r2, hm1, not_false_eq_true, if_true, hcd, nI_1]
        refine ihh _ (hs.si rfl) (fun k h1 h2 => by rw [si_ne h2]; exact hk k h1 h2) (fun i hi => by rw [si_ne (by decide)]; exact hd i hi) (fun u hu hsm => ?_)
        rw [si_rd]
        by_cases q : u = v
        · rw [if_pos ⟨rfl, q⟩, q]
        · rw [if_neg (fun z => q z.2)]; exact h6 u (by omega) hsm
  simp only [s236_26, s236_27, s236_28, s236_29, s236_30, s236_31, xcx_i, xcx_r, xcx_n, xcx_l, xcx_0]
  exact init N 0 (by omega) ρ (xSimW.rf _ _) (fun _ _ _ => rfl) (fun i hi => absurd hi (Nat.not_lt_zero i)) (fun u hu => absurd hu (Nat.not_lt_zero u))
theorem xInv.plan {xs : Nat → Int32} {L : Nat} {σ ρ τ1 τ2 : xM} {N a1 a2 : Nat} {L0 : Nat → Option (Nat × Nat)} {c1 c2 : Option (Nat × (Nat → Option (Nat × Nat)))} (hI : xInv xs L σ) (hN5 : N ≤ 5) (h63 : σ.1 63 0 = nI N) (hLX : lX σ N L0) (hLM : lM σ N L0) (hT : TX σ τ1 N L0 a1 c1 L0) (hρ : only 118 τ1 ρ) (hM : TM ρ τ2 N L0 a2 c2 L0) : xInv xs L τ2 := by
  have hch1 : ∀ k j, chB k j = false → chP k j = false ∧ chR k j = false ∧ k ≠ 118 := by
    intro k j hk
    unfold chB at hk
    rw [Bool.or_eq_false_iff] at hk
    have h2 := of_decide_eq_false hk.2
    have hns : ∀ c, (∀ j, scr c j = true) → k ≠ c := fun c hc q => by subst q; rw [hc j] at hk; cases hk.1
    have n78 := hns 78 (fun _ => rfl)
    have n79 := hns 79 (fun _ => rfl)
    have n118 := hns 118 (fun _ => rfl)
    have n119 := hns 119 (fun _ => rfl)
    have n120 := hns 120 (fun _ => rfl)
    exact ⟨decide_eq_false (by omega), decide_eq_false (by omega), n118⟩
  have hr : ∀ k j, chP k j = false → chR k j = false → k ≠ 118 → τ2.1 k j = σ.1 k j := fun k j h1 h2 h3 => by rw [hM.1.1 k j h2, hρ.1 k h3, hT.1.1 k j h1]
  have hp2 : τ2.2.2 = σ.2.2 := by rw [hM.1.2, hρ.2, hT.1.2]
  refine hI.simB ⟨fun k j hk => ?_, hp2⟩ ?_
  · obtain ⟨q1, q2, q3⟩ := hch1 k j hk
    exact hr k j q1 q2 q3
  · obtain ⟨n, hn5, k1, k2, hrow⟩ := hI.2.2.2.2.2.2.1
    obtain rfl : n = N := (nI_eq (show n < 2147483648 by omega) (show N < 2147483648 by omega)).mp (k1.symm.trans h63)
    have hrr : ∀ k, (∀ j, chP k j = false) → (∀ j, chR k j = false) → k ≠ 118 → τ2.1 k = σ.1 k := fun k h1 h2 h3 => funext fun j => hr k j (h1 j) (h2 j) h3
    have e1 : τ2.1 (τ2.2.2 1 + 1) = σ.1 (σ.2.2 1 + 1) := by
      rw [hp2]
      rcases hI.1.1 with ⟨q, -⟩ | ⟨q, -⟩ <;> rw [q]
      · exact hrr 5 (fun _ => rfl) (fun _ => rfl) (by decide)
      · exact hrr 8 (fun _ => rfl) (fun _ => rfl) (by decide)
    have x68 : ∀ v, τ2.1 68 v = τ1.1 68 v := fun v => by rw [hM.1.row (k := 68) fun _ => rfl, hρ.1 68 (by decide)]
    have x69 : ∀ v, τ2.1 69 v = τ1.1 69 v := fun v => by rw [hM.1.row (k := 69) fun _ => rfl, hρ.1 69 (by decide)]
    have x108 : ∀ v, ρ.1 108 v = σ.1 108 v := fun v => by rw [hρ.1 108 (by decide), hT.1.row (k := 108) fun _ => rfl]
    have x109 : ∀ v, ρ.1 109 v = σ.1 109 v := fun v => by rw [hρ.1 109 (by decide), hT.1.row (k := 109) fun _ => rfl]
    refine ⟨n, hn5, ?_, ?_, fun v hv => ?_⟩
    · rw [hr 63 0 rfl rfl (by decide)]; exact k1
    · rw [hr 84 43 rfl rfl (by decide)]; exact k2
    · have h := hrow v hv
      rw [e1, hrr 107 (fun _ => rfl) (fun _ => rfl) (by decide), hrr 64 (fun _ => rfl) (fun _ => rfl) (by decide), hrr 65 (fun _ => rfl) (fun _ => rfl) (by decide), hrr 66 (fun _ => rfl) (fun _ => rfl) (by decide), hrr 67 (fun _ => rfl) (fun _ => rfl) (by decide), hrr 72 (fun _ => rfl) (fun _ => rfl) (by decide), hr 84 21 rfl rfl (by decide), x68, x69]
      obtain ⟨c1', c2', c3', c4', c5, b1, b2, b3, b4, l1, l2, hsh⟩ := h
      cases hL : L0 v with
      | none =>
        have y69 := (hT.2.1 v hv).1 hL
        have y109 := (hM.2.1 v hv).1 hL
        have y68 := hT.2.2.1 v hv hL
        rw [y69, y109, y68]
        exact ⟨c1', c2', c3', c4', rfl, b1, b2, b3, b4, fun _ => rfl, fun q => absurd rfl q, hsh⟩
      | some x =>
        obtain ⟨z1, z2⟩ := hT.2.2.2.1 v hv (by rw [hL]; rfl)
        obtain ⟨z3, z4⟩ := hM.2.2.1 v hv (by rw [hL]; rfl)
        rw [z1, z2, z3, z4, x108, x109]
        exact ⟨c1', c2', c3', c4', c5, b1, b2, b3, b4, l1, l2, hsh⟩
