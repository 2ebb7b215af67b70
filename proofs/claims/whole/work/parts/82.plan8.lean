/-! plan: the call -/
theorem op_plan (b : Int32) : xOp 140 236 [.int b] := by
  intro xs L σ hI
  obtain ⟨p, ns, nr, nd0, ng, nt, hp, hpe, hb, ⟨hst, -⟩, ⟨hm0, -⟩⟩ := hI.1.get
  obtain ⟨N, le, dr, co, st, L0, p', nd, dp, wa, hVX, hVM, hLX, hLM, hSX, hB, hfit⟩ := gB.get hI.2.2.2.2.2.2.1 hI.1
  obtain rfl : p' = p := hB.2.1.symm.trans hpe
  have hns8 := hb.1
  have hns31 : ns < 2147483648 := by omega
  have hN5 := hVX.1
  have hN31 : N < 2147483648 := by omega
  have h63 := hVX.2.1
  have h43 := hVM.2.1
  have hR := rngM (x := b) (n := N) (by omega)
  have h10 : ¬ (1 : Int32) = 0 := by decide
  have hLZ : lZ σ N L0 := by
    intro v hv hn
    obtain ⟨n, hn5, k1, k2, hrow⟩ := hI.2.2.2.2.2.2.1
    obtain rfl : n = N := (nI_eq (show n < 2147483648 by omega) (show N < 2147483648 by omega)).mp (k1.symm.trans h63)
    exact (hrow v hv).2.2.2.2.2.2.2.2.2.1 ((hLX v hv).1 hn)
  by_cases hG : 0 < ns ∧ (b = -1 ∨ (0 ≤ b ∧ b ≤ nI N - 1))
  · obtain ⟨c1, c3⟩ := hG
    have h0 : (nI ns = 0) = False := eq_false (fun q => by have := (nI_eq (a := ns) (b := 0) (by omega) (by decide)).mp q; omega)
    have c3' := c3
    rw [← hR] at c3'
    generalize hcf : plF le dr co st dp wa N (cwF L0 N) (wvF L0 N) L0 (ordT (cwF L0 N)) none = cf
    have hM : ∀ τ1, xSimW chP σ τ1 → ∀ Q : Int32 → xM → Prop, (∀ ρ τ a l5 l6 l7 l8, only 118 τ1 ρ → TM ρ τ N L0 a cf L0 → xC 236 364 [some (.ref 84), some (.int b), some (.int (nI (cwF L0 N))), some (.int (nI (opF L0 N))), some (.int (bsI cf)), l5, l6, l7, l8] [] τ (xqI Q)) → xI1 236 [.ref 84, .int b] τ1 Q := by
      intro τ1 hs1 Q hQ
      have hBτ : pB τ1 p' nd dp wa := hB.P hs1
      have hVτ : vM τ1 N le dr co st := by
        unfold vM; rw [hs1.1 84 43 rfl, hs1.row (k := 107) fun _ => rfl]; exact hVM
      have hLτ : lM τ1 N L0 := by
        unfold lM; rw [hs1.row (k := 108) fun _ => rfl, hs1.row (k := 109) fun _ => rfl]; exact hLM
      have hm0' : τ1.1 84 17 = nI ns := (hs1.1 84 17 rfl).trans hm0
      have h43' : τ1.1 84 43 = nI N := (hs1.1 84 43 rfl).trans h43
      rw [← hcf] at hQ
      have hpl := Mplan_eq (w1 := b) (Q := Q) hBτ hVτ hLτ hQ
      rw [e236]
      rcases c3 with c3 | c3
      · simp only [s236_0, s236_1, s236_4, s236_7, s236_8, s236_9, s236_12, s236_13, s236_14, s236_17, s236_20, s236_21, xcx_i, xcx_r, xcx_n, xcx_l, xcx_0, hm0', h0, not_false_eq_true, c3, not_true, if_true, if_false, true_or, or_true, true_and]
        rw [c3] at hpl
        exact hpl
      · by_cases cm : b = -1
        · simp only [s236_0, s236_1, s236_4, s236_7, s236_8, s236_9, s236_12, s236_13, s236_14, s236_17, s236_20, s236_21, xcx_i, xcx_r, xcx_n, xcx_l, xcx_0, hm0', h0, not_false_eq_true, cm, not_true, if_true, if_false, true_or, or_true, true_and]
          rw [cm] at hpl
          exact hpl
        · simp only [s236_0, s236_1, s236_4, s236_7, s236_8, s236_9, s236_12, s236_13, s236_14, s236_17, s236_20, s236_21, xcx_i, xcx_r, xcx_n, xcx_l, xcx_0, hm0', h0, not_false_eq_true, cm, isVisit_eq, h43', if_pos c3, xb_f, ite_not, if_true, if_false, true_or, or_true, true_and]
          exact hpl
    have hfin : ∀ τ1 a, TX σ τ1 N L0 a cf L0 → xC 140 44 [some (.ref 0), some (.int b)] [.int (if cf.isSome then 1 else 0)] τ1 (xqI (fun r1 σ1 => xI1 236 (.ref 84 :: [.int b]) σ1 (fun r2 σ2 => r1 = r2 ∧ xInv xs L σ2))) := by
      intro τ1 a hT
      have hinv : ∀ ρ τ a', only 118 τ1 ρ → TM ρ τ N L0 a' cf L0 → xInv xs L τ := fun ρ τ a' h1 h2 => hI.plan hN5 h63 hLX hLM hT h1 h2
      cases cf with
      | none =>
        show xC 140 44 [some (.ref 0), some (.int b)] [.int 0] τ1 _
        simp only [s140_44, s140_47, s140_48, xcx_i, xcx_r, xcx_n, xcx_l, xcx_0, not_true, if_true, if_false]
        refine hM τ1 hT.1 _ (fun ρ τ a' l5 l6 l7 l8 h1 h2 => ?_)
        simp only [s236_364, s236_366, s236_367, s236_370, s236_371, s236_372, s236_375, s236_377, s236_386, xcx_i, xcx_r, xcx_n, xcx_l, xcx_0, bsI, if_true, true_or, or_true]
        first | exact hinv ρ τ a' h1 h2 | exact ⟨trivial, hinv ρ τ a' h1 h2⟩ | exact ⟨rfl, hinv ρ τ a' h1 h2⟩
      | some x =>
        obtain ⟨s, K⟩ := x
        have h7 : τ1.1 63 7 = nI s := hT.2.2.2.2.2.2.1
        have h70 := hT.2.2.2.2.2.2.2 s K rfl
        show xC 140 44 [some (.ref 0), some (.int b)] [.int 1] τ1 _
        by_cases cm : b = -1
        · simp only [s140_44, s140_47, s140_48, s140_49, s140_50, s140_51, s140_54, s140_55, s140_58, s140_61, s140_64, s140_65, s140_68, s140_71, s140_72, s140_75, xcx_i, xcx_r, xcx_n, xcx_l, xcx_0, h10, not_false_eq_true, if_true, if_false, cm, not_true, h7]
          rw [cm] at hM
          refine hM τ1 hT.1 _ (fun ρ τ a' l5 l6 l7 l8 h1 h2 => ?_)
          by_cases cs : nI s = -1
          · simp only [s236_364, s236_366, s236_367, s236_370, s236_371, s236_372, s236_375, s236_377, s236_380, s236_381, s236_384, s236_385, s236_386, xcx_i, xcx_r, xcx_n, xcx_l, xcx_0, bsI, cs, not_true, if_true, if_false]
            first | exact hinv ρ τ a' h1 h2 | exact ⟨trivial, hinv ρ τ a' h1 h2⟩ | exact ⟨rfl, hinv ρ τ a' h1 h2⟩
          · simp only [s236_364, s236_366, s236_367, s236_370, s236_371, s236_372, s236_375, s236_377, s236_380, s236_381, s236_384, s236_385, s236_386, xcx_i, xcx_r, xcx_n, xcx_l, xcx_0, bsI, cs, not_true, if_true, if_false]
            first | exact hinv ρ τ a' h1 h2 | exact ⟨trivial, hinv ρ τ a' h1 h2⟩ | exact ⟨rfl, hinv ρ τ a' h1 h2⟩
        · have c4 : 0 ≤ b ∧ b ≤ nI N - 1 := by
            rcases c3 with q | q
            · exact absurd q cm
            · exact q
          obtain ⟨k, hk, rfl⟩ := (rng_iff hN31).mp c4
          have k5 : k < 5 := by omega
          have b0 : k < 100000 := by omega
          have hx70 : xat τ1 70 (nI k) = nI (cdL K k) := by rw [xat_n (by rw [xln_70]; exact k5)]; exact h70 k hk
          have hok : plOk (some (s, K)) := by
            rw [← hcf]
            have hcw := cwF_le L0 N
            have hgen : ∀ t c, plOk c → plOk (plF le dr co st dp wa N (cwF L0 N) (wvF L0 N) L0 t c) := by
              intro t
              induction t with
              | nil => intro c hc; exact hc
              | cons a t ih => intro c hc; exact ih _ (plT_ok (by omega) hc)
            exact hgen _ none (fun b K e => by cases e)
          have es := nI_m1 (show s < 2147483648 by have := hok s K rfl; omega)
          simp only [s140_44, s140_47, s140_48, s140_49, s140_50, s140_51, s140_54, s140_55, s140_58, s140_61, s140_64, s140_65, s140_68, s140_71, s140_72, s140_75, xcx_i, xcx_r, xcx_n, xcx_l, xcx_0, h10, not_false_eq_true, if_true, if_false, cm, at_eq, xcl_70, hx70]
          refine hM τ1 hT.1 _ (fun ρ τ a' l5 l6 l7 l8 h1 h2 => ?_)
          have r120 := h2.2.2.2.2.2 s K rfl k hk
          simp only [s236_364, s236_366, s236_367, s236_370, s236_371, s236_372, s236_375, s236_377, s236_380, s236_381, s236_384, s236_385, s236_386, xcx_i, xcx_r, xcx_n, xcx_l, xcx_0, bsI, es, cm, not_false_eq_true, if_true, if_false, xcl_120, xln_120, k5, b0, cl_s, pos_s, true_and, r120]
          first | exact hinv ρ τ a' h1 h2 | exact ⟨trivial, hinv ρ τ a' h1 h2⟩ | exact ⟨rfl, hinv ρ τ a' h1 h2⟩
    have hpa : ∀ Q : Int32 → xM → Prop, (∀ τ a, TX σ τ N L0 a cf L0 → Q (if cf.isSome then 1 else 0) τ) → xI1 24 [.ref 63, .ref p', .ref 78] σ Q := by
      intro Q hQ
      rw [← hcf] at hQ
      exact XplanAll hB hVX hSX hLX hLZ hQ
    rw [e140]
    rcases hp with rfl | rfl
    · simp only [s140_0, s140_1, s140_4_4, s140_4_7, s140_7, s140_10, s140_11, s140_12, s140_13, s140_16, s140_19, s140_20, s140_21, s140_24, s140_27, s140_28, s140_29, s140_30, s140_33, s140_34, s140_37, s140_38, s140_41, xcx_i, xcx_r, xcx_n, xcx_l, xcx_0, hpe, stands_eq, hst, xb_f, ite_not, nr_0, hns31, c1, within_eq, h63, if_pos c3', if_true, not_true, if_false, true_or, or_true, true_and]
      refine hpa _ (fun τ a hT => ?_)
      have h01 : ((if cf.isSome = true then (1 : Int32) else 0) = 0 ∨ (if cf.isSome = true then (1 : Int32) else 0) = 1) := by split <;> simp
      first | exact hfin τ a hT | exact ⟨h01, hfin τ a hT⟩
    · simp only [s140_0, s140_1, s140_4_4, s140_4_7, s140_7, s140_10, s140_11, s140_12, s140_13, s140_16, s140_19, s140_20, s140_21, s140_24, s140_27, s140_28, s140_29, s140_30, s140_33, s140_34, s140_37, s140_38, s140_41, xcx_i, xcx_r, xcx_n, xcx_l, xcx_0, hpe, stands_eq, hst, xb_f, ite_not, nr_0, hns31, c1, within_eq, h63, if_pos c3', if_true, not_true, if_false, true_or, or_true, true_and]
      refine hpa _ (fun τ a hT => ?_)
      have h01 : ((if cf.isSome = true then (1 : Int32) else 0) = 0 ∨ (if cf.isSome = true then (1 : Int32) else 0) = 1) := by split <;> simp
      first | exact hfin τ a hT | exact ⟨h01, hfin τ a hT⟩
  · have hx : ∀ Q : Int32 → xM → Prop, xI1 140 [.ref 0, .int b] σ Q = Q (-1) σ := by
      intro Q
      by_cases c1 : 0 < ns
      · have c3 : ¬ (-1 ≤ b ∧ b ≤ nI N - 1) := by rw [hR]; exact fun q => hG ⟨c1, q⟩
        rw [e140]
        rcases hp with rfl | rfl <;> simp only [s140_0, s140_1, s140_4_4, s140_4_7, s140_7, s140_10, s140_11, s140_12, s140_13, s140_16, s140_19, s140_20, s140_21, s140_24, s140_27, s140_28, xcx_i, xcx_r, xcx_n, xcx_l, xcx_0, hpe, stands_eq, hst, xb_f, ite_not, nr_0, hns31, c1, within_eq, h63, if_neg c3, if_true, if_false, true_or, or_true, true_and]
      · rw [e140]
        rcases hp with rfl | rfl <;> simp only [s140_0, s140_1, s140_4_4, s140_4_7, s140_7, s140_10, s140_11, s140_12, s140_13, s140_16, s140_19, s140_20, s140_21, s140_24, s140_27, s140_28, xcx_i, xcx_r, xcx_n, xcx_l, xcx_0, hpe, stands_eq, hst, xb_f, ite_not, nr_0, hns31, c1, if_true, if_false, true_or, or_true, true_and]
    have hm : ∀ Q : Int32 → xM → Prop, xI1 236 [.ref 84, .int b] σ Q = Q (-1) σ := by
      intro Q
      by_cases c1 : 0 < ns
      · have h0 : (nI ns = 0) = False := eq_false (fun q => by have := (nI_eq (a := ns) (b := 0) (by omega) (by decide)).mp q; omega)
        have cm : (b = -1) = False := eq_false (fun q => hG ⟨c1, Or.inl q⟩)
        have c4 : ¬ (0 ≤ b ∧ b ≤ nI N - 1) := fun q => hG ⟨c1, Or.inr q⟩
        rw [e236]
        simp only [s236_0, s236_1, s236_4, s236_7, s236_8, s236_9, s236_12, s236_13, s236_14, s236_17, s236_20, s236_21, xcx_i, xcx_r, xcx_n, xcx_l, xcx_0, hm0, h0, not_false_eq_true, cm, isVisit_eq, h43, if_neg c4, xb_f, ite_not, if_true, if_false, true_or, or_true, true_and]
      · have h0 : (nI ns = 0) = True := eq_true (by rw [show ns = 0 by omega]; rfl)
        rw [e236]
        simp only [s236_0, s236_1, s236_4, s236_7, s236_8, s236_9, s236_12, s236_13, s236_14, s236_17, s236_20, s236_21, xcx_i, xcx_r, xcx_n, xcx_l, xcx_0, hm0, h0, not_true, if_true, if_false, true_or, or_true, true_and]
    rw [hx, hm]
    exact ⟨rfl, hI⟩
