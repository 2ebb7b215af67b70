/-! storm: the call -/
theorem stU_some (l f a : Nat) (c : Option (Nat × Nat × Nat)) : (stU l f a c).isSome = true := by
  cases c with
  | none => rfl
  | some x =>
    obtain ⟨b, g, d⟩ := x
    by_cases q : l < b
    · rw [show stU l f a (some (b, g, d)) = some (l, f, a) from if_pos q]; rfl
    · rw [show stU l f a (some (b, g, d)) = some (b, g, d) from if_neg q]; rfl
theorem dvF_some {mi by' wo : Nat → Nat} {n a : Nat} : ∀ m f c, c.isSome = true ∨ 0 < m → (dvF mi by' wo n a m f c).isSome = true := by
  intro m
  induction m with
  | zero =>
    intro f c h
    rcases h with h | h
    · exact h
    · omega
  | succ m ih => intro f c _; exact ih _ _ (Or.inl (stU_some _ _ _ _))
theorem odF_some {mi by' wo : Nat → Nat} {one : Bool} {n : Nat} : ∀ t c, c.isSome = true ∨ t ≠ [] → (odF mi by' wo one n t c).isSome = true := by
  intro t
  induction t with
  | nil =>
    intro c h
    rcases h with h | h
    · exact h
    · exact absurd rfl h
  | cons a t ih =>
    intro c _
    refine ih _ (Or.inl (dvF_some _ _ _ (Or.inr ?_)))
    unfold fsF
    split <;> omega
theorem rngM {x : Int32} {n : Nat} (hn : n < 100000) : (-1 ≤ x ∧ x ≤ nI n - 1) = (x = -1 ∨ (0 ≤ x ∧ x ≤ nI n - 1)) := by
  apply propext
  constructor
  · rintro ⟨h1, h2⟩
    by_cases c : x < 0
    · left
      have q1 := Int32.le_iff_toInt_le.mp h1
      have q2 := Int32.lt_iff_toInt_lt.mp c
      have e1 : (-1 : Int32).toInt = -1 := by decide
      have e0 : (0 : Int32).toInt = 0 := by decide
      apply Int32.toInt_inj.mp
      omega
    · exact Or.inr ⟨Int32.not_lt.mp c, h2⟩
  · rintro (rfl | ⟨h1, h2⟩)
    · refine ⟨Int32.le_refl _, ?_⟩
      cases n with
      | zero => decide
      | succ n =>
        rw [nI_pred]
        have : (-1 : Int32) ≤ 0 := by decide
        exact Int32.le_trans this (nI_pos' (by omega))
    · exact ⟨Int32.le_trans (by decide) h1, h2⟩
theorem op_storm (a b : Int32) : xOp 142 239 [.int a, .int b] := by
  intro xs L σ hI
  obtain ⟨p, ns, nr, nd, ng, nt, hp, hpe, hb, ⟨hst, -⟩, ⟨hm0, -⟩⟩ := hI.1.get
  obtain ⟨n, mi, by', wo, hTX, hTK⟩ := hI.tasks
  have hns8 := hb.1
  have hns31 : ns < 2147483648 := by omega
  have hn6 := hTX.1.1
  have hn31 : n < 2147483648 := by omega
  have h73 := hTX.2.1
  have h47 := hTK.2.1
  have hR := rngM (x := b) (n := n) (by omega)
  by_cases hG : 0 < ns ∧ (1 ≤ a ∧ a ≤ 2) ∧ (b = -1 ∨ (0 ≤ b ∧ b ≤ nI n - 1))
  · obtain ⟨c1, c2, c3⟩ := hG
    obtain ⟨one, rfl⟩ : ∃ one : Bool, a = if one then 1 else 2 := by
      obtain ⟨k, hk, rfl⟩ := nI_of (x := a) (Int32.not_lt.mpr (Int32.le_trans (by decide) c2.1))
      have k1 := (nI_leI (a := 1) (by decide) hk).mp c2.1
      have k2 := (nI_leI (b := 2) hk (by decide)).mp c2.2
      have : k = 1 ∨ k = 2 := by omega
      rcases this with rfl | rfl
      · exact ⟨true, rfl⟩
      · exact ⟨false, rfl⟩
    have g1 := eq_true c2.1
    have g2 := eq_true c2.2
    obtain ⟨-, -, a0, t0, hat, -⟩ := ordT_ok hn6
    have hsome := odF_some (mi := mi) (by' := by') (wo := wo) (one := one) (n := n) (ordT n) none (Or.inr (by rw [hat]; exact fun q => by cases q))
    generalize hod : odF mi by' wo one n (ordT n) none = c at hsome
    obtain ⟨x, rfl⟩ : ∃ x, c = some x := Option.isSome_iff_exists.mp hsome
    obtain ⟨l, f, d⟩ := x
    have hM : ∀ τ0, xSim σ τ0 → ∀ Q : Int32 → xM → Prop, (∀ τ l5 l6 l7 l8, xSim σ τ → NK n τ (some (l, f, d)) → xC 239 177 [some (.ref 84), some (.int (if one then 1 else 2)), some (.int b), some (.int (nI l)), some (.int (nI f)), l5, l6, l7, l8] [] τ (xqI Q)) → xI1 239 [.ref 84, .int (if one then 1 else 2), .int b] τ0 Q := by
      intro τ0 hs0 Q hQ
      have hm0' : τ0.1 84 17 = nI ns := (hs0.1 84 17 rfl).trans hm0
      have h47' := (hTK.sim hs0).2.1
      have h0 : (nI ns = 0) = False := eq_false (fun q => by have := (nI_eq (a := ns) (b := 0) (by omega) (by decide)).mp q; omega)
      have hmm : xC 239 37 [some (.ref 84), some (.int (if one then 1 else 2)), some (.int b), none, none, none, none, none, none] [] τ0 (xqI Q) := by
        refine Mstorm_eq (hTK.sim hs0) (fun τ l5 l6 l7 l8 hs hc => ?_)
        rw [hod] at hc ⊢
        exact hQ τ l5 l6 l7 l8 (hs0.tr hs) hc
      rw [e239]
      rcases c3 with c3 | c3
      · simp only [s239_0, s239_1, s239_4, s239_7, s239_8, s239_9, s239_10, s239_13, s239_16, s239_17, s239_18, s239_21, s239_22, s239_23, s239_24, s239_27, s239_28, s239_29, s239_32, s239_35, s239_36, xcx_i, xcx_r, xcx_n, xcx_l, xcx_0, hm0', h0, not_false_eq_true, in_eq, g1, g2, and_self, xb_f, ite_not, not_true, if_true, if_false, c3, true_or, or_true, true_and]
        rw [c3] at hmm
        exact hmm
      · by_cases cm : b = -1
        · simp only [s239_0, s239_1, s239_4, s239_7, s239_8, s239_9, s239_10, s239_13, s239_16, s239_17, s239_18, s239_21, s239_22, s239_23, s239_24, s239_27, s239_28, s239_29, s239_32, s239_35, s239_36, xcx_i, xcx_r, xcx_n, xcx_l, xcx_0, hm0', h0, not_false_eq_true, in_eq, g1, g2, and_self, xb_f, ite_not, not_true, if_true, if_false, cm, true_or, or_true, true_and]
          rw [cm] at hmm
          exact hmm
        · simp only [s239_0, s239_1, s239_4, s239_7, s239_8, s239_9, s239_10, s239_13, s239_16, s239_17, s239_18, s239_21, s239_22, s239_23, s239_24, s239_27, s239_28, s239_29, s239_32, s239_35, s239_36, xcx_i, xcx_r, xcx_n, xcx_l, xcx_0, hm0', h0, not_false_eq_true, in_eq, g1, g2, and_self, xb_f, ite_not, not_true, if_true, if_false, cm, h47', if_pos c3, true_or, or_true, true_and]
          exact hmm
    have hfin : ∀ τ1, xSim σ τ1 → NX n τ1 (some (l, f, d)) → xC 142 50 [some (.ref 0), some (.int (if one then 1 else 2)), some (.int b)] [] τ1 (xqI (fun r1 σ1 => xI1 239 (.ref 84 :: [.int (if one then 1 else 2), .int b]) σ1 (fun r2 σ2 => r1 = r2 ∧ xInv xs L σ2))) := by
      intro τ1 hs1 hc1
      obtain ⟨hok, e1, e3⟩ := hc1
      obtain ⟨hl, hf⟩ := hok l f d rfl
      obtain ⟨e3, er⟩ := e3 l f d rfl
      have e1 : τ1.1 73 1 = nI l := e1
      by_cases cm : b = -1
      · simp only [s142_50, s142_51, s142_52, s142_55, s142_56, s142_59, s142_62, xcx_i, xcx_r, xcx_n, xcx_l, xcx_0, cm, not_true, if_true, if_false, e1]
        rw [cm] at hM
        refine hM τ1 hs1 _ (fun τ l5 l6 l7 l8 hs _ => ?_)
        simp only [s239_177, s239_178, s239_179, s239_182, s239_183, s239_207, xcx_i, xcx_r, xcx_n, xcx_l, xcx_0, not_true, if_true, if_false]
        first | exact hI.sim hs | exact ⟨trivial, hI.sim hs⟩ | exact ⟨rfl, hI.sim hs⟩
      · have c4 : 0 ≤ b ∧ b ≤ nI n - 1 := by
          rcases c3 with q | q
          · exact absurd q cm
          · exact q
        obtain ⟨k, hk, rfl⟩ := (rng_iff hn31).mp c4
        have k6 : k < 6 := by omega
        have hx74 : xat τ1 74 (nI k) = nI (decR d k) := by rw [xat_n (by rw [xln_74]; exact k6)]; exact er k hk
        have e2 : (nI f ≤ nI k) = ¬ (k < f) := by rw [nI_leL (by omega) (by omega)]; exact propext ⟨fun q => by omega, fun q => by omega⟩
        have b0 : k < 100000 := by omega
        by_cases ck : k < f
        · simp only [s142_50, s142_51, s142_52, s142_55, s142_56, s142_59, s142_62, s142_63, s142_64, s142_67, s142_70, s142_71, s142_74, s142_76, s142_77, s142_78, s142_79, s142_82, s142_85, s142_88, s142_89, s142_92, s142_93, s142_94, xcx_i, xcx_r, xcx_n, xcx_l, xcx_0, cm, not_false_eq_true, if_true, if_false, at_eq, xcl_74, hx74, e3, e2, ck, not_true, true_or, or_true]
          refine hM τ1 hs1 _ (fun τ l5 l6 l7 l8 hs hc => ?_)
          have hr := hc.2 l f d rfl k hk
          simp only [s239_177, s239_178, s239_179, s239_182, s239_183, s239_186, s239_188, s239_189, s239_192, s239_193, s239_194, s239_195, s239_196, s239_198, s239_201, s239_202, s239_205, s239_206, s239_207, xcx_i, xcx_r, xcx_n, xcx_l, xcx_0, cm, not_false_eq_true, if_true, if_false, xcl_121, xln_121, k6, b0, cl_s, pos_s, true_and, hr, e2, ck, not_true, mr_10, ml_10, Nat.mul_comm]
          first | exact hI.sim hs | exact ⟨trivial, hI.sim hs⟩
        · simp only [s142_50, s142_51, s142_52, s142_55, s142_56, s142_59, s142_62, s142_63, s142_64, s142_67, s142_70, s142_71, s142_74, s142_76, s142_77, s142_78, s142_79, s142_82, s142_85, s142_88, s142_89, s142_92, s142_93, s142_94, xcx_i, xcx_r, xcx_n, xcx_l, xcx_0, cm, not_false_eq_true, if_true, if_false, at_eq, xcl_74, hx74, e3, e2, ck, true_or, or_true]
          refine hM τ1 hs1 _ (fun τ l5 l6 l7 l8 hs hc => ?_)
          have hr := hc.2 l f d rfl k hk
          simp only [s239_177, s239_178, s239_179, s239_182, s239_183, s239_186, s239_188, s239_189, s239_192, s239_193, s239_194, s239_195, s239_196, s239_198, s239_201, s239_202, s239_205, s239_206, s239_207, xcx_i, xcx_r, xcx_n, xcx_l, xcx_0, cm, not_false_eq_true, if_true, if_false, xcl_121, xln_121, k6, b0, cl_s, pos_s, true_and, hr, e2, ck, mr_10, ml_10, Nat.mul_comm]
          first | exact hI.sim hs | exact ⟨trivial, hI.sim hs⟩
    have hfl : ∀ Q : xM → Prop, (∀ τ, xSim σ τ → NX n τ (some (l, f, d)) → Q τ) → xV 58 [.ref 73, .int (if one then 1 else 2), .ref 78] σ Q := by
      intro Q hQ
      refine XfindLeast hTX (fun τ hs hc => ?_)
      rw [hod] at hc
      exact hQ τ hs hc
    rw [← hR] at c3
    rw [e142]
    rcases hp with rfl | rfl
    · simp only [s142_0, s142_1, s142_4_4, s142_4_7, s142_7, s142_10, s142_11, s142_12, s142_13, s142_16, s142_19, s142_20, s142_21, s142_22, s142_25, s142_28, s142_29, s142_30, s142_33, s142_36, s142_37, s142_38, s142_39, s142_42, s142_43, s142_44, s142_47, xcx_i, xcx_r, xcx_n, xcx_l, xcx_0, hpe, stands_eq, hst, xb_f, ite_not, nr_0, hns31, c1, within_eq, g1, g2, and_self, h73, if_pos c3, if_true, not_true, if_false, true_or, or_true, true_and]
      exact hfl _ hfin
    · simp only [s142_0, s142_1, s142_4_4, s142_4_7, s142_7, s142_10, s142_11, s142_12, s142_13, s142_16, s142_19, s142_20, s142_21, s142_22, s142_25, s142_28, s142_29, s142_30, s142_33, s142_36, s142_37, s142_38, s142_39, s142_42, s142_43, s142_44, s142_47, xcx_i, xcx_r, xcx_n, xcx_l, xcx_0, hpe, stands_eq, hst, xb_f, ite_not, nr_0, hns31, c1, within_eq, g1, g2, and_self, h73, if_pos c3, if_true, not_true, if_false, true_or, or_true, true_and]
      exact hfl _ hfin
  · have hx : ∀ Q : Int32 → xM → Prop, xI1 142 [.ref 0, .int a, .int b] σ Q = Q (-1) σ := by
      intro Q
      by_cases c1 : 0 < ns
      · by_cases c2 : 1 ≤ a ∧ a ≤ 2
        · have c3 : ¬ (-1 ≤ b ∧ b ≤ nI n - 1) := by rw [hR]; exact fun q => hG ⟨c1, c2, q⟩
          rw [e142]
          rcases hp with rfl | rfl <;> simp only [s142_0, s142_1, s142_4_4, s142_4_7, s142_7, s142_10, s142_11, s142_12, s142_13, s142_16, s142_19, s142_20, s142_21, s142_22, s142_25, s142_28, s142_29, s142_30, s142_33, s142_36, s142_37, xcx_i, xcx_r, xcx_n, xcx_l, xcx_0, hpe, stands_eq, hst, xb_f, ite_not, nr_0, hns31, c1, within_eq, if_pos c2, if_neg c3, h73, if_true, if_false, true_or, or_true, true_and]
        · rw [e142]
          rcases hp with rfl | rfl <;> simp only [s142_0, s142_1, s142_4_4, s142_4_7, s142_7, s142_10, s142_11, s142_12, s142_13, s142_16, s142_19, s142_20, s142_21, s142_22, s142_25, s142_28, s142_29, s142_30, s142_33, s142_36, s142_37, xcx_i, xcx_r, xcx_n, xcx_l, xcx_0, hpe, stands_eq, hst, xb_f, ite_not, nr_0, hns31, c1, within_eq, if_neg c2, if_true, if_false, true_or, or_true, true_and]
      · rw [e142]
        rcases hp with rfl | rfl <;> simp only [s142_0, s142_1, s142_4_4, s142_4_7, s142_7, s142_10, s142_11, s142_12, s142_13, s142_16, s142_19, s142_20, s142_21, s142_22, s142_25, s142_28, s142_29, s142_30, s142_33, s142_36, s142_37, xcx_i, xcx_r, xcx_n, xcx_l, xcx_0, hpe, stands_eq, hst, xb_f, ite_not, nr_0, hns31, c1, if_true, if_false, true_or, or_true, true_and]
    have hm : ∀ Q : Int32 → xM → Prop, xI1 239 [.ref 84, .int a, .int b] σ Q = Q (-1) σ := by
      intro Q
      by_cases c1 : 0 < ns
      · have h0 : (nI ns = 0) = False := eq_false (fun q => by have := (nI_eq (a := ns) (b := 0) (by omega) (by decide)).mp q; omega)
        by_cases c2 : 1 ≤ a ∧ a ≤ 2
        · have cm : (b = -1) = False := eq_false (fun q => hG ⟨c1, c2, Or.inl q⟩)
          have c4 : ¬ (0 ≤ b ∧ b ≤ nI n - 1) := fun q => hG ⟨c1, c2, Or.inr q⟩
          rw [e239]
          simp only [s239_0, s239_1, s239_4, s239_7, s239_8, s239_9, s239_10, s239_13, s239_16, s239_17, s239_18, s239_21, s239_22, s239_23, s239_24, s239_27, s239_28, s239_29, s239_32, s239_35, s239_36, xcx_i, xcx_r, xcx_n, xcx_l, xcx_0, hm0, h0, in_eq, if_pos c2, xb_f, ite_not, not_false_eq_true, if_true, if_false, cm, h47, if_neg c4, true_or, or_true, true_and]
        · rw [e239]
          simp only [s239_0, s239_1, s239_4, s239_7, s239_8, s239_9, s239_10, s239_13, s239_16, s239_17, s239_18, s239_21, s239_22, s239_23, s239_24, s239_27, s239_28, s239_29, s239_32, s239_35, s239_36, xcx_i, xcx_r, xcx_n, xcx_l, xcx_0, hm0, h0, in_eq, if_neg c2, xb_f, ite_not, not_false_eq_true, if_true, if_false, true_or, or_true, true_and]
      · have h0 : (nI ns = 0) = True := eq_true (by rw [show ns = 0 by omega]; rfl)
        rw [e239]
        simp only [s239_0, s239_1, s239_4, s239_7, s239_8, s239_9, s239_10, s239_13, s239_16, s239_17, s239_18, s239_21, s239_22, s239_23, s239_24, s239_27, s239_28, s239_29, s239_32, s239_35, s239_36, xcx_i, xcx_r, xcx_n, xcx_l, xcx_0, hm0, h0, not_true, if_true, if_false, true_or, or_true, true_and]
    rw [hx, hm]
    exact ⟨rfl, hI⟩
