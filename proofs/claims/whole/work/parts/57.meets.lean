/-! all the calls, met in their order -/
theorem Xfill {k n : Nat} {σ : xM} {v : Int32} {Q : xM → Prop} (hk : xe_cls k = 100) (hn : xt_len.getD k 0 = n) (hQ : ∀ τ, only k σ τ → (∀ i, i < n → τ.1 k i = v) → Q τ) : xV 6 [.ref k, .int v] σ Q := by
  have hn31 : n < 2147483648 := by rw [← hn]; exact xlen_lt k
  have h100 : ∀ {P : Prop}, (xe_cls k = 100 ∨ P) = True := fun {P} => eq_true (Or.inl hk)
  have loop : ∀ m i, i + m = n → ∀ τ, only k σ τ → (∀ j, j < i → τ.1 k j = v) → xC 6 5 [some (.ref k), some (.int v), some (.int (nI i)), some (.int (nI n))] [] τ (xqV Q) := by
    intro m
    induction m with
    | zero =>
      intro i hi τ hs hd
      obtain rfl : i = n := by omega
      rw [s6_5]
      simp only [s6_6, s6_7, s6_10, s6_11, s6_12, s6_13, s6_14, s6_17, s6_20, xcx_i, xcx_r, xcx_n, xcx_l, xcx_0, Int32.le_refl, if_true]
      exact hQ τ hs hd
    | succ m ih =>
      intro i hi τ hs hd
      have e : (nI n ≤ nI i) = False := eq_false (fun q => by have := (nI_leI (a := n) (b := i) (by omega) (by omega)).mp q; omega)
      have hi0 : (0 ≤ nI i) = True := eq_true (nI_pos' (by omega))
      have hic : (nI i).toNatClampNeg = i := nI_cl i (by omega)
      have hin : (i < xt_len.getD k 0) = True := eq_true (by omega)
      rw [s6_5]
      simp only [s6_6, s6_7, s6_10, s6_11, s6_12, s6_13, s6_14, s6_17, s6_20, xcx_i, xcx_r, xcx_n, xcx_l, xcx_0, e, if_false, hk, hi0, hic, hin, true_and, nI_1, or_true, true_or]
      refine ih (i + 1) (by omega) _ hs.si (fun j hj => ?_)
      rw [si_rd]
      by_cases q : j = i
      · rw [if_pos ⟨rfl, q⟩]
      · rw [if_neg (fun w => q w.2)]; exact hd j (by omega)
  rw [e6]
  simp only [s6_0, s6_1, s6_2, s6_3, s6_3_l, s6_3_q, s6_4, xcx_i, xcx_r, xcx_n, xcx_l, xcx_0, hk, hn]
  exact loop n 0 (by omega) σ (only.rf _ _) (fun j hj => absurd hj (Nat.not_lt_zero j))
theorem Xmeet {σ : xM} {p nc ng nt r : Nat} {mi me la wn mn sl : Nat → Nat} {Q : xM → Prop} (hC : cX σ p nc mi me la wn ng mn sl nt) (hr : r < 2147483648) (hgi : ∀ c, c < nc → r / 4 ^ c % 4 < ng) (hQ : ∀ τ, MX σ τ nc (run mi la wn sl (fun c => r / 4 ^ c % 4) nt nc) → Q τ) : xV 30 [.ref 51, .ref p, .int (nI r)] σ Q := by
  have hC0 := hC
  obtain ⟨⟨hc6, hg4, ht6, hcb, hgb⟩, ⟨hp, hpe, hgp, htp, hgr⟩, hk, hrow⟩ := hC
  have loop : ∀ m c, c + m = nc → ∀ τ, MX σ τ c (run mi la wn sl (fun c => r / 4 ^ c % 4) nt c) → xC 30 38 [some (.ref 51), some (.ref p), some (.int (nI r)), some (.int (nI c))] [] τ (xqV Q) := by
    intro m
    induction m with
    | zero =>
      intro c hc τ hM
      obtain rfl : c = nc := by omega
      have hkτ : τ.1 51 0 = nI c := (hM.1.1 51 0 rfl).trans hk
      rw [s30_38]
      simp only [s30_39, s30_40, s30_43, s30_46, s30_47, s30_48, s30_49, s30_50, s30_53, s30_54, s30_57, s30_60, s30_63, xcx_i, xcx_r, xcx_n, xcx_l, xcx_0, hkτ, Int32.le_refl, if_true]
      exact hQ τ hM
    | succ m ih =>
      intro c hc τ hM
      have hkτ : τ.1 51 0 = nI nc := (hM.1.1 51 0 rfl).trans hk
      have e : (nI nc ≤ nI c) = False := eq_false (fun q => by have := (nI_leI (a := nc) (b := c) (by omega) (by omega)).mp q; omega)
      have hG : ∀ (τ : xM) (Q : Int32 → xM → Prop), xI1 28 [.int (nI r), .int (nI c)] τ Q = _ := fun τ Q => XgangOf hr (by omega)
      have hO := fun (Q : xM → Prop) hQ' => XmeetOne (gi := fun c => r / 4 ^ c % 4) (Q := Q) hC0 (show c < nc by omega) (hgi c (by omega)) hM hQ'
      rw [s30_38]
      rcases hp with rfl | rfl
      · simp only [s30_39, s30_40, s30_43, s30_46, s30_47, s30_48, s30_49, s30_50, s30_53, s30_54, xcx_i, xcx_r, xcx_n, xcx_l, xcx_0, hkτ, e, if_false, hG, true_or, or_true]
        refine hO _ (fun τ' hM' => ?_)
        simp only [s30_57, s30_60, xcx_i, xcx_r, xcx_n, xcx_l, xcx_0, nI_1]
        exact ih (c + 1) (by omega) τ' hM'
      · simp only [s30_39, s30_40, s30_43, s30_46, s30_47, s30_48, s30_49, s30_50, s30_53, s30_54, xcx_i, xcx_r, xcx_n, xcx_l, xcx_0, hkτ, e, if_false, hG, true_or, or_true]
        refine hO _ (fun τ' hM' => ?_)
        simp only [s30_57, s30_60, xcx_i, xcx_r, xcx_n, xcx_l, xcx_0, nI_1]
        exact ih (c + 1) (by omega) τ' hM'
  have hfin : xC 30 20 [some (.ref 51), some (.ref p), some (.int (nI r)), none] [] (xe_si (xe_si (xe_si (xe_si σ 51 1 0) 51 2 0) 51 3 0) 51 4 0) (xqV Q) := by
    simp only [s30_20, s30_21, s30_24, s30_25, xcx_i, xcx_r, xcx_n, xcx_l, xcx_0]
    refine Xfill (n := 4) xcl_57 xln_57 (fun τ1 hs1 h1 => ?_)
    simp only [s30_28, s30_29, s30_32, s30_33, xcx_i, xcx_r, xcx_n, xcx_l, xcx_0]
    refine Xfill (n := 6) xcl_58 xln_58 (fun τ2 hs2 h2 => ?_)
    simp only [s30_36, s30_37, xcx_i, xcx_r, xcx_n, xcx_l, xcx_0]
    have hs0 : xSim σ (xe_si (xe_si (xe_si (xe_si σ 51 1 0) 51 2 0) 51 3 0) 51 4 0) := ((((xSim.rf σ).si rfl).si rfl).si rfl).si rfl
    refine loop nc 0 (by omega) τ2 ⟨only.to (only.to hs0 hs1 (fun _ => rfl)) hs2 (fun _ => rfl), fun i hi => ?_, fun i hi => absurd hi (Nat.not_lt_zero i), fun i hi => ?_, fun i hi => h2 i hi, run_bd 0 (by decide) (fun d hd => absurd hd (Nat.not_lt_zero d))⟩
    · rw [hs2.1 51 (by decide), hs1.1 51 (by decide)]
      have : i = 0 ∨ i = 1 ∨ i = 2 ∨ i = 3 := by omega
      rcases this with rfl | rfl | rfl | rfl <;> rfl
    · rw [hs2.1 57 (by decide)]; exact h1 i hi
  rw [e30]
  simp only [s30_0, s30_1, s30_2, s30_5, s30_6, s30_7, s30_10, s30_11, s30_12, s30_15, s30_16, s30_17, xcx_i, xcx_r, xcx_n, xcx_l, xcx_0]
  exact hfin
theorem Mfil {c n : Nat} {σ : xM} {y pc pe : Nat} {l0 l1 : Option Value} {Q : Option Value → xM → Prop} {rest : List (Option Value)} (hn : n < 100000) (hstep : ∀ (τ : xM) i, i < n → xC y pc (l0 :: l1 :: some (.int (nI i)) :: rest) [] τ Q = xC y pc (l0 :: l1 :: some (.int (nI (i + 1))) :: rest) [] (xe_si τ c i 0) Q) (hend : ∀ τ : xM, xC y pc (l0 :: l1 :: some (.int (nI n)) :: rest) [] τ Q = xC y pe (l0 :: l1 :: some (.int (nI n)) :: rest) [] τ Q) (hQ : ∀ τ, only c σ τ → (∀ i, i < n → τ.1 c i = 0) → xC y pe (l0 :: l1 :: some (.int (nI n)) :: rest) [] τ Q) : xC y pc (l0 :: l1 :: some (.int (nI 0)) :: rest) [] σ Q := by
  have loop : ∀ m i, i + m = n → ∀ τ, only c σ τ → (∀ j, j < i → τ.1 c j = 0) → xC y pc (l0 :: l1 :: some (.int (nI i)) :: rest) [] τ Q := by
    intro m
    induction m with
    | zero =>
      intro i hi τ hs hd
      obtain rfl : i = n := by omega
      rw [hend]; exact hQ τ hs hd
    | succ m ih =>
      intro i hi τ hs hd
      rw [hstep τ i (by omega)]
      refine ih (i + 1) (by omega) _ hs.si (fun j hj => ?_)
      rw [si_rd]
      by_cases q : j = i
      · rw [if_pos ⟨rfl, q⟩]
      · rw [if_neg (fun w => q w.2)]; exact hd j (by omega)
  exact loop n 0 (by omega) σ (only.rf _ _) (fun j hj => absurd hj (Nat.not_lt_zero j))
theorem lt4N {i n : Nat} (hi : i < n) (hn : n < 100000) : (nI n ≤ nI i) = False := eq_false (fun q => by have := (nI_leI (a := n) (b := i) (by omega) (by omega)).mp q; omega)
theorem Mmeets {σ : xM} {nc ng nt r : Nat} {mi me la wn mn sl : Nat → Nat} {Q : xM → Prop} (hC : cM σ nc mi me la wn ng mn sl nt) (hr : r < 2147483648) (hgi : ∀ c, c < nc → r / 4 ^ c % 4 < ng) (hQ : ∀ τ, MM σ τ nc (run mi la wn sl (fun c => r / 4 ^ c % 4) nt nc) → Q τ) : xV 211 [.ref 84, .int (nI r)] σ Q := by
  have hC0 := hC
  obtain ⟨⟨hc6, hg4, ht6, hcb, hgb⟩, ⟨hgp, htp, hgr⟩, hk, hrow⟩ := hC
  have body : ∀ m c, c + m = nc → ∀ τ l3 l4 l5 l6 l7 l8 l9, MM σ τ c (run mi la wn sl (fun c => r / 4 ^ c % 4) nt c) → xC 211 63 [some (.ref 84), some (.int (nI r)), some (.int (nI c)), l3, l4, l5, l6, l7, l8, l9] [] τ (xqV Q) := by
    intro m
    induction m with
    | zero =>
      intro c hc τ l3 l4 l5 l6 l7 l8 l9 hM
      obtain rfl : c = nc := by omega
      have hkτ : τ.1 84 38 = nI c := (hM.1.1 84 38 rfl).trans hk
      rw [s211_63]
      simp only [s211_64, s211_65, s211_68, s211_273, xcx_i, xcx_r, xcx_n, xcx_l, xcx_0, hkτ, Int32.le_refl, if_true]
      exact hQ τ hM
    | succ m ih =>
      intro c hc τ l3 l4 l5 l6 l7 l8 l9 hM
      have hMn : ∀ τ' l3 l4 l5 l6 l7 l8 l9, MM σ τ' (c + 1) (run mi la wn sl (fun c => r / 4 ^ c % 4) nt (c + 1)) → xC 211 63 [some (.ref 84), some (.int (nI r)), some (.int (nI (c + 1))), l3, l4, l5, l6, l7, l8, l9] [] τ' (xqV Q) := ih (c + 1) (by omega)
      generalize hs0 : run mi la wn sl (fun c => r / 4 ^ c % 4) nt c = s at hM
      rw [show run mi la wn sl (fun c => r / 4 ^ c % 4) nt (c + 1) = stp mi la wn sl (fun c => r / 4 ^ c % 4) nt c (run mi la wn sl (fun c => r / 4 ^ c % 4) nt c) from rfl, hs0] at hMn
      generalize hgx : (fun c => r / 4 ^ c % 4) = gi at hMn
      have hgic : r / 4 ^ c % 4 = gi c := by rw [← hgx]
      have hgc : gi c < ng := by rw [← hgic]; exact hgi c (by omega)
      obtain ⟨hs, hw, hb, hg, ht, hbd⟩ := hM
      obtain ⟨-, ⟨hgpτ, htpτ, hgrτ⟩, hkτ, hrowτ⟩ := hC0.sim hs
      obtain ⟨b1, b2, b3, b4⟩ := hcb c (by omega)
      obtain ⟨a1, a2, a3, a4⟩ := hrowτ c (by omega)
      obtain ⟨g1, g2⟩ := hgrτ _ hgc
      obtain ⟨g3, g4⟩ := hgb _ hgc
      have c6 : c < 6 := by omega
      have hbd' := stp_bd (la := la) (wn := wn) (gi := gi) (nt := nt) (sl := sl) hbd c6 b1 b3 g4
      obtain ⟨f1, f2⟩ := stF_bd (wn := wn) (gi := gi) hbd b1
      obtain ⟨i1, i2⟩ := stI_lt s wn gi c
      have e := lt4N (show c < nc by omega) (by omega)
      have hG : ∀ Q : Int32 → xM → Prop, xI1 209 [.ref 84, .int (nI r), .int (nI c)] τ Q = Q (nI (gi c)) τ := fun Q => by rw [MgangOf hr (by omega), hgic]
      have hgg : τ.1 115 (gi c) = nI (s.g (gi c)) := hg _ (by omega)
      have hgB := hbd.1 (gi c)
      have d0 : 4 * c < 100000 := by omega
      have d1 : 4 * c < 24 := by omega
      have d2 : 4 * c + 2 < 100000 := by omega
      have d3 : 4 * c + 2 < 24 := by omega
      have d4 : 4 * c + 3 < 100000 := by omega
      have d5 : 4 * c + 3 < 24 := by omega
      have d6 : gi c < 100000 := by omega
      have d7 : gi c < 4 := by omega
      have d8 : c < 100000 := by omega
      have d9 : 2 * gi c + 1 < 100000 := by omega
      have d10 : 2 * gi c + 1 < 8 := by omega
      have z0 : ((0 : Int32) ≤ 0) = True := eq_true (by decide)
      have zc : (0 : Int32).toNatClampNeg = 0 := by decide
      -- from the tugs on
      have fin : ∀ (k : Nat) (l5 l6 l7 : Option Value), stI s wn gi c = k → 1 ≤ k → k < 4 → xC 211 238 [some (.ref 84), some (.int (nI r)), some (.int (nI c)), some (.int (nI (gi c))), some (.int (nI (wn c))), l5, l6, l7, some (.int (nI (stF s mi wn gi c + la c))), l9] [] (xe_si (xe_si (xe_si (xe_si τ 113 c (nI (stF s mi wn gi c))) 114 0 (nI (s.w 0 + (stF s mi wn gi c - mi c)))) 114 k (nI (s.w k + (stF s mi wn gi c - mi c)))) 115 (gi c) (nI (stF s mi wn gi c + la c + sl (gi c)))) (xqV Q) := by
        intro k l5 l6 l7 hkk h1 h4
        simp only [s211_238, s211_239, xcx_i, xcx_r, xcx_n, xcx_l, xcx_0]
        have floop : ∀ m i, i + m = wn c → ∀ τ', only 116 (xe_si (xe_si (xe_si (xe_si τ 113 c (nI (stF s mi wn gi c))) 114 0 (nI (s.w 0 + (stF s mi wn gi c - mi c)))) 114 k (nI (s.w k + (stF s mi wn gi c - mi c)))) 115 (gi c) (nI (stF s mi wn gi c + la c + sl (gi c)))) τ' → rowIs τ' 116 6 (fil s.t i (stF s mi wn gi c + la c)) → xC 211 241 [some (.ref 84), some (.int (nI r)), some (.int (nI c)), some (.int (nI (gi c))), some (.int (nI (wn c))), l5, l6, l7, some (.int (nI (stF s mi wn gi c + la c))), some (.int (nI i))] [] τ' (xqV Q) := by
          intro m
          induction m with
          | zero =>
            intro i hi τ' ho hr'
            obtain rfl : i = wn c := by omega
            have htb := hbd.2.1
            have h25 : τ'.1 84 25 = nI nt := by rw [ho.1 84 (by decide)]; exact htpτ
            rw [s211_241]
            simp only [s211_243, s211_245, s211_263, s211_264, xcx_i, xcx_r, xcx_n, xcx_l, xcx_0, Int32.le_refl, if_true]
            refine Msorts (nt := nt) (fun j => ?_) ht6 h25 hr' (fun τ2 ho2 hr2 => ?_)
            · have := fil_bd (f := s.t) (n := wn c) (B := 99999) (fun k => by have := htb k; omega) (show stF s mi wn gi c + la c ≤ 99999 by omega) j
              omega
            · simp only [s211_267, s211_270, xcx_i, xcx_r, xcx_n, xcx_l, xcx_0, nI_1]
              have hst : ∀ k', k' ≠ 116 → τ2.1 k' = (xe_si (xe_si (xe_si (xe_si τ 113 c (nI (stF s mi wn gi c))) 114 0 (nI (s.w 0 + (stF s mi wn gi c - mi c)))) 114 k (nI (s.w k + (stF s mi wn gi c - mi c)))) 115 (gi c) (nI (stF s mi wn gi c + la c + sl (gi c)))).1 k' := fun k' hk' => (ho2.1 k' hk').trans (ho.1 k' hk')
              refine hMn τ2 _ _ _ _ _ _ _ ⟨only.to (only.to ((((hs.si rfl).si rfl).si rfl).si rfl) ho (fun _ => rfl)) ho2 (fun _ => rfl), fun j hj => ?_, fun j hj => ?_, fun j hj => ?_, hr2, hbd'⟩
              · rw [hst 114 (by decide), si_ne (by decide), si_rd, si_rd, si_ne (by decide)]
                show _ = nI (upN (upN s.w 0 (s.w 0 + (stF s mi wn gi c - mi c))) (stI s wn gi c) (s.w (stI s wn gi c) + (stF s mi wn gi c - mi c)) j)
                rw [hkk]
                unfold upN
                by_cases q : j = k
                · rw [if_pos ⟨rfl, q⟩, if_pos q]
                · rw [if_neg (fun w => q w.2), if_neg q]
                  by_cases q2 : j = 0
                  · rw [if_pos ⟨rfl, q2⟩, if_pos q2]
                  · rw [if_neg (fun w => q2 w.2), if_neg q2]; exact hw j hj
              · rw [hst 113 (by decide), si_ne (by decide), si_ne (by decide), si_ne (by decide), si_rd]
                show _ = nI (upN s.b c (stF s mi wn gi c) j)
                unfold upN
                by_cases q : j = c
                · rw [if_pos ⟨rfl, q⟩, if_pos q]
                · rw [if_neg (fun w => q w.2), if_neg q]; exact hb j (by omega)
              · rw [hst 115 (by decide), si_rd, si_ne (by decide), si_ne (by decide), si_ne (by decide)]
                show _ = nI (upN s.g (gi c) (stF s mi wn gi c + la c + sl (gi c)) j)
                unfold upN
                by_cases q : j = gi c
                · rw [if_pos ⟨rfl, q⟩, if_pos q]
                · rw [if_neg (fun w => q w.2), if_neg q]; exact hg j hj
          | succ m ih2 =>
            intro i hi τ' ho hr'
            have e' := lt4N (show i < wn c by omega) (by omega)
            have j0 : i < 100000 := by omega
            have j1 : i < 6 := by omega
            rw [s211_241]
            simp only [s211_243, s211_245, s211_248, s211_249, s211_252, s211_254, s211_256, s211_257, s211_260, xcx_i, xcx_r, xcx_n, xcx_l, xcx_0, e', if_false, xcl_116, xln_116, j0, j1, cl_s, pos_s, true_and, nI_1]
            refine ih2 (i + 1) (by omega) _ ho.si (fun j hj => ?_)
            rw [hr'.si j hj]
            congr 1
            unfold upN fil
            by_cases q : j = i
            · rw [if_pos q, if_pos (by omega)]
            · rw [if_neg q]
              by_cases q2 : j < i
              · rw [if_pos q2, if_pos (by omega)]
              · rw [if_neg q2, if_neg (by omega)]
        refine floop (wn c) 0 (by omega) _ (only.rf _ _) (fun j hj => ?_)
        rw [si_ne (by decide), si_ne (by decide), si_ne (by decide), si_ne (by decide)]
        exact ht j hj
      have w0 := hw 0 (by decide)
      have w1 := hw 1 (by decide)
      have w2 := hw 2 (by decide)
      have w3 := hw 3 (by decide)
      have z1 : ((0 : Int32) ≤ 1) = True := eq_true (by decide)
      have z2 : ((0 : Int32) ≤ 2) = True := eq_true (by decide)
      have z3 : ((0 : Int32) ≤ 3) = True := eq_true (by decide)
      have y1 : (1 : Int32).toNatClampNeg = 1 := by decide
      have y2 : (2 : Int32).toNatClampNeg = 2 := by decide
      have y3 : (3 : Int32).toNatClampNeg = 3 := by decide
      have mid : xC 211 175 [some (.ref 84), some (.int (nI r)), some (.int (nI c)), some (.int (nI (gi c))), some (.int (nI (wn c))), some (.int (nI (if wn c = 0 then 0 else s.t (wn c - 1)))), some (.int (nI (mi c))), some (.int (nI (stF s mi wn gi c))), some (.int (nI (stF s mi wn gi c + la c))), l9] [] (xe_si (xe_si τ 113 c (nI (stF s mi wn gi c))) 114 0 (nI (s.w 0 + (stF s mi wn gi c - mi c)))) (xqV Q) := by
        have htB : (if wn c = 0 then 0 else s.t (wn c - 1)) ≤ 999 + 800 * c := by
          split
          · omega
          · exact hbd.2.1 _
        have e1 : (nI (s.g (gi c)) ≤ nI (if wn c = 0 then 0 else s.t (wn c - 1))) = ¬ ((if wn c = 0 then 0 else s.t (wn c - 1)) < s.g (gi c)) := by rw [nI_leL (by omega) (by omega)]; exact propext ⟨fun q => by omega, fun q => by omega⟩
        have e2 : (nI (if wn c = 0 then 0 else s.t (wn c - 1)) ≤ nI (s.g (gi c))) = ¬ (s.g (gi c) < (if wn c = 0 then 0 else s.t (wn c - 1))) := by rw [nI_leL (by omega) (by omega)]; exact propext ⟨fun q => by omega, fun q => by omega⟩
        by_cases c1 : (if wn c = 0 then 0 else s.t (wn c - 1)) < s.g (gi c)
        · have hk : stI s wn gi c = 1 := by unfold stI; rw [if_pos c1]
          simp only [s211_175, s211_176, s211_179, s211_180, s211_183, s211_184, s211_185, s211_187, s211_190, s211_191, s211_194, s211_195, s211_198, s211_199, s211_200, s211_202, s211_205, s211_206, s211_209, s211_210, s211_211, s211_212, s211_214, s211_216, s211_217, s211_218, s211_219, s211_220, s211_223, s211_224, s211_226, s211_227, s211_230, s211_231, s211_232, s211_233, s211_234, s211_235, s211_236, s211_237, xcx_i, xcx_r, xcx_n, xcx_l, xcx_0, xcl_95, xcl_114, xcl_115, xln_95, xln_114, xln_115, d6, d7, d9, d10, cl_s, pos_s, true_and, si_rd, Nat.reduceEqDiff, false_and, and_false, if_false, hgg, e1, e2, c1, not_true, z1, y1, Nat.reduceLT, w1, pk_sub f1, nI_add, ml_2, al_1, g2]
          exact fin 1 _ _ _ hk (by decide) (by decide)
        · by_cases c2 : s.g (gi c) < (if wn c = 0 then 0 else s.t (wn c - 1))
          · have hk : stI s wn gi c = 2 := by unfold stI; rw [if_neg c1, if_pos c2]
            simp only [s211_175, s211_176, s211_179, s211_180, s211_183, s211_184, s211_185, s211_187, s211_190, s211_191, s211_194, s211_195, s211_198, s211_199, s211_200, s211_202, s211_205, s211_206, s211_209, s211_210, s211_211, s211_212, s211_214, s211_216, s211_217, s211_218, s211_219, s211_220, s211_223, s211_224, s211_226, s211_227, s211_230, s211_231, s211_232, s211_233, s211_234, s211_235, s211_236, s211_237, xcx_i, xcx_r, xcx_n, xcx_l, xcx_0, xcl_95, xcl_114, xcl_115, xln_95, xln_114, xln_115, d6, d7, d9, d10, cl_s, pos_s, true_and, si_rd, Nat.reduceEqDiff, false_and, and_false, if_false, hgg, e1, e2, c1, c2, not_true, not_false_eq_true, if_true, z2, y2, Nat.reduceLT, w2, pk_sub f1, nI_add, ml_2, al_1, g2]
            exact fin 2 _ _ _ hk (by decide) (by decide)
          · have hk : stI s wn gi c = 3 := by unfold stI; rw [if_neg c1, if_neg c2]
            simp only [s211_175, s211_176, s211_179, s211_180, s211_183, s211_184, s211_185, s211_187, s211_190, s211_191, s211_194, s211_195, s211_198, s211_199, s211_200, s211_202, s211_205, s211_206, s211_209, s211_210, s211_211, s211_212, s211_214, s211_216, s211_217, s211_218, s211_219, s211_220, s211_223, s211_224, s211_226, s211_227, s211_230, s211_231, s211_232, s211_233, s211_234, s211_235, s211_236, s211_237, xcx_i, xcx_r, xcx_n, xcx_l, xcx_0, xcl_95, xcl_114, xcl_115, xln_95, xln_114, xln_115, d6, d7, d9, d10, cl_s, pos_s, true_and, si_rd, Nat.reduceEqDiff, false_and, and_false, if_false, hgg, e1, e2, c1, c2, not_true, not_false_eq_true, if_true, z3, y3, Nat.reduceLT, w3, pk_sub f1, nI_add, ml_2, al_1, g2]
            exact fin 3 _ _ _ hk (by decide) (by decide)
      rw [s211_63]
      by_cases cz : wn c = 0
      · have e0 : (nI (wn c) = 0) = True := eq_true (by rw [cz]; rfl)
        have hF : stF s mi wn gi c = max (mi c) (max (s.g (gi c)) 0) := by unfold stF; rw [if_pos cz]
        rw [if_pos cz] at mid
        have m1 : (if nI (s.g (gi c)) < 0 then 0 else nI (s.g (gi c))) = nI (max (s.g (gi c)) 0) := mxN (a := s.g (gi c)) (b := 0) (by omega) (by decide)
        have m2 : (if nI (mi c) < nI (max (s.g (gi c)) 0) then nI (max (s.g (gi c)) 0) else nI (mi c)) = nI (stF s mi wn gi c) := by rw [hF]; exact mxN (by omega) (by omega)
        simp only [s211_64, s211_65, s211_68, s211_71, s211_72, s211_73, s211_74, s211_77, s211_78, s211_79, s211_82, s211_83, s211_84, s211_85, s211_86, s211_87, s211_88, s211_90, s211_92, s211_95, s211_96, s211_99, s211_100, s211_103, s211_105, s211_106, s211_107, s211_108, s211_110, s211_111, s211_114, s211_115, s211_116, s211_117, s211_118, s211_120, s211_122, s211_123, s211_126, s211_127, s211_128, s211_130, s211_133, s211_136, s211_138, s211_140, s211_141, s211_144, s211_145, s211_146, s211_147, s211_148, s211_149, s211_150, s211_151, s211_153, s211_154, s211_157, s211_158, s211_160, s211_161, s211_162, s211_165, s211_166, s211_167, s211_168, s211_170, s211_172, s211_173, s211_174, xcx_i, xcx_r, xcx_n, xcx_l, xcx_0, hkτ, e, if_false, hG, xcl_104, xcl_113, xcl_114, xcl_115, xcl_116, xln_104, xln_113, xln_114, xln_115, xln_116, ml_4, al_2, al_3, d0, d1, d2, d3, d4, d5, d6, d7, d8, c6, cl_s, pos_s, true_and, a1, a3, a4, e0, not_true, if_true, hgg, max_eq, m1, m2, si_rd, Nat.reduceEqDiff, false_and, z0, zc, Nat.reduceLT, w0, pk_sub f1, nI_add, true_or, or_true]
        exact mid
      · have e0 : (nI (wn c) = 0) = False := eq_false (fun q => by have := (nI_eq (a := wn c) (b := 0) (by omega) (by decide)).mp q; omega)
        have q1 : nI (wn c) - 1 = nI (wn c - 1) := pk_sub (show 1 ≤ wn c by omega)
        have htt : τ.1 116 (wn c - 1) = nI (s.t (wn c - 1)) := ht _ (by omega)
        have q2 : wn c - 1 < 100000 := by omega
        have q3 : wn c - 1 < 6 := by omega
        have hF : stF s mi wn gi c = max (mi c) (max (s.g (gi c)) (s.t (wn c - 1))) := by unfold stF; rw [if_neg cz]
        rw [if_neg cz] at mid
        have htB := hbd.2.1 (wn c - 1)
        have m1 : (if nI (s.g (gi c)) < nI (s.t (wn c - 1)) then nI (s.t (wn c - 1)) else nI (s.g (gi c))) = nI (max (s.g (gi c)) (s.t (wn c - 1))) := mxN (by omega) (by omega)
        have m2 : (if nI (mi c) < nI (max (s.g (gi c)) (s.t (wn c - 1))) then nI (max (s.g (gi c)) (s.t (wn c - 1))) else nI (mi c)) = nI (stF s mi wn gi c) := by rw [hF]; exact mxN (by omega) (by omega)
        simp only [s211_64, s211_65, s211_68, s211_71, s211_72, s211_73, s211_74, s211_77, s211_78, s211_79, s211_82, s211_83, s211_84, s211_85, s211_86, s211_87, s211_88, s211_90, s211_92, s211_95, s211_96, s211_99, s211_100, s211_103, s211_105, s211_106, s211_107, s211_108, s211_110, s211_111, s211_114, s211_115, s211_116, s211_117, s211_118, s211_120, s211_122, s211_123, s211_126, s211_127, s211_128, s211_130, s211_133, s211_136, s211_138, s211_140, s211_141, s211_144, s211_145, s211_146, s211_147, s211_148, s211_149, s211_150, s211_151, s211_153, s211_154, s211_157, s211_158, s211_160, s211_161, s211_162, s211_165, s211_166, s211_167, s211_168, s211_170, s211_172, s211_173, s211_174, xcx_i, xcx_r, xcx_n, xcx_l, xcx_0, hkτ, e, if_false, hG, xcl_104, xcl_113, xcl_114, xcl_115, xcl_116, xln_104, xln_113, xln_114, xln_115, xln_116, ml_4, al_2, al_3, d0, d1, d2, d3, d4, d5, d6, d7, d8, c6, q1, q2, q3, htt, cl_s, pos_s, true_and, a1, a3, a4, e0, not_false_eq_true, if_true, hgg, max_eq, m1, m2, si_rd, Nat.reduceEqDiff, false_and, z0, zc, Nat.reduceLT, w0, pk_sub f1, nI_add, true_or, or_true]
        exact mid
  have hc0 : ∀ (τ : xM), only 114 σ τ → ∀ τ2, only 115 τ τ2 → ∀ τ3, only 116 τ2 τ3 → xSim σ τ3 := fun τ h1 τ2 h2 τ3 h3 => only.to (only.to (only.to (xSim.rf σ) h1 (fun _ => rfl)) h2 (fun _ => rfl)) h3 (fun _ => rfl)
  rw [e211]
  simp only [s211_0, s211_1, xcx_i, xcx_r, xcx_n, xcx_l, xcx_0]
  refine Mfil (c := 114) (n := 4) (pe := 20) (by decide) (fun τ i hi => ?_) (fun τ => ?_) (fun τ1 hs1 h1 => ?_)
  · have b0 : i < 100000 := by omega
    have e := lt4N hi (by decide)
    rw [show (nI 4) = 4 from rfl] at e
    rw [s211_2]
    simp only [s211_3, s211_4, s211_7, s211_8, s211_11, s211_12, s211_13, s211_14, s211_17, xcx_i, xcx_r, xcx_n, xcx_l, xcx_0, e, if_false, xcl_114, xln_114, b0, hi, cl_s, pos_s, true_and, nI_1]
  · rw [s211_2]
    simp only [s211_3, s211_4, xcx_i, xcx_r, xcx_n, xcx_l, xcx_0, show ((4 : Int32) ≤ nI 4) = True from eq_true (by decide), if_true]
  simp only [s211_20, s211_21, xcx_i, xcx_r, xcx_n, xcx_l, xcx_0]
  refine Mfil (c := 115) (n := 4) (pe := 40) (by decide) (fun τ i hi => ?_) (fun τ => ?_) (fun τ2 hs2 h2 => ?_)
  · have b0 : i < 100000 := by omega
    have e := lt4N hi (by decide)
    rw [show (nI 4) = 4 from rfl] at e
    rw [s211_22]
    simp only [s211_23, s211_24, s211_27, s211_28, s211_31, s211_32, s211_33, s211_34, s211_37, xcx_i, xcx_r, xcx_n, xcx_l, xcx_0, e, if_false, xcl_115, xln_115, b0, hi, cl_s, pos_s, true_and, nI_1]
  · rw [s211_22]
    simp only [s211_23, s211_24, xcx_i, xcx_r, xcx_n, xcx_l, xcx_0, show ((4 : Int32) ≤ nI 4) = True from eq_true (by decide), if_true]
  simp only [s211_40, s211_41, xcx_i, xcx_r, xcx_n, xcx_l, xcx_0]
  refine Mfil (c := 116) (n := 6) (pe := 61) (by decide) (fun τ i hi => ?_) (fun τ => ?_) (fun τ3 hs3 h3 => ?_)
  · have b0 : i < 100000 := by omega
    have e := lt4N hi (by decide)
    rw [show (nI 6) = 6 from rfl] at e
    rw [s211_42]
    simp only [s211_43, s211_45, s211_48, s211_49, s211_52, s211_53, s211_54, s211_55, s211_58, xcx_i, xcx_r, xcx_n, xcx_l, xcx_0, e, if_false, xcl_116, xln_116, b0, hi, cl_s, pos_s, true_and, nI_1]
  · rw [s211_42]
    simp only [s211_43, s211_45, xcx_i, xcx_r, xcx_n, xcx_l, xcx_0, show ((6 : Int32) ≤ nI 6) = True from eq_true (by decide), if_true]
  simp only [s211_61, s211_62, xcx_i, xcx_r, xcx_n, xcx_l, xcx_0]
  refine body nc 0 (by omega) τ3 _ _ _ _ _ _ _ ⟨hc0 τ1 hs1 τ2 hs2 τ3 hs3, fun i hi => ?_, fun i hi => absurd hi (Nat.not_lt_zero i), fun i hi => ?_, fun i hi => h3 i hi, run_bd 0 (by decide) (fun d hd => absurd hd (Nat.not_lt_zero d))⟩
  · rw [hs3.1 114 (by decide), hs2.1 114 (by decide)]; exact h1 i hi
  · rw [hs3.1 115 (by decide)]; exact h2 i hi
