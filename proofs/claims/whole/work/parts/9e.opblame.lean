/-! the call blame -/
theorem Mbl_loop {σ : xM} {n ns nr bow deck l c : Nat} {D E : Nat → Nat → Nat} {lh : Nat → Nat} {lw ls : Nat → Int} {f : Nat → Int32} {b : Int32} {Q : Int32 → xM → Prop} (h : sdM σ n ns nr bow deck D E) (hb : sdB n ns nr bow deck D E) (hn : σ.1 84 31 = nI n) (hl : l < n) (hc : c ≤ 12) (h49 : σ.1 84 49 = nI c) (hL : ∀ i, i < c → σ.1 111 (3 * i) = nI (lh i) ∧ σ.1 111 (3 * i + 1) = iI (lw i) ∧ σ.1 111 (3 * i + 2) = iI (ls i) ∧ lh i ≤ 99 ∧ (0 ≤ lw i ∧ lw i ≤ 999) ∧ (-99 ≤ ls i ∧ ls i ≤ 99)) (hf : ∀ i, i < c → ldR D E bow deck n l (lh i) (lw i) (ls i) (f i)) (hQ : ∀ l6 τ, mrs σ τ → xC 241 133 [some (.ref 84), some (.int (nI l)), some (.int b), some (.int (gr f c).1), some (.int (gr f c).2), some (.int (nI c)), l6] [] τ (xqI Q)) : ∀ k i, i + k = c → ∀ l6 τ, mrs σ τ → xC 241 34 [some (.ref 84), some (.int (nI l)), some (.int b), some (.int (gr f i).1), some (.int (gr f i).2), some (.int (nI i)), l6] [] τ (xqI Q) := by
  have hn6 := hb.1
  intro k
  induction k with
  | zero =>
    intro i hi l6 τ hr
    obtain rfl : i = c := by omega
    have e49 : τ.1 84 49 = nI i := (hr.1 84 49 (fun z => by omega)).trans h49
    rw [s241_34]
    simp only [s241_36, s241_37, s241_40, xcx_i, xcx_r, xcx_n, xcx_l, xcx_0, e49, Int32.le_refl, if_true]
    exact hQ l6 τ hr
  | succ k ih =>
    intro i hi l6 τ hr
    have e := lt4N (n := c) (i := i) (by omega) (by omega)
    have e49 : τ.1 84 49 = nI c := (hr.1 84 49 (fun z => by omega)).trans h49
    have hX := h.sim hr.sim
    have hlτ : τ.1 84 31 = nI n := (hr.1 84 31 (fun z => by omega)).trans hn
    obtain ⟨g1, g2, g3, g4, g5, g6⟩ := hL i (by omega)
    have r1 : τ.1 111 (3 * i) = nI (lh i) := (hr.1 111 _ (fun z => by omega)).trans g1
    have r2 : τ.1 111 (3 * i + 1) = iI (lw i) := (hr.1 111 _ (fun z => by omega)).trans g2
    have r3 : τ.1 111 (3 * i + 2) = iI (ls i) := (hr.1 111 _ (fun z => by omega)).trans g3
    have b0 : 3 * i < 100000 := by omega
    have c0 : 3 * i < 36 := by omega
    have b1 : 3 * i + 1 < 100000 := by omega
    have c1 : 3 * i + 1 < 36 := by omega
    have b2 : 3 * i + 2 < 100000 := by omega
    have c2 : 3 * i + 2 < 36 := by omega
    have m3 : (3 : Int32) * nI i = nI (3 * i) := pk_mul 3 i
    have ihh := fun l6 => ih (i + 1) (by omega) l6
    rw [show gr f (i + 1) = if (gr f i).1 < f i then (f i, nI i) else gr f i from rfl] at ihh
    rw [s241_34]
    simp only [s241_36, s241_37, s241_40, s241_43, s241_44, s241_45, s241_48, s241_49, s241_51, s241_52, s241_53, s241_54, s241_57, s241_58, s241_60, s241_61, s241_62, s241_63, s241_64, s241_65, s241_68, s241_69, s241_71, s241_72, s241_73, s241_74, s241_75, s241_76, s241_79, xcx_i, xcx_r, xcx_n, xcx_l, xcx_0, e49, e, if_false, m3, nI_add, al_1, al_2, xcl_111, xln_111, b0, c0, b1, c1, b2, c2, cl_s, pos_s, true_and, r1, r2, r3, Mall_eq hlτ hn6]
    refine MfindsRest hX hb g4 (Nat.le_refl n) hlτ (all64 hn6) g5 g6 (fun τ2 u v hr2 hu hv hB => ?_)
    have hX2 := hX.sim hr2.sim
    have hrr := hr.tr hr2
    have r1' : τ2.1 111 (3 * i) = nI (lh i) := (hrr.1 111 _ (fun z => by omega)).trans g1
    have hpa : ∀ Q : Int32 → xM → Prop, xI1 190 [.ref 84, .int (nI l), .int (nI (lh i)), .int (iI u), .int (iI v)] τ2 Q = _ := fun Q => MpullAt hX2 hb g4 hB.1 hl
    have hlo : ∀ (p : Int) (Q : Int32 → xM → Prop), xI1 192 [.ref 84, .int (nI l), .int (iI p)] τ2 Q = _ := fun p Q => Mload hX2 hb hl
    have ef : ldI (plI (wyF D E bow) (rmF D E bow deck (lh i)) (hdF D E) u v l) (brF D E l) = f i := ldR_eq ⟨u, v, hB, rfl⟩ (hf i (by omega))
    by_cases q : (gr f i).1 < f i
    · rw [if_pos q] at ihh
      simp only [s241_82, s241_83, s241_84, s241_85, s241_86, s241_87, s241_90, s241_91, s241_93, s241_94, s241_95, s241_96, s241_99, s241_100, s241_103, s241_106, s241_109, s241_111, s241_113, s241_114, s241_117, s241_120, s241_122, s241_123, s241_125, s241_127, s241_130, xcx_i, xcx_r, xcx_n, xcx_l, xcx_0, m3, xcl_111, xln_111, b0, c0, cl_s, pos_s, true_and, r1', hu, hv, hpa, hlo, ef, q, if_true, nI_1, true_or, or_true]
      exact ihh _ τ2 hrr
    · rw [if_neg q] at ihh
      simp only [s241_82, s241_83, s241_84, s241_85, s241_86, s241_87, s241_90, s241_91, s241_93, s241_94, s241_95, s241_96, s241_99, s241_100, s241_103, s241_106, s241_109, s241_111, s241_113, s241_114, s241_117, s241_120, s241_122, s241_123, s241_125, s241_127, s241_130, xcx_i, xcx_r, xcx_n, xcx_l, xcx_0, m3, xcl_111, xln_111, b0, c0, cl_s, pos_s, true_and, r1', hu, hv, hpa, hlo, ef, q, if_false, nI_1, true_or, or_true]
      exact ihh _ τ2 hrr
theorem op_blame (a b : Int32) : xOp 144 241 [.int a, .int b] := by
  intro xs L σ hI
  obtain ⟨n, hn6, k1, k2, h01, h28, hz, -, -⟩ := id hI.2.2.1
  obtain ⟨c, hc, h80, h49, hlog⟩ := id hI.2.2.2.2.2.2.2.2.1
  have hn31 : n < 2147483648 := by omega
  have e1 : (nI c < 1) = (c < 1) := by
    have : (nI c < nI 1) = (c < 1) := nI_ltL (by omega) (by decide)
    exact this
  have e0 : (nI c = 0) = (c = 0) := by
    have : (nI c = nI 0) = (c = 0) := nI_eqL (by omega) (by decide)
    exact this
  by_cases hd : 0 ≤ a ∧ a ≤ nI n - 1
  · by_cases hc1 : c < 1
    · have hc0 : c = 0 := by omega
      rw [e144]
      simp only [s144_0, s144_1, s144_4, s144_7, s144_8, s144_11, s144_12, s144_15, s144_16_10, s144_16_17, s144_16_24, s144_16_31, s144_19, s144_22, s144_23, xcx_i, xcx_r, xcx_n, xcx_l, xcx_0, h80, e1, hc1, if_true, true_or, or_true, true_and]
      rw [e241]
      simp only [s241_0, s241_1, s241_2, s241_5, s241_8, s241_9, s241_12, s241_15, s241_16, s241_17, s241_18, s241_21, s241_24, s241_25, xcx_i, xcx_r, xcx_n, xcx_l, xcx_0, isLine_eq, k2, xb_f, ite_not, if_pos hd, h49, e0, hc0, if_true, true_or, or_true, true_and]
      first | exact hI | exact ⟨trivial, hI⟩ | exact ⟨rfl, hI⟩
    · obtain ⟨l, hl, rfl⟩ := (rng_iff hn31).mp hd
      have ha1 : σ.1 10 0 = 1 := by
        rcases h01 with q | q
        · have := hz q; omega
        · exact q
      obtain ⟨p, n', ns, nr, bow, deck, D, E, hb, hsl, hX, hM, kx, km, hns1⟩ := hI.ship ha1
      have hb6 := hb.1
      obtain rfl : n = n' := by
        have : nI n = nI n' := k1.symm.trans kx
        exact (nI_eq (by omega) (by omega)).mp this
      have hpe := hX.1.2.1
      have hcn : ¬ c = 0 := by omega
      have hl1 : ∀ i, i < c → nI (σ.1 81 i).toInt.toNat = σ.1 81 i := by
        intro i hi
        obtain ⟨-, -, -, ⟨q1, q2⟩, -, -⟩ := hlog i hi
        rw [nI_iI, Int.toNat_of_nonneg q1]; exact iI_of _
      obtain ⟨f, hf⟩ : ∃ f : Nat → Int32, ∀ i, ldR D E bow deck n l (σ.1 81 i).toInt.toNat (σ.1 82 i).toInt (σ.1 83 i).toInt (f i) := by
        have hx : ∀ i, ∃ x, ldR D E bow deck n l (σ.1 81 i).toInt.toNat (σ.1 82 i).toInt (σ.1 83 i).toInt x := by
          intro i
          obtain ⟨u, v, hB⟩ := isB_ex (csF (wyF D E bow) (rmF D E bow deck (σ.1 81 i).toInt.toNat) (hdF D E) (2 ^ n - 1) n (σ.1 82 i).toInt (σ.1 83 i).toInt)
          exact ⟨_, u, v, hB, rfl⟩
        exact ⟨fun i => (hx i).choose, fun i => (hx i).choose_spec⟩
      have hf0 : 1 ≤ c → ∃ k, f 0 = nI k ∧ k < 2147483648 := by
        intro _
        obtain ⟨u, v, hB, e⟩ := hf 0
        have hld := hb.ld (σ.1 81 0).toInt.toNat (Nat.le_refl n)
        obtain ⟨k, q1, q2⟩ := ldI_nat (plI_bd hld hB.1 hl) ((hld.2 l hl).2.2.2.2.1)
        exact ⟨k, e.trans q1, by omega⟩
      have hLx : ∀ i, i < c → σ.1 81 i = nI (σ.1 81 i).toInt.toNat ∧ σ.1 82 i = iI (σ.1 82 i).toInt ∧ σ.1 83 i = iI (σ.1 83 i).toInt ∧ (σ.1 81 i).toInt.toNat ≤ 99 ∧ (0 ≤ (σ.1 82 i).toInt ∧ (σ.1 82 i).toInt ≤ 999) ∧ (-99 ≤ (σ.1 83 i).toInt ∧ (σ.1 83 i).toInt ≤ 99) := by
        intro i hi
        obtain ⟨-, -, -, ⟨q1, q2⟩, ⟨q3, q4⟩, ⟨q5, q6⟩⟩ := hlog i hi
        exact ⟨(hl1 i hi).symm, (iI_of _).symm, (iI_of _).symm, by omega, ⟨q3, q4⟩, ⟨q5, q6⟩⟩
      have hLm : ∀ i, i < c → σ.1 111 (3 * i) = nI (σ.1 81 i).toInt.toNat ∧ σ.1 111 (3 * i + 1) = iI (σ.1 82 i).toInt ∧ σ.1 111 (3 * i + 2) = iI (σ.1 83 i).toInt ∧ (σ.1 81 i).toInt.toNat ≤ 99 ∧ (0 ≤ (σ.1 82 i).toInt ∧ (σ.1 82 i).toInt ≤ 999) ∧ (-99 ≤ (σ.1 83 i).toInt ∧ (σ.1 83 i).toInt ≤ 99) := by
        intro i hi
        obtain ⟨t1, t2, t3, -⟩ := hlog i hi
        obtain ⟨s1, s2, s3, s4⟩ := hLx i hi
        exact ⟨t1.trans s1, t2.trans s2, t3.trans s3, s4⟩
      have href : ∀ τ, xSim σ τ → ∀ (hE : 0 ≤ b ∧ b ≤ 2) (r : Int32), (∀ l6 τ', mrs τ τ' → xC 241 133 [some (.ref 84), some (.int (nI l)), some (.int b), some (.int (gr f c).1), some (.int (gr f c).2), some (.int (nI c)), l6] [] τ' (xqI (fun r2 σ2 => r = r2 ∧ xInv xs L σ2))) → xI1 241 (.ref 84 :: [.int (nI l), .int b]) τ (fun r2 σ2 => r = r2 ∧ xInv xs L σ2) := by
        intro τ hs hE r hq
        have kmτ : τ.1 84 31 = nI n := (hs.1 84 31 rfl).trans k2
        have k49 : τ.1 84 49 = nI c := (hs.1 84 49 rfl).trans h49
        rw [e241]
        simp only [s241_0, s241_1, s241_2, s241_5, s241_8, s241_9, s241_12, s241_15, s241_16, s241_17, s241_18, s241_21, s241_24, s241_25, s241_26, s241_27, s241_28, s241_29, s241_31, s241_32, xcx_i, xcx_r, xcx_n, xcx_l, xcx_0, isLine_eq, in_eq, kmτ, k49, e0, hcn, xb_f, ite_not, if_pos hd, if_pos hE, if_false, true_or, or_true, true_and]
        exact Mbl_loop (hM.sim hs) hb kmτ hl hc k49 (fun i hi => by rw [hs.1 111 _ rfl, hs.1 111 _ rfl, hs.1 111 _ rfl]; exact hLm i hi) (fun i _ => hf i) hq c 0 (by omega) _ τ (mrs.rf τ)
      have after : ∀ τ, xSim σ τ → τ.1 80 1 = (gr f c).1 → (1 ≤ c → τ.1 80 2 = (gr f c).2) → xC 144 44 [some (.ref 0), some (.int (nI l)), some (.int b)] [] τ (xqI (fun r1 σ1 => xI1 241 (.ref 84 :: [.int (nI l), .int b]) σ1 (fun r2 σ2 => r1 = r2 ∧ xInv xs L σ2))) := by
        intro τ hs g1 g2
        have hinv : ∀ τ2, mrs τ τ2 → xInv xs L τ2 := fun τ2 hr => hI.sim (hs.tr hr.sim)
        have g2' := g2 (by omega)
        simp only [s144_44, s144_45, xcx_i, xcx_r, xcx_n, xcx_l, xcx_0]
        by_cases b0 : b = 0
        · subst b0
          simp only [s144_72, s144_73, s144_76, s144_79, xcx_i, xcx_r, xcx_n, xcx_l, xcx_0, if_true, g1]
          refine href τ hs (by decide) _ (fun l6 τ' hr => ?_)
          simp only [s241_133, s241_134, s241_137, s241_138, s241_141, s241_142, s241_143, s241_146, s241_148, s241_151, s241_152, s241_155, s241_158, s241_159, s241_162, s241_163, s241_166, s241_169, s241_170, s241_173, s241_174, xcx_i, xcx_r, xcx_n, xcx_l, xcx_0, not_true, if_false]
          first | exact hinv τ' hr | exact ⟨trivial, hinv τ' hr⟩ | exact ⟨rfl, hinv τ' hr⟩
        · by_cases b1 : b = 1
          · subst b1
            simp only [s144_80, s144_81, s144_84, s144_87, xcx_i, xcx_r, xcx_n, xcx_l, xcx_0, show ((1 : Int32) = 0) = False from eq_false (by decide), if_true, if_false, g2']
            refine href τ hs (by decide) _ (fun l6 τ' hr => ?_)
            simp only [s241_133, s241_134, s241_137, s241_138, s241_141, s241_142, s241_143, s241_146, s241_148, s241_151, s241_152, s241_155, s241_158, s241_159, s241_162, s241_163, s241_166, s241_169, s241_170, s241_173, s241_174, xcx_i, xcx_r, xcx_n, xcx_l, xcx_0, show ((1 : Int32) = 0) = False from eq_false (by decide), not_true, not_false_eq_true, if_true, if_false]
            first | exact hinv τ' hr | exact ⟨trivial, hinv τ' hr⟩ | exact ⟨rfl, hinv τ' hr⟩
          · by_cases b2 : b = 2
            · subst b2
              have e0 : ((2 : Int32) = 0) = False := eq_false (by decide)
              have e1 : ((2 : Int32) = 1) = False := eq_false (by decide)
              have tail : ∀ r, r = (if 1000 < (gr f c).1 then 1 else if 500 < (gr f c).1 then 2 else 0) → xI1 241 (.ref 84 :: [.int (nI l), .int 2]) τ (fun r2 σ2 => r = r2 ∧ xInv xs L σ2) := by
                rintro r rfl
                refine href τ hs (by decide) _ (fun l6 τ' hr => ?_)
                have q1 : ((gr f c).1 ≤ 1000) = ¬ 1000 < (gr f c).1 := propext Int32.not_lt.symm
                have q2 : ((gr f c).1 ≤ 500) = ¬ 500 < (gr f c).1 := propext Int32.not_lt.symm
                by_cases z1 : (1000 : Int32) < (gr f c).1
                · simp only [s241_133, s241_134, s241_137, s241_138, s241_141, s241_142, s241_143, s241_146, s241_148, s241_151, s241_152, s241_155, s241_158, s241_159, s241_162, s241_163, s241_166, s241_169, s241_170, s241_173, s241_174, xcx_i, xcx_r, xcx_n, xcx_l, xcx_0, e0, e1, q1, z1, not_true, not_false_eq_true, if_true, if_false]
                  first | exact hinv τ' hr | exact ⟨trivial, hinv τ' hr⟩ | exact ⟨rfl, hinv τ' hr⟩
                · by_cases z2 : (500 : Int32) < (gr f c).1
                  · simp only [s241_133, s241_134, s241_137, s241_138, s241_141, s241_142, s241_143, s241_146, s241_148, s241_151, s241_152, s241_155, s241_158, s241_159, s241_162, s241_163, s241_166, s241_169, s241_170, s241_173, s241_174, xcx_i, xcx_r, xcx_n, xcx_l, xcx_0, e0, e1, q1, q2, z1, z2, not_true, not_false_eq_true, if_true, if_false]
                    first | exact hinv τ' hr | exact ⟨trivial, hinv τ' hr⟩ | exact ⟨rfl, hinv τ' hr⟩
                  · simp only [s241_133, s241_134, s241_137, s241_138, s241_141, s241_142, s241_143, s241_146, s241_148, s241_151, s241_152, s241_155, s241_158, s241_159, s241_162, s241_163, s241_166, s241_169, s241_170, s241_173, s241_174, xcx_i, xcx_r, xcx_n, xcx_l, xcx_0, e0, e1, q1, q2, z1, z2, not_true, not_false_eq_true, if_true, if_false]
                    first | exact hinv τ' hr | exact ⟨trivial, hinv τ' hr⟩ | exact ⟨rfl, hinv τ' hr⟩
              have hv : ∀ Q : Int32 → xM → Prop, xI1 42 [.ref 80] τ Q = Q (if 1000 < (gr f c).1 then 1 else if 500 < (gr f c).1 then 2 else 0) τ := by
                intro Q
                have q1 : ((gr f c).1 ≤ 1000) = ¬ 1000 < (gr f c).1 := propext Int32.not_lt.symm
                have q2 : ((gr f c).1 ≤ 500) = ¬ 500 < (gr f c).1 := propext Int32.not_lt.symm
                rw [e42]
                by_cases z1 : (1000 : Int32) < (gr f c).1
                · simp only [s42_0, s42_1, s42_4, s42_7, s42_10, s42_11, s42_12, s42_13, s42_16, s42_19, s42_22, s42_23, s42_26, s42_27, xcx_i, xcx_r, xcx_n, xcx_l, xcx_0, g1, q1, z1, not_true, not_false_eq_true, if_true, if_false]
                · by_cases z2 : (500 : Int32) < (gr f c).1
                  · simp only [s42_0, s42_1, s42_4, s42_7, s42_10, s42_11, s42_12, s42_13, s42_16, s42_19, s42_22, s42_23, s42_26, s42_27, xcx_i, xcx_r, xcx_n, xcx_l, xcx_0, g1, q1, q2, z1, z2, not_true, not_false_eq_true, if_true, if_false]
                  · simp only [s42_0, s42_1, s42_4, s42_7, s42_10, s42_11, s42_12, s42_13, s42_16, s42_19, s42_22, s42_23, s42_26, s42_27, xcx_i, xcx_r, xcx_n, xcx_l, xcx_0, g1, q1, q2, z1, z2, not_true, not_false_eq_true, if_true, if_false]
              simp only [s144_88, s144_89, s144_92, s144_95, xcx_i, xcx_r, xcx_n, xcx_l, xcx_0, e0, e1, if_true, if_false, hv, true_or, or_true, true_and]
              exact tail _ rfl
            · simp only [s144_96, s144_97, xcx_i, xcx_r, xcx_n, xcx_l, xcx_0, b0, b1, b2, if_false]
              have hE : ¬ (0 ≤ b ∧ b ≤ 2) := by
                intro q
                obtain ⟨k, rfl, hk⟩ := toN (b := 2) (by decide) q
                have : k = 0 ∨ k = 1 ∨ k = 2 := by omega
                rcases this with rfl | rfl | rfl
                · exact b0 rfl
                · exact b1 rfl
                · exact b2 rfl
              have kmτ : τ.1 84 31 = nI n := (hs.1 84 31 rfl).trans k2
              have k49 : τ.1 84 49 = nI c := (hs.1 84 49 rfl).trans h49
              rw [e241]
              simp only [s241_0, s241_1, s241_2, s241_5, s241_8, s241_9, s241_12, s241_15, s241_16, s241_17, s241_18, s241_21, s241_24, s241_25, xcx_i, xcx_r, xcx_n, xcx_l, xcx_0, isLine_eq, in_eq, kmτ, k49, e0, hcn, xb_f, ite_not, if_pos hd, if_neg hE, if_false, true_or, or_true, true_and]
              first | exact hI.sim hs | exact ⟨trivial, hI.sim hs⟩ | exact ⟨rfl, hI.sim hs⟩
      have hfg : ∀ Q : xM → Prop, (∀ τ, xSim σ τ → τ.1 80 1 = (gr f c).1 → (1 ≤ c → τ.1 80 2 = (gr f c).2) → Q τ) → xV 41 [.ref 80, .ref 38, .ref p, .ref 10, .int (nI l)] σ Q := fun Q hQ => XfindGreatest hX hb k1 hl hc h80 hLx (fun i _ => hf i) hf0 (xSim.rf σ) hQ
      rw [e144]
      rcases hX.1.1 with rfl | rfl
      · simp only [s144_0, s144_1, s144_4, s144_7, s144_8, s144_11, s144_12, s144_15, s144_16_10, s144_16_17, s144_16_24, s144_16_31, s144_19, s144_22, s144_23, s144_24, s144_25, s144_28, s144_29, s144_32, s144_33, s144_36, s144_37, s144_40, s144_41, xcx_i, xcx_r, xcx_n, xcx_l, xcx_0, h80, e1, hc1, if_false, hasLine_eq, k1, xb_f, ite_not, if_pos hd, hpe, true_or, or_true, true_and]
        exact hfg _ after
      · simp only [s144_0, s144_1, s144_4, s144_7, s144_8, s144_11, s144_12, s144_15, s144_16_10, s144_16_17, s144_16_24, s144_16_31, s144_19, s144_22, s144_23, s144_24, s144_25, s144_28, s144_29, s144_32, s144_33, s144_36, s144_37, s144_40, s144_41, xcx_i, xcx_r, xcx_n, xcx_l, xcx_0, h80, e1, hc1, if_false, hasLine_eq, k1, xb_f, ite_not, if_pos hd, hpe, true_or, or_true, true_and]
        exact hfg _ after
  · have hx : xI1 241 (.ref 84 :: [.int a, .int b]) σ (fun r2 σ2 => -1 = r2 ∧ xInv xs L σ2) := by
      rw [e241]
      simp only [s241_0, s241_1, s241_2, s241_5, s241_8, s241_9, s241_12, s241_15, s241_16, s241_17, s241_18, s241_21, s241_24, s241_25, xcx_i, xcx_r, xcx_n, xcx_l, xcx_0, isLine_eq, k2, xb_f, ite_not, if_neg hd, true_or, or_true, true_and]
      first | exact hI | exact ⟨trivial, hI⟩ | exact ⟨rfl, hI⟩
    rw [e144]
    by_cases hc1 : c < 1
    · simp only [s144_0, s144_1, s144_4, s144_7, s144_8, s144_11, s144_12, s144_15, s144_16_10, s144_16_17, s144_16_24, s144_16_31, s144_19, s144_22, s144_23, xcx_i, xcx_r, xcx_n, xcx_l, xcx_0, h80, e1, hc1, if_true, true_or, or_true, true_and]
      exact hx
    · simp only [s144_0, s144_1, s144_4, s144_7, s144_8, s144_11, s144_12, s144_15, s144_16_10, s144_16_17, s144_16_24, s144_16_31, s144_19, s144_22, s144_23, xcx_i, xcx_r, xcx_n, xcx_l, xcx_0, h80, e1, hc1, if_false, hasLine_eq, k1, xb_f, ite_not, if_neg hd, true_or, or_true, true_and]
      exact hx
