/-! blame -/
theorem Xmoor2 {σ : xM} {p n m ns nr bow deck hour : Nat} {D E : Nat → Nat → Nat} {Q : xM → Prop} (h : sdX σ p n ns nr bow deck D E) (hb : sdB n ns nr bow deck D E) (hm : m ≤ n) (hh : hour ≤ 99) (hQ : ∀ τ, xSim σ τ → moX τ m (2 ^ m - 1) (wyF D E bow) (rmF D E bow deck hour) (hdF D E) (brF D E) (D 1) → τ.1 38 7 = 0 → (∀ i, i < m → τ.1 42 i = iI (spF D E deck hour i)) → (∀ j, τ.1 80 j = σ.1 80 j) → Q τ) : xV 43 [.ref 38, .ref p, .ref 10, .int (nI m), .int (nI hour)] σ Q := by
  have hn6 := hb.1
  have hld := hb.ld hour hm
  have hpw : 2 ^ m ≤ 64 := by
    have : 2 ^ m ≤ 2 ^ 6 := Nat.pow_le_pow_right (by decide) (by omega)
    omega
  have hpw1 : 1 ≤ 2 ^ m := Nat.one_le_two_pow
  have hp := h.1.1
  have loop : ∀ k i, i + k = m → ∀ τ, xSim σ τ → τ.1 38 0 = nI m → τ.1 38 1 = nI (2 ^ m - 1) → τ.1 38 7 = 0 → (∀ j, τ.1 80 j = σ.1 80 j) → (∀ j, j < i → τ.1 40 j = iI (wyF D E bow j) ∧ τ.1 41 j = iI (rmF D E bow deck hour j) ∧ τ.1 43 j = iI (hdF D E j) ∧ τ.1 44 j = iI (brF D E j) ∧ τ.1 45 j = nI (D 1 j) ∧ τ.1 42 j = iI (spF D E deck hour j)) → xC 43 30 [some (.ref 38), some (.ref p), some (.ref 10), some (.int (nI m)), some (.int (nI hour)), some (.int (nI i))] [] τ (xqV Q) := by
    intro k
    induction k with
    | zero =>
      intro i hi τ hs h0 h1 h7 h80 hd
      obtain rfl : i = m := by omega
      rw [s43_30]
      simp only [s43_32, s43_33, s43_36, s43_144, xcx_i, xcx_r, xcx_n, xcx_l, xcx_0, h0, Int32.le_refl, if_true]
      exact hQ τ hs ⟨hld, by omega, h0, h1, fun j hj => ⟨(hd j hj).1, (hd j hj).2.1, (hd j hj).2.2.1, (hd j hj).2.2.2.1, (hd j hj).2.2.2.2.1⟩⟩ h7 (fun j hj => (hd j hj).2.2.2.2.2) h80
    | succ k ih =>
      intro i hi τ hs h0 h1 h7 h80 hd
      have hin : i < n := by omega
      have i6 : i < 6 := by omega
      have e := lt4N (n := m) (i := i) (by omega) (by omega)
      have hX := h.sim hs
      obtain ⟨⟨-, hpe, hst⟩, ⟨q1, q2⟩, ql, qs, qr, qw⟩ := id hX
      obtain ⟨e12, e13, e14, e15, e16, e11⟩ := ql i hin
      obtain ⟨a1, a2, a3, a4, a5, a6⟩ := hb.2.2.2.2.2.1 i hin
      obtain ⟨b1, b2⟩ := hb.2.2.2.2.2.2.1 _ a2
      obtain ⟨c1, c2, c3⟩ := hb.2.2.2.2.2.2.2.1 _ a3
      obtain ⟨er1, er2⟩ := qr _ a3
      have hr4 := hb.2.2.1
      have x14 : ∀ τ' : xM, xat τ' 14 (nI i) = τ'.1 14 i := fun τ' => xat_n (by rw [xln_14]; exact i6)
      have x16 : ∀ τ' : xM, xat τ' 16 (nI i) = τ'.1 16 i := fun τ' => xat_n (by rw [xln_16]; exact i6)
      have x13 : ∀ τ' : xM, xat τ' 13 (nI i) = τ'.1 13 i := fun τ' => xat_n (by rw [xln_13]; exact i6)
      have y42 : ∀ x (τ : xM), xpt τ 42 (nI i) x = xe_si τ 42 i x := fun x τ => xpt_n (by rw [xln_42]; exact i6)
      have y43 : ∀ x (τ : xM), xpt τ 43 (nI i) x = xe_si τ 43 i x := fun x τ => xpt_n (by rw [xln_43]; exact i6)
      have y44 : ∀ x (τ : xM), xpt τ 44 (nI i) x = xe_si τ 44 i x := fun x τ => xpt_n (by rw [xln_44]; exact i6)
      have hp1 : ∀ τ' : xM, xat τ' (p + 1) (16 + nI (2 * D 2 i) + 1) = τ'.1 (p + 1) (16 + 2 * D 2 i + 1) := fun τ' => by
        rw [show (16 : Int32) + nI (2 * D 2 i) + 1 = nI (16 + 2 * D 2 i + 1) by rw [show (16 : Int32) + nI (2 * D 2 i) = nI (16 + 2 * D 2 i) from nI_add 16 _, nI_1]]
        exact xrow_p hp (by omega)
      have hp2 : ∀ τ' : xM, xat τ' (p + 1) (16 + nI (2 * D 2 i)) = τ'.1 (p + 1) (16 + 2 * D 2 i) := fun τ' => by
        rw [show (16 : Int32) + nI (2 * D 2 i) = nI (16 + 2 * D 2 i) from nI_add 16 _]
        exact xrow_p hp (by omega)
      have eB : (if (0 : Int32) < nI (E 2 (D 2 i)) - nI (D 4 i) then nI (E 2 (D 2 i)) - nI (D 4 i) else 0) = iI (brF D E i) := by
        rw [nI_iI, nI_iI, iI_sub, show (0 : Int32) = iI 0 from rfl, mx_iI (by omega) (by omega) (by omega) (by omega)]
        rfl
      have hs1 : xSim σ (xe_si (xe_si τ 43 i (nI (E 3 (D 2 i)))) 44 i (iI (brF D E i))) := (hs.si rfl).si rfl
      have hX1 := h.sim hs1
      have hfd : ∀ Q : Int32 → xM → Prop, xI1 106 [.ref 10, .ref p, .int (nI i)] (xe_si (xe_si τ 43 i (nI (E 3 (D 2 i)))) 44 i (iI (brF D E i))) Q = _ := fun Q => hX1.fd hb hin
      have hfl : ∀ Q : Int32 → xM → Prop, xI1 105 [.ref 10, .ref p, .int (nI hour)] (xe_si (xe_si τ 43 i (nI (E 3 (D 2 i)))) 44 i (iI (brF D E i))) Q = _ := fun Q => hX1.fl hb (by omega)
      have eS : iI (5 + (((deck : Int) - E 4 (D 5 i)).natAbs : Int) + D 3 i) - iI (5 + (((deck : Int) - E 4 hour).natAbs : Int)) = iI (spF D E deck hour i) := by
        rw [iI_sub]; congr 1; unfold spF; omega
      have hs2 : xSim σ (xe_si (xe_si (xe_si τ 43 i (nI (E 3 (D 2 i)))) 44 i (iI (brF D E i))) 42 i (iI (spF D E deck hour i))) := hs1.si rfl
      have hti : ∀ Q : xM → Prop, xV 44 [.ref 38, .ref p, .ref 10, .int (nI i), .int (nI (D 1 i))] (xe_si (xe_si (xe_si τ 43 i (nI (E 3 (D 2 i)))) 44 i (iI (brF D E i))) 42 i (iI (spF D E deck hour i))) Q = _ := fun Q => Xtie (h.sim hs2) hb hin a2 (sp := spF D E deck hour i) (by rw [si_rd, if_pos ⟨rfl, rfl⟩])
      have next : xC 43 30 [some (.ref 38), some (.ref p), some (.ref 10), some (.int (nI m)), some (.int (nI hour)), some (.int (nI (i + 1)))] [] (xe_si (xe_si (xe_si (xe_si (xe_si (xe_si (xe_si τ 43 i (nI (E 3 (D 2 i)))) 44 i (iI (brF D E i))) 42 i (iI (spF D E deck hour i))) 45 i (nI (D 1 i))) 40 i (iI ((E 0 (D 1 i) : Int) - bow - D 0 i))) 41 i (iI ((((E 0 (D 1 i) : Int) - bow - D 0 i).natAbs : Int) + spF D E deck hour i))) 38 7 0) (xqV Q) := by
        refine ih (i + 1) (by omega) _ ((((hs2.si rfl).si rfl).si rfl).si rfl) ?_ ?_ rfl (fun j => by simp only [si_rd, Nat.reduceEqDiff, false_and, if_false]; exact h80 j) (fun j hj => ?_)
        · simp only [si_rd, Nat.reduceEqDiff, false_and, and_false, if_false]; exact h0
        · simp only [si_rd, Nat.reduceEqDiff, false_and, and_false, if_false]; exact h1
        · by_cases q : j = i
          · subst q
            simp only [si_rd, Nat.reduceEqDiff, false_and, and_self, if_false, if_true]
            first | exact ⟨rfl, rfl, by rw [nI_iI]; rfl, trivial⟩ | exact ⟨rfl, rfl, by rw [nI_iI]; rfl, trivial, trivial, trivial⟩ | exact ⟨rfl, rfl, by rw [nI_iI]; rfl⟩
          · have hdj := hd j (by omega)
            simpa only [si_rd, Nat.reduceEqDiff, q, false_and, and_false, if_false] using hdj
      rw [s43_30]
      rcases hp with rfl | rfl
      · simp only [s43_32, s43_33, s43_36, s43_39, s43_40, s43_43, s43_45, s43_46, s43_47_10, s43_47_17, s43_47_24, s43_47_31, s43_50, s43_52, s43_55_4, s43_55_7, s43_58, s43_61, s43_62, s43_65, s43_67, s43_68, s43_69, s43_70_10, s43_70_17, s43_70_24, s43_70_31, s43_73, s43_75, s43_78_4, s43_78_7, s43_81, s43_82_10, s43_82_17, s43_82_24, s43_82_31, s43_85, s43_87, s43_90, s43_91, s43_94, s43_97, s43_98, s43_101, s43_103, s43_104, s43_105, s43_107_10, s43_107_17, s43_107_24, s43_107_31, s43_110, s43_111, s43_112, s43_114_10, s43_114_17, s43_114_24, s43_114_31, s43_117, s43_118, s43_121, s43_122, s43_123, s43_124, s43_126, s43_127_10, s43_127_17, s43_127_24, s43_127_31, s43_130, s43_132, s43_135, s43_138, s43_141, xcx_i, xcx_r, xcx_n, xcx_l, xcx_0, h0, e, if_false, at_eq, put_eq, xcl_13, xcl_14, xcl_16, xcl_42, xcl_43, xcl_44, x13, x14, x16, y42, y43, y44, si_rd, Nat.reduceAdd, Nat.reduceEqDiff, false_and, e13, e14, e16, ropePulls_eq, ropeBears_eq, ml_2, hp1, hp2, er1, er2, max_eq, eB, hfd, hfl, eS, hti, nI_1, true_or, or_true]
        exact next
      · simp only [s43_32, s43_33, s43_36, s43_39, s43_40, s43_43, s43_45, s43_46, s43_47_10, s43_47_17, s43_47_24, s43_47_31, s43_50, s43_52, s43_55_4, s43_55_7, s43_58, s43_61, s43_62, s43_65, s43_67, s43_68, s43_69, s43_70_10, s43_70_17, s43_70_24, s43_70_31, s43_73, s43_75, s43_78_4, s43_78_7, s43_81, s43_82_10, s43_82_17, s43_82_24, s43_82_31, s43_85, s43_87, s43_90, s43_91, s43_94, s43_97, s43_98, s43_101, s43_103, s43_104, s43_105, s43_107_10, s43_107_17, s43_107_24, s43_107_31, s43_110, s43_111, s43_112, s43_114_10, s43_114_17, s43_114_24, s43_114_31, s43_117, s43_118, s43_121, s43_122, s43_123, s43_124, s43_126, s43_127_10, s43_127_17, s43_127_24, s43_127_31, s43_130, s43_132, s43_135, s43_138, s43_141, xcx_i, xcx_r, xcx_n, xcx_l, xcx_0, h0, e, if_false, at_eq, put_eq, xcl_13, xcl_14, xcl_16, xcl_42, xcl_43, xcl_44, x13, x14, x16, y42, y43, y44, si_rd, Nat.reduceAdd, Nat.reduceEqDiff, false_and, e13, e14, e16, ropePulls_eq, ropeBears_eq, ml_2, hp1, hp2, er1, er2, max_eq, eB, hfd, hfl, eS, hti, nI_1, true_or, or_true]
        exact next
  have emn : (if (6 : Int32) < nI m then 6 else nI m) = nI m := by
    rw [if_neg (fun q => by have := (nI_ltI (a := 6) (b := m) (by decide) (by omega)).mp q; omega)]
  have epw : nI (2 ^ m) - 1 = nI (2 ^ m - 1) := pk_sub (b := 1) hpw1
  rw [e43]
  simp only [s43_0, s43_1, s43_2, s43_4, s43_7, s43_10, s43_11, s43_12, s43_13, s43_16, s43_17, s43_18, s43_19, s43_22, s43_23, s43_24, s43_27, s43_28, xcx_i, xcx_r, xcx_n, xcx_l, xcx_0, min_eq, emn, si_rd, and_self, if_true, shl1 (show m ≤ 12 by omega), epw, true_or, or_true, true_and]
  refine loop m 0 (by omega) _ ((((xSim.rf σ).si rfl).si rfl).si rfl) rfl rfl rfl (fun j => by simp only [si_rd, Nat.reduceEqDiff, false_and, if_false]) (fun j hj => absurd hj (Nat.not_lt_zero j))
def ldR (D E : Nat → Nat → Nat) (bow deck n l : Nat) (h : Nat) (w s : Int) (x : Int32) : Prop := ∃ u v, isB (csF (wyF D E bow) (rmF D E bow deck h) (hdF D E) (2 ^ n - 1) n w s) u v ∧ x = ldI (plI (wyF D E bow) (rmF D E bow deck h) (hdF D E) u v l) (brF D E l)
theorem ldR_eq {D E : Nat → Nat → Nat} {bow deck n l h : Nat} {w s : Int} {x y : Int32} (h1 : ldR D E bow deck n l h w s x) (h2 : ldR D E bow deck n l h w s y) : x = y := by
  obtain ⟨u, v, b1, e1⟩ := h1
  obtain ⟨u', v', b2, e2⟩ := h2
  obtain ⟨rfl, rfl⟩ := isB_eq b1 b2
  rw [e1, e2]
/-- the greatest, and its row, before row i -/
def gr (f : Nat → Int32) : Nat → Int32 × Int32
  | 0 => (-1, 0)
  | i + 1 => if (gr f i).1 < f i then (f i, nI i) else gr f i
theorem gr_1 {f : Nat → Int32} {k : Nat} (h : f 0 = nI k) (hk : k < 2147483648) : gr f 1 = (f 0, nI 0) := by
  show (if (gr f 0).1 < f 0 then (f 0, nI 0) else gr f 0) = _
  rw [if_pos]
  show (-1 : Int32) < f 0
  rw [h]
  rw [Int32.lt_iff_toInt_lt, nI_ti hk]
  show (-1 : Int) < (k : Nat)
  omega
theorem XfindGreatest {σ τ0 : xM} {p n ns nr bow deck l c : Nat} {D E : Nat → Nat → Nat} {lh : Nat → Nat} {lw ls : Nat → Int} {f : Nat → Int32} {Q : xM → Prop} (h : sdX σ p n ns nr bow deck D E) (hb : sdB n ns nr bow deck D E) (hn : σ.1 10 3 = nI n) (hl : l < n) (hc : c ≤ 12) (h80 : σ.1 80 0 = nI c) (hL : ∀ i, i < c → σ.1 81 i = nI (lh i) ∧ σ.1 82 i = iI (lw i) ∧ σ.1 83 i = iI (ls i) ∧ lh i ≤ 99 ∧ (0 ≤ lw i ∧ lw i ≤ 999) ∧ (-99 ≤ ls i ∧ ls i ≤ 99)) (hf : ∀ i, i < c → ldR D E bow deck n l (lh i) (lw i) (ls i) (f i)) (hf0 : 1 ≤ c → ∃ k, f 0 = nI k ∧ k < 2147483648) (hs0 : xSim σ τ0) (hQ : ∀ τ, xSim σ τ → τ.1 80 1 = (gr f c).1 → (1 ≤ c → τ.1 80 2 = (gr f c).2) → Q τ) : xV 41 [.ref 80, .ref 38, .ref p, .ref 10, .int (nI l)] τ0 Q := by
  have hn6 := hb.1
  have hp := h.1.1
  have loop : ∀ k i, i + k = c → ∀ l6 τ, xSim σ τ → τ.1 80 1 = (gr f i).1 → (1 ≤ i → τ.1 80 2 = (gr f i).2) → xC 41 8 [some (.ref 80), some (.ref 38), some (.ref p), some (.ref 10), some (.int (nI l)), some (.int (nI i)), l6] [] τ (xqV Q) := by
    intro k
    induction k with
    | zero =>
      intro i hi l6 τ hs h1 h2
      obtain rfl : i = c := by omega
      have e80 : τ.1 80 0 = nI i := (hs.1 80 0 rfl).trans h80
      rw [s41_8]
      simp only [s41_10, s41_11, s41_14, s41_93, xcx_i, xcx_r, xcx_n, xcx_l, xcx_0, e80, Int32.le_refl, if_true]
      exact hQ τ hs h1 h2
    | succ k ih =>
      intro i hi l6 τ hs h1 h2
      have i12 : i < 12 := by omega
      have e := lt4N (n := c) (i := i) (by omega) (by omega)
      have e80 : τ.1 80 0 = nI c := (hs.1 80 0 rfl).trans h80
      have e103 : τ.1 10 3 = nI n := (hs.1 10 3 rfl).trans hn
      obtain ⟨g1, g2, g3, g4, g5, g6⟩ := hL i (by omega)
      have x81 : ∀ τ' : xM, xat τ' 81 (nI i) = τ'.1 81 i := fun τ' => xat_n (by rw [xln_81]; exact i12)
      have x82 : ∀ τ' : xM, xat τ' 82 (nI i) = τ'.1 82 i := fun τ' => xat_n (by rw [xln_82]; exact i12)
      have x83 : ∀ τ' : xM, xat τ' 83 (nI i) = τ'.1 83 i := fun τ' => xat_n (by rw [xln_83]; exact i12)
      have v81 : ∀ τ' : xM, xSim σ τ' → τ'.1 81 i = nI (lh i) := fun τ' q => (q.1 81 i rfl).trans g1
      have v82 : ∀ τ' : xM, xSim σ τ' → τ'.1 82 i = iI (lw i) := fun τ' q => (q.1 82 i rfl).trans g2
      have v83 : ∀ τ' : xM, xSim σ τ' → τ'.1 83 i = iI (ls i) := fun τ' q => (q.1 83 i rfl).trans g3
      have after : ∀ τ1, xSim σ τ1 → moX τ1 n (2 ^ n - 1) (wyF D E bow) (rmF D E bow deck (lh i)) (hdF D E) (brF D E) (D 1) → τ1.1 38 7 = 0 → (∀ j, τ1.1 80 j = τ.1 80 j) → xC 41 36 [some (.ref 80), some (.ref 38), some (.ref p), some (.ref 10), some (.int (nI l)), some (.int (nI i)), l6] [] τ1 (xqV Q) := by
        intro τ1 hs1 hM1 h71 hk1
        simp only [s41_36, s41_37, s41_38, s41_41, s41_43, s41_46, s41_47, s41_50, s41_52, s41_55, xcx_i, xcx_r, xcx_n, xcx_l, xcx_0, at_eq, xcl_82, xcl_83, x82, x83, v82 τ1 hs1, v83 τ1 hs1]
        refine Xsettle hM1 (Or.inl h71) g5 g6 (fun τ2 u v hg _ _ hB hS => ?_)
        have hM2 := hM1.mog hg
        have hs2 := hs1.tr hg.sim
        have hld : ∀ Q : Int32 → xM → Prop, xI1 55 [.ref 38, .int (nI l)] τ2 Q = _ := fun Q => Xload hM2 hl (allB hl) hS.2.2.2.2
        have ef : ldI (plI (wyF D E bow) (rmF D E bow deck (lh i)) (hdF D E) u v l) (brF D E l) = f i := ldR_eq ⟨u, v, hB, rfl⟩ (hf i (by omega))
        have k1 : τ2.1 80 1 = (gr f i).1 := by rw [hg.1 80 (by decide) (by decide) (by decide) (by decide), hk1]; exact h1
        have k2 : 1 ≤ i → τ2.1 80 2 = (gr f i).2 := fun q => by rw [hg.1 80 (by decide) (by decide) (by decide) (by decide), hk1]; exact h2 q
        have ele : (f i ≤ (gr f i).1) = ¬ (gr f i).1 < f i := propext Int32.not_lt.symm
        have ihh := fun l6 => ih (i + 1) (by omega) l6
        rw [show gr f (i + 1) = if (gr f i).1 < f i then (f i, nI i) else gr f i from rfl] at ihh
        by_cases q : (gr f i).1 < f i
        · rw [if_pos q] at ihh
          simp only [s41_58, s41_59, s41_61, s41_64, s41_66, s41_68, s41_69, s41_72, s41_75, s41_76, s41_78, s41_81, s41_82, s41_84, s41_87, s41_90, xcx_i, xcx_r, xcx_n, xcx_l, xcx_0, hld, ef, k1, ele, q, not_true, if_false, nI_1, true_or, or_true]
          exact ihh _ _ ((hs2.si rfl).si rfl) rfl (fun _ => rfl)
        · rw [if_neg q] at ihh
          have i1 : 1 ≤ i := by
            rcases Nat.eq_zero_or_pos i with z | z
            · subst z
              obtain ⟨k, hk, hk2⟩ := hf0 (by omega)
              exact absurd (by
                show (-1 : Int32) < f 0
                rw [hk, Int32.lt_iff_toInt_lt, nI_ti hk2]
                show (-1 : Int) < (k : Nat)
                omega) q
            · exact z
          simp only [s41_58, s41_59, s41_61, s41_64, s41_66, s41_68, s41_69, s41_72, s41_75, s41_76, s41_78, s41_81, s41_82, s41_84, s41_87, s41_90, xcx_i, xcx_r, xcx_n, xcx_l, xcx_0, hld, ef, k1, ele, q, not_false_eq_true, if_true, nI_1, true_or, or_true]
          exact ihh _ τ2 hs2 k1 (fun _ => k2 i1)
      have hmo : ∀ Q : xM → Prop, (∀ τ1, xSim σ τ1 → moX τ1 n (2 ^ n - 1) (wyF D E bow) (rmF D E bow deck (lh i)) (hdF D E) (brF D E) (D 1) → τ1.1 38 7 = 0 → (∀ j, τ1.1 80 j = τ.1 80 j) → Q τ1) → xV 43 [.ref 38, .ref p, .ref 10, .int (nI n), .int (nI (lh i))] τ Q := fun Q hQ => Xmoor2 (h.sim hs) hb (Nat.le_refl n) g4 (fun τ1 q1 q2 q3 _ q5 => hQ τ1 (hs.tr q1) q2 q3 q5)
      rw [s41_8]
      rcases hp with rfl | rfl
      · simp only [s41_10, s41_11, s41_14, s41_17, s41_18, s41_19, s41_20, s41_21_10, s41_21_17, s41_21_24, s41_21_31, s41_24, s41_25, s41_28, s41_30, s41_33, xcx_i, xcx_r, xcx_n, xcx_l, xcx_0, e80, e, if_false, e103, at_eq, xcl_81, x81, v81 τ hs, true_or, or_true, true_and]
        exact hmo _ after
      · simp only [s41_10, s41_11, s41_14, s41_17, s41_18, s41_19, s41_20, s41_21_10, s41_21_17, s41_21_24, s41_21_31, s41_24, s41_25, s41_28, s41_30, s41_33, xcx_i, xcx_r, xcx_n, xcx_l, xcx_0, e80, e, if_false, e103, at_eq, xcl_81, x81, v81 τ hs, true_or, or_true, true_and]
        exact hmo _ after
  rw [e41]
  simp only [s41_0, s41_1, s41_2, s41_5, s41_6, xcx_i, xcx_r, xcx_n, xcx_l, xcx_0]
  exact loop c 0 (by omega) _ _ (hs0.si rfl) rfl (fun q => absurd q (by decide))
