/-! moorings: moor, tie -/
theorem sdX.way {σ : xM} {p n ns nr bow deck : Nat} {D E : Nat → Nat → Nat} (h : sdX σ p n ns nr bow deck D E) (hb : sdB n ns nr bow deck D E) {i s : Nat} (hi : i < n) (hs : s < ns) {Q : Int32 → xM → Prop} : xI1 104 [.ref 10, .ref p, .int (nI i), .int (nI s)] σ Q = Q (iI ((E 0 s : Int) - bow - D 0 i)) σ := by
  obtain ⟨⟨hp, hpe, hst⟩, ⟨q1, q2⟩, ql, qs, qr, qw⟩ := h
  have hn6 := hb.1
  have hs8 := hb.2.1
  rw [Xway_eq hp (by omega) (by omega), (qs s hs).1, q1, (ql i hi).1, nI_iI, nI_iI, nI_iI, iI_sub, iI_sub]
theorem sdX.fl {σ : xM} {p n ns nr bow deck : Nat} {D E : Nat → Nat → Nat} (h : sdX σ p n ns nr bow deck D E) (hb : sdB n ns nr bow deck D E) {hour : Nat} (hh : hour < 100000) {Q : Int32 → xM → Prop} : xI1 105 [.ref 10, .ref p, .int (nI hour)] σ Q = Q (iI (5 + (((deck : Int) - E 4 hour).natAbs : Int))) σ := by
  obtain ⟨⟨hp, hpe, hst⟩, ⟨q1, q2⟩, ql, qs, qr, qw⟩ := h
  have hd := hb.2.2.2.2.1
  have w1 := hb.2.2.2.2.2.2.2.2 hour
  rw [Xfl_eq hp hh, q2, qw hour, nI_iI, nI_iI, iI_sub, aI_iI (by omega) (by omega), show (5 : Int32) = iI 5 from rfl, iI_add]
theorem sdX.fd {σ : xM} {p n ns nr bow deck : Nat} {D E : Nat → Nat → Nat} (h : sdX σ p n ns nr bow deck D E) (hb : sdB n ns nr bow deck D E) {i : Nat} (hi : i < n) {Q : Int32 → xM → Prop} : xI1 106 [.ref 10, .ref p, .int (nI i)] σ Q = Q (iI (5 + (((deck : Int) - E 4 (D 5 i)).natAbs : Int) + D 3 i)) σ := by
  obtain ⟨⟨hp, hpe, hst⟩, ⟨q1, q2⟩, ql, qs, qr, qw⟩ := h
  have hd := hb.2.2.2.2.1
  have hn6 := hb.1
  have w1 := hb.2.2.2.2.2.2.2.2 (D 5 i)
  have h5 := (hb.2.2.2.2.2.1 i hi).2.2.2.2.2
  rw [Xfd_eq hp (by omega) (ql i hi).2.2.2.2.2 (by omega), q2, qw (D 5 i), (ql i hi).2.2.2.1, nI_iI, nI_iI, nI_iI, iI_sub, aI_iI (by omega) (by omega), show (5 : Int32) = iI 5 from rfl, iI_add, iI_add]
theorem Xtie {σ : xM} {p n ns nr bow deck : Nat} {D E : Nat → Nat → Nat} {i s : Nat} {sp : Int} {Q : xM → Prop} (h : sdX σ p n ns nr bow deck D E) (hb : sdB n ns nr bow deck D E) (hi : i < n) (hs : s < ns) (h42 : σ.1 42 i = iI sp) : xV 44 [.ref 38, .ref p, .ref 10, .int (nI i), .int (nI s)] σ Q = Q (xe_si (xe_si (xe_si (xe_si σ 45 i (nI s)) 40 i (iI ((E 0 s : Int) - bow - D 0 i))) 41 i (iI ((((E 0 s : Int) - bow - D 0 i).natAbs : Int) + sp))) 38 7 0) := by
  have hn6 := hb.1
  have i6 : i < 6 := by omega
  have hw : ∀ Q : Int32 → xM → Prop, xI1 104 [.ref 10, .ref p, .int (nI i), .int (nI s)] (xe_si σ 45 i (nI s)) Q = Q (iI ((E 0 s : Int) - bow - D 0 i)) (xe_si σ 45 i (nI s)) := fun Q => (h.sim ((xSim.rf σ).si rfl)).way hb hi hs
  have b1 := (hb.2.2.2.2.2.2.1 s hs).1
  have b2 := (hb.2.2.2.2.2.1 i hi).1
  have b3 := hb.2.2.2.1
  have ha : aI (iI ((E 0 s : Int) - bow - D 0 i)) = iI ((((E 0 s : Int) - bow - D 0 i).natAbs : Nat) : Int) := aI_iI (by omega) (by omega)
  have hx40 : ∀ x (τ : xM), xpt τ 40 (nI i) x = xe_si τ 40 i x := fun x τ => xpt_n (by rw [xln_40]; exact i6)
  have hx41 : ∀ x (τ : xM), xpt τ 41 (nI i) x = xe_si τ 41 i x := fun x τ => xpt_n (by rw [xln_41]; exact i6)
  have hx45 : ∀ x (τ : xM), xpt τ 45 (nI i) x = xe_si τ 45 i x := fun x τ => xpt_n (by rw [xln_45]; exact i6)
  have hx42 : ∀ (τ : xM), xat τ 42 (nI i) = τ.1 42 i := fun τ => xat_n (by rw [xln_42]; exact i6)
  rw [e44]
  rcases h.1.1 with rfl | rfl <;> simp only [s44_0, s44_1, s44_4, s44_5, s44_7, s44_10, s44_11, s44_12, s44_13, s44_15_10, s44_15_17, s44_15_24, s44_15_31, s44_18, s44_20, s44_21, s44_24, s44_25, s44_27, s44_30, s44_31, s44_34, s44_35, s44_37, s44_40, s44_41, s44_44, s44_45, s44_48, s44_49, s44_52, s44_53, s44_54, s44_57, xcx_i, xcx_r, xcx_n, xcx_l, xcx_0, put_eq, at_eq, xcl_40, xcl_41, xcl_42, xcl_45, hx40, hx41, hx45, hx42, hw, absA, ha, si_rd, Nat.reduceEqDiff, false_and, if_false, h42, iI_add, true_or, or_true, true_and]
theorem Xmoor {σ : xM} {p n m ns nr bow deck hour : Nat} {D E : Nat → Nat → Nat} {Q : xM → Prop} (h : sdX σ p n ns nr bow deck D E) (hb : sdB n ns nr bow deck D E) (hm : m ≤ n) (hh : hour ≤ 99) (hQ : ∀ τ, xSim σ τ → moX τ m (2 ^ m - 1) (wyF D E bow) (rmF D E bow deck hour) (hdF D E) (brF D E) (D 1) → τ.1 38 7 = 0 → (∀ i, i < m → τ.1 42 i = iI (spF D E deck hour i)) → Q τ) : xV 43 [.ref 38, .ref p, .ref 10, .int (nI m), .int (nI hour)] σ Q := by
  have hn6 := hb.1
  have hld := hb.ld hour hm
  have hpw : 2 ^ m ≤ 64 := by
    have : 2 ^ m ≤ 2 ^ 6 := Nat.pow_le_pow_right (by decide) (by omega)
    omega
  have hpw1 : 1 ≤ 2 ^ m := Nat.one_le_two_pow
  have hp := h.1.1
  have loop : ∀ k i, i + k = m → ∀ τ, xSim σ τ → τ.1 38 0 = nI m → τ.1 38 1 = nI (2 ^ m - 1) → τ.1 38 7 = 0 → (∀ j, j < i → τ.1 40 j = iI (wyF D E bow j) ∧ τ.1 41 j = iI (rmF D E bow deck hour j) ∧ τ.1 43 j = iI (hdF D E j) ∧ τ.1 44 j = iI (brF D E j) ∧ τ.1 45 j = nI (D 1 j) ∧ τ.1 42 j = iI (spF D E deck hour j)) → xC 43 30 [some (.ref 38), some (.ref p), some (.ref 10), some (.int (nI m)), some (.int (nI hour)), some (.int (nI i))] [] τ (xqV Q) := by
    intro k
    induction k with
    | zero =>
      intro i hi τ hs h0 h1 h7 hd
      obtain rfl : i = m := by omega
      rw [s43_30]
      simp only [s43_32, s43_33, s43_36, s43_144, xcx_i, xcx_r, xcx_n, xcx_l, xcx_0, h0, Int32.le_refl, if_true]
      exact hQ τ hs ⟨hld, by omega, h0, h1, fun j hj => ⟨(hd j hj).1, (hd j hj).2.1, (hd j hj).2.2.1, (hd j hj).2.2.2.1, (hd j hj).2.2.2.2.1⟩⟩ h7 (fun j hj => (hd j hj).2.2.2.2.2)
    | succ k ih =>
      intro i hi τ hs h0 h1 h7 hd
      have hin : i < n := by omega
      have i6 : i < 6 := by omega
      have e := lt4N (n := m) (i := i) (by omega) (by omega)
      have hX := h.sim hs
      obtain ⟨⟨-, hpe, hst⟩, ⟨q1, q2⟩, ql, qs, qr, qw⟩ := id hX
      obtain ⟨e12, e13, e14, e15, e16, e11⟩ := ql i hin
      obtain ⟨a1, a2, a3, a4, a5, a6⟩ := hb.2.2.2.2.2.1 i hin
      obtain ⟨b1, b2⟩ := hb.2.2.2.2.2.2.1 _ a2
      obtain ⟨c1, c2, c3⟩ := hb.2.2.2.2.2.2.2.1 _ a3
      obtain ⟨er1, er2⟩ := qr _ a3
      have hr4 := hb.2.2.1
      have x14 : ∀ τ' : xM, xat τ' 14 (nI i) = τ'.1 14 i := fun τ' => xat_n (by rw [xln_14]; exact i6)
      have x16 : ∀ τ' : xM, xat τ' 16 (nI i) = τ'.1 16 i := fun τ' => xat_n (by rw [xln_16]; exact i6)
      have x13 : ∀ τ' : xM, xat τ' 13 (nI i) = τ'.1 13 i := fun τ' => xat_n (by rw [xln_13]; exact i6)
      have y42 : ∀ x (τ : xM), xpt τ 42 (nI i) x = xe_si τ 42 i x := fun x τ => xpt_n (by rw [xln_42]; exact i6)
      have y43 : ∀ x (τ : xM), xpt τ 43 (nI i) x = xe_si τ 43 i x := fun x τ => xpt_n (by rw [xln_43]; exact i6)
      have y44 : ∀ x (τ : xM), xpt τ 44 (nI i) x = xe_si τ 44 i x := fun x τ => xpt_n (by rw [xln_44]; exact i6)
      have hp1 : ∀ τ' : xM, xat τ' (p + 1) (16 + nI (2 * D 2 i) + 1) = τ'.1 (p + 1) (16 + 2 * D 2 i + 1) := fun τ' => by
        rw [show (16 : Int32) + nI (2 * D 2 i) + 1 = nI (16 + 2 * D 2 i + 1) by rw [show (16 : Int32) + nI (2 * D 2 i) = nI (16 + 2 * D 2 i) from nI_add 16 _, nI_1]]
        exact xrow_p hp (by omega)
      have hp2 : ∀ τ' : xM, xat τ' (p + 1) (16 + nI (2 * D 2 i)) = τ'.1 (p + 1) (16 + 2 * D 2 i) := fun τ' => by
        rw [show (16 : Int32) + nI (2 * D 2 i) = nI (16 + 2 * D 2 i) from nI_add 16 _]
        exact xrow_p hp (by omega)
      have eB : (if (0 : Int32) < nI (E 2 (D 2 i)) - nI (D 4 i) then nI (E 2 (D 2 i)) - nI (D 4 i) else 0) = iI (brF D E i) := by
        rw [nI_iI, nI_iI, iI_sub, show (0 : Int32) = iI 0 from rfl, mx_iI (by omega) (by omega) (by omega) (by omega)]
        rfl
      have hs1 : xSim σ (xe_si (xe_si τ 43 i (nI (E 3 (D 2 i)))) 44 i (iI (brF D E i))) := (hs.si rfl).si rfl
      have hX1 := h.sim hs1
      have hfd : ∀ Q : Int32 → xM → Prop, xI1 106 [.ref 10, .ref p, .int (nI i)] (xe_si (xe_si τ 43 i (nI (E 3 (D 2 i)))) 44 i (iI (brF D E i))) Q = _ := fun Q => hX1.fd hb hin
      have hfl : ∀ Q : Int32 → xM → Prop, xI1 105 [.ref 10, .ref p, .int (nI hour)] (xe_si (xe_si τ 43 i (nI (E 3 (D 2 i)))) 44 i (iI (brF D E i))) Q = _ := fun Q => hX1.fl hb (by omega)
      have eS : iI (5 + (((deck : Int) - E 4 (D 5 i)).natAbs : Int) + D 3 i) - iI (5 + (((deck : Int) - E 4 hour).natAbs : Int)) = iI (spF D E deck hour i) := by
        rw [iI_sub]; congr 1; unfold spF; omega
      have hs2 : xSim σ (xe_si (xe_si (xe_si τ 43 i (nI (E 3 (D 2 i)))) 44 i (iI (brF D E i))) 42 i (iI (spF D E deck hour i))) := hs1.si rfl
      have hti : ∀ Q : xM → Prop, xV 44 [.ref 38, .ref p, .ref 10, .int (nI i), .int (nI (D 1 i))] (xe_si (xe_si (xe_si τ 43 i (nI (E 3 (D 2 i)))) 44 i (iI (brF D E i))) 42 i (iI (spF D E deck hour i))) Q = _ := fun Q => Xtie (h.sim hs2) hb hin a2 (sp := spF D E deck hour i) (by rw [si_rd, if_pos ⟨rfl, rfl⟩])
      have next : xC 43 30 [some (.ref 38), some (.ref p), some (.ref 10), some (.int (nI m)), some (.int (nI hour)), some (.int (nI (i + 1)))] [] (xe_si (xe_si (xe_si (xe_si (xe_si (xe_si (xe_si τ 43 i (nI (E 3 (D 2 i)))) 44 i (iI (brF D E i))) 42 i (iI (spF D E deck hour i))) 45 i (nI (D 1 i))) 40 i (iI ((E 0 (D 1 i) : Int) - bow - D 0 i))) 41 i (iI ((((E 0 (D 1 i) : Int) - bow - D 0 i).natAbs : Int) + spF D E deck hour i))) 38 7 0) (xqV Q) := by
        refine ih (i + 1) (by omega) _ ((((hs2.si rfl).si rfl).si rfl).si rfl) ?_ ?_ rfl (fun j hj => ?_)
        · simp only [si_rd, Nat.reduceEqDiff, false_and, and_false, if_false]; exact h0
        · simp only [si_rd, Nat.reduceEqDiff, false_and, and_false, if_false]; exact h1
        · by_cases q : j = i
          · subst q
            simp only [si_rd, Nat.reduceEqDiff, false_and, and_self, if_false, if_true]
            first | exact ⟨rfl, rfl, by rw [nI_iI]; rfl, trivial⟩ | exact ⟨rfl, rfl, by rw [nI_iI]; rfl, trivial, trivial, trivial⟩ | exact ⟨rfl, rfl, by rw [nI_iI]; rfl⟩
          · have hdj := hd j (by omega)
            simpa only [si_rd, Nat.reduceEqDiff, q, false_and, and_false, if_false] using hdj
      rw [s43_30]
      rcases hp with rfl | rfl
      · simp only [s43_32, s43_33, s43_36, s43_39, s43_40, s43_43, s43_45, s43_46, s43_47_10, s43_47_17, s43_47_24, s43_47_31, s43_50, s43_52, s43_55_4, s43_55_7, s43_58, s43_61, s43_62, s43_65, s43_67, s43_68, s43_69, s43_70_10, s43_70_17, s43_70_24, s43_70_31, s43_73, s43_75, s43_78_4, s43_78_7, s43_81, s43_82_10, s43_82_17, s43_82_24, s43_82_31, s43_85, s43_87, s43_90, s43_91, s43_94, s43_97, s43_98, s43_101, s43_103, s43_104, s43_105, s43_107_10, s43_107_17, s43_107_24, s43_107_31, s43_110, s43_111, s43_112, s43_114_10, s43_114_17, s43_114_24, s43_114_31, s43_117, s43_118, s43_121, s43_122, s43_123, s43_124, s43_126, s43_127_10, s43_127_17, s43_127_24, s43_127_31, s43_130, s43_132, s43_135, s43_138, s43_141, xcx_i, xcx_r, xcx_n, xcx_l, xcx_0, h0, e, if_false, at_eq, put_eq, xcl_13, xcl_14, xcl_16, xcl_42, xcl_43, xcl_44, x13, x14, x16, y42, y43, y44, si_rd, Nat.reduceAdd, Nat.reduceEqDiff, false_and, e13, e14, e16, ropePulls_eq, ropeBears_eq, ml_2, hp1, hp2, er1, er2, max_eq, eB, hfd, hfl, eS, hti, nI_1, true_or, or_true]
        exact next
      · simp only [s43_32, s43_33, s43_36, s43_39, s43_40, s43_43, s43_45, s43_46, s43_47_10, s43_47_17, s43_47_24, s43_47_31, s43_50, s43_52, s43_55_4, s43_55_7, s43_58, s43_61, s43_62, s43_65, s43_67, s43_68, s43_69, s43_70_10, s43_70_17, s43_70_24, s43_70_31, s43_73, s43_75, s43_78_4, s43_78_7, s43_81, s43_82_10, s43_82_17, s43_82_24, s43_82_31, s43_85, s43_87, s43_90, s43_91, s43_94, s43_97, s43_98, s43_101, s43_103, s43_104, s43_105, s43_107_10, s43_107_17, s43_107_24, s43_107_31, s43_110, s43_111, s43_112, s43_114_10, s43_114_17, s43_114_24, s43_114_31, s43_117, s43_118, s43_121, s43_122, s43_123, s43_124, s43_126, s43_127_10, s43_127_17, s43_127_24, s43_127_31, s43_130, s43_132, s43_135, s43_138, s43_141, xcx_i, xcx_r, xcx_n, xcx_l, xcx_0, h0, e, if_false, at_eq, put_eq, xcl_13, xcl_14, xcl_16, xcl_42, xcl_43, xcl_44, x13, x14, x16, y42, y43, y44, si_rd, Nat.reduceAdd, Nat.reduceEqDiff, false_and, e13, e14, e16, ropePulls_eq, ropeBears_eq, ml_2, hp1, hp2, er1, er2, max_eq, eB, hfd, hfl, eS, hti, nI_1, true_or, or_true]
        exact next
  have emn : (if (6 : Int32) < nI m then 6 else nI m) = nI m := by
    rw [if_neg (fun q => by have := (nI_ltI (a := 6) (b := m) (by decide) (by omega)).mp q; omega)]
  have epw : nI (2 ^ m) - 1 = nI (2 ^ m - 1) := pk_sub (b := 1) hpw1
  rw [e43]
  simp only [s43_0, s43_1, s43_2, s43_4, s43_7, s43_10, s43_11, s43_12, s43_13, s43_16, s43_17, s43_18, s43_19, s43_22, s43_23, s43_24, s43_27, s43_28, xcx_i, xcx_r, xcx_n, xcx_l, xcx_0, min_eq, emn, si_rd, and_self, if_true, shl1 (show m ≤ 12 by omega), epw, true_or, or_true, true_and]
  refine loop m 0 (by omega) _ ((((xSim.rf σ).si rfl).si rfl).si rfl) rfl rfl rfl (fun j hj => absurd hj (Nat.not_lt_zero j))
