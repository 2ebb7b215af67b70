/-! moorings: the reference's rest -/
section REFREST
variable {σ : xM} {n ns nr bow deck hour : Nat} {D E : Nat → Nat → Nat} {Q : Int32 → xM → Prop} {u v : Int} {i H : Nat}
theorem MpullAt (h : sdM σ n ns nr bow deck D E) (hb : sdB n ns nr bow deck D E) (hh : hour ≤ 99) (hg : gdU u v) (hi : i < n) : xI1 190 [.ref 84, .int (nI i), .int (nI hour), .int (iI u), .int (iI v)] σ Q = Q (iI (plI (wyF D E bow) (rmF D E bow deck hour) (hdF D E) u v i)) σ := by
  have hld := hb.ld hour (Nat.le_refl n)
  obtain ⟨⟨w1, w2⟩, r1, r2, ⟨k1, k2⟩, ⟨b1, b2⟩, s1⟩ := hld.2 i hi
  obtain ⟨g1, g2, g3, g4⟩ := hg
  obtain ⟨hns, ⟨q1, q2⟩, ql, qs, qr, qw⟩ := h
  obtain ⟨e0, e1, e2, e3, e4, e5⟩ := ql i hi
  obtain ⟨a1, a2, a3, a4, a5, a6⟩ := hb.2.2.2.2.2.1 i hi
  have hn6 := hb.1
  have hd := hb.2.2.2.2.1
  have y1 := hb.2.2.2.2.2.2.2.2 hour
  have y2 := hb.2.2.2.2.2.2.2.2 (D 5 i)
  have hr4 := hb.2.2.1
  have i6 : i < 6 := by omega
  have eW : nI (E 0 (D 1 i)) - nI bow - nI (D 0 i) = iI (wyF D E bow i) := by rw [nI_iI, nI_iI, nI_iI, iI_sub, iI_sub]; rfl
  have hlong : ∀ Q : Int32 → xM → Prop, xI1 188 [.ref 84, .int (nI i), .int (nI hour), .int (iI u), .int (iI v)] σ Q = Q (iI (((wyF D E bow i - u).natAbs : Int) + 5 + v + (((deck : Int) - E 4 hour).natAbs : Int))) σ := by
    intro Q
    rw [MlongAt_eq i6 s1 e1 (by omega), (qs _ a2).1, q1, q2, e0, qw hour, eW, iI_sub, aI_iI (by omega) (by omega), nI_iI, nI_iI, iI_sub, aI_iI (by omega) (by omega), show (5 : Int32) = iI 5 from rfl, iI_add, iI_add, iI_add]
  have hlaid : ∀ Q : Int32 → xM → Prop, xI1 189 [.ref 84, .int (nI i)] σ Q = Q (iI (((wyF D E bow i).natAbs : Int) + 5 + (((deck : Int) - E 4 (D 5 i)).natAbs : Int) + D 3 i)) σ := by
    intro Q
    rw [Mlaid_eq i6 s1 e1 e5 (by omega), (qs _ a2).1, q1, q2, e0, e3, qw (D 5 i), eW, Int32.sub_zero, Int32.add_zero, aI_iI (by omega) (by omega), nI_iI, nI_iI, nI_iI, iI_sub, aI_iI (by omega) (by omega), show (5 : Int32) = iI 5 from rfl, iI_add, iI_add, iI_add]
  have ediff : iI (((wyF D E bow i - u).natAbs : Int) + 5 + v + (((deck : Int) - E 4 hour).natAbs : Int)) - iI (((wyF D E bow i).natAbs : Int) + 5 + (((deck : Int) - E 4 (D 5 i)).natAbs : Int) + D 3 i) = iI (((wyF D E bow i - u).natAbs : Int) + v - rmF D E bow deck hour i) := by
    rw [iI_sub]; congr 1; unfold rmF spF; omega
  have hle : (iI (((wyF D E bow i - u).natAbs : Int) + v - rmF D E bow deck hour i) ≤ 0) = (((wyF D E bow i - u).natAbs : Int) + v - rmF D E bow deck hour i ≤ 0) := propext (iI_le (b := 0) (by omega) (by omega) (by omega) (by omega))
  have b0 : 2 * D 2 i + 1 < 100000 := by omega
  have c0 : 2 * D 2 i + 1 < 8 := by omega
  have er := (qr _ a3).2
  have hgt : (0 < iI (((wyF D E bow i - u).natAbs : Int) + v - rmF D E bow deck hour i)) = (0 < ((wyF D E bow i - u).natAbs : Int) + v - rmF D E bow deck hour i) := propext (iI_lt (a := 0) (by omega) (by omega) (by omega) (by omega))
  rw [e190]
  by_cases c : 0 < ((wyF D E bow i - u).natAbs : Int) + v - rmF D E bow deck hour i
  · have ep : iI (((wyF D E bow i - u).natAbs : Int) + v - rmF D E bow deck hour i) * nI (E 3 (D 2 i)) = iI (plI (wyF D E bow) (rmF D E bow deck hour) (hdF D E) u v i) := by
      rw [nI_iI, iI_mul, Int.mul_comm]
      unfold plI drF hdF
      rw [show max 0 (((wyF D E bow i - u).natAbs : Int) + v - rmF D E bow deck hour i) = ((wyF D E bow i - u).natAbs : Int) + v - rmF D E bow deck hour i by omega]
    simp only [s190_0, s190_1, s190_2, s190_3, s190_4, s190_6, s190_9, s190_10, s190_11, s190_14, s190_15, s190_17, s190_19, s190_22, s190_23, s190_26, s190_28, s190_29, s190_32, s190_33, s190_34, s190_35, s190_36, s190_39, s190_40, s190_41, s190_42, s190_43, s190_44, xcx_i, xcx_r, xcx_n, xcx_l, xcx_0, hlong, hlaid, ediff, hgt, c, if_true, Mf2 i6, e2, ml_2, al_1, xcl_93, xln_93, b0, c0, cl_s, pos_s, true_and, er, ep, true_or, or_true]
  · have ez : plI (wyF D E bow) (rmF D E bow deck hour) (hdF D E) u v i = 0 := by
      unfold plI drF
      rw [show max 0 (((wyF D E bow i - u).natAbs : Int) + v - rmF D E bow deck hour i) = 0 by omega, Int.mul_zero]
    rw [ez]
    simp only [s190_0, s190_1, s190_2, s190_3, s190_4, s190_6, s190_9, s190_10, s190_11, s190_14, s190_15, s190_17, s190_19, s190_22, s190_23, s190_26, s190_28, s190_29, s190_32, s190_33, s190_34, s190_35, s190_36, s190_39, s190_40, s190_41, s190_42, s190_43, s190_44, xcx_i, xcx_r, xcx_n, xcx_l, xcx_0, hlong, hlaid, ediff, hgt, c, if_false, true_or, or_true, true_and]
    rfl
theorem Malong {m : Nat} {s : Int} (h : sdM σ n ns nr bow deck D E) (hb : sdB n ns nr bow deck D E) (hh : hour ≤ 99) (hg : gdU u v) (hm : m ≤ n) (hl : σ.1 84 31 = nI m) (hH : H < 64) : xI1 193 [.ref 84, .int (nI hour), .int (iI u), .int (iI v), .int (iI s), .int (nI H)] σ Q = Q (iI (s + alF (wyF D E bow) (rmF D E bow deck hour) (hdF D E) H m u v)) σ := by
  have hn6 := hb.1
  have hld := hb.ld hour (Nat.le_refl n)
  have loop : ∀ k i, i + k = m → ∀ l8, xC 193 7 [some (.ref 84), some (.int (nI hour)), some (.int (iI u)), some (.int (iI v)), some (.int (iI s)), some (.int (nI H)), some (.int (iI (s + alF (wyF D E bow) (rmF D E bow deck hour) (hdF D E) H i u v))), some (.int (nI i)), l8] [] σ (xqI Q) = Q (iI (s + alF (wyF D E bow) (rmF D E bow deck hour) (hdF D E) H m u v)) σ := by
    intro k
    induction k with
    | zero =>
      intro i hi l8
      obtain rfl : i = m := by omega
      rw [s193_7]
      simp only [s193_9, s193_10, s193_13, s193_99, s193_101, xcx_i, xcx_r, xcx_n, xcx_l, xcx_0, hl, Int32.le_refl, if_true]
    | succ k ih =>
      intro i hi l8
      have hin : i < n := by omega
      have i6 : i < 6 := by omega
      have e := lt4N (n := m) (i := i) (by omega) (by omega)
      obtain ⟨⟨w1, w2⟩, r1, r2, ⟨k1, k2⟩, ⟨b1, b2⟩, s1⟩ := hld.2 i hin
      obtain ⟨g1, g2, g3, g4⟩ := id hg
      obtain ⟨hns, ⟨q1, q2⟩, ql, qs, qr, qw⟩ := id h
      obtain ⟨e0, e1, e2, e3, e4, e5⟩ := ql i hin
      have a2 := (hb.2.2.2.2.2.1 i hin).2.1
      have hbit : (nI H >>> (nI i &&& 31) &&& 1 = 1) = (H.testBit i = true) := bit64 hH i6
      have hpl : ∀ Q : Int32 → xM → Prop, xI1 190 [.ref 84, .int (nI i), .int (nI hour), .int (iI u), .int (iI v)] σ Q = _ := fun Q => MpullAt h hb hh hg hin
      have hpo : ∀ Q : Int32 → xM → Prop, xI1 187 [.ref 84, .int (nI i)] σ Q = Q (nI (E 0 (D 1 i))) σ := fun Q => by rw [MplaceOf_eq i6 s1 e1, (qs _ a2).1]
      have eW : nI (E 0 (D 1 i)) - nI bow - nI (D 0 i) - iI u = iI (wyF D E bow i - u) := by rw [nI_iI, nI_iI, nI_iI, iI_sub, iI_sub, iI_sub]; rfl
      have hgt : (0 < iI (wyF D E bow i - u)) = (0 < wyF D E bow i - u) := propext (iI_lt (a := 0) (by omega) (by omega) (by omega) (by omega))
      have hlt : (iI (wyF D E bow i - u) < 0) = (wyF D E bow i - u < 0) := propext (iI_lt (b := 0) (by omega) (by omega) (by omega) (by omega))
      have hge : (0 ≤ iI (wyF D E bow i - u)) = (0 ≤ wyF D E bow i - u) := propext (iI_le (a := 0) (by omega) (by omega) (by omega) (by omega))
      have hle : (iI (wyF D E bow i - u) ≤ 0) = (wyF D E bow i - u ≤ 0) := propext (iI_le (b := 0) (by omega) (by omega) (by omega) (by omega))
      have ihh := fun l8 => ih (i + 1) (by omega) l8
      rw [show alF (wyF D E bow) (rmF D E bow deck hour) (hdF D E) H (i + 1) u v = alF (wyF D E bow) (rmF D E bow deck hour) (hdF D E) H i u v + if H.testBit i then (wyF D E bow i - u).sign * plI (wyF D E bow) (rmF D E bow deck hour) (hdF D E) u v i else 0 from rfl] at ihh
      rw [s193_7]
      by_cases hb' : H.testBit i = true
      · rw [if_pos hb'] at ihh
        rcases Int.lt_trichotomy (wyF D E bow i - u) 0 with z | z | z
        · rw [Int.sign_eq_neg_one_of_neg z] at ihh
          have z1 : ¬ 0 < wyF D E bow i - u := by omega
          have z2 : ¬ 0 ≤ wyF D E bow i - u := by omega
          have z4 : wyF D E bow i - u ≤ 0 := by omega
          have es : iI (s + alF (wyF D E bow) (rmF D E bow deck hour) (hdF D E) H i u v) + -iI (plI (wyF D E bow) (rmF D E bow deck hour) (hdF D E) u v i) = iI (s + (alF (wyF D E bow) (rmF D E bow deck hour) (hdF D E) H i u v + -1 * plI (wyF D E bow) (rmF D E bow deck hour) (hdF D E) u v i)) := by
            rw [iI_neg, iI_add]; congr 1; omega
          simp only [s193_9, s193_10, s193_13, s193_16, s193_18, s193_20, s193_21, s193_22, s193_23, s193_26, s193_29, s193_30, s193_32, s193_35, s193_36, s193_39, s193_40, s193_41, s193_43, s193_44, s193_47, s193_48, s193_49, s193_50, s193_52, s193_54, s193_56, s193_59, s193_60, s193_62, s193_63, s193_64, s193_65, s193_68, s193_71, s193_73, s193_76, s193_77, s193_79, s193_80, s193_81, s193_82, s193_85, s193_86, s193_89, s193_90, s193_91, s193_93, s193_96, xcx_i, xcx_r, xcx_n, xcx_l, xcx_0, hl, e, if_false, and01, hbit, hb', not_true, hpo, q1, Mf0 i6, e0, eW, hgt, hle, hge, hlt, z, z1, z2, z4, if_true, not_false_eq_true, hpl, es, nI_1, true_or, or_true]
          exact ihh _
        · rw [z, Int.sign_zero] at ihh
          have z1 : ¬ 0 < wyF D E bow i - u := by omega
          have z2 : 0 ≤ wyF D E bow i - u := by omega
          have z3 : ¬ wyF D E bow i - u < 0 := by omega
          have z4 : wyF D E bow i - u ≤ 0 := by omega
          have es : iI (s + alF (wyF D E bow) (rmF D E bow deck hour) (hdF D E) H i u v) + 0 = iI (s + (alF (wyF D E bow) (rmF D E bow deck hour) (hdF D E) H i u v + 0 * plI (wyF D E bow) (rmF D E bow deck hour) (hdF D E) u v i)) := by
            rw [Int32.add_zero]; congr 1; omega
          simp only [s193_9, s193_10, s193_13, s193_16, s193_18, s193_20, s193_21, s193_22, s193_23, s193_26, s193_29, s193_30, s193_32, s193_35, s193_36, s193_39, s193_40, s193_41, s193_43, s193_44, s193_47, s193_48, s193_49, s193_50, s193_52, s193_54, s193_56, s193_59, s193_60, s193_62, s193_63, s193_64, s193_65, s193_68, s193_71, s193_73, s193_76, s193_77, s193_79, s193_80, s193_81, s193_82, s193_85, s193_86, s193_89, s193_90, s193_91, s193_93, s193_96, xcx_i, xcx_r, xcx_n, xcx_l, xcx_0, hl, e, if_false, and01, hbit, hb', not_true, hpo, q1, Mf0 i6, e0, eW, hgt, hle, hge, hlt, z1, z2, z3, z4, if_true, not_false_eq_true, es, nI_1, true_or, or_true]
          exact ihh _
        · rw [Int.sign_eq_one_of_pos z] at ihh
          have z1 : ¬ wyF D E bow i - u ≤ 0 := by omega
          have es : iI (s + alF (wyF D E bow) (rmF D E bow deck hour) (hdF D E) H i u v) + iI (plI (wyF D E bow) (rmF D E bow deck hour) (hdF D E) u v i) = iI (s + (alF (wyF D E bow) (rmF D E bow deck hour) (hdF D E) H i u v + 1 * plI (wyF D E bow) (rmF D E bow deck hour) (hdF D E) u v i)) := by
            rw [iI_add]; congr 1; omega
          simp only [s193_9, s193_10, s193_13, s193_16, s193_18, s193_20, s193_21, s193_22, s193_23, s193_26, s193_29, s193_30, s193_32, s193_35, s193_36, s193_39, s193_40, s193_41, s193_43, s193_44, s193_47, s193_48, s193_49, s193_50, s193_52, s193_54, s193_56, s193_59, s193_60, s193_62, s193_63, s193_64, s193_65, s193_68, s193_71, s193_73, s193_76, s193_77, s193_79, s193_80, s193_81, s193_82, s193_85, s193_86, s193_89, s193_90, s193_91, s193_93, s193_96, xcx_i, xcx_r, xcx_n, xcx_l, xcx_0, hl, e, if_false, and01, hbit, hb', not_true, hpo, q1, Mf0 i6, e0, eW, hgt, hle, z, z1, if_true, not_false_eq_true, hpl, es, nI_1, true_or, or_true]
          exact ihh _
      · rw [if_neg hb', Int.add_zero] at ihh
        simp only [s193_9, s193_10, s193_13, s193_16, s193_18, s193_20, s193_21, s193_22, s193_23, s193_26, s193_29, s193_30, s193_32, s193_35, s193_36, s193_39, s193_40, s193_41, s193_43, s193_44, s193_47, s193_48, s193_49, s193_50, s193_52, s193_54, s193_56, s193_59, s193_60, s193_62, s193_63, s193_64, s193_65, s193_68, s193_71, s193_73, s193_76, s193_77, s193_79, s193_80, s193_81, s193_82, s193_85, s193_86, s193_89, s193_90, s193_91, s193_93, s193_96, xcx_i, xcx_r, xcx_n, xcx_l, xcx_0, hl, e, if_false, and01, hbit, hb', not_false_eq_true, not_true, if_true, nI_1, true_or, or_true, Bool.false_eq_true]
        exact ihh _
  rw [e193]
  simp only [s193_0, s193_2, s193_4, s193_5, xcx_i, xcx_r, xcx_n, xcx_l, xcx_0]
  have hl0 := loop m 0 (by omega) none
  rw [show alF (wyF D E bow) (rmF D E bow deck hour) (hdF D E) H 0 u v = 0 from rfl, Int.add_zero] at hl0
  exact hl0
theorem Mpulls {m : Nat} (h : sdM σ n ns nr bow deck D E) (hb : sdB n ns nr bow deck D E) (hh : hour ≤ 99) (hg : gdU u v) (hm : m ≤ n) (hl : σ.1 84 31 = nI m) (hH : H < 64) : xI1 194 [.ref 84, .int (nI hour), .int (iI u), .int (iI v), .int (nI H)] σ Q = Q (iI (puF (wyF D E bow) (rmF D E bow deck hour) (hdF D E) H m u v)) σ := by
  have hn6 := hb.1
  have loop : ∀ k i, i + k = m → xC 194 6 [some (.ref 84), some (.int (nI hour)), some (.int (iI u)), some (.int (iI v)), some (.int (nI H)), some (.int (iI (puF (wyF D E bow) (rmF D E bow deck hour) (hdF D E) H i u v))), some (.int (nI i))] [] σ (xqI Q) = Q (iI (puF (wyF D E bow) (rmF D E bow deck hour) (hdF D E) H m u v)) σ := by
    intro k
    induction k with
    | zero =>
      intro i hi
      obtain rfl : i = m := by omega
      rw [s194_6]
      simp only [s194_8, s194_9, s194_12, s194_46, s194_48, xcx_i, xcx_r, xcx_n, xcx_l, xcx_0, hl, Int32.le_refl, if_true]
    | succ k ih =>
      intro i hi
      have hin : i < n := by omega
      have i6 : i < 6 := by omega
      have e := lt4N (n := m) (i := i) (by omega) (by omega)
      have hbit : (nI H >>> (nI i &&& 31) &&& 1 = 1) = (H.testBit i = true) := bit64 hH i6
      have hpl : ∀ Q : Int32 → xM → Prop, xI1 190 [.ref 84, .int (nI i), .int (nI hour), .int (iI u), .int (iI v)] σ Q = _ := fun Q => MpullAt h hb hh hg hin
      have ihh := ih (i + 1) (by omega)
      rw [show puF (wyF D E bow) (rmF D E bow deck hour) (hdF D E) H (i + 1) u v = puF (wyF D E bow) (rmF D E bow deck hour) (hdF D E) H i u v + if H.testBit i then plI (wyF D E bow) (rmF D E bow deck hour) (hdF D E) u v i else 0 from rfl] at ihh
      rw [s194_6]
      by_cases hb' : H.testBit i = true
      · rw [if_pos hb'] at ihh
        simp only [s194_8, s194_9, s194_12, s194_15, s194_17, s194_19, s194_20, s194_21, s194_22, s194_23, s194_26, s194_28, s194_29, s194_31, s194_32, s194_33, s194_34, s194_37, s194_38, s194_40, s194_43, xcx_i, xcx_r, xcx_n, xcx_l, xcx_0, hl, e, if_false, hbit, hb', not_true, if_true, hpl, iI_add, nI_1, true_or, or_true]
        exact ihh
      · rw [if_neg hb', Int.add_zero] at ihh
        simp only [s194_8, s194_9, s194_12, s194_15, s194_17, s194_19, s194_20, s194_21, s194_22, s194_23, s194_26, s194_28, s194_29, s194_31, s194_32, s194_33, s194_34, s194_37, s194_38, s194_40, s194_43, xcx_i, xcx_r, xcx_n, xcx_l, xcx_0, hl, e, if_false, hbit, hb', not_false_eq_true, if_true, nI_1, true_or, or_true, Bool.false_eq_true]
        exact ihh
  rw [e194]
  simp only [s194_0, s194_1, s194_3, s194_4, xcx_i, xcx_r, xcx_n, xcx_l, xcx_0]
  exact loop m 0 (by omega)
theorem MoffBy {m : Nat} {w : Int} (h : sdM σ n ns nr bow deck D E) (hb : sdB n ns nr bow deck D E) (hh : hour ≤ 99) (hg : gdU u v) (hm : m ≤ n) (hl : σ.1 84 31 = nI m) (hH : H < 64) (hw : 0 ≤ w ∧ w ≤ 999) : xI1 195 [.ref 84, .int (nI hour), .int (iI u), .int (iI v), .int (iI w), .int (nI H)] σ Q = Q (iI (ofF w (puF (wyF D E bow) (rmF D E bow deck hour) (hdF D E) H m u v) v)) σ := by
  have hpu := puF_bd (hb.ld hour hm) (H := H) hg
  have hp : ∀ Q : Int32 → xM → Prop, xI1 194 [.ref 84, .int (nI hour), .int (iI u), .int (iI v), .int (nI H)] σ Q = _ := fun Q => Mpulls h hb hh hg hm hl hH
  obtain ⟨g1, g2, g3, g4⟩ := hg
  generalize puF (wyF D E bow) (rmF D E bow deck hour) (hdF D E) H m u v = pu at hp hpu
  have ez : (iI v = 0) = (v = 0) := propext (iI_eq (b := 0) (by omega) (by omega) (by omega) (by omega))
  have el : (0 ≤ iI (w - pu)) = (0 ≤ w - pu) := propext (iI_le (a := 0) (by omega) (by omega) (by omega) (by omega))
  have el2 : (iI (w - pu) < 0) = (w - pu < 0) := propext (iI_lt (b := 0) (by omega) (by omega) (by omega) (by omega))
  rw [e195]
  unfold ofF
  by_cases c1 : v = 0
  · have ez1 : (iI v = 0) = True := by rw [ez]; exact eq_true c1
    by_cases c2 : w - pu < 0
    · have c3 : ¬ 0 ≤ w - pu := by omega
      rw [if_pos ⟨c1, c2⟩]
      simp only [s195_0, s195_2, s195_3, s195_4, s195_5, s195_6, s195_8, s195_11, s195_12, s195_14, s195_15, s195_18, s195_20, s195_23, s195_24, s195_27, s195_29, xcx_i, xcx_r, xcx_n, xcx_l, xcx_0, hp, iI_sub, ez1, el, el2, c2, c3, not_true, if_true, if_false, true_or, or_true, true_and]
      rfl
    · have c3 : 0 ≤ w - pu := by omega
      rw [if_neg (fun q => c2 q.2)]
      simp only [s195_0, s195_2, s195_3, s195_4, s195_5, s195_6, s195_8, s195_11, s195_12, s195_14, s195_15, s195_18, s195_20, s195_23, s195_24, s195_27, s195_29, xcx_i, xcx_r, xcx_n, xcx_l, xcx_0, hp, iI_sub, ez1, el, el2, c2, c3, not_true, if_true, if_false, true_or, or_true, true_and]
  · rw [if_neg (fun q => c1 q.1)]
    simp only [s195_0, s195_2, s195_3, s195_4, s195_5, s195_6, s195_8, s195_11, s195_12, s195_14, s195_15, s195_18, s195_20, s195_23, s195_24, s195_27, s195_29, xcx_i, xcx_r, xcx_n, xcx_l, xcx_0, hp, iI_sub, ez, el, c1, not_false_eq_true, if_true, true_or, or_true]
end REFREST
