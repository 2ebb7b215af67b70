/-! what is known of a line; her length as it was laid -/
def aI (v : Int32) : Int32 := if 0 ≤ v then v else -v
theorem absA {v : Int32} {σ : xM} {Q : Int32 → xM → Prop} : xI1 3 [.int v] σ Q = Q (aI v) σ := abs_eq
theorem farA {v : Int32} {σ : xM} {Q : Int32 → xM → Prop} : xI1 159 [.int v] σ Q = Q (aI v) σ := far_eq
theorem bdN {x : Int32} {b : Int} (h : bd x 0 b) : ∃ n : Nat, (n : Int) ≤ b ∧ x = nI n ∧ n < 2147483648 := by
  have h0 : ¬ x < 0 := fun q => by have := Int32.lt_iff_toInt_lt.mp q; have h1 := h.1; have e : (0 : Int32).toInt = 0 := by decide
                                   omega
  obtain ⟨n, hn, rfl⟩ := nI_of h0
  exact ⟨n, by have := h.2; rw [nI_ti hn] at this; exact this, rfl, hn⟩
/-- the six numbers of line l -/
def lnV (σ : xM) (l ns nr ho s r sl ag h : Nat) : Prop := (ho ≤ 80 ∧ s < ns ∧ r < nr ∧ sl ≤ 20 ∧ ag ≤ 99 ∧ h ≤ 99) ∧ (σ.1 12 l = nI ho ∧ σ.1 13 l = nI s ∧ σ.1 14 l = nI r ∧ σ.1 15 l = nI sl ∧ σ.1 16 l = nI ag ∧ σ.1 11 l = nI h) ∧ (σ.1 98 (6 * l) = nI ho ∧ σ.1 98 (6 * l + 1) = nI s ∧ σ.1 98 (6 * l + 2) = nI r ∧ σ.1 98 (6 * l + 3) = nI sl ∧ σ.1 98 (6 * l + 4) = nI ag ∧ σ.1 98 (6 * l + 5) = nI h)
theorem gLn.get {σ : xM} {l ns nr : Nat} (h17 : σ.1 84 17 = nI ns) (h19 : σ.1 84 19 = nI nr) (hs : ns ≤ 8) (hr : nr ≤ 4) (h : gLn (σ.1 11 l) (σ.1 12 l) (σ.1 13 l) (σ.1 14 l) (σ.1 15 l) (σ.1 16 l) (σ.1 98) (6 * l) (σ.1 84 17) (σ.1 84 19)) : ∃ ho s r sl ag h : Nat, lnV σ l ns nr ho s r sl ag h := by
  obtain ⟨a1, a2, a3, a4, a5, a6, b1, b2, b3, b4, b5, b6⟩ := h
  rw [h17, nI_ti (show ns < 2147483648 by omega)] at b2
  rw [h19, nI_ti (show nr < 2147483648 by omega)] at b3
  obtain ⟨ho, c1, d1, -⟩ := bdN b1
  obtain ⟨s, c2, d2, -⟩ := bdN b2
  obtain ⟨r, c3, d3, -⟩ := bdN b3
  obtain ⟨sl, c4, d4, -⟩ := bdN b4
  obtain ⟨ag, c5, d5, -⟩ := bdN b5
  obtain ⟨h, c6, d6, -⟩ := bdN b6
  exact ⟨ho, s, r, sl, ag, h, ⟨by omega, by omega, by omega, by omega, by omega, by omega⟩, ⟨d1, d2, d3, d4, d5, d6⟩, ⟨a1.trans d1, a2.trans d2, a3.trans d3, a4.trans d4, a5.trans d5, a6.trans d6⟩⟩
theorem half12 {h : Nat} (hh : h < 100000) : (nI h - nI h / 12 * 12) / 2 = nI (h % 12 / 2) := by
  have h1 : nI h - nI h / 12 * 12 = nI (h % 12) := pk_rem (d := 12) (by omega) (by decide) (by decide)
  rw [h1]
  exact pk_div (d := 2) (by omega) (by decide) (by decide)
theorem rem12 {h : Nat} (hh : h < 100000) : nI h - nI h / 12 * 12 = nI (h % 12) := pk_rem (d := 12) (by omega) (by decide) (by decide)
theorem div2 {h : Nat} (hh : h < 100000) : nI h / 2 = nI (h / 2) := pk_div (d := 2) (by omega) (by decide) (by decide)
theorem tab2_36 {σ : xM} {Q : Int32 → xM → Prop} : xI1 156 [.ref 1022, .int 3] σ Q = Q 36 σ := by rw [at_t2, tab2_3]
theorem Xwater_eq {σ : xM} {p h : Nat} {Q : Int32 → xM → Prop} (hp : p = 4 ∨ p = 7) (hh : h < 100000) : xI1 76 [.ref p, .int (nI h)] σ Q = Q (σ.1 (p + 1) (36 + h % 12 / 2)) σ := by
  have h0 : (0 : Int32) ≤ nI h := nI_pos' (by omega)
  have h2 : ¬ (2 : Int32) = 0 := by decide
  have e : (36 : Int32) + nI (h % 12 / 2) = nI (36 + h % 12 / 2) := nI_add 36 _
  have hm : h % 12 < 100000 := by omega
  rw [e76]
  rcases hp with rfl | rfl
  · simp only [s76_0, s76_1_4, s76_1_7, s76_4, s76_7, s76_8, s76_11, s76_12, s76_14, s76_17, s76_18, s76_19, s76_20, s76_23, tab2_36, floorMod_eq h0, half12 hh, rem12 hh, div2 hm, h2, e, at_eq, xcl_5, xrow_p (p := 4) (Or.inl rfl) (show 36 + h % 12 / 2 < 54 by omega), not_false_eq_true, true_and, true_or, or_true]
  · simp only [s76_0, s76_1_4, s76_1_7, s76_4, s76_7, s76_8, s76_11, s76_12, s76_14, s76_17, s76_18, s76_19, s76_20, s76_23, tab2_36, floorMod_eq h0, half12 hh, rem12 hh, div2 hm, h2, e, at_eq, xcl_8, xrow_p (p := 7) (Or.inr rfl) (show 36 + h % 12 / 2 < 54 by omega), not_false_eq_true, true_and, true_or, or_true]
theorem Mwater_eq {σ : xM} {h : Nat} {Q : Int32 → xM → Prop} (hh : h < 100000) : xI1 186 [.ref 84, .int (nI h)] σ Q = Q (σ.1 96 (h % 12 / 2)) σ := by
  have h2 : ¬ (2 : Int32) = 0 := by decide
  have h12 : ¬ (12 : Int32) = 0 := by decide
  have hm : h % 12 < 100000 := by omega
  have b0 : h % 12 / 2 < 100000 := by omega
  have c0 : h % 12 / 2 < 6 := by omega
  rw [e186]
  simp only [s186_0, s186_1, s186_4, s186_5, s186_7, s186_8, s186_9, s186_10, s186_11, rem12 hh, div2 hm, h2, h12, xcl_96, xln_96, b0, c0, cl_s, pos_s, not_false_eq_true, true_and]
theorem Mfield_eq {σ : xM} {l k : Nat} {Q : Int32 → xM → Prop} (hl : l < 6) (hk : k < 6) : xI1 180 [.ref 84, .int (nI l), .int (nI k)] σ Q = Q (σ.1 98 (6 * l + k)) σ := by
  have b0 : 6 * l + k < 100000 := by omega
  have c0 : 6 * l + k < 36 := by omega
  rw [e180]
  simp only [s180_0, s180_1, s180_4, s180_6, s180_7, s180_8, s180_9, s180_10, s180_11, ml_6, nI_add, xcl_98, xln_98, b0, c0, cl_s, pos_s, true_and]
theorem Mf0 {σ : xM} {l : Nat} {Q : Int32 → xM → Prop} (hl : l < 6) : xI1 180 [.ref 84, .int (nI l), .int 0] σ Q = Q (σ.1 98 (6 * l)) σ := Mfield_eq (k := 0) hl (by decide)
theorem Mf1 {σ : xM} {l : Nat} {Q : Int32 → xM → Prop} (hl : l < 6) : xI1 180 [.ref 84, .int (nI l), .int 1] σ Q = Q (σ.1 98 (6 * l + 1)) σ := Mfield_eq (k := 1) hl (by decide)
theorem Mf2 {σ : xM} {l : Nat} {Q : Int32 → xM → Prop} (hl : l < 6) : xI1 180 [.ref 84, .int (nI l), .int 2] σ Q = Q (σ.1 98 (6 * l + 2)) σ := Mfield_eq (k := 2) hl (by decide)
theorem Mf3 {σ : xM} {l : Nat} {Q : Int32 → xM → Prop} (hl : l < 6) : xI1 180 [.ref 84, .int (nI l), .int 3] σ Q = Q (σ.1 98 (6 * l + 3)) σ := Mfield_eq (k := 3) hl (by decide)
theorem Mf4 {σ : xM} {l : Nat} {Q : Int32 → xM → Prop} (hl : l < 6) : xI1 180 [.ref 84, .int (nI l), .int 4] σ Q = Q (σ.1 98 (6 * l + 4)) σ := Mfield_eq (k := 4) hl (by decide)
theorem Mf5 {σ : xM} {l : Nat} {Q : Int32 → xM → Prop} (hl : l < 6) : xI1 180 [.ref 84, .int (nI l), .int 5] σ Q = Q (σ.1 98 (6 * l + 5)) σ := Mfield_eq (k := 5) hl (by decide)
theorem MplaceOf_eq {σ : xM} {l s : Nat} {Q : Int32 → xM → Prop} (hl : l < 6) (hs : s < 8) (h : σ.1 98 (6 * l + 1) = nI s) : xI1 187 [.ref 84, .int (nI l)] σ Q = Q (σ.1 92 (2 * s)) σ := by
  have b0 : 2 * s < 100000 := by omega
  have c0 : 2 * s < 16 := by omega
  rw [e187]
  simp only [s187_0, s187_1, s187_4, s187_5, s187_6, s187_7, s187_8, s187_11, s187_12, s187_13, Mf1 hl, h, ml_2, xcl_92, xln_92, b0, c0, cl_s, pos_s, true_and, true_or, or_true]
theorem MlongAt_eq {σ : xM} {l s h : Nat} {u v : Int32} {Q : Int32 → xM → Prop} (hl : l < 6) (hs : s < 8) (h1 : σ.1 98 (6 * l + 1) = nI s) (hh : h < 100000) : xI1 188 [.ref 84, .int (nI l), .int (nI h), .int u, .int v] σ Q = Q (aI (σ.1 92 (2 * s) - σ.1 84 29 - σ.1 98 (6 * l) - u) + 5 + v + aI (σ.1 84 30 - σ.1 96 (h % 12 / 2))) σ := by
  rw [e188]
  simp only [s188_0, s188_1, s188_2, s188_5, s188_6, s188_9, s188_10, s188_11, s188_12, s188_13, s188_16, s188_17, s188_18, s188_19, s188_22, s188_23, s188_24, s188_26, s188_27, s188_28, s188_31, s188_32, s188_33, s188_36, s188_37, s188_40, s188_41, MplaceOf_eq hl hs h1, Mf0 hl, farA, Mwater_eq hh, true_or, or_true, true_and]
theorem Mlaid_eq {σ : xM} {l s h : Nat} {Q : Int32 → xM → Prop} (hl : l < 6) (hs : s < 8) (h1 : σ.1 98 (6 * l + 1) = nI s) (h5 : σ.1 98 (6 * l + 5) = nI h) (hh : h < 100000) : xI1 189 [.ref 84, .int (nI l)] σ Q = Q (aI (σ.1 92 (2 * s) - σ.1 84 29 - σ.1 98 (6 * l) - 0) + 5 + 0 + aI (σ.1 84 30 - σ.1 96 (h % 12 / 2)) + σ.1 98 (6 * l + 3)) σ := by
  rw [e189]
  simp only [s189_0, s189_1, s189_2, s189_3, s189_4, s189_5, s189_8, s189_9, s189_10, s189_13, s189_14, s189_15, s189_16, s189_19, s189_20, Mf5 hl, h5, MlongAt_eq hl hs h1 hh, Mf3 hl, true_or, or_true, true_and]
theorem Xfl_eq {σ : xM} {p h : Nat} {Q : Int32 → xM → Prop} (hp : p = 4 ∨ p = 7) (hh : h < 100000) : xI1 105 [.ref 10, .ref p, .int (nI h)] σ Q = Q (5 + aI (σ.1 10 2 - σ.1 (p + 1) (36 + h % 12 / 2))) σ := by
  rw [e105]
  rcases hp with rfl | rfl <;> simp only [s105_0, s105_1, s105_2_10, s105_2_17, s105_2_24, s105_2_31, s105_5, s105_6, s105_7_4, s105_7_7, s105_10, s105_11, s105_14, s105_15, Xwater_eq, absA, hh, true_or, or_true, true_and]
theorem Xfd_eq {σ : xM} {p h l : Nat} {Q : Int32 → xM → Prop} (hp : p = 4 ∨ p = 7) (hl : l < 6) (h11 : σ.1 11 l = nI h) (hh : h < 100000) : xI1 106 [.ref 10, .ref p, .int (nI l)] σ Q = Q (5 + aI (σ.1 10 2 - σ.1 (p + 1) (36 + h % 12 / 2)) + σ.1 15 l) σ := by
  have e1 : xat σ 11 (nI l) = σ.1 11 l := xat_n (by rw [xln_11]; exact hl)
  have e2 : xat σ 15 (nI l) = σ.1 15 l := xat_n (by rw [xln_15]; exact hl)
  rw [e106]
  rcases hp with rfl | rfl <;> simp only [s106_0, s106_1, s106_2, s106_3_10, s106_3_17, s106_3_24, s106_3_31, s106_6, s106_7, s106_10_10, s106_10_17, s106_10_24, s106_10_31, s106_13, s106_14_10, s106_14_17, s106_14_24, s106_14_31, s106_17, s106_18, s106_21, s106_22, at_eq, xcl_11, xcl_15, e1, e2, h11, Xfl_eq, hh, true_or, or_true, true_and]
theorem Xway_eq {σ : xM} {p s l : Nat} {Q : Int32 → xM → Prop} (hp : p = 4 ∨ p = 7) (hl : l < 6) (hs : s < 8) : xI1 104 [.ref 10, .ref p, .int (nI l), .int (nI s)] σ Q = Q (σ.1 (p + 1) (2 * s) - σ.1 10 1 - σ.1 12 l) σ := by
  have e1 : xat σ 12 (nI l) = σ.1 12 l := xat_n (by rw [xln_12]; exact hl)
  have e0 : (0 : Int32) + nI (2 * s) = nI (2 * s) := by rw [show (0 : Int32) = nI 0 from rfl, nI_add, Nat.zero_add]
  have e2 : xat σ (p + 1) (0 + 2 * nI s) = σ.1 (p + 1) (2 * s) := by
    rw [ml_2, e0]; exact xrow_p hp (by omega)
  rw [e104]
  rcases hp with rfl | rfl <;> simp only [s104_0, s104_1, s104_2_4, s104_2_7, s104_5, s104_6_10, s104_6_17, s104_6_24, s104_6_31, s104_9, s104_10, s104_11_10, s104_11_17, s104_11_24, s104_11_31, s104_14, s104_15, s104_18, s104_19, stonePlace_eq, at_eq, xcl_12, e1, e2, true_or, or_true, true_and]
theorem Xlaid_eq {σ : xM} {p s h l : Nat} {Q : Int32 → xM → Prop} (hp : p = 4 ∨ p = 7) (hl : l < 6) (hs : s < 8) (h13 : σ.1 13 l = nI s) (h11 : σ.1 11 l = nI h) (hh : h < 100000) : xI1 107 [.ref 10, .ref p, .int (nI l)] σ Q = Q (aI (σ.1 (p + 1) (2 * s) - σ.1 10 1 - σ.1 12 l) + (5 + aI (σ.1 10 2 - σ.1 (p + 1) (36 + h % 12 / 2)) + σ.1 15 l)) σ := by
  have e1 : xat σ 13 (nI l) = σ.1 13 l := xat_n (by rw [xln_13]; exact hl)
  rw [e107]
  rcases hp with rfl | rfl
  · simp only [s107_0, s107_1, s107_2, s107_3, s107_4_10, s107_4_17, s107_4_24, s107_4_31, s107_7, s107_8, s107_11_10, s107_11_17, s107_11_24, s107_11_31, s107_14, s107_17, s107_18, s107_19, s107_20_10, s107_20_17, s107_20_24, s107_20_31, s107_23, s107_24, at_eq, xcl_13, e1, h13, Xway_eq (p := 4) (Or.inl rfl) hl hs, absA, Xfd_eq (p := 4) (Or.inl rfl) hl h11 hh, true_or, or_true, true_and]
  · simp only [s107_0, s107_1, s107_2, s107_3, s107_4_10, s107_4_17, s107_4_24, s107_4_31, s107_7, s107_8, s107_11_10, s107_11_17, s107_11_24, s107_11_31, s107_14, s107_17, s107_18, s107_19, s107_20_10, s107_20_17, s107_20_24, s107_20_31, s107_23, s107_24, at_eq, xcl_13, e1, h13, Xway_eq (p := 7) (Or.inr rfl) hl hs, absA, Xfd_eq (p := 7) (Or.inr rfl) hl h11 hh, true_or, or_true, true_and]
/-- the port's rows, both sides -/
def gRows (σ : xM) (p ns nr ng : Nat) : Prop :=
  (∀ i, i < ns → σ.1 92 (2 * i) = σ.1 (p + 1) (2 * i) ∧ σ.1 92 (2 * i + 1) = σ.1 (p + 1) (2 * i + 1) ∧ bd (σ.1 (p + 1) (2 * i)) 0 199 ∧ bd (σ.1 (p + 1) (2 * i + 1)) 1 999) ∧
  (∀ i, i < nr → σ.1 93 (2 * i) = σ.1 (p + 1) (16 + 2 * i) ∧ σ.1 93 (2 * i + 1) = σ.1 (p + 1) (16 + 2 * i + 1) ∧ bd (σ.1 (p + 1) (16 + 2 * i)) 1 999 ∧ bd (σ.1 (p + 1) (16 + 2 * i + 1)) 1 20) ∧
  (∀ i, i < ng → σ.1 95 (2 * i) = σ.1 (p + 1) (42 + 2 * i) ∧ σ.1 95 (2 * i + 1) = σ.1 (p + 1) (42 + 2 * i + 1) ∧ bd (σ.1 (p + 1) (42 + 2 * i)) 1 20 ∧ bd (σ.1 (p + 1) (42 + 2 * i + 1)) 0 600) ∧
  (∀ i, i < 6 → σ.1 96 i = σ.1 (p + 1) (36 + i) ∧ bd (σ.1 (p + 1) (36 + i)) 0 9) ∧ (∀ i, i < 3 → σ.1 97 i = σ.1 (p + 1) (51 + i) ∧ bd (σ.1 (p + 1) (51 + i)) 0 99)
theorem gP.rows {σ : xM} (h : gP σ) {p ns nr ng : Nat} (hpe : σ.2.2 1 = p) (h17 : σ.1 84 17 = nI ns) (h19 : σ.1 84 19 = nI nr) (h23 : σ.1 84 23 = nI ng) (hs : ns ≤ 8) (hr : nr ≤ 4) (hg : ng ≤ 4) : gRows σ p ns nr ng := by
  obtain ⟨hpp, ns', nr', nd, ng', nt, hb, hT, hm, r1, r2, r3, r4, r5, r6⟩ := h
  have b1 := hb.1
  have b2 := hb.2.1
  have b4 := hb.2.2.2.1
  obtain rfl : ns' = ns := (nI_eq (show ns' < 2147483648 by omega) (show ns < 2147483648 by omega)).mp (hm.1.symm.trans h17)
  obtain rfl : nr' = nr := (nI_eq (show nr' < 2147483648 by omega) (show nr < 2147483648 by omega)).mp (hm.2.1.symm.trans h19)
  obtain rfl : ng' = ng := (nI_eq (show ng' < 2147483648 by omega) (show ng < 2147483648 by omega)).mp (hm.2.2.2.1.symm.trans h23)
  rw [hpe] at r1 r2 r4 r5 r6
  exact ⟨r1, r2, r4, r5, r6⟩
theorem Qof_eq {σ : xM} {p l ns nr ho s r sl ag h : Nat} {w : Int32} {Q : Int32 → xM → Prop} (hp : p = 4 ∨ p = 7) (hpe : σ.2.2 1 = p) (hs8 : ns ≤ 8) (hl : l < 6) (hG : 0 ≤ nI l ∧ nI l ≤ σ.1 10 3 - 1) (hv : lnV σ l ns nr ho s r sl ag h) : xI1 117 [.ref 0, .int (nI l), .int w] σ Q = Q (if w = 0 then σ.1 12 l else if w = 1 then σ.1 13 l else if w = 2 then σ.1 14 l else if w = 3 then σ.1 15 l else if w = 4 then σ.1 16 l else if w = 5 then aI (σ.1 (p + 1) (2 * s) - σ.1 10 1 - σ.1 12 l) + (5 + aI (σ.1 10 2 - σ.1 (p + 1) (36 + h % 12 / 2)) + σ.1 15 l) else -1) σ := by
  have e1 : xat σ 12 (nI l) = σ.1 12 l := xat_n (by rw [xln_12]; exact hl)
  have e2 : xat σ 13 (nI l) = σ.1 13 l := xat_n (by rw [xln_13]; exact hl)
  have e3 : xat σ 14 (nI l) = σ.1 14 l := xat_n (by rw [xln_14]; exact hl)
  have e4 : xat σ 15 (nI l) = σ.1 15 l := xat_n (by rw [xln_15]; exact hl)
  have e5 : xat σ 16 (nI l) = σ.1 16 l := xat_n (by rw [xln_16]; exact hl)
  have g1 := eq_true hG.1
  have g2 := eq_true hG.2
  obtain ⟨⟨b1, b2, b3, b4, b5, b6⟩, ⟨c1, c2, c3, c4, c5, c6⟩, -⟩ := hv
  have hla : ∀ Q : Int32 → xM → Prop, xI1 107 [.ref 10, .ref p, .int (nI l)] σ Q = _ := fun Q => Xlaid_eq hp hl (show s < 8 by omega) c2 c6 (show h < 100000 by omega)
  rw [e117]
  rcases hp with rfl | rfl <;> simp only [s117_0, s117_1, s117_4, s117_5_10, s117_5_17, s117_5_24, s117_5_31, s117_8, s117_11, s117_12, s117_13, s117_14, s117_52, s117_53, s117_56_10, s117_56_17, s117_56_24, s117_56_31, s117_59, s117_60, s117_63, s117_64, s117_65, s117_68_10, s117_68_17, s117_68_24, s117_68_31, s117_71, s117_72, s117_75, s117_76, s117_77, s117_80_10, s117_80_17, s117_80_24, s117_80_31, s117_83, s117_84, s117_87, s117_88, s117_89, s117_92_10, s117_92_17, s117_92_24, s117_92_31, s117_95, s117_96, s117_99, s117_100, s117_101, s117_104_10, s117_104_17, s117_104_24, s117_104_31, s117_107, s117_108, s117_111, s117_112, s117_113, s117_116, s117_117, s117_120, s117_121_10, s117_121_17, s117_121_24, s117_121_31, s117_124, s117_125, s117_126, hpe, hasLine_eq, g1, g2, and_self, xb_f, ite_not, not_true, if_true, if_false, at_eq, xcl_12, xcl_13, xcl_14, xcl_15, xcl_16, e1, e2, e3, e4, e5, hla, qif (Q := Q), true_or, or_true, true_and]
theorem Mof_eq {σ : xM} {l ns nr ho s r sl ag h k : Nat} {Q : Int32 → xM → Prop} (hs8 : ns ≤ 8) (hl : l < 6) (hG : 0 ≤ nI l ∧ nI l ≤ σ.1 84 31 - 1) (hv : lnV σ l ns nr ho s r sl ag h) (hk : k < 6) : xI1 185 [.ref 84, .int (nI l), .int (nI k)] σ Q = Q (if k = 5 then aI (σ.1 92 (2 * s) - σ.1 84 29 - σ.1 98 (6 * l) - 0) + 5 + 0 + aI (σ.1 84 30 - σ.1 96 (h % 12 / 2)) + σ.1 98 (6 * l + 3) else σ.1 98 (6 * l + k)) σ := by
  have g1 := eq_true hG.1
  have g2 := eq_true hG.2
  obtain ⟨⟨b1, b2, b3, b4, b5, b6⟩, -, ⟨c1, c2, c3, c4, c5, c6⟩⟩ := hv
  have hk31 : k < 2147483648 := by omega
  have g3 : (0 ≤ nI k) = True := eq_true (nI_pos' hk31)
  have g4 : (nI k ≤ 5) = True := by rw [nle_5 hk31]; exact eq_true (by omega)
  rw [e185]
  simp only [s185_0, s185_1, s185_2, s185_5, s185_8, s185_9, s185_10, s185_11, s185_14, s185_17, s185_18, s185_19, s185_20, s185_21, s185_24, s185_25, s185_26, s185_29, s185_32, s185_33, s185_34, s185_35, s185_38, isLine_eq, in_eq, g1, g2, g3, g4, and_self, xb_f, ite_not, not_true, if_true, if_false, nq_5 hk31, Mlaid_eq hl (show s < 8 by omega) c2 c6 (show h < 100000 by omega), Mfield_eq hl hk, qif (Q := Q), true_or, or_true, true_and]
theorem op_of (a w : Int32) : xOp 117 185 [.int a, .int w] := by
  intro xs L σ hI
  obtain ⟨p, ns, nr, nd, ng, nt, hp, hpe, hb, ⟨hst, -, -, hg, -⟩, ⟨hm0, hm1, -, hmg, -⟩⟩ := hI.1.get
  obtain ⟨n, hn6, k1, k2, h01, h28, hz, h1, hrow⟩ := hI.2.2.1
  have b1 := hb.1
  have b2 := hb.2.1
  have b4 := hb.2.2.2.1
  have hn31 : n < 2147483648 := by omega
  obtain ⟨r1, r2, r3, r4, r5⟩ := hI.1.rows hpe hm0 hm1 hmg b1 b2 b4
  by_cases hG : 0 ≤ a ∧ a ≤ nI n - 1
  · obtain ⟨l, hl, rfl⟩ := (rng_iff hn31).mp hG
    have hl6 : l < 6 := by omega
    obtain ⟨ho, s, r, sl, ag, h, hv⟩ := gLn.get hm0 hm1 b1 b2 (hrow l hl)
    have hv0 := hv
    obtain ⟨⟨v1, v2, v3, v4, v5, v6⟩, ⟨c1, c2, c3, c4, c5, c6⟩, ⟨d1, d2, d3, d4, d5, d6⟩⟩ := hv0
    have ha1 : σ.1 10 0 = 1 := by
      rcases h01 with q | q
      · have := hz q; omega
      · exact q
    obtain ⟨s1, s2, -⟩ := h1 ha1
    rw [Qof_eq hp hpe b1 hl6 (by rw [k1]; exact hG) hv]
    by_cases hw : 0 ≤ w ∧ w ≤ 5
    · obtain ⟨k, hk, rfl⟩ := nI_of (Int32.not_lt.mpr hw.1)
      have hk5 : k ≤ 5 := (nI_leI (b := 5) hk (by decide)).mp hw.2
      rw [Mof_eq b1 hl6 (by rw [k2]; exact hG) hv (show k < 6 by omega)]
      refine ⟨?_, hI⟩
      have : k = 0 ∨ k = 1 ∨ k = 2 ∨ k = 3 ∨ k = 4 ∨ k = 5 := by omega
      rcases this with rfl | rfl | rfl | rfl | rfl | rfl
      · exact c1.trans d1.symm
      · exact c2.trans d2.symm
      · exact c3.trans d3.symm
      · exact c4.trans d4.symm
      · exact c5.trans d5.symm
      · show aI (σ.1 (p + 1) (2 * s) - σ.1 10 1 - σ.1 12 l) + (5 + aI (σ.1 10 2 - σ.1 (p + 1) (36 + h % 12 / 2)) + σ.1 15 l) = aI (σ.1 92 (2 * s) - σ.1 84 29 - σ.1 98 (6 * l) - 0) + 5 + 0 + aI (σ.1 84 30 - σ.1 96 (h % 12 / 2)) + σ.1 98 (6 * l + 3)
        rw [(r1 s v2).1, (r4 (h % 12 / 2) (by omega)).1, s1, s2, c1, c4, d1, d4, Int32.sub_zero, Int32.add_zero]
        simp only [Int32.add_assoc]
    · have w0 : w ≠ 0 := fun q => hw (by rw [q]; decide)
      have w1 : w ≠ 1 := fun q => hw (by rw [q]; decide)
      have w2 : w ≠ 2 := fun q => hw (by rw [q]; decide)
      have w3 : w ≠ 3 := fun q => hw (by rw [q]; decide)
      have w4 : w ≠ 4 := fun q => hw (by rw [q]; decide)
      have w5 : w ≠ 5 := fun q => hw (by rw [q]; decide)
      have g1 := eq_true hG.1
      have g2 := eq_true hG.2
      rw [if_neg w0, if_neg w1, if_neg w2, if_neg w3, if_neg w4, if_neg w5, e185]
      simp only [s185_0, s185_1, s185_2, s185_5, s185_8, s185_9, s185_10, s185_11, s185_14, s185_17, s185_18, s185_19, s185_20, s185_21, s185_24, s185_25, s185_26, s185_29, s185_32, s185_33, s185_34, s185_35, s185_38, isLine_eq, in_eq, k2, g1, g2, and_self, xb_f, ite_not, not_true, if_true, if_false, if_neg hw, true_or, or_true, true_and]
      first | exact hI | exact ⟨rfl, hI⟩
  · rw [e117]
    simp only [s117_0, s117_1, s117_4, s117_5_10, s117_5_17, s117_5_24, s117_5_31, s117_8, s117_11, s117_12, s117_13, s117_14, s117_52, s117_53, s117_56_10, s117_56_17, s117_56_24, s117_56_31, s117_59, s117_60, s117_63, s117_64, s117_65, s117_68_10, s117_68_17, s117_68_24, s117_68_31, s117_71, s117_72, s117_75, s117_76, s117_77, s117_80_10, s117_80_17, s117_80_24, s117_80_31, s117_83, s117_84, s117_87, s117_88, s117_89, s117_92_10, s117_92_17, s117_92_24, s117_92_31, s117_95, s117_96, s117_99, s117_100, s117_101, s117_104_10, s117_104_17, s117_104_24, s117_104_31, s117_107, s117_108, s117_111, s117_112, s117_113, s117_116, s117_117, s117_120, s117_121_10, s117_121_17, s117_121_24, s117_121_31, s117_124, s117_125, s117_126, hasLine_eq, k1, xb_f, ite_not, if_neg hG, true_or, or_true, true_and]
    rw [e185]
    simp only [s185_0, s185_1, s185_2, s185_5, s185_8, s185_9, s185_10, s185_11, s185_14, s185_17, s185_18, s185_19, s185_20, s185_21, s185_24, s185_25, s185_26, s185_29, s185_32, s185_33, s185_34, s185_35, s185_38, isLine_eq, k2, xb_f, ite_not, if_neg hG, true_or, or_true, true_and]
    first | exact hI | exact ⟨rfl, hI⟩
