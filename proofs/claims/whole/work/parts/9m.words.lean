/-! words: length, charAt, spells -/
def stw (k : Nat) : List Int32 := xt_str.getD (k - 1100) []
theorem stw_all : ∀ s : Nat, s < 14 → (xt_str.getD s []).length < 8 ∧ ∀ j : Nat, j < 8 → (((xt_str.getD s []).getD j 0 &&& 255).toUInt32 % 65536).toInt32 = (xt_str.getD s []).getD j 0 ∧ ((xt_str.getD s []).getD j 0).toUInt32.toUInt16.toUInt32.toInt32 = (xt_str.getD s []).getD j 0 := by decide +kernel
theorem shr0 : ∀ l : Nat, l < 8 → nI l >>> ((0 : Int32) &&& 31) = nI l := by decide +kernel
theorem stw_cls {k : Nat} (h : 1100 ≤ k ∧ k < 1114) : xe_cls k = 50 ∧ xe_cls (k + 100) = 112 := by
  unfold xe_cls
  refine ⟨?_, ?_⟩
  · rw [if_neg (by omega), if_neg (by omega), if_neg (by omega), if_pos h]
  · rw [if_neg (by omega), if_neg (by omega), if_neg (by omega), if_neg (by omega), if_pos (by omega)]
theorem stw_len {k : Nat} {σ : xM} (h : 1100 ≤ k ∧ k < 1114) : xe_len σ (k + 100) = (stw k).length := by
  unfold xe_len
  rw [if_neg (by omega), if_neg (by omega), if_neg (by omega), show k + 100 - 1200 = k - 1100 by omega]
  rfl
theorem stw_ax {k j : Nat} {σ : xM} (h : 1100 ≤ k ∧ k < 1114) : xe_ax σ (k + 100) j = (stw k).getD j 0 := by
  unfold xe_ax
  rw [if_neg (by omega), if_neg (by omega), show k + 100 - 1200 = k - 1100 by omega]
  rfl
theorem stw_lt {k : Nat} (h : 1100 ≤ k ∧ k < 1114) : (stw k).length < 8 := (stw_all (k - 1100) (by omega)).1
theorem Jlength {k : Nat} {σ : xM} {Q : Int32 → xM → Prop} (h : 1100 ≤ k ∧ k < 1114) : xI1 8 [.ref k] σ Q = Q (nI (stw k).length) σ := by
  obtain ⟨h1, h2⟩ := stw_cls h
  have hl := stw_lt h
  have h3 : xe_cls (k + 100) = 110 ∨ xe_cls (k + 100) = 112 := Or.inr h2
  have hco : ∀ Q : Int32 → xM → Prop, xI1 9 [.ref k] σ Q = Q 0 σ := by
    intro Q
    rw [e9]
    simp only [s9_0, s9_3, s9_6, s9_7, s9_10, s9_13, s9_14, xcx_i, xcx_r, xcx_n, xcx_l, xcx_0, h1, show ((1 : Int32) = 0) = False from eq_false (by decide), if_false, show (((0 : Int32).toInt8.toInt32 = 0)) = True from eq_true (by decide), true_and]
  have hs := shr0 (stw k).length hl
  rw [e8]
  simp only [s8_0, s8_1 h1, s8_4_g h3, stw_len h, s8_5, s8_6 h1, hco, s8_9, s8_10]
  rw [show Int32.ofNat (stw k).length >>> ((0 : Int32) &&& 31) = nI (stw k).length from hs]
theorem JcharAt {k j : Nat} {σ : xM} {Q : Int32 → xM → Prop} (h : 1100 ≤ k ∧ k < 1114) (hj : j < (stw k).length) : xI1 10 [.ref k, .int (nI j)] σ Q = Q ((stw k).getD j 0) σ := by
  obtain ⟨h1, h2⟩ := stw_cls h
  have hl := stw_lt h
  have h3 : xe_cls (k + 100) = 110 ∨ xe_cls (k + 100) = 112 := Or.inr h2
  obtain ⟨v1, v2⟩ := (stw_all (k - 1100) (by omega)).2 j (by omega)
  have v1' : (((stw k).getD j 0 &&& 255).toUInt32 % 65536).toInt32 = (stw k).getD j 0 := v1
  have v2' : ((stw k).getD j 0).toUInt32.toUInt16.toUInt32.toInt32 = (stw k).getD j 0 := v2
  have z10 : ((1 : Int32) = 0) = False := eq_false (by decide)
  have ej : nI j < Int32.ofNat (stw k).length := (nI_ltI (by omega) (by omega)).mpr hj
  have ej0 : (nI j < 0) = False := eq_false (fun q => by rw [nl_0 (by omega)] at q; omega)
  have hla : ∀ Q : Int32 → xM → Prop, xI1 11 [.ref k] σ Q = Q 1 σ := by
    intro Q
    rw [e11]
    simp only [s11_0, s11_3, s11_6, s11_7 h1, s11_10, s11_13, s11_14, s11_18, z10, if_false, not_true, or_true, true_and]
  have hck : ∀ Q : Int32 → xM → Prop, xI1 14 [.int (nI j), .int (Int32.ofNat (stw k).length), .retAddr 0] σ Q = Q (nI j) σ := by
    intro Q
    rw [e14]
    simp only [s14_0, s14_1, s14_4, s14_5, s14_6, s14_16, s14_17, ej, ej0, if_true, if_false]
  have hci : ∀ Q : xM → Prop, xV 13 [.int (nI j), .int (Int32.ofNat (stw k).length)] σ Q = Q σ := by
    intro Q
    rw [e13]
    simp only [s13_0, s13_1, s13_2, s13_5, s13_8, s13_9, hck]
  have hcc : ∀ Q : Int32 → xM → Prop, xI1 12 [.ref (k + 100), .int (nI j)] σ Q = Q ((stw k).getD j 0) σ := by
    intro Q
    rw [e12]
    simp only [s12_0, s12_1, s12_2_g h3, stw_len h, s12_3, hci, s12_6, s12_7, s12_8 h2, s12_9, s12_12, s12_13, s12_14, stw_ax h, nI_cl j (by omega), nI_pos' (show j < 2147483648 by omega), hj, v1', v2', and_self, true_and]
  rw [e10]
  simp only [s10_0, s10_1 h1, hla, s10_4, z10, if_false, s10_7, s10_8 h1, s10_11, s10_12, hcc, s10_15, v2', true_and]
/-- the word k stands at i, up to j -/
def spl (bt : Nat → Nat) (k i j : Nat) : Prop := j - i = (stw k).length ∧ ∀ m, m < (stw k).length → nI (bt (i + m)) = (stw k).getD m 0
theorem Xspells {σ : xM} {n i j k : Nat} {bt : Nat → Nat} {Q : Int32 → xM → Prop} (h : txt σ n bt) (hk : 1100 ≤ k ∧ k < 1114) (hij : i ≤ j) (hj : j ≤ n) (he : σ.1 2 2 = nI j) (hQ1 : spl bt k i j → Q 1 σ) (hQ0 : ¬ spl bt k i j → Q 0 σ) : xI1 98 [.ref 2, .ref k, .int (nI i)] σ Q := by
  have hn := h.1
  have hl := stw_lt hk
  obtain ⟨c1, c2⟩ := stw_cls hk
  have hle : ∀ Q : Int32 → xM → Prop, xI1 8 [.ref k] σ Q = _ := fun Q => Jlength hk
  have es : nI j - nI i = nI (j - i) := by
    rw [nI_iI, nI_iI, nI_iI, iI_sub]; congr 1; omega
  rw [e98]
  by_cases c : j - i = (stw k).length
  · have loop : ∀ f m, m + f = (stw k).length → (∀ m', m' < m → nI (bt (i + m')) = (stw k).getD m' 0) → xC 98 17 [some (.ref 2), some (.ref k), some (.int (nI i)), some (.int (nI m))] [] σ (xqI Q) := by
      intro f
      induction f with
      | zero =>
        intro m hm hd
        have hm' : m = (stw k).length := by omega
        have e : (nI (stw k).length ≤ nI m) = True := eq_true (by rw [hm']; exact Int32.le_refl _)
        rw [s98_17]
        simp only [s98_18, s98_19, s98_22, s98_51, s98_52, xcx_i, xcx_r, xcx_n, xcx_l, xcx_0, c1, hle, e, if_true, true_or, or_true, true_and]
        exact hQ1 ⟨c, fun m' q => hd m' (by omega)⟩
      | succ f ih =>
        intro m hm hd
        have e := lt4N (n := (stw k).length) (i := m) (by omega) (by omega)
        obtain ⟨b1, b2, b3⟩ := h.2.2.2 (i + m) (by omega)
        have ea : nI i + nI m = nI (i + m) := by rw [nI_iI, nI_iI, nI_iI, iI_add]; congr 1
        have hch : ∀ Q : Int32 → xM → Prop, xI1 10 [.ref k, .int (nI m)] σ Q = _ := fun Q => JcharAt hk (by omega)
        rw [s98_17]
        by_cases q : nI (bt (i + m)) = (stw k).getD m 0
        · have next := ih (m + 1) (by omega) (fun m' hm' => by
            rcases Nat.lt_or_eq_of_le (Nat.le_of_lt_succ hm') with z | z
            · exact hd m' z
            · subst z; exact q)
          have q' : ((stw k).getD m 0 = (stw k).getD m 0) = True := eq_true rfl
          simp only [s98_18, s98_19, s98_22, s98_25, s98_26, s98_29, s98_30, s98_31, s98_32, s98_35, s98_36, s98_37, s98_40, s98_43, s98_44, s98_45, s98_48, xcx_i, xcx_r, xcx_n, xcx_l, xcx_0, c1, hle, e, if_false, ea, at_eq, xcl_3, xat3 (show i + m < 500 by omega), b1, hch, q, if_true, nI_1, true_or, or_true, true_and]
          exact next
        · have hq := hQ0 (fun z => q (z.2 m (by omega)))
          simp only [s98_18, s98_19, s98_22, s98_25, s98_26, s98_29, s98_30, s98_31, s98_32, s98_35, s98_36, s98_37, s98_40, s98_43, s98_44, xcx_i, xcx_r, xcx_n, xcx_l, xcx_0, c1, hle, e, if_false, ea, at_eq, xcl_3, xat3 (show i + m < 500 by omega), b1, hch, q, true_or, or_true, true_and]
          exact hq
    have c' : (nI (stw k).length = nI (stw k).length) = True := eq_true rfl
    simp only [s98_0, s98_1, s98_4, s98_5, s98_6, s98_7, s98_10, s98_13, s98_14, s98_15, s98_16, xcx_i, xcx_r, xcx_n, xcx_l, xcx_0, he, es, c, c1, hle, if_true]
    exact loop (stw k).length 0 (by omega) (fun m' q => absurd q (Nat.not_lt_zero m'))
  · have c' : (nI (j - i) = nI (stw k).length) = False := eq_false (fun q => c ((nI_eq (by omega) (by omega)).mp q))
    simp only [s98_0, s98_1, s98_4, s98_5, s98_6, s98_7, s98_10, s98_13, s98_14, xcx_i, xcx_r, xcx_n, xcx_l, xcx_0, he, es, c', c1, hle, if_false, true_or, or_true, true_and]
    exact hQ0 (fun z => c z.1)
