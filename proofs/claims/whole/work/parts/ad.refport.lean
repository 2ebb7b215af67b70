/-! the reference makes its draft the port -/
theorem Mcopy86 {τ : xM} {Q : Int32 → xM → Prop} (hQ : ∀ τ', only 92 τ τ' → (∀ x, x < 16 → τ'.1 92 x = τ.1 86 x) → xC 178 91 [some (.ref 84), some (.int (nI 16))] [] τ' (xqI Q)) : xC 178 64 [some (.ref 84), some (.int 0)] [] τ (xqI Q) := by
  have loop : ∀ m i, i + m = 16 → ∀ τ1, only 92 τ τ1 → (∀ x, x < i → τ1.1 92 x = τ.1 86 x) → xC 178 64 [some (.ref 84), some (.int (nI i))] [] τ1 (xqI Q) := by
    intro m
    induction m with
    | zero =>
      intro i hi τ1 ho hx
      obtain rfl : i = 16 := by omega
      rw [s178_64]
      simp only [s178_65, s178_66, s178_69, s178_69_l, s178_69_q, s178_70, xcx_i, xcx_r, xcx_n, xcx_l, xcx_0, xcl_92, xln_92, show (Int32.ofNat 16 ≤ nI 16) = True from eq_true (Int32.le_refl _), if_true, true_or]
      exact hQ τ1 ho hx
    | succ m ih =>
      intro i hi τ1 ho hx
      have e : (Int32.ofNat 16 ≤ nI i) = False := lt4N (n := 16) (i := i) (by omega) (by omega)
      have b0 : i < 100000 := by omega
      have c0 : i < 16 := by omega
      have hs : τ1.1 86 i = τ.1 86 i := congrFun (ho.1 86 (by decide)) i
      have next := ih (i + 1) (by omega) (xe_si τ1 92 i (τ.1 86 i)) ho.si (fun x hx' => by
        rw [si_rd]
        by_cases z : x = i
        · rw [if_pos ⟨rfl, z⟩, z]
        · rw [if_neg (fun y => z y.2)]; exact hx x (by omega))
      rw [s178_64]
      simp only [s178_65, s178_66, s178_69, s178_69_l, s178_69_q, s178_70, s178_73, s178_74, s178_77, s178_78, s178_79, s178_82, s178_83, s178_84, s178_85, s178_88, xcx_i, xcx_r, xcx_n, xcx_l, xcx_0, xcl_92, xln_92, xcl_86, xln_86, e, if_false, b0, c0, cl_s, pos_s, hs, nI_1, true_or, true_and]
      exact next
  exact loop 16 0 (by omega) τ (only.rf 92 τ) (fun x hx => absurd hx (Nat.not_lt_zero x))
theorem Mcopy87 {τ : xM} {Q : Int32 → xM → Prop} (hQ : ∀ τ', only 93 τ τ' → (∀ x, x < 8 → τ'.1 93 x = τ.1 87 x) → xC 178 120 [some (.ref 84), some (.int (nI 8))] [] τ' (xqI Q)) : xC 178 93 [some (.ref 84), some (.int 0)] [] τ (xqI Q) := by
  have loop : ∀ m i, i + m = 8 → ∀ τ1, only 93 τ τ1 → (∀ x, x < i → τ1.1 93 x = τ.1 87 x) → xC 178 93 [some (.ref 84), some (.int (nI i))] [] τ1 (xqI Q) := by
    intro m
    induction m with
    | zero =>
      intro i hi τ1 ho hx
      obtain rfl : i = 8 := by omega
      rw [s178_93]
      simp only [s178_94, s178_95, s178_98, s178_98_l, s178_98_q, s178_99, xcx_i, xcx_r, xcx_n, xcx_l, xcx_0, xcl_93, xln_93, show (Int32.ofNat 8 ≤ nI 8) = True from eq_true (Int32.le_refl _), if_true, true_or]
      exact hQ τ1 ho hx
    | succ m ih =>
      intro i hi τ1 ho hx
      have e : (Int32.ofNat 8 ≤ nI i) = False := lt4N (n := 8) (i := i) (by omega) (by omega)
      have b0 : i < 100000 := by omega
      have c0 : i < 8 := by omega
      have hs : τ1.1 87 i = τ.1 87 i := congrFun (ho.1 87 (by decide)) i
      have next := ih (i + 1) (by omega) (xe_si τ1 93 i (τ.1 87 i)) ho.si (fun x hx' => by
        rw [si_rd]
        by_cases z : x = i
        · rw [if_pos ⟨rfl, z⟩, z]
        · rw [if_neg (fun y => z y.2)]; exact hx x (by omega))
      rw [s178_93]
      simp only [s178_94, s178_95, s178_98, s178_98_l, s178_98_q, s178_99, s178_102, s178_103, s178_106, s178_107, s178_108, s178_111, s178_112, s178_113, s178_114, s178_117, xcx_i, xcx_r, xcx_n, xcx_l, xcx_0, xcl_93, xln_93, xcl_87, xln_87, e, if_false, b0, c0, cl_s, pos_s, hs, nI_1, true_or, true_and]
      exact next
  exact loop 8 0 (by omega) τ (only.rf 93 τ) (fun x hx => absurd hx (Nat.not_lt_zero x))
theorem Mcopy88 {τ : xM} {Q : Int32 → xM → Prop} (hQ : ∀ τ', only 94 τ τ' → (∀ x, x < 12 → τ'.1 94 x = τ.1 88 x) → xC 178 149 [some (.ref 84), some (.int (nI 12))] [] τ' (xqI Q)) : xC 178 122 [some (.ref 84), some (.int 0)] [] τ (xqI Q) := by
  have loop : ∀ m i, i + m = 12 → ∀ τ1, only 94 τ τ1 → (∀ x, x < i → τ1.1 94 x = τ.1 88 x) → xC 178 122 [some (.ref 84), some (.int (nI i))] [] τ1 (xqI Q) := by
    intro m
    induction m with
    | zero =>
      intro i hi τ1 ho hx
      obtain rfl : i = 12 := by omega
      rw [s178_122]
      simp only [s178_123, s178_124, s178_127, s178_127_l, s178_127_q, s178_128, xcx_i, xcx_r, xcx_n, xcx_l, xcx_0, xcl_94, xln_94, show (Int32.ofNat 12 ≤ nI 12) = True from eq_true (Int32.le_refl _), if_true, true_or]
      exact hQ τ1 ho hx
    | succ m ih =>
      intro i hi τ1 ho hx
      have e : (Int32.ofNat 12 ≤ nI i) = False := lt4N (n := 12) (i := i) (by omega) (by omega)
      have b0 : i < 100000 := by omega
      have c0 : i < 12 := by omega
      have hs : τ1.1 88 i = τ.1 88 i := congrFun (ho.1 88 (by decide)) i
      have next := ih (i + 1) (by omega) (xe_si τ1 94 i (τ.1 88 i)) ho.si (fun x hx' => by
        rw [si_rd]
        by_cases z : x = i
        · rw [if_pos ⟨rfl, z⟩, z]
        · rw [if_neg (fun y => z y.2)]; exact hx x (by omega))
      rw [s178_122]
      simp only [s178_123, s178_124, s178_127, s178_127_l, s178_127_q, s178_128, s178_131, s178_132, s178_135, s178_136, s178_137, s178_140, s178_141, s178_142, s178_143, s178_146, xcx_i, xcx_r, xcx_n, xcx_l, xcx_0, xcl_94, xln_94, xcl_88, xln_88, e, if_false, b0, c0, cl_s, pos_s, hs, nI_1, true_or, true_and]
      exact next
  exact loop 12 0 (by omega) τ (only.rf 94 τ) (fun x hx => absurd hx (Nat.not_lt_zero x))
theorem Mcopy89 {τ : xM} {Q : Int32 → xM → Prop} (hQ : ∀ τ', only 95 τ τ' → (∀ x, x < 8 → τ'.1 95 x = τ.1 89 x) → xC 178 178 [some (.ref 84), some (.int (nI 8))] [] τ' (xqI Q)) : xC 178 151 [some (.ref 84), some (.int 0)] [] τ (xqI Q) := by
  have loop : ∀ m i, i + m = 8 → ∀ τ1, only 95 τ τ1 → (∀ x, x < i → τ1.1 95 x = τ.1 89 x) → xC 178 151 [some (.ref 84), some (.int (nI i))] [] τ1 (xqI Q) := by
    intro m
    induction m with
    | zero =>
      intro i hi τ1 ho hx
      obtain rfl : i = 8 := by omega
      rw [s178_151]
      simp only [s178_152, s178_153, s178_156, s178_156_l, s178_156_q, s178_157, xcx_i, xcx_r, xcx_n, xcx_l, xcx_0, xcl_95, xln_95, show (Int32.ofNat 8 ≤ nI 8) = True from eq_true (Int32.le_refl _), if_true, true_or]
      exact hQ τ1 ho hx
    | succ m ih =>
      intro i hi τ1 ho hx
      have e : (Int32.ofNat 8 ≤ nI i) = False := lt4N (n := 8) (i := i) (by omega) (by omega)
      have b0 : i < 100000 := by omega
      have c0 : i < 8 := by omega
      have hs : τ1.1 89 i = τ.1 89 i := congrFun (ho.1 89 (by decide)) i
      have next := ih (i + 1) (by omega) (xe_si τ1 95 i (τ.1 89 i)) ho.si (fun x hx' => by
        rw [si_rd]
        by_cases z : x = i
        · rw [if_pos ⟨rfl, z⟩, z]
        · rw [if_neg (fun y => z y.2)]; exact hx x (by omega))
      rw [s178_151]
      simp only [s178_152, s178_153, s178_156, s178_156_l, s178_156_q, s178_157, s178_160, s178_161, s178_164, s178_165, s178_166, s178_169, s178_170, s178_171, s178_172, s178_175, xcx_i, xcx_r, xcx_n, xcx_l, xcx_0, xcl_95, xln_95, xcl_89, xln_89, e, if_false, b0, c0, cl_s, pos_s, hs, nI_1, true_or, true_and]
      exact next
  exact loop 8 0 (by omega) τ (only.rf 95 τ) (fun x hx => absurd hx (Nat.not_lt_zero x))
theorem Mtakes {τ : xM} {s d len : Nat} {Q : xM → Prop} (cs : xe_cls s = 100) (cd : xe_cls d = 100) (ls : xt_len.getD s 0 = len) (ld : xt_len.getD d 0 = len) (hsd : s ≠ d) (hl : 0 < len ∧ len ≤ 6) (hQ : ∀ τ', only d τ τ' → (∀ x, x < len → τ'.1 d x = if τ.1 s 0 = -1 then 0 else τ.1 s x) → Q τ') : xV 177 [.ref s, .ref d] τ Q := by
  have loop : ∀ m i, i + m = len → ∀ τ1, only d τ τ1 → (∀ x, x < i → τ1.1 d x = if τ.1 s 0 = -1 then 0 else τ.1 s x) → xC 177 2 [some (.ref s), some (.ref d), some (.int (nI i))] [] τ1 (xqV Q) := by
    intro m
    induction m with
    | zero =>
      intro i hi τ1 ho hx
      obtain rfl : i = len := by omega
      rw [s177_2]
      simp only [s177_3, s177_4, s177_4_l, s177_4_q, s177_5, s177_31, xcx_i, xcx_r, xcx_n, xcx_l, xcx_0, cd, ld, show (Int32.ofNat i ≤ nI i) = True from eq_true (Int32.le_refl _), if_true, true_or]
      exact hQ τ1 ho hx
    | succ m ih =>
      intro i hi τ1 ho hx
      have e : (Int32.ofNat len ≤ nI i) = False := lt4N (n := len) (i := i) (by omega) (by omega)
      have b0 : i < 100000 := by omega
      have c0 : i < len := by omega
      have hs : ∀ x, τ1.1 s x = τ.1 s x := fun x => congrFun (ho.1 s hsd) x
      have ec0 : (0 : Int32).toNatClampNeg = 0 := rfl
      have ec1 : ((0 : Int32) ≤ 0) = True := eq_true (by decide)
      have nx : ∀ v, (v = if τ.1 s 0 = -1 then 0 else τ.1 s i) → xC 177 2 [some (.ref s), some (.ref d), some (.int (nI (i + 1)))] [] (xe_si τ1 d i v) (xqV Q) := fun v hv => ih (i + 1) (by omega) (xe_si τ1 d i v) ho.si (fun x hx' => by
        rw [si_rd]
        by_cases z : x = i
        · rw [if_pos ⟨rfl, z⟩, z]; exact hv
        · rw [if_neg (fun y => z y.2)]; exact hx x (by omega))
      rw [s177_2]
      by_cases c : τ.1 s 0 = -1
      · have next := nx 0 (by rw [if_pos c])
        have c' : (τ.1 s 0 = -1) = True := eq_true c
        simp only [s177_3, s177_4, s177_4_l, s177_4_q, s177_5, s177_8, s177_9, s177_10, s177_11, s177_12, s177_13, s177_14, s177_17, s177_18, s177_21, s177_22, s177_23, s177_24, s177_25, s177_28, xcx_i, xcx_r, xcx_n, xcx_l, xcx_0, cs, cd, ls, ld, e, if_false, ec0, ec1, hl.1, hs, c', not_true, b0, c0, cl_s, pos_s, nI_1, true_or, true_and]
        exact next
      · have next := nx (τ.1 s i) (by rw [if_neg c])
        have c' : (τ.1 s 0 = -1) = False := eq_false c
        simp only [s177_3, s177_4, s177_4_l, s177_4_q, s177_5, s177_8, s177_9, s177_10, s177_11, s177_12, s177_13, s177_14, s177_17, s177_18, s177_21, s177_22, s177_23, s177_24, s177_25, s177_28, xcx_i, xcx_r, xcx_n, xcx_l, xcx_0, cs, cd, ls, ld, e, if_false, if_true, ec0, ec1, hl.1, hs, c', not_false_eq_true, b0, c0, cl_s, pos_s, nI_1, true_or, true_and]
        exact next
  rw [e177]
  simp only [s177_0, s177_1, xcx_i, xcx_r, xcx_n, xcx_l, xcx_0]
  exact loop len 0 (by omega) τ (only.rf d τ) (fun x hx => absurd hx (Nat.not_lt_zero x))
theorem Mnoimg {τ : xM} {Q : Int32 → xM → Prop} (hQ : ∀ τ', only 99 τ τ' → (∀ x, x < 3 → τ'.1 99 x = 0) → xC 178 255 [some (.ref 84), some (.int (nI 3))] [] τ' (xqI Q)) : xC 178 237 [some (.ref 84), some (.int 0)] [] τ (xqI Q) := by
  have loop : ∀ m i, i + m = 3 → ∀ τ1, only 99 τ τ1 → (∀ x, x < i → τ1.1 99 x = 0) → xC 178 237 [some (.ref 84), some (.int (nI i))] [] τ1 (xqI Q) := by
    intro m
    induction m with
    | zero =>
      intro i hi τ1 ho hx
      obtain rfl : i = 3 := by omega
      rw [s178_237]
      simp only [s178_238, s178_239, xcx_i, xcx_r, xcx_n, xcx_l, xcx_0, show ((3 : Int32) ≤ nI 3) = True from eq_true (by decide), if_true]
      exact hQ τ1 ho hx
    | succ m ih =>
      intro i hi τ1 ho hx
      have e : ((3 : Int32) ≤ nI i) = False := lt4N (n := 3) (i := i) (by omega) (by omega)
      have b0 : i < 100000 := by omega
      have c0 : i < 3 := by omega
      have next := ih (i + 1) (by omega) (xe_si τ1 99 i 0) ho.si (fun x hx' => by
        rw [si_rd]
        by_cases z : x = i
        · rw [if_pos ⟨rfl, z⟩]
        · rw [if_neg (fun y => z y.2)]; exact hx x (by omega))
      rw [s178_237]
      simp only [s178_238, s178_239, s178_242, s178_243, s178_246, s178_247, s178_248_b, s178_248_z, s178_249, s178_252, xcx_i, xcx_r, xcx_n, xcx_l, xcx_0, e, if_false, xcl_99, xln_99, b0, c0, cl_s, pos_s, show ((0 : Int32) &&& 1) = 0 from rfl, nI_1, true_or, true_and]
      exact next
  exact loop 3 0 (by omega) τ (only.rf 99 τ) (fun x hx => absurd hx (Nat.not_lt_zero x))
/-- the reference's port is what the text told -/
def poR (τ : xM) (N T : Nat → Nat) : Prop := (τ.1 84 17 = nI (T 0) ∧ τ.1 84 19 = nI (T 1) ∧ τ.1 84 21 = nI (T 2) ∧ τ.1 84 23 = nI (T 4) ∧ τ.1 84 25 = nI (N 50)) ∧ (τ.1 84 1 = 0 ∧ τ.1 84 28 = 0 ∧ τ.1 84 31 = 0 ∧ τ.1 84 38 = 0 ∧ τ.1 84 40 = 0 ∧ τ.1 84 43 = 0 ∧ τ.1 84 47 = 0 ∧ τ.1 84 49 = 0) ∧ (rrw τ 92 0 (T 0 * 2) N ∧ rrw τ 93 16 (T 1 * 2) N ∧ rrw τ 94 24 (T 2 * 3) N ∧ rrw τ 95 42 (T 4 * 2) N) ∧ (rrw τ 96 36 6 N ∧ rrw τ 97 51 3 N) ∧ ∀ i, i < 3 → τ.1 99 i = 0
def frP (σ τ : xM) : Prop := (∀ c j, c < 84 ∨ 1000 ≤ c → τ.1 c j = σ.1 c j) ∧ τ.2.2 = σ.2.2
theorem frP.only {c : Nat} {a b d : xM} (h : frP a b) (ho : only c b d) (hc : 84 ≤ c ∧ c < 1000) : frP a d := ⟨fun x j hx => (congrFun (ho.1 x (by omega)) j).trans (h.1 x j hx), ho.2.trans h.2⟩
theorem frP.si {c j : Nat} {v : Int32} {a b : xM} (h : frP a b) (hc : 84 ≤ c ∧ c < 1000) : frP a (xe_si b c j v) := ⟨fun x i hx => by rw [si_rd, if_neg (by omega)]; exact h.1 x i hx, h.2⟩
theorem Mport {σ : xM} {n : Nat} {bt : Nat → Nat} {Q : Int32 → xM → Prop} (h : txR σ n bt) (hQ0 : ∀ τ, ¬ (readA bt n).1 = -1 → frM σ τ → Q (-1) τ) (hQ1 : ∀ τ, (readA bt n).1 = -1 → frP σ τ → poR τ (readA bt n).2.1 (readA bt n).2.2 → Q (nI ((readA bt n).2.2 0)) τ) : xI1 178 [.ref 84] σ Q := by
  have hn := h.1
  have em := readA_m1 (bt := bt) hn
  rw [e178]
  simp only [s178_0, s178_1, xcx_i, xcx_r, xcx_n, xcx_l, xcx_0]
  refine Mfault h (fun τ hr hR => ?_)
  by_cases c : (readA bt n).1 = -1
  · have c' : ((readA bt n).1 = -1) = True := eq_true c
    obtain ⟨hv, hT0⟩ := readA_v c
    have hR := hR c
    generalize (readA bt n).2.1 = N at hv hR hQ1
    generalize (readA bt n).2.2 = T at hv hR hQ1 hT0
    have hP0 : τ.1 84 6 = nI (T 0) ∧ rrw τ 86 0 (T 0 * 2) N := hR 0 (by decide)
    have hP1 : τ.1 84 8 = nI (T 1) ∧ rrw τ 87 16 (T 1 * 2) N := hR 1 (by decide)
    have hP2 : τ.1 84 10 = nI (T 2) ∧ rrw τ 88 24 (T 2 * 3) N := hR 2 (by decide)
    have hP3 : (T 3 = 0 ∧ τ.1 90 0 = -1) ∨ (T 3 = 1 ∧ rrw τ 90 36 6 N) := hR 3 (by decide)
    have hP4 : τ.1 84 12 = nI (T 4) ∧ rrw τ 89 42 (T 4 * 2) N := hR 4 (by decide)
    have hP5 : (T 5 = 0 ∧ τ.1 84 14 = -1) ∨ (T 5 = 1 ∧ τ.1 84 14 = nI (N 50)) := hR 5 (by decide)
    have hP6 : (T 6 = 0 ∧ τ.1 91 0 = -1) ∨ (T 6 = 1 ∧ rrw τ 91 51 3 N) := hR 6 (by decide)
    have m0 : T 0 ≤ 8 := hv.1 0 (by decide)
    have m1 : T 1 ≤ 4 := hv.1 1 (by decide)
    have m2 : T 2 ≤ 4 := hv.1 2 (by decide)
    have m4 : T 4 ≤ 4 := hv.1 4 (by decide)
    have neg : ∀ x : Nat, x ≤ 999 → ¬ nI x = -1 := by
      intro x hx q
      have : (nI x).toInt = (-1 : Int32).toInt := by rw [q]
      rw [nI_iI, iI_ti (by omega) (by omega)] at this
      have e2 : (-1 : Int32).toInt = -1 := rfl
      omega
    have tide : ∀ x, x < 6 → (if τ.1 90 0 = -1 then (0 : Int32) else τ.1 90 x) = nI (N (36 + x)) := by
      intro x hx
      rcases hP3 with ⟨h1, h2⟩ | ⟨h1, h2⟩
      · have hz := hv.2.2 3 x (by decide) hx h1 rfl
        rw [if_pos h2, show N (36 + x) = 0 from hz]; rfl
      · have h0 := h2 0 (by decide)
        have hb := (hv.2.1 3 0 0 (by decide) (by decide) (by omega)).2
        have hb' : N (36 + 0) ≤ 9 := hb
        rw [if_neg (by rw [h0]; exact neg _ (by omega))]; exact h2 x hx
    have wage : ∀ x, x < 3 → (if τ.1 91 0 = -1 then (0 : Int32) else τ.1 91 x) = nI (N (51 + x)) := by
      intro x hx
      rcases hP6 with ⟨h1, h2⟩ | ⟨h1, h2⟩
      · have hz := hv.2.2 6 x (by decide) hx h1 rfl
        rw [if_pos h2, show N (51 + x) = 0 from hz]; rfl
      · have h0 := h2 0 (by decide)
        have hb := (hv.2.1 6 0 0 (by decide) (by decide) (by omega)).2
        have hb' : N (51 + 0) ≤ 99 := hb
        rw [if_neg (by rw [h0]; exact neg _ (by omega))]; exact h2 x hx
    have rest : xC 178 62 [some (.ref 84), none] [] (xe_si (xe_si (xe_si (xe_si (xe_si τ 84 17 (nI (T 0))) 84 19 (nI (T 1))) 84 21 (nI (T 2))) 84 23 (nI (T 4))) 84 25 (nI (N 50))) (xqI Q) := by
      generalize ht2 : xe_si (xe_si (xe_si (xe_si (xe_si τ 84 17 (nI (T 0))) 84 19 (nI (T 1))) 84 21 (nI (T 2))) 84 23 (nI (T 4))) 84 25 (nI (N 50)) = τ2
      have s2 : ∀ c j, ¬ (c = 84 ∧ (j = 17 ∨ j = 19 ∨ j = 21 ∨ j = 23 ∨ j = 25)) → τ2.1 c j = τ.1 c j := by
        intro c j z
        subst ht2
        rw [si_rd, if_neg (by omega), si_rd, if_neg (by omega), si_rd, if_neg (by omega), si_rd, if_neg (by omega), si_rd, if_neg (by omega)]
      have s17 : τ2.1 84 17 = nI (T 0) := by subst ht2; rfl
      have s19 : τ2.1 84 19 = nI (T 1) := by subst ht2; rfl
      have s21 : τ2.1 84 21 = nI (T 2) := by subst ht2; rfl
      have s23 : τ2.1 84 23 = nI (T 4) := by subst ht2; rfl
      have s25 : τ2.1 84 25 = nI (N 50) := by subst ht2; rfl
      have p2 : frP σ τ2 := ⟨fun c j hc => (s2 c j (by omega)).trans (hr.1 c j (by omega) (by omega) (by omega)), by subst ht2; exact hr.2⟩
      simp only [s178_62, s178_63, xcx_i, xcx_r, xcx_n, xcx_l, xcx_0]
      refine Mcopy86 (fun τ3 o3 v3 => ?_)
      simp only [s178_91, s178_92, xcx_i, xcx_r, xcx_n, xcx_l, xcx_0]
      refine Mcopy87 (fun τ4 o4 v4 => ?_)
      simp only [s178_120, s178_121, xcx_i, xcx_r, xcx_n, xcx_l, xcx_0]
      refine Mcopy88 (fun τ5 o5 v5 => ?_)
      simp only [s178_149, s178_150, xcx_i, xcx_r, xcx_n, xcx_l, xcx_0]
      refine Mcopy89 (fun τ6 o6 v6 => ?_)
      simp only [s178_178, s178_179, s178_182, s178_183, s178_186, xcx_i, xcx_r, xcx_n, xcx_l, xcx_0]
      refine Mtakes xcl_90 xcl_96 xln_90 xln_96 (by decide) (by decide) (fun τ7 o7 v7 => ?_)
      simp only [s178_189, s178_190, s178_193, s178_194, s178_197, xcx_i, xcx_r, xcx_n, xcx_l, xcx_0]
      refine Mtakes xcl_91 xcl_97 xln_91 xln_97 (by decide) (by decide) (fun τ8 o8 v8 => ?_)
      have p8 : frP σ τ8 := (((((p2.only o3 (by decide)).only o4 (by decide)).only o5 (by decide)).only o6 (by decide)).only o7 (by decide)).only o8 (by decide)
      have e84 : τ8.1 84 = τ2.1 84 := by rw [o8.1 84 (by decide), o7.1 84 (by decide), o6.1 84 (by decide), o5.1 84 (by decide), o4.1 84 (by decide), o3.1 84 (by decide)]
      have e92 : ∀ x, x < 16 → τ8.1 92 x = τ.1 86 x := fun x hx => by rw [o8.1 92 (by decide), o7.1 92 (by decide), o6.1 92 (by decide), o5.1 92 (by decide), o4.1 92 (by decide), v3 x hx, s2 86 x (by omega)]
      have e93 : ∀ x, x < 8 → τ8.1 93 x = τ.1 87 x := fun x hx => by rw [o8.1 93 (by decide), o7.1 93 (by decide), o6.1 93 (by decide), o5.1 93 (by decide), v4 x hx, o3.1 87 (by decide), s2 87 x (by omega)]
      have e94 : ∀ x, x < 12 → τ8.1 94 x = τ.1 88 x := fun x hx => by rw [o8.1 94 (by decide), o7.1 94 (by decide), o6.1 94 (by decide), v5 x hx, o4.1 88 (by decide), o3.1 88 (by decide), s2 88 x (by omega)]
      have e95 : ∀ x, x < 8 → τ8.1 95 x = τ.1 89 x := fun x hx => by rw [o8.1 95 (by decide), o7.1 95 (by decide), v6 x hx, o5.1 89 (by decide), o4.1 89 (by decide), o3.1 89 (by decide), s2 89 x (by omega)]
      have e96 : ∀ x, x < 6 → τ8.1 96 x = nI (N (36 + x)) := fun x hx => by
        rw [o8.1 96 (by decide), v7 x hx, o6.1 90 (by decide), o5.1 90 (by decide), o4.1 90 (by decide), o3.1 90 (by decide), s2 90 0 (by omega), s2 90 x (by omega)]
        exact tide x hx
      have e97 : ∀ x, x < 3 → τ8.1 97 x = nI (N (51 + x)) := fun x hx => by
        rw [v8 x hx, o7.1 91 (by decide), o6.1 91 (by decide), o5.1 91 (by decide), o4.1 91 (by decide), o3.1 91 (by decide), s2 91 0 (by omega), s2 91 x (by omega)]
        exact wage x hx
      simp only [s178_200, s178_201, s178_202, s178_205, s178_206, s178_207, s178_210, s178_211, s178_212, s178_215, s178_216, s178_217, s178_220, s178_221, s178_222, s178_225, s178_226, s178_227, s178_230, s178_231, s178_232, s178_235, s178_236, xcx_i, xcx_r, xcx_n, xcx_l, xcx_0, true_or, or_true, true_and]
      generalize ht9 : xe_si (xe_si (xe_si (xe_si (xe_si (xe_si (xe_si (τ8) 84 28 0) 84 31 0) 84 38 0) 84 40 0) 84 43 0) 84 47 0) 84 49 0 = τ9
      have s9 : ∀ c j, ¬ (c = 84 ∧ (j = 28 ∨ j = 31 ∨ j = 38 ∨ j = 40 ∨ j = 43 ∨ j = 47 ∨ j = 49)) → τ9.1 c j = τ8.1 c j := by
        intro c j z
        subst ht9
        rw [si_rd, if_neg (by omega), si_rd, if_neg (by omega), si_rd, if_neg (by omega), si_rd, if_neg (by omega), si_rd, if_neg (by omega), si_rd, if_neg (by omega), si_rd, if_neg (by omega)]
      have z9 : ∀ j, (j = 28 ∨ j = 31 ∨ j = 38 ∨ j = 40 ∨ j = 43 ∨ j = 47 ∨ j = 49) → τ9.1 84 j = 0 := by
        intro j hj
        subst ht9
        rcases hj with rfl | rfl | rfl | rfl | rfl | rfl | rfl <;> rfl
      have p9 : frP σ τ9 := ⟨fun c j hc => (s9 c j (by omega)).trans (p8.1 c j hc), by subst ht9; exact p8.2⟩
      refine Mnoimg (fun τ10 o10 v10 => ?_)
      have s10 : ∀ j, τ10.1 84 j = τ9.1 84 j := fun j => congrFun (o10.1 84 (by decide)) j
      have k17 : (xe_si τ10 84 1 0).1 84 17 = nI (T 0) := by rw [si_rd, if_neg (by decide), s10, s9 84 17 (by decide), e84]; exact s17
      have hf : ∀ c x, c ≠ 84 → c ≠ 99 → (xe_si τ10 84 1 0).1 c x = τ8.1 c x := fun c x h1 h2 => by rw [si_rd, if_neg (by omega), o10.1 c h2, s9 c x (by omega)]
      have hz : ∀ j, (j = 28 ∨ j = 31 ∨ j = 38 ∨ j = 40 ∨ j = 43 ∨ j = 47 ∨ j = 49) → (xe_si τ10 84 1 0).1 84 j = 0 := fun j hj => by rw [si_rd, if_neg (by omega), s10]; exact z9 j hj
      have hq := hQ1 (xe_si τ10 84 1 0) c ((p9.only o10 (by decide)).si (by decide)) ⟨⟨k17, by rw [si_rd, if_neg (by decide), s10, s9 84 19 (by decide), e84]; exact s19, by rw [si_rd, if_neg (by decide), s10, s9 84 21 (by decide), e84]; exact s21, by rw [si_rd, if_neg (by decide), s10, s9 84 23 (by decide), e84]; exact s23, by rw [si_rd, if_neg (by decide), s10, s9 84 25 (by decide), e84]; exact s25⟩, ⟨rfl, hz 28 (by decide), hz 31 (by decide), hz 38 (by decide), hz 40 (by decide), hz 43 (by decide), hz 47 (by decide), hz 49 (by decide)⟩, ⟨fun x hx => by rw [hf 92 x (by decide) (by decide), e92 x (by omega)]; exact hP0.2 x hx, fun x hx => by rw [hf 93 x (by decide) (by decide), e93 x (by omega)]; exact hP1.2 x hx, fun x hx => by rw [hf 94 x (by decide) (by decide), e94 x (by omega)]; exact hP2.2 x hx, fun x hx => by rw [hf 95 x (by decide) (by decide), e95 x (by omega)]; exact hP4.2 x hx⟩, ⟨fun x hx => by rw [hf 96 x (by decide) (by decide)]; exact e96 x hx, fun x hx => by rw [hf 97 x (by decide) (by decide)]; exact e97 x hx⟩, fun i hi => by rw [si_rd, if_neg (by omega)]; exact v10 i hi⟩
      simp only [s178_255, s178_256, s178_257, s178_260, s178_261, s178_264, xcx_i, xcx_r, xcx_n, xcx_l, xcx_0, k17]
      exact hq
    rcases hP5 with ⟨h1, h2⟩ | ⟨h1, h2⟩
    · have hz := hv.2.2 5 0 (by decide) (by decide) h1 rfl
      rw [show N 50 = 0 from hz] at rest
      simp only [s178_4, s178_5, s178_8, s178_9, s178_10, s178_11, s178_12, s178_15, s178_18, s178_19, s178_20, s178_23, s178_26, s178_27, s178_28, s178_31, s178_34, s178_35, s178_36, s178_39, s178_42, s178_43, s178_44, s178_47, s178_48, s178_51, s178_52, s178_55, s178_56, s178_59, xcx_i, xcx_r, xcx_n, xcx_l, xcx_0, em, c', if_true, hP0.1, si_rd, Nat.reduceEqDiff, and_false, if_false, hP1.1, hP2.1, hP4.1, h2, not_true]
      exact rest
    · have hb : N 50 ≤ 6 := (hv.2.1 5 0 0 (by decide) (by decide) (by omega)).2
      have ne : (nI (N 50) = -1) = False := eq_false (neg _ (by omega))
      simp only [s178_4, s178_5, s178_8, s178_9, s178_10, s178_11, s178_12, s178_15, s178_18, s178_19, s178_20, s178_23, s178_26, s178_27, s178_28, s178_31, s178_34, s178_35, s178_36, s178_39, s178_42, s178_43, s178_44, s178_47, s178_48, s178_51, s178_52, s178_55, s178_56, s178_59, xcx_i, xcx_r, xcx_n, xcx_l, xcx_0, em, c', if_true, hP0.1, si_rd, Nat.reduceEqDiff, and_false, if_false, hP1.1, hP2.1, hP4.1, h2, ne, not_false_eq_true]
      exact rest
  · have c' : ((readA bt n).1 = -1) = False := eq_false c
    have hq := hQ0 τ c hr
    simp only [s178_4, s178_5, s178_8, s178_9, xcx_i, xcx_r, xcx_n, xcx_l, xcx_0, em, c', if_false]
    exact hq
