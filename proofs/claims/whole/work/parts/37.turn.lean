/-! whose turn it is -/
def lst (f : Nat → Int32) (g : Int32) : Nat → Int32
  | 0 => -1
  | n + 1 => if f n = g then nI n else lst f g n
theorem lst_bd (f : Nat → Int32) (g : Int32) : ∀ n, n ≤ 20 → lst f g n = -1 ∨ ∃ i, i < n ∧ lst f g n = nI i := by
  intro n
  induction n with
  | zero => intro _; exact Or.inl rfl
  | succ n ih =>
    intro hn
    unfold lst
    split
    · exact Or.inr ⟨n, by omega, rfl⟩
    · rcases ih (by omega) with h | ⟨i, hi, h⟩
      · exact Or.inl h
      · exact Or.inr ⟨i, by omega, h⟩
theorem lst_lt (f : Nat → Int32) (g : Int32) {n : Nat} (hn : n ≤ 20) : lst f g n < 20 := by
  rcases lst_bd f g n hn with h | ⟨i, hi, h⟩
  · rw [h]; decide
  · rw [h]; exact (nI_ltI (b := 20) (by omega) (by decide)).mpr (by omega)
theorem lst_congr {f f' : Nat → Int32} {g : Int32} : ∀ n, (∀ i, i < n → f i = f' i) → lst f g n = lst f' g n := by
  intro n
  induction n with
  | zero => intro _; rfl
  | succ n ih =>
    intro h
    unfold lst
    rw [h n (by omega), ih (fun i hi => h i (by omega))]
theorem XlastRing_eq {σ : xM} {n : Nat} {g : Int32} {Q : Int32 → xM → Prop} (hn : n ≤ 20) : xI1 85 [.ref 59, .int (nI n), .int g] σ Q = Q (lst (σ.1 61) g n) σ := by
  have loop : ∀ n, n ≤ 20 → ∀ l, xC 85 4 [some (.ref 59), l, some (.int g), some (.int (nI n - 1))] [] σ (xqI Q) = Q (lst (σ.1 61) g n) σ := by
    intro n
    induction n with
    | zero =>
      intro _ l
      have e : (nI 0 - 1 < 0) = True := eq_true (by decide)
      rw [s85_4]
      simp only [s85_5, s85_28, s85_29, e, if_true]
      first | done | rfl
    | succ n ih =>
      intro hn l
      have e : (nI n < 0) = False := eq_false (nI_pos (by omega))
      have hl2 : n < xt_len.getD 61 0 := by rw [xln_61]; omega
      rw [nI_pred, s85_4]
      simp only [s85_0, s85_1, s85_2, s85_3, s85_5, s85_8, s85_9, s85_12, s85_13, s85_16, s85_17, s85_20, s85_21, s85_22, s85_25, s85_28, s85_29, xcx_i, xcx_r, xcx_n, xcx_l, xcx_0, am1, e, if_false, at_eq, xcl_61, xat_n hl2]
      unfold lst
      by_cases q : σ.1 61 n = g
      · rw [if_pos q]; simp [q]
      · rw [if_neg q]; simp [q]; exact iff_of_eq (ih (by omega) _)
  rw [e85]
  simp only [s85_0, s85_1, s85_2, s85_3, xcx_i, xcx_r, xcx_n, xcx_l, xcx_0]
  exact loop n hn _
/-- is the gang at home -/
def xbit (h : Int32) (k : Nat) : Bool := decide (h >>> (nI k &&& 31) &&& 1 = 1)
def tB (f : Nat → Int32) (h : Int32) (n : Nat) : Nat → Int32 × Int32
  | 0 => (-1, 20)
  | k + 1 => if xbit h k then (if lst f (nI k) n < (tB f h n k).2 then (nI k, lst f (nI k) n) else tB f h n k) else tB f h n k
def tM (f : Nat → Int32) (h : Int32) (n : Nat) : Nat → Int32 × Int32
  | 0 => (-1, 0)
  | k + 1 => if xbit h k then (if ¬ (tM f h n k).1 = -1 ∧ (tM f h n k).2 ≤ lst f (nI k) n then tM f h n k else (nI k, lst f (nI k) n)) else tM f h n k
theorem tB_tM (f : Nat → Int32) (h : Int32) {n : Nat} (hn : n ≤ 20) : ∀ k, k ≤ 4 → ((tB f h n k).1 = -1 ∧ (tB f h n k).2 = 20 ∧ (tM f h n k).1 = -1) ∨ (¬ (tB f h n k).1 = -1 ∧ tB f h n k = tM f h n k) := by
  intro k
  induction k with
  | zero => intro _; exact Or.inl ⟨rfl, rfl, rfl⟩
  | succ k ih =>
    intro hk
    have hk1 : ¬ nI k = -1 := by
      intro e
      have : (nI k).toInt = -1 := by rw [e]; decide
      rw [nI_ti (by omega)] at this; omega
    unfold tB tM
    by_cases hb : xbit h k = true
    · simp only [if_pos hb]
      rcases ih (by omega) with ⟨h1, h2, h3⟩ | ⟨h1, h2⟩
      · rw [h2, if_pos (lst_lt f _ hn), if_neg (fun q => q.1 h3)]
        exact Or.inr ⟨hk1, rfl⟩
      · rw [← h2]
        by_cases q : lst f (nI k) n < (tB f h n k).2
        · rw [if_pos q, if_neg (fun w => absurd w.2 (Int32.not_le.mpr q))]
          exact Or.inr ⟨hk1, rfl⟩
        · rw [if_neg q, if_pos ⟨h1, Int32.not_lt.mp q⟩]
          exact Or.inr ⟨h1, rfl⟩
    · simp only [if_neg hb]
      exact ih (by omega)
theorem tB_far {f : Nat → Int32} {h n ng : Nat} (hg : ng ≤ 4) (hh : h < 2 ^ ng) : ∀ k, ng + k ≤ 4 → tB f (nI h) n (ng + k) = tB f (nI h) n ng := by
  intro k
  have hpw := pw4 hg
  induction k with
  | zero => intro _; rfl
  | succ k ih =>
    intro hk
    have hb : ¬ xbit (nI h) (ng + k) = true := by
      unfold xbit
      rw [decide_eq_true_eq, bit16 (by omega) (by omega)]
      have : h < 2 ^ (ng + k) := Nat.lt_of_lt_of_le hh (Nat.pow_le_pow_right (by decide) (by omega))
      rw [Nat.testBit_lt_two_pow this]; decide
    rw [show tB f (nI h) n (ng + (k + 1)) = (if xbit (nI h) (ng + k) = true then (if lst f (nI (ng + k)) n < (tB f (nI h) n (ng + k)).2 then (nI (ng + k), lst f (nI (ng + k)) n) else tB f (nI h) n (ng + k)) else tB f (nI h) n (ng + k)) from rfl, if_neg hb]
    exact ih (by omega)
theorem turn_same {f : Nat → Int32} {h n ng : Nat} (hn : n ≤ 20) (hg : ng ≤ 4) (hh : h < 2 ^ ng) : (tB f (nI h) n 4).1 = (tM f (nI h) n ng).1 := by
  have e := tB_far (f := f) (n := n) hg hh (4 - ng) (by omega)
  rw [show ng + (4 - ng) = 4 by omega] at e
  rw [e]
  rcases tB_tM f (nI h) hn ng hg with ⟨h1, _, h3⟩ | ⟨_, h2⟩
  · rw [h1, h3]
  · rw [h2]
theorem tM_congr {f f' : Nat → Int32} {h : Int32} {n : Nat} (hf : ∀ i, i < n → f i = f' i) : ∀ k, tM f h n k = tM f' h n k := by
  intro k
  induction k with
  | zero => rfl
  | succ k ih => unfold tM; rw [lst_congr n hf, ih]
theorem XturnBehind_eq {σ : xM} {n : Nat} {h : Int32} {Q : Int32 → xM → Prop} (hn : n ≤ 20) : xI1 84 [.ref 59, .int (nI n), .int h] σ Q = Q (tB (σ.1 61) h n 4).1 σ := by
  have loop : ∀ j k, k + j = 4 → ∀ l, xC 84 9 [some (.ref 59), some (.int (nI n)), some (.int h), some (.int (tB (σ.1 61) h n k).1), some (.int (tB (σ.1 61) h n k).2), some (.int (nI k)), l] [] σ (xqI Q) = Q (tB (σ.1 61) h n 4).1 σ := by
    intro j
    induction j with
    | zero =>
      intro k hk l
      obtain rfl : k = 4 := by omega
      rw [s84_9]
      simp only [s84_0, s84_1, s84_2, s84_4, s84_6, s84_7, s84_11, s84_12, s84_15, s84_16, s84_18, s84_21, s84_24, s84_25, s84_26, s84_28, s84_31, s84_33, s84_35, s84_37, s84_40, s84_42, s84_44, s84_46, s84_47, s84_50, s84_53, s84_54, show ((4 : Int32) ≤ nI 4) = True from eq_true (by decide), if_true]
    | succ j ih =>
      intro k hk l
      have e : ((4 : Int32) ≤ nI k) = False := eq_false (fun q => by have := (nI_leI (a := 4) (b := k) (by decide) (by omega)).mp q; omega)
      rw [s84_9]
      simp only [s84_0, s84_1, s84_2, s84_4, s84_6, s84_7, s84_11, s84_12, s84_15, s84_16, s84_18, s84_21, s84_24, s84_25, s84_26, s84_28, s84_31, s84_33, s84_35, s84_37, s84_40, s84_42, s84_44, s84_46, s84_47, s84_50, s84_53, s84_54, xcx_i, xcx_r, xcx_n, xcx_l, xcx_0, e, if_false, hasBit_eq, xb_f, ite_not, XlastRing_eq hn, nI_1, true_or, or_true, true_and]
      have ih0 := ih (k + 1) (by omega)
      rw [show tB (σ.1 61) h n (k + 1) = (if xbit h k then (if lst (σ.1 61) (nI k) n < (tB (σ.1 61) h n k).2 then (nI k, lst (σ.1 61) (nI k) n) else tB (σ.1 61) h n k) else tB (σ.1 61) h n k) from rfl] at ih0
      by_cases hb : h >>> (nI k &&& 31) &&& 1 = 1
      · have hb2 : xbit h k = true := decide_eq_true hb
        rw [if_pos hb2] at ih0
        rw [if_pos hb]
        by_cases q : lst (σ.1 61) (nI k) n < (tB (σ.1 61) h n k).2
        · rw [if_pos q] at ih0
          rw [if_neg (Int32.not_le.mpr q)]
          exact ih0 _
        · rw [if_neg q] at ih0
          rw [if_pos (Int32.not_lt.mp q)]
          exact ih0 _
      · have hb2 : ¬ xbit h k = true := fun w => hb (of_decide_eq_true w)
        rw [if_neg hb2] at ih0
        rw [if_neg hb]
        exact ih0 _
  rw [e84]
  simp only [s84_0, s84_1, s84_2, s84_4, s84_6, s84_7, xcx_i, xcx_r, xcx_n, xcx_l, xcx_0]
  exact loop 4 0 rfl _
theorem MturnAt_eq {σ : xM} {n ng : Nat} {h : Int32} {Q : Int32 → xM → Prop} (hn : n ≤ 20) (hg : σ.1 84 23 = nI ng) (h4 : ng ≤ 4) : xI1 219 [.ref 84, .int h, .int (nI n)] σ Q = Q (tM (σ.1 106) h n ng).1 σ := by
  have inner : ∀ (b l g : Int32), ∀ m, m ≤ 20 → xC 219 34 [some (.ref 84), some (.int h), some (.int (nI n)), some (.int b), some (.int l), some (.int g), some (.int (nI m - 1))] [] σ (xqI Q) = xC 219 57 [some (.ref 84), some (.int h), some (.int (nI n)), some (.int b), some (.int l), some (.int g), some (.int (lst (σ.1 106) g m))] [] σ (xqI Q) := by
    intro b l g m
    induction m with
    | zero =>
      intro _
      have e : (nI 0 - 1 < 0) = True := eq_true (by decide)
      rw [s219_34]
      simp only [s219_36, e, if_true]
      rfl
    | succ m ih =>
      intro hm
      have e : (nI m < 0) = False := eq_false (nI_pos (by omega))
      have b0 : m < 100000 := by omega
      have c0 : m < 20 := by omega
      rw [nI_pred, s219_34]
      simp only [s219_36, s219_39, s219_40, s219_43, s219_45, s219_46, s219_48, s219_51, s219_54, xcx_i, xcx_r, xcx_n, xcx_l, xcx_0, am1, e, if_false, xcl_106, xln_106, b0, c0, cl_s, pos_s, true_and]
      rw [show lst (σ.1 106) g (m + 1) = if σ.1 106 m = g then nI m else lst (σ.1 106) g m from rfl]
      by_cases q : σ.1 106 m = g
      · rw [if_pos q, if_pos q]
      · rw [if_neg q, if_neg q]; exact ih (by omega)
  have loop : ∀ j k, k + j = ng → ∀ l, xC 219 8 [some (.ref 84), some (.int h), some (.int (nI n)), some (.int (tM (σ.1 106) h n k).1), some (.int (tM (σ.1 106) h n k).2), some (.int (nI k)), l] [] σ (xqI Q) = Q (tM (σ.1 106) h n ng).1 σ := by
    intro j
    induction j with
    | zero =>
      intro k hk l
      obtain rfl : k = ng := by omega
      rw [s219_8]
      simp only [s219_0, s219_1, s219_2, s219_3, s219_5, s219_6, s219_10, s219_11, s219_14, s219_17, s219_18, s219_20, s219_21, s219_22, s219_23, s219_26, s219_29, s219_30, s219_31, s219_32, s219_36, s219_39, s219_40, s219_43, s219_45, s219_46, s219_48, s219_51, s219_54, s219_57, s219_58, s219_59, s219_62, s219_64, s219_66, s219_69, s219_72, s219_74, s219_75, s219_77, s219_79, s219_82, s219_85, s219_86, hg, nI_leL (a := k) (b := k) (by omega) (by omega), Nat.le_refl, if_true]
    | succ j ih =>
      intro k hk l
      have e : (nI ng ≤ nI k) = False := eq_false (fun q => by have := (nI_leI (show ng < 2147483648 by omega) (show k < 2147483648 by omega)).mp q; omega)
      rw [s219_8]
      simp only [s219_10, s219_11, s219_14, s219_17, s219_18, s219_20, s219_21, s219_22, s219_23, s219_26, s219_29, s219_30, s219_31, s219_32, xcx_i, xcx_r, xcx_n, xcx_l, xcx_0, hg, e, if_false, inner _ _ _ n hn, and01, ite_not]
      have ih0 := ih (k + 1) (by omega)
      rw [show tM (σ.1 106) h n (k + 1) = (if xbit h k then (if ¬ (tM (σ.1 106) h n k).1 = -1 ∧ (tM (σ.1 106) h n k).2 ≤ lst (σ.1 106) (nI k) n then tM (σ.1 106) h n k else (nI k, lst (σ.1 106) (nI k) n)) else tM (σ.1 106) h n k) from rfl] at ih0
      simp only [s219_57, s219_58, s219_59, s219_62, s219_64, s219_66, s219_69, s219_72, s219_74, s219_75, s219_77, s219_79, s219_82, xcx_i, xcx_r, xcx_n, xcx_l, xcx_0, nI_1]
      by_cases hb : h >>> (nI k &&& 31) &&& 1 = 1
      · have hb2 : xbit h k = true := decide_eq_true hb
        rw [if_pos hb2] at ih0
        rw [if_pos hb]
        by_cases q1 : (tM (σ.1 106) h n k).1 = -1
        · rw [if_neg (fun w => w.1 q1)] at ih0
          rw [if_pos q1]
          exact ih0 _
        · rw [if_neg q1]
          by_cases q2 : (tM (σ.1 106) h n k).2 ≤ lst (σ.1 106) (nI k) n
          · rw [if_pos ⟨q1, q2⟩] at ih0
            rw [if_neg (Int32.not_lt.mpr q2)]
            exact ih0 _
          · rw [if_neg (fun w => q2 w.2)] at ih0
            rw [if_pos (Int32.not_le.mp q2)]
            exact ih0 _
      · have hb2 : ¬ xbit h k = true := fun w => hb (of_decide_eq_true w)
        rw [if_neg hb2] at ih0
        rw [if_neg hb]
        exact ih0 _
  rw [e219]
  simp only [s219_0, s219_1, s219_2, s219_3, s219_5, s219_6, xcx_i, xcx_r, xcx_n, xcx_l, xcx_0]
  exact loop ng 0 (by omega) _
theorem op_turn (a : Int32) : xOp 131 220 [.int a] := by
  intro xs L σ hI
  obtain ⟨p, ns, nr, nd, ng, nt, hp, hpe, hb, ⟨hst, -, -, hg, -⟩, ⟨hm0, -, -, hmg, -⟩⟩ := hI.1.get
  obtain ⟨n, hn6, k1, k2, hrow⟩ := hI.2.2.2.2.2.1
  have hb1 := hb.1
  have hb4 := hb.2.2.2.1
  have hz := hb.2.2.2.2.2
  have hns31 : ns < 2147483648 := by omega
  have hx : ∀ Q : Int32 → xM → Prop, xI1 131 [.ref 0, .int a] σ Q = (if (∃ l, l < 2 ^ ng ∧ 0 < l ∧ a = nI l) then Q (tB (σ.1 61) a n 4).1 σ else Q (-1) σ) := by
    intro Q
    have hmb : ∀ (Q : Int32 → xM → Prop), xI1 153 [.ref 0, .int a] σ Q = _ := fun Q => mayBeHome_eq hp hpe hg hb4
    rw [e131]
    simp only [s131_0, s131_1, s131_2, s131_5, s131_8, s131_9, s131_12, s131_13, s131_16, s131_19, s131_20, s131_23, s131_26, s131_27, hmb, k1, XturnBehind_eq hn6, xb_f, ite_not, true_or, or_true, true_and]
  have hm : ∀ Q : Int32 → xM → Prop, xI1 220 [.ref 84, .int a] σ Q = (if 0 < ns ∧ (∃ l, l < 2 ^ ng ∧ 0 < l ∧ a = nI l) then Q (tM (σ.1 106) a n ng).1 σ else Q (-1) σ) := by
    intro Q
    have h0 : (nI ns ≤ 0) = ¬ 0 < ns := by rw [nle_0 hns31]; exact propext ⟨fun q => by omega, fun q => by omega⟩
    rw [e220]
    simp only [s220_0, s220_1, s220_4, s220_7, s220_8, s220_9, s220_12, s220_15, s220_16, s220_17, s220_18, s220_21, s220_24, s220_27, s220_28, hm0, h0, isHome_eq hmg hb4, k2, MturnAt_eq hn6 hmg hb4, xb_f, ite_not, guard1, true_or, or_true, true_and]
  rw [hx]
  by_cases hG : ∃ l, l < 2 ^ ng ∧ 0 < l ∧ a = nI l
  · have hns0 : 0 < ns := by
      obtain ⟨l, hl, hl0, -⟩ := hG
      rcases Nat.eq_zero_or_pos ns with q | q
      · have h0 := (hz q).2.2.1
        rw [h0] at hl; omega
      · exact q
    rw [if_pos hG, hm, if_pos ⟨hns0, hG⟩]
    obtain ⟨l, hl, hl0, rfl⟩ := hG
    refine ⟨?_, hI⟩
    rw [turn_same hn6 hb4 hl, tM_congr (fun i hi => (hrow i hi).2.1.symm)]
  · rw [if_neg hG, hm, if_neg (fun w => hG w.2)]
    exact ⟨rfl, hI⟩
