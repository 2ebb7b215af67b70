/-! luck: numbers of ways -/
theorem s89_25L {l0 l1 l2 l3 l4 l5 l6 l7 : Option Value} {s0 : Value} {k : Nat} {σ : xM} {Q : Option Value → xM → Prop} (hk : xe_cls k = 101) : xC 89 25 [l0, l1, l2, l3, l4, l5, l6, l7] [.ref k, s0] σ Q = xC 89 26 [l0, l1, l2, l3, l4, l5, l6, l7] [.int (Int32.ofNat (xt_len.getD k 0)), s0] σ Q := xC_step (y := 89) (pc := 25) (p1 := 25) (ins := .arraylength) (len := 1) (pl := 0) (a := 0) (b := 0) (v := .null) rfl rfl rfl (xa_aln (xe_cls_lt hk (by decide) (by decide)).1 (by rw [hk]; decide) (by rw [hk]; decide))
theorem s7_3L {l0 l1 l2 l3 l4 : Option Value} {k : Nat} {σ : xM} {Q : Option Value → xM → Prop} (hk : xe_cls k = 101) : xC 7 3 [l0, l1, l2, l3, l4] [.ref k] σ Q = xC 7 4 [l0, l1, l2, l3, l4] [.int (Int32.ofNat (xt_len.getD k 0))] σ Q := xC_step (y := 7) (pc := 3) (p1 := 3) (ins := .arraylength) (len := 1) (pl := 0) (a := 0) (b := 0) (v := .null) rfl rfl rfl (xa_aln (xe_cls_lt hk (by decide) (by decide)).1 (by rw [hk]; decide) (by rw [hk]; decide))
theorem s90_74L {l0 l1 l2 l3 l4 l5 : Option Value} {k : Nat} {σ : xM} {Q : Option Value → xM → Prop} (hk : xe_cls k = 101) : xC 90 74 [l0, l1, l2, l3, l4, l5] [.ref k] σ Q = xC 90 75 [l0, l1, l2, l3, l4, l5] [.int (Int32.ofNat (xt_len.getD k 0))] σ Q := xC_step (y := 90) (pc := 74) (p1 := 74) (ins := .arraylength) (len := 1) (pl := 0) (a := 0) (b := 0) (v := .null) rfl rfl rfl (xa_aln (xe_cls_lt hk (by decide) (by decide)).1 (by rw [hk]; decide) (by rw [hk]; decide))
def bN (h : Nat) : Nat → Nat
  | 0 => 0
  | k + 1 => bN h k + if h.testBit k then 1 else 0
theorem bN_le (h : Nat) : ∀ k, bN h k ≤ k := by
  intro k
  induction k with
  | zero => exact Nat.le_refl _
  | succ k ih => unfold bN; split <;> omega
theorem bN_far {h ng : Nat} (hh : h < 2 ^ ng) : ∀ k, bN h (ng + k) = bN h ng := by
  intro k
  induction k with
  | zero => rfl
  | succ k ih =>
    have : h < 2 ^ (ng + k) := Nat.lt_of_lt_of_le hh (Nat.pow_le_pow_right (by decide) (by omega))
    show bN h (ng + k) + (if h.testBit (ng + k) then 1 else 0) = bN h ng
    rw [Nat.testBit_lt_two_pow this, ih]; rfl
theorem bN_pos {h g : Nat} (hb : h.testBit g = true) : ∀ k, g < k → 1 ≤ bN h k := by
  intro k
  induction k with
  | zero => intro hg; omega
  | succ k ih =>
    intro hg
    unfold bN
    rcases Nat.lt_or_eq_of_le (Nat.le_of_lt_succ hg) with q | q
    · have := ih q; omega
    · subst q; rw [if_pos hb]; omega
theorem bitCount_eq {σ : xM} {h : Nat} {Q : Int32 → xM → Prop} (hh : h < 16) : xI1 0 [.int (nI h)] σ Q = Q (nI (bN h 4)) σ := by
  rw [e0]
  simp only [s0_0, s0_1, s0_2, s0_3, s0_4, s0_7, s0_8, s0_9, s0_10, s0_11, s0_14, s0_15, s0_16, s0_17, s0_18, s0_21, s0_22, s0_23, s0_24, s0_25, s0_26, s0_27, s0_28, s0_29, s0_32, s0_33, s0_34, s0_35, s0_36, s0_38, s0_39, s0_40, s0_41, s0_42, s0_43, s0_45, s0_46, s0_47, s0_48, s0_49, s0_51, s0_52, xcx_i, xcx_r, xcx_n, xcx_l, xcx_0]
  refine congrArg (fun x => Q x σ) ?_
  clear Q σ
  revert hh
  revert h
  decide +kernel
theorem i2l_nI {n : Nat} (h : n < 2147483648) : (nI n).toInt64 = lN n := by
  apply Int64.toInt_inj.mp
  rw [Int32.toInt_toInt64, nI_ti h]
  unfold lN
  rw [Int64.toInt_ofNat_of_lt (by omega)]
/-- the numbers of ways; o the others, l is 1 if it may be lucky -/
def wst (w : Nat → Nat) (o l : Nat) : Nat → Nat := fun k => if k = 0 then w 0 * o else w k * o + w (k - 1) * l
def wsF (o l : Nat → Nat) : Nat → Nat → Nat
  | 0 => fun k => if k = 0 then 1 else 0
  | i + 1 => wst (wsF o l i) (o i) (l i)
def smF (f : Nat → Nat) : Nat → Nat
  | 0 => 0
  | m + 1 => smF f m + f m
def prF (f : Nat → Nat) : Nat → Nat
  | 0 => 1
  | m + 1 => prF f m * f m
def tlF (f : Nat → Nat) (a : Nat) : Nat → Nat
  | 0 => 0
  | m + 1 => tlF f a m + if a ≤ m then f m else 0
theorem wsF_far (o l : Nat → Nat) : ∀ i k, i < k → wsF o l i k = 0 := by
  intro i
  induction i with
  | zero => intro k hk; show (if k = 0 then 1 else 0) = 0; rw [if_neg (by omega)]
  | succ i ih =>
    intro k hk
    show (if k = 0 then wsF o l i 0 * o i else wsF o l i k * o i + wsF o l i (k - 1) * l i) = 0
    rw [if_neg (by omega), ih k (by omega), ih (k - 1) (by omega), Nat.zero_mul, Nat.zero_mul]
theorem smF_wst (w : Nat → Nat) (o l : Nat) : ∀ m, smF (wst w o l) (m + 1) = smF w (m + 1) * o + smF w m * l := by
  intro m
  induction m with
  | zero =>
    show 0 + wst w o l 0 = (0 + w 0) * o + 0 * l
    show 0 + (if 0 = 0 then w 0 * o else _) = _
    rw [if_pos rfl, Nat.zero_add, Nat.zero_add, Nat.zero_mul, Nat.add_zero]
  | succ m ih =>
    show smF (wst w o l) (m + 1) + wst w o l (m + 1) = (smF w (m + 1) + w (m + 1)) * o + (smF w m + w m) * l
    rw [ih]
    show _ + (if m + 1 = 0 then w 0 * o else w (m + 1) * o + w (m + 1 - 1) * l) = _
    rw [if_neg (by omega), Nat.add_sub_cancel, Nat.add_mul, Nat.add_mul]
    omega
theorem smF_all (o l n : Nat → Nat) : ∀ i, i ≤ 20 → (∀ j, j < i → o j + l j = n j) → smF (wsF o l i) 21 = prF n i := by
  intro i
  induction i with
  | zero => intro _ _; rfl
  | succ i ih =>
    intro hi h
    have e := smF_wst (wsF o l i) (o i) (l i) 20
    have z := wsF_far o l i 20 (by omega)
    have e2 : smF (wsF o l i) 21 = smF (wsF o l i) 20 := by
      show smF (wsF o l i) 20 + wsF o l i 20 = _
      rw [z]; rfl
    show smF (wst (wsF o l i) (o i) (l i)) 21 = prF n i * n i
    rw [e, ← e2, ih (by omega) (fun j hj => h j (by omega)), ← h i (by omega), Nat.mul_add]
theorem prF_bd {n : Nat → Nat} : ∀ i, (∀ j, j < i → 1 ≤ n j ∧ n j ≤ 4) → 1 ≤ prF n i ∧ prF n i ≤ 4 ^ i := by
  intro i
  induction i with
  | zero => intro _; exact ⟨Nat.le_refl _, Nat.le_refl _⟩
  | succ i ih =>
    intro h
    obtain ⟨h1, h2⟩ := ih (fun j hj => h j (by omega))
    obtain ⟨h3, h4⟩ := h i (by omega)
    refine ⟨Nat.mul_le_mul h1 h3, ?_⟩
    rw [Nat.pow_succ]
    exact Nat.mul_le_mul h2 h4
/-- all ints and references as they were -/
def samI (σ τ : xM) : Prop := τ.1 = σ.1 ∧ τ.2.2 = σ.2.2
theorem samI.rf (σ : xM) : samI σ σ := ⟨rfl, rfl⟩
theorem samI.tr {a b c : xM} (h1 : samI a b) (h2 : samI b c) : samI a c := ⟨h2.1.trans h1.1, h2.2.trans h1.2⟩
theorem samI.sl {σ τ : xM} {k j : Nat} {v : Int64} (h : samI σ τ) : samI σ (xe_sl τ k j v) := ⟨h.1, h.2⟩
theorem samI.sim {σ τ : xM} (h : samI σ τ) : xSim σ τ := ⟨fun k j _ => by rw [h.1], h.2⟩
def lrow (τ : xM) (k n : Nat) (f : Nat → Nat) : Prop := ∀ i, i < n → τ.2.1 k i = lN (f i)
theorem XfillL {k n : Nat} {σ : xM} {v : Int64} {Q : xM → Prop} (hk : xe_cls k = 101) (hn : xt_len.getD k 0 = n) (hQ : ∀ τ, samI σ τ → (∀ i, i < n → τ.2.1 k i = v) → Q τ) : xV 7 [.ref k, .long v] σ Q := by
  have hn31 : n < 2147483648 := by rw [← hn]; exact xlen_lt k
  have loop : ∀ m i, i + m = n → ∀ τ, samI σ τ → (∀ j, j < i → τ.2.1 k j = v) → xC 7 6 [some (.ref k), some (.long v), none, some (.int (nI i)), some (.int (nI n))] [] τ (xqV Q) := by
    intro m
    induction m with
    | zero =>
      intro i hi τ hs hd
      obtain rfl : i = n := by omega
      rw [s7_6]
      simp only [s7_7, s7_9, s7_12, s7_13, s7_14, s7_15, s7_16, s7_19, s7_22, xcx_i, xcx_r, xcx_n, xcx_l, xcx_0, Int32.le_refl, if_true]
      exact hQ τ hs hd
    | succ m ih =>
      intro i hi τ hs hd
      have e : (nI n ≤ nI i) = False := eq_false (fun q => by have := (nI_leI (a := n) (b := i) (by omega) (by omega)).mp q; omega)
      have hi0 : (0 ≤ nI i) = True := eq_true (nI_pos' (by omega))
      have hic : (nI i).toNatClampNeg = i := nI_cl i (by omega)
      have hin : (i < xt_len.getD k 0) = True := eq_true (by omega)
      rw [s7_6]
      simp only [s7_7, s7_9, s7_12, s7_13, s7_14, s7_15, s7_16, s7_19, s7_22, xcx_i, xcx_r, xcx_n, xcx_l, xcx_0, e, if_false, hk, hi0, hic, hin, true_and, nI_1, or_true, true_or]
      refine ih (i + 1) (by omega) _ hs.sl (fun j hj => ?_)
      rw [sl_rd]
      by_cases q : j = i
      · rw [if_pos ⟨rfl, q⟩]
      · rw [if_neg (fun w => q w.2)]; exact hd j (by omega)
  rw [e7]
  simp only [s7_0, s7_1, s7_2, s7_3, s7_3_l, s7_3_q, s7_4, xcx_i, xcx_r, xcx_n, xcx_l, xcx_0, s7_3L, hk, hn]
  exact loop n 0 (by omega) σ (samI.rf _) (fun j hj => absurd hj (Nat.not_lt_zero j))
