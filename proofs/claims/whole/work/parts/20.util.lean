/-! THE SMALL METHODS: what at, put, within .. answer. -/
theorem nI_toI (n : Nat) (h : n < 2147483648) : (nI n).toInt = (n : Int) := nI_toInt h
theorem nI_cl (n : Nat) (h : n < 2147483648) : (nI n).toNatClampNeg = n := nI_clamp h
/-- a row's number, 0 for a place that it has not -/
def xat (σ : xM) (k : Nat) (i : Int32) : Int32 := if 0 ≤ i ∧ i.toNatClampNeg < xt_len.getD k 0 then σ.1 k i.toNatClampNeg else 0
def xpt (σ : xM) (k : Nat) (i v : Int32) : xM := if 0 ≤ i ∧ i.toNatClampNeg < xt_len.getD k 0 then xe_si σ k i.toNatClampNeg v else σ
theorem xlen_lt : ∀ k, xt_len.getD k 0 < 2147483648 := by
  intro k
  have hall : ∀ x ∈ xt_len, x < 2147483648 := by decide +kernel
  rw [List.getD_eq_getElem?_getD]
  cases h : xt_len[k]? with
  | none => decide
  | some x => exact hall x (List.mem_of_getElem? h)
theorem i_nlt {x : Int32} : ¬ x < 0 ↔ 0 ≤ x := Int32.not_lt
theorem i_ge {n : Nat} {x : Int32} (h : n < 2147483648) (h0 : 0 ≤ x) : Int32.ofNat n ≤ x ↔ ¬ x.toNatClampNeg < n := by
  have e : (Int32.ofNat n).toInt = (n : Int) := nI_toInt h
  have h1 : 0 ≤ x.toInt := by simpa using Int32.le_iff_toInt_le.mp h0
  rw [Int32.le_iff_toInt_le, e]
  show (n : Int) ≤ x.toInt ↔ ¬ x.toInt.toNat < n
  omega
theorem xcl_arr {k c : Nat} (h : xe_cls k = c) (hc : c = 100 ∨ c = 101 ∨ c = 102 ∨ c = 103 ∨ c = 104) : k < 122 ∧ 100 ≤ xe_cls k ∧ xe_cls k < 113 := by
  have := xe_cls_lt h (by omega) (by omega)
  exact ⟨this.1, by omega, by omega⟩
theorem at_eq {k : Nat} {i : Int32} {σ : xM} {Q : Int32 → xM → Prop} (hk : xe_cls k = 100) : xI1 156 [.ref k, .int i] σ Q = Q (xat σ k i) σ := by
  rw [e156]
  simp only [s156_0, s156_1, s156_4, s156_5, s156_6, s156_6_l, s156_6_q, s156_6_g, s156_7, s156_10, s156_11, s156_12, s156_12_g, s156_13, s156_16, s156_17, hk, xat]
  by_cases hi : i < 0
  · rw [if_pos hi, if_neg (fun q => absurd q.1 (Int32.not_le.mpr hi))]
  · rw [if_neg hi]
    have h0 := Int32.not_lt.mp hi
    have hg := i_ge (xlen_lt k) h0
    by_cases hn : i.toNatClampNeg < xt_len.getD k 0
    · rw [if_neg (fun q => hg.mp q hn), if_pos ⟨h0, hn⟩]
      simp only [h0, hn, and_self, true_and]
    · rw [if_pos (hg.mpr hn), if_neg (fun q => hn q.2)]
theorem put_eq {k : Nat} {i v : Int32} {σ : xM} {Q : xM → Prop} (hk : xe_cls k = 100) : xV 157 [.ref k, .int i, .int v] σ Q = Q (xpt σ k i v) := by
  rw [e157]
  simp only [s157_0, s157_1, s157_4, s157_5, s157_6, s157_6_l, s157_6_q, s157_7, s157_10, s157_11, s157_12, s157_13, s157_14, hk, xpt]
  by_cases hi : i < 0
  · rw [if_pos hi, if_neg (fun q => absurd q.1 (Int32.not_le.mpr hi))]
  · rw [if_neg hi]
    have h0 := Int32.not_lt.mp hi
    have hg := i_ge (xlen_lt k) h0
    by_cases hn : i.toNatClampNeg < xt_len.getD k 0
    · rw [if_neg (fun q => hg.mp q hn), if_pos ⟨h0, hn⟩]
      simp only [h0, hn, and_self, true_and]
    · rw [if_pos (hg.mpr hn), if_neg (fun q => hn q.2)]
/-- a test's answer -/
def xb (p : Prop) [Decidable p] : Int32 := if p then 1 else 0
theorem xb_01 (p : Prop) [Decidable p] : xb p = 0 ∨ xb p = 1 := by unfold xb; split <;> simp
theorem xb_t {p : Prop} [Decidable p] : (xb p = 1) = p := by unfold xb; split <;> simp_all
theorem xb_f {p : Prop} [Decidable p] : (xb p = 0) = ¬ p := by unfold xb; split <;> simp_all
theorem within_eq {v a b : Int32} {σ : xM} {Q : Int32 → xM → Prop} : xI1 154 [.int v, .int a, .int b] σ Q = Q (xb (a ≤ v ∧ v ≤ b)) σ := by
  rw [e154]
  simp only [s154_0, s154_1, s154_2, s154_5, s154_6, s154_7, s154_10, s154_11, s154_14, s154_15, xb]
  by_cases h1 : v < a
  · rw [if_pos h1, if_neg (fun q => absurd q.1 (Int32.not_le.mpr h1))]; simp
  · rw [if_neg h1]
    by_cases h2 : b < v
    · rw [if_pos h2, if_neg (fun q => absurd q.2 (Int32.not_le.mpr h2))]; simp
    · rw [if_neg h2, if_pos ⟨Int32.not_lt.mp h1, Int32.not_lt.mp h2⟩]; simp
theorem in_eq {v a b : Int32} {σ : xM} {Q : Int32 → xM → Prop} : xI1 158 [.int v, .int a, .int b] σ Q = Q (xb (a ≤ v ∧ v ≤ b)) σ := by
  rw [e158]
  simp only [s158_0, s158_1, s158_2, s158_5, s158_6, s158_7, s158_10, s158_11, s158_14, s158_15, xb]
  by_cases h1 : v < a
  · rw [if_pos h1, if_neg (fun q => absurd q.1 (Int32.not_le.mpr h1))]; simp
  · rw [if_neg h1]
    by_cases h2 : b < v
    · rw [if_pos h2, if_neg (fun q => absurd q.2 (Int32.not_le.mpr h2))]; simp
    · rw [if_neg h2, if_pos ⟨Int32.not_lt.mp h1, Int32.not_lt.mp h2⟩]; simp
theorem hasBit_eq {b i : Int32} {σ : xM} {Q : Int32 → xM → Prop} : xI1 155 [.int b, .int i] σ Q = Q (xb (b >>> (i &&& 31) &&& 1 = 1)) σ := by
  rw [e155]
  simp only [s155_0, s155_1, s155_2, s155_3, s155_4, s155_5, s155_6, s155_9, s155_10, s155_13, s155_14, xb]
  by_cases h1 : b >>> (i &&& 31) &&& 1 = 1
  · simp [h1]
  · simp [h1]
theorem far_eq {v : Int32} {σ : xM} {Q : Int32 → xM → Prop} : xI1 159 [.int v] σ Q = Q (if 0 ≤ v then v else -v) σ := by
  rw [e159]
  simp only [s159_0, s159_1, s159_4, s159_5, s159_6, s159_9, s159_10]
  by_cases h1 : 0 ≤ v
  · simp [h1]
  · simp [h1]
theorem abs_eq {v : Int32} {σ : xM} {Q : Int32 → xM → Prop} : xI1 3 [.int v] σ Q = Q (if 0 ≤ v then v else -v) σ := by
  rw [e3]
  simp only [s3_0, s3_1, s3_4, s3_5, s3_6, s3_9, s3_10]
  by_cases h1 : 0 ≤ v
  · simp [h1]
  · simp [h1]
theorem max_eq {a b : Int32} {σ : xM} {Q : Int32 → xM → Prop} : xI1 4 [.int a, .int b] σ Q = Q (if a < b then b else a) σ := by
  rw [e4]
  simp only [s4_0, s4_1, s4_2, s4_5, s4_6, s4_9, s4_10]
  by_cases h1 : a < b
  · simp [h1]
  · simp [h1]
theorem min_eq {a b : Int32} {σ : xM} {Q : Int32 → xM → Prop} : xI1 5 [.int a, .int b] σ Q = Q (if b < a then b else a) σ := by
  rw [e5]
  simp only [s5_0, s5_1, s5_2, s5_5, s5_6, s5_9, s5_10]
  by_cases h1 : b < a
  · simp [h1]
  · simp [h1]
theorem compare_eq {a b : Int32} {σ : xM} {Q : Int32 → xM → Prop} : xI1 1 [.int a, .int b] σ Q = Q (if a < b then -1 else if a = b then 0 else 1) σ := by
  rw [e1]
  simp only [s1_0, s1_1, s1_2, s1_5, s1_6, s1_9, s1_10, s1_11, s1_14, s1_15, s1_18, s1_19]
  by_cases h1 : b ≤ a
  · rw [if_pos h1, if_neg (Int32.not_lt.mpr h1)]
    by_cases h2 : a = b
    · simp [h2]
    · simp [h2]
  · rw [if_neg h1, if_pos (Int32.not_le.mp h1)]
