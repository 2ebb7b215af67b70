/-! THE PORT's small methods -/
theorem xe_len_ro {σ : xM} {k : Nat} (hk : xe_cls k = 110) : xe_len σ k < 2147483648 := by
  rcases xe_cls_110 hk with rfl | ⟨h1, h2⟩
  · show (σ.1 1011 0).toNatClampNeg < 2147483648
    have := (σ.1 1011 0).toInt_lt
    show (σ.1 1011 0).toInt.toNat < 2147483648
    omega
  · unfold xe_len
    rw [if_neg (by omega), if_neg (by omega), if_pos (by omega)]
    have hall : ∀ i : Nat, i < 6 → (xt_ro.getD i []).length < 2147483648 := by decide +kernel
    exact hall _ (by omega)
theorem at_ro {k : Nat} {i : Int32} {σ : xM} {Q : Int32 → xM → Prop} (hk : xe_cls k = 110) : xI1 156 [.ref k, .int i] σ Q = Q (if 0 ≤ i ∧ i.toNatClampNeg < xe_len σ k then xe_ax σ k i.toNatClampNeg else 0) σ := by
  have hl : xe_cls k = 110 ∨ xe_cls k = 112 := Or.inl hk
  rw [e156]
  simp only [s156_0, s156_1, s156_4, s156_5, s156_6, s156_6_l, s156_6_q, s156_6_g, s156_7, s156_10, s156_11, s156_12, s156_12_g, s156_13, s156_16, s156_17, hk, hl, true_or]
  by_cases hi : i < 0
  · rw [if_pos hi, if_neg (fun q => absurd q.1 (Int32.not_le.mpr hi))]
  · rw [if_neg hi]
    have h0 := Int32.not_lt.mp hi
    have hg := i_ge (xe_len_ro (σ := σ) hk) h0
    by_cases hn : i.toNatClampNeg < xe_len σ k
    · rw [if_neg (fun q => hg.mp q hn), if_pos ⟨h0, hn⟩]
      simp only [h0, hn, and_self, true_and]
    · rw [if_pos (hg.mpr hn), if_neg (fun q => hn q.2)]
def tab (t : Nat) (i : Int32) : Int32 := if 0 ≤ i ∧ i.toNatClampNeg < (xt_ro.getD t []).length then (xt_ro.getD t []).getD i.toNatClampNeg 0 else 0
theorem at_t0 {i : Int32} {σ : xM} {Q : Int32 → xM → Prop} : xI1 156 [.ref 1020, .int i] σ Q = Q (tab 0 i) σ := at_ro rfl
theorem at_t1 {i : Int32} {σ : xM} {Q : Int32 → xM → Prop} : xI1 156 [.ref 1021, .int i] σ Q = Q (tab 1 i) σ := at_ro rfl
theorem at_t2 {i : Int32} {σ : xM} {Q : Int32 → xM → Prop} : xI1 156 [.ref 1022, .int i] σ Q = Q (tab 2 i) σ := at_ro rfl
theorem at_t3 {i : Int32} {σ : xM} {Q : Int32 → xM → Prop} : xI1 156 [.ref 1023, .int i] σ Q = Q (tab 3 i) σ := at_ro rfl
theorem at_t4 {i : Int32} {σ : xM} {Q : Int32 → xM → Prop} : xI1 156 [.ref 1024, .int i] σ Q = Q (tab 4 i) σ := at_ro rfl
theorem at_t5 {i : Int32} {σ : xM} {Q : Int32 → xM → Prop} : xI1 156 [.ref 1025, .int i] σ Q = Q (tab 5 i) σ := at_ro rfl
theorem tab2_0 : tab 2 0 = 0 := by decide +kernel
theorem tab2_1 : tab 2 1 = 16 := by decide +kernel
theorem tab2_2 : tab 2 2 = 24 := by decide +kernel
theorem tab2_3 : tab 2 3 = 36 := by decide +kernel
theorem tab2_4 : tab 2 4 = 42 := by decide +kernel
theorem tab2_5 : tab 2 5 = 50 := by decide +kernel
theorem tab2_6 : tab 2 6 = 51 := by decide +kernel
section PORTM
variable {p : Nat} {σ : xM} {Q : Int32 → xM → Prop}
theorem toldOf_eq {k : Int32} (hp : p = 4 ∨ p = 7) : xI1 66 [.ref p, .int k] σ Q = Q (xat σ (p + 2) k) σ := by
  rw [e66]
  rcases hp with rfl | rfl <;> simp only [s66_0, s66_1_4, s66_1_7, s66_4, s66_5, s66_8, at_eq, xcl_6, xcl_9]
theorem stands_eq (hp : p = 4 ∨ p = 7) : xI1 65 [.ref p] σ Q = Q (xb (0 < xat σ (p + 2) 0)) σ := by
  rw [e65]
  rcases hp with rfl | rfl
  · by_cases h : xat σ (4 + 2) 0 ≤ 0
    · simp [s65_0, s65_1, s65_2_4, s65_2_7, s65_5, s65_8, s65_9, s65_12, s65_13, toldOf_eq, h, xb, show ¬ 0 < xat σ 6 0 from Int32.not_lt.mpr h]
    · simp [s65_0, s65_1, s65_2_4, s65_2_7, s65_5, s65_8, s65_9, s65_12, s65_13, toldOf_eq, h, xb, Int32.not_le.mp h]
  · by_cases h : xat σ (7 + 2) 0 ≤ 0
    · simp [s65_0, s65_1, s65_2_4, s65_2_7, s65_5, s65_8, s65_9, s65_12, s65_13, toldOf_eq, h, xb, show ¬ 0 < xat σ 9 0 from Int32.not_lt.mpr h]
    · simp [s65_0, s65_1, s65_2_4, s65_2_7, s65_5, s65_8, s65_9, s65_12, s65_13, toldOf_eq, h, xb, Int32.not_le.mp h]
theorem stonePlace_eq {k : Int32} (hp : p = 4 ∨ p = 7) : xI1 72 [.ref p, .int k] σ Q = Q (xat σ (p + 1) (0 + 2 * k)) σ := by
  rw [e72]
  rcases hp with rfl | rfl <;> simp only [s72_0, s72_1_4, s72_1_7, s72_4, s72_7, s72_8, s72_11, s72_12, s72_13, s72_14, s72_15, s72_18, at_eq, at_t2, tab2_0, xcl_5, xcl_8]
theorem stoneBears_eq {k : Int32} (hp : p = 4 ∨ p = 7) : xI1 73 [.ref p, .int k] σ Q = Q (xat σ (p + 1) (0 + 2 * k + 1)) σ := by
  rw [e73]
  rcases hp with rfl | rfl <;> simp only [s73_0, s73_1_4, s73_1_7, s73_4, s73_7, s73_8, s73_11, s73_12, s73_13, s73_14, s73_15, s73_16, s73_17, s73_20, at_eq, at_t2, tab2_0, xcl_5, xcl_8]
theorem ropeBears_eq {k : Int32} (hp : p = 4 ∨ p = 7) : xI1 74 [.ref p, .int k] σ Q = Q (xat σ (p + 1) (16 + 2 * k)) σ := by
  rw [e74]
  rcases hp with rfl | rfl <;> simp only [s74_0, s74_1_4, s74_1_7, s74_4, s74_7, s74_8, s74_11, s74_12, s74_13, s74_14, s74_15, s74_18, at_eq, at_t2, tab2_1, xcl_5, xcl_8]
theorem ropePulls_eq {k : Int32} (hp : p = 4 ∨ p = 7) : xI1 75 [.ref p, .int k] σ Q = Q (xat σ (p + 1) (16 + 2 * k + 1)) σ := by
  rw [e75]
  rcases hp with rfl | rfl <;> simp only [s75_0, s75_1_4, s75_1_7, s75_4, s75_7, s75_8, s75_11, s75_12, s75_13, s75_14, s75_15, s75_16, s75_17, s75_20, at_eq, at_t2, tab2_1, xcl_5, xcl_8]
theorem men_eq {k : Int32} (hp : p = 4 ∨ p = 7) : xI1 77 [.ref p, .int k] σ Q = Q (xat σ (p + 1) (42 + 2 * k)) σ := by
  rw [e77]
  rcases hp with rfl | rfl <;> simp only [s77_0, s77_1_4, s77_1_7, s77_4, s77_7, s77_8, s77_11, s77_12, s77_13, s77_14, s77_15, s77_18, at_eq, at_t2, tab2_4, xcl_5, xcl_8]
theorem sleep_eq {k : Int32} (hp : p = 4 ∨ p = 7) : xI1 78 [.ref p, .int k] σ Q = Q (xat σ (p + 1) (42 + 2 * k + 1)) σ := by
  rw [e78]
  rcases hp with rfl | rfl <;> simp only [s78_0, s78_1_4, s78_1_7, s78_4, s78_7, s78_8, s78_11, s78_12, s78_13, s78_14, s78_15, s78_16, s78_17, s78_20, at_eq, at_t2, tab2_4, xcl_5, xcl_8]
theorem tugs_eq (hp : p = 4 ∨ p = 7) : xI1 79 [.ref p] σ Q = Q (xat σ (p + 1) 50) σ := by
  rw [e79]
  rcases hp with rfl | rfl <;> simp only [s79_0, s79_1_4, s79_1_7, s79_4, s79_7, s79_8, s79_11, s79_14, at_eq, at_t2, tab2_5, xcl_5, xcl_8]
theorem wage_eq {k : Int32} (hp : p = 4 ∨ p = 7) : xI1 80 [.ref p, .int k] σ Q = Q (xat σ (p + 1) (51 + k)) σ := by
  rw [e80]
  rcases hp with rfl | rfl <;> simp only [s80_0, s80_1_4, s80_1_7, s80_4, s80_7, s80_9, s80_12, s80_13, s80_14, s80_17, at_eq, at_t2, tab2_6, xcl_5, xcl_8]
theorem floorMod_eq {a : Int32} (ha : 0 ≤ a) : xI1 2 [.int a, .int 12] σ Q = Q (a - a / 12 * 12) σ := by
  rw [e2]
  have h1 : (0 : Int32) ≤ a ^^^ 12 := by
    have h : 0 ≤ a.toBitVec.toInt := i0_le.mp ha
    rw [i0_le]
    show 0 ≤ (a ^^^ 12).toBitVec.toInt
    have hm : (a ^^^ 12).toBitVec.msb = false := by
      rw [Int32.toBitVec_xor, BitVec.msb_xor, BitVec.msb_eq_toInt]
      have h2 : ((12 : Int32).toBitVec).msb = false := by decide
      rw [h2, Bool.xor_false, decide_eq_false_iff_not]
      omega
    rw [BitVec.msb_eq_toInt, decide_eq_false_iff_not] at hm
    omega
  simp [s2_0, s2_1, s2_2, s2_3, s2_4, s2_5, s2_6, s2_7, s2_10, s2_11, s2_14, s2_15, s2_16, s2_17, s2_18, s2_19, h1, xcx_i, xcx_r, xcx_n, xcx_l, xcx_0]
end PORTM
