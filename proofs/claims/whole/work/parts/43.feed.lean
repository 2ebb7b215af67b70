/-! feed -/
theorem and255_8 (y : Int32) : (y &&& 255).toInt8 = y.toInt8 := by
  apply Int8.toBitVec_inj.mp
  apply BitVec.eq_of_getLsbD_eq
  intro i hi
  have hall : ∀ i < 8, (255#32).getLsbD i = true := by decide
  have e : (255 : Int32).toBitVec = 255#32 := rfl
  have h32 : i < 32 := by omega
  rw [Int32.toBitVec_toInt8, Int32.toBitVec_toInt8, BitVec.getLsbD_signExtend, BitVec.getLsbD_signExtend, if_pos h32, if_pos h32, Int32.toBitVec_and, BitVec.getLsbD_and, e, hall i hi, Bool.and_true]
theorem and255_bd (y : Int32) : 0 ≤ (y &&& 255).toInt ∧ (y &&& 255).toInt ≤ 255 := by
  have e : (255 : Int32).toBitVec = 255#32 := rfl
  have h : ((y &&& 255).toBitVec).toNat ≤ 255 := by
    rw [Int32.toBitVec_and, e, BitVec.toNat_and]
    exact Nat.and_le_right
  have h2 : (y &&& 255).toInt = ((y &&& 255).toBitVec).toInt := rfl
  rw [h2, BitVec.toInt_eq_toNat_of_lt (by omega)]
  omega
/-- the k-th byte of the words -/
def fbs (ws : Nat → Int32) (k : Nat) : Int32 := ws (k / 4) >>> ((24 - 8 * nI (k % 4)) &&& 31)
def xfd (σ : xM) (n : Nat) (ws : Nat → Int32) (m : Nat) : xM := (fun a b => if a = 3 ∧ n ≤ b ∧ b < n + m then fbs ws (b - n) &&& 255 else if a = 2 ∧ b = 1 then nI (n + m) else σ.1 a b, σ.2)
def mfd (σ : xM) (n : Nat) (ws : Nat → Int32) (m : Nat) : xM := (fun a b => if a = 85 ∧ n ≤ b ∧ b < n + m then (fbs ws (b - n)).toInt8.toInt32 else if a = 84 ∧ b = 1 then nI (n + m) else σ.1 a b, σ.2)
theorem xfd_rd (σ : xM) (n : Nat) (ws : Nat → Int32) (m a b : Nat) : (xfd σ n ws m).1 a b = if a = 3 ∧ n ≤ b ∧ b < n + m then fbs ws (b - n) &&& 255 else if a = 2 ∧ b = 1 then nI (n + m) else σ.1 a b := rfl
theorem mfd_rd (σ : xM) (n : Nat) (ws : Nat → Int32) (m a b : Nat) : (mfd σ n ws m).1 a b = if a = 85 ∧ n ≤ b ∧ b < n + m then (fbs ws (b - n)).toInt8.toInt32 else if a = 84 ∧ b = 1 then nI (n + m) else σ.1 a b := rfl
theorem xfd_0 {σ : xM} {n : Nat} (ws : Nat → Int32) (h : σ.1 2 1 = nI n) : xfd σ n ws 0 = σ := by
  apply Prod.ext
  · funext a b
    rw [xfd_rd, if_neg (fun q => by omega)]
    by_cases q : a = 2 ∧ b = 1
    · rw [if_pos q, q.1, q.2]; exact h.symm
    · rw [if_neg q]
  · rfl
theorem mfd_0 {σ : xM} {n : Nat} (ws : Nat → Int32) (h : σ.1 84 1 = nI n) : mfd σ n ws 0 = σ := by
  apply Prod.ext
  · funext a b
    rw [mfd_rd, if_neg (fun q => by omega)]
    by_cases q : a = 84 ∧ b = 1
    · rw [if_pos q, q.1, q.2]; exact h.symm
    · rw [if_neg q]
  · rfl
theorem xfd_s (σ : xM) (n : Nat) (ws : Nat → Int32) (m : Nat) : xe_si (xe_si (xfd σ n ws m) 3 (n + m) (fbs ws m &&& 255)) 2 1 (nI (n + m + 1)) = xfd σ n ws (m + 1) := by
  apply Prod.ext
  · funext a b
    simp only [si_rd, xfd_rd]
    by_cases h1 : a = 2 ∧ b = 1
    · rw [if_pos h1, if_neg (fun q => by omega), if_pos h1]; rfl
    · rw [if_neg h1, if_neg h1, if_neg h1]
      by_cases h2 : a = 3 ∧ b = n + m
      · rw [if_pos h2, if_pos ⟨h2.1, by omega, by omega⟩, h2.2, Nat.add_sub_cancel_left]
      · rw [if_neg h2]
        by_cases h3 : a = 3 ∧ n ≤ b ∧ b < n + m
        · rw [if_pos h3, if_pos ⟨h3.1, by omega, by omega⟩]
        · rw [if_neg h3, if_neg (fun q => h3 ⟨q.1, q.2.1, by rcases Nat.lt_or_ge b (n + m) with w | w; exact w; exact absurd ⟨q.1, by omega⟩ h2⟩)]
  · rfl
theorem mfd_s (σ : xM) (n : Nat) (ws : Nat → Int32) (m : Nat) : xe_si (xe_si (mfd σ n ws m) 85 (n + m) (fbs ws m).toInt8.toInt32) 84 1 (nI (n + m + 1)) = mfd σ n ws (m + 1) := by
  apply Prod.ext
  · funext a b
    simp only [si_rd, mfd_rd]
    by_cases h1 : a = 84 ∧ b = 1
    · rw [if_pos h1, if_neg (fun q => by omega), if_pos h1]; rfl
    · rw [if_neg h1, if_neg h1, if_neg h1]
      by_cases h2 : a = 85 ∧ b = n + m
      · rw [if_pos h2, if_pos ⟨h2.1, by omega, by omega⟩, h2.2, Nat.add_sub_cancel_left]
      · rw [if_neg h2]
        by_cases h3 : a = 85 ∧ n ≤ b ∧ b < n + m
        · rw [if_pos h3, if_pos ⟨h3.1, by omega, by omega⟩]
        · rw [if_neg h3, if_neg (fun q => h3 ⟨q.1, q.2.1, by rcases Nat.lt_or_ge b (n + m) with w | w; exact w; exact absurd ⟨q.1, by omega⟩ h2⟩)]
  · rfl
theorem xfd_len (σ : xM) (n : Nat) (ws : Nat → Int32) (m : Nat) : (xfd σ n ws m).1 2 1 = nI (n + m) := by rw [xfd_rd, if_neg (fun q => absurd q.1 (by decide)), if_pos ⟨rfl, rfl⟩]
theorem mfd_len (σ : xM) (n : Nat) (ws : Nat → Int32) (m : Nat) : (mfd σ n ws m).1 84 1 = nI (n + m) := by rw [mfd_rd, if_neg (fun q => absurd q.1 (by decide)), if_pos ⟨rfl, rfl⟩]
theorem scrollAdd_eq {σ : xM} {n : Nat} {ws : Nat → Int32} {j : Nat} {w : Int32} {Q : xM → Prop} (hn : n ≤ 480) (hj : j < 5) (hw : w = ws j) : xV 91 [.ref 2, .int w] (xfd σ n ws (4 * j)) Q = Q (xfd σ n ws (4 * j + 4)) := by
  subst hw
  have step : ∀ (k : Nat) (s : Int32), k < 4 → s = 24 - 8 * nI k → xC 91 3 [some (.ref 2), some (.int (ws j)), some (.int s)] [] (xfd σ n ws (4 * j + k)) (xqV Q) = xC 91 3 [some (.ref 2), some (.int (ws j)), some (.int (s + -8))] [] (xfd σ n ws (4 * j + k + 1)) (xqV Q) := by
    intro k s hk hs
    subst hs
    have hk4 : k = 0 ∨ k = 1 ∨ k = 2 ∨ k = 3 := by omega
    have hlt : ((24 : Int32) - 8 * nI k < 0) = False := by rcases hk4 with rfl | rfl | rfl | rfl <;> exact eq_false (by decide)
    have hf : ws j >>> ((24 - 8 * nI k) &&& 31) = fbs ws (4 * j + k) := by
      unfold fbs
      rw [show (4 * j + k) / 4 = j by omega, show (4 * j + k) % 4 = k by omega]
    have hx : xpt (xfd σ n ws (4 * j + k)) 3 (nI (n + (4 * j + k))) (fbs ws (4 * j + k) &&& 255) = xe_si (xfd σ n ws (4 * j + k)) 3 (n + (4 * j + k)) (fbs ws (4 * j + k) &&& 255) := xpt_n (by rw [xln_3]; omega)
    have hl2 : (xe_si (xfd σ n ws (4 * j + k)) 3 (n + (4 * j + k)) (fbs ws (4 * j + k) &&& 255)).1 2 1 = nI (n + (4 * j + k)) := by rw [si_ne (by decide)]; exact xfd_len _ _ _ _
    rw [s91_3]
    simp only [s91_0, s91_2, s91_4, s91_7, s91_8, s91_11, s91_12, s91_15, s91_16, s91_17, s91_18, s91_21, s91_22, s91_25, s91_26, s91_27, s91_30, s91_31, s91_32, s91_35, s91_38, s91_41, xcx_i, xcx_r, xcx_n, xcx_l, xcx_0, hlt, if_false, put_eq, xcl_3, xfd_len, hf, hx, hl2, nI_1, xfd_s]
  rw [e91]
  simp only [s91_0, s91_2, xcx_i, xcx_r, xcx_n, xcx_l, xcx_0]
  rw [show xfd σ n ws (4 * j) = xfd σ n ws (4 * j + 0) from rfl, step 0 24 (by decide) (by decide), step 1 (24 + -8) (by decide) (by decide), step 2 (24 + -8 + -8) (by decide) (by decide), step 3 (24 + -8 + -8 + -8) (by decide) (by decide), s91_3]
  simp only [s91_0, s91_2, s91_4, s91_7, s91_8, s91_11, s91_12, s91_15, s91_16, s91_17, s91_18, s91_21, s91_22, s91_25, s91_26, s91_27, s91_30, s91_31, s91_32, s91_35, s91_38, s91_41, show ((24 : Int32) + -8 + -8 + -8 + -8 < 0) = True from eq_true (by decide), if_true]
def five (a b c d e : Int32) (j : Nat) : Int32 := if j = 0 then a else if j = 1 then b else if j = 2 then c else if j = 3 then d else e
theorem Mfeed_sel {a b c d e : Int32} {m : Nat} {l : Option Value} {τ : xM} {Q : Option Value → xM → Prop} (hm : m < 20) : xC 160 25 [some (.ref 84), some (.int a), some (.int b), some (.int c), some (.int d), some (.int e), some (.int (nI m)), l] [] τ Q = xC 160 73 [some (.ref 84), some (.int a), some (.int b), some (.int c), some (.int d), some (.int e), some (.int (nI m)), some (.int (five a b c d e (m / 4)))] [] τ Q := by
  have hm31 : m < 2147483648 := by omega
  have e4 : ((4 : Int32) ≤ nI m) = (4 ≤ m) := nI_leL (a := 4) (by decide) hm31
  have e8 : ((8 : Int32) ≤ nI m) = (8 ≤ m) := nI_leL (a := 8) (by decide) hm31
  have e12 : ((12 : Int32) ≤ nI m) = (12 ≤ m) := nI_leL (a := 12) (by decide) hm31
  have e16 : ((16 : Int32) ≤ nI m) = (16 ≤ m) := nI_leL (a := 16) (by decide) hm31
  simp only [s160_25, s160_27, s160_28, s160_31, s160_32, s160_35, s160_37, s160_39, s160_42, s160_43, s160_46, s160_48, s160_50, s160_53, s160_54, s160_57, s160_59, s160_61, s160_64, s160_66, s160_69, s160_71, e4, e8, e12, e16]
  have h : m / 4 = 0 ∨ m / 4 = 1 ∨ m / 4 = 2 ∨ m / 4 = 3 ∨ m / 4 = 4 := by omega
  rcases h with h | h | h | h | h
  · rw [if_neg (by omega), h]; rfl
  · rw [if_pos (by omega), if_neg (by omega), h]; rfl
  · rw [if_pos (by omega), if_pos (by omega), if_neg (by omega), h]; rfl
  · rw [if_pos (by omega), if_pos (by omega), if_pos (by omega), if_neg (by omega), h]; rfl
  · rw [if_pos (by omega), if_pos (by omega), if_pos (by omega), if_pos (by omega), h]; rfl
theorem Mfeed_loop {σ : xM} {n : Nat} {a b c d e : Int32} {Q : Int32 → xM → Prop} (hn : n ≤ 480) : ∀ k m, m + k = 20 → ∀ l, xC 160 18 [some (.ref 84), some (.int a), some (.int b), some (.int c), some (.int d), some (.int e), some (.int (nI m)), l] [] (mfd σ n (five a b c d e) m) (xqI Q) = Q (nI (n + 20)) (mfd σ n (five a b c d e) 20) := by
  intro k
  induction k with
  | zero =>
    intro m hm l
    obtain rfl : m = 20 := by omega
    rw [s160_18]
    simp only [s160_20, s160_22, s160_112, s160_113, s160_116, show ((20 : Int32) ≤ nI 20) = True from eq_true (by decide), if_true, mfd_len]
  | succ k ih =>
    intro m hm l
    have e20 : ((20 : Int32) ≤ nI m) = False := eq_false (fun q => by have := (nI_leI (a := 20) (b := m) (by decide) (by omega)).mp q; omega)
    have b0 : n + m < 100000 := by omega
    have c0 : n + m < 500 := by omega
    have hrm : nI m - nI m / 4 * 4 = nI (m % 4) := pk_rem (d := 4) (by omega) (by decide) (by decide)
    have hf : five a b c d e (m / 4) >>> ((24 - 8 * nI (m % 4)) &&& 31) = fbs (five a b c d e) m := rfl
    have h40 : ¬ (4 : Int32) = 0 := by decide
    have hl2 : ∀ v, (xe_si (mfd σ n (five a b c d e) m) 85 (n + m) v).1 84 1 = nI (n + m) := fun v => by rw [si_ne (by decide)]; exact mfd_len _ _ _ _
    rw [s160_18]
    simp only [s160_20, s160_22, e20, if_false, Mfeed_sel (show m < 20 by omega)]
    simp only [s160_0, s160_1, s160_4, s160_6, s160_7, s160_10, s160_13, s160_14, s160_15, s160_16, s160_20, s160_22, s160_25, s160_27, s160_28, s160_31, s160_32, s160_35, s160_37, s160_39, s160_42, s160_43, s160_46, s160_48, s160_50, s160_53, s160_54, s160_57, s160_59, s160_61, s160_64, s160_66, s160_69, s160_71, s160_73, s160_74, s160_77, s160_78, s160_81, s160_83, s160_85, s160_87, s160_89, s160_90, s160_91, s160_92, s160_93, s160_94, s160_95_b, s160_95_z, s160_96, s160_97, s160_98, s160_101, s160_102, s160_103, s160_106, s160_109, s160_112, s160_113, s160_116, xcx_i, xcx_r, xcx_n, xcx_l, xcx_0, Int8.toInt8_toInt32, mfd_len, hrm, h40, not_false_eq_true, true_and, hf, xcl_85, xln_85, b0, c0, cl_s, pos_s, hl2, nI_1, mfd_s, true_or, or_true]
    exact ih (m + 1) (by omega) _
theorem op_feed (a b c d e : Int32) : xOp 109 160 [.int a, .int b, .int c, .int d, .int e] := by
  intro xs L σ hI
  obtain ⟨n, hn5, k1, k2, hrow⟩ := hI.2.1
  have hn31 : n < 2147483648 := by omega
  have e480 : (nI n ≤ 480) = (n ≤ 480) := nI_leL (b := 480) hn31 (by decide)
  have e500 : (nI (n + 20) ≤ 500) = (n + 20 ≤ 500) := nI_leL (b := 500) (by omega) (by decide)
  have e20 : nI n + 20 = nI (n + 20) := nI_add n 20
  by_cases hG : n ≤ 480
  · have hx0 := xfd_0 (five a b c d e) k1
    rw [e109]
    have hA : ∀ (j : Nat) (w : Int32) (Q : xM → Prop), j < 5 → w = five a b c d e j → xV 91 [.ref 2, .int w] (xfd σ n (five a b c d e) (4 * j)) Q = Q (xfd σ n (five a b c d e) (4 * j + 4)) := fun j w Q hj hw => scrollAdd_eq hG hj hw
    have h0 : ∀ Q : xM → Prop, xV 91 [.ref 2, .int a] σ Q = Q (xfd σ n (five a b c d e) 4) := by
      intro Q
      have h := hA 0 a Q (by decide) rfl
      rw [show 4 * 0 = 0 from rfl, hx0] at h
      exact h
    have h1 : ∀ Q : xM → Prop, xV 91 [.ref 2, .int b] (xfd σ n (five a b c d e) 4) Q = Q (xfd σ n (five a b c d e) 8) := fun Q => hA 1 b Q (by decide) rfl
    have h2 : ∀ Q : xM → Prop, xV 91 [.ref 2, .int c] (xfd σ n (five a b c d e) 8) Q = Q (xfd σ n (five a b c d e) 12) := fun Q => hA 2 c Q (by decide) rfl
    have h3 : ∀ Q : xM → Prop, xV 91 [.ref 2, .int d] (xfd σ n (five a b c d e) 12) Q = Q (xfd σ n (five a b c d e) 16) := fun Q => hA 3 d Q (by decide) rfl
    have h4 : ∀ Q : xM → Prop, xV 91 [.ref 2, .int e] (xfd σ n (five a b c d e) 16) Q = Q (xfd σ n (five a b c d e) 20) := fun Q => hA 4 e Q (by decide) rfl
    simp only [s109_0, s109_1, s109_4, s109_7, s109_10, s109_13, s109_14, s109_15, s109_16, s109_19, s109_20, s109_23, s109_24, s109_27, s109_28, s109_31, s109_32, s109_35, s109_36, s109_39, s109_40, s109_43, s109_45, s109_48, s109_49, s109_52, s109_54, s109_57, s109_58, s109_61, s109_64, k1, e480, hG, if_true, h0, h1, h2, h3, h4, xfd_len, true_or, or_true, true_and]
    rw [e160]
    have hs : (xfd σ n (five a b c d e) 20).1 84 1 = nI n := by
      rw [xfd_rd, if_neg (fun q => absurd q.1 (by decide)), if_neg (fun q => absurd q.1 (by decide))]; exact k2
    have e0 : mfd (xfd σ n (five a b c d e) 20) n (five a b c d e) 0 = xfd σ n (five a b c d e) 20 := mfd_0 _ hs
    have hle : (n + 20 ≤ 500) = True := eq_true (by omega)
    simp only [s160_0, s160_1, s160_4, s160_6, s160_7, s160_10, s160_15, s160_16, xcx_i, xcx_r, xcx_n, xcx_l, xcx_0, hs, e20, e500, hle, if_true]
    have hL := fun Q => Mfeed_loop (σ := xfd σ n (five a b c d e) 20) (a := a) (b := b) (c := c) (d := d) (e := e) (Q := Q) hG 20 0 rfl none
    rw [e0] at hL
    refine (iff_of_eq (hL _)).mpr ?_
    refine ⟨rfl, ⟨hI.1.fr ⟨rfl, rfl, rfl, rfl, rfl, rfl, rfl, rfl, rfl, rfl, rfl, rfl, rfl, rfl, rfl, rfl⟩, ?_, hI.2.2.1, hI.2.2.2.1, hI.2.2.2.2.1, hI.2.2.2.2.2.1, hI.2.2.2.2.2.2.1.fr hI.1 ⟨rfl, rfl, rfl, rfl, rfl, rfl, rfl, rfl, rfl, rfl, rfl, rfl, rfl, rfl, rfl, rfl⟩ ⟨rfl, rfl, rfl, rfl, rfl, rfl, rfl, rfl, rfl, rfl, rfl, rfl⟩, hI.2.2.2.2.2.2.2.1, hI.2.2.2.2.2.2.2.2.1, hI.2.2.2.2.2.2.2.2.2⟩⟩
    refine ⟨n + 20, by omega, ?_, ?_, fun i hi => ?_⟩
    · rw [mfd_rd, if_neg (fun q => absurd q.1 (by decide)), if_neg (fun q => absurd q.1 (by decide))]; exact xfd_len _ _ _ _
    · exact mfd_len _ _ _ _
    · by_cases q : n ≤ i
      · rw [mfd_rd, if_pos ⟨rfl, q, hi⟩, mfd_rd, if_neg (fun q => absurd q.1 (by decide)), if_neg (fun q => absurd q.1 (by decide)), xfd_rd, if_pos ⟨rfl, q, hi⟩, and255_8]
        exact ⟨rfl, and255_bd _⟩
      · have h := hrow i (by omega)
        rw [mfd_rd, if_neg (fun w => q w.2.1), if_neg (fun q => absurd q.1 (by decide)), xfd_rd, if_neg (fun q => absurd q.1 (by decide)), if_neg (fun q => absurd q.1 (by decide)), mfd_rd, if_neg (fun q => absurd q.1 (by decide)), if_neg (fun q => absurd q.1 (by decide)), xfd_rd, if_neg (fun w => q w.2.1), if_neg (fun q => absurd q.1 (by decide))]
        exact h
  · have hf : (n ≤ 480) = False := eq_false hG
    have hf2 : (n + 20 ≤ 500) = False := eq_false (by omega)
    rw [e109]
    simp only [s109_0, s109_1, s109_4, s109_7, s109_10, s109_13, s109_14, s109_15, s109_16, s109_19, s109_20, s109_23, s109_24, s109_27, s109_28, s109_31, s109_32, s109_35, s109_36, s109_39, s109_40, s109_43, s109_45, s109_48, s109_49, s109_52, s109_54, s109_57, s109_58, s109_61, s109_64, k1, e480, hf, if_false]
    rw [e160]
    simp only [s160_0, s160_1, s160_4, s160_6, s160_7, s160_10, s160_13, s160_14, s160_15, s160_16, s160_20, s160_22, s160_25, s160_27, s160_28, s160_31, s160_32, s160_35, s160_37, s160_39, s160_42, s160_43, s160_46, s160_48, s160_50, s160_53, s160_54, s160_57, s160_59, s160_61, s160_64, s160_66, s160_69, s160_71, s160_73, s160_74, s160_77, s160_78, s160_81, s160_83, s160_85, s160_87, s160_89, s160_90, s160_91, s160_92, s160_93, s160_94, s160_95_b, s160_95_z, s160_96, s160_97, s160_98, s160_101, s160_102, s160_103, s160_106, s160_109, s160_112, s160_113, s160_116, k2, e20, e500, hf2, if_false]
    exact ⟨trivial, hI⟩
