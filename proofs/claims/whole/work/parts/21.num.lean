/-! NUMBERS: an int as the machine has it, out of a whole number. -/
def iI (z : Int) : Int32 := Int32.ofInt z
theorem iI_add (a b : Int) : iI a + iI b = iI (a + b) := (Int32.ofInt_add a b).symm
theorem iI_sub (a b : Int) : iI a - iI b = iI (a - b) := (Int32.ofInt_sub a b).symm
theorem iI_mul (a b : Int) : iI a * iI b = iI (a * b) := (Int32.ofInt_mul a b).symm
theorem iI_neg (a : Int) : -iI a = iI (-a) := (Int32.ofInt_neg a).symm
theorem iI_ti {z : Int} (h1 : -2147483648 ≤ z) (h2 : z < 2147483648) : (iI z).toInt = z := Int32.toInt_ofInt_of_le h1 h2
theorem iI_of (x : Int32) : iI x.toInt = x := Int32.ofInt_toInt x
theorem iI_lt {a b : Int} (ha1 : -2147483648 ≤ a) (ha2 : a < 2147483648) (hb1 : -2147483648 ≤ b) (hb2 : b < 2147483648) : iI a < iI b ↔ a < b := by
  rw [Int32.lt_iff_toInt_lt, iI_ti ha1 ha2, iI_ti hb1 hb2]
theorem iI_le {a b : Int} (ha1 : -2147483648 ≤ a) (ha2 : a < 2147483648) (hb1 : -2147483648 ≤ b) (hb2 : b < 2147483648) : iI a ≤ iI b ↔ a ≤ b := by
  rw [Int32.le_iff_toInt_le, iI_ti ha1 ha2, iI_ti hb1 hb2]
theorem iI_eq {a b : Int} (ha1 : -2147483648 ≤ a) (ha2 : a < 2147483648) (hb1 : -2147483648 ≤ b) (hb2 : b < 2147483648) : iI a = iI b ↔ a = b := by
  rw [← Int32.toInt_inj, iI_ti ha1 ha2, iI_ti hb1 hb2]
theorem nI_iI (n : Nat) : nI n = iI (n : Int) := by
  unfold nI iI
  exact (Int32.ofInt_eq_ofNat).symm
theorem iI_cl {z : Int} (h1 : 0 ≤ z) (h2 : z < 2147483648) : (iI z).toNatClampNeg = z.toNat := by
  show (iI z).toInt.toNat = z.toNat
  rw [iI_ti (by omega) h2]
theorem iI_div {a b : Int} (ha : 0 ≤ a) (ha2 : a < 2147483648) (hb : 0 < b) (hb2 : b < 2147483648) : iI a / iI b = iI (a / b) := by
  apply Int32.toInt_inj.mp
  have h0 : 0 ≤ a / b := Int.ediv_nonneg ha (by omega)
  have h1 : a / b ≤ a := Int.ediv_le_self b ha
  rw [Int32.toInt_div_of_ne_left _ _ (by
    intro q
    have := congrArg Int32.toInt q
    rw [iI_ti (by omega) ha2] at this
    have h2 : Int32.minValue.toInt = -2147483648 := by decide
    omega), iI_ti (by omega) ha2, iI_ti (by omega) hb2, iI_ti (by omega) (by omega), Int.tdiv_eq_ediv_of_nonneg ha]
theorem iI_mod {a b : Int} (ha : 0 ≤ a) (ha2 : a < 2147483648) (hb : 0 < b) (hb2 : b < 2147483648) : iI a - iI a / iI b * iI b = iI (a % b) := by
  rw [iI_div ha ha2 hb hb2, iI_mul, iI_sub]
  congr 1
  have := Int.mul_ediv_add_emod a b
  rw [Int.mul_comm] at this
  omega
theorem nI_lit (n : Nat) : (OfNat.ofNat n : Int32) = nI n := rfl
theorem iI_lit (n : Nat) : (OfNat.ofNat n : Int32) = iI (n : Int) := by
  rw [← nI_iI]; rfl
theorem i0_le {x : Int32} : 0 ≤ x ↔ 0 ≤ x.toInt := by
  rw [Int32.le_iff_toInt_le]; exact Iff.rfl
theorem ti_b (x : Int32) : -2147483648 ≤ x.toInt ∧ x.toInt < 2147483648 := ⟨x.le_toInt, x.toInt_lt⟩
theorem nI_ti {n : Nat} (h : n < 2147483648) : (nI n).toInt = (n : Int) := nI_toInt h
theorem nI_inj {a b : Nat} (ha : a < 2147483648) (hb : b < 2147483648) : nI a = nI b ↔ a = b := nI_eq ha hb
/-- a row as far as it goes -/
def xrow (σ : xM) (k : Nat) : Nat → Int32 := fun j => if j < xt_len.getD k 0 then σ.1 k j else 0
theorem xat_n {σ : xM} {k i : Nat} (h : i < xt_len.getD k 0) : xat σ k (nI i) = σ.1 k i := by
  have hl := xlen_lt k
  unfold xat
  rw [nI_cl i (by omega), if_pos ⟨nI_pos' (by omega), h⟩]
theorem xat_row {σ : xM} {k i : Nat} (h : i < 2147483648) : xat σ k (nI i) = xrow σ k i := by
  unfold xat xrow
  rw [nI_cl i h]
  by_cases hi : i < xt_len.getD k 0
  · rw [if_pos ⟨nI_pos' h, hi⟩, if_pos hi]
  · rw [if_neg (fun q => hi q.2), if_neg hi]
theorem xpt_n {σ : xM} {k i : Nat} {v : Int32} (h : i < xt_len.getD k 0) : xpt σ k (nI i) v = xe_si σ k i v := by
  have hl := xlen_lt k
  unfold xpt
  rw [nI_cl i (by omega), if_pos ⟨nI_pos' (by omega), h⟩]
theorem si_rd (σ : xM) (k j : Nat) (v : Int32) (a b : Nat) : (xe_si σ k j v).1 a b = if a = k ∧ b = j then v else σ.1 a b := rfl
theorem si_ne {σ : xM} {k j : Nat} {v : Int32} {a : Nat} (h : a ≠ k) : (xe_si σ k j v).1 a = σ.1 a := xe_si_ne h
theorem si_l (σ : xM) (k j : Nat) (v : Int32) : (xe_si σ k j v).2.1 = σ.2.1 := rfl
theorem si_p (σ : xM) (k j : Nat) (v : Int32) : (xe_si σ k j v).2.2 = σ.2.2 := rfl
theorem sl_i (σ : xM) (k j : Nat) (v : Int64) : (xe_sl σ k j v).1 = σ.1 := rfl
theorem sl_p (σ : xM) (k j : Nat) (v : Int64) : (xe_sl σ k j v).2.2 = σ.2.2 := rfl
theorem sl_rd (σ : xM) (k j : Nat) (v : Int64) (a b : Nat) : (xe_sl σ k j v).2.1 a b = if a = k ∧ b = j then v else σ.2.1 a b := rfl
theorem sp_i (σ : xM) (j t : Nat) : (xe_sp σ j t).1 = σ.1 := rfl
theorem sp_l (σ : xM) (j t : Nat) : (xe_sp σ j t).2.1 = σ.2.1 := rfl
theorem sp_rd (σ : xM) (j t b : Nat) : (xe_sp σ j t).2.2 b = if b = j then t else σ.2.2 b := rfl
theorem xrow_si {σ : xM} {k j : Nat} {v : Int32} (h : j < xt_len.getD k 0) : xrow (xe_si σ k j v) k = upd (xrow σ k) j v := by
  funext i
  simp only [xrow, si_rd, upd]
  by_cases hij : i = j
  · subst hij; simp only [if_pos h, and_self, if_true]
  · simp [hij]
theorem xrow_ne {σ : xM} {k j : Nat} {v : Int32} {a : Nat} (h : a ≠ k) : xrow (xe_si σ k j v) a = xrow σ a := by
  funext i
  simp only [xrow, si_rd, h, false_and, if_false]
theorem xrow_at {σ : xM} {k j : Nat} (h : j < xt_len.getD k 0) : xrow σ k j = σ.1 k j := if_pos h
theorem xrow_congr {σ σ' : xM} {k : Nat} (h : σ'.1 k = σ.1 k) : xrow σ' k = xrow σ k := by
  unfold xrow; rw [h]
