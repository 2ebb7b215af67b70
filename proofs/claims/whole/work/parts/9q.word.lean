/-! the reference's tokens: words -/
theorem lN_bv (x : Nat) : (lN x).toBitVec = BitVec.ofNat 64 x := rfl
theorem lN_pk {a b : Nat} (h : a * 256 + b < 2 ^ 63) (hb : b < 256) : lN a <<< ((8 : Int32).toInt64 &&& 63) ||| lN b = lN (a * 256 + b) := by
  apply Int64.toBitVec_inj.mp
  rw [show ((8 : Int32).toInt64 &&& 63) = 8 from by decide, Int64.toBitVec_or, Int64.toBitVec_shiftLeft, lN_bv, lN_bv, lN_bv]
  apply BitVec.eq_of_toNat_eq
  rw [show ((8 : Int64).toBitVec.smod 64) = 8#64 from by decide]
  rw [BitVec.toNat_or, BitVec.shiftLeft_eq', BitVec.toNat_shiftLeft, BitVec.toNat_ofNat, BitVec.toNat_ofNat, BitVec.toNat_ofNat, BitVec.toNat_ofNat, show (8 % 2 ^ 64 : Nat) = 8 from rfl, Nat.shiftLeft_eq]
  have q8 : (2 : Nat) ^ 8 = 256 := by decide
  have q1 : a % 2 ^ 64 = a := Nat.mod_eq_of_lt (by omega)
  have q2 : b % 2 ^ 64 = b := Nat.mod_eq_of_lt (by omega)
  have q0 : a * 256 + b < 2 ^ 64 := by omega
  have q3 : (a * 256 + b) % 2 ^ 64 = a * 256 + b := Nat.mod_eq_of_lt q0
  have q00 : a * 256 < 2 ^ 64 := Nat.lt_of_le_of_lt (Nat.le_add_right (a * 256) b) q0
  have q4 : (a * 256) % (2 ^ 64) = a * 256 := Nat.mod_eq_of_lt q00
  rw [q1, q2, q3, q8, q4]
  have q5 := Nat.shiftLeft_add_eq_or_of_lt (show b < 2 ^ 8 by omega) a
  rw [Nat.shiftLeft_eq, q8] at q5
  exact q5.symm
def pkN (bt : Nat → Nat) (i : Nat) : Nat → Nat
  | 0 => 0
  | m + 1 => pkN bt i m * 256 + bt (i + m)
theorem pkN_lt {bt : Nat → Nat} {i : Nat} : ∀ m, (∀ j, j < m → bt (i + j) ≤ 122) → 2 * pkN bt i m < 256 ^ m := by
  intro m
  induction m with
  | zero => intro _; exact Nat.zero_lt_one
  | succ m ih =>
    intro h
    have h1 := ih (fun j hj => h j (by omega))
    have h2 := h m (Nat.lt_succ_self m)
    rw [show pkN bt i (m + 1) = pkN bt i m * 256 + bt (i + m) from rfl, Nat.pow_succ]
    omega
theorem pkN_63 {bt : Nat → Nat} {i m : Nat} (hm : m ≤ 8) (h : ∀ j, j < m → bt (i + j) ≤ 122) : pkN bt i m < 2 ^ 63 := by
  have h1 := pkN_lt m h
  have h2 : 256 ^ m ≤ 256 ^ 8 := Nat.pow_le_pow_right (by decide) hm
  have h3 : (256 : Nat) ^ 8 = 2 ^ 64 := by decide
  omega
