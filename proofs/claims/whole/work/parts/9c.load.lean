/-! loads -/
def ldI (p b : Int) : Int32 := 1000 * iI p / iI (max 1 b)
theorem ldI_nat {p b : Int} (hp : 0 ≤ p ∧ p ≤ 1600) (hb : 0 ≤ b ∧ b ≤ 999) : ∃ k : Nat, ldI p b = nI k ∧ k ≤ 1600000 := by
  obtain ⟨x, rfl⟩ : ∃ x : Nat, p = (x : Nat) := ⟨p.toNat, by omega⟩
  obtain ⟨y, hy⟩ : ∃ y : Nat, max 1 b = (y : Nat) := ⟨(max 1 b).toNat, by omega⟩
  refine ⟨1000 * x / y, ?_, ?_⟩
  · unfold ldI
    rw [hy, ← nI_iI, ← nI_iI, show (1000 : Int32) * nI x = nI (1000 * x) from pk_mul 1000 x, pk_div (by omega) (by omega)]
    omega
  · exact Nat.le_trans (Nat.div_le_self _ _) (by omega)
theorem Xload {τ : xM} {n H l : Nat} {W R K B : Nat → Int} {S : Nat → Nat} {u v : Int} {Q : Int32 → xM → Prop} (hM : moX τ n H W R K B S) (hl : l < n) (hb : H.testBit l = true) (hr : rowI τ 39 n (fun i => if H.testBit i then plI W R K u v i else 0)) : xI1 55 [.ref 38, .int (nI l)] τ Q = Q (ldI (plI W R K u v l) (B l)) τ := by
  have l6 : l < 6 := by have := hM.1.1; omega
  have r : τ.1 39 l = iI (if H.testBit l then plI W R K u v l else 0) := hr l hl
  rw [if_pos hb] at r
  have e44 := (hM.2.2.2.2 l hl).2.2.2.1
  obtain ⟨-, -, -, -, hB, -⟩ := hM.1.2 l hl
  have em : (if (1 : Int32) < iI (B l) then iI (B l) else 1) = iI (max 1 (B l)) := mx_iI (a := 1) (by omega) (by omega) (by omega) (by omega)
  have ez : (iI (max 1 (B l)) = 0) = False := eq_false (fun q => by
    have e : (iI (max 1 (B l))).toInt = 0 := by rw [q]; decide
    rw [iI_ti (by omega) (by omega)] at e; omega)
  rw [e55]
  simp only [s55_0, s55_3, s55_4, s55_7, s55_8, s55_11, s55_12, s55_13, s55_14, s55_17, s55_18, s55_21, s55_24, s55_25, xcx_i, xcx_r, xcx_n, xcx_l, xcx_0, at_eq, xcl_39, xcl_44, xat39 l6, xat44 l6, r, e44, max_eq, em, ez, if_false, not_false_eq_true, true_or, or_true, true_and]
  rfl
theorem Mload {τ : xM} {n ns nr bow deck l : Nat} {D E : Nat → Nat → Nat} {p : Int} {Q : Int32 → xM → Prop} (h : sdM τ n ns nr bow deck D E) (hb : sdB n ns nr bow deck D E) (hl : l < n) : xI1 192 [.ref 84, .int (nI l), .int (iI p)] τ Q = Q (ldI p (brF D E l)) τ := by
  have hB : 0 ≤ brF D E l ∧ brF D E l ≤ 999 := ((hb.ld 0 (Nat.le_refl n)).2 l hl).2.2.2.2.1
  have hbe : ∀ Q : Int32 → xM → Prop, xI1 191 [.ref 84, .int (nI l)] τ Q = Q (iI (brF D E l)) τ := fun Q => Mbears h hb hl
  have ele : ((1 : Int32) ≤ iI (brF D E l)) = (1 ≤ brF D E l) := propext (iI_le (a := 1) (by omega) (by omega) (by omega) (by omega))
  rw [e192]
  by_cases c : 1 ≤ brF D E l
  · have em : max 1 (brF D E l) = brF D E l := by omega
    have ez : (iI (brF D E l) = 0) = False := eq_false (fun q => by
      have e : (iI (brF D E l)).toInt = 0 := by rw [q]; decide
      rw [iI_ti (by omega) (by omega)] at e; omega)
    unfold ldI
    rw [em]
    simp only [s192_0, s192_1, s192_2, s192_5, s192_6, s192_9, s192_10, s192_11, s192_12, s192_13, s192_16, s192_17, s192_20, s192_21, s192_22, xcx_i, xcx_r, xcx_n, xcx_l, xcx_0, hbe, ele, c, if_true, ez, if_false, not_false_eq_true, true_or, or_true, true_and]
  · have em : max 1 (brF D E l) = 1 := by omega
    unfold ldI
    rw [em]
    simp only [s192_0, s192_1, s192_2, s192_5, s192_6, s192_9, s192_10, s192_11, s192_12, s192_13, s192_16, s192_17, s192_20, s192_21, s192_22, xcx_i, xcx_r, xcx_n, xcx_l, xcx_0, hbe, ele, c, if_false, show ((1 : Int32) = 0) = False from eq_false (by decide), not_false_eq_true, if_true, true_or, or_true, true_and]
    rfl
