/-! HELP FOR THE ROWS -/
def xqV (Q : xM → Prop) : Option Value → xM → Prop := fun rv σ' => rv = none ∧ Q σ'
def xqI (Q : Int32 → xM → Prop) : Option Value → xM → Prop := fun rv σ' => ∃ x, rv = some (.int x) ∧ Q x σ'
def xqJ (Q : Int64 → xM → Prop) : Option Value → xM → Prop := fun rv σ' => ∃ x, rv = some (.long x) ∧ Q x σ'
def xqA (Q : Value → xM → Prop) : Option Value → xM → Prop := fun rv σ' => ∃ v, rv = some v ∧ (v = .null ∨ ∃ k, v = .ref k) ∧ Q v σ'
theorem xqV_e (Q : xM → Prop) (σ : xM) : xqV Q none σ = Q σ := propext ⟨fun h => h.2, fun h => ⟨rfl, h⟩⟩
theorem xqI_e (Q : Int32 → xM → Prop) (x : Int32) (σ : xM) : xqI Q (some (.int x)) σ = Q x σ := propext ⟨fun ⟨y, h1, h2⟩ => by cases h1; exact h2, fun h => ⟨x, rfl, h⟩⟩
theorem xqJ_e (Q : Int64 → xM → Prop) (x : Int64) (σ : xM) : xqJ Q (some (.long x)) σ = Q x σ := propext ⟨fun ⟨y, h1, h2⟩ => by cases h1; exact h2, fun h => ⟨x, rfl, h⟩⟩
theorem xqA_e (Q : Value → xM → Prop) (k : Nat) (σ : xM) : xqA Q (some (.ref k)) σ = Q (.ref k) σ := propext ⟨fun ⟨y, h1, _, h2⟩ => by cases h1; exact h2, fun h => ⟨_, rfl, Or.inr ⟨k, rfl⟩, h⟩⟩
theorem xqA_n (Q : Value → xM → Prop) (σ : xM) : xqA Q (some .null) σ = Q .null σ := propext ⟨fun ⟨y, h1, _, h2⟩ => by cases h1; exact h2, fun h => ⟨_, rfl, Or.inl rfl, h⟩⟩
theorem xcx_i (x : Int32) : xe_cl (some (.int x)) = some (.int x) := rfl
theorem xcx_r (k : Nat) : xe_cl (some (.ref k)) = some (.ref k) := rfl
theorem xcx_n : xe_cl (some .null) = some .null := rfl
theorem xcx_l (x : Int64) : xe_cl (some (.long x)) = none := rfl
theorem xcx_0 : xe_cl none = none := rfl
section XAR
variable {n : Nat} {ls : xL} {r : List Value} {σ : xM} {i : Int32} {k : Nat}
theorem xa_ial (hk : xe_cls k = 100) : xe_ial n ls (.int i :: .ref k :: r) σ = if 0 ≤ i ∧ i.toNatClampNeg < xt_len.getD k 0 then some (n, ls, .int (σ.1 k i.toNatClampNeg) :: r, σ) else none := by
  obtain ⟨h1, -⟩ := xe_cls_lt hk (by decide) (by decide)
  simp only [xe_ial, hk, xe_alen_lt h1, xe_ax_lt (show k < 1020 by omega), true_or, true_and]
theorem xa_bal (hk : xe_cls k = 102 ∨ xe_cls k = 103) : xe_bal n ls (.int i :: .ref k :: r) σ = if 0 ≤ i ∧ i.toNatClampNeg < xt_len.getD k 0 then some (n, ls, .int (σ.1 k i.toNatClampNeg) :: r, σ) else none := by
  have h1 : k < 122 := by
    rcases hk with hk | hk <;> exact (xe_cls_lt hk (by decide) (by decide)).1
  have h2 : xe_cls k = 102 ∨ xe_cls k = 103 ∨ xe_cls k = 112 := by
    rcases hk with hk | hk
    · exact Or.inl hk
    · exact Or.inr (Or.inl hk)
  simp only [xe_bal, xe_alen_lt h1, xe_ax_lt (show k < 1020 by omega), h2, true_and]
theorem xa_lal (hk : xe_cls k = 101) : xe_lal n ls (.int i :: .ref k :: r) σ = if 0 ≤ i ∧ i.toNatClampNeg < xt_len.getD k 0 then some (n, ls, .long (σ.2.1 k i.toNatClampNeg) :: r, σ) else none := by
  obtain ⟨h1, -⟩ := xe_cls_lt hk (by decide) (by decide)
  simp only [xe_lal, hk, xe_alen_lt h1, true_and]
theorem xa_aal (hk : xe_cls k = 104) : xe_aal n ls (.int i :: .ref k :: r) σ = if 0 ≤ i ∧ i.toNatClampNeg < xt_len.getD k 0 then some (n, ls, .ref (xe_rf k i.toNatClampNeg) :: r, σ) else none := by
  obtain ⟨h1, -⟩ := xe_cls_lt hk (by decide) (by decide)
  simp only [xe_aal, hk, xe_alen_lt h1, true_and]
theorem xa_ias {x : Int32} (hk : xe_cls k = 100) : xe_ias n ls (.int x :: .int i :: .ref k :: r) σ = if 0 ≤ i ∧ i.toNatClampNeg < xt_len.getD k 0 then some (n, ls, r, xe_si σ k i.toNatClampNeg x) else none := by
  obtain ⟨h1, -⟩ := xe_cls_lt hk (by decide) (by decide)
  simp only [xe_ias, hk, xe_alen_lt h1, true_and]
theorem xa_las {x : Int64} (hk : xe_cls k = 101) : xe_las n ls (.long x :: .int i :: .ref k :: r) σ = if 0 ≤ i ∧ i.toNatClampNeg < xt_len.getD k 0 then some (n, ls, r, xe_sl σ k i.toNatClampNeg x) else none := by
  obtain ⟨h1, -⟩ := xe_cls_lt hk (by decide) (by decide)
  simp only [xe_las, hk, xe_alen_lt h1, true_and]
theorem xa_bas_b {x : Int32} (hk : xe_cls k = 102) : xe_bas n ls (.int x :: .int i :: .ref k :: r) σ = if 0 ≤ i ∧ i.toNatClampNeg < xt_len.getD k 0 then some (n, ls, r, xe_si σ k i.toNatClampNeg x.toInt8.toInt32) else none := by
  obtain ⟨h1, -⟩ := xe_cls_lt hk (by decide) (by decide)
  simp only [xe_bas, hk, xe_alen_lt h1, true_and, show ((102 : Nat) = 103) = False from by decide, false_and, if_false]
theorem xa_bas_z {x : Int32} (hk : xe_cls k = 103) : xe_bas n ls (.int x :: .int i :: .ref k :: r) σ = if 0 ≤ i ∧ i.toNatClampNeg < xt_len.getD k 0 then some (n, ls, r, xe_si σ k i.toNatClampNeg (x &&& 1)) else none := by
  obtain ⟨h1, -⟩ := xe_cls_lt hk (by decide) (by decide)
  simp only [xe_bas, hk, xe_alen_lt h1, true_and, show ((103 : Nat) = 102) = False from by decide, false_and, if_false]
theorem xa_putz {a b : Nat} {x : Int32} (hk : xe_cls k = a) (hkd : xe_kd a b = 1) : xe_put n ls (.int x :: .ref k :: r) σ a b = if x = 0 ∨ x = 1 then some (n, ls, r, xe_si σ k b x) else none := by
  unfold xe_put xe_fp
  simp only [hk, hkd, if_true]
  by_cases h : x = 0 ∨ x = 1
  · simp only [if_pos h]
  · simp only [if_neg h]
theorem xa_tabO {pc t : Nat} {x : Int32} {d lo hi : Int} {offs : Array Int} (h : x.toInt < lo ∨ hi < x.toInt) (h0 : 0 ≤ (pc : Int) + d) (ht : ((pc : Int) + d).toNat = t) : xe_tab pc ls (.int x :: r) σ d lo hi offs = some (t, ls, r, σ) := by
  unfold xe_tab
  simp only [if_pos h, if_pos h0, ht]
theorem xa_aln (hk : k < 122) (h1 : 100 ≤ xe_cls k) (h2 : xe_cls k < 113) : xe_aln n ls (.ref k :: r) σ = some (n, ls, .int (Int32.ofNat (xt_len.getD k 0)) :: r, σ) := by
  simp only [xe_aln, xe_alen_lt hk, h1, h2, and_self, if_true]
theorem xa_cpy {c dp sp : Int32} {k2 : Nat} (hk : xe_cls k = 100) (hk2 : xe_cls k2 = 100) (hr : r.length ≤ 4) : xe_cpy n ls (.int c :: .int dp :: .ref k2 :: .int sp :: .ref k :: r) σ = if 0 ≤ sp ∧ 0 ≤ dp ∧ 0 ≤ c ∧ sp.toNatClampNeg + c.toNatClampNeg ≤ xt_len.getD k 0 ∧ dp.toNatClampNeg + c.toNatClampNeg ≤ xt_len.getD k2 0 then some (n, ls, r, xe_cp σ k k2 sp.toNatClampNeg dp.toNatClampNeg c.toNatClampNeg) else none := by
  obtain ⟨h1, -⟩ := xe_cls_lt hk (by decide) (by decide)
  obtain ⟨h2, -⟩ := xe_cls_lt hk2 (by decide) (by decide)
  simp only [xe_cpy, hk, hk2, xe_alen_lt h1, xe_alen_lt h2, hr, true_and, and_true]
end XAR

theorem xa_0 : xm_a 0 = 1 := by decide +kernel
theorem xr_0 : xm_r 0 = (some .int) := by decide +kernel
theorem xml_0 : xm_l 0 = 1 := by decide +kernel
theorem xa_1 : xm_a 1 = 2 := by decide +kernel
theorem xr_1 : xm_r 1 = (some .int) := by decide +kernel
theorem xml_1 : xm_l 1 = 2 := by decide +kernel
theorem xa_2 : xm_a 2 = 2 := by decide +kernel
theorem xr_2 : xm_r 2 = (some .int) := by decide +kernel
theorem xml_2 : xm_l 2 = 3 := by decide +kernel
theorem xa_3 : xm_a 3 = 1 := by decide +kernel
theorem xr_3 : xm_r 3 = (some .int) := by decide +kernel
theorem xml_3 : xm_l 3 = 1 := by decide +kernel
theorem xa_4 : xm_a 4 = 2 := by decide +kernel
theorem xr_4 : xm_r 4 = (some .int) := by decide +kernel
theorem xml_4 : xm_l 4 = 2 := by decide +kernel
theorem xa_5 : xm_a 5 = 2 := by decide +kernel
theorem xr_5 : xm_r 5 = (some .int) := by decide +kernel
theorem xml_5 : xm_l 5 = 2 := by decide +kernel
theorem xa_6 : xm_a 6 = 2 := by decide +kernel
theorem xr_6 : xm_r 6 = none := by decide +kernel
theorem xml_6 : xm_l 6 = 4 := by decide +kernel
theorem xa_7 : xm_a 7 = 2 := by decide +kernel
theorem xr_7 : xm_r 7 = none := by decide +kernel
theorem xml_7 : xm_l 7 = 5 := by decide +kernel
theorem xa_8 : xm_a 8 = 1 := by decide +kernel
theorem xr_8 : xm_r 8 = (some .int) := by decide +kernel
theorem xml_8 : xm_l 8 = 1 := by decide +kernel
theorem xa_9 : xm_a 9 = 1 := by decide +kernel
theorem xr_9 : xm_r 9 = (some .byte) := by decide +kernel
theorem xml_9 : xm_l 9 = 1 := by decide +kernel
theorem xa_10 : xm_a 10 = 2 := by decide +kernel
theorem xr_10 : xm_r 10 = (some .char) := by decide +kernel
theorem xml_10 : xm_l 10 = 2 := by decide +kernel
theorem xa_11 : xm_a 11 = 1 := by decide +kernel
theorem xr_11 : xm_r 11 = (some .boolean) := by decide +kernel
theorem xml_11 : xm_l 11 = 1 := by decide +kernel
theorem xa_12 : xm_a 12 = 2 := by decide +kernel
theorem xr_12 : xm_r 12 = (some .char) := by decide +kernel
theorem xml_12 : xm_l 12 = 2 := by decide +kernel
theorem xa_13 : xm_a 13 = 2 := by decide +kernel
theorem xr_13 : xm_r 13 = none := by decide +kernel
theorem xml_13 : xm_l 13 = 2 := by decide +kernel
theorem xa_14 : xm_a 14 = 3 := by decide +kernel
theorem xr_14 : xm_r 14 = (some .int) := by decide +kernel
theorem xml_14 : xm_l 14 = 3 := by decide +kernel
theorem xa_15 : xm_a 15 = 4 := by decide +kernel
theorem xr_15 : xm_r 15 = none := by decide +kernel
theorem xml_15 : xm_l 15 = 5 := by decide +kernel
theorem xa_16 : xm_a 16 = 2 := by decide +kernel
theorem xr_16 : xm_r 16 = (some .boolean) := by decide +kernel
theorem xml_16 : xm_l 16 = 2 := by decide +kernel
theorem xa_17 : xm_a 17 = 2 := by decide +kernel
theorem xr_17 : xm_r 17 = (some .boolean) := by decide +kernel
theorem xml_17 : xm_l 17 = 2 := by decide +kernel
theorem xa_18 : xm_a 18 = 4 := by decide +kernel
theorem xr_18 : xm_r 18 = none := by decide +kernel
theorem xml_18 : xm_l 18 = 4 := by decide +kernel
theorem xa_19 : xm_a 19 = 5 := by decide +kernel
theorem xr_19 : xm_r 19 = (some .int) := by decide +kernel
theorem xml_19 : xm_l 19 = 7 := by decide +kernel
theorem xa_20 : xm_a 20 = 4 := by decide +kernel
theorem xr_20 : xm_r 20 = (some .int) := by decide +kernel
theorem xml_20 : xm_l 20 = 7 := by decide +kernel
theorem xa_21 : xm_a 21 = 3 := by decide +kernel
theorem xr_21 : xm_r 21 = (some .int) := by decide +kernel
theorem xml_21 : xm_l 21 = 6 := by decide +kernel
theorem xa_22 : xm_a 22 = 3 := by decide +kernel
theorem xr_22 : xm_r 22 = (some .int) := by decide +kernel
theorem xml_22 : xm_l 22 = 6 := by decide +kernel
theorem xa_23 : xm_a 23 = 4 := by decide +kernel
theorem xr_23 : xm_r 23 = (some .int) := by decide +kernel
theorem xml_23 : xm_l 23 = 5 := by decide +kernel
theorem xa_24 : xm_a 24 = 3 := by decide +kernel
theorem xr_24 : xm_r 24 = (some .boolean) := by decide +kernel
theorem xml_24 : xm_l 24 = 5 := by decide +kernel
theorem xa_25 : xm_a 25 = 3 := by decide +kernel
theorem xr_25 : xm_r 25 = none := by decide +kernel
theorem xml_25 : xm_l 25 = 7 := by decide +kernel
theorem xa_26 : xm_a 26 = 2 := by decide +kernel
theorem xr_26 : xm_r 26 = none := by decide +kernel
theorem xml_26 : xm_l 26 = 3 := by decide +kernel
theorem xa_27 : xm_a 27 = 5 := by decide +kernel
theorem xr_27 : xm_r 27 = none := by decide +kernel
theorem xml_27 : xm_l 27 = 5 := by decide +kernel
theorem xa_28 : xm_a 28 = 2 := by decide +kernel
theorem xr_28 : xm_r 28 = (some .int) := by decide +kernel
theorem xml_28 : xm_l 28 = 2 := by decide +kernel
theorem xa_29 : xm_a 29 = 3 := by decide +kernel
theorem xr_29 : xm_r 29 = (some .boolean) := by decide +kernel
theorem xml_29 : xm_l 29 = 5 := by decide +kernel
theorem xa_30 : xm_a 30 = 3 := by decide +kernel
theorem xr_30 : xm_r 30 = none := by decide +kernel
theorem xml_30 : xm_l 30 = 4 := by decide +kernel
theorem xa_31 : xm_a 31 = 4 := by decide +kernel
theorem xr_31 : xm_r 31 = none := by decide +kernel
theorem xml_31 : xm_l 31 = 8 := by decide +kernel
theorem xa_32 : xm_a 32 = 4 := by decide +kernel
theorem xr_32 : xm_r 32 = none := by decide +kernel
theorem xml_32 : xm_l 32 = 7 := by decide +kernel
theorem xa_33 : xm_a 33 = 2 := by decide +kernel
theorem xr_33 : xm_r 33 = (some .int) := by decide +kernel
theorem xml_33 : xm_l 33 = 5 := by decide +kernel
theorem xa_34 : xm_a 34 = 4 := by decide +kernel
theorem xr_34 : xm_r 34 = (some .int) := by decide +kernel
theorem xml_34 : xm_l 34 = 8 := by decide +kernel
theorem xa_35 : xm_a 35 = 1 := by decide +kernel
theorem xr_35 : xm_r 35 = (some .int) := by decide +kernel
theorem xml_35 : xm_l 35 = 1 := by decide +kernel
theorem xa_36 : xm_a 36 = 5 := by decide +kernel
theorem xr_36 : xm_r 36 = none := by decide +kernel
theorem xml_36 : xm_l 36 = 7 := by decide +kernel
theorem xa_37 : xm_a 37 = 4 := by decide +kernel
theorem xr_37 : xm_r 37 = (some .int) := by decide +kernel
theorem xml_37 : xm_l 37 = 5 := by decide +kernel
theorem xa_38 : xm_a 38 = 6 := by decide +kernel
theorem xr_38 : xm_r 38 = (some .boolean) := by decide +kernel
theorem xml_38 : xm_l 38 = 9 := by decide +kernel
theorem xa_39 : xm_a 39 = 4 := by decide +kernel
theorem xr_39 : xm_r 39 = none := by decide +kernel
theorem xml_39 : xm_l 39 = 7 := by decide +kernel
theorem xa_40 : xm_a 40 = 4 := by decide +kernel
theorem xr_40 : xm_r 40 = none := by decide +kernel
theorem xml_40 : xm_l 40 = 4 := by decide +kernel
theorem xa_41 : xm_a 41 = 5 := by decide +kernel
theorem xr_41 : xm_r 41 = none := by decide +kernel
theorem xml_41 : xm_l 41 = 7 := by decide +kernel
theorem xa_42 : xm_a 42 = 1 := by decide +kernel
theorem xr_42 : xm_r 42 = (some .int) := by decide +kernel
theorem xml_42 : xm_l 42 = 1 := by decide +kernel
theorem xa_43 : xm_a 43 = 5 := by decide +kernel
theorem xr_43 : xm_r 43 = none := by decide +kernel
theorem xml_43 : xm_l 43 = 6 := by decide +kernel
theorem xa_44 : xm_a 44 = 5 := by decide +kernel
theorem xr_44 : xm_r 44 = none := by decide +kernel
theorem xml_44 : xm_l 44 = 6 := by decide +kernel
theorem xa_45 : xm_a 45 = 2 := by decide +kernel
theorem xr_45 : xm_r 45 = none := by decide +kernel
theorem xml_45 : xm_l 45 = 2 := by decide +kernel
theorem xa_46 : xm_a 46 = 2 := by decide +kernel
theorem xr_46 : xm_r 46 = none := by decide +kernel
theorem xml_46 : xm_l 46 = 3 := by decide +kernel
theorem xa_47 : xm_a 47 = 3 := by decide +kernel
theorem xr_47 : xm_r 47 = none := by decide +kernel
theorem xml_47 : xm_l 47 = 6 := by decide +kernel
theorem xa_48 : xm_a 48 = 1 := by decide +kernel
theorem xr_48 : xm_r 48 = (some .int) := by decide +kernel
theorem xml_48 : xm_l 48 = 1 := by decide +kernel
theorem xa_49 : xm_a 49 = 1 := by decide +kernel
theorem xr_49 : xm_r 49 = none := by decide +kernel
theorem xml_49 : xm_l 49 = 3 := by decide +kernel
theorem xa_50 : xm_a 50 = 3 := by decide +kernel
theorem xr_50 : xm_r 50 = none := by decide +kernel
theorem xml_50 : xm_l 50 = 10 := by decide +kernel
theorem xa_51 : xm_a 51 = 3 := by decide +kernel
theorem xr_51 : xm_r 51 = (some .int) := by decide +kernel
theorem xml_51 : xm_l 51 = 9 := by decide +kernel
theorem xa_52 : xm_a 52 = 1 := by decide +kernel
theorem xr_52 : xm_r 52 = (some .int) := by decide +kernel
theorem xml_52 : xm_l 52 = 3 := by decide +kernel
theorem xa_53 : xm_a 53 = 2 := by decide +kernel
theorem xr_53 : xm_r 53 = (some .int) := by decide +kernel
theorem xml_53 : xm_l 53 = 6 := by decide +kernel
theorem xa_54 : xm_a 54 = 2 := by decide +kernel
theorem xr_54 : xm_r 54 = (some .int) := by decide +kernel
theorem xml_54 : xm_l 54 = 4 := by decide +kernel
theorem xa_55 : xm_a 55 = 2 := by decide +kernel
theorem xr_55 : xm_r 55 = (some .int) := by decide +kernel
theorem xml_55 : xm_l 55 = 2 := by decide +kernel
theorem xa_56 : xm_a 56 = 1 := by decide +kernel
theorem xr_56 : xm_r 56 = (some .int) := by decide +kernel
theorem xml_56 : xm_l 56 = 3 := by decide +kernel
theorem xa_57 : xm_a 57 = 4 := by decide +kernel
theorem xr_57 : xm_r 57 = none := by decide +kernel
theorem xml_57 : xm_l 57 = 4 := by decide +kernel
theorem xa_58 : xm_a 58 = 3 := by decide +kernel
theorem xr_58 : xm_r 58 = none := by decide +kernel
theorem xml_58 : xm_l 58 = 4 := by decide +kernel
theorem xa_59 : xm_a 59 = 3 := by decide +kernel
theorem xr_59 : xm_r 59 = none := by decide +kernel
theorem xml_59 : xm_l 59 = 6 := by decide +kernel
theorem xa_60 : xm_a 60 = 4 := by decide +kernel
theorem xr_60 : xm_r 60 = (some .int) := by decide +kernel
theorem xml_60 : xm_l 60 = 8 := by decide +kernel
theorem xa_61 : xm_a 61 = 2 := by decide +kernel
theorem xr_61 : xm_r 61 = none := by decide +kernel
theorem xml_61 : xm_l 61 = 3 := by decide +kernel
theorem xa_62 : xm_a 62 = 1 := by decide +kernel
theorem xr_62 : xm_r 62 = (some .boolean) := by decide +kernel
theorem xml_62 : xm_l 62 = 5 := by decide +kernel
theorem xa_63 : xm_a 63 = 3 := by decide +kernel
theorem xr_63 : xm_r 63 = none := by decide +kernel
theorem xml_63 : xm_l 63 = 4 := by decide +kernel
theorem xa_64 : xm_a 64 = 1 := by decide +kernel
theorem xr_64 : xm_r 64 = none := by decide +kernel
theorem xml_64 : xm_l 64 = 1 := by decide +kernel
theorem xa_65 : xm_a 65 = 1 := by decide +kernel
theorem xr_65 : xm_r 65 = (some .boolean) := by decide +kernel
theorem xml_65 : xm_l 65 = 1 := by decide +kernel
theorem xa_66 : xm_a 66 = 2 := by decide +kernel
theorem xr_66 : xm_r 66 = (some .int) := by decide +kernel
theorem xml_66 : xm_l 66 = 2 := by decide +kernel
theorem xa_67 : xm_a 67 = 2 := by decide +kernel
theorem xr_67 : xm_r 67 = (some .boolean) := by decide +kernel
theorem xml_67 : xm_l 67 = 2 := by decide +kernel
theorem xa_68 : xm_a 68 = 4 := by decide +kernel
theorem xr_68 : xm_r 68 = (some .boolean) := by decide +kernel
theorem xml_68 : xm_l 68 = 5 := by decide +kernel
theorem xa_69 : xm_a 69 = 2 := by decide +kernel
theorem xr_69 : xm_r 69 = (some .boolean) := by decide +kernel
theorem xml_69 : xm_l 69 = 3 := by decide +kernel
theorem xa_70 : xm_a 70 = 4 := by decide +kernel
theorem xr_70 : xm_r 70 = none := by decide +kernel
theorem xml_70 : xm_l 70 = 4 := by decide +kernel
theorem xa_71 : xm_a 71 = 2 := by decide +kernel
theorem xr_71 : xm_r 71 = none := by decide +kernel
theorem xml_71 : xm_l 71 = 2 := by decide +kernel
theorem xa_72 : xm_a 72 = 2 := by decide +kernel
theorem xr_72 : xm_r 72 = (some .int) := by decide +kernel
theorem xml_72 : xm_l 72 = 2 := by decide +kernel
theorem xa_73 : xm_a 73 = 2 := by decide +kernel
theorem xr_73 : xm_r 73 = (some .int) := by decide +kernel
theorem xml_73 : xm_l 73 = 2 := by decide +kernel
theorem xa_74 : xm_a 74 = 2 := by decide +kernel
theorem xr_74 : xm_r 74 = (some .int) := by decide +kernel
theorem xml_74 : xm_l 74 = 2 := by decide +kernel
theorem xa_75 : xm_a 75 = 2 := by decide +kernel
theorem xr_75 : xm_r 75 = (some .int) := by decide +kernel
theorem xml_75 : xm_l 75 = 2 := by decide +kernel
theorem xa_76 : xm_a 76 = 2 := by decide +kernel
theorem xr_76 : xm_r 76 = (some .int) := by decide +kernel
theorem xml_76 : xm_l 76 = 2 := by decide +kernel
theorem xa_77 : xm_a 77 = 2 := by decide +kernel
theorem xr_77 : xm_r 77 = (some .int) := by decide +kernel
theorem xml_77 : xm_l 77 = 2 := by decide +kernel
theorem xa_78 : xm_a 78 = 2 := by decide +kernel
theorem xr_78 : xm_r 78 = (some .int) := by decide +kernel
theorem xml_78 : xm_l 78 = 2 := by decide +kernel
theorem xa_79 : xm_a 79 = 1 := by decide +kernel
theorem xr_79 : xm_r 79 = (some .int) := by decide +kernel
theorem xml_79 : xm_l 79 = 1 := by decide +kernel
theorem xa_80 : xm_a 80 = 2 := by decide +kernel
theorem xr_80 : xm_r 80 = (some .int) := by decide +kernel
theorem xml_80 : xm_l 80 = 2 := by decide +kernel
theorem xa_81 : xm_a 81 = 2 := by decide +kernel
theorem xr_81 : xm_r 81 = (some .int) := by decide +kernel
theorem xml_81 : xm_l 81 = 4 := by decide +kernel
theorem xa_82 : xm_a 82 = 3 := by decide +kernel
theorem xr_82 : xm_r 82 = (some .int) := by decide +kernel
theorem xml_82 : xm_l 82 = 5 := by decide +kernel
theorem xa_83 : xm_a 83 = 3 := by decide +kernel
theorem xr_83 : xm_r 83 = none := by decide +kernel
theorem xml_83 : xm_l 83 = 3 := by decide +kernel
theorem xa_84 : xm_a 84 = 3 := by decide +kernel
theorem xr_84 : xm_r 84 = (some .int) := by decide +kernel
theorem xml_84 : xm_l 84 = 7 := by decide +kernel
theorem xa_85 : xm_a 85 = 3 := by decide +kernel
theorem xr_85 : xm_r 85 = (some .int) := by decide +kernel
theorem xml_85 : xm_l 85 = 4 := by decide +kernel
theorem xa_86 : xm_a 86 = 3 := by decide +kernel
theorem xr_86 : xm_r 86 = (some .boolean) := by decide +kernel
theorem xml_86 : xm_l 86 = 3 := by decide +kernel
theorem xa_87 : xm_a 87 = 2 := by decide +kernel
theorem xr_87 : xm_r 87 = (some .int) := by decide +kernel
theorem xml_87 : xm_l 87 = 4 := by decide +kernel
theorem xa_88 : xm_a 88 = 2 := by decide +kernel
theorem xr_88 : xm_r 88 = (some .int) := by decide +kernel
theorem xml_88 : xm_l 88 = 4 := by decide +kernel
theorem xa_89 : xm_a 89 = 2 := by decide +kernel
theorem xr_89 : xm_r 89 = (some .int) := by decide +kernel
theorem xml_89 : xm_l 89 = 8 := by decide +kernel
theorem xa_90 : xm_a 90 = 2 := by decide +kernel
theorem xr_90 : xm_r 90 = none := by decide +kernel
theorem xml_90 : xm_l 90 = 6 := by decide +kernel
theorem xa_91 : xm_a 91 = 2 := by decide +kernel
theorem xr_91 : xm_r 91 = none := by decide +kernel
theorem xml_91 : xm_l 91 = 3 := by decide +kernel
theorem xa_92 : xm_a 92 = 2 := by decide +kernel
theorem xr_92 : xm_r 92 = (some .int) := by decide +kernel
theorem xml_92 : xm_l 92 = 4 := by decide +kernel
theorem xa_93 : xm_a 93 = 2 := by decide +kernel
theorem xr_93 : xm_r 93 = (some .int) := by decide +kernel
theorem xml_93 : xm_l 93 = 7 := by decide +kernel
theorem xa_94 : xm_a 94 = 1 := by decide +kernel
theorem xr_94 : xm_r 94 = (some .int) := by decide +kernel
theorem xml_94 : xm_l 94 = 1 := by decide +kernel
theorem xa_95 : xm_a 95 = 1 := by decide +kernel
theorem xr_95 : xm_r 95 = none := by decide +kernel
theorem xml_95 : xm_l 95 = 1 := by decide +kernel
theorem xa_96 : xm_a 96 = 1 := by decide +kernel
theorem xr_96 : xm_r 96 = (some .int) := by decide +kernel
theorem xml_96 : xm_l 96 = 2 := by decide +kernel
theorem xa_97 : xm_a 97 = 2 := by decide +kernel
theorem xr_97 : xm_r 97 = (some .int) := by decide +kernel
theorem xml_97 : xm_l 97 = 2 := by decide +kernel
theorem xa_98 : xm_a 98 = 3 := by decide +kernel
theorem xr_98 : xm_r 98 = (some .boolean) := by decide +kernel
theorem xml_98 : xm_l 98 = 4 := by decide +kernel
theorem xa_99 : xm_a 99 = 1 := by decide +kernel
theorem xr_99 : xm_r 99 = (some .int) := by decide +kernel
theorem xml_99 : xm_l 99 = 3 := by decide +kernel
theorem xa_100 : xm_a 100 = 3 := by decide +kernel
theorem xr_100 : xm_r 100 = none := by decide +kernel
theorem xml_100 : xm_l 100 = 3 := by decide +kernel
theorem xa_101 : xm_a 101 = 2 := by decide +kernel
theorem xr_101 : xm_r 101 = (some .boolean) := by decide +kernel
theorem xml_101 : xm_l 101 = 2 := by decide +kernel
theorem xa_102 : xm_a 102 = 5 := by decide +kernel
theorem xr_102 : xm_r 102 = none := by decide +kernel
theorem xml_102 : xm_l 102 = 5 := by decide +kernel
theorem xa_103 : xm_a 103 = 4 := by decide +kernel
theorem xr_103 : xm_r 103 = none := by decide +kernel
theorem xml_103 : xm_l 103 = 4 := by decide +kernel
theorem xa_104 : xm_a 104 = 4 := by decide +kernel
theorem xr_104 : xm_r 104 = (some .int) := by decide +kernel
theorem xml_104 : xm_l 104 = 4 := by decide +kernel
theorem xa_105 : xm_a 105 = 3 := by decide +kernel
theorem xr_105 : xm_r 105 = (some .int) := by decide +kernel
theorem xml_105 : xm_l 105 = 3 := by decide +kernel
theorem xa_106 : xm_a 106 = 3 := by decide +kernel
theorem xr_106 : xm_r 106 = (some .int) := by decide +kernel
theorem xml_106 : xm_l 106 = 3 := by decide +kernel
theorem xa_107 : xm_a 107 = 3 := by decide +kernel
theorem xr_107 : xm_r 107 = (some .int) := by decide +kernel
theorem xml_107 : xm_l 107 = 3 := by decide +kernel
theorem xa_108 : xm_a 108 = 2 := by decide +kernel
theorem xr_108 : xm_r 108 = none := by decide +kernel
theorem xml_108 : xm_l 108 = 2 := by decide +kernel
theorem xa_109 : xm_a 109 = 6 := by decide +kernel
theorem xr_109 : xm_r 109 = (some .int) := by decide +kernel
theorem xml_109 : xm_l 109 = 6 := by decide +kernel
theorem xa_110 : xm_a 110 = 2 := by decide +kernel
theorem xr_110 : xm_r 110 = (some .boolean) := by decide +kernel
theorem xml_110 : xm_l 110 = 2 := by decide +kernel
theorem xa_111 : xm_a 111 = 1 := by decide +kernel
theorem xr_111 : xm_r 111 = (some .int) := by decide +kernel
theorem xml_111 : xm_l 111 = 1 := by decide +kernel
theorem xa_112 : xm_a 112 = 1 := by decide +kernel
theorem xr_112 : xm_r 112 = (some .int) := by decide +kernel
theorem xml_112 : xm_l 112 = 4 := by decide +kernel
theorem xa_113 : xm_a 113 = 3 := by decide +kernel
theorem xr_113 : xm_r 113 = (some .boolean) := by decide +kernel
theorem xml_113 : xm_l 113 = 3 := by decide +kernel
theorem xa_114 : xm_a 114 = 6 := by decide +kernel
theorem xr_114 : xm_r 114 = (some .int) := by decide +kernel
theorem xml_114 : xm_l 114 = 6 := by decide +kernel
theorem xa_115 : xm_a 115 = 4 := by decide +kernel
theorem xr_115 : xm_r 115 = (some .boolean) := by decide +kernel
theorem xml_115 : xm_l 115 = 4 := by decide +kernel
theorem xa_116 : xm_a 116 = 1 := by decide +kernel
theorem xr_116 : xm_r 116 = (some .int) := by decide +kernel
theorem xml_116 : xm_l 116 = 1 := by decide +kernel
theorem xa_117 : xm_a 117 = 3 := by decide +kernel
theorem xr_117 : xm_r 117 = (some .int) := by decide +kernel
theorem xml_117 : xm_l 117 = 3 := by decide +kernel
theorem xa_118 : xm_a 118 = 5 := by decide +kernel
theorem xr_118 : xm_r 118 = (some .int) := by decide +kernel
theorem xml_118 : xm_l 118 = 5 := by decide +kernel
theorem xa_119 : xm_a 119 = 5 := by decide +kernel
theorem xr_119 : xm_r 119 = (some .int) := by decide +kernel
theorem xml_119 : xm_l 119 = 5 := by decide +kernel
theorem xa_120 : xm_a 120 = 5 := by decide +kernel
theorem xr_120 : xm_r 120 = (some .int) := by decide +kernel
theorem xml_120 : xm_l 120 = 5 := by decide +kernel
theorem xa_121 : xm_a 121 = 4 := by decide +kernel
theorem xr_121 : xm_r 121 = (some .int) := by decide +kernel
theorem xml_121 : xm_l 121 = 4 := by decide +kernel
theorem xa_122 : xm_a 122 = 3 := by decide +kernel
theorem xr_122 : xm_r 122 = (some .int) := by decide +kernel
theorem xml_122 : xm_l 122 = 3 := by decide +kernel
theorem xa_123 : xm_a 123 = 6 := by decide +kernel
theorem xr_123 : xm_r 123 = (some .int) := by decide +kernel
theorem xml_123 : xm_l 123 = 7 := by decide +kernel
theorem xa_124 : xm_a 124 = 6 := by decide +kernel
theorem xr_124 : xm_r 124 = (some .int) := by decide +kernel
theorem xml_124 : xm_l 124 = 6 := by decide +kernel
theorem xa_125 : xm_a 125 = 4 := by decide +kernel
theorem xr_125 : xm_r 125 = (some .int) := by decide +kernel
theorem xml_125 : xm_l 125 = 4 := by decide +kernel
theorem xa_126 : xm_a 126 = 3 := by decide +kernel
theorem xr_126 : xm_r 126 = (some .int) := by decide +kernel
theorem xml_126 : xm_l 126 = 3 := by decide +kernel
theorem xa_127 : xm_a 127 = 1 := by decide +kernel
theorem xr_127 : xm_r 127 = (some .int) := by decide +kernel
theorem xml_127 : xm_l 127 = 1 := by decide +kernel
theorem xa_128 : xm_a 128 = 3 := by decide +kernel
theorem xr_128 : xm_r 128 = (some .int) := by decide +kernel
theorem xml_128 : xm_l 128 = 3 := by decide +kernel
theorem xa_129 : xm_a 129 = 3 := by decide +kernel
theorem xr_129 : xm_r 129 = (some .int) := by decide +kernel
theorem xml_129 : xm_l 129 = 3 := by decide +kernel
theorem xa_130 : xm_a 130 = 1 := by decide +kernel
theorem xr_130 : xm_r 130 = (some .int) := by decide +kernel
theorem xml_130 : xm_l 130 = 1 := by decide +kernel
theorem xa_131 : xm_a 131 = 2 := by decide +kernel
theorem xr_131 : xm_r 131 = (some .int) := by decide +kernel
theorem xml_131 : xm_l 131 = 2 := by decide +kernel
theorem xa_132 : xm_a 132 = 3 := by decide +kernel
theorem xr_132 : xm_r 132 = (some .int) := by decide +kernel
theorem xml_132 : xm_l 132 = 3 := by decide +kernel
theorem xa_133 : xm_a 133 = 2 := by decide +kernel
theorem xr_133 : xm_r 133 = (some .int) := by decide +kernel
theorem xml_133 : xm_l 133 = 2 := by decide +kernel
theorem xa_134 : xm_a 134 = 3 := by decide +kernel
theorem xr_134 : xm_r 134 = (some .int) := by decide +kernel
theorem xml_134 : xm_l 134 = 3 := by decide +kernel
theorem xa_135 : xm_a 135 = 4 := by decide +kernel
theorem xr_135 : xm_r 135 = (some .int) := by decide +kernel
theorem xml_135 : xm_l 135 = 4 := by decide +kernel
theorem xa_136 : xm_a 136 = 4 := by decide +kernel
theorem xr_136 : xm_r 136 = (some .boolean) := by decide +kernel
theorem xml_136 : xm_l 136 = 4 := by decide +kernel
theorem xa_137 : xm_a 137 = 2 := by decide +kernel
theorem xr_137 : xm_r 137 = (some .boolean) := by decide +kernel
theorem xml_137 : xm_l 137 = 2 := by decide +kernel
theorem xa_138 : xm_a 138 = 3 := by decide +kernel
theorem xr_138 : xm_r 138 = (some .int) := by decide +kernel
theorem xml_138 : xm_l 138 = 3 := by decide +kernel
theorem xa_139 : xm_a 139 = 2 := by decide +kernel
theorem xr_139 : xm_r 139 = (some .int) := by decide +kernel
theorem xml_139 : xm_l 139 = 2 := by decide +kernel
theorem xa_140 : xm_a 140 = 2 := by decide +kernel
theorem xr_140 : xm_r 140 = (some .int) := by decide +kernel
theorem xml_140 : xm_l 140 = 2 := by decide +kernel
theorem xa_141 : xm_a 141 = 4 := by decide +kernel
theorem xr_141 : xm_r 141 = (some .int) := by decide +kernel
theorem xml_141 : xm_l 141 = 4 := by decide +kernel
theorem xa_142 : xm_a 142 = 3 := by decide +kernel
theorem xr_142 : xm_r 142 = (some .int) := by decide +kernel
theorem xml_142 : xm_l 142 = 3 := by decide +kernel
theorem xa_143 : xm_a 143 = 4 := by decide +kernel
theorem xr_143 : xm_r 143 = (some .int) := by decide +kernel
theorem xml_143 : xm_l 143 = 4 := by decide +kernel
theorem xa_144 : xm_a 144 = 3 := by decide +kernel
theorem xr_144 : xm_r 144 = (some .int) := by decide +kernel
theorem xml_144 : xm_l 144 = 3 := by decide +kernel
theorem xa_145 : xm_a 145 = 2 := by decide +kernel
theorem xr_145 : xm_r 145 = (some .boolean) := by decide +kernel
theorem xml_145 : xm_l 145 = 3 := by decide +kernel
theorem xa_146 : xm_a 146 = 2 := by decide +kernel
theorem xr_146 : xm_r 146 = (some .boolean) := by decide +kernel
theorem xml_146 : xm_l 146 = 3 := by decide +kernel
theorem xa_147 : xm_a 147 = 2 := by decide +kernel
theorem xr_147 : xm_r 147 = (some .int) := by decide +kernel
theorem xml_147 : xm_l 147 = 2 := by decide +kernel
theorem xa_148 : xm_a 148 = 2 := by decide +kernel
theorem xr_148 : xm_r 148 = (some (.object "QuayRopes$Ship")) := by decide +kernel
theorem xml_148 : xm_l 148 = 2 := by decide +kernel
theorem xa_149 : xm_a 149 = 2 := by decide +kernel
theorem xr_149 : xm_r 149 = (some .boolean) := by decide +kernel
theorem xml_149 : xm_l 149 = 2 := by decide +kernel
theorem xa_150 : xm_a 150 = 3 := by decide +kernel
theorem xr_150 : xm_r 150 = (some .boolean) := by decide +kernel
theorem xml_150 : xm_l 150 = 3 := by decide +kernel
theorem xa_151 : xm_a 151 = 4 := by decide +kernel
theorem xr_151 : xm_r 151 = (some .boolean) := by decide +kernel
theorem xml_151 : xm_l 151 = 4 := by decide +kernel
theorem xa_152 : xm_a 152 = 4 := by decide +kernel
theorem xr_152 : xm_r 152 = (some .boolean) := by decide +kernel
theorem xml_152 : xm_l 152 = 4 := by decide +kernel
theorem xa_153 : xm_a 153 = 2 := by decide +kernel
theorem xr_153 : xm_r 153 = (some .boolean) := by decide +kernel
theorem xml_153 : xm_l 153 = 2 := by decide +kernel
theorem xa_154 : xm_a 154 = 3 := by decide +kernel
theorem xr_154 : xm_r 154 = (some .boolean) := by decide +kernel
theorem xml_154 : xm_l 154 = 3 := by decide +kernel
theorem xa_155 : xm_a 155 = 2 := by decide +kernel
theorem xr_155 : xm_r 155 = (some .boolean) := by decide +kernel
theorem xml_155 : xm_l 155 = 2 := by decide +kernel
theorem xa_156 : xm_a 156 = 2 := by decide +kernel
theorem xr_156 : xm_r 156 = (some .int) := by decide +kernel
theorem xml_156 : xm_l 156 = 2 := by decide +kernel
theorem xa_157 : xm_a 157 = 3 := by decide +kernel
theorem xr_157 : xm_r 157 = none := by decide +kernel
theorem xml_157 : xm_l 157 = 3 := by decide +kernel
theorem xa_158 : xm_a 158 = 3 := by decide +kernel
theorem xr_158 : xm_r 158 = (some .boolean) := by decide +kernel
theorem xml_158 : xm_l 158 = 3 := by decide +kernel
theorem xa_159 : xm_a 159 = 1 := by decide +kernel
theorem xr_159 : xm_r 159 = (some .int) := by decide +kernel
theorem xml_159 : xm_l 159 = 1 := by decide +kernel
theorem xa_160 : xm_a 160 = 6 := by decide +kernel
theorem xr_160 : xm_r 160 = (some .int) := by decide +kernel
theorem xml_160 : xm_l 160 = 8 := by decide +kernel
theorem xa_161 : xm_a 161 = 2 := by decide +kernel
theorem xr_161 : xm_r 161 = (some .boolean) := by decide +kernel
theorem xml_161 : xm_l 161 = 2 := by decide +kernel
theorem xa_162 : xm_a 162 = 1 := by decide +kernel
theorem xr_162 : xm_r 162 = (some .boolean) := by decide +kernel
theorem xml_162 : xm_l 162 = 1 := by decide +kernel
theorem xa_163 : xm_a 163 = 1 := by decide +kernel
theorem xr_163 : xm_r 163 = (some .boolean) := by decide +kernel
theorem xml_163 : xm_l 163 = 1 := by decide +kernel
theorem xa_164 : xm_a 164 = 1 := by decide +kernel
theorem xr_164 : xm_r 164 = none := by decide +kernel
theorem xml_164 : xm_l 164 = 2 := by decide +kernel
theorem xa_165 : xm_a 165 = 1 := by decide +kernel
theorem xr_165 : xm_r 165 = (some .long) := by decide +kernel
theorem xml_165 : xm_l 165 = 4 := by decide +kernel
theorem xa_166 : xm_a 166 = 2 := by decide +kernel
theorem xr_166 : xm_r 166 = (some .boolean) := by decide +kernel
theorem xml_166 : xm_l 166 = 2 := by decide +kernel
theorem xa_167 : xm_a 167 = 3 := by decide +kernel
theorem xr_167 : xm_r 167 = (some .boolean) := by decide +kernel
theorem xml_167 : xm_l 167 = 3 := by decide +kernel
theorem xa_168 : xm_a 168 = 1 := by decide +kernel
theorem xr_168 : xm_r 168 = (some .boolean) := by decide +kernel
theorem xml_168 : xm_l 168 = 1 := by decide +kernel
theorem xa_169 : xm_a 169 = 1 := by decide +kernel
theorem xr_169 : xm_r 169 = (some .boolean) := by decide +kernel
theorem xml_169 : xm_l 169 = 2 := by decide +kernel
theorem xa_170 : xm_a 170 = 1 := by decide +kernel
theorem xr_170 : xm_r 170 = (some .boolean) := by decide +kernel
theorem xml_170 : xm_l 170 = 1 := by decide +kernel
theorem xa_171 : xm_a 171 = 1 := by decide +kernel
theorem xr_171 : xm_r 171 = (some .boolean) := by decide +kernel
theorem xml_171 : xm_l 171 = 1 := by decide +kernel
theorem xa_172 : xm_a 172 = 1 := by decide +kernel
theorem xr_172 : xm_r 172 = (some .boolean) := by decide +kernel
theorem xml_172 : xm_l 172 = 1 := by decide +kernel
theorem xa_173 : xm_a 173 = 3 := by decide +kernel
theorem xr_173 : xm_r 173 = (some .boolean) := by decide +kernel
theorem xml_173 : xm_l 173 = 4 := by decide +kernel
theorem xa_174 : xm_a 174 = 1 := by decide +kernel
theorem xr_174 : xm_r 174 = (some .boolean) := by decide +kernel
theorem xml_174 : xm_l 174 = 1 := by decide +kernel
theorem xa_175 : xm_a 175 = 1 := by decide +kernel
theorem xr_175 : xm_r 175 = (some .boolean) := by decide +kernel
theorem xml_175 : xm_l 175 = 1 := by decide +kernel
theorem xa_176 : xm_a 176 = 1 := by decide +kernel
theorem xr_176 : xm_r 176 = (some .int) := by decide +kernel
theorem xml_176 : xm_l 176 = 1 := by decide +kernel
theorem xa_177 : xm_a 177 = 2 := by decide +kernel
theorem xr_177 : xm_r 177 = none := by decide +kernel
theorem xml_177 : xm_l 177 = 3 := by decide +kernel
theorem xa_178 : xm_a 178 = 1 := by decide +kernel
theorem xr_178 : xm_r 178 = (some .int) := by decide +kernel
theorem xml_178 : xm_l 178 = 2 := by decide +kernel
theorem xa_179 : xm_a 179 = 3 := by decide +kernel
theorem xr_179 : xm_r 179 = (some .boolean) := by decide +kernel
theorem xml_179 : xm_l 179 = 3 := by decide +kernel
theorem xa_180 : xm_a 180 = 3 := by decide +kernel
theorem xr_180 : xm_r 180 = (some .int) := by decide +kernel
theorem xml_180 : xm_l 180 = 3 := by decide +kernel
theorem xa_181 : xm_a 181 = 6 := by decide +kernel
theorem xr_181 : xm_r 181 = (some .int) := by decide +kernel
theorem xml_181 : xm_l 181 = 7 := by decide +kernel
theorem xa_182 : xm_a 182 = 2 := by decide +kernel
theorem xr_182 : xm_r 182 = (some .boolean) := by decide +kernel
theorem xml_182 : xm_l 182 = 2 := by decide +kernel
theorem xa_183 : xm_a 183 = 4 := by decide +kernel
theorem xr_183 : xm_r 183 = (some .boolean) := by decide +kernel
theorem xml_183 : xm_l 183 = 4 := by decide +kernel
theorem xa_184 : xm_a 184 = 1 := by decide +kernel
theorem xr_184 : xm_r 184 = (some .int) := by decide +kernel
theorem xml_184 : xm_l 184 = 1 := by decide +kernel
theorem xa_185 : xm_a 185 = 3 := by decide +kernel
theorem xr_185 : xm_r 185 = (some .int) := by decide +kernel
theorem xml_185 : xm_l 185 = 3 := by decide +kernel
theorem xa_186 : xm_a 186 = 2 := by decide +kernel
theorem xr_186 : xm_r 186 = (some .int) := by decide +kernel
theorem xml_186 : xm_l 186 = 2 := by decide +kernel
theorem xa_187 : xm_a 187 = 2 := by decide +kernel
theorem xr_187 : xm_r 187 = (some .int) := by decide +kernel
theorem xml_187 : xm_l 187 = 2 := by decide +kernel
theorem xa_188 : xm_a 188 = 5 := by decide +kernel
theorem xr_188 : xm_r 188 = (some .int) := by decide +kernel
theorem xml_188 : xm_l 188 = 5 := by decide +kernel
theorem xa_189 : xm_a 189 = 2 := by decide +kernel
theorem xr_189 : xm_r 189 = (some .int) := by decide +kernel
theorem xml_189 : xm_l 189 = 2 := by decide +kernel
theorem xa_190 : xm_a 190 = 5 := by decide +kernel
theorem xr_190 : xm_r 190 = (some .int) := by decide +kernel
theorem xml_190 : xm_l 190 = 6 := by decide +kernel
theorem xa_191 : xm_a 191 = 2 := by decide +kernel
theorem xr_191 : xm_r 191 = (some .int) := by decide +kernel
theorem xml_191 : xm_l 191 = 3 := by decide +kernel
theorem xa_192 : xm_a 192 = 3 := by decide +kernel
theorem xr_192 : xm_r 192 = (some .int) := by decide +kernel
theorem xml_192 : xm_l 192 = 4 := by decide +kernel
theorem xa_193 : xm_a 193 = 6 := by decide +kernel
theorem xr_193 : xm_r 193 = (some .int) := by decide +kernel
theorem xml_193 : xm_l 193 = 9 := by decide +kernel
theorem xa_194 : xm_a 194 = 5 := by decide +kernel
theorem xr_194 : xm_r 194 = (some .int) := by decide +kernel
theorem xml_194 : xm_l 194 = 7 := by decide +kernel
theorem xa_195 : xm_a 195 = 6 := by decide +kernel
theorem xr_195 : xm_r 195 = (some .int) := by decide +kernel
theorem xml_195 : xm_l 195 = 7 := by decide +kernel
theorem xa_196 : xm_a 196 = 5 := by decide +kernel
theorem xr_196 : xm_r 196 = none := by decide +kernel
theorem xml_196 : xm_l 196 = 11 := by decide +kernel
theorem xa_197 : xm_a 197 = 1 := by decide +kernel
theorem xr_197 : xm_r 197 = (some .int) := by decide +kernel
theorem xml_197 : xm_l 197 = 1 := by decide +kernel
theorem xa_198 : xm_a 198 = 4 := by decide +kernel
theorem xr_198 : xm_r 198 = (some .boolean) := by decide +kernel
theorem xml_198 : xm_l 198 = 4 := by decide +kernel
theorem xa_199 : xm_a 199 = 5 := by decide +kernel
theorem xr_199 : xm_r 199 = (some .int) := by decide +kernel
theorem xml_199 : xm_l 199 = 5 := by decide +kernel
theorem xa_200 : xm_a 200 = 5 := by decide +kernel
theorem xr_200 : xm_r 200 = (some .int) := by decide +kernel
theorem xml_200 : xm_l 200 = 5 := by decide +kernel
theorem xa_201 : xm_a 201 = 5 := by decide +kernel
theorem xr_201 : xm_r 201 = (some .int) := by decide +kernel
theorem xml_201 : xm_l 201 = 10 := by decide +kernel
theorem xa_202 : xm_a 202 = 3 := by decide +kernel
theorem xr_202 : xm_r 202 = (some .int) := by decide +kernel
theorem xml_202 : xm_l 202 = 5 := by decide +kernel
theorem xa_203 : xm_a 203 = 5 := by decide +kernel
theorem xr_203 : xm_r 203 = (some .int) := by decide +kernel
theorem xml_203 : xm_l 203 = 8 := by decide +kernel
theorem xa_204 : xm_a 204 = 4 := by decide +kernel
theorem xr_204 : xm_r 204 = (some .int) := by decide +kernel
theorem xml_204 : xm_l 204 = 6 := by decide +kernel
theorem xa_205 : xm_a 205 = 3 := by decide +kernel
theorem xr_205 : xm_r 205 = (some .int) := by decide +kernel
theorem xml_205 : xm_l 205 = 4 := by decide +kernel
theorem xa_206 : xm_a 206 = 6 := by decide +kernel
theorem xr_206 : xm_r 206 = (some .int) := by decide +kernel
theorem xml_206 : xm_l 206 = 9 := by decide +kernel
theorem xa_207 : xm_a 207 = 6 := by decide +kernel
theorem xr_207 : xm_r 207 = (some .int) := by decide +kernel
theorem xml_207 : xm_l 207 = 15 := by decide +kernel
theorem xa_208 : xm_a 208 = 4 := by decide +kernel
theorem xr_208 : xm_r 208 = (some .int) := by decide +kernel
theorem xml_208 : xm_l 208 = 4 := by decide +kernel
theorem xa_209 : xm_a 209 = 3 := by decide +kernel
theorem xr_209 : xm_r 209 = (some .int) := by decide +kernel
theorem xml_209 : xm_l 209 = 3 := by decide +kernel
theorem xa_210 : xm_a 210 = 2 := by decide +kernel
theorem xr_210 : xm_r 210 = (some .boolean) := by decide +kernel
theorem xml_210 : xm_l 210 = 4 := by decide +kernel
theorem xa_211 : xm_a 211 = 2 := by decide +kernel
theorem xr_211 : xm_r 211 = none := by decide +kernel
theorem xml_211 : xm_l 211 = 10 := by decide +kernel
theorem xa_212 : xm_a 212 = 1 := by decide +kernel
theorem xr_212 : xm_r 212 = none := by decide +kernel
theorem xml_212 : xm_l 212 = 4 := by decide +kernel
theorem xa_213 : xm_a 213 = 3 := by decide +kernel
theorem xr_213 : xm_r 213 = (some .int) := by decide +kernel
theorem xml_213 : xm_l 213 = 3 := by decide +kernel
theorem xa_214 : xm_a 214 = 1 := by decide +kernel
theorem xr_214 : xm_r 214 = (some .int) := by decide +kernel
theorem xml_214 : xm_l 214 = 4 := by decide +kernel
theorem xa_215 : xm_a 215 = 3 := by decide +kernel
theorem xr_215 : xm_r 215 = (some .int) := by decide +kernel
theorem xml_215 : xm_l 215 = 7 := by decide +kernel
theorem xa_216 : xm_a 216 = 2 := by decide +kernel
theorem xr_216 : xm_r 216 = (some .boolean) := by decide +kernel
theorem xml_216 : xm_l 216 = 2 := by decide +kernel
theorem xa_217 : xm_a 217 = 3 := by decide +kernel
theorem xr_217 : xm_r 217 = (some .int) := by decide +kernel
theorem xml_217 : xm_l 217 = 3 := by decide +kernel
theorem xa_218 : xm_a 218 = 1 := by decide +kernel
theorem xr_218 : xm_r 218 = (some .int) := by decide +kernel
theorem xml_218 : xm_l 218 = 1 := by decide +kernel
theorem xa_219 : xm_a 219 = 3 := by decide +kernel
theorem xr_219 : xm_r 219 = (some .int) := by decide +kernel
theorem xml_219 : xm_l 219 = 7 := by decide +kernel
theorem xa_220 : xm_a 220 = 2 := by decide +kernel
theorem xr_220 : xm_r 220 = (some .int) := by decide +kernel
theorem xml_220 : xm_l 220 = 2 := by decide +kernel
theorem xa_221 : xm_a 221 = 3 := by decide +kernel
theorem xr_221 : xm_r 221 = (some .int) := by decide +kernel
theorem xml_221 : xm_l 221 = 13 := by decide +kernel
theorem xa_222 : xm_a 222 = 2 := by decide +kernel
theorem xr_222 : xm_r 222 = (some .int) := by decide +kernel
theorem xml_222 : xm_l 222 = 4 := by decide +kernel
theorem xa_223 : xm_a 223 = 2 := by decide +kernel
theorem xr_223 : xm_r 223 = (some .int) := by decide +kernel
theorem xml_223 : xm_l 223 = 2 := by decide +kernel
theorem xa_224 : xm_a 224 = 3 := by decide +kernel
theorem xr_224 : xm_r 224 = (some .int) := by decide +kernel
theorem xml_224 : xm_l 224 = 3 := by decide +kernel
theorem xa_225 : xm_a 225 = 3 := by decide +kernel
theorem xr_225 : xm_r 225 = (some .int) := by decide +kernel
theorem xml_225 : xm_l 225 = 3 := by decide +kernel
theorem xa_226 : xm_a 226 = 1 := by decide +kernel
theorem xr_226 : xm_r 226 = none := by decide +kernel
theorem xml_226 : xm_l 226 = 5 := by decide +kernel
theorem xa_227 : xm_a 227 = 4 := by decide +kernel
theorem xr_227 : xm_r 227 = (some .int) := by decide +kernel
theorem xml_227 : xm_l 227 = 8 := by decide +kernel
theorem xa_228 : xm_a 228 = 2 := by decide +kernel
theorem xr_228 : xm_r 228 = (some .boolean) := by decide +kernel
theorem xml_228 : xm_l 228 = 2 := by decide +kernel
theorem xa_229 : xm_a 229 = 4 := by decide +kernel
theorem xr_229 : xm_r 229 = (some .int) := by decide +kernel
theorem xml_229 : xm_l 229 = 4 := by decide +kernel
theorem xa_230 : xm_a 230 = 4 := by decide +kernel
theorem xr_230 : xm_r 230 = (some .boolean) := by decide +kernel
theorem xml_230 : xm_l 230 = 4 := by decide +kernel
theorem xa_231 : xm_a 231 = 2 := by decide +kernel
theorem xr_231 : xm_r 231 = (some .boolean) := by decide +kernel
theorem xml_231 : xm_l 231 = 2 := by decide +kernel
theorem xa_232 : xm_a 232 = 3 := by decide +kernel
theorem xr_232 : xm_r 232 = (some .int) := by decide +kernel
theorem xml_232 : xm_l 232 = 5 := by decide +kernel
theorem xa_233 : xm_a 233 = 2 := by decide +kernel
theorem xr_233 : xm_r 233 = (some .int) := by decide +kernel
theorem xml_233 : xm_l 233 = 4 := by decide +kernel
theorem xa_234 : xm_a 234 = 2 := by decide +kernel
theorem xr_234 : xm_r 234 = (some .int) := by decide +kernel
theorem xml_234 : xm_l 234 = 2 := by decide +kernel
theorem xa_235 : xm_a 235 = 2 := by decide +kernel
theorem xr_235 : xm_r 235 = (some .boolean) := by decide +kernel
theorem xml_235 : xm_l 235 = 7 := by decide +kernel
theorem xa_236 : xm_a 236 = 2 := by decide +kernel
theorem xr_236 : xm_r 236 = (some .int) := by decide +kernel
theorem xml_236 : xm_l 236 = 9 := by decide +kernel
theorem xa_237 : xm_a 237 = 4 := by decide +kernel
theorem xr_237 : xm_r 237 = (some .int) := by decide +kernel
theorem xml_237 : xm_l 237 = 4 := by decide +kernel
theorem xa_238 : xm_a 238 = 2 := by decide +kernel
theorem xr_238 : xm_r 238 = (some .int) := by decide +kernel
theorem xml_238 : xm_l 238 = 5 := by decide +kernel
theorem xa_239 : xm_a 239 = 3 := by decide +kernel
theorem xr_239 : xm_r 239 = (some .int) := by decide +kernel
theorem xml_239 : xm_l 239 = 9 := by decide +kernel
theorem xa_240 : xm_a 240 = 4 := by decide +kernel
theorem xr_240 : xm_r 240 = (some .int) := by decide +kernel
theorem xml_240 : xm_l 240 = 4 := by decide +kernel
theorem xa_241 : xm_a 241 = 3 := by decide +kernel
theorem xr_241 : xm_r 241 = (some .int) := by decide +kernel
theorem xml_241 : xm_l 241 = 7 := by decide +kernel
theorem xa_242 : xm_a 242 = 2 := by decide +kernel
theorem xr_242 : xm_r 242 = (some .boolean) := by decide +kernel
theorem xml_242 : xm_l 242 = 3 := by decide +kernel
theorem xa_243 : xm_a 243 = 2 := by decide +kernel
theorem xr_243 : xm_r 243 = (some .boolean) := by decide +kernel
theorem xml_243 : xm_l 243 = 3 := by decide +kernel
theorem xa_244 : xm_a 244 = 2 := by decide +kernel
theorem xr_244 : xm_r 244 = (some .int) := by decide +kernel
theorem xml_244 : xm_l 244 = 2 := by decide +kernel
theorem xa_245 : xm_a 245 = 1 := by decide +kernel
theorem xr_245 : xm_r 245 = (some .boolean) := by decide +kernel
theorem xml_245 : xm_l 245 = 4 := by decide +kernel
theorem xcl_0 : xe_cls 0 = 11 := by decide +kernel
theorem xcl_1 : xe_cls 1 = 104 := by decide +kernel
theorem xln_1 : xt_len.getD 1 0 = 3 := by decide +kernel
theorem xcl_2 : xe_cls 2 = 9 := by decide +kernel
theorem xcl_3 : xe_cls 3 = 100 := by decide +kernel
theorem xln_3 : xt_len.getD 3 0 = 500 := by decide +kernel
theorem xcl_4 : xe_cls 4 = 7 := by decide +kernel
theorem xcl_5 : xe_cls 5 = 100 := by decide +kernel
theorem xln_5 : xt_len.getD 5 0 = 54 := by decide +kernel
theorem xcl_6 : xe_cls 6 = 100 := by decide +kernel
theorem xln_6 : xt_len.getD 6 0 = 7 := by decide +kernel
theorem xcl_7 : xe_cls 7 = 7 := by decide +kernel
theorem xcl_8 : xe_cls 8 = 100 := by decide +kernel
theorem xln_8 : xt_len.getD 8 0 = 54 := by decide +kernel
theorem xcl_9 : xe_cls 9 = 100 := by decide +kernel
theorem xln_9 : xt_len.getD 9 0 = 7 := by decide +kernel
theorem xcl_10 : xe_cls 10 = 10 := by decide +kernel
theorem xcl_11 : xe_cls 11 = 100 := by decide +kernel
theorem xln_11 : xt_len.getD 11 0 = 6 := by decide +kernel
theorem xcl_12 : xe_cls 12 = 100 := by decide +kernel
theorem xln_12 : xt_len.getD 12 0 = 6 := by decide +kernel
theorem xcl_13 : xe_cls 13 = 100 := by decide +kernel
theorem xln_13 : xt_len.getD 13 0 = 6 := by decide +kernel
theorem xcl_14 : xe_cls 14 = 100 := by decide +kernel
theorem xln_14 : xt_len.getD 14 0 = 6 := by decide +kernel
theorem xcl_15 : xe_cls 15 = 100 := by decide +kernel
theorem xln_15 : xt_len.getD 15 0 = 6 := by decide +kernel
theorem xcl_16 : xe_cls 16 = 100 := by decide +kernel
theorem xln_16 : xt_len.getD 16 0 = 6 := by decide +kernel
theorem xcl_17 : xe_cls 17 = 10 := by decide +kernel
theorem xcl_18 : xe_cls 18 = 100 := by decide +kernel
theorem xln_18 : xt_len.getD 18 0 = 6 := by decide +kernel
theorem xcl_19 : xe_cls 19 = 100 := by decide +kernel
theorem xln_19 : xt_len.getD 19 0 = 6 := by decide +kernel
theorem xcl_20 : xe_cls 20 = 100 := by decide +kernel
theorem xln_20 : xt_len.getD 20 0 = 6 := by decide +kernel
theorem xcl_21 : xe_cls 21 = 100 := by decide +kernel
theorem xln_21 : xt_len.getD 21 0 = 6 := by decide +kernel
theorem xcl_22 : xe_cls 22 = 100 := by decide +kernel
theorem xln_22 : xt_len.getD 22 0 = 6 := by decide +kernel
theorem xcl_23 : xe_cls 23 = 100 := by decide +kernel
theorem xln_23 : xt_len.getD 23 0 = 6 := by decide +kernel
theorem xcl_24 : xe_cls 24 = 10 := by decide +kernel
theorem xcl_25 : xe_cls 25 = 100 := by decide +kernel
theorem xln_25 : xt_len.getD 25 0 = 6 := by decide +kernel
theorem xcl_26 : xe_cls 26 = 100 := by decide +kernel
theorem xln_26 : xt_len.getD 26 0 = 6 := by decide +kernel
theorem xcl_27 : xe_cls 27 = 100 := by decide +kernel
theorem xln_27 : xt_len.getD 27 0 = 6 := by decide +kernel
theorem xcl_28 : xe_cls 28 = 100 := by decide +kernel
theorem xln_28 : xt_len.getD 28 0 = 6 := by decide +kernel
theorem xcl_29 : xe_cls 29 = 100 := by decide +kernel
theorem xln_29 : xt_len.getD 29 0 = 6 := by decide +kernel
theorem xcl_30 : xe_cls 30 = 100 := by decide +kernel
theorem xln_30 : xt_len.getD 30 0 = 6 := by decide +kernel
theorem xcl_31 : xe_cls 31 = 10 := by decide +kernel
theorem xcl_32 : xe_cls 32 = 100 := by decide +kernel
theorem xln_32 : xt_len.getD 32 0 = 6 := by decide +kernel
theorem xcl_33 : xe_cls 33 = 100 := by decide +kernel
theorem xln_33 : xt_len.getD 33 0 = 6 := by decide +kernel
theorem xcl_34 : xe_cls 34 = 100 := by decide +kernel
theorem xln_34 : xt_len.getD 34 0 = 6 := by decide +kernel
theorem xcl_35 : xe_cls 35 = 100 := by decide +kernel
theorem xln_35 : xt_len.getD 35 0 = 6 := by decide +kernel
theorem xcl_36 : xe_cls 36 = 100 := by decide +kernel
theorem xln_36 : xt_len.getD 36 0 = 6 := by decide +kernel
theorem xcl_37 : xe_cls 37 = 100 := by decide +kernel
theorem xln_37 : xt_len.getD 37 0 = 6 := by decide +kernel
theorem xcl_38 : xe_cls 38 = 4 := by decide +kernel
theorem xcl_39 : xe_cls 39 = 100 := by decide +kernel
theorem xln_39 : xt_len.getD 39 0 = 6 := by decide +kernel
theorem xcl_40 : xe_cls 40 = 100 := by decide +kernel
theorem xln_40 : xt_len.getD 40 0 = 6 := by decide +kernel
theorem xcl_41 : xe_cls 41 = 100 := by decide +kernel
theorem xln_41 : xt_len.getD 41 0 = 6 := by decide +kernel
theorem xcl_42 : xe_cls 42 = 100 := by decide +kernel
theorem xln_42 : xt_len.getD 42 0 = 6 := by decide +kernel
theorem xcl_43 : xe_cls 43 = 100 := by decide +kernel
theorem xln_43 : xt_len.getD 43 0 = 6 := by decide +kernel
theorem xcl_44 : xe_cls 44 = 100 := by decide +kernel
theorem xln_44 : xt_len.getD 44 0 = 6 := by decide +kernel
theorem xcl_45 : xe_cls 45 = 100 := by decide +kernel
theorem xln_45 : xt_len.getD 45 0 = 6 := by decide +kernel
theorem xcl_46 : xe_cls 46 = 100 := by decide +kernel
theorem xln_46 : xt_len.getD 46 0 = 861 := by decide +kernel
theorem xcl_47 : xe_cls 47 = 100 := by decide +kernel
theorem xln_47 : xt_len.getD 47 0 = 861 := by decide +kernel
theorem xcl_48 : xe_cls 48 = 2 := by decide +kernel
theorem xcl_49 : xe_cls 49 = 100 := by decide +kernel
theorem xln_49 : xt_len.getD 49 0 = 6 := by decide +kernel
theorem xcl_50 : xe_cls 50 = 100 := by decide +kernel
theorem xln_50 : xt_len.getD 50 0 = 6 := by decide +kernel
theorem xcl_51 : xe_cls 51 = 1 := by decide +kernel
theorem xcl_52 : xe_cls 52 = 100 := by decide +kernel
theorem xln_52 : xt_len.getD 52 0 = 6 := by decide +kernel
theorem xcl_53 : xe_cls 53 = 100 := by decide +kernel
theorem xln_53 : xt_len.getD 53 0 = 6 := by decide +kernel
theorem xcl_54 : xe_cls 54 = 100 := by decide +kernel
theorem xln_54 : xt_len.getD 54 0 = 6 := by decide +kernel
theorem xcl_55 : xe_cls 55 = 100 := by decide +kernel
theorem xln_55 : xt_len.getD 55 0 = 6 := by decide +kernel
theorem xcl_56 : xe_cls 56 = 100 := by decide +kernel
theorem xln_56 : xt_len.getD 56 0 = 6 := by decide +kernel
theorem xcl_57 : xe_cls 57 = 100 := by decide +kernel
theorem xln_57 : xt_len.getD 57 0 = 4 := by decide +kernel
theorem xcl_58 : xe_cls 58 = 100 := by decide +kernel
theorem xln_58 : xt_len.getD 58 0 = 6 := by decide +kernel
theorem xcl_59 : xe_cls 59 = 8 := by decide +kernel
theorem xcl_60 : xe_cls 60 = 100 := by decide +kernel
theorem xln_60 : xt_len.getD 60 0 = 20 := by decide +kernel
theorem xcl_61 : xe_cls 61 = 100 := by decide +kernel
theorem xln_61 : xt_len.getD 61 0 = 20 := by decide +kernel
theorem xcl_62 : xe_cls 62 = 101 := by decide +kernel
theorem xln_62 : xt_len.getD 62 0 = 21 := by decide +kernel
theorem xcl_63 : xe_cls 63 = 0 := by decide +kernel
theorem xcl_64 : xe_cls 64 = 100 := by decide +kernel
theorem xln_64 : xt_len.getD 64 0 = 5 := by decide +kernel
theorem xcl_65 : xe_cls 65 = 100 := by decide +kernel
theorem xln_65 : xt_len.getD 65 0 = 5 := by decide +kernel
theorem xcl_66 : xe_cls 66 = 100 := by decide +kernel
theorem xln_66 : xt_len.getD 66 0 = 5 := by decide +kernel
theorem xcl_67 : xe_cls 67 = 100 := by decide +kernel
theorem xln_67 : xt_len.getD 67 0 = 5 := by decide +kernel
theorem xcl_68 : xe_cls 68 = 100 := by decide +kernel
theorem xln_68 : xt_len.getD 68 0 = 5 := by decide +kernel
theorem xcl_69 : xe_cls 69 = 100 := by decide +kernel
theorem xln_69 : xt_len.getD 69 0 = 5 := by decide +kernel
theorem xcl_70 : xe_cls 70 = 100 := by decide +kernel
theorem xln_70 : xt_len.getD 70 0 = 5 := by decide +kernel
theorem xcl_71 : xe_cls 71 = 100 := by decide +kernel
theorem xln_71 : xt_len.getD 71 0 = 5 := by decide +kernel
theorem xcl_72 : xe_cls 72 = 100 := by decide +kernel
theorem xln_72 : xt_len.getD 72 0 = 100 := by decide +kernel
theorem xcl_73 : xe_cls 73 = 5 := by decide +kernel
theorem xcl_74 : xe_cls 74 = 100 := by decide +kernel
theorem xln_74 : xt_len.getD 74 0 = 6 := by decide +kernel
theorem xcl_75 : xe_cls 75 = 100 := by decide +kernel
theorem xln_75 : xt_len.getD 75 0 = 6 := by decide +kernel
theorem xcl_76 : xe_cls 76 = 100 := by decide +kernel
theorem xln_76 : xt_len.getD 76 0 = 6 := by decide +kernel
theorem xcl_77 : xe_cls 77 = 100 := by decide +kernel
theorem xln_77 : xt_len.getD 77 0 = 6 := by decide +kernel
theorem xcl_78 : xe_cls 78 = 6 := by decide +kernel
theorem xcl_79 : xe_cls 79 = 100 := by decide +kernel
theorem xln_79 : xt_len.getD 79 0 = 6 := by decide +kernel
theorem xcl_80 : xe_cls 80 = 3 := by decide +kernel
theorem xcl_81 : xe_cls 81 = 100 := by decide +kernel
theorem xln_81 : xt_len.getD 81 0 = 12 := by decide +kernel
theorem xcl_82 : xe_cls 82 = 100 := by decide +kernel
theorem xln_82 : xt_len.getD 82 0 = 12 := by decide +kernel
theorem xcl_83 : xe_cls 83 = 100 := by decide +kernel
theorem xln_83 : xt_len.getD 83 0 = 12 := by decide +kernel
theorem xcl_84 : xe_cls 84 = 12 := by decide +kernel
theorem xcl_85 : xe_cls 85 = 102 := by decide +kernel
theorem xln_85 : xt_len.getD 85 0 = 500 := by decide +kernel
theorem xcl_86 : xe_cls 86 = 100 := by decide +kernel
theorem xln_86 : xt_len.getD 86 0 = 16 := by decide +kernel
theorem xcl_87 : xe_cls 87 = 100 := by decide +kernel
theorem xln_87 : xt_len.getD 87 0 = 8 := by decide +kernel
theorem xcl_88 : xe_cls 88 = 100 := by decide +kernel
theorem xln_88 : xt_len.getD 88 0 = 12 := by decide +kernel
theorem xcl_89 : xe_cls 89 = 100 := by decide +kernel
theorem xln_89 : xt_len.getD 89 0 = 8 := by decide +kernel
theorem xcl_90 : xe_cls 90 = 100 := by decide +kernel
theorem xln_90 : xt_len.getD 90 0 = 6 := by decide +kernel
theorem xcl_91 : xe_cls 91 = 100 := by decide +kernel
theorem xln_91 : xt_len.getD 91 0 = 3 := by decide +kernel
theorem xcl_92 : xe_cls 92 = 100 := by decide +kernel
theorem xln_92 : xt_len.getD 92 0 = 16 := by decide +kernel
theorem xcl_93 : xe_cls 93 = 100 := by decide +kernel
theorem xln_93 : xt_len.getD 93 0 = 8 := by decide +kernel
theorem xcl_94 : xe_cls 94 = 100 := by decide +kernel
theorem xln_94 : xt_len.getD 94 0 = 12 := by decide +kernel
theorem xcl_95 : xe_cls 95 = 100 := by decide +kernel
theorem xln_95 : xt_len.getD 95 0 = 8 := by decide +kernel
theorem xcl_96 : xe_cls 96 = 100 := by decide +kernel
theorem xln_96 : xt_len.getD 96 0 = 6 := by decide +kernel
theorem xcl_97 : xe_cls 97 = 100 := by decide +kernel
theorem xln_97 : xt_len.getD 97 0 = 3 := by decide +kernel
theorem xcl_98 : xe_cls 98 = 100 := by decide +kernel
theorem xln_98 : xt_len.getD 98 0 = 36 := by decide +kernel
theorem xcl_99 : xe_cls 99 = 103 := by decide +kernel
theorem xln_99 : xt_len.getD 99 0 = 3 := by decide +kernel
theorem xcl_100 : xe_cls 100 = 100 := by decide +kernel
theorem xln_100 : xt_len.getD 100 0 = 3 := by decide +kernel
theorem xcl_101 : xe_cls 101 = 100 := by decide +kernel
theorem xln_101 : xt_len.getD 101 0 = 3 := by decide +kernel
theorem xcl_102 : xe_cls 102 = 100 := by decide +kernel
theorem xln_102 : xt_len.getD 102 0 = 3 := by decide +kernel
theorem xcl_103 : xe_cls 103 = 100 := by decide +kernel
theorem xln_103 : xt_len.getD 103 0 = 108 := by decide +kernel
theorem xcl_104 : xe_cls 104 = 100 := by decide +kernel
theorem xln_104 : xt_len.getD 104 0 = 24 := by decide +kernel
theorem xcl_105 : xe_cls 105 = 100 := by decide +kernel
theorem xln_105 : xt_len.getD 105 0 = 20 := by decide +kernel
theorem xcl_106 : xe_cls 106 = 100 := by decide +kernel
theorem xln_106 : xt_len.getD 106 0 = 20 := by decide +kernel
theorem xcl_107 : xe_cls 107 = 100 := by decide +kernel
theorem xln_107 : xt_len.getD 107 0 = 20 := by decide +kernel
theorem xcl_108 : xe_cls 108 = 100 := by decide +kernel
theorem xln_108 : xt_len.getD 108 0 = 5 := by decide +kernel
theorem xcl_109 : xe_cls 109 = 100 := by decide +kernel
theorem xln_109 : xt_len.getD 109 0 = 5 := by decide +kernel
theorem xcl_110 : xe_cls 110 = 100 := by decide +kernel
theorem xln_110 : xt_len.getD 110 0 = 18 := by decide +kernel
theorem xcl_111 : xe_cls 111 = 100 := by decide +kernel
theorem xln_111 : xt_len.getD 111 0 = 36 := by decide +kernel
theorem xcl_112 : xe_cls 112 = 100 := by decide +kernel
theorem xln_112 : xt_len.getD 112 0 = 6 := by decide +kernel
theorem xcl_113 : xe_cls 113 = 100 := by decide +kernel
theorem xln_113 : xt_len.getD 113 0 = 6 := by decide +kernel
theorem xcl_114 : xe_cls 114 = 100 := by decide +kernel
theorem xln_114 : xt_len.getD 114 0 = 4 := by decide +kernel
theorem xcl_115 : xe_cls 115 = 100 := by decide +kernel
theorem xln_115 : xt_len.getD 115 0 = 4 := by decide +kernel
theorem xcl_116 : xe_cls 116 = 100 := by decide +kernel
theorem xln_116 : xt_len.getD 116 0 = 6 := by decide +kernel
theorem xcl_117 : xe_cls 117 = 101 := by decide +kernel
theorem xln_117 : xt_len.getD 117 0 = 22 := by decide +kernel
theorem xcl_118 : xe_cls 118 = 100 := by decide +kernel
theorem xln_118 : xt_len.getD 118 0 = 1005 := by decide +kernel
theorem xcl_119 : xe_cls 119 = 100 := by decide +kernel
theorem xln_119 : xt_len.getD 119 0 = 6 := by decide +kernel
theorem xcl_120 : xe_cls 120 = 100 := by decide +kernel
theorem xln_120 : xt_len.getD 120 0 = 5 := by decide +kernel
theorem xcl_121 : xe_cls 121 = 100 := by decide +kernel
theorem xln_121 : xt_len.getD 121 0 = 6 := by decide +kernel
