/-! the class makes the draft its port -/
theorem allR_bd {bt : Nat → Nat} {n m i : Nat} {N T : Nat → Nat} (hi : i ≤ n) : -1 ≤ (allR bt n m N T i).1 ∧ (allR bt n m N T i).1 ≤ n := by
  have fin : ∀ N T, -1 ≤ (endA n N T).1 ∧ (endA n N T).1 ≤ n := by
    intro N T
    rw [show (endA n N T).1 = (if 0 < T 0 ∧ 0 < T 1 then -1 else (n : Int)) from rfl]
    split <;> omega
  induction m generalizing N T i with
  | zero => exact fin N T
  | succ m ih =>
    by_cases c : i < n
    · rw [show allR bt n (m + 1) N T i = (if (rowR bt n N T i).1 = true then allR bt n m (rowR bt n N T i).2.1 (rowR bt n N T i).2.2.1 (runE isBl bt n (n - (rowR bt n N T i).2.2.2) (rowR bt n N T i).2.2.2) else (((rowR bt n N T i).2.2.2 : Nat), (rowR bt n N T i).2.1, (rowR bt n N T i).2.2.1)) from if_pos c]
      have hr := rowR_le (bt := bt) (N := N) (T := T) hi
      by_cases ok : (rowR bt n N T i).1 = true
      · rw [if_pos ok]
        obtain ⟨g1, g2, -, -⟩ := runE_bd (P := isBl) (bt := bt) (n := n) (n - (rowR bt n N T i).2.2.2) (rowR bt n N T i).2.2.2 (by omega)
        exact ih g2
      · rw [if_neg ok]
        show -1 ≤ (((rowR bt n N T i).2.2.2 : Nat) : Int) ∧ (((rowR bt n N T i).2.2.2 : Nat) : Int) ≤ n
        omega
    · rw [show allR bt n (m + 1) N T i = endA n N T from if_neg c]
      exact fin N T
theorem readA_m1 {bt : Nat → Nat} {n : Nat} (hn : n ≤ 500) : (iI (readA bt n).1 = -1) = ((readA bt n).1 = -1) := by
  obtain ⟨g1, g2, -, -⟩ := runE_bd (P := isBl) (bt := bt) (n := n) n 0 (by omega)
  obtain ⟨b1, b2⟩ := allR_bd (bt := bt) (n := n) (m := 500) (N := fun _ => 0) (T := fun _ => 0) g2
  have b1' : -1 ≤ (readA bt n).1 := b1
  have b2' : (readA bt n).1 ≤ n := b2
  apply propext
  constructor
  · intro q
    have : (iI (readA bt n).1).toInt = (-1 : Int32).toInt := by rw [q]
    rw [iI_ti (by omega) (by omega)] at this
    exact this
  · intro q; rw [q]; rfl
def zed (c j : Nat) : Prop := (c = 2 ∧ j = 1) ∨ (c = 10 ∧ (j = 0 ∨ j = 3)) ∨ ((c = 17 ∨ c = 24 ∨ c = 31 ∨ c = 51 ∨ c = 59 ∨ c = 63 ∨ c = 73 ∨ c = 80) ∧ j = 0)
theorem Xport {p q : Nat} {σ : xM} {n : Nat} {bt : Nat → Nat} {Q : Int32 → xM → Prop} (hp : (q = 4 ∧ p = 7) ∨ (q = 7 ∧ p = 4)) (eq : σ.2.2 1 = q) (ep : σ.2.2 2 = p) (h : txt σ n bt) (hQ0 : ∀ τ, ¬ (readA bt n).1 = -1 → frH p σ τ → Q (-1) τ) (hQ1 : ∀ τ, (readA bt n).1 = -1 → (∀ c j, c ≠ p + 1 → c ≠ p + 2 → ¬ (c = 2 ∧ j = 2) → ¬ zed c j → τ.1 c j = σ.1 c j) → (∀ c j, zed c j → τ.1 c j = 0) → τ.2.2 1 = p → τ.2.2 2 = q → drT τ p (readA bt n).2.1 (readA bt n).2.2 → Q (nI ((readA bt n).2.2 0)) τ) : xI1 112 [.ref 0] σ Q := by
  have hn := h.1
  have em := readA_m1 (bt := bt) hn
  have hp47 : p = 4 ∨ p = 7 := by omega
  have im0 : ∀ (σ : xM) (Q : Value → xM → Prop), xA1 148 [.ref 0, .int 0] σ Q = Q (.ref 17) σ := fun σ Q => imageAt_in (k := 0) (by decide)
  have im1 : ∀ (σ : xM) (Q : Value → xM → Prop), xA1 148 [.ref 0, .int 1] σ Q = Q (.ref 24) σ := fun σ Q => imageAt_in (k := 1) (by decide)
  have im2 : ∀ (σ : xM) (Q : Value → xM → Prop), xA1 148 [.ref 0, .int 2] σ Q = Q (.ref 31) σ := fun σ Q => imageAt_in (k := 2) (by decide)
  have k0 : ((3 : Int32) ≤ 0) = False := eq_false (by decide)
  have k1 : ((3 : Int32) ≤ 1) = False := eq_false (by decide)
  have k2 : ((3 : Int32) ≤ 2) = False := eq_false (by decide)
  have a1 : (0 : Int32) + 1 = 1 := by decide
  have a2 : (1 : Int32) + 1 = 2 := by decide
  have a3 : (2 : Int32) + 1 = 3 := by decide
  rw [e112]
  simp only [s112_0, s112_0_n, s112_1, s112_4, s112_4_n, s112_5, s112_8, xcx_i, xcx_r, xcx_n, xcx_l, xcx_0, ep]
  refine XreadInto hp47 h (fun τ hr hd => ?_)
  have r1 : τ.2.2 1 = q := by rw [hr.2]; exact eq
  have r2 : τ.2.2 2 = p := by rw [hr.2]; exact ep
  by_cases c : (readA bt n).1 = -1
  · have c' : ((readA bt n).1 = -1) = True := eq_true c
    have hd' := hd c
    rcases hp with ⟨rfl, rfl⟩ | ⟨rfl, rfl⟩
    · have told : ∀ κ : xM, κ.1 9 0 = τ.1 9 0 → xat κ 9 0 = nI ((readA bt n).2.2 0) := by
        intro κ hκ
        have e1 : xat κ 9 (nI 0) = κ.1 9 0 := xat_n (by rw [xln_9]; decide)
        exact (e1.trans hκ).trans (hd'.2 0 (by decide)).1
      have fin : Q (nI ((readA bt n).2.2 0)) (xe_si (xe_si (xe_si (xe_si (xe_si (xe_si (xe_si (xe_si (xe_si (xe_si (xe_si (xe_sp (xe_sp τ 1 7) 2 4) 2 1 0) 10 0 0) 10 3 0) 17 0 0) 24 0 0) 31 0 0) 51 0 0) 59 0 0) 63 0 0) 73 0 0) 80 0 0) := by
        have hk : ∀ c j, ¬ zed c j → (xe_si (xe_si (xe_si (xe_si (xe_si (xe_si (xe_si (xe_si (xe_si (xe_si (xe_si (xe_sp (xe_sp τ 1 7) 2 4) 2 1 0) 10 0 0) 10 3 0) 17 0 0) 24 0 0) 31 0 0) 51 0 0) 59 0 0) 63 0 0) 73 0 0) 80 0 0).1 c j = τ.1 c j := by
          intro c j z
          unfold zed at z
          rw [si_rd, if_neg (by omega), si_rd, if_neg (by omega), si_rd, if_neg (by omega), si_rd, if_neg (by omega), si_rd, if_neg (by omega), si_rd, if_neg (by omega), si_rd, if_neg (by omega), si_rd, if_neg (by omega), si_rd, if_neg (by omega), si_rd, if_neg (by omega), si_rd, if_neg (by omega)]
          rfl
        refine hQ1 _ c (fun c j q1 q2 q3 q4 => (hk c j q4).trans (hr.1 c j q1 q2 q3)) (fun c j z => ?_) rfl rfl ⟨fun j hj => ?_, fun k hk' => ?_⟩
        · unfold zed at z
          rcases z with ⟨rfl, rfl⟩ | ⟨rfl, rfl | rfl⟩ | ⟨rfl | rfl | rfl | rfl | rfl | rfl | rfl | rfl, rfl⟩ <;> rfl
        · rw [hk _ j (by unfold zed; omega)]; exact hd'.1 j hj
        · rw [hk _ k (by unfold zed; omega)]; exact hd'.2 k hk'
      have tz := told (xe_si (xe_si (xe_si (xe_si (xe_si (xe_si (xe_si (xe_si (xe_si (xe_si (xe_si (xe_sp (xe_sp τ 1 7) 2 4) 2 1 0) 10 0 0) 10 3 0) 17 0 0) 24 0 0) 31 0 0) 51 0 0) 59 0 0) 63 0 0) 73 0 0) 80 0 0) rfl
      simp only [s112_11, s112_12, s112_15, s112_16, s112_17, s112_17_n, s112_18, s112_21, s112_21_n, s112_22, s112_22_n, s112_23, s112_23_n, s112_24, s112_27, s112_30, s112_30_n, s112_31, s112_31_n, s112_32, s112_35, s112_35_n, s112_36, s112_39, s112_40, s112_43, s112_43_n, s112_44, s112_47, s112_48_10, s112_48_17, s112_48_24, s112_48_31, s112_51, s112_51_n, s112_52, s112_55, s112_56_10, s112_56_17, s112_56_24, s112_56_31, s112_59, s112_60, xcx_i, xcx_r, xcx_n, xcx_l, xcx_0, em, c', if_true, r1, r2, sp_rd, Nat.reduceEqDiff, if_false, true_or, or_true, true_and]
      rw [s112_61]
      simp only [s112_62, s112_63, s112_66, s112_66_n, s112_67, s112_68, s112_71, s112_71_n, s112_72, s112_72_n, s112_73, s112_73_n, s112_76, s112_76_n, s112_77, s112_78_10, s112_78_17, s112_78_24, s112_78_31, s112_81, s112_84, xcx_i, xcx_r, xcx_n, xcx_l, xcx_0, k0, if_false, im0, a1, true_or, or_true, true_and]
      rw [s112_61]
      simp only [s112_62, s112_63, s112_66, s112_66_n, s112_67, s112_68, s112_71, s112_71_n, s112_72, s112_72_n, s112_73, s112_73_n, s112_76, s112_76_n, s112_77, s112_78_10, s112_78_17, s112_78_24, s112_78_31, s112_81, s112_84, xcx_i, xcx_r, xcx_n, xcx_l, xcx_0, k1, if_false, im1, a2, true_or, or_true, true_and]
      rw [s112_61]
      simp only [s112_62, s112_63, s112_66, s112_66_n, s112_67, s112_68, s112_71, s112_71_n, s112_72, s112_72_n, s112_73, s112_73_n, s112_76, s112_76_n, s112_77, s112_78_10, s112_78_17, s112_78_24, s112_78_31, s112_81, s112_84, xcx_i, xcx_r, xcx_n, xcx_l, xcx_0, k2, if_false, im2, a3, true_or, or_true, true_and]
      rw [s112_61]
      simp only [s112_62, s112_63, s112_66, s112_66_n, s112_67, s112_68, s112_71, s112_71_n, s112_72, s112_72_n, s112_73, s112_73_n, s112_76, s112_76_n, s112_77, s112_78_10, s112_78_17, s112_78_24, s112_78_31, s112_81, s112_84, s112_87, s112_87_n, s112_88, s112_91, s112_92, s112_95, s112_95_n, s112_96, s112_99, s112_100, s112_103, s112_103_n, s112_104, s112_107, s112_108, s112_111, s112_111_n, s112_112, s112_115, s112_116, s112_119, s112_119_n, s112_120, s112_123, s112_124, s112_127, s112_127_n, s112_128, s112_131, s112_132_4, s112_132_7, s112_135, xcx_i, xcx_r, xcx_n, xcx_l, xcx_0, Int32.le_refl, if_true, si_p, sp_rd, Nat.reduceEqDiff, if_false, toldOf_eq (Or.inr rfl), tz, true_or, or_true, true_and]
      exact fin
    · have told : ∀ κ : xM, κ.1 6 0 = τ.1 6 0 → xat κ 6 0 = nI ((readA bt n).2.2 0) := by
        intro κ hκ
        have e1 : xat κ 6 (nI 0) = κ.1 6 0 := xat_n (by rw [xln_6]; decide)
        exact (e1.trans hκ).trans (hd'.2 0 (by decide)).1
      have fin : Q (nI ((readA bt n).2.2 0)) (xe_si (xe_si (xe_si (xe_si (xe_si (xe_si (xe_si (xe_si (xe_si (xe_si (xe_si (xe_sp (xe_sp τ 1 4) 2 7) 2 1 0) 10 0 0) 10 3 0) 17 0 0) 24 0 0) 31 0 0) 51 0 0) 59 0 0) 63 0 0) 73 0 0) 80 0 0) := by
        have hk : ∀ c j, ¬ zed c j → (xe_si (xe_si (xe_si (xe_si (xe_si (xe_si (xe_si (xe_si (xe_si (xe_si (xe_si (xe_sp (xe_sp τ 1 4) 2 7) 2 1 0) 10 0 0) 10 3 0) 17 0 0) 24 0 0) 31 0 0) 51 0 0) 59 0 0) 63 0 0) 73 0 0) 80 0 0).1 c j = τ.1 c j := by
          intro c j z
          unfold zed at z
          rw [si_rd, if_neg (by omega), si_rd, if_neg (by omega), si_rd, if_neg (by omega), si_rd, if_neg (by omega), si_rd, if_neg (by omega), si_rd, if_neg (by omega), si_rd, if_neg (by omega), si_rd, if_neg (by omega), si_rd, if_neg (by omega), si_rd, if_neg (by omega), si_rd, if_neg (by omega)]
          rfl
        refine hQ1 _ c (fun c j q1 q2 q3 q4 => (hk c j q4).trans (hr.1 c j q1 q2 q3)) (fun c j z => ?_) rfl rfl ⟨fun j hj => ?_, fun k hk' => ?_⟩
        · unfold zed at z
          rcases z with ⟨rfl, rfl⟩ | ⟨rfl, rfl | rfl⟩ | ⟨rfl | rfl | rfl | rfl | rfl | rfl | rfl | rfl, rfl⟩ <;> rfl
        · rw [hk _ j (by unfold zed; omega)]; exact hd'.1 j hj
        · rw [hk _ k (by unfold zed; omega)]; exact hd'.2 k hk'
      have tz := told (xe_si (xe_si (xe_si (xe_si (xe_si (xe_si (xe_si (xe_si (xe_si (xe_si (xe_si (xe_sp (xe_sp τ 1 4) 2 7) 2 1 0) 10 0 0) 10 3 0) 17 0 0) 24 0 0) 31 0 0) 51 0 0) 59 0 0) 63 0 0) 73 0 0) 80 0 0) rfl
      simp only [s112_11, s112_12, s112_15, s112_16, s112_17, s112_17_n, s112_18, s112_21, s112_21_n, s112_22, s112_22_n, s112_23, s112_23_n, s112_24, s112_27, s112_30, s112_30_n, s112_31, s112_31_n, s112_32, s112_35, s112_35_n, s112_36, s112_39, s112_40, s112_43, s112_43_n, s112_44, s112_47, s112_48_10, s112_48_17, s112_48_24, s112_48_31, s112_51, s112_51_n, s112_52, s112_55, s112_56_10, s112_56_17, s112_56_24, s112_56_31, s112_59, s112_60, xcx_i, xcx_r, xcx_n, xcx_l, xcx_0, em, c', if_true, r1, r2, sp_rd, Nat.reduceEqDiff, if_false, true_or, or_true, true_and]
      rw [s112_61]
      simp only [s112_62, s112_63, s112_66, s112_66_n, s112_67, s112_68, s112_71, s112_71_n, s112_72, s112_72_n, s112_73, s112_73_n, s112_76, s112_76_n, s112_77, s112_78_10, s112_78_17, s112_78_24, s112_78_31, s112_81, s112_84, xcx_i, xcx_r, xcx_n, xcx_l, xcx_0, k0, if_false, im0, a1, true_or, or_true, true_and]
      rw [s112_61]
      simp only [s112_62, s112_63, s112_66, s112_66_n, s112_67, s112_68, s112_71, s112_71_n, s112_72, s112_72_n, s112_73, s112_73_n, s112_76, s112_76_n, s112_77, s112_78_10, s112_78_17, s112_78_24, s112_78_31, s112_81, s112_84, xcx_i, xcx_r, xcx_n, xcx_l, xcx_0, k1, if_false, im1, a2, true_or, or_true, true_and]
      rw [s112_61]
      simp only [s112_62, s112_63, s112_66, s112_66_n, s112_67, s112_68, s112_71, s112_71_n, s112_72, s112_72_n, s112_73, s112_73_n, s112_76, s112_76_n, s112_77, s112_78_10, s112_78_17, s112_78_24, s112_78_31, s112_81, s112_84, xcx_i, xcx_r, xcx_n, xcx_l, xcx_0, k2, if_false, im2, a3, true_or, or_true, true_and]
      rw [s112_61]
      simp only [s112_62, s112_63, s112_66, s112_66_n, s112_67, s112_68, s112_71, s112_71_n, s112_72, s112_72_n, s112_73, s112_73_n, s112_76, s112_76_n, s112_77, s112_78_10, s112_78_17, s112_78_24, s112_78_31, s112_81, s112_84, s112_87, s112_87_n, s112_88, s112_91, s112_92, s112_95, s112_95_n, s112_96, s112_99, s112_100, s112_103, s112_103_n, s112_104, s112_107, s112_108, s112_111, s112_111_n, s112_112, s112_115, s112_116, s112_119, s112_119_n, s112_120, s112_123, s112_124, s112_127, s112_127_n, s112_128, s112_131, s112_132_4, s112_132_7, s112_135, xcx_i, xcx_r, xcx_n, xcx_l, xcx_0, Int32.le_refl, if_true, si_p, sp_rd, Nat.reduceEqDiff, if_false, toldOf_eq (Or.inl rfl), tz, true_or, or_true, true_and]
      exact fin
  · have c' : ((readA bt n).1 = -1) = False := eq_false c
    have hq := hQ0 τ c hr
    simp only [s112_11, s112_12, s112_15, s112_16, xcx_i, xcx_r, xcx_n, xcx_l, xcx_0, em, c', if_false]
    exact hq
