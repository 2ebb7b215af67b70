/-! the draft: what it tells; may a number be told -/
theorem r68_46 {p : Nat} (hp : p = 4 ∨ p = 7) {l0 l1 l2 l3 l4 : Option Value} {x1 : Int32} {σ : xM} {Q : Option Value → xM → Prop} : xC 68 46 [l0, l1, l2, l3, l4] [.int x1, .ref p] σ Q = xI1 69 [.ref p, .int x1] σ (fun r σ' => xC 68 49 [l0, l1, l2, l3, l4] [.int r] σ' Q) := by
  rcases hp with rfl | rfl
  · exact s68_46_4
  · exact s68_46_7
def drT (σ : xM) (p : Nat) (N T : Nat → Nat) : Prop := (∀ j, j < 54 → σ.1 (p + 1) j = nI (N j) ∧ N j ≤ 10000) ∧ ∀ k, k < 7 → σ.1 (p + 2) k = nI (T k) ∧ T k ≤ mxT k
theorem lm_all : ∀ k : Nat, k < 7 → ∀ f : Nat, f < 6 → f < ptN k → tab 4 (tab 3 (nI k) + nI f) = nI (lmL k f) ∧ tab 5 (tab 3 (nI k) + nI f) = nI (lmH k f) ∧ lmL k f ≤ 999 ∧ lmH k f ≤ 999 := by decide +kernel
theorem mx_all : ∀ k : Nat, k < 7 → tab 0 (nI k) = nI (mxT k) ∧ mxT k ≤ 8 ∧ ptN k ≤ 6 := by decide +kernel
theorem XmayTell {p : Nat} {σ : xM} {k f : Nat} {v : Int} {N T : Nat → Nat} {Q : Int32 → xM → Prop} (hp : p = 4 ∨ p = 7) (hd : drT σ p N T) (hk : k < 7) (hf : f < ptN k) (hT : T k < mxT k) (hv : -1 ≤ v ∧ v ≤ 10000) (hQ1 : mayP k f v N T → Q 1 σ) (hQ0 : ¬ mayP k f v N T → Q 0 σ) : xI1 68 [.ref p, .int (nI k), .int (nI f), .int (iI v)] σ Q := by
  have hm6 := (mx_all k hk).2.2
  obtain ⟨l4, l5, b4, b5⟩ := lm_all k hk f (by omega) hf
  have w1 : (nI (lmL k f) ≤ iI v) = ((lmL k f : Int) ≤ v) := by
    rw [nI_iI]; exact propext (iI_le (by omega) (by omega) (by omega) (by omega))
  have w2 : (iI v ≤ nI (lmH k f)) = (v ≤ (lmH k f : Int)) := by
    rw [nI_iI]; exact propext (iI_le (by omega) (by omega) (by omega) (by omega))
  have ew : (nI (lmL k f) ≤ iI v ∧ iI v ≤ nI (lmH k f)) = ((lmL k f : Int) ≤ v ∧ v ≤ (lmH k f : Int)) := by rw [w1, w2]
  have ek0 : (nI k = 0) = (k = 0) := nI_eqL (b := 0) (by omega) (by decide)
  have ek2 : (nI k = 2) = (k = 2) := nI_eqL (b := 2) (by omega) (by decide)
  have ef0 : (nI f = 0) = (f = 0) := nI_eqL (b := 0) (by omega) (by decide)
  have ef1 : (nI f = 1) = (f = 1) := nI_eqL (b := 1) (by omega) (by decide)
  rw [e68]
  by_cases c : (lmL k f : Int) ≤ v ∧ v ≤ (lmH k f : Int)
  · have c' : nI (lmL k f) ≤ iI v ∧ iI v ≤ nI (lmH k f) := by rw [ew]; exact c
    by_cases c0 : k = 0 ∧ f = 0
    · obtain ⟨rfl, rfl⟩ := c0
      obtain ⟨t1, t2⟩ := hd.2 0 (by decide)
      have ev : iI v = nI v.toNat := by rw [nI_iI, Int.toNat_of_nonneg (by have := c.1; omega)]
      have el : ∀ i, i < T 0 → (σ.1 (p + 1) (2 * i) = iI v) = ((N (2 * i) : Int) = v) := by
        intro i hi
        have h8 : T 0 ≤ 8 := t2
        obtain ⟨n1, n2⟩ := hd.1 (2 * i) (by omega)
        rw [n1, nI_iI]
        exact propext (iI_eq (by omega) (by omega) (by omega) (by omega))
      simp only [s68_0, s68_3, s68_4, s68_7, s68_8, s68_9, s68_11, s68_12, s68_15, s68_17, s68_20, s68_23, s68_25, s68_28, s68_31, s68_34, s68_35, s68_36, s68_37, s68_40, s68_41, s68_44, s68_45, xcx_i, xcx_r, xcx_n, xcx_l, xcx_0, r68_46 hp, at_t3, at_t4, at_t5, l4, l5, within_eq, if_pos c', xb_f, ite_not, if_true, ek0, ef0, not_true, if_false, true_or, or_true, true_and]
      refine XhasStoneAt hp t1 t2 (fun hex => ?_) (fun hn => ?_)
      · obtain ⟨i, hi, he⟩ := hex
        have hq := hQ0 (fun z => z.2.1 ⟨rfl, rfl⟩ i hi (by rw [← el i hi]; exact he))
        simp only [s68_49, s68_52, s68_53, s68_56, s68_57, xcx_i, xcx_r, xcx_n, xcx_l, xcx_0, show ((1 : Int32) = 0) = False from eq_false (by decide), not_false_eq_true, if_true, true_or, or_true, true_and]
        exact hq
      · have hq := hQ1 ⟨c, fun _ i hi => by rw [← el i hi]; exact hn i hi, fun z => absurd z.1 (by decide)⟩
        simp only [s68_49, s68_52, s68_53, s68_56, s68_57, xcx_i, xcx_r, xcx_n, xcx_l, xcx_0, not_true, if_false, true_or, or_true, true_and]
        exact hq
    · by_cases c2 : k = 2 ∧ f = 1
      · obtain ⟨rfl, rfl⟩ := c2
        obtain ⟨t1, t2⟩ := hd.2 2 (by decide)
        have t4 : T 2 ≤ 4 := t2
        have hT4 : T 2 < 4 := hT
        obtain ⟨n1, n2⟩ := hd.1 (24 + 3 * T 2) (by omega)
        have ea : (24 : Int32) + 3 * nI (T 2) = nI (24 + 3 * T 2) := by rw [ml_3, show (24 : Int32) = nI 24 from rfl, nI_add]
        have ex2 : xat σ (p + 2) 2 = nI (T 2) := by
          refine Eq.trans ?_ t1
          rcases hp with rfl | rfl
          · exact xat_n (i := 2) (by rw [xln_6]; decide)
          · exact xat_n (i := 2) (by rw [xln_9]; decide)
        have ey : xat σ (p + 1) (24 + 3 * nI (T 2)) = nI (N (24 + 3 * T 2)) := by
          rw [ea]
          refine Eq.trans ?_ n1
          rcases hp with rfl | rfl
          · exact xat_n (by rw [xln_5]; omega)
          · exact xat_n (by rw [xln_8]; omega)
        have el : (iI v ≤ nI (N (24 + 3 * T 2))) = (v ≤ (N (24 + 3 * T 2) : Int)) := by
          rw [nI_iI]; exact propext (iI_le (by omega) (by omega) (by omega) (by omega))
        have k0 : ((2 : Nat) = 0) = False := eq_false (by decide)
        by_cases cv : v ≤ (N (24 + 3 * T 2) : Int)
        · have hq := hQ0 (fun z => by have := z.2.2 ⟨rfl, rfl⟩; omega)
          have cv' : (v ≤ (N (24 + 3 * T 2) : Int)) = True := eq_true cv
          rcases hp with rfl | rfl
          · simp only [s68_0, s68_3, s68_4, s68_7, s68_8, s68_9, s68_11, s68_12, s68_15, s68_17, s68_20, s68_23, s68_25, s68_28, s68_31, s68_34, s68_35, s68_36, s68_37, s68_40, s68_41, s68_44, s68_45, s68_46_4, s68_46_7, s68_49, s68_52, s68_53, s68_56, s68_57, s68_58, s68_59, s68_60, s68_63, s68_64, s68_65, s68_68, s68_69, s68_70_4, s68_70_7, s68_73, s68_76, s68_77, s68_80, s68_81, s68_82, s68_83_4, s68_83_7, s68_86, s68_87, s68_88, s68_91, s68_94, s68_95, s68_98, s68_99, s68_100, s68_101, xcx_i, xcx_r, xcx_n, xcx_l, xcx_0, at_t3, at_t4, at_t5, l4, l5, within_eq, if_pos c', xb_f, ite_not, if_true, ek0, ek2, ef0, ef1, k0, not_true, not_false_eq_true, if_false, at_t2, tab2_2, at_eq, xcl_5, toldOf_eq (Or.inl rfl), ex2, ey, el, cv', true_or, or_true, true_and]
            exact hq
          · simp only [s68_0, s68_3, s68_4, s68_7, s68_8, s68_9, s68_11, s68_12, s68_15, s68_17, s68_20, s68_23, s68_25, s68_28, s68_31, s68_34, s68_35, s68_36, s68_37, s68_40, s68_41, s68_44, s68_45, s68_46_4, s68_46_7, s68_49, s68_52, s68_53, s68_56, s68_57, s68_58, s68_59, s68_60, s68_63, s68_64, s68_65, s68_68, s68_69, s68_70_4, s68_70_7, s68_73, s68_76, s68_77, s68_80, s68_81, s68_82, s68_83_4, s68_83_7, s68_86, s68_87, s68_88, s68_91, s68_94, s68_95, s68_98, s68_99, s68_100, s68_101, xcx_i, xcx_r, xcx_n, xcx_l, xcx_0, at_t3, at_t4, at_t5, l4, l5, within_eq, if_pos c', xb_f, ite_not, if_true, ek0, ek2, ef0, ef1, k0, not_true, not_false_eq_true, if_false, at_t2, tab2_2, at_eq, xcl_8, toldOf_eq (Or.inr rfl), ex2, ey, el, cv', true_or, or_true, true_and]
            exact hq
        · have hq := hQ1 ⟨c, fun z => absurd z.1 (by decide), fun _ => by omega⟩
          have cv' : (v ≤ (N (24 + 3 * T 2) : Int)) = False := eq_false cv
          rcases hp with rfl | rfl
          · simp only [s68_0, s68_3, s68_4, s68_7, s68_8, s68_9, s68_11, s68_12, s68_15, s68_17, s68_20, s68_23, s68_25, s68_28, s68_31, s68_34, s68_35, s68_36, s68_37, s68_40, s68_41, s68_44, s68_45, s68_46_4, s68_46_7, s68_49, s68_52, s68_53, s68_56, s68_57, s68_58, s68_59, s68_60, s68_63, s68_64, s68_65, s68_68, s68_69, s68_70_4, s68_70_7, s68_73, s68_76, s68_77, s68_80, s68_81, s68_82, s68_83_4, s68_83_7, s68_86, s68_87, s68_88, s68_91, s68_94, s68_95, s68_98, s68_99, s68_100, s68_101, xcx_i, xcx_r, xcx_n, xcx_l, xcx_0, at_t3, at_t4, at_t5, l4, l5, within_eq, if_pos c', xb_f, ite_not, if_true, ek0, ek2, ef0, ef1, k0, not_true, not_false_eq_true, if_false, at_t2, tab2_2, at_eq, xcl_5, toldOf_eq (Or.inl rfl), ex2, ey, el, cv', true_or, or_true, true_and]
            exact hq
          · simp only [s68_0, s68_3, s68_4, s68_7, s68_8, s68_9, s68_11, s68_12, s68_15, s68_17, s68_20, s68_23, s68_25, s68_28, s68_31, s68_34, s68_35, s68_36, s68_37, s68_40, s68_41, s68_44, s68_45, s68_46_4, s68_46_7, s68_49, s68_52, s68_53, s68_56, s68_57, s68_58, s68_59, s68_60, s68_63, s68_64, s68_65, s68_68, s68_69, s68_70_4, s68_70_7, s68_73, s68_76, s68_77, s68_80, s68_81, s68_82, s68_83_4, s68_83_7, s68_86, s68_87, s68_88, s68_91, s68_94, s68_95, s68_98, s68_99, s68_100, s68_101, xcx_i, xcx_r, xcx_n, xcx_l, xcx_0, at_t3, at_t4, at_t5, l4, l5, within_eq, if_pos c', xb_f, ite_not, if_true, ek0, ek2, ef0, ef1, k0, not_true, not_false_eq_true, if_false, at_t2, tab2_2, at_eq, xcl_8, toldOf_eq (Or.inr rfl), ex2, ey, el, cv', true_or, or_true, true_and]
            exact hq
      · have hq := hQ1 ⟨c, fun z => absurd z c0, fun z => absurd z c2⟩
        by_cases k0 : k = 0
        · have f0 : (f = 0) = False := eq_false (fun z => c0 ⟨k0, z⟩)
          have k2 : (k = 2) = False := eq_false (by omega)
          have k0' : (k = 0) = True := eq_true k0
          simp only [s68_0, s68_3, s68_4, s68_7, s68_8, s68_9, s68_11, s68_12, s68_15, s68_17, s68_20, s68_23, s68_25, s68_28, s68_31, s68_34, s68_35, s68_36, s68_37, s68_40, s68_41, s68_44, s68_45, s68_46_4, s68_46_7, s68_49, s68_52, s68_53, s68_56, s68_57, s68_58, s68_59, s68_60, s68_63, s68_64, s68_65, s68_68, s68_69, s68_70_4, s68_70_7, s68_73, s68_76, s68_77, s68_80, s68_81, s68_82, s68_83_4, s68_83_7, s68_86, s68_87, s68_88, s68_91, s68_94, s68_95, s68_98, s68_99, s68_100, s68_101, xcx_i, xcx_r, xcx_n, xcx_l, xcx_0, at_t3, at_t4, at_t5, l4, l5, within_eq, if_pos c', xb_f, ite_not, if_true, ek0, ek2, ef0, ef1, k0', k2, f0, not_true, not_false_eq_true, if_false, true_or, or_true, true_and]
          exact hq
        · have k0' : (k = 0) = False := eq_false k0
          by_cases k2 : k = 2
          · have f1 : (f = 1) = False := eq_false (fun z => c2 ⟨k2, z⟩)
            have k2' : (k = 2) = True := eq_true k2
            simp only [s68_0, s68_3, s68_4, s68_7, s68_8, s68_9, s68_11, s68_12, s68_15, s68_17, s68_20, s68_23, s68_25, s68_28, s68_31, s68_34, s68_35, s68_36, s68_37, s68_40, s68_41, s68_44, s68_45, s68_46_4, s68_46_7, s68_49, s68_52, s68_53, s68_56, s68_57, s68_58, s68_59, s68_60, s68_63, s68_64, s68_65, s68_68, s68_69, s68_70_4, s68_70_7, s68_73, s68_76, s68_77, s68_80, s68_81, s68_82, s68_83_4, s68_83_7, s68_86, s68_87, s68_88, s68_91, s68_94, s68_95, s68_98, s68_99, s68_100, s68_101, xcx_i, xcx_r, xcx_n, xcx_l, xcx_0, at_t3, at_t4, at_t5, l4, l5, within_eq, if_pos c', xb_f, ite_not, if_true, ek0, ek2, ef0, ef1, k0', k2', f1, not_true, not_false_eq_true, if_false, true_or, or_true, true_and]
            exact hq
          · have k2' : (k = 2) = False := eq_false k2
            simp only [s68_0, s68_3, s68_4, s68_7, s68_8, s68_9, s68_11, s68_12, s68_15, s68_17, s68_20, s68_23, s68_25, s68_28, s68_31, s68_34, s68_35, s68_36, s68_37, s68_40, s68_41, s68_44, s68_45, s68_46_4, s68_46_7, s68_49, s68_52, s68_53, s68_56, s68_57, s68_58, s68_59, s68_60, s68_63, s68_64, s68_65, s68_68, s68_69, s68_70_4, s68_70_7, s68_73, s68_76, s68_77, s68_80, s68_81, s68_82, s68_83_4, s68_83_7, s68_86, s68_87, s68_88, s68_91, s68_94, s68_95, s68_98, s68_99, s68_100, s68_101, xcx_i, xcx_r, xcx_n, xcx_l, xcx_0, at_t3, at_t4, at_t5, l4, l5, within_eq, if_pos c', xb_f, ite_not, if_true, ek0, ek2, ef0, ef1, k0', k2', not_true, not_false_eq_true, if_false, true_or, or_true, true_and]
            exact hq
  · have hq := hQ0 (fun z => c z.1)
    have c' : ¬ (nI (lmL k f) ≤ iI v ∧ iI v ≤ nI (lmH k f)) := by rw [ew]; exact c
    simp only [s68_0, s68_3, s68_4, s68_7, s68_8, s68_9, s68_11, s68_12, s68_15, s68_17, s68_20, s68_23, s68_25, s68_28, s68_31, s68_34, s68_35, s68_36, s68_37, s68_40, s68_41, s68_44, s68_45, s68_46_4, s68_46_7, s68_49, s68_52, s68_53, s68_56, s68_57, s68_58, s68_59, s68_60, s68_63, s68_64, s68_65, s68_68, s68_69, s68_70_4, s68_70_7, s68_73, s68_76, s68_77, s68_80, s68_81, s68_82, s68_83_4, s68_83_7, s68_86, s68_87, s68_88, s68_91, s68_94, s68_95, s68_98, s68_99, s68_100, s68_101, xcx_i, xcx_r, xcx_n, xcx_l, xcx_0, at_t3, at_t4, at_t5, l4, l5, within_eq, if_neg c', xb_f, ite_not, if_false, true_or, or_true, true_and]
    exact hq
