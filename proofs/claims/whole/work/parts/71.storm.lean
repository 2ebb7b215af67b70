/-! storm -/
def tDt (n : Nat) (mi by' wo : Nat → Nat) : Prop := n ≤ 6 ∧ ∀ i, i < n → mi i ≤ 200 ∧ by' i ≤ 999 ∧ wo i ≤ 99
def tX (σ : xM) (n : Nat) (mi by' wo : Nat → Nat) : Prop := tDt n mi by' wo ∧ σ.1 73 0 = nI n ∧ ∀ i, i < n → σ.1 75 i = nI (mi i) ∧ σ.1 76 i = nI (by' i) ∧ σ.1 77 i = nI (wo i)
def tK (σ : xM) (n : Nat) (mi by' wo : Nat → Nat) : Prop := tDt n mi by' wo ∧ σ.1 84 47 = nI n ∧ ∀ i, i < n → σ.1 110 (3 * i) = nI (mi i) ∧ σ.1 110 (3 * i + 1) = nI (by' i) ∧ σ.1 110 (3 * i + 2) = nI (wo i)
theorem tX.sim {σ τ : xM} {n : Nat} {mi by' wo : Nat → Nat} (h : tX σ n mi by' wo) (hs : xSim σ τ) : tX τ n mi by' wo := by
  unfold tX; rw [hs.1 73 0 rfl, hs.row (k := 75) fun _ => rfl, hs.row (k := 76) fun _ => rfl, hs.row (k := 77) fun _ => rfl]; exact h
theorem tK.sim {σ τ : xM} {n : Nat} {mi by' wo : Nat → Nat} (h : tK σ n mi by' wo) (hs : xSim σ τ) : tK τ n mi by' wo := by
  unfold tK; rw [hs.1 84 47 rfl, hs.row (k := 110) fun _ => rfl]; exact h
def loF (mi by' wo r : Nat → Nat) : Nat → Nat → Nat → Nat → Nat
  | 0, _, _, l => l
  | k + 1, i, mn, l => loF mi by' wo r k (i + 1) (mn + mi (r i)) (l + if by' (r i) < mn + mi (r i) then wo (r i) else 0)
theorem loF_add {mi by' wo r : Nat → Nat} : ∀ k i mn a l, loF mi by' wo r k i mn (a + l) = a + loF mi by' wo r k i mn l := by
  intro k
  induction k with
  | zero => intro i mn a l; rfl
  | succ k ih =>
    intro i mn a l
    show loF mi by' wo r k (i + 1) _ (a + l + _) = a + loF mi by' wo r k (i + 1) _ (l + _)
    rw [Nat.add_assoc, ih]
theorem loF_bd {mi by' wo r : Nat → Nat} {n : Nat} (hw : ∀ i, i < n → wo i ≤ 99) (hr : ∀ i, i < n → r i < n) : ∀ k i mn l, i + k ≤ n → loF mi by' wo r k i mn l ≤ l + 99 * k := by
  intro k
  induction k with
  | zero => intro i mn l _; exact Nat.le_refl _
  | succ k ih =>
    intro i mn l h
    have := ih (i + 1) (mn + mi (r i)) (l + if by' (r i) < mn + mi (r i) then wo (r i) else 0) (by omega)
    have h2 := hw (r i) (hr i (by omega))
    have hx : (if by' (r i) < mn + mi (r i) then wo (r i) else 0) ≤ 99 := by
      split
      · exact h2
      · exact Nat.zero_le _
    show loF mi by' wo r k (i + 1) (mn + mi (r i)) (l + if by' (r i) < mn + mi (r i) then wo (r i) else 0) ≤ l + 99 * (k + 1)
    generalize (if by' (r i) < mn + mi (r i) then wo (r i) else 0) = x at this hx ⊢
    omega
theorem loF_congr {mi by' wo r s : Nat → Nat} {n : Nat} (h : ∀ i, i < n → r i = s i) : ∀ k i mn l, i + k ≤ n → loF mi by' wo r k i mn l = loF mi by' wo s k i mn l := by
  intro k
  induction k with
  | zero => intro i mn l _; rfl
  | succ k ih =>
    intro i mn l hk
    show loF mi by' wo r k (i + 1) _ _ = loF mi by' wo s k (i + 1) _ _
    rw [h i (by omega), ih _ _ _ (by omega)]
def lostF (mi by' wo r : Nat → Nat) (n f : Nat) : Nat := loF mi by' wo r f 0 0 0 + loF mi by' wo r (n - f) f 0 0
theorem lostF_bd {mi by' wo r : Nat → Nat} {n f : Nat} (hn : n ≤ 6) (hf : f ≤ n) (hw : ∀ i, i < n → wo i ≤ 99) (hr : ∀ i, i < n → r i < n) : lostF mi by' wo r n f < 1000000 := by
  have h1 := loF_bd (mi := mi) (by' := by') hw hr f 0 0 0 (by omega)
  have h2 := loF_bd (mi := mi) (by' := by') hw hr (n - f) f 0 0 (by omega)
  unfold lostF; omega
theorem xat75 {σ : xM} {v : Nat} (h : v < 6) : xat σ 75 (nI v) = σ.1 75 v := xat_n (by rw [xln_75]; exact h)
theorem xat76 {σ : xM} {v : Nat} (h : v < 6) : xat σ 76 (nI v) = σ.1 76 v := xat_n (by rw [xln_76]; exact h)
theorem xat77 {σ : xM} {v : Nat} (h : v < 6) : xat σ 77 (nI v) = σ.1 77 v := xat_n (by rw [xln_77]; exact h)
theorem XlostBy {σ : xM} {n f k : Nat} {mi by' wo r : Nat → Nat} {Q : Int32 → xM → Prop} (hT : tX σ n mi by' wo) (hr : rowIs σ 79 n r) (hlt : ∀ i, i < n → r i < n) (hk : f + k ≤ n) : xI1 60 [.ref 73, .ref 79, .int (nI f), .int (nI (f + k))] σ Q = Q (nI (loF mi by' wo r k f 0 0)) σ := by
  obtain ⟨⟨hn6, hbd⟩, h73, hrow⟩ := hT
  have loop : ∀ m i mn l, i + m = f + k → mn + 200 * m ≤ 100000 → ∀ l7, xC 60 9 [some (.ref 73), some (.ref 79), some (.int (nI f)), some (.int (nI (f + k))), some (.int (nI mn)), some (.int (nI l)), some (.int (nI i)), l7] [] σ (xqI Q) = Q (nI (loF mi by' wo r m i mn l)) σ := by
    intro m
    induction m with
    | zero =>
      intro i mn l hi _ l7
      have e : (nI (f + k) ≤ nI i) = True := eq_true ((nI_leI (by omega) (by omega)).mpr (by omega))
      rw [s60_9]
      simp only [s60_11, s60_12, s60_71, s60_73, xcx_i, xcx_r, xcx_n, xcx_l, xcx_0, e, if_true]
      first | done | rfl
    | succ m ih =>
      intro i mn l hi hm l7
      have e := lt4N (n := f + k) (i := i) (by omega) (by omega)
      have i6 : i < 6 := by omega
      have hri := hlt i (by omega)
      obtain ⟨b1, b2, b3⟩ := hbd (r i) hri
      obtain ⟨a1, a2, a3⟩ := hrow (r i) hri
      have ri := hr i (by omega)
      have r6 : r i < 6 := by omega
      have e2 : (nI (mn + mi (r i)) ≤ nI (by' (r i))) = ¬ (by' (r i) < mn + mi (r i)) := by rw [nI_leL (by omega) (by omega)]; exact propext ⟨fun q => by omega, fun q => by omega⟩
      rw [show loF mi by' wo r (m + 1) i mn l = loF mi by' wo r m (i + 1) (mn + mi (r i)) (l + if by' (r i) < mn + mi (r i) then wo (r i) else 0) from rfl]
      have ihh := fun l' => ih (i + 1) (mn + mi (r i)) l' (by omega) (by omega)
      rw [s60_9]
      by_cases c : by' (r i) < mn + mi (r i)
      · rw [if_pos c]
        simp only [s60_11, s60_12, s60_15, s60_16, s60_18, s60_21, s60_23, s60_25, s60_26, s60_29, s60_31, s60_34, s60_35, s60_37, s60_39, s60_40, s60_43, s60_45, s60_48, s60_51, s60_53, s60_54, s60_57, s60_59, s60_62, s60_63, s60_65, s60_68, xcx_i, xcx_r, xcx_n, xcx_l, xcx_0, e, if_false, at_eq, xcl_75, xcl_76, xcl_77, xcl_79, xat79 i6, ri, xat75 r6, xat76 r6, xat77 r6, a1, a2, a3, nI_add, e2, c, not_true, nI_1, ihh]
      · rw [if_neg c]
        simp only [s60_11, s60_12, s60_15, s60_16, s60_18, s60_21, s60_23, s60_25, s60_26, s60_29, s60_31, s60_34, s60_35, s60_37, s60_39, s60_40, s60_43, s60_45, s60_48, s60_51, s60_53, s60_54, s60_57, s60_59, s60_62, s60_63, s60_65, s60_68, xcx_i, xcx_r, xcx_n, xcx_l, xcx_0, e, if_false, at_eq, xcl_75, xcl_76, xcl_79, xat79 i6, ri, xat75 r6, xat76 r6, a1, a2, nI_add, e2, c, not_false_eq_true, if_true, nI_1]
        exact ihh l _
  rw [e60]
  simp only [s60_0, s60_1, s60_3, s60_4, s60_6, s60_7, xcx_i, xcx_r, xcx_n, xcx_l, xcx_0]
  exact loop k f 0 0 rfl (by omega) _
theorem MlostBy {σ : xM} {n f : Nat} {mi by' wo r : Nat → Nat} {Q : Int32 → xM → Prop} (hT : tK σ n mi by' wo) (hr : rowIs σ 119 n r) (hlt : ∀ i, i < n → r i < n) (hf : f ≤ n) : xI1 238 [.ref 84, .int (nI f)] σ Q = Q (nI (lostF mi by' wo r n f)) σ := by
  obtain ⟨⟨hn6, hbd⟩, h73, hrow⟩ := hT
  have body : ∀ i mn l, i < n → mn ≤ 50000 → xC 238 24 [some (.ref 84), some (.int (nI f)), some (.int (nI l)), some (.int (nI mn)), some (.int (nI i))] [] σ (xqI Q) = xC 238 7 [some (.ref 84), some (.int (nI f)), some (.int (nI (l + if by' (r i) < mn + mi (r i) then wo (r i) else 0))), some (.int (nI (mn + mi (r i)))), some (.int (nI (i + 1)))] [] σ (xqI Q) := by
    intro i mn l hi hmn
    have i6 : i < 6 := by omega
    have b0 : i < 100000 := by omega
    have hri := hlt i (by omega)
    obtain ⟨b1, b2, b3⟩ := hbd (r i) hri
    obtain ⟨a1, a2, a3⟩ := hrow (r i) hri
    have ri := hr i (by omega)
    have d1 : 3 * r i < 100000 := by omega
    have d2 : 3 * r i < 18 := by omega
    have d3 : 3 * r i + 1 < 100000 := by omega
    have d4 : 3 * r i + 1 < 18 := by omega
    have d5 : 3 * r i + 2 < 100000 := by omega
    have d6 : 3 * r i + 2 < 18 := by omega
    have z : ∀ k, nI k + (0 : Int32) = nI k := fun k => nI_add k 0
    have e2 : (nI (mn + mi (r i)) ≤ nI (by' (r i))) = ¬ (by' (r i) < mn + mi (r i)) := by rw [nI_leL (by omega) (by omega)]; exact propext ⟨fun q => by omega, fun q => by omega⟩
    by_cases c : by' (r i) < mn + mi (r i)
    · rw [if_pos c]
      simp only [s238_24, s238_25, s238_26, s238_29, s238_30, s238_31, s238_34, s238_36, s238_37, s238_38, s238_39, s238_40, s238_41, s238_42, s238_43, s238_44, s238_47, s238_48, s238_49, s238_52, s238_54, s238_55, s238_56, s238_57, s238_58, s238_59, s238_62, s238_63, s238_66, s238_67, s238_68, s238_71, s238_73, s238_74, s238_75, s238_76, s238_77, s238_78, s238_81, s238_82, s238_83, s238_84, s238_87, xcx_i, xcx_r, xcx_n, xcx_l, xcx_0, xcl_110, xcl_119, xln_110, xln_119, i6, b0, d1, d2, d3, d4, d5, d6, cl_s, pos_s, true_and, ri, ml_3, al_1, al_2, a1, a2, a3, nI_add, e2, c, not_true, if_false, nI_1]
    · rw [if_neg c]
      simp only [s238_24, s238_25, s238_26, s238_29, s238_30, s238_31, s238_34, s238_36, s238_37, s238_38, s238_39, s238_40, s238_41, s238_42, s238_43, s238_44, s238_47, s238_48, s238_49, s238_52, s238_54, s238_55, s238_56, s238_57, s238_58, s238_59, s238_62, s238_63, s238_66, s238_67, s238_68, s238_71, s238_73, s238_74, s238_75, s238_76, s238_77, s238_78, s238_81, s238_82, s238_83, s238_84, s238_87, xcx_i, xcx_r, xcx_n, xcx_l, xcx_0, xcl_110, xcl_119, xln_110, xln_119, i6, b0, d1, d2, d3, d4, d5, d6, cl_s, pos_s, true_and, ri, ml_3, al_1, al_2, a1, a2, a3, nI_add, e2, c, not_false_eq_true, if_true, nI_1, z]
      rfl
  have head : ∀ i mn l, i < n → xC 238 7 [some (.ref 84), some (.int (nI f)), some (.int (nI l)), some (.int (nI mn)), some (.int (nI i))] [] σ (xqI Q) = xC 238 24 [some (.ref 84), some (.int (nI f)), some (.int (nI l)), some (.int (nI (if i = f then 0 else mn))), some (.int (nI i))] [] σ (xqI Q) := by
    intro i mn l hi
    have e := lt4N (n := n) (i := i) (by omega) (by omega)
    have ef : (nI i = nI f) = (i = f) := propext (nI_eq (by omega) (by omega))
    rw [s238_7]
    by_cases c : i = f
    · subst c
      simp only [s238_9, s238_10, s238_13, s238_16, s238_18, s238_19, s238_22, s238_23, xcx_i, xcx_r, xcx_n, xcx_l, xcx_0, h73, e, if_false, not_true, if_true]
      rfl
    · simp only [s238_9, s238_10, s238_13, s238_16, s238_18, s238_19, s238_22, s238_23, xcx_i, xcx_r, xcx_n, xcx_l, xcx_0, h73, e, if_false, ef, c, not_false_eq_true, if_true]
  have loop2 : ∀ m i mn l, i + m = n → f < i → mn + 200 * m ≤ 50000 → xC 238 7 [some (.ref 84), some (.int (nI f)), some (.int (nI l)), some (.int (nI mn)), some (.int (nI i))] [] σ (xqI Q) = Q (nI (loF mi by' wo r m i mn l)) σ := by
    intro m
    induction m with
    | zero =>
      intro i mn l hi hfi _
      obtain rfl : i = n := by omega
      rw [s238_7]
      simp only [s238_9, s238_10, s238_13, s238_90, s238_91, xcx_i, xcx_r, xcx_n, xcx_l, xcx_0, h73, Int32.le_refl, if_true]
      first | done | rfl
    | succ m ih =>
      intro i mn l hi hfi hm
      have b1 := (hbd (r i) (hlt i (by omega))).1
      rw [head i mn l (by omega), if_neg (by omega), body i mn l (by omega) (by omega)]
      exact ih (i + 1) _ _ (by omega) (by omega) (by omega)
  have loop1 : ∀ m i mn l, i + m = f → mn + 200 * m ≤ 20000 → xC 238 7 [some (.ref 84), some (.int (nI f)), some (.int (nI l)), some (.int (nI mn)), some (.int (nI i))] [] σ (xqI Q) = Q (nI (loF mi by' wo r m i mn l + loF mi by' wo r (n - f) f 0 0)) σ := by
    intro m
    induction m with
    | zero =>
      intro i mn l hi hmn
      obtain rfl : i = f := by omega
      rcases Nat.lt_or_eq_of_le hf with q | q
      · obtain ⟨k, hk⟩ : ∃ k, n - i = k + 1 := ⟨n - i - 1, by omega⟩
        have b1 := (hbd (r i) (hlt i q)).1
        rw [head i mn l q, if_pos rfl, body i 0 l q (by omega), hk]
        rw [loop2 k (i + 1) _ _ (by omega) (by omega) (by omega)]
        show Q (nI (loF mi by' wo r k (i + 1) (0 + mi (r i)) (l + _))) σ = Q (nI (l + loF mi by' wo r k (i + 1) (0 + mi (r i)) (0 + _))) σ
        rw [loF_add, Nat.zero_add]
        simp only [Nat.zero_add]
      · subst q
        rw [Nat.sub_self, s238_7]
        simp only [s238_9, s238_10, s238_13, s238_90, s238_91, xcx_i, xcx_r, xcx_n, xcx_l, xcx_0, h73, Int32.le_refl, if_true]
        rfl
    | succ m ih =>
      intro i mn l hi hmn
      have b1 := (hbd (r i) (hlt i (by omega))).1
      rw [head i mn l (by omega), if_neg (by omega), body i mn l (by omega) (by omega)]
      exact ih (i + 1) _ _ (by omega) (by omega)
  rw [e238]
  simp only [s238_0, s238_1, s238_2, s238_3, s238_4, s238_5, xcx_i, xcx_r, xcx_n, xcx_l, xcx_0]
  exact loop1 f 0 0 0 (by omega) (by omega)
