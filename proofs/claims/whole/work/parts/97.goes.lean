/-! goes, holds -/
def ansG : List Nat → Nat → Int32 → Int32
  | [], i, d => if d = -1 then nI i else -1
  | k :: l, i, d => if nI i = d then nI k else ansG l (i + 1) d
theorem ansG_all : ∀ l : List Nat, ∀ i : Nat, i + l.length < 100 → ansG l i (-1) = nI (i + l.length) := by
  intro l
  induction l with
  | nil => intro i _; exact if_pos rfl
  | cons k l ih =>
    intro i h
    rw [List.length_cons] at h
    rw [show ansG (k :: l) i (-1) = if nI i = -1 then nI k else ansG l (i + 1) (-1) from rfl, if_neg (fun q => by have := nI_m1 (n := i) (by omega); rw [this] at q; exact q), ih (i + 1) (by omega), List.length_cons]
    congr 1; omega
theorem ansG_in : ∀ l : List Nat, ∀ i j : Nat, i + l.length < 100 → j < l.length → ansG l i (nI (i + j)) = nI (l.getD j 0) := by
  intro l
  induction l with
  | nil => intro i j _ h; exact absurd h (Nat.not_lt_zero j)
  | cons k l ih =>
    intro i j h hj
    rw [List.length_cons] at h hj
    cases j with
    | zero => exact if_pos rfl
    | succ j =>
      rw [show ansG (k :: l) i (nI (i + (j + 1))) = if nI i = nI (i + (j + 1)) then nI k else ansG l (i + 1) (nI (i + (j + 1))) from rfl, if_neg (fun q => by have := (nI_eq (by omega) (by omega)).mp q; omega), show i + (j + 1) = i + 1 + j by omega, ih (i + 1) j (by omega) (by omega)]
      rfl
theorem ansG_out {d : Int32} (hd : ¬ d = -1) : ∀ l : List Nat, ∀ i : Nat, (∀ j, j < l.length → ¬ d = nI (i + j)) → ansG l i d = -1 := by
  intro l
  induction l with
  | nil => intro i _; exact if_neg hd
  | cons k l ih =>
    intro i h
    rw [show ansG (k :: l) i d = if nI i = d then nI k else ansG l (i + 1) d from rfl, if_neg (fun q => h 0 (Nat.succ_pos _) q.symm)]
    refine ih (i + 1) (fun j hj => ?_)
    rw [show i + 1 + j = i + (j + 1) by omega]
    exact h (j + 1) (Nat.succ_lt_succ hj)
theorem Mgo_loop {σ : xM} {n ns nr bow deck hour : Nat} {D E : Nat → Nat → Nat} {w s : Int} {H' : Nat} {d : Int32} {Q : Int32 → xM → Prop} (h : sdM σ n ns nr bow deck D E) (hb : sdB n ns nr bow deck D E) (hh : hour ≤ 99) (hl : σ.1 84 31 = nI n) (hw : 0 ≤ w ∧ w ≤ 999) (hs : -99 ≤ s ∧ s ≤ 99) : ∀ (l : List Nat) (i H : Nat) (k : Int) (τ : xM), Ch D E bow deck hour n ns w s l H H' → goW D E bow deck hour n ns w s H k → H < 64 → mrs σ τ → i + l.length < 100 → (∀ τ', mrs σ τ' → Q (ansG l i d) τ') → xC 203 32 [some (.ref 84), some (.int (nI hour)), some (.int (iI w)), some (.int (iI s)), some (.int d), some (.int (nI H)), some (.int (nI i)), some (.int (iI k))] [] τ (xqI Q) := by
  have hn6 := hb.1
  intro l
  induction l with
  | nil =>
    intro i H k τ hC hk hH hr hi hQ
    obtain rfl := goW_eq hk hC.2
    have em : (iI (-1) = -1) = True := eq_true rfl
    have hq := hQ τ hr
    rw [s203_32]
    by_cases c : d = -1
    · subst c
      rw [show ansG [] i (-1) = nI i from if_pos rfl] at hq
      simp only [s203_34, s203_35, s203_75, s203_77, s203_78, s203_81, s203_83, s203_86, s203_87, xcx_i, xcx_r, xcx_n, xcx_l, xcx_0, em, not_true, if_true, if_false]
      exact hq
    · rw [show ansG [] i d = -1 from if_neg c] at hq
      simp only [s203_34, s203_35, s203_75, s203_77, s203_78, s203_81, s203_83, s203_86, s203_87, xcx_i, xcx_r, xcx_n, xcx_l, xcx_0, em, c, not_false_eq_true, if_true, if_false]
      exact hq
  | cons k' l ih =>
    intro i H k τ hC hk hH hr hi hQ
    rw [List.length_cons] at hi
    obtain ⟨⟨hg, hkr⟩, hC2⟩ := hC
    obtain rfl := goW_eq hk hg
    have em := iI_m1 (show k' < 100 by omega)
    have ek : iI (k' : Int) = nI k' := (nI_iI k').symm
    rw [ek] at em ⊢
    rw [s203_32]
    by_cases c : nI i = d
    · have hq := hQ τ hr
      rw [show ansG (k' :: l) i d = nI k' from if_pos c] at hq
      simp only [s203_34, s203_35, s203_38, s203_40, s203_42, s203_45, s203_47, xcx_i, xcx_r, xcx_n, xcx_l, xcx_0, em, c, not_true, if_true, if_false]
      exact hq
    · have hX := h.sim hr.sim
      have hlτ : τ.1 84 31 = nI n := (hr.1 84 31 (fun z => by omega)).trans hl
      have hwo : ∀ Q : Int32 → xM → Prop, xI1 202 [.ref 84, .int (nI H), .int (nI k')] τ Q = Q (nI (dpF H (D 1) k' n)) τ := fun Q => Mwithout hX hb (Nat.le_refl n) hlτ hH hkr
      simp only [s203_34, s203_35, s203_38, s203_40, s203_42, s203_45, s203_47, s203_48, s203_51, s203_52, s203_54, s203_56, s203_59, s203_61, s203_62, s203_63, s203_64, s203_65, s203_67, xcx_i, xcx_r, xcx_n, xcx_l, xcx_0, em, c, not_false_eq_true, if_true, if_false, hwo]
      refine MgoesNext hX hb hh (Nat.le_refl n) hlτ (dpF_lt hH n hn6) hw hs (fun τ2 u v hr2 _ _ hB => ?_)
      simp only [s203_70, s203_72, xcx_i, xcx_r, xcx_n, xcx_l, xcx_0, nI_1]
      refine ih (i + 1) _ _ τ2 hC2 ⟨u, v, hB, rfl⟩ (dpF_lt hH n hn6) (hr.tr hr2) (by omega) (fun τ' hr' => ?_)
      have hq := hQ τ' hr'
      rw [show ansG (k' :: l) i d = ansG l (i + 1) d from if_neg c] at hq
      exact hq
theorem Mho_loop {σ : xM} {n ns nr bow deck hour : Nat} {D E : Nat → Nat → Nat} {w s : Int} {H' : Nat} {Q : Int32 → xM → Prop} (h : sdM σ n ns nr bow deck D E) (hb : sdB n ns nr bow deck D E) (hh : hour ≤ 99) (hl : σ.1 84 31 = nI n) (hw : 0 ≤ w ∧ w ≤ 999) (hs : -99 ≤ s ∧ s ≤ 99) : ∀ (l : List Nat) (H : Nat) (k : Int) (τ : xM), Ch D E bow deck hour n ns w s l H H' → goW D E bow deck hour n ns w s H k → H < 64 → mrs σ τ → (∀ τ', mrs σ τ' → Q (nI H') τ') → xC 204 29 [some (.ref 84), some (.int (nI hour)), some (.int (iI w)), some (.int (iI s)), some (.int (nI H)), some (.int (iI k))] [] τ (xqI Q) := by
  have hn6 := hb.1
  intro l
  induction l with
  | nil =>
    intro H k τ hC hk hH hr hQ
    obtain rfl := goW_eq hk hC.2
    obtain rfl := hC.1
    have em : (iI (-1) = -1) = True := eq_true rfl
    have hq := hQ τ hr
    rw [s204_29]
    simp only [s204_31, s204_32, s204_59, s204_61, xcx_i, xcx_r, xcx_n, xcx_l, xcx_0, em, not_true, if_true, if_false]
    exact hq
  | cons k' l ih =>
    intro H k τ hC hk hH hr hQ
    obtain ⟨⟨hg, hkr⟩, hC2⟩ := hC
    obtain rfl := goW_eq hk hg
    have em := iI_m1 (show k' < 100 by omega)
    have ek : iI (k' : Int) = nI k' := (nI_iI k').symm
    rw [ek] at em ⊢
    have hX := h.sim hr.sim
    have hlτ : τ.1 84 31 = nI n := (hr.1 84 31 (fun z => by omega)).trans hl
    have hwo : ∀ Q : Int32 → xM → Prop, xI1 202 [.ref 84, .int (nI H), .int (nI k')] τ Q = Q (nI (dpF H (D 1) k' n)) τ := fun Q => Mwithout hX hb (Nat.le_refl n) hlτ hH hkr
    rw [s204_29]
    simp only [s204_31, s204_32, s204_35, s204_36, s204_38, s204_40, s204_43, s204_45, s204_46, s204_47, s204_48, s204_49, s204_51, xcx_i, xcx_r, xcx_n, xcx_l, xcx_0, em, not_false_eq_true, if_true, if_false, hwo]
    refine MgoesNext hX hb hh (Nat.le_refl n) hlτ (dpF_lt hH n hn6) hw hs (fun τ2 u v hr2 _ _ hB => ?_)
    simp only [s204_54, s204_56, xcx_i, xcx_r, xcx_n, xcx_l, xcx_0]
    exact ih _ _ τ2 hC2 ⟨u, v, hB, rfl⟩ (dpF_lt hH n hn6) (hr.tr hr2) hQ
