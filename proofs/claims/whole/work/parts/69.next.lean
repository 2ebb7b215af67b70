/-! the next order: the class's -/
theorem d1F_spec {r : Nat → Nat} : ∀ m i, d1F r m = some i → i < m ∧ ¬ r (i + 1) < r i := by
  intro m
  induction m with
  | zero => intro i h; cases h
  | succ m ih =>
    intro i h
    by_cases c : r (m + 1) < r m
    · rw [show d1F r (m + 1) = d1F r m from if_pos c] at h
      have := ih i h
      exact ⟨by omega, this.2⟩
    · rw [show d1F r (m + 1) = some m from if_neg c] at h
      cases h
      exact ⟨by omega, c⟩
theorem d2F_bd {r : Nat → Nat} {i : Nat} : ∀ j, d2F r i j ≤ j := by
  intro j
  induction j with
  | zero => exact Nat.le_refl _
  | succ j ih => unfold d2F; split <;> omega
theorem swF_lt {r : Nat → Nat} {i j n : Nat} (h : ∀ k, k < n → r k < n) (hi : i < n) (hj : j < n) : ∀ k, k < n → swF r i j k < n := by
  intro k hk
  unfold swF upN
  split
  · exact h i hi
  · split
    · exact h j hj
    · exact h k hk
theorem rvF_lt {n : Nat} : ∀ f r lo hi, (∀ k, k < n → r k < n) → hi < n → ∀ k, k < n → rvF f r lo hi k < n := by
  intro f
  induction f with
  | zero => intro r lo hi h _; exact h
  | succ f ih =>
    intro r lo hi h hh
    by_cases c : lo < hi
    · rw [show rvF (f + 1) r lo hi = rvF f (swF r lo hi) (lo + 1) (hi - 1) from if_pos c]
      exact ih _ _ _ (swF_lt h (by omega) hh) (by omega)
    · rw [show rvF (f + 1) r lo hi = r from if_neg c]; exact h
theorem xat79 {σ : xM} {v : Nat} (h : v < 6) : xat σ 79 (nI v) = σ.1 79 v := xat_n (by rw [xln_79]; exact h)
theorem Xswap {σ : xM} {n i j : Nat} {r : Nat → Nat} {Q : xM → Prop} (hn : n ≤ 6) (hr : rowIs σ 79 n r) (hi : i < n) (hj : j < n) (hQ : ∀ τ, only 79 σ τ → rowIs τ 79 n (swF r i j) → Q τ) : xV 63 [.ref 78, .int (nI i), .int (nI j)] σ Q := by
  have i6 : i < 6 := by omega
  have j6 : j < 6 := by omega
  have hx : ∀ (τ : xM) k v, k < 6 → xpt τ 79 (nI k) v = xe_si τ 79 k v := fun τ k v hk => xpt_n (by rw [xln_79]; exact hk)
  have ri := hr i hi
  have rj := hr j hj
  rw [e63]
  simp only [s63_0, s63_1, s63_4, s63_5, s63_8, s63_9, s63_10, s63_13, s63_14, s63_15, s63_18, s63_19, s63_22, s63_25, s63_26, s63_29, s63_30, s63_31, s63_34, xcx_i, xcx_r, xcx_n, xcx_l, xcx_0, at_eq, put_eq, xcl_79, xat79 i6, xat79 j6, ri, rj, hx _ _ _ i6, hx _ _ _ j6]
  exact hQ _ (only.rf _ _).si.si hr.si.si
theorem XorderNext {σ : xM} {n : Nat} {r : Nat → Nat} {Q : Int32 → xM → Prop} (hn : n ≤ 6) (h78 : σ.1 78 0 = nI n) (hr : rowIs σ 79 n r) (hlt : ∀ i, i < n → r i < n) (hN : nxF r n = none → Q 0 σ) (hS : ∀ r', nxF r n = some r' → (∀ i, i < n → r' i < n) → ∀ τ, only 79 σ τ → rowIs τ 79 n r' → Q 1 τ) : xI1 62 [.ref 78] σ Q := by
  have l1 : ∀ m, m + 1 ≤ n → ∀ Q : Option Value → xM → Prop, (d1F r m = none → xC 62 7 [some (.ref 78), some (.int (nI m - 1)), none, none, none] [] σ Q = xC 62 38 [some (.ref 78), some (.int (-1)), none, none, none] [] σ Q) ∧ (∀ i, d1F r m = some i → xC 62 7 [some (.ref 78), some (.int (nI m - 1)), none, none, none] [] σ Q = xC 62 38 [some (.ref 78), some (.int (nI i)), none, none, none] [] σ Q) := by
    intro m
    induction m with
    | zero =>
      intro _ Q
      refine ⟨fun _ => ?_, fun i h => (by cases h)⟩
      have e : (nI 0 - 1 < 0) = True := eq_true (by decide)
      rw [s62_7]
      simp only [s62_8, xcx_i, xcx_r, xcx_n, xcx_l, xcx_0, e, if_true]
      rfl
    | succ m ih =>
      intro hm Q
      have e : (nI m < 0) = False := eq_false (nI_pos (by omega))
      have m6 : m < 6 := by omega
      have m7 : m + 1 < 6 := by omega
      have r1 := hr m (by omega)
      have r2 := hr (m + 1) (by omega)
      have q1 := hlt m (by omega)
      have q2 := hlt (m + 1) (by omega)
      have e2 : (nI (r m) ≤ nI (r (m + 1))) = ¬ (r (m + 1) < r m) := by rw [nI_leL (by omega) (by omega)]; exact propext ⟨fun q => by omega, fun q => by omega⟩
      have hrow : ∀ Q : Option Value → xM → Prop, xC 62 7 [some (.ref 78), some (.int (nI (m + 1) - 1)), none, none, none] [] σ Q = if r (m + 1) < r m then xC 62 7 [some (.ref 78), some (.int (nI m - 1)), none, none, none] [] σ Q else xC 62 38 [some (.ref 78), some (.int (nI m)), none, none, none] [] σ Q := by
        intro Q
        rw [nI_pred, s62_7]
        by_cases c : r (m + 1) < r m
        · rw [if_pos c]
          simp only [s62_8, s62_11, s62_12, s62_15, s62_16, s62_19, s62_20, s62_23, s62_24, s62_25, s62_26, s62_29, s62_32, s62_35, xcx_i, xcx_r, xcx_n, xcx_l, xcx_0, e, if_false, at_eq, xcl_79, nI_1, xat79 m6, xat79 m7, r1, r2, e2, c, not_true, am1]
        · rw [if_neg c]
          simp only [s62_8, s62_11, s62_12, s62_15, s62_16, s62_19, s62_20, s62_23, s62_24, s62_25, s62_26, s62_29, s62_32, s62_35, xcx_i, xcx_r, xcx_n, xcx_l, xcx_0, e, if_false, at_eq, xcl_79, nI_1, xat79 m6, xat79 m7, r1, r2, e2, c, not_false_eq_true, if_true]
      obtain ⟨i1, i2⟩ := ih (by omega) Q
      by_cases c : r (m + 1) < r m
      · have hd : d1F r (m + 1) = d1F r m := if_pos c
        rw [hd, hrow, if_pos c]
        exact ⟨i1, i2⟩
      · have hd : d1F r (m + 1) = some m := if_neg c
        rw [hd, hrow, if_neg c]
        exact ⟨fun q => (by cases q), fun i q => (by cases q; rfl)⟩
  have l2 : ∀ i, i + 1 < n → ∀ j, j < n → ∀ Q : Option Value → xM → Prop, xC 62 51 [some (.ref 78), some (.int (nI i)), some (.int (nI j)), none, none] [] σ Q = xC 62 81 [some (.ref 78), some (.int (nI i)), some (.int (nI (d2F r i j))), none, none] [] σ Q := by
    intro i hi j
    induction j with
    | zero =>
      intro _ Q
      have e : (nI 0 ≤ nI i) = True := eq_true ((nI_leI (by decide) (by omega)).mpr (by omega))
      rw [s62_51]
      simp only [s62_52, s62_53, xcx_i, xcx_r, xcx_n, xcx_l, xcx_0, e, if_true]
      rfl
    | succ j ih =>
      intro hj Q
      have e : (nI (j + 1) ≤ nI i) = ¬ (i < j + 1) := by rw [nI_leL (by omega) (by omega)]; exact propext ⟨fun q => by omega, fun q => by omega⟩
      have j6 : j + 1 < 6 := by omega
      have i6 : i < 6 := by omega
      have r1 := hr i (by omega)
      have r2 := hr (j + 1) (by omega)
      have q1 := hlt i (by omega)
      have q2 := hlt (j + 1) (by omega)
      have e2 : (nI (r i) ≤ nI (r (j + 1))) = ¬ (r (j + 1) < r i) := by rw [nI_leL (by omega) (by omega)]; exact propext ⟨fun q => by omega, fun q => by omega⟩
      rw [s62_51]
      by_cases c1 : i < j + 1
      · by_cases c2 : r (j + 1) < r i
        · rw [show d2F r i (j + 1) = d2F r i j from if_pos ⟨c1, c2⟩]
          simp only [s62_52, s62_53, s62_56, s62_57, s62_60, s62_61, s62_64, s62_65, s62_68, s62_69, s62_72, s62_75, s62_78, xcx_i, xcx_r, xcx_n, xcx_l, xcx_0, e, c1, not_true, if_false, at_eq, xcl_79, xat79 i6, xat79 j6, r1, r2, e2, c2, pk_m1]
          exact ih (by omega) Q
        · rw [show d2F r i (j + 1) = j + 1 from if_neg (fun q => c2 q.2)]
          simp only [s62_52, s62_53, s62_56, s62_57, s62_60, s62_61, s62_64, s62_65, s62_68, s62_69, s62_72, s62_75, s62_78, xcx_i, xcx_r, xcx_n, xcx_l, xcx_0, e, c1, not_true, if_false, at_eq, xcl_79, xat79 i6, xat79 j6, r1, r2, e2, c2, not_false_eq_true, if_true]
      · rw [show d2F r i (j + 1) = j + 1 from if_neg (fun q => c1 q.1)]
        simp only [s62_52, s62_53, s62_56, s62_57, s62_60, s62_61, s62_64, s62_65, s62_68, s62_69, s62_72, s62_75, s62_78, xcx_i, xcx_r, xcx_n, xcx_l, xcx_0, e, c1, not_false_eq_true, if_true]
  have l3 : ∀ f lo hi, lo ≤ hi + 1 → hi < n → hi < lo + f → ∀ (τ : xM) (s : Nat → Nat) (v1 v2 : Option Value), only 79 σ τ → rowIs τ 79 n s → (∀ τ', only 79 σ τ' → rowIs τ' 79 n (rvF f s lo hi) → Q 1 τ') → xC 62 99 [some (.ref 78), v1, v2, some (.int (nI lo)), some (.int (nI hi))] [] τ (xqI Q) := by
    intro f
    induction f with
    | zero =>
      intro lo hi h1 h2 h3 τ s v1 v2 hs hrs hQ
      have e : (nI hi ≤ nI lo) = True := eq_true ((nI_leI (by omega) (by omega)).mpr (by omega))
      rw [s62_99]
      simp only [s62_100, s62_102, s62_105, s62_106, s62_107, s62_109, s62_112, s62_115, s62_118, s62_121, s62_122, xcx_i, xcx_r, xcx_n, xcx_l, xcx_0, e, if_true, true_or, or_true, true_and]
      exact hQ τ hs hrs
    | succ f ih =>
      intro lo hi h1 h2 h3 τ s v1 v2 hs hrs hQ
      have e : (nI hi ≤ nI lo) = ¬ (lo < hi) := by rw [nI_leL (by omega) (by omega)]; exact propext ⟨fun q => by omega, fun q => by omega⟩
      rw [s62_99]
      by_cases c : lo < hi
      · obtain ⟨hi', rfl⟩ : ∃ hi', hi = hi' + 1 := ⟨hi - 1, by omega⟩
        rw [show rvF (f + 1) s lo (hi' + 1) = rvF f (swF s lo (hi' + 1)) (lo + 1) hi' from if_pos c] at hQ
        simp only [s62_100, s62_102, s62_105, s62_106, s62_107, s62_109, xcx_i, xcx_r, xcx_n, xcx_l, xcx_0, e, c, not_true, if_false]
        refine Xswap hn hrs (by omega) h2 (fun τ' hs' hr' => ?_)
        simp only [s62_112, s62_115, s62_118, xcx_i, xcx_r, xcx_n, xcx_l, xcx_0, nI_1, pk_m1]
        exact ih (lo + 1) hi' (by omega) (by omega) (by omega) τ' _ _ _ (hs.tr hs') hr' hQ
      · rw [show rvF (f + 1) s lo hi = s from if_neg c] at hQ
        simp only [s62_100, s62_102, s62_105, s62_106, s62_107, s62_109, s62_112, s62_115, s62_118, s62_121, s62_122, xcx_i, xcx_r, xcx_n, xcx_l, xcx_0, e, c, not_false_eq_true, if_true, true_or, or_true, true_and]
        exact hQ τ hs hrs
  rw [e62]
  rcases Nat.eq_zero_or_pos n with h0 | h0
  · subst h0
    have e2 : (nI 0 - 2 < 0) = True := eq_true (by decide)
    have e3 : ((0 : Int32) ≤ nI 0 - 2) = False := eq_false (by decide)
    simp only [s62_0, s62_1, s62_4, s62_5, s62_6, xcx_i, xcx_r, xcx_n, xcx_l, xcx_0, h78]
    rw [s62_7]
    simp only [s62_8, s62_11, s62_12, s62_15, s62_16, s62_19, s62_20, s62_23, s62_24, s62_25, s62_26, s62_29, s62_32, s62_35, s62_38, s62_39, s62_42, s62_43, xcx_i, xcx_r, xcx_n, xcx_l, xcx_0, e2, e3, if_true, if_false, true_or, or_true, true_and]
    exact hN rfl
  · have en : nI n - 2 = nI (n - 1) - 1 := by
      obtain ⟨k, rfl⟩ : ∃ k, n = k + 1 := ⟨n - 1, by omega⟩
      rw [Nat.add_sub_cancel, show (2 : Int32) = 1 + 1 from rfl, ← Int32.sub_sub, nI_pred]
    simp only [s62_0, s62_1, s62_4, s62_5, s62_6, xcx_i, xcx_r, xcx_n, xcx_l, xcx_0, h78, en]
    obtain ⟨i1, i2⟩ := l1 (n - 1) (by omega) (xqI Q)
    unfold nxF at hN hS
    cases hd : d1F r (n - 1) with
    | none =>
      rw [hd] at hN
      refine (iff_of_eq (i1 hd)).mpr ?_
      simp only [s62_38, s62_39, s62_42, s62_43, xcx_i, xcx_r, xcx_n, xcx_l, xcx_0, show ((0 : Int32) ≤ -1) = False from eq_false (by decide), if_false, true_or, or_true, true_and]
      exact hN rfl
    | some i =>
      rw [hd] at hS
      have hsp := d1F_spec _ _ hd
      have d2b := d2F_bd (r := r) (i := i) (n - 1)
      refine (iff_of_eq (i2 i hd)).mpr ?_
      have e0 : ((0 : Int32) ≤ nI i) = True := eq_true (nI_pos' (by omega))
      have en1 : nI n - 1 = nI (n - 1) := pk_sub (b := 1) h0
      simp only [s62_38, s62_39, s62_42, s62_43, s62_44, s62_45, s62_48, s62_49, s62_50, xcx_i, xcx_r, xcx_n, xcx_l, xcx_0, e0, if_true, h78, en1]
      refine (iff_of_eq (l2 i (by omega) (n - 1) (by omega) _)).mpr ?_
      simp only [s62_81, s62_82, s62_83, s62_84, xcx_i, xcx_r, xcx_n, xcx_l, xcx_0]
      refine Xswap hn hr (by omega) (by omega) (fun τ hs hr' => ?_)
      have h78' : τ.1 78 0 = nI n := by rw [hs.1 78 (by decide)]; exact h78
      simp only [s62_87, s62_88, s62_89, s62_90, s62_91, s62_92, s62_95, s62_96, s62_97, xcx_i, xcx_r, xcx_n, xcx_l, xcx_0, nI_1, h78', en1]
      exact l3 n (i + 1) (n - 1) (by omega) (by omega) (by omega) τ _ _ _ hs hr' (hS _ rfl (rvF_lt _ _ _ _ (swF_lt hlt (by omega) (by omega)) (by omega)))
