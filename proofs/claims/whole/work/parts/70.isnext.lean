/-! the next order: the reference's -/
theorem rvF_map {w : Nat → Nat} : ∀ f r lo hi, rvF f (fun i => w (r i)) lo hi = fun i => w (rvF f r lo hi i) := by
  intro f
  induction f with
  | zero => intro r lo hi; rfl
  | succ f ih =>
    intro r lo hi
    by_cases c : lo < hi
    · rw [show rvF (f + 1) (fun i => w (r i)) lo hi = rvF f (swF (fun i => w (r i)) lo hi) (lo + 1) (hi - 1) from if_pos c, show rvF (f + 1) r lo hi = rvF f (swF r lo hi) (lo + 1) (hi - 1) from if_pos c, ← ih]
      congr 1
      funext i
      unfold swF upN
      by_cases q1 : i = hi
      · simp only [q1, if_true]
      · by_cases q2 : i = lo
        · subst q2; simp only [q1, if_true, if_false]
        · simp only [q1, q2, if_false]
    · rw [show rvF (f + 1) (fun i => w (r i)) lo hi = fun i => w (r i) from if_neg c, show rvF (f + 1) r lo hi = r from if_neg c]
/-- both rows changed places -/
theorem si_sw {τ : xM} {n i j : Nat} {s : Nat → Nat} (hr : rowIs τ 119 n s) : rowIs (xe_si (xe_si τ 119 i (nI (s j))) 119 j (nI (s i))) 119 n (swF s i j) := hr.si.si
theorem MisNext {σ : xM} {n : Nat} {r w : Nat → Nat} {Q : Int32 → xM → Prop} (hn : n ≤ 6) (hr : rowIs σ 119 n (fun i => w (r i))) (hlt : ∀ i, i < n → r i < n) (hw : ∀ a b, a < n → b < n → ((w a < w b) = (a < b)) ∧ w a < 1000) (hN : nxF r n = none → Q 0 σ) (hS : ∀ r', nxF r n = some r' → (∀ i, i < n → r' i < n) → ∀ τ, only 119 σ τ → rowIs τ 119 n (fun i => w (r' i)) → Q 1 τ) : xI1 235 [.ref 84, .int (nI n)] σ Q := by
  have l1 : ∀ m, m + 1 ≤ n → ∀ Q : Option Value → xM → Prop, (d1F r m = none → xC 235 4 [some (.ref 84), some (.int (nI n)), some (.int (nI m - 1)), none, none, none, none] [] σ Q = xC 235 31 [some (.ref 84), some (.int (nI n)), some (.int (-1)), none, none, none, none] [] σ Q) ∧ (∀ i, d1F r m = some i → xC 235 4 [some (.ref 84), some (.int (nI n)), some (.int (nI m - 1)), none, none, none, none] [] σ Q = xC 235 31 [some (.ref 84), some (.int (nI n)), some (.int (nI i)), none, none, none, none] [] σ Q) := by
    intro m
    induction m with
    | zero =>
      intro _ Q
      refine ⟨fun _ => ?_, fun i h => (by cases h)⟩
      have e : (nI 0 - 1 < 0) = True := eq_true (by decide)
      rw [s235_4]
      simp only [s235_5, xcx_i, xcx_r, xcx_n, xcx_l, xcx_0, e, if_true]
      rfl
    | succ m ih =>
      intro hm Q
      have e : (nI m < 0) = False := eq_false (nI_pos (by omega))
      have m6 : m < 6 := by omega
      have m7 : m + 1 < 6 := by omega
      have b6 : m < 100000 := by omega
      have b7 : m + 1 < 100000 := by omega
      have r1 := hr m (by omega)
      have r2 := hr (m + 1) (by omega)
      have q1 := hlt m (by omega)
      have q2 := hlt (m + 1) (by omega)
      obtain ⟨hww, hwb⟩ := hw (r (m + 1)) (r m) q2 q1
      have hwb2 := (hw (r m) (r m) q1 q1).2
      have e2 : (nI (w (r m)) ≤ nI (w (r (m + 1)))) = ¬ (r (m + 1) < r m) := by rw [nI_leL (by omega) (by omega), ← hww]; exact propext ⟨fun q => by omega, fun q => by omega⟩
      have hrow : ∀ Q : Option Value → xM → Prop, xC 235 4 [some (.ref 84), some (.int (nI n)), some (.int (nI (m + 1) - 1)), none, none, none, none] [] σ Q = if r (m + 1) < r m then xC 235 4 [some (.ref 84), some (.int (nI n)), some (.int (nI m - 1)), none, none, none, none] [] σ Q else xC 235 31 [some (.ref 84), some (.int (nI n)), some (.int (nI m)), none, none, none, none] [] σ Q := by
        intro Q
        rw [nI_pred, s235_4]
        by_cases c : r (m + 1) < r m
        · rw [if_pos c]
          simp only [s235_5, s235_8, s235_9, s235_12, s235_13, s235_14, s235_15, s235_18, s235_19, s235_20, s235_21, s235_22, s235_25, s235_28, xcx_i, xcx_r, xcx_n, xcx_l, xcx_0, e, if_false, xcl_119, xln_119, nI_1, m6, m7, b6, b7, cl_s, pos_s, true_and, r1, r2, e2, c, not_true, am1]
        · rw [if_neg c]
          simp only [s235_5, s235_8, s235_9, s235_12, s235_13, s235_14, s235_15, s235_18, s235_19, s235_20, s235_21, s235_22, s235_25, s235_28, xcx_i, xcx_r, xcx_n, xcx_l, xcx_0, e, if_false, xcl_119, xln_119, nI_1, m6, m7, b6, b7, cl_s, pos_s, true_and, r1, r2, e2, c, not_false_eq_true, if_true]
      obtain ⟨i1, i2⟩ := ih (by omega) Q
      by_cases c : r (m + 1) < r m
      · have hd : d1F r (m + 1) = d1F r m := if_pos c
        rw [hd, hrow, if_pos c]
        exact ⟨i1, i2⟩
      · have hd : d1F r (m + 1) = some m := if_neg c
        rw [hd, hrow, if_neg c]
        exact ⟨fun q => (by cases q), fun i q => (by cases q; rfl)⟩
  have l2 : ∀ i, i + 1 < n → ¬ r (i + 1) < r i → ∀ j, j < n → i < j → ∀ Q : Option Value → xM → Prop, xC 235 41 [some (.ref 84), some (.int (nI n)), some (.int (nI i)), some (.int (nI j)), none, none, none] [] σ Q = xC 235 62 [some (.ref 84), some (.int (nI n)), some (.int (nI i)), some (.int (nI (d2F r i j))), none, none, none] [] σ Q := by
    intro i hi hni j
    induction j with
    | zero => intro _ h; omega
    | succ j ih =>
      intro hj hij Q
      have j6 : j + 1 < 6 := by omega
      have i6 : i < 6 := by omega
      have bj : j + 1 < 100000 := by omega
      have bi : i < 100000 := by omega
      have r1 := hr i (by omega)
      have r2 := hr (j + 1) (by omega)
      have q1 := hlt i (by omega)
      have q2 := hlt (j + 1) (by omega)
      obtain ⟨hww, hwb⟩ := hw (r (j + 1)) (r i) q2 q1
      have hwb2 := (hw (r i) (r i) q1 q1).2
      have e2 : (nI (w (r i)) ≤ nI (w (r (j + 1)))) = ¬ (r (j + 1) < r i) := by rw [nI_leL (by omega) (by omega), ← hww]; exact propext ⟨fun q => by omega, fun q => by omega⟩
      rw [s235_41]
      by_cases c2 : r (j + 1) < r i
      · have hij2 : i < j := by
          rcases Nat.lt_or_ge i j with q | q
          · exact q
          · have : j = i := by omega
            subst this; exact absurd c2 hni
        rw [show d2F r i (j + 1) = d2F r i j from if_pos ⟨hij, c2⟩]
        simp only [s235_42, s235_45, s235_46, s235_47, s235_48, s235_51, s235_52, s235_53, s235_56, s235_59, xcx_i, xcx_r, xcx_n, xcx_l, xcx_0, xcl_119, xln_119, i6, j6, bi, bj, cl_s, pos_s, true_and, r1, r2, e2, c2, not_true, if_false, pk_m1]
        exact ih (by omega) hij2 Q
      · rw [show d2F r i (j + 1) = j + 1 from if_neg (fun q => c2 q.2)]
        simp only [s235_42, s235_45, s235_46, s235_47, s235_48, s235_51, s235_52, s235_53, s235_56, s235_59, xcx_i, xcx_r, xcx_n, xcx_l, xcx_0, xcl_119, xln_119, i6, j6, bi, bj, cl_s, pos_s, true_and, r1, r2, e2, c2, not_false_eq_true, if_true]
  have l3 : ∀ f lo hi, lo ≤ hi + 1 → hi < n → hi < lo + f → ∀ (τ : xM) (s : Nat → Nat) (v2 v3 v4 : Option Value), only 119 σ τ → rowIs τ 119 n s → (∀ τ', only 119 σ τ' → rowIs τ' 119 n (rvF f s lo hi) → Q 1 τ') → xC 235 100 [some (.ref 84), some (.int (nI n)), v2, v3, v4, some (.int (nI lo)), some (.int (nI hi))] [] τ (xqI Q) := by
    intro f
    induction f with
    | zero =>
      intro lo hi h1 h2 h3 τ s v2 v3 v4 hs hrs hQ
      have e : (nI hi ≤ nI lo) = True := eq_true ((nI_leI (by omega) (by omega)).mpr (by omega))
      rw [s235_100]
      simp only [s235_102, s235_104, s235_107, s235_108, s235_111, s235_113, s235_114, s235_116, s235_117, s235_120, s235_122, s235_123, s235_126, s235_128, s235_129, s235_130, s235_131, s235_134, s235_136, s235_138, s235_139, s235_142, s235_145, s235_148, s235_149, xcx_i, xcx_r, xcx_n, xcx_l, xcx_0, e, if_true, true_or, or_true, true_and]
      exact hQ τ hs hrs
    | succ f ih =>
      intro lo hi h1 h2 h3 τ s v2 v3 v4 hs hrs hQ
      have e : (nI hi ≤ nI lo) = ¬ (lo < hi) := by rw [nI_leL (by omega) (by omega)]; exact propext ⟨fun q => by omega, fun q => by omega⟩
      rw [s235_100]
      by_cases c : lo < hi
      · obtain ⟨hi', rfl⟩ : ∃ hi', hi = hi' + 1 := ⟨hi - 1, by omega⟩
        rw [show rvF (f + 1) s lo (hi' + 1) = rvF f (swF s lo (hi' + 1)) (lo + 1) hi' from if_pos c] at hQ
        have b1 : lo < 100000 := by omega
        have b2 : hi' + 1 < 100000 := by omega
        have c1 : lo < 6 := by omega
        have c2 : hi' + 1 < 6 := by omega
        have r1 := hrs lo (by omega)
        have r2 := hrs (hi' + 1) (by omega)
        simp only [s235_102, s235_104, s235_107, s235_108, s235_111, s235_113, s235_114, s235_116, s235_117, s235_120, s235_122, s235_123, s235_126, s235_128, s235_129, s235_130, s235_131, s235_134, s235_136, s235_138, s235_139, s235_142, s235_145, xcx_i, xcx_r, xcx_n, xcx_l, xcx_0, e, c, not_true, if_false, xcl_119, xln_119, b1, b2, c1, c2, cl_s, pos_s, true_and, r1, r2, nI_1, pk_m1]
        exact ih (lo + 1) hi' (by omega) (by omega) (by omega) _ _ _ _ _ (hs.tr (only.rf _ _).si.si) (si_sw hrs) hQ
      · rw [show rvF (f + 1) s lo hi = s from if_neg c] at hQ
        simp only [s235_102, s235_104, s235_107, s235_108, s235_111, s235_113, s235_114, s235_116, s235_117, s235_120, s235_122, s235_123, s235_126, s235_128, s235_129, s235_130, s235_131, s235_134, s235_136, s235_138, s235_139, s235_142, s235_145, s235_148, s235_149, xcx_i, xcx_r, xcx_n, xcx_l, xcx_0, e, c, not_false_eq_true, if_true, true_or, or_true, true_and]
        exact hQ τ hs hrs
  rw [e235]
  rcases Nat.eq_zero_or_pos n with h0 | h0
  · subst h0
    have e2 : (nI 0 - 2 < 0) = True := eq_true (by decide)
    have e3 : ((0 : Int32) ≤ nI 0 - 2) = False := eq_false (by decide)
    simp only [s235_0, s235_1, s235_2, s235_3, xcx_i, xcx_r, xcx_n, xcx_l, xcx_0]
    rw [s235_4]
    simp only [s235_5, s235_8, s235_9, s235_12, s235_13, s235_14, s235_15, s235_18, s235_19, s235_20, s235_21, s235_22, s235_25, s235_28, s235_31, s235_32, s235_35, s235_36, xcx_i, xcx_r, xcx_n, xcx_l, xcx_0, e2, e3, if_true, if_false, true_or, or_true, true_and]
    exact hN rfl
  · have en : nI n - 2 = nI (n - 1) - 1 := by
      obtain ⟨k, rfl⟩ : ∃ k, n = k + 1 := ⟨n - 1, by omega⟩
      rw [Nat.add_sub_cancel, show (2 : Int32) = 1 + 1 from rfl, ← Int32.sub_sub, nI_pred]
    simp only [s235_0, s235_1, s235_2, s235_3, xcx_i, xcx_r, xcx_n, xcx_l, xcx_0, en]
    obtain ⟨i1, i2⟩ := l1 (n - 1) (by omega) (xqI Q)
    unfold nxF at hN hS
    cases hd : d1F r (n - 1) with
    | none =>
      rw [hd] at hN
      refine (iff_of_eq (i1 hd)).mpr ?_
      simp only [s235_31, s235_32, s235_35, s235_36, xcx_i, xcx_r, xcx_n, xcx_l, xcx_0, show ((0 : Int32) ≤ -1) = False from eq_false (by decide), if_false, true_or, or_true, true_and]
      exact hN rfl
    | some i =>
      rw [hd] at hS
      have hsp := d1F_spec _ _ hd
      have d2b := d2F_bd (r := r) (i := i) (n - 1)
      refine (iff_of_eq (i2 i hd)).mpr ?_
      have e0 : ((0 : Int32) ≤ nI i) = True := eq_true (nI_pos' (by omega))
      have en1 : nI n - 1 = nI (n - 1) := pk_sub (b := 1) h0
      simp only [s235_31, s235_32, s235_35, s235_36, s235_37, s235_38, s235_39, s235_40, xcx_i, xcx_r, xcx_n, xcx_l, xcx_0, e0, if_true, en1]
      refine (iff_of_eq (l2 i (by omega) hsp.2 (n - 1) (by omega) (by omega) _)).mpr ?_
      have b1 : i < 100000 := by omega
      have b2 : d2F r i (n - 1) < 100000 := by omega
      have c1 : i < 6 := by omega
      have c2 : d2F r i (n - 1) < 6 := by omega
      have r1 := hr i (by omega)
      have r2 := hr (d2F r i (n - 1)) (by omega)
      simp only [s235_62, s235_63, s235_66, s235_67, s235_68, s235_70, s235_71, s235_74, s235_75, s235_76, s235_79, s235_80, s235_81, s235_82, s235_83, s235_86, s235_87, s235_89, s235_90, s235_91, s235_92, s235_93, s235_95, s235_96, s235_97, s235_98, xcx_i, xcx_r, xcx_n, xcx_l, xcx_0, xcl_119, xln_119, b1, b2, c1, c2, cl_s, pos_s, true_and, r1, r2, nI_1, en1]
      have hrr : rowIs (xe_si (xe_si σ 119 i (nI (w (r (d2F r i (n - 1)))))) 119 (d2F r i (n - 1)) (nI (w (r i)))) 119 n (fun k => w (swF r i (d2F r i (n - 1)) k)) := by
        have h := si_sw (i := i) (j := d2F r i (n - 1)) hr
        intro k hk
        rw [h k hk]
        unfold swF upN
        by_cases q1 : k = d2F r i (n - 1)
        · simp only [q1, if_true]
        · by_cases q2 : k = i
          · simp only [q1, q2, if_true, if_false]
            by_cases q3 : i = d2F r i (n - 1)
            · exact absurd (q2.trans q3) q1
            · simp only [q3, if_false]
          · simp only [q1, q2, if_false]
      refine l3 n (i + 1) (n - 1) (by omega) (by omega) (by omega) _ _ _ _ _ (only.rf _ _).si.si hrr (fun τ' ho hr' => hS _ rfl (rvF_lt _ _ _ _ (swF_lt hlt (by omega) (by omega)) (by omega)) τ' ho ?_)
      rw [rvF_map] at hr'
      exact hr'
