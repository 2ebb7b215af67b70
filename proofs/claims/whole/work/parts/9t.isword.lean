/-! is it this word -/
def wb (k j : Nat) : Nat := ((stw k).getD j 0).toInt.toNat
theorem wb_all {k j : Nat} (hk : 1100 ≤ k ∧ k < 1114) (hj : j < (stw k).length) : nI (wb k j) = (stw k).getD j 0 ∧ 97 ≤ wb k j ∧ wb k j ≤ 122 := by
  have h : ∀ s : Nat, s < 14 → ∀ j : Nat, j < 8 → j < (xt_str.getD s []).length → nI ((xt_str.getD s []).getD j 0).toInt.toNat = (xt_str.getD s []).getD j 0 ∧ 97 ≤ ((xt_str.getD s []).getD j 0).toInt.toNat ∧ ((xt_str.getD s []).getD j 0).toInt.toNat ≤ 122 := by decide +kernel
  have hl := stw_lt hk
  exact h (k - 1100) (by omega) j (by omega) hj
theorem pkN_pos {f : Nat → Nat} {a m : Nat} (h : ∀ j, j < m + 1 → 97 ≤ f (a + j)) : 0 < pkN f a (m + 1) := by
  have := h m (Nat.lt_succ_self m)
  rw [show pkN f a (m + 1) = pkN f a m * 256 + f (a + m) from rfl]
  omega
theorem pkN_inj {f g : Nat → Nat} {a b : Nat} : ∀ m m', (∀ j, j < m → 97 ≤ f (a + j) ∧ f (a + j) ≤ 122) → (∀ j, j < m' → 97 ≤ g (b + j) ∧ g (b + j) ≤ 122) → pkN f a m = pkN g b m' → m = m' ∧ ∀ j, j < m → f (a + j) = g (b + j) := by
  intro m
  induction m with
  | zero =>
    intro m' _ hg e
    cases m' with
    | zero => exact ⟨rfl, fun j hj => absurd hj (Nat.not_lt_zero j)⟩
    | succ m' =>
      have := pkN_pos (f := g) (a := b) (m := m') (fun j hj => (hg j hj).1)
      rw [← e] at this
      exact absurd this (Nat.lt_irrefl 0)
  | succ m ih =>
    intro m' hf hg e
    cases m' with
    | zero =>
      have := pkN_pos (f := f) (a := a) (m := m) (fun j hj => (hf j hj).1)
      rw [e] at this
      exact absurd this (Nat.lt_irrefl 0)
    | succ m' =>
      rw [show pkN f a (m + 1) = pkN f a m * 256 + f (a + m) from rfl, show pkN g b (m' + 1) = pkN g b m' * 256 + g (b + m') from rfl] at e
      have h1 := hf m (Nat.lt_succ_self m)
      have h2 := hg m' (Nat.lt_succ_self m')
      obtain ⟨q1, q2⟩ := ih m' (fun j hj => hf j (Nat.lt_succ_of_lt hj)) (fun j hj => hg j (Nat.lt_succ_of_lt hj)) (by omega)
      subst q1
      refine ⟨rfl, fun j hj => ?_⟩
      rcases Nat.lt_or_eq_of_le (Nat.le_of_lt_succ hj) with z | z
      · exact q2 j z
      · subst z; omega
theorem Mpacked {σ : xM} {k : Nat} {Q : Int64 → xM → Prop} (hk : 1100 ≤ k ∧ k < 1114) : xJ1 165 [.ref k] σ Q = Q (lN (pkN (wb k) 0 (stw k).length)) σ := by
  have hl := stw_lt hk
  obtain ⟨c1, c2⟩ := stw_cls hk
  have hle : ∀ Q : Int32 → xM → Prop, xI1 8 [.ref k] σ Q = _ := fun Q => Jlength hk
  have loop : ∀ f m, m + f = (stw k).length → xC 165 4 [some (.ref k), some (.long (lN (pkN (wb k) 0 m))), none, some (.int (nI m))] [] σ (xqJ Q) = Q (lN (pkN (wb k) 0 (stw k).length)) σ := by
    intro f
    induction f with
    | zero =>
      intro m hm
      have hm' : m = (stw k).length := by omega
      have e : (nI (stw k).length ≤ nI m) = True := eq_true (by rw [hm']; exact Int32.le_refl _)
      rw [s165_4]
      simp only [s165_5, s165_6, s165_9, s165_30, s165_31, xcx_i, xcx_r, xcx_n, xcx_l, xcx_0, c1, hle, e, if_true]
      rw [hm']
    | succ f ih =>
      intro m hm
      have e := lt4N (n := (stw k).length) (i := m) (by omega) (by omega)
      have hch : ∀ Q : Int32 → xM → Prop, xI1 10 [.ref k, .int (nI m)] σ Q = _ := fun Q => JcharAt hk (by omega)
      obtain ⟨w1, w2, w3⟩ := wb_all hk (show m < (stw k).length by omega)
      have hbd : pkN (wb k) 0 (m + 1) < 2 ^ 63 := pkN_63 (by omega) (fun j hj => by rw [Nat.zero_add]; exact (wb_all hk (by omega)).2.2)
      have e1 : pkN (wb k) 0 (m + 1) = pkN (wb k) 0 m * 256 + wb k m := by
        show pkN (wb k) 0 m * 256 + wb k (0 + m) = _
        rw [Nat.zero_add]
      have ev : lN (pkN (wb k) 0 m) <<< ((8 : Int32).toInt64 &&& 63) ||| ((stw k).getD m 0).toInt64 = lN (pkN (wb k) 0 (m + 1)) := by
        rw [← w1, i2l_nI (by omega), e1]
        exact lN_pk (by rw [← e1]; exact hbd) (by omega)
      have next := ih (m + 1) (by omega)
      rw [s165_4]
      simp only [s165_5, s165_6, s165_9, s165_12, s165_13, s165_15, s165_16, s165_17, s165_18, s165_21, s165_22, s165_23, s165_24, s165_27, xcx_i, xcx_r, xcx_n, xcx_l, xcx_0, c1, hle, e, if_false, hch, ev, nI_1]
      exact next
  rw [e165]
  simp only [s165_0, s165_1, s165_2, s165_3, xcx_i, xcx_r, xcx_n, xcx_l, xcx_0]
  exact loop (stw k).length 0 (by omega)
