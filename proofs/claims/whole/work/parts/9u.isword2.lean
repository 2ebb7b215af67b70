/-! isWord -/
theorem lN_inj {x y : Nat} (hx : x < 2 ^ 63) (hy : y < 2 ^ 63) (h : lN x = lN y) : x = y := by
  have e : (lN x).toInt = (lN y).toInt := by rw [h]
  have ex : (lN x).toInt = (x : Nat) := by
    show (Int64.ofNat x).toInt = _
    rw [Int64.toInt_ofNat_of_lt hx]
  have ey : (lN y).toInt = (y : Nat) := by
    show (Int64.ofNat y).toInt = _
    rw [Int64.toInt_ofNat_of_lt hy]
  omega
theorem stw_ge {k : Nat} (h : 1100 ≤ k ∧ k < 1114) : 3 ≤ (stw k).length := by
  have h' : ∀ s : Nat, s < 14 → 3 ≤ (xt_str.getD s []).length := by decide +kernel
  exact h' (k - 1100) (by omega)
theorem MisWord {σ : xM} {n i k : Nat} {bt : Nat → Nat} {Q : Int32 → xM → Prop} (h : txR σ n bt) (ht : tkR bt n i σ) (hi : i ≤ n) (hk : 1100 ≤ k ∧ k < 1114) (hQ1 : spl bt k i (runE isLt bt n (n - i) i) → Q 1 σ) (hQ0 : ¬ spl bt k i (runE isLt bt n (n - i) i) → Q 0 σ) : xI1 166 [.ref 84, .ref k] σ Q := by
  have hl := stw_lt hk
  have hl3 := stw_ge hk
  obtain ⟨g1, g2, g3, g4⟩ := runE_bd (P := isLt) (bt := bt) (n := n) (n - i) i (by omega)
  have none_run : (isLt (bt i) = false ∨ i = n) → ¬ spl bt k i (runE isLt bt n (n - i) i) := by
    intro z q
    have q1 := q.1
    have hlt : i < runE isLt bt n (n - i) i := by omega
    have := g4 i (Nat.le_refl i) hlt
    rcases z with z | z
    · rw [z] at this; cases this
    · omega
  rw [e166]
  obtain ⟨k4, ⟨c, k3, k2⟩ | ⟨c, cl, k3, k2, k5⟩ | ⟨c, cd, k3, k2, k5⟩ | ⟨c, cl, cd, k3, k2⟩⟩ := ht
  · have hq := hQ0 (none_run (Or.inr c))
    simp only [s166_0, s166_1, s166_4, s166_5, s166_8, s166_9, s166_12, s166_13, s166_16, s166_17, s166_20, s166_21, s166_24, s166_25, xcx_i, xcx_r, xcx_n, xcx_l, xcx_0, k3, show ((0 : Int32) = 1) = False from eq_false (by decide), not_false_eq_true, if_true, if_false, true_or, or_true, true_and]
    exact hq
  · have hpk : ∀ Q : Int64 → xM → Prop, xJ1 165 [.ref k] σ Q = _ := fun Q => Mpacked hk
    have hw : pkN (wb k) 0 (stw k).length < 2 ^ 63 := pkN_63 (by omega) (fun j hj => by rw [Nat.zero_add]; exact (wb_all hk hj).2.2)
    have hwb : ∀ j, j < (stw k).length → 97 ≤ wb k (0 + j) ∧ wb k (0 + j) ≤ 122 := fun j hj => by rw [Nat.zero_add]; exact (wb_all hk hj).2
    have hbt : ∀ j, j < runE isLt bt n (n - i) i - i → 97 ≤ bt (i + j) ∧ bt (i + j) ≤ 122 := fun j hj => by
      have := g4 (i + j) (by omega) (by omega)
      rw [isLt_iff] at this
      exact this
    generalize runE isLt bt n (n - i) i = r at g1 g2 g3 g4 hbt k2 k5 hQ1 hQ0 none_run
    have key : (lg_cmp (σ.2.1 84 5) (lN (pkN (wb k) 0 (stw k).length)) = 0) = spl bt k i r := by
      apply propext
      rw [lg_cmp_eq, k5]
      by_cases z : r - i ≤ 8
      · rw [if_pos z]
        have hv : pkN bt i (r - i) < 2 ^ 63 := pkN_63 z (fun j hj => (hbt j hj).2)
        constructor
        · intro q
          obtain ⟨e1, e2⟩ := pkN_inj (f := bt) (g := wb k) (a := i) (b := 0) (r - i) (stw k).length hbt hwb (lN_inj hv hw q)
          refine ⟨e1, fun m hm => ?_⟩
          rw [e2 m (by omega), Nat.zero_add]
          exact (wb_all hk hm).1
        · rintro ⟨e1, e2⟩
          have cong : ∀ m, m ≤ (stw k).length → pkN bt i m = pkN (wb k) 0 m := by
            intro m
            induction m with
            | zero => intro _; rw [show pkN bt i 0 = 0 from rfl, show pkN (wb k) 0 0 = 0 from rfl]
            | succ m ih =>
              intro hm
              have e3 := (e2 m hm).trans (wb_all hk hm).1.symm
              have e4 : bt (i + m) = wb k m := by
                have h1 := hbt m (by omega)
                have h2 := (wb_all hk hm).2
                exact (nI_eq (by omega) (by omega)).mp e3
              rw [show pkN bt i (m + 1) = pkN bt i m * 256 + bt (i + m) from rfl, show pkN (wb k) 0 (m + 1) = pkN (wb k) 0 m * 256 + wb k (0 + m) from rfl, ih (by omega), e4, Nat.zero_add]
          rw [e1, cong _ (Nat.le_refl _)]
      · rw [if_neg z]
        constructor
        · intro q
          have := lN_inj (by decide) hw q
          have hp : 0 < pkN (wb k) 0 ((stw k).length - 1 + 1) := pkN_pos (fun j hj => (hwb j (by omega)).1)
          rw [show (stw k).length - 1 + 1 = (stw k).length by omega] at hp
          omega
        · rintro ⟨e1, -⟩
          omega
    by_cases q : spl bt k i r
    · have hq := hQ1 q
      have key' : (lg_cmp (σ.2.1 84 5) (lN (pkN (wb k) 0 (stw k).length)) = 0) = True := by rw [key]; exact eq_true q
      simp only [s166_0, s166_1, s166_4, s166_5, s166_8, s166_9, s166_12, s166_13, s166_16, s166_17, s166_20, s166_21, s166_24, s166_25, xcx_i, xcx_r, xcx_n, xcx_l, xcx_0, k3, hpk, key', not_true, if_true, if_false, true_or, or_true, true_and]
      exact hq
    · have hq := hQ0 q
      have key' : (lg_cmp (σ.2.1 84 5) (lN (pkN (wb k) 0 (stw k).length)) = 0) = False := by rw [key]; exact eq_false q
      simp only [s166_0, s166_1, s166_4, s166_5, s166_8, s166_9, s166_12, s166_13, s166_16, s166_17, s166_20, s166_21, s166_24, s166_25, xcx_i, xcx_r, xcx_n, xcx_l, xcx_0, k3, hpk, key', not_true, not_false_eq_true, if_true, if_false, true_or, or_true, true_and]
      exact hq
  · have fl : isLt (bt i) = false := by
      cases hz : isLt (bt i) with
      | false => rfl
      | true => rw [isLt_iff] at hz; rw [isDg_iff] at cd; omega
    have hq := hQ0 (none_run (Or.inl fl))
    simp only [s166_0, s166_1, s166_4, s166_5, s166_8, s166_9, s166_12, s166_13, s166_16, s166_17, s166_20, s166_21, s166_24, s166_25, xcx_i, xcx_r, xcx_n, xcx_l, xcx_0, k3, show ((2 : Int32) = 1) = False from eq_false (by decide), not_false_eq_true, if_true, if_false, true_or, or_true, true_and]
    exact hq
  · have hq := hQ0 (none_run (Or.inl cl))
    have k3' : (σ.1 84 3 = 1) = False := eq_false (fun q => by
      rw [k3] at q
      by_cases z : bt i = 59
      · rw [if_pos z] at q; exact absurd q (by decide)
      · rw [if_neg z] at q; exact absurd q (by decide))
    simp only [s166_0, s166_1, s166_4, s166_5, s166_8, s166_9, s166_12, s166_13, s166_16, s166_17, s166_20, s166_21, s166_24, s166_25, xcx_i, xcx_r, xcx_n, xcx_l, xcx_0, k3', not_false_eq_true, if_true, if_false, true_or, or_true, true_and]
    exact hq
