/-! moorings: the class at rest -/
def tbX (τ : xM) (n H : Nat) (W R K : Nat → Int) : Prop := ∀ r v, r < 41 → v < 21 → τ.1 46 (21 * r + v) = iI (alF W R K H n (uO r) (v : Nat)) ∧ τ.1 47 (21 * r + v) = iI (puF W R K H n (uO r) (v : Nat))
/-- the tables where lines up to i are in, and of line i the ranks below r -/
def tf47 (W R K : Nat → Int) (H i r : Nat) : Nat → Int := fun j => smP (plI W R K (uO (j / 21)) ((j % 21 : Nat) : Int)) H (if j / 21 < r then i + 1 else i)
def tf46 (W R K : Nat → Int) (H i r : Nat) : Nat → Int := fun j => smP (fun l => (W l - uO (j / 21)).sign * plI W R K (uO (j / 21)) ((j % 21 : Nat) : Int) l) H (if j / 21 < r then i + 1 else i)
theorem XspreadPulls {σ : xM} {n H : Nat} {W R K B : Nat → Int} {S : Nat → Nat} {Q : xM → Prop} (hM : moX σ n H W R K B S) (hQ : ∀ τ, (∀ k j, k ≠ 46 → k ≠ 47 → ¬ (k = 38 ∧ j = 7) → τ.1 k j = σ.1 k j) → τ.2.2 = σ.2.2 → τ.1 38 7 = 1 → tbX τ n H W R K → Q τ) : xV 49 [.ref 38] σ Q := by
  have hn6 := hM.1.1
  have hH := hM.2.1
  have h10 : ¬ (1 : Int32) = 0 := by decide
  have ranks : ∀ i, i < n → H.testBit i = true → ∀ m r, r + m = 41 → ∀ τ, tabs σ τ → rowI τ 46 861 (tf46 W R K H i r) → rowI τ 47 861 (tf47 W R K H i r) → (∀ τ l2, tabs σ τ → rowI τ 46 861 (tf46 W R K H i 41) → rowI τ 47 861 (tf47 W R K H i 41) → xC 49 57 [some (.ref 38), some (.int (nI i)), l2] [] τ (xqV Q)) → xC 49 28 [some (.ref 38), some (.int (nI i)), some (.int (nI r))] [] τ (xqV Q) := by
    intro i hi hb m
    induction m with
    | zero =>
      intro r hr τ hs h1 h2 hQ
      obtain rfl : r = 41 := by omega
      rw [s49_28]
      simp only [s49_29, s49_31, xcx_i, xcx_r, xcx_n, xcx_l, xcx_0, show ((41 : Int32) ≤ nI 41) = True from eq_true (by decide), if_true]
      exact hQ τ _ hs h1 h2
    | succ m ih =>
      intro r hr τ hs h1 h2 hQ
      have e : ((41 : Int32) ≤ nI r) = False := eq_false (fun q => by have := (nI_leI (a := 41) (b := r) (by decide) (by omega)).mp q; omega)
      have hMτ := hM.tabs hs
      have hbit : (nI H >>> (nI i &&& 31) &&& 1 = 1) = (H.testBit i = true) := bit64 hH (by omega)
      have h38 := hMτ.2.2.2.1
      rw [s49_28]
      simp only [s49_29, s49_31, s49_34, s49_35, s49_38, s49_39, s49_42, s49_45, s49_46, s49_47, s49_48, xcx_i, xcx_r, xcx_n, xcx_l, xcx_0, e, if_false, h38, hasBit_eq, hbit, hb, xb_f, ite_not, if_true, true_or, or_true, true_and]
      refine XaddPulls hMτ hi (by omega) h1 h2 (fun τ' hs' h1' h2' => ?_)
      simp only [s49_51, s49_54, xcx_i, xcx_r, xcx_n, xcx_l, xcx_0, nI_1]
      refine ih (r + 1) (by omega) τ' (hs.tr hs') (h1'.of (fun j hj => ?_)) (h2'.of (fun j hj => ?_)) hQ
      · unfold adP tf46
        by_cases q : 21 * r ≤ j ∧ j < 21 * r + 21
        · have q1 : j / 21 = r := by omega
          have q2 : j % 21 = j - 21 * r := by omega
          rw [if_pos q, q1, q2, if_neg (Nat.lt_irrefl r), if_pos (by omega : r < r + 1)]
          show _ = smP _ H i + (if H.testBit i then _ else 0)
          rw [if_pos hb]
        · rw [if_neg q]
          by_cases q1 : j / 21 < r
          · rw [if_pos q1, if_pos (by omega)]
          · rw [if_neg q1, if_neg (by omega)]
      · unfold adP tf47
        by_cases q : 21 * r ≤ j ∧ j < 21 * r + 21
        · have q1 : j / 21 = r := by omega
          have q2 : j % 21 = j - 21 * r := by omega
          rw [if_pos q, q1, q2, if_neg (Nat.lt_irrefl r), if_pos (by omega : r < r + 1)]
          show _ = smP _ H i + (if H.testBit i then _ else 0)
          rw [if_pos hb]
        · rw [if_neg q]
          by_cases q1 : j / 21 < r
          · rw [if_pos q1, if_pos (by omega)]
          · rw [if_neg q1, if_neg (by omega)]
  have lines : ∀ m i, i + m = n → ∀ τ l2, tabs σ τ → rowI τ 46 861 (tf46 W R K H i 0) → rowI τ 47 861 (tf47 W R K H i 0) → xC 49 18 [some (.ref 38), some (.int (nI i)), l2] [] τ (xqV Q) := by
    intro m
    induction m with
    | zero =>
      intro i hi τ l2 hs h1 h2
      obtain rfl : i = n := by omega
      have h38 := (hM.tabs hs).2.2.1
      rw [s49_18]
      simp only [s49_19, s49_20, s49_23, s49_63, s49_64, s49_65, s49_68, xcx_i, xcx_r, xcx_n, xcx_l, xcx_0, h38, Int32.le_refl, if_true, true_or, or_true, true_and]
      refine hQ _ (fun k j k1 k2 k3 => ?_) hs.2 rfl (fun r v hr hv => ?_)
      · rw [si_rd, if_neg k3, hs.1 k k1 k2]
      · rw [si_ne (by decide), si_ne (by decide), h1 _ (by omega), h2 _ (by omega)]
        unfold tf46 tf47 alF puF
        have q1 : (21 * r + v) / 21 = r := by omega
        have q2 : (21 * r + v) % 21 = v := by omega
        rw [q1, q2, if_neg (Nat.not_lt_zero r)]
        exact ⟨rfl, rfl⟩
    | succ m ih =>
      intro i hi τ l2 hs h1 h2
      have h38 := (hM.tabs hs).2.2.1
      have h381 := (hM.tabs hs).2.2.2.1
      have e := lt4N (n := n) (i := i) (by omega) (by omega)
      have hbit : (nI H >>> (nI i &&& 31) &&& 1 = 1) = (H.testBit i = true) := bit64 hH (by omega)
      rw [s49_18]
      simp only [s49_19, s49_20, s49_23, s49_26, s49_27, xcx_i, xcx_r, xcx_n, xcx_l, xcx_0, h38, e, if_false]
      by_cases hb : H.testBit i = true
      · refine ranks i (by omega) hb 41 0 (by omega) τ hs h1 h2 (fun τ' l2' hs' h1' h2' => ?_)
        simp only [s49_57, s49_60, xcx_i, xcx_r, xcx_n, xcx_l, xcx_0, nI_1]
        refine ih (i + 1) (by omega) τ' _ hs' (h1'.of (fun j hj => ?_)) (h2'.of (fun j hj => ?_))
        · unfold tf46; rw [if_pos (by omega), if_neg (Nat.not_lt_zero _)]
        · unfold tf47; rw [if_pos (by omega), if_neg (Nat.not_lt_zero _)]
      · have e41 : ((41 : Int32) ≤ 0) = False := eq_false (by decide)
        rw [s49_28]
        simp only [s49_29, s49_31, s49_34, s49_35, s49_38, s49_39, s49_42, s49_45, s49_46, s49_47, s49_48, s49_51, s49_54, s49_57, s49_60, xcx_i, xcx_r, xcx_n, xcx_l, xcx_0, e41, if_false, h381, hasBit_eq, hbit, hb, xb_f, ite_not, not_false_eq_true, if_true, nI_1, true_or, or_true, true_and, Bool.false_eq_true]
        refine ih (i + 1) (by omega) τ _ hs (h1.of (fun j hj => ?_)) (h2.of (fun j hj => ?_))
        · unfold tf46; rw [if_neg (Nat.not_lt_zero _), if_neg (Nat.not_lt_zero _)]
          show _ = smP _ H i + (if H.testBit i then _ else 0)
          rw [if_neg hb, Int.add_zero]
        · unfold tf47; rw [if_neg (Nat.not_lt_zero _), if_neg (Nat.not_lt_zero _)]
          show _ = smP _ H i + (if H.testBit i then _ else 0)
          rw [if_neg hb, Int.add_zero]
  rw [e49]
  simp only [s49_0, s49_1, s49_4, s49_5, xcx_i, xcx_r, xcx_n, xcx_l, xcx_0]
  refine Xfill (n := 861) xcl_46 xln_46 (fun τ1 hs1 h1 => ?_)
  simp only [s49_8, s49_9, s49_12, s49_13, xcx_i, xcx_r, xcx_n, xcx_l, xcx_0]
  refine Xfill (n := 861) xcl_47 xln_47 (fun τ2 hs2 h2 => ?_)
  simp only [s49_16, s49_17, xcx_i, xcx_r, xcx_n, xcx_l, xcx_0]
  refine lines n 0 (by omega) τ2 _ ⟨fun k k1 k2 => by rw [hs2.1 k k2, hs1.1 k k1], hs2.2.trans hs1.2⟩ (fun j hj => ?_) (fun j hj => ?_)
  · rw [hs2.1 46 (by decide), h1 j hj]
    unfold tf46; rw [if_neg (Nat.not_lt_zero _)]; rfl
  · rw [h2 j hj]
    unfold tf47; rw [if_neg (Nat.not_lt_zero _)]; rfl
