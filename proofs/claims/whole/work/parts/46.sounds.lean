/-! the reference's soundings -/
def only (c : Nat) (σ τ : xM) : Prop := (∀ k, k ≠ c → τ.1 k = σ.1 k) ∧ τ.2.2 = σ.2.2
theorem only.rf (c : Nat) (σ : xM) : only c σ σ := ⟨fun _ _ => rfl, rfl⟩
theorem only.tr {c : Nat} {a b d : xM} (h1 : only c a b) (h2 : only c b d) : only c a d := ⟨fun k h => (h2.1 k h).trans (h1.1 k h), h2.2.trans h1.2⟩
theorem only.si {c : Nat} {σ τ : xM} {j : Nat} {v : Int32} (h : only c σ τ) : only c σ (xe_si τ c j v) := ⟨fun k hk => by rw [si_ne hk]; exact h.1 k hk, h.2⟩
theorem only.sim {c : Nat} {σ τ : xM} (h : only c σ τ) (hc : ∀ j, scr c j = true) : xSim σ τ := ⟨fun k j hk => by
  have : k ≠ c := fun e => by subst e; rw [hc j] at hk; cases hk
  rw [h.1 k this], h.2⟩
theorem pB.only {c : Nat} {σ τ : xM} {p nd : Nat} {dp wa : Nat → Nat} (h : pB σ p nd dp wa) (hs : only c σ τ) (h5 : c ≠ 5 ∧ c ≠ 6 ∧ c ≠ 8 ∧ c ≠ 9 ∧ c ≠ 84 ∧ c ≠ 94 ∧ c ≠ 96) : pB τ p nd dp wa := by
  obtain ⟨c5, c6, c8, c9, c84, c94, c96⟩ := h5
  refine h.sim hs.2 ?_ ?_ (congrFun (hs.1 84 (Ne.symm c84)) 21) (hs.1 94 (Ne.symm c94)) (hs.1 96 (Ne.symm c96))
  · rcases h.1 with e | e <;> rw [e]
    · exact hs.1 5 (Ne.symm c5)
    · exact hs.1 8 (Ne.symm c8)
  · rcases h.1 with e | e <;> rw [e]
    · exact hs.1 6 (Ne.symm c6)
    · exact hs.1 9 (Ne.symm c9)
theorem vM.only {c : Nat} {σ τ : xM} {n : Nat} {le dr co st : Nat → Nat} (h : vM σ n le dr co st) (hs : only c σ τ) (h5 : c ≠ 84 ∧ c ≠ 107) : vM τ n le dr co st := by
  unfold vM; rw [hs.1 84 (Ne.symm h5.1), hs.1 107 (Ne.symm h5.2)]; exact h
theorem lM.only {c : Nat} {σ τ : xM} {n : Nat} {L : Nat → Option (Nat × Nat)} (h : lM σ n L) (hs : only c σ τ) (h5 : c ≠ 108 ∧ c ≠ 109) : lM τ n L := by
  unfold lM; rw [hs.1 108 (Ne.symm h5.1), hs.1 109 (Ne.symm h5.2)]; exact h
theorem MofVisit {σ : xM} {v k : Nat} {Q : Int32 → xM → Prop} (hv : v < 5) (hk : k < 4) : xI1 225 [.ref 84, .int (nI v), .int (nI k)] σ Q = Q (σ.1 107 (4 * v + k)) σ := by
  have b0 : 4 * v + k < 100000 := by omega
  have c0 : 4 * v + k < 20 := by omega
  rw [e225]
  simp only [s225_0, s225_1, s225_4, s225_5, s225_6, s225_7, s225_8, s225_9, s225_10, xcx_i, xcx_r, xcx_n, xcx_l, xcx_0, ml_4, nI_add, xcl_107, xln_107, b0, c0, cl_s, pos_s, true_and]
theorem Mov0 {σ : xM} {v : Nat} {Q : Int32 → xM → Prop} (hv : v < 5) : xI1 225 [.ref 84, .int (nI v), .int 0] σ Q = Q (σ.1 107 (4 * v)) σ := MofVisit (k := 0) hv (by decide)
theorem Mov1 {σ : xM} {v : Nat} {Q : Int32 → xM → Prop} (hv : v < 5) : xI1 225 [.ref 84, .int (nI v), .int 1] σ Q = Q (σ.1 107 (4 * v + 1)) σ := MofVisit (k := 1) hv (by decide)
theorem Mov2 {σ : xM} {v : Nat} {Q : Int32 → xM → Prop} (hv : v < 5) : xI1 225 [.ref 84, .int (nI v), .int 2] σ Q = Q (σ.1 107 (4 * v + 2)) σ := MofVisit (k := 2) hv (by decide)
theorem Mov3 {σ : xM} {v : Nat} {Q : Int32 → xM → Prop} (hv : v < 5) : xI1 225 [.ref 84, .int (nI v), .int 3] σ Q = Q (σ.1 107 (4 * v + 3)) σ := MofVisit (k := 3) hv (by decide)
def shM (σ : xM) (n : Nat) (le dp : Nat → Nat) : Prop := ∀ v q, v < n → q + le v ≤ 200 → σ.1 118 (201 * v + q) = nI (ldN dp q (le v))
/-- 99, then the depths from place q on -/
def ld99 (dp : Nat → Nat) (q : Nat) : Nat → Nat
  | 0 => 99
  | k + 1 => min (ld99 dp q k) (dp (q + k))
theorem ld99_eq {dp : Nat → Nat} (h : ∀ x, dp x ≤ 40) (q k : Nat) : ld99 dp q (k + 1) = ldN dp q k := by
  induction k with
  | zero =>
    have := h q
    show min 99 (dp (q + 0)) = dp q
    rw [Nat.add_zero]; omega
  | succ k ih =>
    rw [show ld99 dp q (k + 1 + 1) = min (ld99 dp q (k + 1)) (dp (q + (k + 1))) from rfl, ih]; rfl
theorem ld99_le {dp : Nat → Nat} (q k : Nat) : ld99 dp q k ≤ 99 := by
  induction k with
  | zero => exact Nat.le_refl _
  | succ k ih => exact Nat.le_trans (Nat.min_le_left _ _) ih
theorem Msounds_in {σ : xM} {n p nd v q : Nat} {le dr co st dp wa : Nat → Nat} {l1 : Option Value} {Q : Option Value → xM → Prop} (hB : pB σ p nd dp wa) (hV : vM σ n le dr co st) (hv : v < n) (hq : q + le v ≤ 200) : ∀ m j, j + m = le v + 1 → xC 226 32 [some (.ref 84), some (.int (nI v)), some (.int (nI q)), some (.int (nI (ld99 dp q j))), some (.int (nI (q + j)))] [] σ Q = xC 226 62 [some (.ref 84), some (.int (nI v)), some (.int (nI q)), some (.int (nI (ldN dp q (le v)))), some (.int (nI (q + (le v + 1))))] [] σ Q := by
  obtain ⟨hn5, k1, hrow⟩ := hV
  obtain ⟨⟨v1, v2, v3, v4, v5, v6, v7⟩, v64, v65, v66, v67⟩ := hrow v hv
  obtain ⟨hp, hpe, ⟨hd, hd2, h4⟩, hdp, hd40, -⟩ := hB
  have hv5 : v < 5 := by omega
  intro m
  induction m with
  | zero =>
    intro j hj
    obtain rfl : j = le v + 1 := by omega
    have e : (nI (q + le v) < nI (q + (le v + 1))) = True := eq_true ((nI_ltI (by omega) (by omega)).mpr (by omega))
    rw [s226_32, ld99_eq hd40]
    simp only [s226_34, s226_35, s226_36, s226_37, s226_38, s226_41, s226_42, xcx_i, xcx_r, xcx_n, xcx_l, xcx_0, Mov0 hv5, v64, nI_add, e, if_true]
  | succ m ih =>
    intro j hj
    have e : (nI (q + le v) < nI (q + j)) = False := eq_false (fun w => by have := (nI_ltI (a := q + le v) (b := q + j) (by omega) (by omega)).mp w; omega)
    have h1 := ld99_le (dp := dp) q j
    have h2 := hd40 (q + j)
    have hmn : (if nI (dp (q + j)) < nI (ld99 dp q j) then nI (dp (q + j)) else nI (ld99 dp q j)) = nI (ld99 dp q (j + 1)) := mnN (by omega) (by omega)
    have hda : ∀ Q : Int32 → xM → Prop, xI1 222 [.ref 84, .int (nI (q + j))] σ Q = Q (nI (dp (q + j))) σ := fun Q => by rw [MdepthAt_eq hd2 h4, (hdp (q + j) (by omega)).2]
    rw [s226_32]
    simp only [s226_34, s226_35, s226_36, s226_37, s226_38, s226_41, s226_42, s226_45, s226_46, s226_47, s226_49, s226_52, s226_55, s226_56, s226_59, xcx_i, xcx_r, xcx_n, xcx_l, xcx_0, Mov0 hv5, v64, nI_add, e, if_false, hda, min_eq, hmn, nI_1, true_or, or_true]
    exact ih (j + 1) (by omega)
theorem Msounds_mid {σ : xM} {n p nd v : Nat} {le dr co st dp wa : Nat → Nat} {Q : xM → Prop} (hB : pB σ p nd dp wa) (hV : vM σ n le dr co st) (hv : v < n) : ∀ m q, q + m = 201 - le v → ∀ (τ : xM) (l3 l4 : Option Value), only 118 σ τ → (∀ u x, u ≤ v → x + le u ≤ 200 → (u < v ∨ x < q) → τ.1 118 (201 * u + x) = nI (ldN dp x (le u))) → (∀ (τ2 : xM) (l2 l3 l4 : Option Value), only 118 σ τ2 → (∀ u x, u ≤ v → x + le u ≤ 200 → τ2.1 118 (201 * u + x) = nI (ldN dp x (le u))) → xC 226 2 [some (.ref 84), some (.int (nI (v + 1))), l2, l3, l4] [] τ2 (xqV Q)) → xC 226 12 [some (.ref 84), some (.int (nI v)), some (.int (nI q)), l3, l4] [] τ (xqV Q) := by
  have hV0 := hV
  have hB0 := hB
  obtain ⟨hn5, k1, hrow⟩ := hV
  obtain ⟨⟨v1, v2, v3, v4, v5, v6, v7⟩, v64, v65, v66, v67⟩ := hrow v hv
  have hv5 : v < 5 := by omega
  intro m
  induction m with
  | zero =>
    intro q hq τ l3 l4 hs hd hQ
    have t64 : τ.1 107 (4 * v) = nI (le v) := by rw [hs.1 107 (by decide)]; exact v64
    have e : ((200 : Int32) < nI (q + le v)) = True := eq_true ((nI_ltI (a := 200) (by decide) (by omega)).mpr (by omega))
    rw [s226_12]
    simp only [s226_13, s226_14, s226_15, s226_16, s226_19, s226_20, s226_23, s226_81, s226_84, xcx_i, xcx_r, xcx_n, xcx_l, xcx_0, Mov0 hv5, t64, nI_add, e, if_true, nI_1]
    exact hQ τ _ _ _ hs (fun u x hu hx => hd u x hu hx (by
      rcases Nat.lt_or_ge u v with w | w
      · exact Or.inl w
      · obtain rfl : u = v := by omega
        exact Or.inr (by omega)))
  | succ m ih =>
    intro q hq τ l3 l4 hs hd hQ
    have t64 : τ.1 107 (4 * v) = nI (le v) := by rw [hs.1 107 (by decide)]; exact v64
    have e : ((200 : Int32) < nI (q + le v)) = False := eq_false (fun w => by have := (nI_ltI (a := 200) (b := q + le v) (by decide) (by omega)).mp w; omega)
    have m201 : (201 : Int32) * nI v = nI (201 * v) := pk_mul 201 v
    have b0 : 201 * v + q < 100000 := by omega
    have c0 : 201 * v + q < 1005 := by omega
    have hin := Msounds_in (hB0.only hs (by decide)) (hV0.only hs (by decide)) hv (show q + le v ≤ 200 by omega) (Q := xqV Q) (l1 := none) (le v + 1) 0 (by omega)
    rw [show ld99 dp q 0 = 99 from rfl, Nat.add_zero] at hin
    rw [s226_12]
    simp only [s226_13, s226_14, s226_15, s226_16, s226_19, s226_20, s226_23, s226_26, s226_28, s226_29, s226_30, xcx_i, xcx_r, xcx_n, xcx_l, xcx_0, Mov0 hv5, t64, nI_add, e, if_false]
    refine (iff_of_eq hin).mpr ?_
    simp only [s226_62, s226_63, s226_66, s226_69, s226_70, s226_71, s226_72, s226_73, s226_74, s226_75, s226_78, xcx_i, xcx_r, xcx_n, xcx_l, xcx_0, m201, nI_add, xcl_118, xln_118, b0, c0, cl_s, pos_s, true_and, nI_1, xcx_i, xcx_r, xcx_n, xcx_l, xcx_0]
    refine ih (q + 1) (by omega) _ _ _ hs.si (fun u x hu hx hux => ?_) hQ
    rw [si_rd]
    by_cases w : 201 * u + x = 201 * v + q
    · have hu5 : x ≤ 200 := by omega
      have hq5 : q ≤ 200 := by omega
      obtain rfl : u = v := by omega
      obtain rfl : x = q := by omega
      rw [if_pos ⟨rfl, rfl⟩]
    · rw [if_neg (fun z => w z.2)]
      refine hd u x hu hx ?_
      rcases hux with z | z
      · exact Or.inl z
      · rcases Nat.lt_or_ge u v with y | y
        · exact Or.inl y
        · obtain rfl : u = v := by omega
          exact Or.inr (by omega)
theorem Msounds_eq {σ : xM} {n p nd : Nat} {le dr co st dp wa : Nat → Nat} {Q : xM → Prop} (hB : pB σ p nd dp wa) (hV : vM σ n le dr co st) (hQ : ∀ τ, only 118 σ τ → shM τ n le dp → Q τ) : xV 226 [.ref 84] σ Q := by
  have hV0 := hV
  obtain ⟨hn5, k1, hrow⟩ := hV
  have loop : ∀ m v, v + m = n → ∀ (τ : xM) (l2 l3 l4 : Option Value), only 118 σ τ → (∀ u x, u < v → x + le u ≤ 200 → τ.1 118 (201 * u + x) = nI (ldN dp x (le u))) → xC 226 2 [some (.ref 84), some (.int (nI v)), l2, l3, l4] [] τ (xqV Q) := by
    intro m
    induction m with
    | zero =>
      intro v hv τ l2 l3 l4 hs hd
      obtain rfl : v = n := by omega
      have t43 : τ.1 84 43 = nI v := by rw [hs.1 84 (by decide)]; exact k1
      have e : (nI v ≤ nI v) = True := eq_true (Int32.le_refl _)
      rw [s226_2]
      simp only [s226_3, s226_4, s226_7, s226_87, xcx_i, xcx_r, xcx_n, xcx_l, xcx_0, t43, e, if_true]
      exact hQ τ hs (fun u x hu hx => hd u x hu hx)
    | succ m ih =>
      intro v hv τ l2 l3 l4 hs hd
      have t43 : τ.1 84 43 = nI n := by rw [hs.1 84 (by decide)]; exact k1
      have e : (nI n ≤ nI v) = False := eq_false (fun w => by have := (nI_leI (a := n) (b := v) (by omega) (by omega)).mp w; omega)
      obtain ⟨⟨v1, v2, v3, v4, v5, v6, v7⟩, -⟩ := hrow v (by omega)
      rw [s226_2]
      simp only [s226_3, s226_4, s226_7, s226_10, s226_11, xcx_i, xcx_r, xcx_n, xcx_l, xcx_0, t43, e, if_false]
      refine Msounds_mid hB hV0 (show v < n by omega) (201 - le v) 0 (by omega) τ _ _ hs (fun u x hu hx hux => ?_) (fun τ2 l2 l3 l4 hs2 hd2 => ?_)
      · rcases hux with z | z
        · exact hd u x z hx
        · exact absurd z (Nat.not_lt_zero x)
      · exact ih (v + 1) (by omega) τ2 l2 l3 l4 hs2 (fun u x hu hx => hd2 u x (by omega) hx)
  rw [e226]
  simp only [s226_0, s226_1, xcx_i, xcx_r, xcx_n, xcx_l, xcx_0]
  exact loop n 0 (by omega) σ _ _ _ (only.rf _ _) (fun u x hu _ => absurd hu (Nat.not_lt_zero u))
