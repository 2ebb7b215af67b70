/-! the reference's tokens: blanks -/
def sbt (b : Nat) : Int32 := (nI b).toInt8.toInt32
theorem sbt_all : ∀ b : Nat, b < 256 → ((sbt b < 97) = decide (b < 97 ∨ 128 ≤ b)) ∧ ((122 < sbt b) = decide (122 < b ∧ b < 128)) ∧ ((sbt b < 48) = decide (b < 48 ∨ 128 ≤ b)) ∧ ((57 < sbt b) = decide (57 < b ∧ b < 128)) ∧ ((sbt b = 32) = decide (b = 32)) ∧ ((sbt b = 10) = decide (b = 10)) ∧ ((sbt b = 59) = decide (b = 59)) := by
  have h : ∀ b : Nat, b < 256 → (sbt b < 97 ↔ (b < 97 ∨ 128 ≤ b)) ∧ (122 < sbt b ↔ (122 < b ∧ b < 128)) ∧ (sbt b < 48 ↔ (b < 48 ∨ 128 ≤ b)) ∧ (57 < sbt b ↔ (57 < b ∧ b < 128)) ∧ (sbt b = 32 ↔ b = 32) ∧ (sbt b = 10 ↔ b = 10) ∧ (sbt b = 59 ↔ b = 59) := by decide +kernel
  intro b hb
  obtain ⟨h1, h2, h3, h4, h5, h6, h7⟩ := h b hb
  refine ⟨propext ?_, propext ?_, propext ?_, propext ?_, propext ?_, propext ?_, propext ?_⟩ <;> rw [decide_eq_true_eq] <;> assumption
theorem MisLetter {b : Nat} {σ : xM} {Q : Int32 → xM → Prop} (hb : b ≤ 255) : xI1 162 [.int (sbt b)] σ Q = Q (xb (97 ≤ b ∧ b ≤ 122)) σ := by
  obtain ⟨h1, h2, -⟩ := sbt_all b (by omega)
  rw [decide_eq_true_eq] at h1 h2
  rw [e162]
  by_cases c : 97 ≤ b ∧ b ≤ 122
  · have c1 : (sbt b < 97) = False := by rw [h1]; exact eq_false (by omega)
    have c2 : (122 < sbt b) = False := by rw [h2]; exact eq_false (by omega)
    simp only [s162_0, s162_1, s162_3, s162_6, s162_7, s162_9, s162_12, s162_13, s162_16, s162_17, xcx_i, xcx_r, xcx_n, xcx_l, xcx_0, c1, c2, if_false, true_or, or_true, true_and]
    unfold xb; rw [if_pos c]
  · by_cases c3 : b < 97 ∨ 128 ≤ b
    · have c1 : (sbt b < 97) = True := by rw [h1]; exact eq_true c3
      simp only [s162_0, s162_1, s162_3, s162_6, s162_7, s162_9, s162_12, s162_13, s162_16, s162_17, xcx_i, xcx_r, xcx_n, xcx_l, xcx_0, c1, if_true, true_or, or_true, true_and]
      unfold xb; rw [if_neg c]
    · have c1 : (sbt b < 97) = False := by rw [h1]; exact eq_false c3
      have c2 : (122 < sbt b) = True := by rw [h2]; exact eq_true (by omega)
      simp only [s162_0, s162_1, s162_3, s162_6, s162_7, s162_9, s162_12, s162_13, s162_16, s162_17, xcx_i, xcx_r, xcx_n, xcx_l, xcx_0, c1, c2, if_true, if_false, true_or, or_true, true_and]
      unfold xb; rw [if_neg c]
theorem MisDigit {b : Nat} {σ : xM} {Q : Int32 → xM → Prop} (hb : b ≤ 255) : xI1 163 [.int (sbt b)] σ Q = Q (xb (48 ≤ b ∧ b ≤ 57)) σ := by
  obtain ⟨-, -, h1, h2, -⟩ := sbt_all b (by omega)
  rw [decide_eq_true_eq] at h1 h2
  rw [e163]
  by_cases c : 48 ≤ b ∧ b ≤ 57
  · have c1 : (sbt b < 48) = False := by rw [h1]; exact eq_false (by omega)
    have c2 : (57 < sbt b) = False := by rw [h2]; exact eq_false (by omega)
    simp only [s163_0, s163_1, s163_3, s163_6, s163_7, s163_9, s163_12, s163_13, s163_16, s163_17, xcx_i, xcx_r, xcx_n, xcx_l, xcx_0, c1, c2, if_false, true_or, or_true, true_and]
    unfold xb; rw [if_pos c]
  · by_cases c3 : b < 48 ∨ 128 ≤ b
    · have c1 : (sbt b < 48) = True := by rw [h1]; exact eq_true c3
      simp only [s163_0, s163_1, s163_3, s163_6, s163_7, s163_9, s163_12, s163_13, s163_16, s163_17, xcx_i, xcx_r, xcx_n, xcx_l, xcx_0, c1, if_true, true_or, or_true, true_and]
      unfold xb; rw [if_neg c]
    · have c1 : (sbt b < 48) = False := by rw [h1]; exact eq_false c3
      have c2 : (57 < sbt b) = True := by rw [h2]; exact eq_true (by omega)
      simp only [s163_0, s163_1, s163_3, s163_6, s163_7, s163_9, s163_12, s163_13, s163_16, s163_17, xcx_i, xcx_r, xcx_n, xcx_l, xcx_0, c1, c2, if_true, if_false, true_or, or_true, true_and]
      unfold xb; rw [if_neg c]
/-- the reference's text -/
def txR (σ : xM) (n : Nat) (bt : Nat → Nat) : Prop := n ≤ 500 ∧ True ∧ σ.1 84 1 = nI n ∧ ∀ i, i < n → True ∧ bt i ≤ 255 ∧ σ.1 85 i = (nI (bt i)).toInt8.toInt32
theorem txt.R {σ : xM} {n : Nat} {bt : Nat → Nat} (h : txt σ n bt) : txR σ n bt := ⟨h.1, trivial, h.2.2.1, fun i hi => ⟨trivial, (h.2.2.2 i hi).2⟩⟩
/-- what leads changes -/
def lxM (σ τ : xM) : Prop := (∀ k j, ¬ (k = 84 ∧ (j = 2 ∨ j = 3 ∨ j = 4)) → τ.1 k j = σ.1 k j) ∧ τ.2.2 = σ.2.2
theorem lxM.rf (σ : xM) : lxM σ σ := ⟨fun _ _ _ => rfl, rfl⟩
theorem lxM.tr {a b c : xM} (h1 : lxM a b) (h2 : lxM b c) : lxM a c := ⟨fun k j q => (h2.1 k j q).trans (h1.1 k j q), h2.2.trans h1.2⟩
theorem lxM.si {σ τ : xM} {j : Nat} {v : Int32} (h : lxM σ τ) (hj : j = 2 ∨ j = 3 ∨ j = 4) : lxM σ (xe_si τ 84 j v) := ⟨fun k i q => by rw [si_rd, if_neg (fun z => q ⟨z.1, by rw [z.2]; exact hj⟩)]; exact h.1 k i q, h.2⟩
theorem lxM.txt {σ τ : xM} {n : Nat} {bt : Nat → Nat} (h : txR σ n bt) (hr : lxM σ τ) : txR τ n bt := by
  obtain ⟨h1, h2, h3, h4⟩ := h
  refine ⟨h1, h2, (hr.1 84 1 (fun z => by omega)).trans h3, fun i hi => ?_⟩
  rw [hr.1 85 i (fun z => by omega)]
  exact h4 i hi
theorem Mblanks {σ : xM} {n i : Nat} {bt : Nat → Nat} {Q : xM → Prop} (h : txR σ n bt) (hi : i ≤ n) (he : σ.1 84 2 = nI i) (hQ : ∀ τ, lxM σ τ → τ.1 84 2 = nI (runE isBl bt n (n - i) i) → xC 164 52 [some (.ref 84), none] [] τ (xqV Q)) : xV 164 [.ref 84] σ Q := by
  have hn := h.1
  have loop : ∀ f i, i + f = n → ∀ τ, lxM σ τ → τ.1 84 2 = nI i → (∀ τ', lxM σ τ' → τ'.1 84 2 = nI (runE isBl bt n f i) → xC 164 52 [some (.ref 84), none] [] τ' (xqV Q)) → xC 164 0 [some (.ref 84), none] [] τ (xqV Q) := by
    intro f
    induction f with
    | zero =>
      intro i hi τ hr h2 hQ
      obtain rfl : i = n := by omega
      have hx := lxM.txt h hr
      have hq := hQ τ hr h2
      rw [s164_0]
      simp only [s164_1, s164_4, s164_5, s164_8, xcx_i, xcx_r, xcx_n, xcx_l, xcx_0, h2, hx.2.2.1, Int32.le_refl, if_true]
      exact hq
    | succ f ih =>
      intro i hi τ hr h2 hQ
      have hx := lxM.txt h hr
      have e := lt4N (n := n) (i := i) (by omega) (by omega)
      obtain ⟨b1, b2, b3⟩ := hx.2.2.2 i (by omega)
      have b3' : τ.1 85 i = sbt (bt i) := b3
      obtain ⟨-, -, -, -, e32, e10, -⟩ := sbt_all (bt i) (by omega)
      rw [decide_eq_true_eq] at e32 e10
      have i1 : i < 100000 := by omega
      have i2 : i < 500 := by omega
      rw [s164_0]
      by_cases c : bt i = 32 ∨ bt i = 10
      · rw [show runE isBl bt n (f + 1) i = runE isBl bt n f (i + 1) from if_pos ⟨by omega, by rw [isBl_iff]; exact c⟩] at hQ
        have next := ih (i + 1) (by omega) (xe_si τ 84 2 (nI (i + 1))) (hr.si (Or.inl rfl)) (by rw [si_rd, if_pos ⟨rfl, rfl⟩]) hQ
        rcases c with c | c
        · have c' : (bt i = 32) = True := eq_true c
          simp only [s164_1, s164_4, s164_5, s164_8, s164_11, s164_12, s164_15, s164_16, s164_19, s164_20, s164_22, s164_25, s164_26, s164_29, s164_30, s164_33, s164_34, s164_36, s164_39, s164_40, s164_41, s164_44, s164_45, s164_46, s164_49, xcx_i, xcx_r, xcx_n, xcx_l, xcx_0, h2, hx.2.2.1, e, if_false, xcl_85, true_or, xln_85, i1, i2, cl_s, pos_s, true_and, b3', e32, c', if_true, nI_1]
          exact next
        · have c' : (bt i = 10) = True := eq_true c
          have c32 : (bt i = 32) = False := eq_false (by omega)
          simp only [s164_1, s164_4, s164_5, s164_8, s164_11, s164_12, s164_15, s164_16, s164_19, s164_20, s164_22, s164_25, s164_26, s164_29, s164_30, s164_33, s164_34, s164_36, s164_39, s164_40, s164_41, s164_44, s164_45, s164_46, s164_49, xcx_i, xcx_r, xcx_n, xcx_l, xcx_0, h2, hx.2.2.1, e, if_false, xcl_85, true_or, xln_85, i1, i2, cl_s, pos_s, true_and, b3', e32, e10, c', c32, not_true, if_true, nI_1]
          exact next
      · rw [show runE isBl bt n (f + 1) i = i from if_neg (fun z => by rw [isBl_iff] at z; exact c z.2)] at hQ
        have hq := hQ τ hr h2
        have c32 : (bt i = 32) = False := eq_false (fun z => c (Or.inl z))
        have c10 : (bt i = 10) = False := eq_false (fun z => c (Or.inr z))
        simp only [s164_1, s164_4, s164_5, s164_8, s164_11, s164_12, s164_15, s164_16, s164_19, s164_20, s164_22, s164_25, s164_26, s164_29, s164_30, s164_33, s164_34, s164_36, xcx_i, xcx_r, xcx_n, xcx_l, xcx_0, h2, hx.2.2.1, e, if_false, xcl_85, true_or, xln_85, i1, i2, cl_s, pos_s, true_and, b3', e32, e10, c32, c10, not_false_eq_true, if_true]
        exact hq
  rw [e164]
  exact loop (n - i) i (by omega) σ (lxM.rf σ) he hQ
