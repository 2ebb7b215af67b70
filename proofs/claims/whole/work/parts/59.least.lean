/-! least -/
def lsU (r w : Nat) : Option (Nat × Nat) → Option (Nat × Nat)
  | none => some (r, w)
  | some (b, f) => if w < f then some (r, w) else some (b, f)
def lsB : Option (Nat × Nat) → Int32
  | none => -1
  | some (b, _) => nI b
def lsX : Option (Nat × Nat) → Int32
  | none => 1000000
  | some (_, f) => nI f
def lsM : Option (Nat × Nat) → Int32
  | none => 0
  | some (_, f) => nI f
def lsF (lw : Nat → Bool) (W : Nat → Nat) : Nat → Nat → Option (Nat × Nat) → Option (Nat × Nat)
  | 0, _, a => a
  | m + 1, r, a => lsF lw W m (r + 1) (if lw r then lsU r (W r) a else a)
def lsOk (a : Option (Nat × Nat)) : Prop := ∀ b f, a = some (b, f) → b < 100000 ∧ f < 1000000
theorem lsU_ok {r w : Nat} {a : Option (Nat × Nat)} (h : lsOk a) (hr : r < 100000) (hw : w < 1000000) : lsOk (lsU r w a) := by
  intro b f e
  cases a with
  | none => cases e; exact ⟨hr, hw⟩
  | some x =>
    obtain ⟨b', f'⟩ := x
    by_cases c : w < f'
    · rw [show lsU r w (some (b', f')) = some (r, w) from if_pos c] at e
      cases e; exact ⟨hr, hw⟩
    · rw [show lsU r w (some (b', f')) = some (b', f') from if_neg c] at e
      exact h b f e
theorem XleastRow {σ : xM} {p nc ng nt : Nat} {mi me la wn mn sl : Nat → Nat} {Q : Int32 → xM → Prop} (hC : cX σ p nc mi me la wn ng mn sl nt) (hQ : ∀ τ, xSim σ τ → Q (lsB (lsF (fun r => lwF me wn ng mn nt r nc 0) (fun r => (run mi la wn sl (fun c => r / 4 ^ c % 4) nt nc).w 0) (2 ^ (2 * nc)) 0 none)) τ) : xI1 33 [.ref 51, .ref p] σ Q := by
  have hc6 := hC.1.1
  have hpw := pw46 hc6
  have hp := hC.2.1.1
  have hbW : ∀ r, (run mi la wn sl (fun c => r / 4 ^ c % 4) nt nc).w 0 ≤ 36000 ∨ ¬ lwF me wn ng mn nt r nc 0 = true := by
    intro r
    by_cases h : lwF me wn ng mn nt r nc 0 = true
    · left
      have hgi := lwF_row h
      have := (run_bd (mi := mi) (la := la) (wn := wn) (sl := sl) (gi := fun c => r / 4 ^ c % 4) (nt := nt) nc hc6 (fun d hd => ⟨(hC.1.2.2.2.1 d hd).1, (hC.1.2.2.2.1 d hd).2.2.1, (hC.1.2.2.2.2 _ (hgi d hd)).2⟩)).2.2 0 (by decide)
      omega
    · exact Or.inr h
  have loop : ∀ m r, r + m = 2 ^ (2 * nc) → ∀ (τ : xM) (a : Option (Nat × Nat)), xSim σ τ → lsOk a → (∀ τ, xSim σ τ → Q (lsB (lsF (fun r => lwF me wn ng mn nt r nc 0) (fun r => (run mi la wn sl (fun c => r / 4 ^ c % 4) nt nc).w 0) m r a)) τ) → xC 33 8 [some (.ref 51), some (.ref p), some (.int (lsB a)), some (.int (lsX a)), some (.int (nI r))] [] τ (xqI Q) := by
    intro m
    induction m with
    | zero =>
      intro r hr τ a hs ha hQ
      have hkx : τ.1 51 0 = nI nc := (hs.1 51 0 rfl).trans hC.2.2.1
      have e : (nI (2 ^ (2 * nc)) ≤ nI r) = True := eq_true ((nI_leI (by omega) (by omega)).mpr (by omega))
      rw [s33_8]
      simp only [s33_10, s33_11, s33_12, s33_13, s33_16, s33_17, s33_18, s33_21, s33_22, s33_23, s33_25, s33_28, s33_31, s33_32, s33_33, s33_35, s33_38, s33_39, s33_42, s33_43, s33_46, s33_47, s33_50, s33_51, s33_53, s33_54, s33_57, s33_60, s33_61, xcx_i, xcx_r, xcx_n, xcx_l, xcx_0, hkx, ml_2, shl1 (show 2 * nc ≤ 12 by omega), e, if_true]
      exact hQ τ hs
    | succ m ih =>
      intro r hr τ a hs ha hQ
      have hkx : τ.1 51 0 = nI nc := (hs.1 51 0 rfl).trans hC.2.2.1
      have e := lt4N (n := 2 ^ (2 * nc)) (i := r) (by omega) (by omega)
      have hCτ := hC.sim hs
      have hlX : ∀ Q : Int32 → xM → Prop, xI1 29 [.ref 51, .ref p, .int (nI r)] τ Q = _ := fun Q => XisLawful hCτ (by omega)
      have hnext : ∀ (τ' : xM) (a' : Option (Nat × Nat)), xSim σ τ' → lsOk a' → (∀ τ, xSim σ τ → Q (lsB (lsF (fun r => lwF me wn ng mn nt r nc 0) (fun r => (run mi la wn sl (fun c => r / 4 ^ c % 4) nt nc).w 0) m (r + 1) a')) τ) → xC 33 54 [some (.ref 51), some (.ref p), some (.int (lsB a')), some (.int (lsX a')), some (.int (nI r))] [] τ' (xqI Q) := by
        intro τ' a' hs' ha' hQ'
        simp only [s33_54, s33_57, xcx_i, xcx_r, xcx_n, xcx_l, xcx_0, nI_1]
        exact ih (r + 1) (by omega) τ' a' hs' ha' hQ'
      have h10 : ¬ (1 : Int32) = 0 := by decide
      rw [s33_8]
      by_cases hlw : lwF me wn ng mn nt r nc 0 = true
      · have hgi := lwF_row hlw
        have hW : (run mi la wn sl (fun c => r / 4 ^ c % 4) nt nc).w 0 ≤ 36000 := by
          rcases hbW r with q | q
          · exact q
          · exact absurd hlw q
        have hQ2 : ∀ τ, xSim σ τ → Q (lsB (lsF (fun r => lwF me wn ng mn nt r nc 0) (fun r => (run mi la wn sl (fun c => r / 4 ^ c % 4) nt nc).w 0) m (r + 1) (lsU r ((run mi la wn sl (fun c => r / 4 ^ c % 4) nt nc).w 0) a))) τ := by
          intro τ hs
          have h := hQ τ hs
          rw [show lsF (fun r => lwF me wn ng mn nt r nc 0) (fun r => (run mi la wn sl (fun c => r / 4 ^ c % 4) nt nc).w 0) (m + 1) r a = lsF (fun r => lwF me wn ng mn nt r nc 0) (fun r => (run mi la wn sl (fun c => r / 4 ^ c % 4) nt nc).w 0) m (r + 1) (if lwF me wn ng mn nt r nc 0 then lsU r ((run mi la wn sl (fun c => r / 4 ^ c % 4) nt nc).w 0) a else a) from rfl, if_pos hlw] at h
          exact h
        have hafter : ∀ τ', MX τ τ' nc (run mi la wn sl (fun c => r / 4 ^ c % 4) nt nc) → xC 33 38 [some (.ref 51), some (.ref p), some (.int (lsB a)), some (.int (lsX a)), some (.int (nI r))] [] τ' (xqI Q) := by
          intro τ' hM
          have w0 := hM.2.1 0 (by decide)
          rw [show (0 : Nat) + 1 = 1 from rfl] at w0
          have hs' := hs.tr hM.1
          have hn := hnext τ' _ hs' (lsU_ok ha (show r < 100000 by omega) (show (run mi la wn sl (fun c => r / 4 ^ c % 4) nt nc).w 0 < 1000000 by omega)) hQ2
          cases a with
          | none =>
            have e2 : ((1000000 : Int32) ≤ nI ((run mi la wn sl (fun c => r / 4 ^ c % 4) nt nc).w 0)) = False := eq_false (fun q => by have := (nI_leI (a := 1000000) (by decide) (by omega)).mp q; omega)
            simp only [s33_38, s33_39, s33_42, s33_43, s33_46, s33_47, s33_50, s33_51, s33_53, xcx_i, xcx_r, xcx_n, xcx_l, xcx_0, w0, lsX, e2, if_false]
            exact hn
          | some x =>
            obtain ⟨b, f⟩ := x
            obtain ⟨hb, hf⟩ := ha b f rfl
            have e2 : (nI f ≤ nI ((run mi la wn sl (fun c => r / 4 ^ c % 4) nt nc).w 0)) = ¬ ((run mi la wn sl (fun c => r / 4 ^ c % 4) nt nc).w 0 < f) := by rw [nI_leL (by omega) (by omega)]; exact propext ⟨fun q => by omega, fun q => by omega⟩
            by_cases c : (run mi la wn sl (fun c => r / 4 ^ c % 4) nt nc).w 0 < f
            · rw [show lsU r ((run mi la wn sl (fun c => r / 4 ^ c % 4) nt nc).w 0) (some (b, f)) = some (r, (run mi la wn sl (fun c => r / 4 ^ c % 4) nt nc).w 0) from if_pos c] at hn
              simp only [s33_38, s33_39, s33_42, s33_43, s33_46, s33_47, s33_50, s33_51, s33_53, xcx_i, xcx_r, xcx_n, xcx_l, xcx_0, w0, lsX, e2, c, not_true, if_false]
              exact hn
            · rw [show lsU r ((run mi la wn sl (fun c => r / 4 ^ c % 4) nt nc).w 0) (some (b, f)) = some (b, f) from if_neg c] at hn
              simp only [s33_38, s33_39, s33_42, s33_43, s33_46, s33_47, s33_50, s33_51, s33_53, xcx_i, xcx_r, xcx_n, xcx_l, xcx_0, w0, lsX, e2, c, not_false_eq_true, if_true]
              exact hn
        have hmt := fun Q hQ' => Xmeet (Q := Q) hCτ (show r < 2147483648 by omega) hgi hQ'
        rcases hp with rfl | rfl
        · simp only [s33_10, s33_11, s33_12, s33_13, s33_16, s33_17, s33_18, s33_21, s33_22, s33_23, s33_25, s33_28, s33_31, s33_32, s33_33, s33_35, xcx_i, xcx_r, xcx_n, xcx_l, xcx_0, hkx, ml_2, shl1 (show 2 * nc ≤ 12 by omega), e, if_false, hlX, hlw, if_true, h10, not_false_eq_true, true_or, or_true, true_and]
          exact hmt _ hafter
        · simp only [s33_10, s33_11, s33_12, s33_13, s33_16, s33_17, s33_18, s33_21, s33_22, s33_23, s33_25, s33_28, s33_31, s33_32, s33_33, s33_35, xcx_i, xcx_r, xcx_n, xcx_l, xcx_0, hkx, ml_2, shl1 (show 2 * nc ≤ 12 by omega), e, if_false, hlX, hlw, if_true, h10, not_false_eq_true, true_or, or_true, true_and]
          exact hmt _ hafter
      · have hQ2 : ∀ τ, xSim σ τ → Q (lsB (lsF (fun r => lwF me wn ng mn nt r nc 0) (fun r => (run mi la wn sl (fun c => r / 4 ^ c % 4) nt nc).w 0) m (r + 1) a)) τ := by
          intro τ hs
          have h := hQ τ hs
          rw [show lsF (fun r => lwF me wn ng mn nt r nc 0) (fun r => (run mi la wn sl (fun c => r / 4 ^ c % 4) nt nc).w 0) (m + 1) r a = lsF (fun r => lwF me wn ng mn nt r nc 0) (fun r => (run mi la wn sl (fun c => r / 4 ^ c % 4) nt nc).w 0) m (r + 1) (if lwF me wn ng mn nt r nc 0 then lsU r ((run mi la wn sl (fun c => r / 4 ^ c % 4) nt nc).w 0) a else a) from rfl, if_neg hlw] at h
          exact h
        have hn := hnext τ a hs ha hQ2
        rcases hp with rfl | rfl
        · simp only [s33_10, s33_11, s33_12, s33_13, s33_16, s33_17, s33_18, s33_21, s33_22, s33_23, s33_25, s33_28, xcx_i, xcx_r, xcx_n, xcx_l, xcx_0, hkx, ml_2, shl1 (show 2 * nc ≤ 12 by omega), e, if_false, hlX, hlw, if_true, not_true, true_or, or_true, true_and, Bool.false_eq_true]
          exact hn
        · simp only [s33_10, s33_11, s33_12, s33_13, s33_16, s33_17, s33_18, s33_21, s33_22, s33_23, s33_25, s33_28, xcx_i, xcx_r, xcx_n, xcx_l, xcx_0, hkx, ml_2, shl1 (show 2 * nc ≤ 12 by omega), e, if_false, hlX, hlw, if_true, not_true, true_or, or_true, true_and, Bool.false_eq_true]
          exact hn
  rw [e33]
  simp only [s33_0, s33_1, s33_2, s33_4, s33_5, s33_6, xcx_i, xcx_r, xcx_n, xcx_l, xcx_0]
  exact loop (2 ^ (2 * nc)) 0 (by omega) σ none (xSim.rf σ) (fun b f q => by cases q) hQ
