/-! frames for image and back -/
def xSimW (ch : Nat → Nat → Bool) (σ σ' : xM) : Prop := (∀ k j, ch k j = false → σ'.1 k j = σ.1 k j) ∧ σ'.2.2 = σ.2.2
theorem xSimW.row {ch : Nat → Nat → Bool} {σ σ' : xM} (h : xSimW ch σ σ') {k : Nat} (hk : ∀ j, ch k j = false) : σ'.1 k = σ.1 k := funext fun j => h.1 k j (hk j)
theorem xSimW.port {ch : Nat → Nat → Bool} {σ σ' : xM} (h : xSimW ch σ σ') (h5 : ∀ j, ch 5 j = false) (h6 : ∀ j, ch 6 j = false) (h8 : ∀ j, ch 8 j = false) (h9 : ∀ j, ch 9 j = false) (hp : (σ.2.2 1 = 4 ∧ σ.2.2 2 = 7) ∨ (σ.2.2 1 = 7 ∧ σ.2.2 2 = 4)) : σ'.1 (σ'.2.2 1 + 1) = σ.1 (σ.2.2 1 + 1) ∧ σ'.1 (σ'.2.2 1 + 2) = σ.1 (σ.2.2 1 + 2) := by
  rw [h.2]
  rcases hp with ⟨h1, -⟩ | ⟨h1, -⟩ <;> rw [h1]
  · exact ⟨h.row h5, h.row h6⟩
  · exact ⟨h.row h8, h.row h9⟩
def chI (k _j : Nat) : Bool := decide ((17 ≤ k ∧ k ≤ 37) ∨ (99 ≤ k ∧ k ≤ 103))
def chS (k j : Nat) : Bool := decide ((10 ≤ k ∧ k ≤ 16) ∨ k = 98 ∨ (k = 84 ∧ 28 ≤ j ∧ j ≤ 31))
theorem xInv.simI {xs : Nat → Int32} {L : Nat} {σ σ' : xM} (h : xInv xs L σ) (hs : xSimW chI σ σ') (hw : gI σ') : xInv xs L σ' := by
  obtain ⟨hP, hT, hS, hI, hC, hR, hB, hN, hL, hX⟩ := h
  obtain ⟨e1, e2⟩ := hs.port (fun _ => rfl) (fun _ => rfl) (fun _ => rfl) (fun _ => rfl) hP.1
  have r92 := hs.row (k := 92) fun _ => rfl
  have r93 := hs.row (k := 93) fun _ => rfl
  have r94 := hs.row (k := 94) fun _ => rfl
  have r95 := hs.row (k := 95) fun _ => rfl
  have r96 := hs.row (k := 96) fun _ => rfl
  have r97 := hs.row (k := 97) fun _ => rfl
  have m17 := hs.1 84 17 rfl
  have m19 := hs.1 84 19 rfl
  have m21 := hs.1 84 21 rfl
  have m23 := hs.1 84 23 rfl
  have m25 := hs.1 84 25 rfl
  refine ⟨⟨by rw [hs.2]; exact hP.1, ?_⟩, ?_, ?_, ?_, ?_, ?_, ?_, ?_, ?_, ?_⟩
  · rw [e1, e2, r92, r93, r94, r95, r96, r97]
    have h := hP.2
    unfold gPV at h ⊢
    rw [m17, m19, m21, m23, m25]
    exact h
  · unfold gT at hT ⊢
    rw [hs.1 2 1 rfl, hs.1 84 1 rfl, hs.row (k := 85) fun _ => rfl, hs.row (k := 3) fun _ => rfl]
    exact hT
  · unfold gS at hS ⊢
    rw [hs.1 84 31 rfl, hs.1 84 28 rfl, hs.1 84 29 rfl, hs.1 84 30 rfl, m17, m19, hs.row (k := 10) fun _ => rfl, hs.row (k := 11) fun _ => rfl, hs.row (k := 12) fun _ => rfl, hs.row (k := 13) fun _ => rfl, hs.row (k := 14) fun _ => rfl, hs.row (k := 15) fun _ => rfl, hs.row (k := 16) fun _ => rfl, hs.row (k := 98) fun _ => rfl]
    exact hS
  · exact hw
  · unfold gC at hC ⊢
    rw [hs.1 51 0 rfl, hs.1 84 38 rfl, hs.row (k := 104) fun _ => rfl, hs.row (k := 53) fun _ => rfl, hs.row (k := 54) fun _ => rfl, hs.row (k := 55) fun _ => rfl, hs.row (k := 56) fun _ => rfl]
    exact hC
  · unfold gR at hR ⊢
    rw [hs.1 59 0 rfl, hs.1 84 40 rfl, m23, hs.row (k := 105) fun _ => rfl, hs.row (k := 106) fun _ => rfl, hs.row (k := 60) fun _ => rfl, hs.row (k := 61) fun _ => rfl]
    exact hR
  · unfold gB at hB ⊢
    rw [hs.1 63 0 rfl, hs.1 84 43 rfl, m21, e1, hs.row (k := 107) fun _ => rfl, hs.row (k := 108) fun _ => rfl, hs.row (k := 109) fun _ => rfl, hs.row (k := 64) fun _ => rfl, hs.row (k := 65) fun _ => rfl, hs.row (k := 66) fun _ => rfl, hs.row (k := 67) fun _ => rfl, hs.row (k := 68) fun _ => rfl, hs.row (k := 69) fun _ => rfl, hs.row (k := 72) fun _ => rfl]
    exact hB
  · unfold gN at hN ⊢
    rw [hs.1 73 0 rfl, hs.1 84 47 rfl, hs.row (k := 110) fun _ => rfl, hs.row (k := 75) fun _ => rfl, hs.row (k := 76) fun _ => rfl, hs.row (k := 77) fun _ => rfl]
    exact hN
  · unfold gL at hL ⊢
    rw [hs.1 80 0 rfl, hs.1 84 49 rfl, hs.row (k := 111) fun _ => rfl, hs.row (k := 81) fun _ => rfl, hs.row (k := 82) fun _ => rfl, hs.row (k := 83) fun _ => rfl]
    exact hL
  · unfold gX at hX ⊢
    rw [hs.1 1011 0 rfl, hs.row (k := 1010) fun _ => rfl]
    exact hX
theorem xInv.simS {xs : Nat → Int32} {L : Nat} {σ σ' : xM} (h : xInv xs L σ) (hs : xSimW chS σ σ') (hw : gS σ') : xInv xs L σ' := by
  obtain ⟨hP, hT, hS, hI, hC, hR, hB, hN, hL, hX⟩ := h
  obtain ⟨e1, e2⟩ := hs.port (fun _ => rfl) (fun _ => rfl) (fun _ => rfl) (fun _ => rfl) hP.1
  have r92 := hs.row (k := 92) fun _ => rfl
  have r93 := hs.row (k := 93) fun _ => rfl
  have r94 := hs.row (k := 94) fun _ => rfl
  have r95 := hs.row (k := 95) fun _ => rfl
  have r96 := hs.row (k := 96) fun _ => rfl
  have r97 := hs.row (k := 97) fun _ => rfl
  have m17 := hs.1 84 17 rfl
  have m19 := hs.1 84 19 rfl
  have m21 := hs.1 84 21 rfl
  have m23 := hs.1 84 23 rfl
  have m25 := hs.1 84 25 rfl
  refine ⟨⟨by rw [hs.2]; exact hP.1, ?_⟩, ?_, ?_, ?_, ?_, ?_, ?_, ?_, ?_, ?_⟩
  · rw [e1, e2, r92, r93, r94, r95, r96, r97]
    have h := hP.2
    unfold gPV at h ⊢
    rw [m17, m19, m21, m23, m25]
    exact h
  · unfold gT at hT ⊢
    rw [hs.1 2 1 rfl, hs.1 84 1 rfl, hs.row (k := 85) fun _ => rfl, hs.row (k := 3) fun _ => rfl]
    exact hT
  · exact hw
  · unfold gI gIk at hI ⊢
    rw [m17, m19, hs.row (k := 99) fun _ => rfl, hs.row (k := 100) fun _ => rfl, hs.row (k := 101) fun _ => rfl, hs.row (k := 102) fun _ => rfl, hs.row (k := 103) fun _ => rfl, hs.row (k := 17) fun _ => rfl, hs.row (k := 17 + 1) fun _ => rfl, hs.row (k := 17 + 2) fun _ => rfl, hs.row (k := 17 + 3) fun _ => rfl, hs.row (k := 17 + 4) fun _ => rfl, hs.row (k := 17 + 5) fun _ => rfl, hs.row (k := 17 + 6) fun _ => rfl,
      hs.row (k := 24) fun _ => rfl, hs.row (k := 24 + 1) fun _ => rfl, hs.row (k := 24 + 2) fun _ => rfl, hs.row (k := 24 + 3) fun _ => rfl, hs.row (k := 24 + 4) fun _ => rfl, hs.row (k := 24 + 5) fun _ => rfl, hs.row (k := 24 + 6) fun _ => rfl,
      hs.row (k := 31) fun _ => rfl, hs.row (k := 31 + 1) fun _ => rfl, hs.row (k := 31 + 2) fun _ => rfl, hs.row (k := 31 + 3) fun _ => rfl, hs.row (k := 31 + 4) fun _ => rfl, hs.row (k := 31 + 5) fun _ => rfl, hs.row (k := 31 + 6) fun _ => rfl]
    exact hI
  · unfold gC at hC ⊢
    rw [hs.1 51 0 rfl, hs.1 84 38 rfl, hs.row (k := 104) fun _ => rfl, hs.row (k := 53) fun _ => rfl, hs.row (k := 54) fun _ => rfl, hs.row (k := 55) fun _ => rfl, hs.row (k := 56) fun _ => rfl]
    exact hC
  · unfold gR at hR ⊢
    rw [hs.1 59 0 rfl, hs.1 84 40 rfl, m23, hs.row (k := 105) fun _ => rfl, hs.row (k := 106) fun _ => rfl, hs.row (k := 60) fun _ => rfl, hs.row (k := 61) fun _ => rfl]
    exact hR
  · unfold gB at hB ⊢
    rw [hs.1 63 0 rfl, hs.1 84 43 rfl, m21, e1, hs.row (k := 107) fun _ => rfl, hs.row (k := 108) fun _ => rfl, hs.row (k := 109) fun _ => rfl, hs.row (k := 64) fun _ => rfl, hs.row (k := 65) fun _ => rfl, hs.row (k := 66) fun _ => rfl, hs.row (k := 67) fun _ => rfl, hs.row (k := 68) fun _ => rfl, hs.row (k := 69) fun _ => rfl, hs.row (k := 72) fun _ => rfl]
    exact hB
  · unfold gN at hN ⊢
    rw [hs.1 73 0 rfl, hs.1 84 47 rfl, hs.row (k := 110) fun _ => rfl, hs.row (k := 75) fun _ => rfl, hs.row (k := 76) fun _ => rfl, hs.row (k := 77) fun _ => rfl]
    exact hN
  · unfold gL at hL ⊢
    rw [hs.1 80 0 rfl, hs.1 84 49 rfl, hs.row (k := 111) fun _ => rfl, hs.row (k := 81) fun _ => rfl, hs.row (k := 82) fun _ => rfl, hs.row (k := 83) fun _ => rfl]
    exact hL
  · unfold gX at hX ⊢
    rw [hs.1 1011 0 rfl, hs.row (k := 1010) fun _ => rfl]
    exact hX
theorem gI_all {σ : xM} : gI σ ↔ ∀ k, k < 3 → gIk σ (17 + 7 * k) k := by
  constructor
  · rintro ⟨h1, h2, h3⟩ k hk
    have : k = 0 ∨ k = 1 ∨ k = 2 := by omega
    rcases this with rfl | rfl | rfl
    · exact h1
    · exact h2
    · exact h3
  · intro h
    exact ⟨h 0 (by omega), h 1 (by omega), h 2 (by omega)⟩
theorem imageAt_in {σ : xM} {k : Nat} (hk : k < 3) {Q : Value → xM → Prop} : xA1 148 [.ref 0, .int (nI k)] σ Q = Q (.ref (17 + 7 * k)) σ := by
  have f1 : (nI k < 0) = False := eq_false (nI_pos (by omega))
  have f2 : (Int32.ofNat 3 ≤ nI k) = False := eq_false (fun q => by have := (nI_leI (a := 3) (b := k) (by decide) (by omega)).mp q; omega)
  have b0 : k < 100000 := by omega
  have hr : xe_rf 1 k = 17 + 7 * k := by
    have : k = 0 ∨ k = 1 ∨ k = 2 := by omega
    rcases this with rfl | rfl | rfl <;> rfl
  rw [e148]
  simp only [s148_0, s148_1, s148_4, s148_5, s148_5_n, s148_6, s148_9, s148_9_l, s148_9_q, s148_10, s148_13, s148_13_n, s148_14, s148_17, s148_18, s148_19, s148_22, s148_23, s148_23_n, xcl_1, xln_1, f1, f2, if_false, b0, hk, cl_s, pos_s, true_and, hr]
theorem imageAt_out {σ : xM} {a : Int32} (ha : ¬ (0 ≤ a ∧ a ≤ 2)) {Q : Value → xM → Prop} : xA1 148 [.ref 0, .int a] σ Q = Q .null σ := by
  rw [e148]
  by_cases h0 : a < 0
  · simp only [s148_0, s148_1, s148_4, s148_5, s148_5_n, s148_6, s148_9, s148_9_l, s148_9_q, s148_10, s148_13, s148_13_n, s148_14, s148_17, s148_18, s148_19, s148_22, s148_23, s148_23_n, h0, if_true]
  · obtain ⟨k, hk, rfl⟩ := nI_of h0
    have f2 : (Int32.ofNat 3 ≤ nI k) = True := eq_true ((nI_leI (a := 3) (b := k) (by decide) hk).mpr (by
      rcases Nat.lt_or_ge 2 k with q | q
      · exact q
      · exact absurd ⟨nI_pos' hk, (nI_leI (b := 2) hk (by decide)).mpr q⟩ ha))
    simp only [s148_0, s148_1, s148_4, s148_5, s148_5_n, s148_6, s148_9, s148_9_l, s148_9_q, s148_10, s148_13, s148_13_n, s148_14, s148_17, s148_18, s148_19, s148_22, s148_23, s148_23_n, xcl_1, xln_1, h0, f2, if_false, if_true]
