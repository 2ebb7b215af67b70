/-! held -/
def heR (D E : Nat → Nat → Nat) (bow deck hour n ns : Nat) (s : Int) (r : Nat) : Prop := r ≤ 1000 ∧ (∀ w, w < r → goW D E bow deck hour n ns (w : Nat) s (2 ^ n - 1) (-1)) ∧ (r = 1000 ∨ ∃ k : Nat, k < 100 ∧ goW D E bow deck hour n ns (r : Nat) s (2 ^ n - 1) (k : Nat))
theorem wh2_nat {P B : Nat → Int} {S sb : Nat → Nat} {H n ns : Nat} (hn : n ≤ 6) (hns : ns ≤ 8) (hP : ∀ i, i < n → 0 ≤ P i ∧ P i ≤ 1600) (hB : ∀ i, i < n → 0 ≤ B i ∧ B i ≤ 999) : (wh2 P B S sb H n ns).2 = -1 ∨ ∃ k : Nat, (wh2 P B S sb H n ns).2 = (k : Nat) ∧ k < 100 := by
  obtain ⟨-, -, h⟩ := wh2_bd (S := S) (sb := sb) (H := H) hn hP hB ns
  rcases h with h | ⟨i, h1, h2, h3⟩ | ⟨s, h1, h2, -⟩
  · exact Or.inl h
  · exact Or.inr ⟨i, h2, by omega⟩
  · exact Or.inr ⟨10 + s, by rw [h2]; omega, by omega⟩
theorem XgreatestWind {σ τ0 : xM} {p n ns nr bow deck hour : Nat} {D E : Nat → Nat → Nat} {s : Int} {Q : Int32 → xM → Prop} (h : sdX σ p n ns nr bow deck D E) (hb : sdB n ns nr bow deck D E) (hs : -99 ≤ s ∧ s ≤ 99) (hs0 : xSim σ τ0) (hM0 : moX τ0 n (2 ^ n - 1) (wyF D E bow) (rmF D E bow deck hour) (hdF D E) (brF D E) (D 1)) (h70 : τ0.1 38 7 = 0) (hQ : ∀ τ r, xSim σ τ → heR D E bow deck hour n ns s r → Q (nI r - 1) τ) : xI1 37 [.ref 48, .ref 38, .ref p, .int (iI s)] τ0 Q := by
  have hn6 := hb.1
  have hns8 := hb.2.1
  have hld := hb.ld hour (Nat.le_refl n)
  have hp := h.1.1
  have loop : ∀ f i, i + f = 1000 → ∀ τ, xSim σ τ → moX τ n (2 ^ n - 1) (wyF D E bow) (rmF D E bow deck hour) (hdF D E) (brF D E) (D 1) → (τ.1 38 7 = 0 ∨ (τ.1 38 7 = 1 ∧ tbX τ n (2 ^ n - 1) (wyF D E bow) (rmF D E bow deck hour) (hdF D E))) → (∀ w, w < i → goW D E bow deck hour n ns (w : Nat) s (2 ^ n - 1) (-1)) → xC 37 3 [some (.ref 48), some (.ref 38), some (.ref p), some (.int (iI s)), some (.int (nI i))] [] τ (xqI Q) := by
    intro f
    induction f with
    | zero =>
      intro i hi τ hsim hM hf hlow
      obtain rfl : i = 1000 := by omega
      have hq := hQ τ 1000 hsim ⟨Nat.le_refl _, hlow, Or.inl rfl⟩
      rw [show nI 1000 - 1 = 999 by decide] at hq
      rw [s37_3]
      simp only [s37_5, s37_8, s37_38, s37_41, xcx_i, xcx_r, xcx_n, xcx_l, xcx_0, show ((999 : Int32) < nI 1000) = True from eq_true (by decide), if_true]
      exact hq
    | succ f ih =>
      intro i hi τ hsim hM hf hlow
      have e : ((999 : Int32) < nI i) = False := eq_false (fun q => by have q2 : nI 999 < nI i := q; rw [nI_ltL (by decide) (by omega)] at q2; omega)
      rw [s37_3]
      simp only [s37_5, s37_8, s37_11, s37_12, s37_14, s37_15, xcx_i, xcx_r, xcx_n, xcx_l, xcx_0, e, if_false]
      have ei : (Value.int (nI i)) = Value.int (iI (i : Nat)) := by rw [nI_iI]
      rw [ei]
      refine Xsettle hM hf (show 0 ≤ ((i : Nat) : Int) ∧ ((i : Nat) : Int) ≤ 999 by omega) hs (fun τ1 u v hg h71 hT1 hB hS => ?_)
      rw [← ei]
      have hsim1 := hsim.tr hg.sim
      have hM1 := hM.mog hg
      have hmo : ∀ Q : Int32 → xM → Prop, xI1 53 [.ref 38, .ref p] τ1 Q = _ := fun Q => XmostOver hM1 (h.sim hsim1) hb hB.1 hS.2.2.2.2
      have hit := wh2_nat (S := D 1) (sb := E 1) (H := 2 ^ n - 1) hn6 hns8 (fun i hi => plI_bd hld hB.1 hi) (fun i hi => (hld.2 i hi).2.2.2.2.1)
      have hgo : goW D E bow deck hour n ns (i : Nat) s (2 ^ n - 1) (wh2 (plI (wyF D E bow) (rmF D E bow deck hour) (hdF D E) u v) (brF D E) (D 1) (E 1) (2 ^ n - 1) n ns).2 := ⟨u, v, hB, rfl⟩
      generalize (wh2 (plI (wyF D E bow) (rmF D E bow deck hour) (hdF D E) u v) (brF D E) (D 1) (E 1) (2 ^ n - 1) n ns).2 = k at hmo hit hgo
      rcases hit with rfl | ⟨k, rfl, hk⟩
      · have em : (iI (-1) = -1) = True := eq_true rfl
        have next := ih (i + 1) (by omega) τ1 hsim1 hM1 (Or.inr ⟨h71, hT1⟩) (fun w hw => by
          rcases Nat.lt_or_eq_of_le (Nat.le_of_lt_succ hw) with q | q
          · exact hlow w q
          · subst q; exact hgo)
        rcases hp with rfl | rfl
        · simp only [s37_18, s37_19, s37_20, s37_23, s37_24, s37_27, s37_29, s37_30, s37_31, s37_32, s37_35, xcx_i, xcx_r, xcx_n, xcx_l, xcx_0, hmo, em, if_true, if_false, nI_1, true_or, or_true]
          exact next
        · simp only [s37_18, s37_19, s37_20, s37_23, s37_24, s37_27, s37_29, s37_30, s37_31, s37_32, s37_35, xcx_i, xcx_r, xcx_n, xcx_l, xcx_0, hmo, em, if_true, if_false, nI_1, true_or, or_true]
          exact next
      · have em := iI_m1 hk
        have hq := hQ τ1 i hsim1 ⟨by omega, hlow, Or.inr ⟨k, hk, hgo⟩⟩
        rcases hp with rfl | rfl
        · simp only [s37_18, s37_19, s37_20, s37_23, s37_24, s37_27, s37_29, s37_30, s37_31, xcx_i, xcx_r, xcx_n, xcx_l, xcx_0, hmo, em, if_true, if_false, true_or, or_true]
          exact hq
        · simp only [s37_18, s37_19, s37_20, s37_23, s37_24, s37_27, s37_29, s37_30, s37_31, xcx_i, xcx_r, xcx_n, xcx_l, xcx_0, hmo, em, if_true, if_false, true_or, or_true]
          exact hq
  rw [e37]
  simp only [s37_0, s37_1, xcx_i, xcx_r, xcx_n, xcx_l, xcx_0]
  exact loop 1000 0 (by omega) τ0 hs0 hM0 (Or.inl h70) (fun w hw => absurd hw (Nat.not_lt_zero w))
theorem Mhe_loop {σ : xM} {n ns nr bow deck hour : Nat} {D E : Nat → Nat → Nat} {s : Int} {r : Nat} {Q : Int32 → xM → Prop} (h : sdM σ n ns nr bow deck D E) (hb : sdB n ns nr bow deck D E) (hh : hour ≤ 99) (hl : σ.1 84 31 = nI n) (hs : -99 ≤ s ∧ s ≤ 99) (hr : heR D E bow deck hour n ns s r) (hQ : ∀ τ', mrs σ τ' → Q (nI r - 1) τ') : ∀ f i, i + f = r → ∀ τ, mrs σ τ → xC 205 14 [some (.ref 84), some (.int (nI hour)), some (.int (iI s)), some (.int (nI i))] [] τ (xqI Q) := by
  have hn6 := hb.1
  obtain ⟨hr1, hr2, hr3⟩ := hr
  intro f
  induction f with
  | zero =>
    intro i hi τ hm
    obtain rfl : i = r := by omega
    have hX := h.sim hm.sim
    have hlτ : τ.1 84 31 = nI n := (hm.1 84 31 (fun z => by omega)).trans hl
    rw [s205_14]
    rcases hr3 with rfl | ⟨k, hk, hg⟩
    · simp only [s205_15, s205_18, s205_42, s205_43, s205_44, s205_45, xcx_i, xcx_r, xcx_n, xcx_l, xcx_0, show ((1000 : Int32) ≤ nI 1000) = True from eq_true (by decide), if_true]
      exact hQ τ hm
    · by_cases c : i = 1000
      · subst c
        simp only [s205_15, s205_18, s205_42, s205_43, s205_44, s205_45, xcx_i, xcx_r, xcx_n, xcx_l, xcx_0, show ((1000 : Int32) ≤ nI 1000) = True from eq_true (by decide), if_true]
        exact hQ τ hm
      · have e : ((1000 : Int32) ≤ nI i) = False := eq_false (fun q => by have := (nI_leI (a := 1000) (b := i) (by decide) (by omega)).mp q; omega)
        simp only [s205_15, s205_18, s205_21, s205_22, s205_23, s205_24, s205_25, s205_26, s205_29, xcx_i, xcx_r, xcx_n, xcx_l, xcx_0, e, if_false, Mall_eq hlτ hn6]
        have ei : (Value.int (nI i)) = Value.int (iI (i : Nat)) := by rw [nI_iI]
        rw [ei]
        refine MgoesNext hX hb hh (Nat.le_refl n) hlτ (all64 hn6) (show 0 ≤ ((i : Nat) : Int) ∧ ((i : Nat) : Int) ≤ 999 by omega) hs (fun τ2 u v hr2 _ _ hB => ?_)
        have ek := goW_eq ⟨u, v, hB, rfl⟩ hg
        rw [← ei, ek]
        have em := iI_m1 hk
        simp only [s205_32, s205_33, s205_36, s205_39, s205_42, s205_43, s205_44, s205_45, xcx_i, xcx_r, xcx_n, xcx_l, xcx_0, em, not_false_eq_true, if_true, if_false]
        exact hQ τ2 (hm.tr hr2)
  | succ f ih =>
    intro i hi τ hm
    have hX := h.sim hm.sim
    have hlτ : τ.1 84 31 = nI n := (hm.1 84 31 (fun z => by omega)).trans hl
    have e : ((1000 : Int32) ≤ nI i) = False := eq_false (fun q => by have := (nI_leI (a := 1000) (b := i) (by decide) (by omega)).mp q; omega)
    rw [s205_14]
    simp only [s205_15, s205_18, s205_21, s205_22, s205_23, s205_24, s205_25, s205_26, s205_29, xcx_i, xcx_r, xcx_n, xcx_l, xcx_0, e, if_false, Mall_eq hlτ hn6]
    have ei : (Value.int (nI i)) = Value.int (iI (i : Nat)) := by rw [nI_iI]
    rw [ei]
    refine MgoesNext hX hb hh (Nat.le_refl n) hlτ (all64 hn6) (show 0 ≤ ((i : Nat) : Int) ∧ ((i : Nat) : Int) ≤ 999 by omega) hs (fun τ2 u v hr' _ _ hB => ?_)
    have ek := goW_eq ⟨u, v, hB, rfl⟩ (hr2 i (by omega))
    rw [← ei, ek]
    have em : (iI (-1) = -1) = True := eq_true rfl
    simp only [s205_32, s205_33, s205_36, s205_39, xcx_i, xcx_r, xcx_n, xcx_l, xcx_0, em, not_true, if_true, if_false, nI_1]
    exact ih (i + 1) (by omega) τ2 (hm.tr hr')
theorem op_held (a c : Int32) : xOp 122 205 [.int a, .int c] := by
  intro xs L σ hI
  have h28 : σ.1 84 28 = σ.1 10 0 := by
    obtain ⟨n, hn6, k1, k2, h01, h28, hz, h1, hrow⟩ := hI.2.2.1
    exact h28
  have h01 : σ.1 10 0 = 0 ∨ σ.1 10 0 = 1 := by
    obtain ⟨n, hn6, k1, k2, h01, h28, hz, h1, hrow⟩ := hI.2.2.1
    exact h01
  by_cases hG : ¬ σ.1 10 0 = 0 ∧ (0 ≤ a ∧ a ≤ 99) ∧ ((0 : Int32) ≤ 0 ∧ (0 : Int32) ≤ 999) ∧ (-99 ≤ c ∧ c ≤ 99)
  · obtain ⟨ha, hga, -, hgc⟩ := id hG
    obtain ⟨hour, rfl, hh⟩ := toN (b := 99) (by decide) hga
    obtain ⟨s, rfl, hs1, hs2⟩ := toI hgc
    have hs : -99 ≤ s ∧ s ≤ 99 := ⟨hs1, hs2⟩
    have ha1 : σ.1 10 0 = 1 := by
      rcases h01 with q | q
      · exact absurd q ha
      · exact q
    obtain ⟨p, n, ns, nr, bow, deck, D, E, hb, hsl, hX, hM, kx, km, hns1⟩ := hI.ship ha1
    have hn6 := hb.1
    have hpe := hX.1.2.1
    have after2 : ∀ τ r, xSim σ τ → heR D E bow deck hour n ns s r → xI1 205 (.ref 84 :: [.int (nI hour), .int (iI s)]) τ (fun r2 σ2 => nI r - 1 = r2 ∧ xInv xs L σ2) := by
      intro τ r hsim hr
      have hMτ := hM.sim hsim
      have kmτ : τ.1 84 31 = nI n := (hsim.1 84 31 rfl).trans km
      have h28τ : τ.1 84 28 = σ.1 10 0 := (hsim.1 84 28 rfl).trans h28
      have hGm : ¬ τ.1 84 28 = 0 ∧ (0 ≤ nI hour ∧ nI hour ≤ 99) ∧ ((0 : Int32) ≤ 0 ∧ (0 : Int32) ≤ 999) ∧ (-99 ≤ iI s ∧ iI s ≤ 99) := by rw [h28τ]; exact hG
      rw [e205]
      simp only [s205_0, s205_1, s205_2, s205_3, s205_4, s205_7, s205_10, s205_11, s205_12, s205_13, xcx_i, xcx_r, xcx_n, xcx_l, xcx_0, isWeather_eq, xb_f, ite_not, if_pos hGm, if_true, true_or, or_true, true_and]
      exact Mhe_loop hMτ hb hh kmτ hs hr (fun τ' hr' => ⟨rfl, hI.sim (hsim.tr hr'.sim)⟩) r 0 (by omega) τ (mrs.rf τ)
    have after : ∀ τ, xSim σ τ → moX τ n (2 ^ n - 1) (wyF D E bow) (rmF D E bow deck hour) (hdF D E) (brF D E) (D 1) → τ.1 38 7 = 0 → xC 122 35 [some (.ref 0), some (.int (nI hour)), some (.int (iI s))] [] τ (xqI (fun r1 σ1 => xI1 205 (.ref 84 :: [.int (nI hour), .int (iI s)]) σ1 (fun r2 σ2 => r1 = r2 ∧ xInv xs L σ2))) := by
      intro τ h1 h2 h3
      have hpτ : τ.2.2 1 = p := by rw [h1.2]; exact hpe
      have hgw : ∀ Q : Int32 → xM → Prop, (∀ τ r, xSim σ τ → heR D E bow deck hour n ns s r → Q (nI r - 1) τ) → xI1 37 [.ref 48, .ref 38, .ref p, .int (iI s)] τ Q := fun Q hQ => XgreatestWind hX hb hs h1 h2 h3 hQ
      rcases hX.1.1 with rfl | rfl
      · simp only [s122_35, s122_36, s122_39, s122_40, s122_43, s122_44, s122_47, s122_48, xcx_i, xcx_r, xcx_n, xcx_l, xcx_0, hpτ, true_or, or_true, true_and]
        refine hgw _ (fun τ' r q1 q2 => ?_)
        simp only [s122_51, xcx_i, xcx_r, xcx_n, xcx_l, xcx_0]
        exact after2 τ' r q1 q2
      · simp only [s122_35, s122_36, s122_39, s122_40, s122_43, s122_44, s122_47, s122_48, xcx_i, xcx_r, xcx_n, xcx_l, xcx_0, hpτ, true_or, or_true, true_and]
        refine hgw _ (fun τ' r q1 q2 => ?_)
        simp only [s122_51, xcx_i, xcx_r, xcx_n, xcx_l, xcx_0]
        exact after2 τ' r q1 q2
    have hmo : ∀ Q : xM → Prop, (∀ τ, xSim σ τ → moX τ n (2 ^ n - 1) (wyF D E bow) (rmF D E bow deck hour) (hdF D E) (brF D E) (D 1) → τ.1 38 7 = 0 → Q τ) → xV 43 [.ref 38, .ref p, .ref 10, .int (nI n), .int (nI hour)] σ Q := fun Q hQ => Xmoor hX hb (Nat.le_refl n) hh (fun τ h1 h2 h3 _ => hQ τ h1 h2 h3)
    rw [e122]
    rcases hX.1.1 with rfl | rfl
    · simp only [s122_0, s122_1, s122_2, s122_3, s122_4, s122_7, s122_10, s122_11, s122_12, s122_13, s122_16, s122_17, s122_20, s122_21, s122_24, s122_25, s122_28_10, s122_28_17, s122_28_24, s122_28_31, s122_31, s122_32, xcx_i, xcx_r, xcx_n, xcx_l, xcx_0, maySail_eq, xb_f, ite_not, if_pos hG, hpe, kx, true_or, or_true, true_and]
      exact hmo _ after
    · simp only [s122_0, s122_1, s122_2, s122_3, s122_4, s122_7, s122_10, s122_11, s122_12, s122_13, s122_16, s122_17, s122_20, s122_21, s122_24, s122_25, s122_28_10, s122_28_17, s122_28_24, s122_28_31, s122_31, s122_32, xcx_i, xcx_r, xcx_n, xcx_l, xcx_0, maySail_eq, xb_f, ite_not, if_pos hG, hpe, kx, true_or, or_true, true_and]
      exact hmo _ after
  · have hGm : ¬ (¬ σ.1 84 28 = 0 ∧ (0 ≤ a ∧ a ≤ 99) ∧ ((0 : Int32) ≤ 0 ∧ (0 : Int32) ≤ 999) ∧ (-99 ≤ c ∧ c ≤ 99)) := by rw [h28]; exact hG
    rw [e122]
    simp only [s122_0, s122_1, s122_2, s122_3, s122_4, s122_7, s122_10, s122_11, xcx_i, xcx_r, xcx_n, xcx_l, xcx_0, maySail_eq, xb_f, ite_not, if_neg hG, true_or, or_true, true_and]
    rw [e205]
    simp only [s205_0, s205_1, s205_2, s205_3, s205_4, s205_7, s205_10, s205_11, xcx_i, xcx_r, xcx_n, xcx_l, xcx_0, isWeather_eq, xb_f, ite_not, if_neg hGm, true_or, or_true, true_and]
    first | exact hI | exact ⟨trivial, hI⟩ | exact ⟨rfl, hI⟩
