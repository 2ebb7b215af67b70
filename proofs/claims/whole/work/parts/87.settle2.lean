/-! moorings: settle -/
def ofF (w pu v : Int) : Int := if v = 0 ∧ w - pu < 0 then 0 else w - pu
def seX (τ : xM) (n H : Nat) (W R K : Nat → Int) (w s u v : Int) : Prop := τ.1 38 2 = iI u ∧ τ.1 38 3 = iI v ∧ τ.1 38 4 = iI (s + alF W R K H n u v) ∧ τ.1 38 5 = iI (ofF w (puF W R K H n u v) v) ∧ rowI τ 39 n (fun i => if H.testBit i then plI W R K u v i else 0)
def mog (σ τ : xM) : Prop := (∀ k, k ≠ 38 → k ≠ 39 → k ≠ 46 → k ≠ 47 → τ.1 k = σ.1 k) ∧ (τ.1 38 0 = σ.1 38 0 ∧ τ.1 38 1 = σ.1 38 1) ∧ τ.2.2 = σ.2.2
theorem mog.rf (σ : xM) : mog σ σ := ⟨fun _ _ _ _ _ => rfl, ⟨rfl, rfl⟩, rfl⟩
theorem mog.tr {a b c : xM} (h1 : mog a b) (h2 : mog b c) : mog a c := ⟨fun k q1 q2 q3 q4 => (h2.1 k q1 q2 q3 q4).trans (h1.1 k q1 q2 q3 q4), ⟨h2.2.1.1.trans h1.2.1.1, h2.2.1.2.trans h1.2.1.2⟩, h2.2.2.trans h1.2.2⟩
theorem mog.sim {σ τ : xM} (h : mog σ τ) : xSim σ τ := ⟨fun k j hk => by
  have h38 : k ≠ 38 := fun e => by subst e; cases hk
  have h39 : k ≠ 39 := fun e => by subst e; cases hk
  have h46 : k ≠ 46 := fun e => by subst e; cases hk
  have h47 : k ≠ 47 := fun e => by subst e; cases hk
  rw [h.1 k h38 h39 h46 h47], h.2.2⟩
theorem mog.si {σ τ : xM} {j : Nat} {v : Int32} (h : mog σ τ) (h2 : 2 ≤ j) : mog σ (xe_si τ 38 j v) := ⟨fun k q1 q2 q3 q4 => by rw [si_ne q1]; exact h.1 k q1 q2 q3 q4, ⟨by rw [si_rd, if_neg (fun z => by omega)]; exact h.2.1.1, by rw [si_rd, if_neg (fun z => by omega)]; exact h.2.1.2⟩, h.2.2⟩
theorem mog.si9 {σ τ : xM} {j : Nat} {v : Int32} (h : mog σ τ) : mog σ (xe_si τ 39 j v) := ⟨fun k q1 q2 q3 q4 => by rw [si_ne q2]; exact h.1 k q1 q2 q3 q4, ⟨by rw [si_ne (by decide)]; exact h.2.1.1, by rw [si_ne (by decide)]; exact h.2.1.2⟩, h.2.2⟩
theorem moX.mog {σ τ : xM} {n H : Nat} {W R K B : Nat → Int} {S : Nat → Nat} (h : moX σ n H W R K B S) (hs : mog σ τ) : moX τ n H W R K B S := by
  unfold moX
  rw [hs.2.1.1, hs.2.1.2, hs.1 40 (by decide) (by decide) (by decide) (by decide), hs.1 41 (by decide) (by decide) (by decide) (by decide), hs.1 43 (by decide) (by decide) (by decide) (by decide), hs.1 44 (by decide) (by decide) (by decide) (by decide), hs.1 45 (by decide) (by decide) (by decide) (by decide)]
  exact h
theorem div21 {r v : Nat} (hr : r < 41) (hv : v < 21) : nI (21 * r + v) / 21 = nI r ∧ nI (21 * r + v) - nI (21 * r + v) / 21 * 21 = nI v := by
  have h1 : nI (21 * r + v) / 21 = nI ((21 * r + v) / 21) := pk_div (d := 21) (by omega) (by decide) (by decide)
  have h2 : nI (21 * r + v) - nI (21 * r + v) / 21 * 21 = nI ((21 * r + v) % 21) := pk_rem (d := 21) (by omega) (by decide) (by decide)
  rw [h2, h1]
  exact ⟨by congr 1; omega, by congr 1; omega⟩
theorem Xsettle {σ : xM} {n H : Nat} {W R K B : Nat → Int} {S : Nat → Nat} {w s : Int} {Q : xM → Prop} (hM : moX σ n H W R K B S) (hf : σ.1 38 7 = 0 ∨ (σ.1 38 7 = 1 ∧ tbX σ n H W R K)) (hw : 0 ≤ w ∧ w ≤ 999) (hs : -99 ≤ s ∧ s ≤ 99) (hQ : ∀ τ u v, mog σ τ → τ.1 38 7 = 1 → tbX τ n H W R K → isB (csF W R K H n w s) u v → seX τ n H W R K w s u v → Q τ) : xV 47 [.ref 38, .int (iI w), .int (iI s)] σ Q := by
  have hld := hM.1
  have hn6 := hld.1
  have hH := hM.2.1
  have h10 : ¬ (1 : Int32) = 0 := by decide
  have e0 : (0 : Int32) = iI 0 := rfl
  have h21 : ¬ (21 : Int32) = 0 := by decide
  have main : ∀ τ, mog σ τ → τ.1 38 7 = 1 → tbX τ n H W R K → xC 47 11 [some (.ref 38), some (.int (iI w)), some (.int (iI s)), none, none, none] [] τ (xqV Q) := by
    intro τ hg h7 hT
    have hMτ := hM.mog hg
    simp only [s47_11, s47_12, s47_13, s47_14, xcx_i, xcx_r, xcx_n, xcx_l, xcx_0]
    refine XrestingSpot hld hT hw hs (fun r v hr hv hb => ?_)
    obtain ⟨d1, d2⟩ := div21 hr hv
    rw [d1] at d2
    obtain ⟨t1, t2⟩ := hT r v hr hv
    have hx46 : ∀ (τ : xM), xat τ 46 (nI (21 * r + v)) = τ.1 46 (21 * r + v) := fun τ => xat_n (by rw [xln_46]; omega)
    have hx47 : ∀ (τ : xM), xat τ 47 (nI (21 * r + v)) = τ.1 47 (21 * r + v) := fun τ => xat_n (by rw [xln_47]; omega)
    have hgd := hb.1
    have hpu := puF_bd hld (H := H) hgd
    have ea : iI (alF W R K H n (uO r) (v : Nat)) + iI s = iI (s + alF W R K H n (uO r) (v : Nat)) := by rw [iI_add]; congr 1; omega
    have eo : iI w - iI (puF W R K H n (uO r) (v : Nat)) = iI (w - puF W R K H n (uO r) (v : Nat)) := iI_sub _ _
    have loop : ∀ m i, i + m = n → ∀ τ l5, mog σ τ → τ.1 38 7 = 1 → tbX τ n H W R K → τ.1 38 2 = iI (uO r) → τ.1 38 3 = nI v → τ.1 38 4 = iI (s + alF W R K H n (uO r) (v : Nat)) → τ.1 38 5 = iI (ofF w (puF W R K H n (uO r) (v : Nat)) (v : Nat)) → (∀ j, j < i → τ.1 39 j = iI (if H.testBit j then plI W R K (uO r) (v : Nat) j else 0)) → xC 47 87 [some (.ref 38), some (.int (iI w)), some (.int (iI s)), some (.int (nI (21 * r + v))), some (.int (nI i)), l5] [] τ (xqV Q) := by
      intro m
      induction m with
      | zero =>
        intro i hi τ l5 hg h7 hT q2 q3 q4 q5 hd
        obtain rfl : i = n := by omega
        have h38 := (hM.mog hg).2.2.1
        rw [s47_87]
        simp only [s47_89, s47_90, s47_93, s47_177, xcx_i, xcx_r, xcx_n, xcx_l, xcx_0, h38, Int32.le_refl, if_true]
        exact hQ τ _ _ hg h7 hT hb ⟨q2, by rw [q3, nI_iI], q4, q5, hd⟩
      | succ m ih =>
        intro i hi τ l5 hg h7 hT q2 q3 q4 q5 hd
        have hin : i < n := by omega
        obtain ⟨-, -, h38, h381, hrow⟩ := hM.mog hg
        obtain ⟨e40, e41, e43, e44, e45⟩ := hrow i hin
        have e := lt4N (n := n) (i := i) hin (by omega)
        have i6 : i < 6 := by omega
        obtain ⟨⟨w1, w2⟩, r1, r2, ⟨k1, k2⟩, ⟨b1, b2⟩, s1⟩ := hld.2 i hin
        obtain ⟨u1, u2, v1, v2⟩ := hgd
        have hbit : (nI H >>> (nI i &&& 31) &&& 1 = 1) = (H.testBit i = true) := bit64 hH i6
        have a1 : aI (iI (W i - uO r)) = iI (((W i - uO r).natAbs : Nat) : Int) := aI_iI (by omega) (by omega)
        have a2 : iI (W i) - iI (uO r) = iI (W i - uO r) := iI_sub _ _
        have a3 : iI (((W i - uO r).natAbs : Nat) : Int) + nI v - iI (R i) = iI ((((W i - uO r).natAbs : Nat) : Int) + (v : Nat) - R i) := by rw [nI_iI, iI_add, iI_sub]
        have a4 : (if (0 : Int32) < iI ((((W i - uO r).natAbs : Nat) : Int) + (v : Nat) - R i) then iI ((((W i - uO r).natAbs : Nat) : Int) + (v : Nat) - R i) else 0) = iI (drF W R (uO r) (v : Nat) i) := by
          rw [e0, mx_iI (by omega) (by omega) (by omega) (by omega)]; rfl
        have a5 : iI (K i) * iI (drF W R (uO r) (v : Nat) i) = iI (plI W R K (uO r) (v : Nat) i) := iI_mul _ _
        have hx : ∀ x (τ : xM), xpt τ 39 (nI i) x = xe_si τ 39 i x := fun x τ => xpt_n (by rw [xln_39]; exact i6)
        have next : ∀ (x : Int32) l5, x = iI (if H.testBit i then plI W R K (uO r) (v : Nat) i else 0) → xC 47 87 [some (.ref 38), some (.int (iI w)), some (.int (iI s)), some (.int (nI (21 * r + v))), some (.int (nI (i + 1))), l5] [] (xe_si τ 39 i x) (xqV Q) := by
          intro x l5 hx
          refine ih (i + 1) (by omega) _ _ hg.si9 (by rw [si_ne (by decide)]; exact h7) ?_ (by rw [si_ne (by decide)]; exact q2) (by rw [si_ne (by decide)]; exact q3) (by rw [si_ne (by decide)]; exact q4) (by rw [si_ne (by decide)]; exact q5) (fun j hj => ?_)
          · intro r' v' h1 h2
            rw [si_ne (by decide), si_ne (by decide)]; exact hT r' v' h1 h2
          · rw [si_rd]
            by_cases q : j = i
            · rw [if_pos ⟨rfl, q⟩, hx, q]
            · rw [if_neg (fun z => q z.2)]; exact hd j (by omega)
        rw [s47_87]
        by_cases hb' : H.testBit i = true
        · simp only [s47_89, s47_90, s47_93, s47_96, s47_97, s47_98, s47_101, s47_103, s47_106, s47_107, s47_110, s47_111, s47_114, s47_115, s47_118, s47_119, s47_120, s47_123, s47_125, s47_128, s47_129, s47_132, s47_134, s47_135, s47_138, s47_140, s47_141, s47_144, s47_146, s47_149, s47_152, s47_153, s47_156, s47_158, s47_161, s47_163, s47_164, s47_167, s47_168, s47_171, s47_174, xcx_i, xcx_r, xcx_n, xcx_l, xcx_0, h38, e, if_false, at_eq, put_eq, xcl_39, xcl_40, xcl_41, xcl_43, xat40 i6, xat41 i6, xat43 i6, e40, e41, e43, q2, q3, a2, absA, a1, a3, max_eq, a4, h381, hasBit_eq, hbit, hb', xb_f, ite_not, if_true, a5, hx, nI_1, true_or, or_true, true_and]
          exact next _ _ (by rw [if_pos hb'])
        · simp only [s47_89, s47_90, s47_93, s47_96, s47_97, s47_98, s47_101, s47_103, s47_106, s47_107, s47_110, s47_111, s47_114, s47_115, s47_118, s47_119, s47_120, s47_123, s47_125, s47_128, s47_129, s47_132, s47_134, s47_135, s47_138, s47_140, s47_141, s47_144, s47_146, s47_149, s47_152, s47_153, s47_156, s47_158, s47_161, s47_163, s47_164, s47_167, s47_168, s47_171, s47_174, xcx_i, xcx_r, xcx_n, xcx_l, xcx_0, h38, e, if_false, at_eq, put_eq, xcl_39, xcl_40, xcl_41, xcl_43, xat40 i6, xat41 i6, xat43 i6, e40, e41, e43, q2, q3, a2, absA, a1, a3, max_eq, a4, h381, hasBit_eq, hbit, hb', xb_f, ite_not, if_false, hx, nI_1, true_or, or_true, true_and, Bool.false_eq_true]
          exact next _ _ (by rw [if_neg hb']; rfl)
    have hT4 : ∀ (a b c d : Int32), tbX (xe_si (xe_si (xe_si (xe_si τ 38 2 a) 38 3 b) 38 4 c) 38 5 d) n H W R K := fun a b c d r' v' h1 h2 => hT r' v' h1 h2
    by_cases z : v = 0
    · have ez : (nI v = 0) = True := eq_true (by rw [z]; rfl)
      have emx : (if (0 : Int32) < iI (w - puF W R K H n (uO r) (v : Nat)) then iI (w - puF W R K H n (uO r) (v : Nat)) else 0) = iI (ofF w (puF W R K H n (uO r) (v : Nat)) (v : Nat)) := by
        rw [e0, mx_iI (by omega) (by omega) (by omega) (by omega)]
        congr 1
        unfold ofF
        by_cases y : w - puF W R K H n (uO r) (v : Nat) < 0
        · rw [if_pos ⟨by omega, y⟩]; omega
        · rw [if_neg (fun q => y q.2)]; omega
      simp only [s47_17, s47_18, s47_19, s47_20, s47_22, s47_23, s47_26, s47_29, s47_30, s47_31, s47_33, s47_34, s47_37, s47_38, s47_39, s47_42, s47_43, s47_46, s47_47, s47_48, s47_51, s47_52, s47_53, s47_54, s47_57, s47_58, s47_61, s47_62, s47_65, s47_66, s47_69, s47_72, s47_73, s47_74, s47_75, s47_78, s47_81, s47_84, s47_85, xcx_i, xcx_r, xcx_n, xcx_l, xcx_0, h21, not_false_eq_true, true_and, d1, d2, rankToU_eq hr, at_eq, xcl_46, xcl_47, hx46, hx47, si_rd, Nat.reduceEqDiff, false_and, and_false, if_false, t1, t2, ea, eo, and_self, if_true, ez, not_true, max_eq, emx]
      exact loop n 0 (by omega) _ _ (((((hg.si (by decide)).si (by decide)).si (by decide)).si (by decide)).si (by decide)) h7 (fun r' v' h1 h2 => hT r' v' h1 h2) rfl rfl rfl rfl (fun j hj => absurd hj (Nat.not_lt_zero j))
    · have ez : (nI v = 0) = False := eq_false (fun q => z ((nI_eq (a := v) (b := 0) (by omega) (by decide)).mp q))
      have eof : w - puF W R K H n (uO r) (v : Nat) = ofF w (puF W R K H n (uO r) (v : Nat)) (v : Nat) := by
        unfold ofF; rw [if_neg (by omega)]
      simp only [s47_17, s47_18, s47_19, s47_20, s47_22, s47_23, s47_26, s47_29, s47_30, s47_31, s47_33, s47_34, s47_37, s47_38, s47_39, s47_42, s47_43, s47_46, s47_47, s47_48, s47_51, s47_52, s47_53, s47_54, s47_57, s47_58, s47_61, s47_62, s47_65, s47_66, s47_69, s47_72, s47_73, s47_74, s47_75, s47_78, s47_81, s47_84, s47_85, xcx_i, xcx_r, xcx_n, xcx_l, xcx_0, h21, not_false_eq_true, true_and, d1, d2, rankToU_eq hr, at_eq, xcl_46, xcl_47, hx46, hx47, si_rd, Nat.reduceEqDiff, false_and, and_false, if_false, t1, t2, ea, eo, and_self, if_true, ez]
      exact loop n 0 (by omega) _ _ ((((hg.si (by decide)).si (by decide)).si (by decide)).si (by decide)) h7 (fun r' v' h1 h2 => hT r' v' h1 h2) rfl rfl rfl (by rw [← eof]; rfl) (fun j hj => absurd hj (Nat.not_lt_zero j))
  rw [e47]
  rcases hf with hf | ⟨hf, hT⟩
  · simp only [s47_0, s47_1, s47_4, s47_7, s47_8, xcx_i, xcx_r, xcx_n, xcx_l, xcx_0, hf, not_true, if_false, true_or, or_true, true_and]
    refine XspreadPulls hM (fun τ hk hp h7 hT => main τ ⟨fun k q1 q2 q3 q4 => funext fun j => hk k j q3 q4 (fun z => q1 z.1), ⟨hk 38 0 (by decide) (by decide) (fun z => by omega), hk 38 1 (by decide) (by decide) (fun z => by omega)⟩, hp⟩ h7 hT)
  · simp only [s47_0, s47_1, s47_4, s47_7, s47_8, xcx_i, xcx_r, xcx_n, xcx_l, xcx_0, hf, h10, not_false_eq_true, if_true, true_or, or_true, true_and]
    exact main σ (mog.rf σ) hf hT
