/-! moorings: findsRest -/
def uA (a : Nat) : Int := (a : Int) - 20
def mS (c : Int → Int → Int) (a b : Nat) : Option (Nat × Nat) → Prop
  | none => a = 0 ∧ b = 0
  | some (ab, bb) => ab < 41 ∧ bb < 21 ∧ prO a b ab bb ∧ ∀ a' b' : Nat, b' < 21 → prO a b a' b' → bet c (uA ab) (bb : Nat) (uA a') (b' : Nat)
theorem mS_upd {c : Int → Int → Int} {a b : Nat} {st : Option (Nat × Nat)} (h : mS c a b st) (ha : a < 41) (hb : b < 21) (hlt : ∀ ab bb, st = some (ab, bb) → c (uA a) (b : Nat) < c (uA ab) (bb : Nat) ∨ (c (uA a) (b : Nat) = c (uA ab) (bb : Nat) ∧ ((uA a).natAbs : Int) < (uA ab).natAbs)) : mS c a (b + 1) (some (a, b)) := by
  refine ⟨ha, hb, Or.inr ⟨rfl, by omega⟩, fun a' b' hb' hp => ?_⟩
  by_cases q : a' = a ∧ b' = b
  · obtain ⟨rfl, rfl⟩ := q
    exact Or.inr ⟨rfl, Or.inr ⟨rfl, Or.inr ⟨rfl, Int.le_refl _⟩⟩⟩
  · have hp' : prO a b a' b' := by unfold prO at hp ⊢; omega
    cases st with
    | none =>
      obtain ⟨h1, h2⟩ := h
      unfold prO at hp'
      omega
    | some x =>
      obtain ⟨ab, bb⟩ := x
      have h1 := h.2.2.2 a' b' hb' hp'
      have h2 := hlt ab bb rfl
      unfold bet at h1 ⊢
      omega
theorem mS_keep {c : Int → Int → Int} {a b ab bb : Nat} (h : mS c a b (some (ab, bb))) (hge : c (uA ab) (bb : Nat) < c (uA a) (b : Nat) ∨ (c (uA ab) (bb : Nat) = c (uA a) (b : Nat) ∧ ((uA ab).natAbs : Int) ≤ (uA a).natAbs)) : mS c a (b + 1) (some (ab, bb)) := by
  obtain ⟨h1, h2, h3, h4⟩ := h
  refine ⟨h1, h2, by unfold prO at h3 ⊢; omega, fun a' b' hb' hp => ?_⟩
  by_cases q : a' = a ∧ b' = b
  · obtain ⟨rfl, rfl⟩ := q
    unfold bet
    rcases h3 with z | ⟨z1, z2⟩
    · have : uA ab < uA a' := by unfold uA; omega
      omega
    · subst z1
      omega
  · exact h4 a' b' hb' (by unfold prO at hp ⊢; omega)
theorem mS_row {c : Int → Int → Int} {a : Nat} {st : Option (Nat × Nat)} (h : mS c a 21 st) : mS c (a + 1) 0 st := by
  cases st with
  | none => obtain ⟨h1, h2⟩ := h; omega
  | some x =>
    obtain ⟨ab, bb⟩ := x
    obtain ⟨h1, h2, h3, h4⟩ := h
    exact ⟨h1, h2, by unfold prO at h3 ⊢; omega, fun a' b' hb' hp => h4 a' b' hb' (by unfold prO at hp ⊢; omega)⟩
theorem mS_end {c : Int → Int → Int} {st : Option (Nat × Nat)} (h : mS c 41 0 st) : ∃ a b, st = some (a, b) ∧ isB c (uA a) (b : Nat) := by
  cases st with
  | none => obtain ⟨h1, h2⟩ := h; omega
  | some x =>
    obtain ⟨ab, bb⟩ := x
    obtain ⟨h1, h2, h3, h4⟩ := h
    refine ⟨ab, bb, rfl, ⟨by unfold uA; omega, by unfold uA; omega, by omega, by omega⟩, fun u' v' hg => ?_⟩
    obtain ⟨g1, g2, g3, g4⟩ := hg
    have := h4 (u' + 20).toNat v'.toNat (by omega) (Or.inl (by omega))
    rw [show uA (u' + 20).toNat = u' by unfold uA; omega, show ((v'.toNat : Nat) : Int) = v' by omega] at this
    exact this
def anI : Option (Nat × Nat) → Int32
  | none => 0
  | some _ => 1
def leI (c : Int → Int → Int) : Option (Nat × Nat) → Int32
  | none => 0
  | some (ab, bb) => iI (c (uA ab) (bb : Nat))
/-- only where she rests -/
def mrs (σ τ : xM) : Prop := (∀ k j, ¬ (k = 84 ∧ (j = 52 ∨ j = 53)) → τ.1 k j = σ.1 k j) ∧ τ.2.2 = σ.2.2
theorem mrs.rf (σ : xM) : mrs σ σ := ⟨fun _ _ _ => rfl, rfl⟩
theorem mrs.tr {a b c : xM} (h1 : mrs a b) (h2 : mrs b c) : mrs a c := ⟨fun k j q => (h2.1 k j q).trans (h1.1 k j q), h2.2.trans h1.2⟩
theorem mrs.row {σ τ : xM} (h : mrs σ τ) {k : Nat} (hk : k ≠ 84) : τ.1 k = σ.1 k := funext fun j => h.1 k j (fun z => hk z.1)
theorem mrs.sim {σ τ : xM} (h : mrs σ τ) : xSim σ τ := ⟨fun k j hk => h.1 k j (fun z => by
  obtain ⟨rfl, z | z⟩ := z <;> subst z <;> cases hk), h.2⟩
theorem mrs.si2 {σ τ : xM} (h : mrs σ τ) (a b : Int32) : mrs σ (xe_si (xe_si τ 84 52 a) 84 53 b) := ⟨fun k j q => by rw [si_rd, if_neg (fun z => q ⟨z.1, Or.inr z.2⟩), si_rd, if_neg (fun z => q ⟨z.1, Or.inl z.2⟩)]; exact h.1 k j q, h.2⟩
theorem MfindsRest {σ : xM} {n m ns nr bow deck hour H : Nat} {D E : Nat → Nat → Nat} {w s : Int} {Q : xM → Prop} (h : sdM σ n ns nr bow deck D E) (hb : sdB n ns nr bow deck D E) (hh : hour ≤ 99) (hm : m ≤ n) (hl : σ.1 84 31 = nI m) (hH : H < 64) (hw : 0 ≤ w ∧ w ≤ 999) (hs : -99 ≤ s ∧ s ≤ 99) (hQ : ∀ τ u v, mrs σ τ → τ.1 84 52 = iI u → τ.1 84 53 = iI v → isB (csF (wyF D E bow) (rmF D E bow deck hour) (hdF D E) H m w s) u v → Q τ) : xV 196 [.ref 84, .int (nI hour), .int (iI w), .int (iI s), .int (nI H)] σ Q := by
  have hld := hb.ld hour hm
  have h10 : ¬ (1 : Int32) = 0 := by decide
  generalize hc : csF (wyF D E bow) (rmF D E bow deck hour) (hdF D E) H m w s = c at hQ
  have inner : ∀ a, a < 41 → ∀ k b, b + k = 21 → ∀ (st : Option (Nat × Nat)) (τ : xM) (l9 l10 : Option Value), mrs σ τ → mS c a b st → (∀ ab bb, st = some (ab, bb) → τ.1 84 52 = iI (uA ab) ∧ τ.1 84 53 = nI bb) → (∀ (st : Option (Nat × Nat)) (τ : xM) (l8 l9 l10 : Option Value), mrs σ τ → mS c (a + 1) 0 st → (∀ ab bb, st = some (ab, bb) → τ.1 84 52 = iI (uA ab) ∧ τ.1 84 53 = nI bb) → xC 196 134 [some (.ref 84), some (.int (nI hour)), some (.int (iI w)), some (.int (iI s)), some (.int (nI H)), some (.int (anI st)), some (.int (leI c st)), some (.int (iI (uA a))), l8, l9, l10] [] τ (xqV Q)) → xC 196 20 [some (.ref 84), some (.int (nI hour)), some (.int (iI w)), some (.int (iI s)), some (.int (nI H)), some (.int (anI st)), some (.int (leI c st)), some (.int (iI (uA a))), some (.int (nI b)), l9, l10] [] τ (xqV Q) := by
    intro a ha k
    induction k with
    | zero =>
      intro b hbb st τ l9 l10 hr hst hat hQ
      obtain rfl : b = 21 := by omega
      have e : ((20 : Int32) < nI 21) = True := eq_true (by decide)
      rw [s196_20]
      simp only [s196_22, s196_24, xcx_i, xcx_r, xcx_n, xcx_l, xcx_0, e, if_true]
      exact hQ st τ _ _ _ hr (mS_row hst) hat
    | succ k ih =>
      intro b hbb st τ l9 l10 hr hst hat hQ
      have e : ((20 : Int32) < nI b) = False := eq_false (fun q => by have := (nI_ltI (a := 20) (b := b) (by decide) (by omega)).mp q; omega)
      have hg : gdU (uA a) (b : Nat) := ⟨by unfold uA; omega, by unfold uA; omega, by omega, by omega⟩
      have hX := h.sim hr.sim
      have hl' : τ.1 84 31 = nI m := (hr.1 84 31 (fun z => by omega)).trans hl
      have hal := alF_bd hld (H := H) hg
      have hpu := puF_bd hld (H := H) hg
      have hcs := csF_bd hld (H := H) hw hs hg
      have hA : ∀ Q : Int32 → xM → Prop, xI1 193 [.ref 84, .int (nI hour), .int (iI (uA a)), .int (nI b), .int (iI s), .int (nI H)] τ Q = Q (iI (s + alF (wyF D E bow) (rmF D E bow deck hour) (hdF D E) H m (uA a) (b : Nat))) τ := fun Q => by rw [nI_iI b]; exact Malong hX hb hh hg hm hl' hH
      have hO : ∀ Q : Int32 → xM → Prop, xI1 195 [.ref 84, .int (nI hour), .int (iI (uA a)), .int (nI b), .int (iI w), .int (nI H)] τ Q = Q (iI (ofF w (puF (wyF D E bow) (rmF D E bow deck hour) (hdF D E) H m (uA a) (b : Nat)) (b : Nat))) τ := fun Q => by rw [nI_iI b]; exact MoffBy hX hb hh hg hm hl' hH hw
      have ho : -10000 ≤ ofF w (puF (wyF D E bow) (rmF D E bow deck hour) (hdF D E) H m (uA a) (b : Nat)) (b : Nat) ∧ ofF w (puF (wyF D E bow) (rmF D E bow deck hour) (hdF D E) H m (uA a) (b : Nat)) (b : Nat) ≤ 10000 := by
        unfold ofF; split <;> omega
      have f1 : aI (iI (s + alF (wyF D E bow) (rmF D E bow deck hour) (hdF D E) H m (uA a) (b : Nat))) = iI (((s + alF (wyF D E bow) (rmF D E bow deck hour) (hdF D E) H m (uA a) (b : Nat)).natAbs : Nat) : Int) := aI_iI (by omega) (by omega)
      have f2 : aI (iI (ofF w (puF (wyF D E bow) (rmF D E bow deck hour) (hdF D E) H m (uA a) (b : Nat)) (b : Nat))) = iI (((ofF w (puF (wyF D E bow) (rmF D E bow deck hour) (hdF D E) H m (uA a) (b : Nat)) (b : Nat)).natAbs : Nat) : Int) := aI_iI (by omega) (by omega)
      have f3 : iI (((s + alF (wyF D E bow) (rmF D E bow deck hour) (hdF D E) H m (uA a) (b : Nat)).natAbs : Nat) : Int) + iI (((ofF w (puF (wyF D E bow) (rmF D E bow deck hour) (hdF D E) H m (uA a) (b : Nat)) (b : Nat)).natAbs : Nat) : Int) = iI (c (uA a) (b : Nat)) := by
        rw [iI_add, ← hc]
        congr 1
        unfold csF ofF
        by_cases y : (b : Int) = 0 ∧ w - puF (wyF D E bow) (rmF D E bow deck hour) (hdF D E) H m (uA a) (b : Nat) < 0
        · rw [if_pos y, if_pos y]; rfl
        · rw [if_neg y, if_neg y]
      rw [hc] at hcs
      have next : ∀ (st' : Option (Nat × Nat)) (τ' : xM) (l9 l10 : Option Value), mrs σ τ' → mS c a (b + 1) st' → (∀ ab bb, st' = some (ab, bb) → τ'.1 84 52 = iI (uA ab) ∧ τ'.1 84 53 = nI bb) → xC 196 128 [some (.ref 84), some (.int (nI hour)), some (.int (iI w)), some (.int (iI s)), some (.int (nI H)), some (.int (anI st')), some (.int (leI c st')), some (.int (iI (uA a))), some (.int (nI b)), l9, l10] [] τ' (xqV Q) := by
        intro st' τ' l9 l10 hr' hst' hat'
        simp only [s196_128, s196_131, xcx_i, xcx_r, xcx_n, xcx_l, xcx_0, nI_1]
        exact ih (b + 1) (by omega) st' τ' _ _ hr' hst' hat' hQ
      have take : mS c a (b + 1) (some (a, b)) → xC 196 94 [some (.ref 84), some (.int (nI hour)), some (.int (iI w)), some (.int (iI s)), some (.int (nI H)), some (.int (anI st)), some (.int (leI c st)), some (.int (iI (uA a))), some (.int (nI b)), some (.int (iI (c (uA a) (b : Nat)))), l10] [] τ (xqV Q) := by
        intro hst'
        simp only [s196_94, s196_95, s196_98, s196_99, s196_101, s196_103, s196_106, s196_109, s196_110, s196_112, s196_114, s196_116, s196_117, s196_119, s196_122, s196_123, s196_125, xcx_i, xcx_r, xcx_n, xcx_l, xcx_0, h10, not_false_eq_true, if_true, true_or, or_true]
        exact next (some (a, b)) _ _ _ (hr.si2 _ _) hst' (fun ab bb q => by cases q; exact ⟨rfl, rfl⟩)
      rw [s196_20]
      cases st with
      | none =>
        have ht := take (mS_upd hst ha (by omega) (fun ab bb q => by cases q))
        simp only [s196_22, s196_24, s196_27, s196_28, s196_29, s196_31, s196_33, s196_34, s196_36, s196_39, s196_42, s196_43, s196_44, s196_46, s196_48, s196_49, s196_51, s196_54, s196_57, s196_58, s196_60, s196_62, xcx_i, xcx_r, xcx_n, xcx_l, xcx_0, e, if_false, hA, hO, farA, f1, f2, f3, anI, leI, if_true, true_or, or_true]
        exact ht
      | some x =>
        obtain ⟨ab, bb⟩ := x
        obtain ⟨z1, z2⟩ := hat ab bb rfl
        have hab : ab < 41 := hst.1
        have hbb' : bb < 21 := hst.2.1
        have hgb : gdU (uA ab) (bb : Nat) := ⟨by unfold uA; omega, by unfold uA; omega, by omega, by omega⟩
        have hcb := csF_bd hld (H := H) hw hs hgb
        rw [hc] at hcb
        have f4 : aI (iI (uA a)) = iI (((uA a).natAbs : Nat) : Int) := aI_iI (by unfold uA; omega) (by unfold uA; omega)
        have f5 : aI (iI (uA ab)) = iI (((uA ab).natAbs : Nat) : Int) := aI_iI (by unfold uA; omega) (by unfold uA; omega)
        have g1 : (iI (c (uA a) (b : Nat)) < iI (c (uA ab) (bb : Nat))) = (c (uA a) (b : Nat) < c (uA ab) (bb : Nat)) := propext (iI_lt (by omega) (by omega) (by omega) (by omega))
        have g2 : (iI (c (uA a) (b : Nat)) = iI (c (uA ab) (bb : Nat))) = (c (uA a) (b : Nat) = c (uA ab) (bb : Nat)) := propext (iI_eq (by omega) (by omega) (by omega) (by omega))
        have hu1 : ((uA a).natAbs : Int) ≤ 20 := by unfold uA; omega
        have hu2 : ((uA ab).natAbs : Int) ≤ 20 := by unfold uA; omega
        have g3 : (iI (((uA ab).natAbs : Nat) : Int) ≤ iI (((uA a).natAbs : Nat) : Int)) = (((uA ab).natAbs : Int) ≤ (uA a).natAbs) := propext (iI_le (by omega) (by omega) (by omega) (by omega))
        by_cases c1 : c (uA a) (b : Nat) < c (uA ab) (bb : Nat)
        · have ht := take (mS_upd hst ha (by omega) (fun ab' bb' q => by cases q; exact Or.inl c1))
          simp only [s196_22, s196_24, s196_27, s196_28, s196_29, s196_31, s196_33, s196_34, s196_36, s196_39, s196_42, s196_43, s196_44, s196_46, s196_48, s196_49, s196_51, s196_54, s196_57, s196_58, s196_60, s196_62, s196_65, s196_67, s196_69, xcx_i, xcx_r, xcx_n, xcx_l, xcx_0, e, if_false, hA, hO, farA, f1, f2, f3, anI, leI, h10, g1, c1, if_true, true_or, or_true]
          exact ht
        · by_cases c2 : c (uA a) (b : Nat) = c (uA ab) (bb : Nat)
          · by_cases c3 : ((uA ab).natAbs : Int) ≤ (uA a).natAbs
            · have hn := fun l9 l10 => next (some (ab, bb)) τ l9 l10 hr (mS_keep hst (Or.inr ⟨c2.symm, c3⟩)) hat
              have g2' : (iI (c (uA a) (b : Nat)) = iI (c (uA ab) (bb : Nat))) = True := by rw [g2]; exact eq_true c2
              simp only [s196_22, s196_24, s196_27, s196_28, s196_29, s196_31, s196_33, s196_34, s196_36, s196_39, s196_42, s196_43, s196_44, s196_46, s196_48, s196_49, s196_51, s196_54, s196_57, s196_58, s196_60, s196_62, s196_65, s196_67, s196_69, s196_72, s196_74, s196_76, s196_79, s196_81, s196_84, s196_85, s196_88, s196_91, s196_94, s196_95, s196_98, s196_99, s196_101, s196_103, s196_106, xcx_i, xcx_r, xcx_n, xcx_l, xcx_0, e, if_false, hA, hO, farA, f1, f2, f3, anI, leI, h10, g1, c1, g2', not_true, z1, f4, f5, g3, c3, if_true, true_or, or_true]
              exact hn _ _
            · have ht := take (mS_upd hst ha (by omega) (fun ab' bb' q => by cases q; exact Or.inr ⟨c2, by omega⟩))
              have g2' : (iI (c (uA a) (b : Nat)) = iI (c (uA ab) (bb : Nat))) = True := by rw [g2]; exact eq_true c2
              simp only [s196_22, s196_24, s196_27, s196_28, s196_29, s196_31, s196_33, s196_34, s196_36, s196_39, s196_42, s196_43, s196_44, s196_46, s196_48, s196_49, s196_51, s196_54, s196_57, s196_58, s196_60, s196_62, s196_65, s196_67, s196_69, s196_72, s196_74, s196_76, s196_79, s196_81, s196_84, s196_85, s196_88, s196_91, xcx_i, xcx_r, xcx_n, xcx_l, xcx_0, e, if_false, hA, hO, farA, f1, f2, f3, anI, leI, h10, g1, c1, g2', not_true, z1, f4, f5, g3, c3, if_true, true_or, or_true]
              exact ht
          · have hn := fun l9 l10 => next (some (ab, bb)) τ l9 l10 hr (mS_keep hst (Or.inl (by omega))) hat
            have g2' : (iI (c (uA a) (b : Nat)) = iI (c (uA ab) (bb : Nat))) = False := by rw [g2]; exact eq_false c2
            simp only [s196_22, s196_24, s196_27, s196_28, s196_29, s196_31, s196_33, s196_34, s196_36, s196_39, s196_42, s196_43, s196_44, s196_46, s196_48, s196_49, s196_51, s196_54, s196_57, s196_58, s196_60, s196_62, s196_65, s196_67, s196_69, s196_72, s196_74, s196_76, s196_79, s196_81, s196_84, s196_85, s196_88, s196_91, s196_94, s196_95, s196_98, s196_99, s196_101, s196_103, s196_106, xcx_i, xcx_r, xcx_n, xcx_l, xcx_0, e, if_false, hA, hO, farA, f1, f2, f3, anI, leI, h10, g1, c1, g2', not_false_eq_true, not_true, if_true, true_or, or_true]
            exact hn _ _
  have outer : ∀ k a, a + k = 41 → ∀ (st : Option (Nat × Nat)) (τ : xM) (l8 l9 l10 : Option Value), mrs σ τ → mS c a 0 st → (∀ ab bb, st = some (ab, bb) → τ.1 84 52 = iI (uA ab) ∧ τ.1 84 53 = nI bb) → xC 196 10 [some (.ref 84), some (.int (nI hour)), some (.int (iI w)), some (.int (iI s)), some (.int (nI H)), some (.int (anI st)), some (.int (leI c st)), some (.int (iI (uA a))), l8, l9, l10] [] τ (xqV Q) := by
    intro k
    induction k with
    | zero =>
      intro a ha st τ l8 l9 l10 hr hst hat
      obtain rfl : a = 41 := by omega
      obtain ⟨ab, bb, rfl, hB⟩ := mS_end hst
      obtain ⟨z1, z2⟩ := hat ab bb rfl
      have e : ((20 : Int32) < iI (uA 41)) = True := eq_true (by decide)
      rw [s196_10]
      simp only [s196_12, s196_14, s196_140, xcx_i, xcx_r, xcx_n, xcx_l, xcx_0, e, if_true]
      exact hQ τ _ _ hr z1 (z2.trans (nI_iI bb)) hB
    | succ k ih =>
      intro a ha st τ l8 l9 l10 hr hst hat
      have e : ((20 : Int32) < iI (uA a)) = False := eq_false (fun q => by
        have := (iI_lt (a := 20) (b := uA a) (by decide) (by decide) (by unfold uA; omega) (by unfold uA; omega)).mp q
        unfold uA at this; omega)
      have e1 : iI (uA a) + 1 = iI (uA (a + 1)) := by
        rw [show (1 : Int32) = iI 1 from rfl, iI_add]; congr 1; unfold uA; omega
      rw [s196_10]
      simp only [s196_12, s196_14, s196_17, s196_18, xcx_i, xcx_r, xcx_n, xcx_l, xcx_0, e, if_false]
      refine inner a (by omega) 21 0 (by omega) st τ _ _ hr hst hat (fun st' τ' l8 l9 l10 hr' hst' hat' => ?_)
      simp only [s196_134, s196_137, xcx_i, xcx_r, xcx_n, xcx_l, xcx_0, e1]
      exact ih (a + 1) (by omega) st' τ' _ _ _ hr' hst' hat'
  rw [e196]
  simp only [s196_0, s196_1, s196_3, s196_4, s196_6, s196_8, xcx_i, xcx_r, xcx_n, xcx_l, xcx_0]
  exact outer 41 0 (by omega) none σ _ _ _ (mrs.rf σ) ⟨rfl, rfl⟩ (fun ab bb q => by cases q)
