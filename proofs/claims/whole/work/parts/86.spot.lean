/-! moorings: the resting spot -/
def prO (r v r' v' : Nat) : Prop := r' < r ∨ (r' = r ∧ v' < v)
def bS (c : Int → Int → Int) (r v : Nat) : Option (Nat × Nat) → Prop
  | none => r = 0 ∧ v = 0
  | some (rb, vb) => rb < 41 ∧ vb < 21 ∧ prO r v rb vb ∧ ∀ r' v' : Nat, v' < 21 → prO r v r' v' → bet c (uO rb) (vb : Nat) (uO r') (v' : Nat)
def bI : Option (Nat × Nat) → Int32
  | none => 0
  | some (rb, vb) => nI (21 * rb + vb)
def lI (c : Int → Int → Int) : Option (Nat × Nat) → Int32
  | none => 1000000
  | some (rb, vb) => iI (c (uO rb) (vb : Nat))
theorem bS_upd {c : Int → Int → Int} {r v : Nat} {st : Option (Nat × Nat)} (h : bS c r v st) (hr : r < 41) (hv : v < 21) (hlt : ∀ rb vb, st = some (rb, vb) → c (uO r) (v : Nat) < c (uO rb) (vb : Nat)) : bS c r (v + 1) (some (r, v)) := by
  refine ⟨hr, hv, Or.inr ⟨rfl, by omega⟩, fun r' v' hv' hp => ?_⟩
  by_cases q : r' = r ∧ v' = v
  · obtain ⟨rfl, rfl⟩ := q
    exact Or.inr ⟨rfl, Or.inr ⟨rfl, Or.inr ⟨rfl, Int.le_refl _⟩⟩⟩
  · have hp' : prO r v r' v' := by unfold prO at hp ⊢; omega
    cases st with
    | none =>
      obtain ⟨h1, h2⟩ := h
      unfold prO at hp'
      omega
    | some x =>
      obtain ⟨rb, vb⟩ := x
      have h1 := h.2.2.2 r' v' hv' hp'
      have h2 := hlt rb vb rfl
      left
      unfold bet at h1
      omega
theorem bS_keep {c : Int → Int → Int} {r v rb vb : Nat} (h : bS c r v (some (rb, vb))) (hge : c (uO rb) (vb : Nat) ≤ c (uO r) (v : Nat)) : bS c r (v + 1) (some (rb, vb)) := by
  obtain ⟨h1, h2, h3, h4⟩ := h
  refine ⟨h1, h2, by unfold prO at h3 ⊢; omega, fun r' v' hv' hp => ?_⟩
  by_cases q : r' = r ∧ v' = v
  · obtain ⟨rfl, rfl⟩ := q
    unfold bet
    rcases h3 with z | ⟨z1, z2⟩
    · have := uO_lt z
      omega
    · subst z1
      omega
  · exact h4 r' v' hv' (by unfold prO at hp ⊢; omega)
theorem bS_row {c : Int → Int → Int} {r v : Nat} {st : Option (Nat × Nat)} (h : bS c r v st) (hv0 : 0 < v) (hrow : ∀ v' : Nat, v ≤ v' → v' < 21 → c (uO r) ((v - 1 : Nat) : Int) ≤ c (uO r) (v' : Nat)) (hv : v ≤ 21) : bS c (r + 1) 0 st := by
  cases st with
  | none => obtain ⟨h1, h2⟩ := h; omega
  | some x =>
    obtain ⟨rb, vb⟩ := x
    obtain ⟨h1, h2, h3, h4⟩ := h
    refine ⟨h1, h2, by unfold prO at h3 ⊢; omega, fun r' v' hv' hp => ?_⟩
    by_cases q : prO r v r' v'
    · exact h4 r' v' hv' q
    · have hr' : r' = r := by unfold prO at hp q; omega
      subst hr'
      have hvv : v ≤ v' := by unfold prO at q; omega
      have h5 := h4 r' (v - 1) (by omega) (Or.inr ⟨rfl, by omega⟩)
      have h6 := hrow v' hvv hv'
      have e : (((v - 1 : Nat) : Int)) < (v' : Int) := by omega
      unfold bet at h5 ⊢
      omega
theorem bS_end {c : Int → Int → Int} {st : Option (Nat × Nat)} (h : bS c 41 0 st) : ∃ r v, st = some (r, v) ∧ r < 41 ∧ v < 21 ∧ isB c (uO r) (v : Nat) := by
  cases st with
  | none => obtain ⟨h1, h2⟩ := h; omega
  | some x =>
    obtain ⟨rb, vb⟩ := x
    obtain ⟨h1, h2, h3, h4⟩ := h
    have hu := uO_gd h1
    refine ⟨rb, vb, rfl, h1, h2, ⟨hu.1, hu.2, by omega, by omega⟩, fun u' v' hg => ?_⟩
    obtain ⟨g1, g2, g3, g4⟩ := hg
    obtain ⟨r', hr', rfl⟩ := uO_on ⟨g1, g2⟩
    have := h4 r' v'.toNat (by omega) (Or.inl hr')
    rw [show ((v'.toNat : Nat) : Int) = v' by omega] at this
    exact this
theorem XrestingSpot {σ : xM} {n H : Nat} {W R K B : Nat → Int} {S : Nat → Nat} {w s : Int} {Q : Int32 → xM → Prop} (hld : ldOk n W R K B S) (hT : tbX σ n H W R K) (hw : 0 ≤ w ∧ w ≤ 999) (hs : -99 ≤ s ∧ s ≤ 99) (hQ : ∀ r v : Nat, r < 41 → v < 21 → isB (csF W R K H n w s) (uO r) (v : Nat) → Q (nI (21 * r + v)) σ) : xI1 51 [.ref 38, .int (iI w), .int (iI s)] σ Q := by
  have m21 : ∀ r, nI r * 21 = nI (21 * r) := fun r => by rw [show nI r * 21 = nI (r * 21) from pk_mul r 21, Nat.mul_comm]
  have e0 : (0 : Int32) = iI 0 := rfl
  have inner : ∀ r, r < 41 → ∀ m v, v + m = 21 → ∀ st l7 l8, bS (csF W R K H n w s) r v st → (∀ st l6 l7 l8, bS (csF W R K H n w s) (r + 1) 0 st → xC 51 121 [some (.ref 38), some (.int (iI w)), some (.int (iI s)), some (.int (bI st)), some (.int (lI (csF W R K H n w s) st)), some (.int (nI r)), l6, l7, l8] [] σ (xqI Q)) → xC 51 23 [some (.ref 38), some (.int (iI w)), some (.int (iI s)), some (.int (bI st)), some (.int (lI (csF W R K H n w s) st)), some (.int (nI r)), some (.int (nI (21 * r + v))), l7, l8] [] σ (xqI Q) := by
    intro r hr m
    induction m with
    | zero =>
      intro v hv st l7 l8 hb hQ
      obtain rfl : v = 21 := by omega
      have e : (nI (21 * (r + 1)) ≤ nI (21 * r + 21)) = True := eq_true (Int32.le_refl _)
      rw [s51_23]
      simp only [s51_25, s51_27, s51_28, s51_29, s51_31, s51_32, xcx_i, xcx_r, xcx_n, xcx_l, xcx_0, nI_1, m21, e, if_true]
      exact hQ st _ _ _ (bS_row hb (by decide) (fun v' h1 h2 => by omega) (Nat.le_refl _))
    | succ m ih =>
      intro v hv st l7 l8 hb hQ
      have hvu := uO_gd hr
      have hg : gdU (uO r) (v : Nat) := ⟨hvu.1, hvu.2, by omega, by omega⟩
      have hpu := puF_bd hld (H := H) hg
      have hal := alF_bd hld (H := H) hg
      have hcs := csF_bd hld (H := H) hw hs hg
      obtain ⟨t1, t2⟩ := hT r v hr (by omega)
      have e := lt4N (n := 21 * (r + 1)) (i := 21 * r + v) (by omega) (by omega)
      have e2 : ((861 : Int32) ≤ nI (21 * r + v)) = False := eq_false (fun q => by have := (nI_leI (a := 861) (b := 21 * r + v) (by decide) (by omega)).mp q; omega)
      have b0 : 21 * r + v < 100000 := by omega
      have c0 : 21 * r + v < 861 := by omega
      have ev : (nI (21 * r + v) = nI (21 * r)) = (v = 0) := by rw [nI_eqL (by omega) (by omega)]; exact propext ⟨fun q => by omega, fun q => by omega⟩
      have hleft : iI w - iI (puF W R K H n (uO r) (v : Nat)) = iI (w - puF W R K H n (uO r) (v : Nat)) := iI_sub _ _
      have habs0 : aI (iI (alF W R K H n (uO r) (v : Nat) + s)) = iI (((s + alF W R K H n (uO r) (v : Nat)).natAbs : Nat) : Int) := by
        rw [aI_iI (by omega) (by omega)]; congr 2; omega
      have habsl : aI (iI (w - puF W R K H n (uO r) (v : Nat))) = iI (((w - puF W R K H n (uO r) (v : Nat)).natAbs : Nat) : Int) := aI_iI (by omega) (by omega)
      have hl0 : ((0 : Int32) < iI (w - puF W R K H n (uO r) (v : Nat))) = (0 < w - puF W R K H n (uO r) (v : Nat)) := by rw [e0]; exact propext (iI_lt (by omega) (by omega) (by omega) (by omega))
      -- after the sum
      have tail : ∀ l7' : Int32, l7' = iI (w - puF W R K H n (uO r) (v : Nat)) → xC 51 93 [some (.ref 38), some (.int (iI w)), some (.int (iI s)), some (.int (bI st)), some (.int (lI (csF W R K H n w s) st)), some (.int (nI r)), some (.int (nI (21 * r + v))), some (.int l7'), some (.int (iI (csF W R K H n w s (uO r) (v : Nat))))] [] σ (xqI Q) := by
        intro l7' hl7
        subst hl7
        have fin : ∀ st', bS (csF W R K H n w s) r (v + 1) st' → xC 51 107 [some (.ref 38), some (.int (iI w)), some (.int (iI s)), some (.int (bI st')), some (.int (lI (csF W R K H n w s) st')), some (.int (nI r)), some (.int (nI (21 * r + v))), some (.int (iI (w - puF W R K H n (uO r) (v : Nat)))), some (.int (iI (csF W R K H n w s (uO r) (v : Nat))))] [] σ (xqI Q) := by
          intro st' hb'
          by_cases c : 0 < w - puF W R K H n (uO r) (v : Nat)
          · simp only [s51_107, s51_109, s51_112, s51_115, s51_118, xcx_i, xcx_r, xcx_n, xcx_l, xcx_0, hl0, c, if_true, nI_1]
            exact ih (v + 1) (by omega) st' _ _ hb' hQ
          · simp only [s51_107, s51_109, s51_112, s51_115, s51_118, xcx_i, xcx_r, xcx_n, xcx_l, xcx_0, hl0, c, if_false]
            exact hQ st' _ _ _ (bS_row hb' (by omega) (fun v' h1 h2 => by
              rw [show v + 1 - 1 = v from rfl]
              exact csF_row hld (by omega) (by omega) (by omega)) (by omega))
        cases st with
        | none =>
          have e3 : ((1000000 : Int32) ≤ iI (csF W R K H n w s (uO r) (v : Nat))) = False := by
            rw [show (1000000 : Int32) = iI 1000000 from rfl]
            exact eq_false (fun q => by have := (iI_le (a := 1000000) (by omega) (by omega) (by omega) (by omega)).mp q; omega)
          simp only [s51_93, s51_95, s51_97, s51_100, s51_102, s51_104, s51_106, xcx_i, xcx_r, xcx_n, xcx_l, xcx_0, lI, e3, if_false]
          exact fin (some (r, v)) (bS_upd hb hr (by omega) (fun rb vb q => by cases q))
        | some x =>
          obtain ⟨rb, vb⟩ := x
          have hgb : gdU (uO rb) (vb : Nat) := by
            have := uO_gd hb.1
            have h2 := hb.2.1
            exact ⟨this.1, this.2, by omega, by omega⟩
          have hcb := csF_bd hld (H := H) hw hs hgb
          have e3 : (iI (csF W R K H n w s (uO rb) (vb : Nat)) ≤ iI (csF W R K H n w s (uO r) (v : Nat))) = (csF W R K H n w s (uO rb) (vb : Nat) ≤ csF W R K H n w s (uO r) (v : Nat)) := propext (iI_le (by omega) (by omega) (by omega) (by omega))
          by_cases c : csF W R K H n w s (uO rb) (vb : Nat) ≤ csF W R K H n w s (uO r) (v : Nat)
          · simp only [s51_93, s51_95, s51_97, s51_100, s51_102, s51_104, s51_106, xcx_i, xcx_r, xcx_n, xcx_l, xcx_0, lI, e3, c, if_true]
            exact fin (some (rb, vb)) (bS_keep hb c)
          · simp only [s51_93, s51_95, s51_97, s51_100, s51_102, s51_104, s51_106, xcx_i, xcx_r, xcx_n, xcx_l, xcx_0, lI, e3, c, if_false]
            exact fin (some (r, v)) (bS_upd hb hr (by omega) (fun rb' vb' q => by cases q; omega))
      rw [s51_23]
      by_cases c : 0 < w - puF W R K H n (uO r) (v : Nat)
      · have hc : csF W R K H n w s (uO r) (v : Nat) = (((s + alF W R K H n (uO r) (v : Nat)).natAbs : Nat) : Int) + (((w - puF W R K H n (uO r) (v : Nat)).natAbs : Nat) : Int) := by
          unfold csF; rw [if_neg (by omega)]
        have ht := tail _ rfl
        rw [hc] at ht
        simp only [s51_25, s51_27, s51_28, s51_29, s51_31, s51_32, s51_35, s51_37, s51_40, s51_43, s51_44, s51_45, s51_48, s51_50, s51_51, s51_52, s51_54, s51_55, s51_58, s51_60, s51_61, s51_62, s51_63, s51_66, s51_68, s51_70, s51_73, s51_75, s51_77, s51_79, s51_80, s51_83, s51_85, s51_87, s51_90, s51_91, xcx_i, xcx_r, xcx_n, xcx_l, xcx_0, nI_1, m21, e, e2, if_false, xcl_46, xcl_47, xln_46, xln_47, b0, c0, cl_s, pos_s, true_and, t1, t2, hleft, absA, habs0, hl0, c, if_true, habsl, iI_add]
        exact ht
      · by_cases z : v = 0
        · have hc : csF W R K H n w s (uO r) (v : Nat) = (((s + alF W R K H n (uO r) (v : Nat)).natAbs : Nat) : Int) := by
            unfold csF
            by_cases y : w - puF W R K H n (uO r) (v : Nat) < 0
            · rw [if_pos ⟨by omega, y⟩, Int.add_zero]
            · rw [if_neg (fun q => y q.2)]; omega
          have ht := tail _ rfl
          rw [hc] at ht
          have ev' : (nI (21 * r + v) = nI (21 * r)) = True := by rw [ev]; exact eq_true z
          simp only [s51_25, s51_27, s51_28, s51_29, s51_31, s51_32, s51_35, s51_37, s51_40, s51_43, s51_44, s51_45, s51_48, s51_50, s51_51, s51_52, s51_54, s51_55, s51_58, s51_60, s51_61, s51_62, s51_63, s51_66, s51_68, s51_70, s51_73, s51_75, s51_77, s51_79, s51_80, s51_83, s51_85, s51_87, s51_90, s51_91, xcx_i, xcx_r, xcx_n, xcx_l, xcx_0, nI_1, m21, e, e2, if_false, xcl_46, xcl_47, xln_46, xln_47, b0, c0, cl_s, pos_s, true_and, t1, t2, hleft, absA, habs0, hl0, c, ev', if_true, iI_add]
          exact ht
        · have hc : csF W R K H n w s (uO r) (v : Nat) = (((s + alF W R K H n (uO r) (v : Nat)).natAbs : Nat) : Int) + (((w - puF W R K H n (uO r) (v : Nat)).natAbs : Nat) : Int) := by
            unfold csF; rw [if_neg (by omega)]
          have ht := tail _ rfl
          rw [hc] at ht
          have ev' : (nI (21 * r + v) = nI (21 * r)) = False := by rw [ev]; exact eq_false z
          simp only [s51_25, s51_27, s51_28, s51_29, s51_31, s51_32, s51_35, s51_37, s51_40, s51_43, s51_44, s51_45, s51_48, s51_50, s51_51, s51_52, s51_54, s51_55, s51_58, s51_60, s51_61, s51_62, s51_63, s51_66, s51_68, s51_70, s51_73, s51_75, s51_77, s51_79, s51_80, s51_83, s51_85, s51_87, s51_90, s51_91, xcx_i, xcx_r, xcx_n, xcx_l, xcx_0, nI_1, m21, e, e2, if_false, xcl_46, xcl_47, xln_46, xln_47, b0, c0, cl_s, pos_s, true_and, t1, t2, hleft, absA, habs0, hl0, c, ev', habsl, iI_add]
          exact ht
  have outer : ∀ m r, r + m = 41 → ∀ st l6 l7 l8, bS (csF W R K H n w s) r 0 st → xC 51 9 [some (.ref 38), some (.int (iI w)), some (.int (iI s)), some (.int (bI st)), some (.int (lI (csF W R K H n w s) st)), some (.int (nI r)), l6, l7, l8] [] σ (xqI Q) := by
    intro m
    induction m with
    | zero =>
      intro r hr st l6 l7 l8 hb
      obtain rfl : r = 41 := by omega
      obtain ⟨rb, vb, rfl, h1, h2, h3⟩ := bS_end hb
      rw [s51_9]
      simp only [s51_11, s51_13, s51_127, s51_128, xcx_i, xcx_r, xcx_n, xcx_l, xcx_0, show ((41 : Int32) ≤ nI 41) = True from eq_true (by decide), if_true]
      exact hQ rb vb h1 h2 h3
    | succ m ih =>
      intro r hr st l6 l7 l8 hb
      have e : ((41 : Int32) ≤ nI r) = False := eq_false (fun q => by have := (nI_leI (a := 41) (b := r) (by decide) (by omega)).mp q; omega)
      rw [s51_9]
      simp only [s51_11, s51_13, s51_16, s51_18, s51_20, s51_21, xcx_i, xcx_r, xcx_n, xcx_l, xcx_0, e, if_false, m21]
      refine inner r (by omega) 21 0 (by omega) st _ _ hb (fun st' l6 l7 l8 hb' => ?_)
      simp only [s51_121, s51_124, xcx_i, xcx_r, xcx_n, xcx_l, xcx_0, nI_1]
      exact ih (r + 1) (by omega) st' _ _ _ hb'
  rw [e51]
  simp only [s51_0, s51_1, s51_2, s51_4, s51_6, s51_7, xcx_i, xcx_r, xcx_n, xcx_l, xcx_0]
  exact outer 41 0 (by omega) none _ _ _ ⟨rfl, rfl⟩
