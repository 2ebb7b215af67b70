/-! best: the reference's -/
def mbs (m : Nat) (σ τ : xM) : Prop := (∀ k j, ¬ (k = 84 ∧ (j = 52 ∨ j = 53 ∨ j = 31)) → ¬ (k = 98 ∧ ∃ i, i < m ∧ j = 6 * i + 1) → k ≠ 112 → τ.1 k j = σ.1 k j) ∧ τ.2.2 = σ.2.2
theorem mbs.mrs {m : Nat} {σ τ τ' : xM} (h : mbs m σ τ) (hr : mrs τ τ') : mbs m σ τ' := ⟨fun k j q1 q2 q3 => (hr.1 k j (fun z => q1 ⟨z.1, z.2.elim Or.inl (fun y => Or.inr (Or.inl y))⟩)).trans (h.1 k j q1 q2 q3), hr.2.trans h.2⟩
theorem mbs.s98 {m i : Nat} {σ τ : xM} {x : Int32} (h : mbs m σ τ) (hi : i < m) : mbs m σ (xe_si τ 98 (6 * i + 1) x) := ⟨fun k j q1 q2 q3 => by rw [si_rd, if_neg (fun z => q2 ⟨z.1, i, hi, z.2⟩)]; exact h.1 k j q1 q2 q3, h.2⟩
theorem mbs.s112 {m i : Nat} {σ τ : xM} {x : Int32} (h : mbs m σ τ) : mbs m σ (xe_si τ 112 i x) := ⟨fun k j q1 q2 q3 => by rw [si_rd, if_neg (fun z => q3 z.1)]; exact h.1 k j q1 q2 q3, h.2⟩
theorem mbs.s31 {m : Nat} {σ τ : xM} {x : Int32} (h : mbs m σ τ) : mbs m σ (xe_si τ 84 31 x) := ⟨fun k j q1 q2 q3 => by rw [si_rd, if_neg (fun z => q1 ⟨z.1, Or.inr (Or.inr z.2)⟩)]; exact h.1 k j q1 q2 q3, h.2⟩
theorem mbs.sd {σ τ : xM} {n m ns nr bow deck : Nat} {D E : Nat → Nat → Nat} {S : Nat → Nat} (h : sdM σ n ns nr bow deck D E) (hm : mbs m σ τ) (hmn : m ≤ n) (hl : ∀ i, i < m → τ.1 98 (6 * i + 1) = nI (S i)) : sdM τ m ns nr bow deck (stD D S) E := by
  obtain ⟨h1, ⟨h2, h3⟩, h4, h5, h6, h7⟩ := h
  have c84 : ∀ j, j ≠ 52 → j ≠ 53 → j ≠ 31 → τ.1 84 j = σ.1 84 j := fun j q1 q2 q3 => hm.1 84 j (fun z => z.2.elim q1 (fun y => y.elim q2 q3)) (fun z => by omega) (by decide)
  have row : ∀ k, k ≠ 84 → k ≠ 98 → k ≠ 112 → ∀ j, τ.1 k j = σ.1 k j := fun k q1 q2 q3 j => hm.1 k j (fun z => q1 z.1) (fun z => q2 z.1) q3
  have c98 : ∀ j, (∀ i, j ≠ 6 * i + 1) → τ.1 98 j = σ.1 98 j := fun j q => hm.1 98 j (fun z => by omega) (fun z => by obtain ⟨-, i, -, e⟩ := z; exact q i e) (by decide)
  refine ⟨by rw [c84 17 (by decide) (by decide) (by decide)]; exact h1, ⟨by rw [c84 29 (by decide) (by decide) (by decide)]; exact h2, by rw [c84 30 (by decide) (by decide) (by decide)]; exact h3⟩, fun i hi => ?_, fun s hs => ?_, fun r hr => ?_, fun h => ?_⟩
  · obtain ⟨a0, a1, a2, a3, a4, a5⟩ := h4 i (by omega)
    exact ⟨by rw [c98 _ (fun i => by omega)]; exact a0, hl i hi, by rw [c98 _ (fun i => by omega)]; exact a2, by rw [c98 _ (fun i => by omega)]; exact a3, by rw [c98 _ (fun i => by omega)]; exact a4, by rw [c98 _ (fun i => by omega)]; exact a5⟩
  · rw [row 92 (by decide) (by decide) (by decide), row 92 (by decide) (by decide) (by decide)]; exact h5 s hs
  · rw [row 93 (by decide) (by decide) (by decide), row 93 (by decide) (by decide) (by decide)]; exact h6 r hr
  · rw [row 96 (by decide) (by decide) (by decide)]; exact h7 h
def fB (m : Nat) (D : Nat → Nat → Nat) (σ τ : xM) : Prop := mbs m σ τ ∧ τ.1 84 31 = nI m ∧ ∀ i, i < m → τ.1 112 i = nI (D 1 i)
theorem fB.mrs {m : Nat} {D : Nat → Nat → Nat} {σ τ τ' : xM} (h : fB m D σ τ) (hr : mrs τ τ') : fB m D σ τ' := ⟨h.1.mrs hr, (hr.1 84 31 (fun z => by omega)).trans h.2.1, fun i hi => (hr.1 112 i (fun z => by omega)).trans (h.2.2 i hi)⟩
theorem fB.s98 {m i : Nat} {D : Nat → Nat → Nat} {σ τ : xM} {x : Int32} (h : fB m D σ τ) (hi : i < m) : fB m D σ (xe_si τ 98 (6 * i + 1) x) := ⟨h.1.s98 hi, by rw [si_ne (by decide)]; exact h.2.1, fun i hi => by rw [si_ne (by decide)]; exact h.2.2 i hi⟩
theorem Mdig {σ : xM} {n m ns nr bow deck hour N t : Nat} {D E : Nat → Nat → Nat} {w s e l6 best bw : Int32} {Q : Int32 → xM → Prop} (h : sdM σ n ns nr bow deck D E) (hb : sdB n ns nr bow deck D E) (hm : m ≤ n) (hns : 1 ≤ ns) (ht : t < 100000) {l13 l14 : Option Value} (hQ : ∀ (l11 l12 : Int32) τ, fB m D σ τ → (∀ i, i < m → τ.1 98 (6 * i + 1) = nI (dg ns m t i)) → xC 207 185 [some (.ref 84), some (.int (nI hour)), some (.int w), some (.int s), some (.int (nI m)), some (.int e), some (.int l6), some (.int (nI N)), some (.int best), some (.int bw), some (.int (nI t)), some (.int l11), some (.int l12), l13, l14] [] τ (xqI Q)) : ∀ j, j ≤ m → ∀ τ, fB m D σ τ → (∀ i, j ≤ i → i < m → τ.1 98 (6 * i + 1) = nI (dg ns m t i)) → xC 207 146 [some (.ref 84), some (.int (nI hour)), some (.int w), some (.int s), some (.int (nI m)), some (.int e), some (.int l6), some (.int (nI N)), some (.int best), some (.int bw), some (.int (nI t)), some (.int (nI (t / ns ^ (m - j)))), some (.int (iI ((j : Int) - 1))), l13, l14] [] τ (xqI Q) := by
  have hn6 := hb.1
  have hns8 := hb.2.1
  intro j
  induction j with
  | zero =>
    intro _ τ hf hd
    rw [s207_146]
    simp only [s207_148, xcx_i, xcx_r, xcx_n, xcx_l, xcx_0, show (iI (((0 : Nat) : Int) - 1) < 0) = True from eq_true (by decide), if_true]
    exact hQ _ _ τ hf (fun i hi => hd i (Nat.zero_le _) hi)
  | succ j ih =>
    intro hj τ hf hd
    have ei : iI (((j + 1 : Nat) : Int) - 1) = nI j := by rw [nI_iI]; congr 1; omega
    have elt : (nI j < 0) = False := eq_false (fun q => by rw [nl_0 (by omega)] at q; omega)
    have hle : t / ns ^ (m - (j + 1)) ≤ t := Nat.div_le_self _ _
    have e0 : ¬ nI ns = 0 := fun q => by have := (nI_eq (b := 0) (by omega) (by decide)).mp q; omega
    have e17 : τ.1 84 17 = nI ns := (hf.1.1 84 17 (fun z => by omega) (fun z => by omega) (by decide)).trans h.1
    have ediv : nI (t / ns ^ (m - (j + 1))) / nI ns = nI (t / ns ^ (m - j)) := by
      rw [pk_div (by omega) (by omega)]
      · rw [Nat.div_div_eq_div_mul, ← Nat.pow_succ, show (m - (j + 1)).succ = m - j by omega]
      · omega
    have erem : nI (t / ns ^ (m - (j + 1))) - nI (t / ns ^ (m - (j + 1))) / nI ns * nI ns = nI (dg ns m t j) := by
      have : dg ns m t j = t / ns ^ (m - (j + 1)) % ns := by unfold dg; rw [show m - 1 - j = m - (j + 1) by omega]
      rw [this]
      exact pk_rem (by omega) (by omega) (by omega)
    rw [ediv] at erem
    have ep : nI j + -1 = iI ((j : Int) - 1) := by rw [nI_iI, show (-1 : Int32) = iI (-1) from rfl, iI_add]; rfl
    have b0 : 6 * j + 1 < 100000 := by omega
    have c0 : 6 * j + 1 < 36 := by omega
    have next := ih (by omega) (xe_si τ 98 (6 * j + 1) (nI (dg ns m t j))) (hf.s98 (by omega)) (fun i hi1 hi2 => by
      rw [si_rd]
      by_cases q : i = j
      · subst q; rw [if_pos ⟨rfl, rfl⟩]
      · rw [if_neg (fun z => by omega)]; exact hd i (by omega) hi2)
    rw [ei, s207_146]
    simp only [s207_148, s207_151, s207_152, s207_155, s207_157, s207_159, s207_160, s207_161, s207_162, s207_164, s207_165, s207_168, s207_169, s207_170, s207_172, s207_173, s207_176, s207_177, s207_179, s207_182, xcx_i, xcx_r, xcx_n, xcx_l, xcx_0, elt, if_false, e17, si_rd, Nat.reduceEqDiff, false_and, ml_6, al_1, xcl_98, xln_98, b0, c0, cl_s, pos_s, e0, not_false_eq_true, true_and, erem, ediv, ep, or_true]
    exact next
theorem Mgrl {τ : xM} {m ns nr bow deck hour : Nat} {D E : Nat → Nat → Nat} {u v : Int} {w s e l6 l7 best bw l10 : Int32} {l11 : Int32} {Q : Int32 → xM → Prop} (h : sdM τ m ns nr bow deck D E) (hb : sdB m ns nr bow deck D E) (hh : hour ≤ 99) (hg : gdU u v) (hu : τ.1 84 52 = iI u) (hv : τ.1 84 53 = iI v) (hQ : ∀ l13 l14, xC 207 261 [some (.ref 84), some (.int (nI hour)), some (.int w), some (.int s), some (.int (nI m)), some (.int e), some (.int l6), some (.int l7), some (.int best), some (.int bw), some (.int l10), some (.int l11), some (.int (mxL (fun i => ldI (plI (wyF D E bow) (rmF D E bow deck hour) (hdF D E) u v i) (brF D E i)) m)), l13, l14] [] τ (xqI Q)) : ∀ k i, i + k = m → ∀ l14, xC 207 209 [some (.ref 84), some (.int (nI hour)), some (.int w), some (.int s), some (.int (nI m)), some (.int e), some (.int l6), some (.int l7), some (.int best), some (.int bw), some (.int l10), some (.int l11), some (.int (mxL (fun i => ldI (plI (wyF D E bow) (rmF D E bow deck hour) (hdF D E) u v i) (brF D E i)) i)), some (.int (nI i)), l14] [] τ (xqI Q) := by
  have hn6 := hb.1
  intro k
  induction k with
  | zero =>
    intro i hi l14
    obtain rfl : i = m := by omega
    rw [s207_209]
    simp only [s207_211, s207_213, xcx_i, xcx_r, xcx_n, xcx_l, xcx_0, Int32.le_refl, if_true]
    exact hQ _ _
  | succ k ih =>
    intro i hi l14
    have e := lt4N (n := m) (i := i) (by omega) (by omega)
    have hpa : ∀ Q : Int32 → xM → Prop, xI1 190 [.ref 84, .int (nI i), .int (nI hour), .int (iI u), .int (iI v)] τ Q = _ := fun Q => MpullAt h hb hh hg (by omega : i < m)
    have hlo : ∀ (p : Int) (Q : Int32 → xM → Prop), xI1 192 [.ref 84, .int (nI i), .int (iI p)] τ Q = _ := fun p Q => Mload h hb (by omega : i < m)
    have ihh := fun l14 => ih (i + 1) (by omega) l14
    rw [show mxL (fun i => ldI (plI (wyF D E bow) (rmF D E bow deck hour) (hdF D E) u v i) (brF D E i)) (i + 1) = if mxL (fun i => ldI (plI (wyF D E bow) (rmF D E bow deck hour) (hdF D E) u v i) (brF D E i)) i < ldI (plI (wyF D E bow) (rmF D E bow deck hour) (hdF D E) u v i) (brF D E i) then ldI (plI (wyF D E bow) (rmF D E bow deck hour) (hdF D E) u v i) (brF D E i) else mxL (fun i => ldI (plI (wyF D E bow) (rmF D E bow deck hour) (hdF D E) u v i) (brF D E i)) i from rfl] at ihh
    generalize mxL (fun i => ldI (plI (wyF D E bow) (rmF D E bow deck hour) (hdF D E) u v i) (brF D E i)) i = a at ihh
    generalize hx : ldI (plI (wyF D E bow) (rmF D E bow deck hour) (hdF D E) u v i) (brF D E i) = x at ihh
    have hx' : ldI (plI (wyF D E bow) (rmF D E bow deck hour) (hdF D E) u v i) (brF D E i) = x := hx
    have ele : (x ≤ a) = ¬ a < x := propext Int32.not_lt.symm
    rw [s207_209]
    by_cases c : a < x
    · rw [if_pos c] at ihh
      simp only [s207_211, s207_213, s207_216, s207_217, s207_219, s207_220, s207_222, s207_223, s207_224, s207_227, s207_228, s207_231, s207_234, s207_237, s207_239, s207_241, s207_243, s207_246, s207_248, s207_251, s207_253, s207_255, s207_258, xcx_i, xcx_r, xcx_n, xcx_l, xcx_0, e, if_false, hu, hv, hpa, hlo, hx', ele, c, not_true, nI_1, true_or, or_true]
      exact ihh _
    · rw [if_neg c] at ihh
      simp only [s207_211, s207_213, s207_216, s207_217, s207_219, s207_220, s207_222, s207_223, s207_224, s207_227, s207_228, s207_231, s207_234, s207_237, s207_239, s207_241, s207_243, s207_246, s207_248, s207_251, s207_253, s207_255, s207_258, xcx_i, xcx_r, xcx_n, xcx_l, xcx_0, e, if_false, hu, hv, hpa, hlo, hx', ele, c, not_false_eq_true, if_true, nI_1, true_or, or_true]
      exact ihh _
