/-! berths: depths, waters -/
theorem bdC {x : Int32} {a b : Int} (h : bd x a b) (ha : 0 ≤ a) : x = nI x.toNatClampNeg ∧ a ≤ (x.toNatClampNeg : Int) ∧ (x.toNatClampNeg : Int) ≤ b := by
  have h1 := h.1
  have h2 := h.2
  have e : (x.toNatClampNeg : Int) = x.toInt := by
    show ((x.toInt.toNat : Nat) : Int) = x.toInt
    omega
  refine ⟨?_, by omega, by omega⟩
  rw [nI_iI, e, iI_of]
theorem mnN {a b : Nat} (ha : a < 2147483648) (hb : b < 2147483648) : (if nI b < nI a then nI b else nI a) = nI (min a b) := by
  by_cases h : b < a
  · rw [if_pos ((nI_ltI hb ha).mpr h), Nat.min_eq_right (by omega)]
  · rw [if_neg (fun q => h ((nI_ltI hb ha).mp q)), Nat.min_eq_left (by omega)]
def ldN (dp : Nat → Nat) (x : Nat) : Nat → Nat
  | 0 => dp x
  | k + 1 => min (ldN dp x k) (dp (x + (k + 1)))
theorem ldN_le {dp : Nat → Nat} (h : ∀ x, dp x ≤ 40) (x k : Nat) : ldN dp x k ≤ 40 := by
  induction k with
  | zero => exact h x
  | succ k ih => exact Nat.le_trans (Nat.min_le_left _ _) ih
/-- the port as the berths use it -/
def pB (σ : xM) (p nd : Nat) (dp wa : Nat → Nat) : Prop := (p = 4 ∨ p = 7) ∧ σ.2.2 1 = p ∧ (xat σ (p + 2) 2 = nI nd ∧ σ.1 84 21 = nI nd ∧ nd ≤ 4) ∧ (∀ x, x < 100000 → dI (σ.1 (p + 1)) (nI x) nd = nI (dp x) ∧ dU (σ.1 94) (nI x) nd = nI (dp x)) ∧ (∀ x, dp x ≤ 40) ∧ ∀ h, σ.1 (p + 1) (36 + h % 12 / 2) = nI (wa h) ∧ σ.1 96 (h % 12 / 2) = nI (wa h) ∧ wa h ≤ 9
theorem dpt_bd {N : Nat → Int32} {nd : Nat} (h : ∀ i, i < nd → bd (N (24 + 3 * i + 2)) 0 40) (x : Int) : ∀ n, n ≤ nd → 0 ≤ dpt N x n ∧ dpt N x n ≤ 40 := by
  intro n
  induction n with
  | zero => intro _; exact ⟨Int.le_refl _, (by decide : (0 : Int) ≤ 40)⟩
  | succ n ih =>
    intro hn
    unfold dpt
    split
    · exact h n (by omega)
    · exact ih (by omega)
theorem gP.toB {σ : xM} (h : gP σ) : ∃ p nd dp wa, pB σ p nd dp wa ∧ ∀ x k, ldp (σ.1 (p + 1)) nd (x : Nat) k = (ldN dp x k : Nat) := by
  obtain ⟨p, ns, nr, nd, ng, nt, hp, hpe, hb, ⟨hst, -, hdd, -⟩, ⟨hm0, -, hmd, -⟩⟩ := h.get
  have h4 := hb.2.2.1
  have hdeep := h.deep
  obtain ⟨hpp, ns', nr', nd', ng', nt', hb', hT, hm, r1, r2, r3, r4, r5, r6⟩ := h
  have h4' := hb'.2.2.1
  obtain rfl : nd' = nd := (nI_eq (show nd' < 2147483648 by omega) (show nd < 2147483648 by omega)).mp (hm.2.2.1.symm.trans hmd)
  rw [hpe] at r3 r5 hdeep
  have hbd := dpt_bd (N := σ.1 (p + 1)) (nd := nd') (fun i hi => (r3 i hi).2.2.2.2.2)
  refine ⟨p, nd', fun x => (dpt (σ.1 (p + 1)) (x : Nat) nd').toNat, fun h => (σ.1 (p + 1) (36 + h % 12 / 2)).toNatClampNeg, ⟨hp, hpe, ⟨hdd, hmd, h4⟩, fun x hx => ?_, fun x => ?_, fun h => ?_⟩, ?_⟩
  · have e : dI (σ.1 (p + 1)) (nI x) nd' = nI (dpt (σ.1 (p + 1)) (x : Nat) nd').toNat := by
      have := hbd (x : Nat) nd' (Nat.le_refl _)
      rw [← iI_of (dI (σ.1 (p + 1)) (nI x) nd'), dI_dpt, nI_ti (show x < 2147483648 by omega), nI_iI, Int.toNat_of_nonneg this.1]
    exact ⟨e, (hdeep (nI x) nd' hmd h4).trans e⟩
  · have := hbd (x : Nat) nd' (Nat.le_refl _)
    show (dpt (σ.1 (p + 1)) (x : Nat) nd').toNat ≤ 40
    omega
  · have q := r5 (h % 12 / 2) (by omega)
    obtain ⟨q1, q2, q3⟩ := bdC q.2 (Int.le_refl 0)
    exact ⟨q1, q.1.trans q1, (by omega : (σ.1 (p + 1) (36 + h % 12 / 2)).toNatClampNeg ≤ 9)⟩
  · intro x k
    induction k with
    | zero =>
      have := hbd (x : Nat) nd' (Nat.le_refl _)
      show dpt (σ.1 (p + 1)) (x : Nat) nd' = (((dpt (σ.1 (p + 1)) (x : Nat) nd').toNat : Nat) : Int)
      omega
    | succ k ih =>
      have := hbd ((x : Int) + (k + 1 : Nat)) nd' (Nat.le_refl _)
      show min (ldp (σ.1 (p + 1)) nd' (x : Nat) k) (dpt (σ.1 (p + 1)) ((x : Nat) + (k + 1 : Nat)) nd') = ((min (ldN _ x k) ((dpt (σ.1 (p + 1)) ((x + (k + 1) : Nat) : Int) nd').toNat) : Nat) : Int)
      rw [ih]
      have e : ((x + (k + 1) : Nat) : Int) = (x : Int) + (k + 1 : Nat) := by omega
      rw [e]
      omega
theorem pB.sim {σ τ : xM} {p nd : Nat} {dp wa : Nat → Nat} (h : pB σ p nd dp wa) (hp : τ.2.2 = σ.2.2) (h1 : τ.1 (p + 1) = σ.1 (p + 1)) (h2 : τ.1 (p + 2) = σ.1 (p + 2)) (h3 : τ.1 84 21 = σ.1 84 21) (h4 : τ.1 94 = σ.1 94) (h5 : τ.1 96 = σ.1 96) : pB τ p nd dp wa := by
  have hx : xat τ (p + 2) 2 = xat σ (p + 2) 2 := by unfold xat; rw [h2]
  unfold pB
  rw [hp, hx, h1, h3, h4, h5]
  exact h
theorem XleastDepth {σ : xM} {p nd a k : Nat} {dp wa : Nat → Nat} {Q : Int32 → xM → Prop} (hP : pB σ p nd dp wa) (hk : a + k ≤ 1000) : xI1 82 [.ref p, .int (nI a), .int (nI k)] σ Q = Q (nI (ldN dp a k)) σ := by
  obtain ⟨hp, hpe, ⟨hd, -, h4⟩, hdp, hd40, -⟩ := hP
  have hda : ∀ (x : Nat), x < 100000 → ∀ Q : Int32 → xM → Prop, xI1 81 [.ref p, .int (nI x)] σ Q = Q (nI (dp x)) σ := fun x hx Q => by rw [XdepthAt_eq hp hd h4, (hdp x hx).1]
  have loop : ∀ m j, j + m = k → xC 82 9 [some (.ref p), some (.int (nI a)), some (.int (nI k)), some (.int (nI (ldN dp a j))), some (.int (nI (j + 1)))] [] σ (xqI Q) = Q (nI (ldN dp a k)) σ := by
    intro m
    induction m with
    | zero =>
      intro j hj
      obtain rfl : j = k := by omega
      have e : (nI j < nI (j + 1)) = True := eq_true ((nI_ltI (by omega) (by omega)).mpr (by omega))
      rw [s82_9]
      simp only [s82_0, s82_1, s82_2_4, s82_2_7, s82_5, s82_6, s82_7, s82_11, s82_12, s82_15, s82_16, s82_17, s82_18, s82_20, s82_21_4, s82_21_7, s82_24, s82_27, s82_28, s82_31, s82_34, s82_35, xcx_i, xcx_r, xcx_n, xcx_l, xcx_0, e, if_true]
    | succ m ih =>
      intro j hj
      have e : (nI k < nI (j + 1)) = False := eq_false (fun q => by have := (nI_ltI (a := k) (b := j + 1) (by omega) (by omega)).mp q; omega)
      have h1 := ldN_le hd40 a j
      have h2 := hd40 (a + (j + 1))
      have hmn : (if nI (dp (a + (j + 1))) < nI (ldN dp a j) then nI (dp (a + (j + 1))) else nI (ldN dp a j)) = nI (ldN dp a (j + 1)) := mnN (by omega) (by omega)
      rw [s82_9]
      rcases hp with rfl | rfl <;> simp only [s82_0, s82_1, s82_2_4, s82_2_7, s82_5, s82_6, s82_7, s82_11, s82_12, s82_15, s82_16, s82_17, s82_18, s82_20, s82_21_4, s82_21_7, s82_24, s82_27, s82_28, s82_31, s82_34, s82_35, xcx_i, xcx_r, xcx_n, xcx_l, xcx_0, e, if_false, nI_add, hda (a + (j + 1)) (by omega), min_eq, hmn, true_or, or_true, nI_1] <;> exact ih (j + 1) (by omega)
  rw [e82]
  rcases hp with rfl | rfl <;> simp only [s82_0, s82_1, s82_2_4, s82_2_7, s82_5, s82_6, s82_7, xcx_i, xcx_r, xcx_n, xcx_l, xcx_0, hda a (by omega), true_or, or_true] <;> exact loop k 0 (by omega)
theorem Xwa {σ : xM} {p nd h : Nat} {dp wa : Nat → Nat} {Q : Int32 → xM → Prop} (hP : pB σ p nd dp wa) (hh : h < 100000) : xI1 76 [.ref p, .int (nI h)] σ Q = Q (nI (wa h)) σ := by
  rw [Xwater_eq hP.1 hh, (hP.2.2.2.2.2 h).1]
theorem Mwa {σ : xM} {p nd h : Nat} {dp wa : Nat → Nat} {Q : Int32 → xM → Prop} (hP : pB σ p nd dp wa) (hh : h < 100000) : xI1 186 [.ref 84, .int (nI h)] σ Q = Q (nI (wa h)) σ := by
  rw [Mwater_eq hh, (hP.2.2.2.2.2 h).2.1]
/-! the visits' numbers -/
def vBd (le dr co st : Nat → Nat) (v : Nat) : Prop := 10 ≤ le v ∧ le v ≤ 150 ∧ 1 ≤ dr v ∧ dr v ≤ 40 ∧ co v ≤ 99 ∧ 1 ≤ st v ∧ st v ≤ 48
def vX (σ : xM) (n : Nat) (le dr co st : Nat → Nat) : Prop := n ≤ 5 ∧ σ.1 63 0 = nI n ∧ ∀ v, v < n → vBd le dr co st v ∧ σ.1 64 v = nI (le v) ∧ σ.1 65 v = nI (dr v) ∧ σ.1 66 v = nI (co v) ∧ σ.1 67 v = nI (st v)
def vM (σ : xM) (n : Nat) (le dr co st : Nat → Nat) : Prop := n ≤ 5 ∧ σ.1 84 43 = nI n ∧ ∀ v, v < n → vBd le dr co st v ∧ σ.1 107 (4 * v) = nI (le v) ∧ σ.1 107 (4 * v + 1) = nI (dr v) ∧ σ.1 107 (4 * v + 2) = nI (co v) ∧ σ.1 107 (4 * v + 3) = nI (st v)
def lX (σ : xM) (n : Nat) (L : Nat → Option (Nat × Nat)) : Prop := ∀ v, v < n → (L v = none → σ.1 69 v = -1) ∧ ∀ p h, L v = some (p, h) → σ.1 68 v = nI p ∧ σ.1 69 v = nI h ∧ p ≤ 200 ∧ h ≤ 199
def lM (σ : xM) (n : Nat) (L : Nat → Option (Nat × Nat)) : Prop := ∀ v, v < n → (L v = none → σ.1 109 v = -1) ∧ ∀ p h, L v = some (p, h) → σ.1 108 v = nI p ∧ σ.1 109 v = nI h ∧ p ≤ 200 ∧ h ≤ 199
def shX (σ : xM) (n : Nat) (le dp : Nat → Nat) : Prop := ∀ v t, v < n → t < 20 → σ.1 72 (20 * v + t) = nI (ldN dp (10 * t) (le v))
def cnum (σ : xM) (c v : Nat) : Nat := (σ.1 c v).toNatClampNeg
def lgo (σ : xM) (v : Nat) : Option (Nat × Nat) := if σ.1 69 v = -1 then none else some (cnum σ 68 v, cnum σ 69 v)
theorem bdD {σ : xM} {c v : Nat} {a b : Int} (h : bd (σ.1 c v) a b) (ha : 0 ≤ a) : σ.1 c v = nI (cnum σ c v) ∧ a ≤ (cnum σ c v : Int) ∧ (cnum σ c v : Int) ≤ b := bdC h ha
theorem gB.get {σ : xM} (h : gB σ) (hP : gP σ) : ∃ n le dr co st L p nd dp wa, vX σ n le dr co st ∧ vM σ n le dr co st ∧ lX σ n L ∧ lM σ n L ∧ shX σ n le dp ∧ pB σ p nd dp wa ∧ (∀ v q h, v < n → L v = some (q, h) → q + le v ≤ 200) := by
  obtain ⟨p, nd, dp, wa, hB, hld⟩ := hP.toB
  obtain ⟨n, hn5, k1, k2, hrow⟩ := h
  refine ⟨n, cnum σ 64, cnum σ 65, cnum σ 66, cnum σ 67, lgo σ, p, nd, dp, wa, ⟨hn5, k1, fun v hv => ?_⟩, ⟨hn5, k2, fun v hv => ?_⟩, fun v hv => ⟨fun q => ?_, fun a b q => ?_⟩, fun v hv => ⟨fun q => ?_, fun a b q => ?_⟩, fun v t hv ht => ?_, hB, fun v a b hv q => ?_⟩
  · obtain ⟨c1, c2, c3, c4, c5, b1, b2, b3, b4, l1, l2, -⟩ := hrow v hv
    obtain ⟨d1, d2, d3⟩ := bdD b1 (by decide)
    obtain ⟨e1, e2, e3⟩ := bdD b2 (by decide)
    obtain ⟨f1, f2, f3⟩ := bdD b3 (by decide)
    obtain ⟨g1, g2, g3⟩ := bdD b4 (by decide)
    exact ⟨⟨by omega, by omega, by omega, by omega, by omega, by omega, by omega⟩, d1, e1, f1, g1⟩
  · obtain ⟨c1, c2, c3, c4, c5, b1, b2, b3, b4, l1, l2, -⟩ := hrow v hv
    obtain ⟨d1, d2, d3⟩ := bdD b1 (by decide)
    obtain ⟨e1, e2, e3⟩ := bdD b2 (by decide)
    obtain ⟨f1, f2, f3⟩ := bdD b3 (by decide)
    obtain ⟨g1, g2, g3⟩ := bdD b4 (by decide)
    exact ⟨⟨by omega, by omega, by omega, by omega, by omega, by omega, by omega⟩, c1.trans d1, c2.trans e1, c3.trans f1, c4.trans g1⟩
  · by_cases w : σ.1 69 v = -1
    · exact w
    · rw [show lgo σ v = some (cnum σ 68 v, cnum σ 69 v) from if_neg w] at q; cases q
  · by_cases w : σ.1 69 v = -1
    · rw [show lgo σ v = none from if_pos w] at q; cases q
    · rw [show lgo σ v = some (cnum σ 68 v, cnum σ 69 v) from if_neg w] at q
      obtain ⟨c1, c2, c3, c4, c5, b1, b2, b3, b4, l1, l2, -⟩ := hrow v hv
      obtain ⟨l3, l4, l5⟩ := l2 w
      obtain ⟨d1, d2, d3⟩ := bdD l4 (by decide)
      obtain ⟨e1, e2, e3⟩ := bdD l5 (by decide)
      have b1 := b1.1
      cases q
      exact ⟨e1, d1, by omega, by omega⟩
  · obtain ⟨c1, c2, c3, c4, c5, b1, b2, b3, b4, l1, l2, -⟩ := hrow v hv
    by_cases w : σ.1 69 v = -1
    · exact c5.trans w
    · rw [show lgo σ v = some (cnum σ 68 v, cnum σ 69 v) from if_neg w] at q; cases q
  · obtain ⟨c1, c2, c3, c4, c5, b1, b2, b3, b4, l1, l2, -⟩ := hrow v hv
    by_cases w : σ.1 69 v = -1
    · rw [show lgo σ v = none from if_pos w] at q; cases q
    · rw [show lgo σ v = some (cnum σ 68 v, cnum σ 69 v) from if_neg w] at q
      obtain ⟨l3, l4, l5⟩ := l2 w
      obtain ⟨d1, d2, d3⟩ := bdD l4 (by decide)
      obtain ⟨e1, e2, e3⟩ := bdD l5 (by decide)
      have b1 := b1.1
      cases q
      exact ⟨l3.trans e1, c5.trans d1, by omega, by omega⟩
  · have h1 := (hrow v hv).2.2.2.2.2.2.2.2.2.2.2 t ht
    have e21 : (σ.1 84 21).toNatClampNeg = nd := by
      have h4 := hB.2.2.1.2.2
      rw [hB.2.2.1.2.1]; exact nI_cl nd (by omega)
    rw [hB.2.1, e21, hld] at h1
    rw [show (σ.1 64 v).toNatClampNeg = cnum σ 64 v from rfl] at h1
    rw [nI_iI, ← h1, iI_of]
  · obtain ⟨c1, c2, c3, c4, c5, b1, b2, b3, b4, l1, l2, -⟩ := hrow v hv
    by_cases w : σ.1 69 v = -1
    · rw [show lgo σ v = none from if_pos w] at q; cases q
    · rw [show lgo σ v = some (cnum σ 68 v, cnum σ 69 v) from if_neg w] at q
      obtain ⟨l3, l4, l5⟩ := l2 w
      obtain ⟨d1, d2, d3⟩ := bdD b1 (by decide)
      obtain ⟨e1, e2, e3⟩ := bdD l5 (by decide)
      have e := nI_ti (n := cnum σ 64 v) (by omega)
      rw [← d1] at e
      cases q
      show cnum σ 68 v + cnum σ 64 v ≤ 200
      omega
