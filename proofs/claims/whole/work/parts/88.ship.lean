/-! moorings: the ship's lines and the port, as numbers -/
def sdB (n ns nr bow deck : Nat) (D E : Nat → Nat → Nat) : Prop := n ≤ 6 ∧ ns ≤ 8 ∧ nr ≤ 4 ∧ bow ≤ 199 ∧ deck ≤ 30 ∧ (∀ i, i < n → D 0 i ≤ 80 ∧ D 1 i < ns ∧ D 2 i < nr ∧ D 3 i ≤ 40 ∧ D 4 i ≤ 99 ∧ D 5 i ≤ 99) ∧ (∀ s, s < ns → E 0 s ≤ 199 ∧ E 1 s ≤ 999) ∧ (∀ r, r < nr → E 2 r ≤ 999 ∧ 1 ≤ E 3 r ∧ E 3 r ≤ 20) ∧ ∀ h, E 4 h ≤ 9
def sdX (σ : xM) (p n ns nr bow deck : Nat) (D E : Nat → Nat → Nat) : Prop := ((p = 4 ∨ p = 7) ∧ σ.2.2 1 = p ∧ xat σ (p + 2) 0 = nI ns) ∧ (σ.1 10 1 = nI bow ∧ σ.1 10 2 = nI deck) ∧ (∀ i, i < n → σ.1 12 i = nI (D 0 i) ∧ σ.1 13 i = nI (D 1 i) ∧ σ.1 14 i = nI (D 2 i) ∧ σ.1 15 i = nI (D 3 i) ∧ σ.1 16 i = nI (D 4 i) ∧ σ.1 11 i = nI (D 5 i)) ∧ (∀ s, s < ns → σ.1 (p + 1) (2 * s) = nI (E 0 s) ∧ σ.1 (p + 1) (2 * s + 1) = nI (E 1 s)) ∧ (∀ r, r < nr → σ.1 (p + 1) (16 + 2 * r) = nI (E 2 r) ∧ σ.1 (p + 1) (16 + 2 * r + 1) = nI (E 3 r)) ∧ ∀ h, σ.1 (p + 1) (36 + h % 12 / 2) = nI (E 4 h)
def sdM (σ : xM) (n ns nr bow deck : Nat) (D E : Nat → Nat → Nat) : Prop := σ.1 84 17 = nI ns ∧ (σ.1 84 29 = nI bow ∧ σ.1 84 30 = nI deck) ∧ (∀ i, i < n → σ.1 98 (6 * i) = nI (D 0 i) ∧ σ.1 98 (6 * i + 1) = nI (D 1 i) ∧ σ.1 98 (6 * i + 2) = nI (D 2 i) ∧ σ.1 98 (6 * i + 3) = nI (D 3 i) ∧ σ.1 98 (6 * i + 4) = nI (D 4 i) ∧ σ.1 98 (6 * i + 5) = nI (D 5 i)) ∧ (∀ s, s < ns → σ.1 92 (2 * s) = nI (E 0 s) ∧ σ.1 92 (2 * s + 1) = nI (E 1 s)) ∧ (∀ r, r < nr → σ.1 93 (2 * r) = nI (E 2 r) ∧ σ.1 93 (2 * r + 1) = nI (E 3 r)) ∧ ∀ h, σ.1 96 (h % 12 / 2) = nI (E 4 h)
theorem sdX.sim {σ τ : xM} {p n ns nr bow deck : Nat} {D E : Nat → Nat → Nat} (h : sdX σ p n ns nr bow deck D E) (hs : xSim σ τ) : sdX τ p n ns nr bow deck D E := by
  have e : τ.1 (p + 1) = σ.1 (p + 1) ∧ τ.1 (p + 2) = σ.1 (p + 2) := by
    rcases h.1.1 with q | q <;> rw [q]
    · exact ⟨hs.row fun _ => rfl, hs.row fun _ => rfl⟩
    · exact ⟨hs.row fun _ => rfl, hs.row fun _ => rfl⟩
  unfold sdX xat
  rw [e.1, e.2, hs.2, hs.row (k := 10) fun _ => rfl, hs.row (k := 11) fun _ => rfl, hs.row (k := 12) fun _ => rfl, hs.row (k := 13) fun _ => rfl, hs.row (k := 14) fun _ => rfl, hs.row (k := 15) fun _ => rfl, hs.row (k := 16) fun _ => rfl]
  exact h
theorem sdM.sim {σ τ : xM} {n ns nr bow deck : Nat} {D E : Nat → Nat → Nat} (h : sdM σ n ns nr bow deck D E) (hs : xSim σ τ) : sdM τ n ns nr bow deck D E := by
  unfold sdM
  rw [hs.1 84 17 rfl, hs.1 84 29 rfl, hs.1 84 30 rfl, hs.row (k := 92) fun _ => rfl, hs.row (k := 93) fun _ => rfl, hs.row (k := 96) fun _ => rfl, hs.row (k := 98) fun _ => rfl]
  exact h
theorem cnum_nI {σ : xM} {c v n : Nat} (h : σ.1 c v = nI n) (hn : n < 2147483648) : cnum σ c v = n := by
  unfold cnum; rw [h]; exact nI_cl n hn
/-- out of the invariant, where there is a ship -/
theorem xInv.ship {xs : Nat → Int32} {L : Nat} {σ : xM} (hI : xInv xs L σ) (ha : σ.1 10 0 = 1) : ∃ p n ns nr bow deck D E, sdB n ns nr bow deck D E ∧ (∀ i, i < n → D 3 i ≤ 20) ∧ sdX σ p n ns nr bow deck D E ∧ sdM σ n ns nr bow deck D E ∧ σ.1 10 3 = nI n ∧ σ.1 84 31 = nI n ∧ 1 ≤ ns := by
  obtain ⟨p, ns, nr, nd, ng, nt, hp, hpe, hb, ⟨hst, -, -, -, -⟩, ⟨hm0, hm1, hmd, hmg, hmt⟩⟩ := hI.1.get
  obtain ⟨n, hn6, k1, k2, h01, h28, hz, h1, hrow⟩ := hI.2.2.1
  obtain ⟨r1, r2, r4, r5, r6⟩ := hI.1.rows hpe hm0 hm1 hmg hb.1 hb.2.1 hb.2.2.2.1
  obtain ⟨s1, s2, s3, s4, s5⟩ := h1 ha
  have hns8 := hb.1
  have hnr4 := hb.2.1
  obtain ⟨bow, c1, d1, -⟩ := bdN s3
  obtain ⟨deck, c2, d2, -⟩ := bdN s4
  have hv : ∀ i, i < n → lnV σ i ns nr (cnum σ 12 i) (cnum σ 13 i) (cnum σ 14 i) (cnum σ 15 i) (cnum σ 16 i) (cnum σ 11 i) := by
    intro i hi
    obtain ⟨ho, s, r, sl, ag, h, hv⟩ := gLn.get hm0 hm1 hns8 hnr4 (hrow i hi)
    obtain ⟨⟨b1, b2, b3, b4, b5, b6⟩, ⟨q1, q2, q3, q4, q5, q6⟩, -⟩ := id hv
    rw [cnum_nI q1 (by omega), cnum_nI q2 (by omega), cnum_nI q3 (by omega), cnum_nI q4 (by omega), cnum_nI q5 (by omega), cnum_nI q6 (by omega)]
    exact hv
  refine ⟨p, n, ns, nr, bow, deck, fun k i => if k = 0 then cnum σ 12 i else if k = 1 then cnum σ 13 i else if k = 2 then cnum σ 14 i else if k = 3 then cnum σ 15 i else if k = 4 then cnum σ 16 i else cnum σ 11 i, fun k i => if k = 0 then cnum σ (p + 1) (2 * i) else if k = 1 then cnum σ (p + 1) (2 * i + 1) else if k = 2 then cnum σ (p + 1) (16 + 2 * i) else if k = 3 then cnum σ (p + 1) (16 + 2 * i + 1) else cnum σ (p + 1) (36 + i % 12 / 2), ⟨hn6, hns8, hnr4, by omega, by omega, fun i hi => ?_, fun s hs => ?_, fun r hr => ?_, fun h => ?_⟩, fun i hi => ?_, ⟨⟨hp, hpe, hst⟩, ⟨d1, d2⟩, fun i hi => ?_, fun s hs => ?_, fun r hr => ?_, fun h => ?_⟩, ⟨hm0, ⟨s1.trans d1, s2.trans d2⟩, fun i hi => ?_, fun s hs => ?_, fun r hr => ?_, fun h => ?_⟩, k1, k2, ?_⟩
  · obtain ⟨⟨b1, b2, b3, b4, b5, b6⟩, -⟩ := hv i hi
    exact ⟨b1, b2, b3, Nat.le_trans b4 (by decide), b5, b6⟩
  · obtain ⟨-, -, q1, q2⟩ := r1 s hs
    have e1 := bdD q1 (by decide)
    have e2 := bdD q2 (by decide)
    exact ⟨(by omega : cnum σ (p + 1) (2 * s) ≤ 199), (by omega : cnum σ (p + 1) (2 * s + 1) ≤ 999)⟩
  · obtain ⟨-, -, q1, q2⟩ := r2 r hr
    have e1 := bdD q1 (by decide)
    have e2 := bdD q2 (by decide)
    exact ⟨(by omega : cnum σ (p + 1) (16 + 2 * r) ≤ 999), (by omega : 1 ≤ cnum σ (p + 1) (16 + 2 * r + 1)), (by omega : cnum σ (p + 1) (16 + 2 * r + 1) ≤ 20)⟩
  · have e1 := bdD (r5 (h % 12 / 2) (by omega)).2 (by decide)
    exact (by omega : cnum σ (p + 1) (36 + h % 12 / 2) ≤ 9)
  · obtain ⟨⟨b1, b2, b3, b4, b5, b6⟩, -⟩ := hv i hi
    exact b4
  · obtain ⟨-, ⟨q1, q2, q3, q4, q5, q6⟩, -⟩ := hv i hi
    exact ⟨q1, q2, q3, q4, q5, q6⟩
  · obtain ⟨-, -, q1, q2⟩ := r1 s hs
    exact ⟨(bdD q1 (by decide)).1, (bdD q2 (by decide)).1⟩
  · obtain ⟨-, -, q1, q2⟩ := r2 r hr
    exact ⟨(bdD q1 (by decide)).1, (bdD q2 (by decide)).1⟩
  · exact (bdD (r5 (h % 12 / 2) (by omega)).2 (by decide)).1
  · obtain ⟨-, -, ⟨q1, q2, q3, q4, q5, q6⟩⟩ := hv i hi
    exact ⟨q1, q2, q3, q4, q5, q6⟩
  · obtain ⟨a1, a2, q1, q2⟩ := r1 s hs
    exact ⟨a1.trans (bdD q1 (by decide)).1, a2.trans (bdD q2 (by decide)).1⟩
  · obtain ⟨a1, a2, q1, q2⟩ := r2 r hr
    exact ⟨a1.trans (bdD q1 (by decide)).1, a2.trans (bdD q2 (by decide)).1⟩
  · obtain ⟨a1, q1⟩ := r5 (h % 12 / 2) (by omega)
    exact a1.trans (bdD q1 (by decide)).1
  · rw [hm0, nI_ti (show ns < 2147483648 by omega)] at s5
    omega
/-! what they make of a line -/
def wyF (D E : Nat → Nat → Nat) (bow : Nat) (i : Nat) : Int := (E 0 (D 1 i) : Int) - bow - D 0 i
def spF (D E : Nat → Nat → Nat) (deck hour : Nat) (i : Nat) : Int := (((deck : Int) - E 4 (D 5 i)).natAbs : Int) + D 3 i - (((deck : Int) - E 4 hour).natAbs : Int)
def rmF (D E : Nat → Nat → Nat) (bow deck hour : Nat) (i : Nat) : Int := ((wyF D E bow i).natAbs : Int) + spF D E deck hour i
def hdF (D E : Nat → Nat → Nat) (i : Nat) : Int := (E 3 (D 2 i) : Int)
def brF (D E : Nat → Nat → Nat) (i : Nat) : Int := max 0 ((E 2 (D 2 i) : Int) - D 4 i)
theorem sdB.ld {n ns nr bow deck : Nat} {D E : Nat → Nat → Nat} (h : sdB n ns nr bow deck D E) (hour : Nat) {m : Nat} (hm : m ≤ n) : ldOk m (wyF D E bow) (rmF D E bow deck hour) (hdF D E) (brF D E) (D 1) := by
  obtain ⟨h1, h2, h3, h4, h5, h6, h7, h8, h9⟩ := h
  refine ⟨by omega, fun i hi => ?_⟩
  obtain ⟨a1, a2, a3, a4, a5, a6⟩ := h6 i (by omega)
  obtain ⟨b1, b2⟩ := h7 _ a2
  obtain ⟨c1, c2, c3⟩ := h8 _ a3
  have w1 := h9 hour
  have w2 := h9 (D 5 i)
  have hw : -300 ≤ wyF D E bow i ∧ wyF D E bow i ≤ 300 := by unfold wyF; omega
  have hs : -30 ≤ spF D E deck hour i ∧ spF D E deck hour i ≤ 70 := by unfold spF; omega
  refine ⟨hw, ?_, ?_, ?_, ?_, by omega⟩
  · unfold rmF; omega
  · unfold rmF; omega
  · unfold hdF; omega
  · unfold brF; omega
