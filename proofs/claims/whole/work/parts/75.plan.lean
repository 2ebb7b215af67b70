/-! plan: the pure course -/
def cwF (L0 : Nat → Option (Nat × Nat)) : Nat → Nat
  | 0 => 0
  | v + 1 => cwF L0 v + if (L0 v).isNone then 1 else 0
def wvF (L0 : Nat → Option (Nat × Nat)) : Nat → Nat → Nat
  | 0 => fun _ => 0
  | v + 1 => if (L0 v).isNone then upN (wvF L0 v) (cwF L0 v) v else wvF L0 v
theorem cwF_le (L0 : Nat → Option (Nat × Nat)) : ∀ v, cwF L0 v ≤ v := by
  intro v
  induction v with
  | zero => exact Nat.le_refl _
  | succ v ih => unfold cwF; split <;> omega
theorem wvF_spec (L0 : Nat → Option (Nat × Nat)) : ∀ v, (∀ m, m < cwF L0 v → wvF L0 v m < v ∧ L0 (wvF L0 v m) = none) ∧ (∀ a b, a < cwF L0 v → b < cwF L0 v → (wvF L0 v a < wvF L0 v b) = (a < b)) ∧ ∀ u, u < v → L0 u = none → ∃ m, m < cwF L0 v ∧ wvF L0 v m = u := by
  intro v
  induction v with
  | zero => exact ⟨fun m h => absurd h (Nat.not_lt_zero m), fun a b h => absurd h (Nat.not_lt_zero a), fun u h => absurd h (Nat.not_lt_zero u)⟩
  | succ v ih =>
    obtain ⟨i1, i2, i3⟩ := ih
    cases hL : L0 v with
    | none =>
      have e1 : cwF L0 (v + 1) = cwF L0 v + 1 := by
        show cwF L0 v + (if (L0 v).isNone then 1 else 0) = _
        rw [hL]; rfl
      have e2 : wvF L0 (v + 1) = upN (wvF L0 v) (cwF L0 v) v := by
        show (if (L0 v).isNone then _ else _) = _
        rw [hL]; rfl
      rw [e1, e2]
      refine ⟨fun m h => ?_, fun a b ha hb => ?_, fun u hu hn => ?_⟩
      · unfold upN
        by_cases q : m = cwF L0 v
        · rw [if_pos q]; exact ⟨by omega, hL⟩
        · rw [if_neg q]
          have := i1 m (by omega)
          exact ⟨by omega, this.2⟩
      · unfold upN
        by_cases q1 : a = cwF L0 v
        · rw [if_pos q1]
          by_cases q2 : b = cwF L0 v
          · rw [if_pos q2, q1, q2]; exact propext ⟨fun q => absurd q (Nat.lt_irrefl _), fun q => absurd q (Nat.lt_irrefl _)⟩
          · rw [if_neg q2]
            have := (i1 b (by omega)).1
            exact propext ⟨fun q => by omega, fun q => by omega⟩
        · rw [if_neg q1]
          by_cases q2 : b = cwF L0 v
          · rw [if_pos q2]
            have := (i1 a (by omega)).1
            exact propext ⟨fun q => by omega, fun q => by omega⟩
          · rw [if_neg q2]; exact i2 a b (by omega) (by omega)
      · by_cases q : u = v
        · refine ⟨cwF L0 v, by omega, ?_⟩
          unfold upN; rw [if_pos rfl, q]
        · obtain ⟨m, h1, h2⟩ := i3 u (by omega) hn
          refine ⟨m, by omega, ?_⟩
          unfold upN; rw [if_neg (by omega)]; exact h2
    | some x =>
      have e1 : cwF L0 (v + 1) = cwF L0 v := by
        show cwF L0 v + (if (L0 v).isNone then 1 else 0) = _
        rw [hL]; rfl
      have e2 : wvF L0 (v + 1) = wvF L0 v := by
        show (if (L0 v).isNone then _ else _) = _
        rw [hL]; rfl
      rw [e1, e2]
      refine ⟨fun m h => ?_, i2, fun u hu hn => ?_⟩
      · have := i1 m h
        exact ⟨by omega, this.2⟩
      · by_cases q : u = v
        · rw [q, hL] at hn; cases hn
        · exact i3 u (by omega) hn
def upL (L : Nat → Option (Nat × Nat)) (v : Nat) (x : Option (Nat × Nat)) : Nat → Option (Nat × Nat) := fun u => if u = v then x else L u
/-- visits laid in an order; vs i is the i-th of it -/
def ruF (le dr co st dp wa : Nat → Nat) (n : Nat) (vs : Nat → Nat) : Nat → Nat → (Nat → Option (Nat × Nat)) → Nat → Option ((Nat → Option (Nat × Nat)) × Nat)
  | 0, _, L, s => some (L, s)
  | k + 1, i, L, s => match ffH le dr st dp wa L n (vs i) (200 - co (vs i)) (co (vs i)) with
    | none => none
    | some (h, p) => ruF le dr co st dp wa n vs k (i + 1) (upL L (vs i) (some (p, h))) (s + (h - co (vs i)))
theorem ruF_mono {le dr co st dp wa : Nat → Nat} {n : Nat} {vs : Nat → Nat} : ∀ k i L s L' s', ruF le dr co st dp wa n vs k i L s = some (L', s') → s ≤ s' := by
  intro k
  induction k with
  | zero => intro i L s L' s' h; cases h; exact Nat.le_refl _
  | succ k ih =>
    intro i L s L' s' h
    cases hf : ffH le dr st dp wa L n (vs i) (200 - co (vs i)) (co (vs i)) with
    | none => unfold ruF at h; rw [hf] at h; cases h
    | some x =>
      obtain ⟨hh, p⟩ := x
      unfold ruF at h
      rw [hf] at h
      have := ih _ _ _ _ _ h
      omega
def lsN : Option (Nat × (Nat → Option (Nat × Nat))) → Nat
  | none => 1000000
  | some (b, _) => b
def plU (s : Nat) (L : Nat → Option (Nat × Nat)) : Option (Nat × (Nat → Option (Nat × Nat))) → Option (Nat × (Nat → Option (Nat × Nat)))
  | none => some (s, L)
  | some (b, K) => if s < b then some (s, L) else some (b, K)
def plT (o : Option ((Nat → Option (Nat × Nat)) × Nat)) (c : Option (Nat × (Nat → Option (Nat × Nat)))) : Option (Nat × (Nat → Option (Nat × Nat))) := match o with
  | none => c
  | some (L, s) => plU s L c
def plF (le dr co st dp wa : Nat → Nat) (n many : Nat) (w : Nat → Nat) (L0 : Nat → Option (Nat × Nat)) : List Nat → Option (Nat × (Nat → Option (Nat × Nat))) → Option (Nat × (Nat → Option (Nat × Nat)))
  | [], c => c
  | a :: t, c => plF le dr co st dp wa n many w L0 t (plT (ruF le dr co st dp wa n (fun i => w (decR a i)) many 0 L0 0) c)
def cdL (L : Nat → Option (Nat × Nat)) (v : Nat) : Nat := match L v with
  | none => 0
  | some (p, h) => 1000 * h + p
/-- what the class may change here -/
def chP (k j : Nat) : Bool := decide ((68 ≤ k ∧ k ≤ 71) ∨ k = 78 ∨ k = 79 ∨ (k = 63 ∧ j = 7))
def chR (k _j : Nat) : Bool := decide (k = 108 ∨ k = 109 ∨ k = 119 ∨ k = 120)
theorem xSimW.rf (ch : Nat → Nat → Bool) (σ : xM) : xSimW ch σ σ := ⟨fun _ _ _ => rfl, rfl⟩
theorem xSimW.tr {ch : Nat → Nat → Bool} {a b c : xM} (h1 : xSimW ch a b) (h2 : xSimW ch b c) : xSimW ch a c := ⟨fun k j h => (h2.1 k j h).trans (h1.1 k j h), h2.2.trans h1.2⟩
theorem xSimW.si {ch : Nat → Nat → Bool} {σ τ : xM} {k j : Nat} {v : Int32} (h : xSimW ch σ τ) (hc : ch k j = true) : xSimW ch σ (xe_si τ k j v) := by
  refine ⟨fun a b hab => ?_, h.2⟩
  rw [si_rd]
  by_cases q : a = k ∧ b = j
  · obtain ⟨rfl, rfl⟩ := q; rw [hc] at hab; cases hab
  · rw [if_neg q]; exact h.1 a b hab
theorem only.W {ch : Nat → Nat → Bool} {c : Nat} {σ τ : xM} (h : only c σ τ) (hc : ∀ j, ch c j = true) : xSimW ch σ τ := ⟨fun k j hk => by
  have : k ≠ c := fun e => by subst e; rw [hc j] at hk; cases hk
  rw [h.1 k this], h.2⟩
theorem pB.W {ch : Nat → Nat → Bool} {σ τ : xM} {p nd : Nat} {dp wa : Nat → Nat} (h : pB σ p nd dp wa) (hs : xSimW ch σ τ) (h5 : (∀ j, ch 5 j = false) ∧ (∀ j, ch 6 j = false) ∧ (∀ j, ch 8 j = false) ∧ (∀ j, ch 9 j = false) ∧ ch 84 21 = false ∧ (∀ j, ch 94 j = false) ∧ ∀ j, ch 96 j = false) : pB τ p nd dp wa := by
  obtain ⟨c5, c6, c8, c9, c84, c94, c96⟩ := h5
  refine h.sim hs.2 ?_ ?_ (hs.1 84 21 c84) (hs.row c94) (hs.row c96)
  · rcases h.1 with e | e <;> rw [e]
    · exact hs.row c5
    · exact hs.row c8
  · rcases h.1 with e | e <;> rw [e]
    · exact hs.row c6
    · exact hs.row c9
section PW
variable {σ τ : xM} {n p nd : Nat} {le dr co st dp wa : Nat → Nat}
theorem pB.P (h : pB σ p nd dp wa) (hs : xSimW chP σ τ) : pB τ p nd dp wa := h.W hs ⟨fun _ => rfl, fun _ => rfl, fun _ => rfl, fun _ => rfl, rfl, fun _ => rfl, fun _ => rfl⟩
theorem pB.R (h : pB σ p nd dp wa) (hs : xSimW chR σ τ) : pB τ p nd dp wa := h.W hs ⟨fun _ => rfl, fun _ => rfl, fun _ => rfl, fun _ => rfl, rfl, fun _ => rfl, fun _ => rfl⟩
theorem vX.P (h : vX σ n le dr co st) (hs : xSimW chP σ τ) : vX τ n le dr co st := by
  unfold vX; rw [hs.1 63 0 rfl, hs.row (k := 64) fun _ => rfl, hs.row (k := 65) fun _ => rfl, hs.row (k := 66) fun _ => rfl, hs.row (k := 67) fun _ => rfl]; exact h
theorem shX.P (h : shX σ n le dp) (hs : xSimW chP σ τ) : shX τ n le dp := by
  unfold shX; rw [hs.row (k := 72) fun _ => rfl]; exact h
theorem vM.R (h : vM σ n le dr co st) (hs : xSimW chR σ τ) : vM τ n le dr co st := by
  unfold vM; rw [hs.1 84 43 rfl, hs.row (k := 107) fun _ => rfl]; exact h
theorem shM.R (h : shM σ n le dp) (hs : xSimW chR σ τ) : shM τ n le dp := by
  unfold shM; rw [hs.row (k := 118) fun _ => rfl]; exact h
end PW
theorem d1000 {h p : Nat} (hp : p ≤ 200) (hh : h ≤ 199) : nI (1000 * h + p) / 1000 = nI h ∧ nI (1000 * h + p) - nI (1000 * h + p) / 1000 * 1000 = nI p := by
  have h1 : nI (1000 * h + p) / 1000 = nI ((1000 * h + p) / 1000) := pk_div (d := 1000) (by omega) (by decide) (by decide)
  have h2 : nI (1000 * h + p) - nI (1000 * h + p) / 1000 * 1000 = nI ((1000 * h + p) % 1000) := pk_rem (d := 1000) (by omega) (by decide) (by decide)
  rw [h2, h1]
  constructor
  · congr 1; omega
  · congr 1; omega
