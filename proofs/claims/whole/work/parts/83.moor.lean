/-! moorings: pulls and rest -/
def ldOk (n : Nat) (W R K B : Nat → Int) (S : Nat → Nat) : Prop := n ≤ 6 ∧ ∀ i, i < n → (-300 ≤ W i ∧ W i ≤ 300) ∧ ((W i).natAbs : Int) - 40 ≤ R i ∧ R i ≤ 500 ∧ (1 ≤ K i ∧ K i ≤ 20) ∧ (0 ≤ B i ∧ B i ≤ 999) ∧ S i < 8
/-- how far a line is drawn out -/
def drF (W R : Nat → Int) (u v : Int) (i : Nat) : Int := max 0 (((W i - u).natAbs : Int) + v - R i)
def plI (W R K : Nat → Int) (u v : Int) (i : Nat) : Int := K i * drF W R u v i
def smP (f : Nat → Int) (H : Nat) : Nat → Int
  | 0 => 0
  | i + 1 => smP f H i + if H.testBit i then f i else 0
def alF (W R K : Nat → Int) (H n : Nat) (u v : Int) : Int := smP (fun i => (W i - u).sign * plI W R K u v i) H n
def puF (W R K : Nat → Int) (H n : Nat) (u v : Int) : Int := smP (plI W R K u v) H n
def gdU (u v : Int) : Prop := -20 ≤ u ∧ u ≤ 20 ∧ 0 ≤ v ∧ v ≤ 20
theorem drF_bd {n : Nat} {W R K B : Nat → Int} {S : Nat → Nat} (h : ldOk n W R K B S) {u v : Int} (hg : gdU u v) {i : Nat} (hi : i < n) : 0 ≤ drF W R u v i ∧ drF W R u v i ≤ 80 := by
  obtain ⟨h1, h2, h3, h4, h5, h6⟩ := h.2 i hi
  obtain ⟨g1, g2, g3, g4⟩ := hg
  unfold drF
  omega
theorem mul_bd {k d : Int} (h1 : 1 ≤ k) (h2 : k ≤ 20) (h3 : 0 ≤ d) (h4 : d ≤ 80) : 0 ≤ k * d ∧ k * d ≤ 1600 := by
  refine ⟨Int.mul_nonneg (by omega) h3, ?_⟩
  have := Int.mul_le_mul h2 h4 h3 (by decide : (0 : Int) ≤ 20)
  omega
theorem plI_bd {n : Nat} {W R K B : Nat → Int} {S : Nat → Nat} (h : ldOk n W R K B S) {u v : Int} (hg : gdU u v) {i : Nat} (hi : i < n) : 0 ≤ plI W R K u v i ∧ plI W R K u v i ≤ 1600 := by
  obtain ⟨d1, d2⟩ := drF_bd h hg hi
  obtain ⟨h1, h2, h3, h4, h5, h6⟩ := h.2 i hi
  exact mul_bd h4.1 h4.2 d1 d2
theorem smP_bd {f : Nat → Int} {H : Nat} {a b : Int} (ha : a ≤ 0) (hb : 0 ≤ b) : ∀ n, (∀ i, i < n → a ≤ f i ∧ f i ≤ b) → a * n ≤ smP f H n ∧ smP f H n ≤ b * n := by
  intro n
  induction n with
  | zero => intro _; exact ⟨by show a * 0 ≤ 0; omega, by show 0 ≤ b * 0; omega⟩
  | succ n ih =>
    intro h
    obtain ⟨i1, i2⟩ := ih (fun i hi => h i (by omega))
    obtain ⟨f1, f2⟩ := h n (by omega)
    have e1 : a * ((n + 1 : Nat) : Int) = a * n + a := by rw [Int.natCast_add, Int.mul_add]; omega
    have e2 : b * ((n + 1 : Nat) : Int) = b * n + b := by rw [Int.natCast_add, Int.mul_add]; omega
    rw [e1, e2]
    show _ ≤ smP f H n + (if H.testBit n then f n else 0) ∧ smP f H n + (if H.testBit n then f n else 0) ≤ _
    by_cases c : H.testBit n = true
    · rw [if_pos c]; omega
    · rw [if_neg c]; omega
theorem puF_bd {n : Nat} {W R K B : Nat → Int} {S : Nat → Nat} (h : ldOk n W R K B S) {H : Nat} {u v : Int} (hg : gdU u v) : 0 ≤ puF W R K H n u v ∧ puF W R K H n u v ≤ 9600 := by
  have hb := smP_bd (f := plI W R K u v) (H := H) (a := 0) (b := 1600) (by decide) (by decide) n (fun i hi => plI_bd h hg hi)
  have hn := h.1
  unfold puF
  omega
theorem sgn_bd {x p b : Int} (h1 : 0 ≤ p) (h2 : p ≤ b) : -b ≤ x.sign * p ∧ x.sign * p ≤ b := by
  rcases Int.lt_trichotomy x 0 with q | q | q
  · rw [Int.sign_eq_neg_one_of_neg q]; omega
  · rw [q, Int.sign_zero]; omega
  · rw [Int.sign_eq_one_of_pos q]; omega
theorem alF_bd {n : Nat} {W R K B : Nat → Int} {S : Nat → Nat} (h : ldOk n W R K B S) {H : Nat} {u v : Int} (hg : gdU u v) : -9600 ≤ alF W R K H n u v ∧ alF W R K H n u v ≤ 9600 := by
  have hb := smP_bd (f := fun i => (W i - u).sign * plI W R K u v i) (H := H) (a := -1600) (b := 1600) (by decide) (by decide) n (fun i hi => by
    obtain ⟨p1, p2⟩ := plI_bd h hg hi
    exact sgn_bd p1 p2)
  have hn := h.1
  unfold alF
  omega
/-- farther off, along shrinks by no more than the pulls grow -/
theorem grow {n : Nat} {W R K B : Nat → Int} {S : Nat → Nat} (h : ldOk n W R K B S) {H : Nat} {u v v' : Int} (hv : v ≤ v') : ∀ m, m ≤ n → smP (plI W R K u v) H m ≤ smP (plI W R K u v') H m ∧ ((smP (fun i => (W i - u).sign * plI W R K u v' i) H m - smP (fun i => (W i - u).sign * plI W R K u v i) H m).natAbs : Int) ≤ smP (plI W R K u v') H m - smP (plI W R K u v) H m := by
  intro m
  induction m with
  | zero => intro _; exact ⟨Int.le_refl _, by show ((0 - 0 : Int).natAbs : Int) ≤ 0 - 0; decide⟩
  | succ m ih =>
    intro hm
    obtain ⟨i1, i2⟩ := ih (by omega)
    obtain ⟨h1, h2, h3, h4, h5, h6⟩ := h.2 m (by omega)
    have hd : drF W R u v m ≤ drF W R u v' m := by unfold drF; omega
    have hp : plI W R K u v m ≤ plI W R K u v' m := Int.mul_le_mul_of_nonneg_left hd (by omega)
    have hs : (((W m - u).sign * plI W R K u v' m - (W m - u).sign * plI W R K u v m).natAbs : Int) ≤ plI W R K u v' m - plI W R K u v m := by
      rcases Int.lt_trichotomy (W m - u) 0 with q | q | q
      · rw [Int.sign_eq_neg_one_of_neg q]; omega
      · rw [q, Int.sign_zero]; omega
      · rw [Int.sign_eq_one_of_pos q]; omega
    show smP (plI W R K u v) H m + (if H.testBit m then plI W R K u v m else 0) ≤ smP (plI W R K u v') H m + (if H.testBit m then plI W R K u v' m else 0) ∧ (((smP (fun i => (W i - u).sign * plI W R K u v' i) H m + if H.testBit m then (W m - u).sign * plI W R K u v' m else 0) - (smP (fun i => (W i - u).sign * plI W R K u v i) H m + if H.testBit m then (W m - u).sign * plI W R K u v m else 0)).natAbs : Int) ≤ (smP (plI W R K u v') H m + (if H.testBit m then plI W R K u v' m else 0)) - (smP (plI W R K u v) H m + (if H.testBit m then plI W R K u v m else 0))
    by_cases c : H.testBit m = true
    · simp only [if_pos c]; omega
    · simp only [if_neg c]; omega
/-- what is looked at in a spot -/
def csF (W R K : Nat → Int) (H n : Nat) (wind stream u v : Int) : Int := ((stream + alF W R K H n u v).natAbs : Int) + (if v = 0 ∧ wind - puF W R K H n u v < 0 then 0 else ((wind - puF W R K H n u v).natAbs : Int))
theorem csF_bd {n : Nat} {W R K B : Nat → Int} {S : Nat → Nat} (h : ldOk n W R K B S) {H : Nat} {wind stream u v : Int} (hw : 0 ≤ wind ∧ wind ≤ 999) (hs : -99 ≤ stream ∧ stream ≤ 99) (hg : gdU u v) : 0 ≤ csF W R K H n wind stream u v ∧ csF W R K H n wind stream u v < 100000 := by
  have h1 := puF_bd h (H := H) hg
  have h2 := alF_bd h (H := H) hg
  unfold csF
  split <;> omega
theorem csF_row {n : Nat} {W R K B : Nat → Int} {S : Nat → Nat} (h : ldOk n W R K B S) {H : Nat} {wind stream u v v' : Int} (hv : 0 ≤ v) (hvv : v < v') (hl : wind - puF W R K H n u v ≤ 0) : csF W R K H n wind stream u v ≤ csF W R K H n wind stream u v' := by
  obtain ⟨g1, g2⟩ := grow h (H := H) (u := u) (show v ≤ v' by omega) n (Nat.le_refl _)
  unfold csF alF puF at *
  rw [if_neg (show ¬ (v' = 0 ∧ wind - smP (plI W R K u v') H n < 0) by omega)]
  split <;> omega
def bet (c : Int → Int → Int) (u v u' v' : Int) : Prop := c u v < c u' v' ∨ (c u v = c u' v' ∧ ((u.natAbs : Int) < u'.natAbs ∨ ((u.natAbs : Int) = u'.natAbs ∧ (u < u' ∨ (u = u' ∧ v ≤ v')))))
def isB (c : Int → Int → Int) (u v : Int) : Prop := gdU u v ∧ ∀ u' v', gdU u' v' → bet c u v u' v'
theorem isB_eq {c : Int → Int → Int} {u v u' v' : Int} (h1 : isB c u v) (h2 : isB c u' v') : u = u' ∧ v = v' := by
  have a := h1.2 u' v' h2.1
  have b := h2.2 u v h1.1
  unfold bet at a b
  omega
def uO (r : Nat) : Int := if r % 2 = 0 then (r : Int) / 2 else -(((r : Int) + 1) / 2)
theorem uO_lt {r r' : Nat} (h : r < r') : ((uO r).natAbs : Int) < (uO r').natAbs ∨ (((uO r).natAbs : Int) = (uO r').natAbs ∧ uO r < uO r') := by
  unfold uO; omega
theorem uO_gd {r : Nat} (h : r < 41) : -20 ≤ uO r ∧ uO r ≤ 20 := by unfold uO; omega
theorem uO_on {u : Int} (h : -20 ≤ u ∧ u ≤ 20) : ∃ r, r < 41 ∧ uO r = u := by
  by_cases c : 0 ≤ u
  · refine ⟨2 * u.toNat, by omega, ?_⟩
    unfold uO; omega
  · refine ⟨2 * (-u).toNat - 1, by omega, ?_⟩
    unfold uO; omega
