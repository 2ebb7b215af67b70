/-! what a text tells, without a memory -/
def lmL (k f : Nat) : Nat := (([[0, 1], [1, 1], [0, 0, 0], [0, 0, 0, 0, 0, 0], [1, 0], [0], [0, 0, 0]] : List (List Nat)).getD k []).getD f 0
def lmH (k f : Nat) : Nat := (([[199, 999], [999, 20], [200, 200, 40], [9, 9, 9, 9, 9, 9], [20, 600], [6], [99, 99, 99]] : List (List Nat)).getD k []).getD f 0
def mxT (k : Nat) : Nat := ([8, 4, 4, 1, 4, 1, 1] : List Nat).getD k 0
def mayP (k f : Nat) (v : Int) (N T : Nat → Nat) : Prop := ((lmL k f : Int) ≤ v ∧ v ≤ lmH k f) ∧ (k = 0 ∧ f = 0 → ∀ i, i < T 0 → ¬ (N (2 * i) : Int) = v) ∧ (k = 2 ∧ f = 1 → (N (24 + 3 * T 2) : Int) < v)
def mayB (k f : Nat) (v : Int) (N T : Nat → Nat) : Bool := decide (((lmL k f : Int) ≤ v ∧ v ≤ lmH k f) ∧ (k = 0 ∧ f = 0 → ∀ i, i < T 0 → ¬ (N (2 * i) : Int) = v) ∧ (k = 2 ∧ f = 1 → (N (24 + 3 * T 2) : Int) < v))
theorem mayB_iff {k f : Nat} {v : Int} {N T : Nat → Nat} : (mayB k f v N T = true) = mayP k f v N T := by
  unfold mayB mayP; rw [decide_eq_true_eq]
/-- the fields: are they told, the numbers, the place (of the fault, if not) -/
def fR (bt : Nat → Nat) (n k : Nat) (T : Nat → Nat) : Nat → Nat → (Nat → Nat) → Nat → Bool × (Nat → Nat) × Nat
  | 0, _, N, i => (true, N, i)
  | m + 1, f, N, i => if mayB k f (nuA bt n (runE isBl bt n (n - i) i)) N T = true then fR bt n k T m (f + 1) (upN N (ptA k + T k * ptN k + f) (nuA bt n (runE isBl bt n (n - i) i)).toNat) (runE isDg bt n (n - runE isBl bt n (n - i) i) (runE isBl bt n (n - i) i)) else (false, N, runE isBl bt n (n - i) i)
def splB (bt : Nat → Nat) (k i j : Nat) : Bool := decide (j - i = (stw k).length ∧ ∀ m, m < (stw k).length → nI (bt (i + m)) = (stw k).getD m 0)
theorem splB_iff {bt : Nat → Nat} {k i j : Nat} : (splB bt k i j = true) = spl bt k i j := by
  unfold splB spl; rw [decide_eq_true_eq]
def kdG (bt : Nat → Nat) (i j : Nat) : Nat → Nat
  | 0 => 7
  | s + 1 => if splB bt (1100 + s) i j = true then s else kdG bt i j s
def kdF (bt : Nat → Nat) (i j : Nat) : Nat := kdG bt i j 7
theorem kdG_eq {bt : Nat → Nat} {i j : Nat} : ∀ m, (kdG bt i j m = 7 ∧ ∀ s, s < m → ¬ spl bt (1100 + s) i j) ∨ (kdG bt i j m < m ∧ spl bt (1100 + kdG bt i j m) i j) := by
  intro m
  induction m with
  | zero => exact Or.inl ⟨rfl, fun s hs => absurd hs (Nat.not_lt_zero s)⟩
  | succ m ih =>
    by_cases c : splB bt (1100 + m) i j = true
    · rw [show kdG bt i j (m + 1) = m from if_pos c]
      exact Or.inr ⟨Nat.lt_succ_self m, by rw [← splB_iff]; exact c⟩
    · rw [show kdG bt i j (m + 1) = kdG bt i j m from if_neg c]
      rw [splB_iff] at c
      rcases ih with ⟨h1, h2⟩ | ⟨h1, h2⟩
      · refine Or.inl ⟨h1, fun s hs => ?_⟩
        rcases Nat.lt_or_eq_of_le (Nat.le_of_lt_succ hs) with z | z
        · exact h2 s z
        · subst z; exact c
      · exact Or.inr ⟨by omega, h2⟩
theorem stw_ne : ∀ s : Nat, s < 7 → ∀ t : Nat, t < 7 → (stw (1100 + s)).length = (stw (1100 + t)).length → (∀ m : Nat, m < 5 → (stw (1100 + s)).getD m 0 = (stw (1100 + t)).getD m 0) → s = t := by decide +kernel
theorem stw_le : ∀ s : Nat, s < 7 → (stw (1100 + s)).length ≤ 5 := by decide +kernel
theorem spl_un {bt : Nat → Nat} {i j s t : Nat} (hs : s < 7) (ht : t < 7) (h1 : spl bt (1100 + s) i j) (h2 : spl bt (1100 + t) i j) : s = t := by
  have el : (stw (1100 + s)).length = (stw (1100 + t)).length := h1.1.symm.trans h2.1
  refine stw_ne s hs t ht el (fun m _ => ?_)
  by_cases c : m < (stw (1100 + s)).length
  · exact (h1.2 m c).symm.trans (h2.2 m (by omega))
  · rw [List.getD_eq_getElem?_getD, List.getD_eq_getElem?_getD, List.getElem?_eq_none (by omega), List.getElem?_eq_none (by omega)]
theorem kdF_of {bt : Nat → Nat} {i j s : Nat} (hs : s < 7) (h : spl bt (1100 + s) i j) : kdF bt i j = s := by
  rcases kdG_eq (bt := bt) (i := i) (j := j) 7 with ⟨h1, h2⟩ | ⟨h1, h2⟩
  · exact absurd h (h2 s hs)
  · exact spl_un h1 hs h2 h
theorem kdF_no {bt : Nat → Nat} {i j : Nat} (h : ∀ s, s < 7 → ¬ spl bt (1100 + s) i j) : kdF bt i j = 7 := by
  rcases kdG_eq (bt := bt) (i := i) (j := j) 7 with ⟨h1, h2⟩ | ⟨h1, h2⟩
  · exact h1
  · exact absurd h2 (h _ h1)
theorem kdR_eq {bt : Nat → Nat} {i j : Nat} {r : Int32} (h : kdR bt i j r) : (kdF bt i j < 7 ∧ r = nI (kdF bt i j)) ∨ (kdF bt i j = 7 ∧ r = -1) := by
  rcases h with ⟨s, h1, h2, h3⟩ | ⟨h1, h2⟩
  · rw [kdF_of h1 h2]; exact Or.inl ⟨h1, h3⟩
  · exact Or.inr ⟨kdF_no h1, h2⟩
/-- a row's end -/
def endR (bt : Nat → Nat) (n k : Nat) (T : Nat → Nat) (r : Bool × (Nat → Nat) × Nat) : Bool × (Nat → Nat) × (Nat → Nat) × Nat :=
  if r.1 = true then (if runE isBl bt n (n - r.2.2) r.2.2 < n ∧ bt (runE isBl bt n (n - r.2.2) r.2.2) = 59 then (true, r.2.1, upN T k (T k + 1), runE isBl bt n (n - r.2.2) r.2.2 + 1) else (false, r.2.1, T, runE isBl bt n (n - r.2.2) r.2.2)) else (false, r.2.1, T, r.2.2)
def rowR (bt : Nat → Nat) (n : Nat) (N T : Nat → Nat) (i : Nat) : Bool × (Nat → Nat) × (Nat → Nat) × Nat :=
  if kdF bt i (runE isLt bt n (n - i) i) < 7 ∧ T (kdF bt i (runE isLt bt n (n - i) i)) < mxT (kdF bt i (runE isLt bt n (n - i) i)) then endR bt n (kdF bt i (runE isLt bt n (n - i) i)) T (fR bt n (kdF bt i (runE isLt bt n (n - i) i)) T (ptN (kdF bt i (runE isLt bt n (n - i) i))) 0 N (runE isLt bt n (n - i) i)) else (false, N, T, i)
/-- the whole text: the fault or -1 -/
def endA (n : Nat) (N T : Nat → Nat) : Int × (Nat → Nat) × (Nat → Nat) := (if 0 < T 0 ∧ 0 < T 1 then -1 else (n : Int), N, T)
def allR (bt : Nat → Nat) (n : Nat) : Nat → (Nat → Nat) → (Nat → Nat) → Nat → Int × (Nat → Nat) × (Nat → Nat)
  | 0, N, T, _ => endA n N T
  | m + 1, N, T, i => if i < n then (if (rowR bt n N T i).1 = true then allR bt n m (rowR bt n N T i).2.1 (rowR bt n N T i).2.2.1 (runE isBl bt n (n - (rowR bt n N T i).2.2.2) (rowR bt n N T i).2.2.2) else (((rowR bt n N T i).2.2.2 : Nat), (rowR bt n N T i).2.1, (rowR bt n N T i).2.2.1)) else endA n N T
def readA (bt : Nat → Nat) (n : Nat) : Int × (Nat → Nat) × (Nat → Nat) := allR bt n 500 (fun _ => 0) (fun _ => 0) (runE isBl bt n n 0)
/-- numbers told, so far -/
def vNT (N T : Nat → Nat) : Prop := (∀ k, k < 7 → T k ≤ mxT k) ∧ (∀ k f t, k < 7 → f < ptN k → t < T k → lmL k f ≤ N (ptA k + t * ptN k + f) ∧ N (ptA k + t * ptN k + f) ≤ lmH k f) ∧ (∀ k f, k < 7 → f < ptN k → T k = 0 → mxT k = 1 → N (ptA k + f) = 0)
theorem fR_eq {bt : Nat → Nat} {n k : Nat} {T : Nat → Nat} : ∀ m f N i, i ≤ n → (∀ j, ¬ (ptA k + T k * ptN k + f ≤ j ∧ j < ptA k + T k * ptN k + f + m) → (fR bt n k T m f N i).2.1 j = N j) ∧ (i ≤ (fR bt n k T m f N i).2.2 ∧ (fR bt n k T m f N i).2.2 ≤ n) ∧ ((fR bt n k T m f N i).1 = true → ∀ g, f ≤ g → g < f + m → lmL k g ≤ (fR bt n k T m f N i).2.1 (ptA k + T k * ptN k + g) ∧ (fR bt n k T m f N i).2.1 (ptA k + T k * ptN k + g) ≤ lmH k g) := by
  intro m
  induction m with
  | zero => intro f N i hi; exact ⟨fun j _ => rfl, ⟨Nat.le_refl i, hi⟩, fun _ g q1 q2 => by omega⟩
  | succ m ih =>
    intro f N i hi
    obtain ⟨g1, g2, -, -⟩ := runE_bd (P := isBl) (bt := bt) (n := n) (n - i) i (by omega)
    obtain ⟨g3, g4, -, -⟩ := runE_bd (P := isDg) (bt := bt) (n := n) (n - runE isBl bt n (n - i) i) (runE isBl bt n (n - i) i) (by omega)
    by_cases c : mayB k f (nuA bt n (runE isBl bt n (n - i) i)) N T = true
    · rw [show fR bt n k T (m + 1) f N i = fR bt n k T m (f + 1) (upN N (ptA k + T k * ptN k + f) (nuA bt n (runE isBl bt n (n - i) i)).toNat) (runE isDg bt n (n - runE isBl bt n (n - i) i) (runE isBl bt n (n - i) i)) from if_pos c]
      obtain ⟨h1, h2, h3⟩ := ih (f + 1) (upN N (ptA k + T k * ptN k + f) (nuA bt n (runE isBl bt n (n - i) i)).toNat) _ g4
      refine ⟨fun j hj => ?_, by omega, fun ok g q1 q2 => ?_⟩
      · rw [h1 j (by omega)]
        unfold upN; rw [if_neg (by omega)]
      · by_cases z : g = f
        · subst z
          rw [h1 _ (by omega)]
          rw [mayB_iff] at c
          have := c.1
          unfold upN; rw [if_pos rfl]
          omega
        · exact h3 ok g (by omega) (by omega)
    · rw [show fR bt n k T (m + 1) f N i = (false, N, runE isBl bt n (n - i) i) from if_neg c]
      exact ⟨fun j _ => rfl, ⟨g1, g2⟩, fun h => by cases h⟩
theorem pt_sep : ∀ k : Nat, k < 7 → ∀ l : Nat, l < 7 → k ≠ l → ptA k + mxT k * ptN k ≤ ptA l ∨ ptA l + mxT l * ptN l ≤ ptA k := by decide +kernel
theorem pt_end : ∀ k : Nat, k < 7 → ptA k + mxT k * ptN k ≤ 54 ∧ 1 ≤ ptN k ∧ 1 ≤ mxT k := by decide +kernel
theorem pt_in {k t f M : Nat} (ht : t < M) (hf : f < ptN k) : t * ptN k + f < M * ptN k := by
  have h1 : (t + 1) * ptN k ≤ M * ptN k := Nat.mul_le_mul_right _ ht
  rw [Nat.add_mul, Nat.one_mul] at h1
  omega
theorem rowR_ok {bt : Nat → Nat} {n i : Nat} {N T : Nat → Nat} (hi : i ≤ n) (hv : vNT N T) (h : (rowR bt n N T i).1 = true) : vNT (rowR bt n N T i).2.1 (rowR bt n N T i).2.2.1 ∧ i < (rowR bt n N T i).2.2.2 ∧ (rowR bt n N T i).2.2.2 ≤ n := by
  obtain ⟨g1, g2, -, -⟩ := runE_bd (P := isLt) (bt := bt) (n := n) (n - i) i (by omega)
  unfold rowR at h ⊢
  generalize runE isLt bt n (n - i) i = j at g1 g2 h ⊢
  generalize kdF bt i j = k at h ⊢
  by_cases c : k < 7 ∧ T k < mxT k
  · rw [if_pos c] at h ⊢
    obtain ⟨f1, f2, f3⟩ := fR_eq (bt := bt) (n := n) (k := k) (T := T) (ptN k) 0 N j g2
    unfold endR at h ⊢
    generalize fR bt n k T (ptN k) 0 N j = r at h f1 f2 f3 ⊢
    by_cases c1 : r.1 = true
    · rw [if_pos c1] at h ⊢
      by_cases c2 : runE isBl bt n (n - r.2.2) r.2.2 < n ∧ bt (runE isBl bt n (n - r.2.2) r.2.2) = 59
      · rw [if_pos c2] at h ⊢
        obtain ⟨g3, g4, -, -⟩ := runE_bd (P := isBl) (bt := bt) (n := n) (n - r.2.2) r.2.2 (by omega)
        obtain ⟨v1, v2, v3⟩ := hv
        have hend := pt_end k c.1
        refine ⟨⟨fun l hl => ?_, fun l f t hl hf ht => ?_, fun l f hl hf ht hm => ?_⟩, ?_, ?_⟩
        · show upN T k (T k + 1) l ≤ mxT l
          unfold upN
          by_cases z : l = k
          · rw [if_pos z]; subst z; exact c.2
          · rw [if_neg z]; exact v1 l hl
        · show lmL l f ≤ r.2.1 (ptA l + t * ptN l + f) ∧ r.2.1 (ptA l + t * ptN l + f) ≤ lmH l f
          have ht' : t < upN T k (T k + 1) l := ht
          unfold upN at ht'
          by_cases z : l = k
          · subst z
            rw [if_pos rfl] at ht'
            by_cases z2 : t = T l
            · subst z2
              exact f3 c1 f (Nat.zero_le f) (by omega)
            · have hp := pt_in (k := l) (show t < T l by omega) hf
              rw [f1 _ (by omega)]
              exact v2 l f t hl hf (by omega)
          · rw [if_neg z] at ht'
            have hp := pt_in (k := l) (M := mxT l) (show t < mxT l from Nat.lt_of_lt_of_le ht' (v1 l hl)) hf
            have hp2 := pt_in (k := k) (M := mxT k) (f := 0) c.2 hend.2.1
            have hp3 : (T k + 1) * ptN k ≤ mxT k * ptN k := Nat.mul_le_mul_right _ c.2
            rw [Nat.add_mul, Nat.one_mul] at hp3
            have sep := pt_sep l hl k c.1 z
            rw [f1 _ (by omega)]
            exact v2 l f t hl hf ht'
        · show r.2.1 (ptA l + f) = 0
          have ht' : upN T k (T k + 1) l = 0 := ht
          unfold upN at ht'
          by_cases z : l = k
          · rw [if_pos z] at ht'; omega
          · rw [if_neg z] at ht'
            have hp := pt_in (k := l) (M := mxT l) (t := 0) (f := f) (by omega) hf
            have hp3 : (T k + 1) * ptN k ≤ mxT k * ptN k := Nat.mul_le_mul_right _ c.2
            rw [Nat.add_mul, Nat.one_mul] at hp3
            have sep := pt_sep l hl k c.1 z
            rw [f1 _ (by omega)]
            exact v3 l f hl hf ht' hm
        · show i < runE isBl bt n (n - r.2.2) r.2.2 + 1
          omega
        · show runE isBl bt n (n - r.2.2) r.2.2 + 1 ≤ n
          omega
      · rw [if_neg c2] at h; cases h
    · rw [if_neg c1] at h; cases h
  · rw [if_neg c] at h; cases h
theorem rowR_le {bt : Nat → Nat} {n i : Nat} {N T : Nat → Nat} (hi : i ≤ n) : (rowR bt n N T i).2.2.2 ≤ n := by
  obtain ⟨g1, g2, -, -⟩ := runE_bd (P := isLt) (bt := bt) (n := n) (n - i) i (by omega)
  unfold rowR
  generalize runE isLt bt n (n - i) i = j at g1 g2 ⊢
  generalize kdF bt i j = k
  by_cases c : k < 7 ∧ T k < mxT k
  · rw [if_pos c]
    obtain ⟨f1, f2, f3⟩ := fR_eq (bt := bt) (n := n) (k := k) (T := T) (ptN k) 0 N j g2
    unfold endR
    generalize fR bt n k T (ptN k) 0 N j = r at f1 f2 f3 ⊢
    by_cases c1 : r.1 = true
    · rw [if_pos c1]
      obtain ⟨g3, g4, -, -⟩ := runE_bd (P := isBl) (bt := bt) (n := n) (n - r.2.2) r.2.2 (by omega)
      by_cases c2 : runE isBl bt n (n - r.2.2) r.2.2 < n ∧ bt (runE isBl bt n (n - r.2.2) r.2.2) = 59
      · rw [if_pos c2]
        show runE isBl bt n (n - r.2.2) r.2.2 + 1 ≤ n
        omega
      · rw [if_neg c2]; exact g4
    · rw [if_neg c1]; exact f2.2
  · rw [if_neg c]; exact hi
