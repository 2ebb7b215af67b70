/-! the reference's tugs -/
theorem Msink {v t : Nat} {Q : xM → Prop} (hv : v < 100000) (ht : t < 6) : ∀ to, to ≤ t → ∀ (τ : xM) (f : Nat → Nat), (∀ i, f i < 100000) → rowIs τ 116 6 f → (∀ τ' l3, only 116 τ τ' → rowIs τ' 116 6 (sft f v to) → xC 212 62 [some (.ref 84), some (.int (nI t)), some (.int (nI v)), l3] [] τ' (xqV Q)) → xC 212 19 [some (.ref 84), some (.int (nI t)), some (.int (nI v)), some (.int (nI to))] [] τ (xqV Q) := by
  intro to
  induction to with
  | zero =>
    intro hto τ f hf hr hQ
    have e : (nI 0 ≤ 0) = True := eq_true (by decide)
    have b0 : (0 : Nat) < 100000 := by decide
    have c0 : (0 : Nat) < 6 := by decide
    rw [s212_19]
    simp only [s212_20, s212_55, s212_56, s212_59, s212_60, s212_61, xcx_i, xcx_r, xcx_n, xcx_l, xcx_0, e, if_true, xcl_116, xln_116, b0, c0, cl_s, pos_s, true_and]
    exact hQ _ _ (only.rf _ _).si hr.si
  | succ to ih =>
    intro hto τ f hf hr hQ
    have e : (nI (to + 1) ≤ 0) = False := eq_false (fun q => by have := (nI_leI (a := to + 1) (b := 0) (by omega) (by decide)).mp q; omega)
    have b0 : to < 100000 := by omega
    have c0 : to < 6 := by omega
    have b1 : to + 1 < 100000 := by omega
    have c1 : to + 1 < 6 := by omega
    have ha : τ.1 116 to = nI (f to) := hr to (by omega)
    have hft := hf to
    have e2 : (nI (f to) ≤ nI v) = ¬ (v < f to) := by rw [nI_leL (by omega) (by omega)]; exact propext ⟨fun q => by omega, fun q => by omega⟩
    unfold sft at hQ
    rw [s212_19]
    by_cases c : v < f to
    · rw [if_pos c] at hQ
      simp only [s212_20, s212_23, s212_24, s212_27, s212_28, s212_29, s212_30, s212_31, s212_32, s212_35, s212_36, s212_39, s212_40, s212_41, s212_44, s212_45, s212_46, s212_47, s212_48, s212_49, s212_52, xcx_i, xcx_r, xcx_n, xcx_l, xcx_0, e, if_false, xcl_116, xln_116, nI_pred, b0, c0, b1, c1, cl_s, pos_s, true_and, ha, e2, c, not_true, pk_m1]
      refine ih (by omega) _ _ (fun i => ?_) hr.si (fun τ' l3 hs hr' => hQ τ' l3 ((only.rf _ _).si.tr hs) hr')
      unfold upN; split
      · exact hft
      · exact hf i
    · rw [if_neg c] at hQ
      simp only [s212_20, s212_23, s212_24, s212_27, s212_28, s212_29, s212_30, s212_31, s212_32, s212_35, s212_36, s212_39, s212_40, s212_41, s212_44, s212_45, s212_46, s212_47, s212_48, s212_49, s212_52, s212_55, s212_56, s212_59, s212_60, s212_61, xcx_i, xcx_r, xcx_n, xcx_l, xcx_0, e, if_false, xcl_116, xln_116, nI_pred, b0, c0, b1, c1, cl_s, pos_s, true_and, ha, e2, c, not_false_eq_true, if_true]
      exact hQ _ _ (only.rf _ _).si hr.si
theorem Msorts {τ : xM} {f : Nat → Nat} {nt : Nat} {Q : xM → Prop} (hf : ∀ i, f i < 100000) (hnt : nt ≤ 6) (h25 : τ.1 84 25 = nI nt) (hr : rowIs τ 116 6 f) (hQ : ∀ τ', only 116 τ τ' → rowIs τ' 116 6 (srtF f (nt - 1) 1) → Q τ') : xV 212 [.ref 84] τ Q := by
  have loop2 : ∀ m t, (t + m = nt ∨ (m = 0 ∧ nt ≤ t)) → t ≤ 6 → ∀ (τ1 : xM) (g : Nat → Nat) (l2 l3 : Option Value), only 116 τ τ1 → (∀ i, g i < 100000) → rowIs τ1 116 6 g → (∀ τ', only 116 τ τ' → rowIs τ' 116 6 (srtF g m t) → Q τ') → xC 212 2 [some (.ref 84), some (.int (nI t)), l2, l3] [] τ1 (xqV Q) := by
    intro m
    induction m with
    | zero =>
      intro t ht ht6 τ1 g l2 l3 hs hg hr1 hQ
      have e : (nI nt ≤ nI t) = True := eq_true ((nI_leI (by omega) (by omega)).mpr (by omega))
      have h : τ1.1 84 25 = nI nt := by rw [hs.1 84 (by decide)]; exact h25
      rw [s212_2]
      simp only [s212_3, s212_4, s212_7, s212_68, xcx_i, xcx_r, xcx_n, xcx_l, xcx_0, h, e, if_true]
      exact hQ τ1 hs hr1
    | succ m ih =>
      intro t ht ht6 τ1 g l2 l3 hs hg hr1 hQ
      have e : (nI nt ≤ nI t) = False := eq_false (fun q => by have := (nI_leI (a := nt) (b := t) (by omega) (by omega)).mp q; omega)
      have h : τ1.1 84 25 = nI nt := by rw [hs.1 84 (by decide)]; exact h25
      have b0 : t < 100000 := by omega
      have c0 : t < 6 := by omega
      have ha : τ1.1 116 t = nI (g t) := hr1 t (by omega)
      rw [s212_2]
      simp only [s212_3, s212_4, s212_7, s212_10, s212_11, s212_14, s212_15, s212_16, s212_17, s212_18, xcx_i, xcx_r, xcx_n, xcx_l, xcx_0, h, e, if_false, xcl_116, xln_116, b0, c0, cl_s, pos_s, true_and, ha]
      refine Msink (hg t) (by omega) t (Nat.le_refl _) τ1 g hg hr1 (fun τ' l6' hs' hr' => ?_)
      simp only [s212_62, s212_65, xcx_i, xcx_r, xcx_n, xcx_l, xcx_0, nI_1]
      refine ih (t + 1) (by omega) (by omega) τ' _ _ _ (hs.tr hs') (fun i => ?_) hr' hQ
      have := sft_bd (B := 99999) (show g t ≤ 99999 by have := hg t; omega) t g (fun i => by have := hg i; omega) i
      omega
  rw [e212]
  simp only [s212_0, s212_1, xcx_i, xcx_r, xcx_n, xcx_l, xcx_0]
  exact loop2 (nt - 1) 1 (by omega) (by omega) τ f _ _ (only.rf _ _) hf hr hQ
/-! what the calls are -/
theorem gang4 {r c : Nat} (hr : r < 2147483648) (hc : c < 16) : nI r >>> ((nI (2 * c)) &&& 31) &&& 3 = nI (r / 4 ^ c % 4) := by
  have hall : ∀ c : Nat, c < 16 → ((nI (2 * c) &&& 31).toBitVec.smod 32).toNat = 2 * c := by decide +kernel
  have h := Nat.div_le_self r (2 ^ (2 * c))
  rw [pk_shrN hr _ (2 * c) (hall c hc), pk_andN (show r / 2 ^ (2 * c) < 2 ^ 32 by omega) 2 (by decide), Nat.pow_mul]
def cDt (nc : Nat) (mi me la wn : Nat → Nat) (ng : Nat) (mn sl : Nat → Nat) (nt : Nat) : Prop := nc ≤ 6 ∧ ng ≤ 4 ∧ nt ≤ 6 ∧ (∀ c, c < nc → mi c ≤ 999 ∧ me c ≤ 20 ∧ la c ≤ 200 ∧ wn c ≤ 6) ∧ ∀ g, g < ng → mn g ≤ 20 ∧ sl g ≤ 600
def cX (σ : xM) (p nc : Nat) (mi me la wn : Nat → Nat) (ng : Nat) (mn sl : Nat → Nat) (nt : Nat) : Prop := cDt nc mi me la wn ng mn sl nt ∧ ((p = 4 ∨ p = 7) ∧ σ.2.2 1 = p ∧ xat σ (p + 2) 4 = nI ng ∧ xat σ (p + 1) 50 = nI nt ∧ ∀ g, g < ng → σ.1 (p + 1) (42 + 2 * g) = nI (mn g) ∧ σ.1 (p + 1) (42 + 2 * g + 1) = nI (sl g)) ∧ σ.1 51 0 = nI nc ∧ ∀ c, c < nc → σ.1 53 c = nI (mi c) ∧ σ.1 54 c = nI (me c) ∧ σ.1 55 c = nI (la c) ∧ σ.1 56 c = nI (wn c)
def cM (σ : xM) (nc : Nat) (mi me la wn : Nat → Nat) (ng : Nat) (mn sl : Nat → Nat) (nt : Nat) : Prop := cDt nc mi me la wn ng mn sl nt ∧ (σ.1 84 23 = nI ng ∧ σ.1 84 25 = nI nt ∧ ∀ g, g < ng → σ.1 95 (2 * g) = nI (mn g) ∧ σ.1 95 (2 * g + 1) = nI (sl g)) ∧ σ.1 84 38 = nI nc ∧ ∀ c, c < nc → σ.1 104 (4 * c) = nI (mi c) ∧ σ.1 104 (4 * c + 1) = nI (me c) ∧ σ.1 104 (4 * c + 2) = nI (la c) ∧ σ.1 104 (4 * c + 3) = nI (wn c)
theorem cX.sim {σ τ : xM} {p nc ng nt : Nat} {mi me la wn mn sl : Nat → Nat} (h : cX σ p nc mi me la wn ng mn sl nt) (hs : xSim σ τ) : cX τ p nc mi me la wn ng mn sl nt := by
  have e : τ.1 (p + 1) = σ.1 (p + 1) ∧ τ.1 (p + 2) = σ.1 (p + 2) := by
    rcases h.2.1.1 with q | q <;> rw [q]
    · exact ⟨hs.row fun _ => rfl, hs.row fun _ => rfl⟩
    · exact ⟨hs.row fun _ => rfl, hs.row fun _ => rfl⟩
  unfold cX xat
  rw [e.1, e.2, hs.2, hs.1 51 0 rfl, hs.row (k := 53) fun _ => rfl, hs.row (k := 54) fun _ => rfl, hs.row (k := 55) fun _ => rfl, hs.row (k := 56) fun _ => rfl]
  exact h
theorem cM.sim {σ τ : xM} {nc ng nt : Nat} {mi me la wn mn sl : Nat → Nat} (h : cM σ nc mi me la wn ng mn sl nt) (hs : xSim σ τ) : cM τ nc mi me la wn ng mn sl nt := by
  unfold cM
  rw [hs.1 84 23 rfl, hs.1 84 25 rfl, hs.1 84 38 rfl, hs.row (k := 95) fun _ => rfl, hs.row (k := 104) fun _ => rfl]
  exact h
theorem xInv.calls {xs : Nat → Int32} {L : Nat} {σ : xM} (hI : xInv xs L σ) : ∃ p ns nc ng nt mi me la wn mn sl, cX σ p nc mi me la wn ng mn sl nt ∧ cM σ nc mi me la wn ng mn sl nt ∧ (ns ≤ 8 ∧ xat σ (p + 2) 0 = nI ns ∧ σ.1 84 17 = nI ns ∧ (ns = 0 → ng = 0)) := by
  obtain ⟨p, ns, nr, nd, ng, nt, hp, hpe, hb, ⟨hst, hsr, hsd, hsg, hstt⟩, ⟨hm0, hm1, hmd, hmg, hmt⟩⟩ := hI.1.get
  obtain ⟨n, hn6, k1, k2, hrow⟩ := hI.2.2.2.2.1
  obtain ⟨r1, r2, r4, r5, r6⟩ := hI.1.rows hpe hm0 hm1 hmg hb.1 hb.2.1 hb.2.2.2.1
  have hdt : cDt n (cnum σ 53) (cnum σ 54) (cnum σ 55) (cnum σ 56) ng (fun g => cnum σ (p + 1) (42 + 2 * g)) (fun g => cnum σ (p + 1) (42 + 2 * g + 1)) nt := by
    refine ⟨hn6, hb.2.2.2.1, hb.2.2.2.2.1, fun c hc => ?_, fun g hg => ?_⟩
    · obtain ⟨-, -, -, -, b1, b2, b3, b4⟩ := hrow c hc
      have d1 := bdD b1 (by decide)
      have d2 := bdD b2 (by decide)
      have d3 := bdD b3 (by decide)
      have d4 := bdD b4 (by decide)
      exact ⟨by omega, by omega, by omega, by omega⟩
    · obtain ⟨-, -, b1, b2⟩ := r4 g hg
      have d1 := bdD b1 (by decide)
      have d2 := bdD b2 (by decide)
      constructor
      · show cnum σ (p + 1) (42 + 2 * g) ≤ 20; omega
      · show cnum σ (p + 1) (42 + 2 * g + 1) ≤ 600; omega
  refine ⟨p, ns, n, ng, nt, cnum σ 53, cnum σ 54, cnum σ 55, cnum σ 56, fun g => cnum σ (p + 1) (42 + 2 * g), fun g => cnum σ (p + 1) (42 + 2 * g + 1), ⟨hdt, ⟨hp, hpe, hsg, hstt, fun g hg => ?_⟩, k1, fun c hc => ?_⟩, ⟨hdt, ⟨hmg, hmt, fun g hg => ?_⟩, k2, fun c hc => ?_⟩, hb.1, hst, hm0, fun q => (hb.2.2.2.2.2 q).2.2.1⟩
  · obtain ⟨-, -, b1, b2⟩ := r4 g hg
    exact ⟨(bdD b1 (by decide)).1, (bdD b2 (by decide)).1⟩
  · obtain ⟨-, -, -, -, b1, b2, b3, b4⟩ := hrow c hc
    exact ⟨(bdD b1 (by decide)).1, (bdD b2 (by decide)).1, (bdD b3 (by decide)).1, (bdD b4 (by decide)).1⟩
  · obtain ⟨a1, a2, b1, b2⟩ := r4 g hg
    exact ⟨a1.trans (bdD b1 (by decide)).1, a2.trans (bdD b2 (by decide)).1⟩
  · obtain ⟨a1, a2, a3, a4, b1, b2, b3, b4⟩ := hrow c hc
    exact ⟨a1.trans (bdD b1 (by decide)).1, a2.trans (bdD b2 (by decide)).1, a3.trans (bdD b3 (by decide)).1, a4.trans (bdD b4 (by decide)).1⟩
/-- is the row lawful, from call c on -/
def lwF (me wn : Nat → Nat) (ng : Nat) (mn : Nat → Nat) (nt r : Nat) : Nat → Nat → Bool
  | 0, _ => true
  | m + 1, c => decide (r / 4 ^ c % 4 < ng) && decide (me c ≤ mn (r / 4 ^ c % 4)) && decide (wn c ≤ nt) && lwF me wn ng mn nt r m (c + 1)
theorem lwF_get {me wn : Nat → Nat} {ng : Nat} {mn : Nat → Nat} {nt r : Nat} : ∀ m c0, lwF me wn ng mn nt r m c0 = true → ∀ c, c0 ≤ c → c < c0 + m → r / 4 ^ c % 4 < ng ∧ wn c ≤ nt := by
  intro m
  induction m with
  | zero => intro c0 _ c h1 h2; omega
  | succ m ih =>
    intro c0 h c h1 h2
    unfold lwF at h
    simp only [Bool.and_eq_true, decide_eq_true_eq] at h
    rcases Nat.lt_or_eq_of_le h1 with q | q
    · exact ih _ h.2 c q (by omega)
    · subst q; exact ⟨h.1.1.1, h.1.2⟩
