/-! the class reads the text -/
theorem r92_1 {p : Nat} (hp : p = 4 ∨ p = 7) {l0 l1 l2 l3 : Option Value} {σ : xM} {Q : Option Value → xM → Prop} : xC 92 1 [l0, l1, l2, l3] [.ref p] σ Q = xV 64 [.ref p] σ (fun σ' => xC 92 4 [l0, l1, l2, l3] [] σ' Q) := by
  rcases hp with rfl | rfl
  · exact s92_1_4
  · exact s92_1_7
theorem drT.row0 {p : Nat} {σ : xM} {N T : Nat → Nat} (hp : p = 4 ∨ p = 7) (hd : drT σ p N T) : xat σ (p + 2) 0 = nI (T 0) ∧ xat σ (p + 2) 1 = nI (T 1) := by
  obtain ⟨t0, -⟩ := hd.2 0 (by decide)
  obtain ⟨t1, -⟩ := hd.2 1 (by decide)
  rcases hp with rfl | rfl
  · exact ⟨(xat_n (i := 0) (by rw [xln_6]; decide)).trans t0, (xat_n (i := 1) (by rw [xln_6]; decide)).trans t1⟩
  · exact ⟨(xat_n (i := 0) (by rw [xln_9]; decide)).trans t0, (xat_n (i := 1) (by rw [xln_9]; decide)).trans t1⟩
theorem XreadInto {p : Nat} {σ : xM} {n : Nat} {bt : Nat → Nat} {Q : Int32 → xM → Prop} (hp : p = 4 ∨ p = 7) (h : txt σ n bt) (hQ : ∀ τ, frH p σ τ → ((readA bt n).1 = -1 → drT τ p (readA bt n).2.1 (readA bt n).2.2) → Q (iI (readA bt n).1) τ) : xI1 92 [.ref 2, .ref p] σ Q := by
  have hn := h.1
  have fin : ∀ N T τ l2 l3, frH p σ τ → drT τ p N T → (∀ τ', frH p σ τ' → ((endA n N T).1 = -1 → drT τ' p (endA n N T).2.1 (endA n N T).2.2) → Q (iI (endA n N T).1) τ') → xC 92 56 [some (.ref 2), some (.ref p), l2, l3] [] τ (xqI Q) := by
    intro N T τ l2 l3 hr hd hQ
    have hq := hQ τ hr (fun _ => hd)
    obtain ⟨t0, t1⟩ := hd.row0 hp
    have m0 : T 0 ≤ 8 := (hd.2 0 (by decide)).2
    have m1 : T 1 ≤ 4 := (hd.2 1 (by decide)).2
    have hx := frH.txt hp h hr
    have e0 : (nI (T 0) ≤ 0) = (T 0 ≤ 0) := nI_leL (b := 0) (by omega) (by decide)
    have e1 : (nI (T 1) ≤ 0) = (T 1 ≤ 0) := nI_leL (b := 0) (by omega) (by decide)
    rw [show (endA n N T).1 = (if 0 < T 0 ∧ 0 < T 1 then -1 else (n : Int)) from rfl] at hq
    by_cases c0 : T 0 ≤ 0
    · have c0' : (T 0 ≤ 0) = True := eq_true c0
      rw [if_neg (fun z => by omega), ← nI_iI] at hq
      rcases hp with rfl | rfl
      · simp only [s92_56, s92_57, s92_58_4, s92_58_7, s92_61, s92_64, s92_65, s92_66_4, s92_66_7, s92_69, s92_72, s92_73, s92_76, s92_77, s92_80, xcx_i, xcx_r, xcx_n, xcx_l, xcx_0, toldOf_eq (Or.inl rfl), t0, t1, e0, c0', if_true, hx.2.1, true_or, or_true, true_and]
        exact hq
      · simp only [s92_56, s92_57, s92_58_4, s92_58_7, s92_61, s92_64, s92_65, s92_66_4, s92_66_7, s92_69, s92_72, s92_73, s92_76, s92_77, s92_80, xcx_i, xcx_r, xcx_n, xcx_l, xcx_0, toldOf_eq (Or.inr rfl), t0, t1, e0, c0', if_true, hx.2.1, true_or, or_true, true_and]
        exact hq
    · have c0' : (T 0 ≤ 0) = False := eq_false c0
      by_cases c1 : T 1 ≤ 0
      · have c1' : (T 1 ≤ 0) = True := eq_true c1
        rw [if_neg (fun z => by omega), ← nI_iI] at hq
        rcases hp with rfl | rfl
        · simp only [s92_56, s92_57, s92_58_4, s92_58_7, s92_61, s92_64, s92_65, s92_66_4, s92_66_7, s92_69, s92_72, s92_73, s92_76, s92_77, s92_80, xcx_i, xcx_r, xcx_n, xcx_l, xcx_0, toldOf_eq (Or.inl rfl), t0, t1, e0, e1, c0', c1', if_true, if_false, hx.2.1, true_or, or_true, true_and]
          exact hq
        · simp only [s92_56, s92_57, s92_58_4, s92_58_7, s92_61, s92_64, s92_65, s92_66_4, s92_66_7, s92_69, s92_72, s92_73, s92_76, s92_77, s92_80, xcx_i, xcx_r, xcx_n, xcx_l, xcx_0, toldOf_eq (Or.inr rfl), t0, t1, e0, e1, c0', c1', if_true, if_false, hx.2.1, true_or, or_true, true_and]
          exact hq
      · have c1' : (T 1 ≤ 0) = False := eq_false c1
        rw [if_pos (by omega), show iI (-1) = (-1 : Int32) from rfl] at hq
        rcases hp with rfl | rfl
        · simp only [s92_56, s92_57, s92_58_4, s92_58_7, s92_61, s92_64, s92_65, s92_66_4, s92_66_7, s92_69, s92_72, s92_73, s92_76, s92_77, s92_80, xcx_i, xcx_r, xcx_n, xcx_l, xcx_0, toldOf_eq (Or.inl rfl), t0, t1, e0, e1, c0', c1', if_false, hx.2.1, true_or, or_true, true_and]
          exact hq
        · simp only [s92_56, s92_57, s92_58_4, s92_58_7, s92_61, s92_64, s92_65, s92_66_4, s92_66_7, s92_69, s92_72, s92_73, s92_76, s92_77, s92_80, xcx_i, xcx_r, xcx_n, xcx_l, xcx_0, toldOf_eq (Or.inr rfl), t0, t1, e0, e1, c0', c1', if_false, hx.2.1, true_or, or_true, true_and]
          exact hq
  have loop : ∀ m t N T i, t + m = 500 → i ≤ n → ∀ τ l3, frH p σ τ → τ.1 2 2 = nI i → drT τ p N T → (∀ τ', frH p σ τ' → ((allR bt n m N T i).1 = -1 → drT τ' p (allR bt n m N T i).2.1 (allR bt n m N T i).2.2) → Q (iI (allR bt n m N T i).1) τ') → xC 92 15 [some (.ref 2), some (.ref p), some (.int (nI t)), l3] [] τ (xqI Q) := by
    intro m
    induction m with
    | zero =>
      intro t N T i ht hi τ l3 hr he hd hQ
      obtain rfl : t = 500 := by omega
      rw [s92_15]
      simp only [s92_16, s92_19, xcx_i, xcx_r, xcx_n, xcx_l, xcx_0, show ((500 : Int32) ≤ nI 500) = True from eq_true (by decide), if_true]
      exact fin N T τ _ _ hr hd hQ
    | succ m ih =>
      intro t N T i ht hi τ l3 hr he hd hQ
      have et : ((500 : Int32) ≤ nI t) = False := eq_false (fun q => by
        have q' : nI 500 ≤ nI t := q
        rw [nI_leI (by omega) (by omega)] at q'; omega)
      have hx := frH.txt hp h hr
      rw [s92_15]
      by_cases c : i < n
      · have e := lt4N (n := n) (i := i) c (by omega)
        rw [show allR bt n (m + 1) N T i = (if (rowR bt n N T i).1 = true then allR bt n m (rowR bt n N T i).2.1 (rowR bt n N T i).2.2.1 (runE isBl bt n (n - (rowR bt n N T i).2.2.2) (rowR bt n N T i).2.2.2) else (((rowR bt n N T i).2.2.2 : Nat), (rowR bt n N T i).2.1, (rowR bt n N T i).2.2.1)) from if_pos c] at hQ
        simp only [s92_16, s92_19, s92_22, s92_23, s92_26, s92_27, s92_30, s92_33, s92_34, s92_35, xcx_i, xcx_r, xcx_n, xcx_l, xcx_0, et, if_false, he, hx.2.1, e]
        refine XreadOne hp hx hi he hd (fun τ1 ok hr1 he1 hd1 => ?_) (fun τ1 ok hr1 => ?_)
        · rw [if_pos ok] at hQ
          have hi1 := rowR_le (bt := bt) (N := N) (T := T) hi
          generalize rowR bt n N T i = r at hQ ok he1 hd1 hi1
          have hx1 := frH.txt hp hx hr1
          simp only [s92_38, s92_39, s92_40, s92_41, s92_44, s92_45, s92_46, s92_47, xcx_i, xcx_r, xcx_n, xcx_l, xcx_0, if_true]
          refine XskipBlanks hx1 hi1 he1 (fun τ2 h2 => ?_)
          obtain ⟨g1, g2, -, -⟩ := runE_bd (P := isBl) (bt := bt) (n := n) (n - r.2.2.2) r.2.2.2 (by omega)
          simp only [s92_50, s92_53, xcx_i, xcx_r, xcx_n, xcx_l, xcx_0, nI_1]
          exact ih (t + 1) _ _ _ (by omega) g2 τ2 _ ((hr.tr hr1).he h2) h2.2.2 (drT.he hp hd1 h2) hQ
        · rw [if_neg ok] at hQ
          have hi1 := rowR_le (bt := bt) (N := N) (T := T) hi
          have hq := hQ τ1 (hr.tr hr1) (fun z => by
            have z' : (((rowR bt n N T i).2.2.2 : Nat) : Int) = -1 := z
            omega)
          have hq' : Q (nI (rowR bt n N T i).2.2.2) τ1 := by rw [nI_iI]; exact hq
          have e1 : (nI (rowR bt n N T i).2.2.2 = -1) = False := eq_false (fun q => by
            have : (nI (rowR bt n N T i).2.2.2).toInt = (-1 : Int32).toInt := by rw [q]
            rw [nI_iI, iI_ti (by omega) (by omega)] at this
            have e2 : (-1 : Int32).toInt = -1 := rfl
            omega)
          simp only [s92_38, s92_39, s92_40, s92_41, s92_44, s92_45, xcx_i, xcx_r, xcx_n, xcx_l, xcx_0, e1, if_false]
          exact hq'
      · have e : (nI n ≤ nI i) = True := eq_true ((nI_leI (by omega) (by omega)).mpr (by omega))
        rw [show allR bt n (m + 1) N T i = endA n N T from if_neg c] at hQ
        simp only [s92_16, s92_19, s92_22, s92_23, s92_26, s92_27, s92_30, xcx_i, xcx_r, xcx_n, xcx_l, xcx_0, et, if_false, he, hx.2.1, e, if_true]
        exact fin N T τ _ _ hr hd hQ
  rw [e92]
  simp only [s92_0, s92_1_4, s92_1_7, xcx_i, xcx_r, xcx_n, xcx_l, xcx_0, r92_1 hp]
  refine Xclear hp (fun τ1 hm z1 z2 => ?_)
  have hr1 := (frH.rf p σ).dr hm
  have hr2 : frH p σ (xe_si τ1 2 2 (nI 0)) := ⟨fun a b q1 q2 q3 => by rw [si_rd, if_neg q3]; exact hr1.1 a b q1 q2 q3, hr1.2⟩
  have hd2 : drT (xe_si τ1 2 2 (nI 0)) p (fun _ => 0) (fun _ => 0) := ⟨fun j hj => by rw [si_rd, if_neg (fun y => by omega)]; exact ⟨z1 j hj, Nat.zero_le _⟩, fun k hk => by rw [si_rd, if_neg (fun y => by omega)]; exact ⟨z2 k hk, Nat.zero_le _⟩⟩
  simp only [s92_4, s92_5, s92_6, s92_9, s92_10, xcx_i, xcx_r, xcx_n, xcx_l, xcx_0]
  refine XskipBlanks (i := 0) (frH.txt hp h hr2) (Nat.zero_le n) (by rw [show (0 : Int32) = nI 0 from rfl, si_rd, if_pos ⟨rfl, rfl⟩]) (fun τ3 h3 => ?_)
  obtain ⟨g1, g2, -, -⟩ := runE_bd (P := isBl) (bt := bt) (n := n) (n - 0) 0 (by omega)
  simp only [s92_13, s92_14, xcx_i, xcx_r, xcx_n, xcx_l, xcx_0]
  exact loop 500 0 _ _ _ (by omega) g2 τ3 none (hr2.he h3) h3.2.2 (drT.he hp hd2 h3) hQ
