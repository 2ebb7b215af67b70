/-! THE LAW FROM ITS ENTRY -/
theorem xq_22 : Cond.classLink R_law 7 RX11 ∈ xTT := xi_in 22 (by decide +kernel) rfl
theorem xq_24 : Cond.methodLink R_law 9 yX11_init ∈ xTT := xi_in 24 (by decide +kernel) rfl
theorem xq_1162 : Cond.classLink R_law 10 RX12 ∈ xTT := xi_in 1162 (by decide +kernel) rfl
theorem xq_1164 : Cond.methodLink R_law 12 yX12_init ∈ xTT := xi_in 1164 (by decide +kernel) rfl
theorem xi_fin {D : va_G} {cA : Nat → ClassId} {ad : Nat → Nat} {σ : xM} {ws : va_W} {A : Nat → Prop} {H : Heap} {pos : Nat → Nat} (hP : va_P D xCls ws H) (hD : va_D A ws) (hpos : ∀ k, k < 122 → ∃ e, ws[pos k]? = some (ad k, e) ∧ (va_at D xCls (ad k, e) H → va_at D xCls (ad k, xe_en cA ad σ k) H)) (hpi : ∀ i, i < 122 → ∀ j, j < 122 → pos i = pos j → i = j) : va_P D xCls (xws cA ad σ) H ∧ (∀ k, k < 122 → A (ad k)) ∧ (∀ i j, i < 122 → j < 122 → ad i = ad j → i = j) := by
  refine ⟨fun k q hq => ?_, fun k hk => ?_, fun i j hi hj h => ?_⟩
  · have hk : k < 122 := by
      have := (List.getElem?_eq_some_iff.mp hq).1
      rw [xws_len] at this
      exact this
    rw [xws_get hk] at hq
    cases hq
    obtain ⟨e, h1, h2⟩ := hpos k hk
    exact h2 (hP _ _ h1)
  · obtain ⟨e, h1, -⟩ := hpos k hk
    exact hD.2 _ _ h1
  · obtain ⟨e, h1, -⟩ := hpos i hi
    obtain ⟨e2, h2, -⟩ := hpos j hj
    exact hpi i hi j hj (hD.1 _ _ _ _ h1 h2 h)
theorem xi_img {D : va_G} {cT : ClassId} {a p0 p1 p2 : Nat} {H : Heap} {g : Nat → Nat} (h0 : g 0 = p0) (h1 : g 1 = p1) (h2 : g 2 = p2) (h : va_at D xCls (a, .inl (cT, 3, .inr (.inr (.inr (.inr (va_up (va_up (va_up (fun _ => none) 0 (some p0)) 1 (some p1)) 2 (some p2))))))) H) : va_at D xCls (a, .inl (cT, 3, .inr (.inr (.inr (.inr (fun j => some (g j))))))) H := by
  have e : ∀ j : Nat, j < 3 → va_up (va_up (va_up (fun _ => none) 0 (some p0)) 1 (some p1)) 2 (some p2) j = some (g j) := by
    intro j hj
    have : j = 0 ∨ j = 1 ∨ j = 2 := by omega
    rcases this with rfl | rfl | rfl
    · rw [h0]; rfl
    · rw [h1]; rfl
    · rw [h2]; rfl
  have e2 : arrV cT 3 (fun j => va_rf (va_up (va_up (va_up (fun _ => none) 0 (some p0)) 1 (some p1)) 2 (some p2) j)) = arrV cT 3 (fun j => va_rf (some (g j))) := by
    unfold arrV
    have e3 : (fun j : Fin 3 => va_rf (va_up (va_up (va_up (fun _ => none) 0 (some p0)) 1 (some p1)) 2 (some p2) j.val)) = (fun j : Fin 3 => va_rf (some (g j.val))) := funext fun j => by rw [e j.val j.isLt]
    rw [e3]
  exact Eq.trans (b := some (arrV cT 3 (fun j => va_rf (va_up (va_up (va_up (fun _ => none) 0 (some p0)) 1 (some p1)) 2 (some p2) j)))) h (congrArg some e2)
/-- the small machine's memory at the start -/
def xσ (xs : Nat → Int32) (L : Nat) : xM := (fun k j => if k = 1010 then xs j else if k = 1011 then Int32.ofNat L else 0, fun _ _ => 0, fun j => if j = 1 then 4 else if j = 2 then 7 else 0)
theorem xσ_inv (xs : Nat → Int32) (L : Nat) : xInv xs L (xσ xs L) := by
  have b0 : ∀ {a b : Int}, a ≤ 0 → 0 ≤ b → bd (0 : Int32) a b := fun h1 h2 => ⟨h1, h2⟩
  have z : ∀ {P : Nat → Prop}, ∀ i, i < 0 → P i := fun i h => absurd h (Nat.not_lt_zero i)
  have ne : ¬ (0 : Int32) = 1 := by decide
  refine ⟨⟨Or.inl ⟨rfl, rfl⟩, 0, 0, 0, 0, 0, ⟨by decide, by decide, by decide, by decide, by decide, fun _ => ⟨rfl, rfl, rfl, rfl⟩⟩, ⟨rfl, rfl, rfl, rfl, rfl⟩, ⟨rfl, rfl, rfl, rfl, rfl⟩, fun i h => absurd h (Nat.not_lt_zero i), fun i h => absurd h (Nat.not_lt_zero i), fun i h => absurd h (Nat.not_lt_zero i), fun i h => absurd h (Nat.not_lt_zero i), fun i _ => ⟨rfl, b0 (by decide) (by decide)⟩, fun i _ => ⟨rfl, b0 (by decide) (by decide)⟩⟩, ⟨0, by decide, rfl, rfl, fun i h => absurd h (Nat.not_lt_zero i)⟩, ⟨0, by decide, rfl, rfl, Or.inl rfl, rfl, fun _ => rfl, fun h => absurd h ne, fun i h => absurd h (Nat.not_lt_zero i)⟩, ⟨⟨Or.inl rfl, rfl, fun h => absurd h ne⟩, ⟨Or.inl rfl, rfl, fun h => absurd h ne⟩, ⟨Or.inl rfl, rfl, fun h => absurd h ne⟩⟩, ⟨0, by decide, rfl, rfl, fun i h => absurd h (Nat.not_lt_zero i)⟩, ⟨0, by decide, rfl, rfl, fun i h => absurd h (Nat.not_lt_zero i)⟩, ⟨0, by decide, rfl, rfl, fun i h => absurd h (Nat.not_lt_zero i)⟩, ⟨0, by decide, rfl, rfl, fun i h => absurd h (Nat.not_lt_zero i)⟩, ⟨0, by decide, rfl, rfl, fun i h => absurd h (Nat.not_lt_zero i)⟩, rfl, rfl⟩
theorem xb_245 : xm_b 245 = code := rfl
theorem xo_245 : xown (xm_o 245) = R_law := by decide +kernel
theorem xf_245 : xm_f 245 ≤ 13 ∧ xm_k 245 ≤ 518 := by decide +kernel
theorem law_all {xs : Nat → Int32} {L : Nat} (hL : L ≤ 3072) : ∃ (n : Nat) (σ' : xM), xe_run n 245 (16, [some (.ref 1010), some (.ref 0), some (.ref 84), none], [], xσ xs L) = some (some (.int 1), σ') := by
  have h : xC 245 16 [some (.ref 1010), some (.ref 0), some (.ref 84), none] [] (xσ xs L) (fun rv _ => rv = some (.int 1)) := by
    simp only [s245_16, s245_17, xcx_i, xcx_r, xcx_n, xcx_l, xcx_0]
    exact law_run hL L 0 (xσ xs L) (by omega) (by omega) (xσ_inv xs L)
  obtain ⟨n, rv, σ', h1, rfl⟩ := h
  exact ⟨n, σ', h1⟩
set_option maxHeartbeats 8000000 in
set_option maxRecDepth 100000 in
theorem whole_start {p : Program} {e : Env} {s : State} {m : MethodId} {below : List Frame} {meth : Method} {c : Code} (l : Launch) (hflags : l.flags = flags0) {b L : Nat} {xs : Nat → Int32} (hL : L ≤ 3072) (C0 : lw_At p s m meth c b L xs) : W p l e room_1 s m #[Value.ref b] below meth c s.heap [] 0 0 (lw_Z below #[Value.ref b] s) (entryFrame m ([Value.ref b] : List Value).toArray 4) := by
  obtain ⟨hx, hb, hr, hml, hown, hts0, hX, hbl, hlocks, hgv⟩ := id C0
  have hts : ∀ w ∈ xTT, w.before #[Value.ref b] s = true := fun w hw => hts0 w (List.mem_filter.mp hw).1
  have hA : ∀ q : Nat, s.heap.size ≤ q → (fun q : Nat => s.heap.size ≤ q) q := fun _ h => h
  have hao : (Cond.arrayOver (.object "QuayRopes$Ship")).before #[Value.ref b] s = true := hts0 _ (List.mem_append_right _ (List.mem_of_getElem? (i := 109) (by decide +kernel)))
  have hAO : va_AO "QuayRopes$Ship" s := va_AO.of hao
  obtain ⟨D, hKc⟩ := xi_known hts
  obtain ⟨cA, hKa⟩ := xi_arrs hts hao
  have hK : va_K D xCls (xtys cA) s := ⟨hKc, hKa⟩
  obtain ⟨ro, F, hF, hb0, hRO⟩ := xi_RO hts0 hX hbl hL hgv
  have hS : va_S (fun q : Nat => s.heap.size ≤ q) s.heap s.heap [] := va_S.rf
  have hP : va_P D xCls [] s.heap := fun k q h => by simp at h
  have hD : va_D (fun q : Nat => s.heap.size ≤ q) [] := ⟨fun i j p q h => by simp at h, fun k q h => by simp at h⟩
  have hl := lv_entry ([.ref b]) (n := 4) (Nat.le_of_ble_eq_true rfl)
  rw [lg_entry_eq]
  generalize (lg_sl ([.ref b]) ++ List.replicate (4 - (lg_sl ([.ref b])).length) Slot.unset).toArray = ls at hl ⊢
  have hl : lv_has ls 4 [(0, .ref b)] := hl
  refine xi_mk (own := R_law) (C := RX11) (T := TX11) (N := 13) (ci := 11) (nL := 4) (fs := [.null, .null, .null, .null, .null, .null, .null, .null, .null, .null, .null, .null, .null]) (rest := []) hx hb hml hown hts hK hAO hA hP hD hS (xi_u xk_w11) tyX11_ok rfl xdf_X11 (xc_X11 l D cA) xq_22 xq_23 xq_1 xq_24 xq_25 xq_26 rfl rfl (by decide +kernel) ⟨(Nat.le_of_ble_eq_true rfl), (Nat.le_of_ble_eq_true rfl)⟩ hl.1 (Nat.le_of_ble_eq_true rfl) (Nat.le_of_ble_eq_true rfl) (Nat.le_of_ble_eq_true rfl) (by decide +kernel) (by decide +kernel) (by decide +kernel) (fun q0 w1 H locs hw hP hD hS => ?_)
  refine lv_astore_n (k := 1) (lv' := [(1, .ref q0), (0, .ref b)]) hx hb (by decide +kernel) rfl hl (by decide) rfl (fun ls hl => ?_)
  refine xi_mk (own := R_law) (C := RX12) (T := TX12) (N := 64) (ci := 12) (nL := 4) (fs := [.null, .int 0, .int 0, .int 0, .int 0, .long 0, .int 0, .null, .int 0, .null, .int 0, .null, .int 0, .null, .int 0, .null, .null, .int 0, .null, .int 0, .null, .int 0, .null, .int 0, .null, .int 0, .null, .null, .int 0, .int 0, .int 0, .int 0, .null, .null, .null, .null, .null, .null, .int 0, .null, .int 0, .null, .null, .int 0, .null, .null, .null, .int 0, .null, .int 0, .null, .int 0, .int 0, .int 0, .null, .null, .null, .null, .null, .null, .null, .null, .null, .null]) (rest := []) hx hb hml hown hts hK hAO hA hP hD hS (xi_u xk_w12) tyX12_ok rfl xdf_X12 (xc_X12 l D cA) xq_1162 xq_1163 xq_13 xq_1164 xq_1165 xq_1166 rfl rfl (by decide +kernel) ⟨(Nat.le_of_ble_eq_true rfl), (Nat.le_of_ble_eq_true rfl)⟩ hl.1 (Nat.le_of_ble_eq_true rfl) (Nat.le_of_ble_eq_true rfl) (Nat.le_of_ble_eq_true rfl) (by decide +kernel) (by decide +kernel) (by decide +kernel) (fun q84 w2 H locs hw2 hP hD hS => ?_)
  refine lv_astore_n (k := 2) (lv' := [(2, .ref q84), (1, .ref q0), (0, .ref b)]) hx hb (by decide +kernel) rfl hl (by decide) rfl (fun ls hl => ?_)
  obtain ⟨q2, q3, q4, q5, q6, q7, q8, q9, q10, q11, q12, q13, q14, q15, q16, q1, q38, q39, q40, q41, q42, q43, q44, q45, q46, q47, q48, q49, q50, q51, q52, q53, q54, q55, q56, q57, q58, q59, q60, q61, q62, q63, q64, q65, q66, q67, q68, q69, q70, q71, q72, q73, q74, q75, q76, q77, q78, q79, q80, q81, q82, q83, q17, q18, q19, q20, q21, q22, q23, q24, q25, q26, q27, q28, q29, q30, q31, q32, q33, q34, q35, q36, q37, rfl⟩ := hw
  obtain ⟨q85, q86, q87, q88, q89, q90, q91, q92, q93, q94, q95, q96, q97, q98, q99, q100, q101, q102, q103, q104, q105, q106, q107, q108, q109, q110, q111, q112, q113, q114, q115, q116, q117, q118, q119, q120, q121, rfl⟩ := hw2
  obtain ⟨ad, had⟩ : ∃ ad : Nat → Nat, ad = (fun k => if k < 122 then ([q0, q1, q2, q3, q4, q5, q6, q7, q8, q9, q10, q11, q12, q13, q14, q15, q16, q17, q18, q19, q20, q21, q22, q23, q24, q25, q26, q27, q28, q29, q30, q31, q32, q33, q34, q35, q36, q37, q38, q39, q40, q41, q42, q43, q44, q45, q46, q47, q48, q49, q50, q51, q52, q53, q54, q55, q56, q57, q58, q59, q60, q61, q62, q63, q64, q65, q66, q67, q68, q69, q70, q71, q72, q73, q74, q75, q76, q77, q78, q79, q80, q81, q82, q83, q84, q85, q86, q87, q88, q89, q90, q91, q92, q93, q94, q95, q96, q97, q98, q99, q100, q101, q102, q103, q104, q105, q106, q107, q108, q109, q110, q111, q112, q113, q114, q115, q116, q117, q118, q119, q120, q121] : List Nat).getD k 0 else ro k) := ⟨_, rfl⟩
  obtain ⟨hP', hAa, hinj⟩ := xi_fin (cA := cA) (ad := ad) (σ := xσ xs L) (pos := fun k => ([0, 16, 1, 2, 3, 4, 5, 6, 7, 8, 9, 10, 11, 12, 13, 14, 15, 63, 64, 65, 66, 67, 68, 69, 70, 71, 72, 73, 74, 75, 76, 77, 78, 79, 80, 81, 82, 83, 17, 18, 19, 20, 21, 22, 23, 24, 25, 26, 27, 28, 29, 30, 31, 32, 33, 34, 35, 36, 37, 38, 39, 40, 41, 42, 43, 44, 45, 46, 47, 48, 49, 50, 51, 52, 53, 54, 55, 56, 57, 58, 59, 60, 61, 62, 84, 85, 86, 87, 88, 89, 90, 91, 92, 93, 94, 95, 96, 97, 98, 99, 100, 101, 102, 103, 104, 105, 106, 107, 108, 109, 110, 111, 112, 113, 114, 115, 116, 117, 118, 119, 120, 121] : List Nat).getD k 0) hP hD (fun k hk => by
    subst had
    match k, hk with
    | 0, _ => exact ⟨_, rfl, fun h => h⟩
    | 1, _ => exact ⟨_, rfl, fun h => xi_img rfl rfl rfl h⟩
    | 2, _ => exact ⟨_, rfl, fun h => h⟩
    | 3, _ => exact ⟨_, rfl, fun h => h⟩
    | 4, _ => exact ⟨_, rfl, fun h => h⟩
    | 5, _ => exact ⟨_, rfl, fun h => h⟩
    | 6, _ => exact ⟨_, rfl, fun h => h⟩
    | 7, _ => exact ⟨_, rfl, fun h => h⟩
    | 8, _ => exact ⟨_, rfl, fun h => h⟩
    | 9, _ => exact ⟨_, rfl, fun h => h⟩
    | 10, _ => exact ⟨_, rfl, fun h => h⟩
    | 11, _ => exact ⟨_, rfl, fun h => h⟩
    | 12, _ => exact ⟨_, rfl, fun h => h⟩
    | 13, _ => exact ⟨_, rfl, fun h => h⟩
    | 14, _ => exact ⟨_, rfl, fun h => h⟩
    | 15, _ => exact ⟨_, rfl, fun h => h⟩
    | 16, _ => exact ⟨_, rfl, fun h => h⟩
    | 17, _ => exact ⟨_, rfl, fun h => h⟩
    | 18, _ => exact ⟨_, rfl, fun h => h⟩
    | 19, _ => exact ⟨_, rfl, fun h => h⟩
    | 20, _ => exact ⟨_, rfl, fun h => h⟩
    | 21, _ => exact ⟨_, rfl, fun h => h⟩
    | 22, _ => exact ⟨_, rfl, fun h => h⟩
    | 23, _ => exact ⟨_, rfl, fun h => h⟩
    | 24, _ => exact ⟨_, rfl, fun h => h⟩
    | 25, _ => exact ⟨_, rfl, fun h => h⟩
    | 26, _ => exact ⟨_, rfl, fun h => h⟩
    | 27, _ => exact ⟨_, rfl, fun h => h⟩
    | 28, _ => exact ⟨_, rfl, fun h => h⟩
    | 29, _ => exact ⟨_, rfl, fun h => h⟩
    | 30, _ => exact ⟨_, rfl, fun h => h⟩
    | 31, _ => exact ⟨_, rfl, fun h => h⟩
    | 32, _ => exact ⟨_, rfl, fun h => h⟩
    | 33, _ => exact ⟨_, rfl, fun h => h⟩
    | 34, _ => exact ⟨_, rfl, fun h => h⟩
    | 35, _ => exact ⟨_, rfl, fun h => h⟩
    | 36, _ => exact ⟨_, rfl, fun h => h⟩
    | 37, _ => exact ⟨_, rfl, fun h => h⟩
    | 38, _ => exact ⟨_, rfl, fun h => h⟩
    | 39, _ => exact ⟨_, rfl, fun h => h⟩
    | 40, _ => exact ⟨_, rfl, fun h => h⟩
    | 41, _ => exact ⟨_, rfl, fun h => h⟩
    | 42, _ => exact ⟨_, rfl, fun h => h⟩
    | 43, _ => exact ⟨_, rfl, fun h => h⟩
    | 44, _ => exact ⟨_, rfl, fun h => h⟩
    | 45, _ => exact ⟨_, rfl, fun h => h⟩
    | 46, _ => exact ⟨_, rfl, fun h => h⟩
    | 47, _ => exact ⟨_, rfl, fun h => h⟩
    | 48, _ => exact ⟨_, rfl, fun h => h⟩
    | 49, _ => exact ⟨_, rfl, fun h => h⟩
    | 50, _ => exact ⟨_, rfl, fun h => h⟩
    | 51, _ => exact ⟨_, rfl, fun h => h⟩
    | 52, _ => exact ⟨_, rfl, fun h => h⟩
    | 53, _ => exact ⟨_, rfl, fun h => h⟩
    | 54, _ => exact ⟨_, rfl, fun h => h⟩
    | 55, _ => exact ⟨_, rfl, fun h => h⟩
    | 56, _ => exact ⟨_, rfl, fun h => h⟩
    | 57, _ => exact ⟨_, rfl, fun h => h⟩
    | 58, _ => exact ⟨_, rfl, fun h => h⟩
    | 59, _ => exact ⟨_, rfl, fun h => h⟩
    | 60, _ => exact ⟨_, rfl, fun h => h⟩
    | 61, _ => exact ⟨_, rfl, fun h => h⟩
    | 62, _ => exact ⟨_, rfl, fun h => h⟩
    | 63, _ => exact ⟨_, rfl, fun h => h⟩
    | 64, _ => exact ⟨_, rfl, fun h => h⟩
    | 65, _ => exact ⟨_, rfl, fun h => h⟩
    | 66, _ => exact ⟨_, rfl, fun h => h⟩
    | 67, _ => exact ⟨_, rfl, fun h => h⟩
    | 68, _ => exact ⟨_, rfl, fun h => h⟩
    | 69, _ => exact ⟨_, rfl, fun h => h⟩
    | 70, _ => exact ⟨_, rfl, fun h => h⟩
    | 71, _ => exact ⟨_, rfl, fun h => h⟩
    | 72, _ => exact ⟨_, rfl, fun h => h⟩
    | 73, _ => exact ⟨_, rfl, fun h => h⟩
    | 74, _ => exact ⟨_, rfl, fun h => h⟩
    | 75, _ => exact ⟨_, rfl, fun h => h⟩
    | 76, _ => exact ⟨_, rfl, fun h => h⟩
    | 77, _ => exact ⟨_, rfl, fun h => h⟩
    | 78, _ => exact ⟨_, rfl, fun h => h⟩
    | 79, _ => exact ⟨_, rfl, fun h => h⟩
    | 80, _ => exact ⟨_, rfl, fun h => h⟩
    | 81, _ => exact ⟨_, rfl, fun h => h⟩
    | 82, _ => exact ⟨_, rfl, fun h => h⟩
    | 83, _ => exact ⟨_, rfl, fun h => h⟩
    | 84, _ => exact ⟨_, rfl, fun h => h⟩
    | 85, _ => exact ⟨_, rfl, fun h => h⟩
    | 86, _ => exact ⟨_, rfl, fun h => h⟩
    | 87, _ => exact ⟨_, rfl, fun h => h⟩
    | 88, _ => exact ⟨_, rfl, fun h => h⟩
    | 89, _ => exact ⟨_, rfl, fun h => h⟩
    | 90, _ => exact ⟨_, rfl, fun h => h⟩
    | 91, _ => exact ⟨_, rfl, fun h => h⟩
    | 92, _ => exact ⟨_, rfl, fun h => h⟩
    | 93, _ => exact ⟨_, rfl, fun h => h⟩
    | 94, _ => exact ⟨_, rfl, fun h => h⟩
    | 95, _ => exact ⟨_, rfl, fun h => h⟩
    | 96, _ => exact ⟨_, rfl, fun h => h⟩
    | 97, _ => exact ⟨_, rfl, fun h => h⟩
    | 98, _ => exact ⟨_, rfl, fun h => h⟩
    | 99, _ => exact ⟨_, rfl, fun h => h⟩
    | 100, _ => exact ⟨_, rfl, fun h => h⟩
    | 101, _ => exact ⟨_, rfl, fun h => h⟩
    | 102, _ => exact ⟨_, rfl, fun h => h⟩
    | 103, _ => exact ⟨_, rfl, fun h => h⟩
    | 104, _ => exact ⟨_, rfl, fun h => h⟩
    | 105, _ => exact ⟨_, rfl, fun h => h⟩
    | 106, _ => exact ⟨_, rfl, fun h => h⟩
    | 107, _ => exact ⟨_, rfl, fun h => h⟩
    | 108, _ => exact ⟨_, rfl, fun h => h⟩
    | 109, _ => exact ⟨_, rfl, fun h => h⟩
    | 110, _ => exact ⟨_, rfl, fun h => h⟩
    | 111, _ => exact ⟨_, rfl, fun h => h⟩
    | 112, _ => exact ⟨_, rfl, fun h => h⟩
    | 113, _ => exact ⟨_, rfl, fun h => h⟩
    | 114, _ => exact ⟨_, rfl, fun h => h⟩
    | 115, _ => exact ⟨_, rfl, fun h => h⟩
    | 116, _ => exact ⟨_, rfl, fun h => h⟩
    | 117, _ => exact ⟨_, rfl, fun h => h⟩
    | 118, _ => exact ⟨_, rfl, fun h => h⟩
    | 119, _ => exact ⟨_, rfl, fun h => h⟩
    | 120, _ => exact ⟨_, rfl, fun h => h⟩
    | 121, _ => exact ⟨_, rfl, fun h => h⟩
    | k + 122, h => exact absurd h (by omega)) (by decide +kernel)
  have had2 : ∀ k, 1000 ≤ k → ad k = ro k := fun k hk => by rw [had]; exact if_neg (by omega)
  obtain ⟨n, σ', hrun⟩ := law_all (xs := xs) hL
  refine xe_sound n 245 16 _ _ _ _ _ hrun p l e room_1 s m #[Value.ref b] below meth c _ _ _ cA ad F D xs L (fun q : Nat => s.heap.size ≤ q) ⟨hx, hb, hml.trans xml_245.symm, by rw [xo_245]; exact hown, hts, hK, hRO ad had2, hF, ⟨xf_245.1, xf_245.2, (Nat.le_of_ble_eq_true rfl), (Nat.le_of_ble_eq_true rfl)⟩, hAa, hinj⟩ (fun pc' ins st' lsA H' locs' hrt hd hW => ?_) ls H locs ⟨rfl, hl.1, hl.2.1, fun i v h => ?_⟩ ⟨hP', xe_D hAa hinj, hS, rfl, rfl⟩
  · have key : ins = .ireturn ∧ st' = [.int 1] := by
      unfold xe_rt at hrt
      split at hrt
      · cases hrt
      · cases hrt
      · cases hrt
      · cases hrt
      · rename_i h2
        rw [xr_245] at h2; cases h2
      · split at hrt
        · cases hrt; exact ⟨rfl, rfl⟩
        · cases hrt
      · rename_i h2
        rw [xr_245] at h2; cases h2
      · rename_i h2
        rw [xr_245] at h2; cases h2
      · cases hrt
    obtain ⟨rfl, rfl⟩ := key
    refine va_forget (fun q hq => hW.2.2.1.2.2 q hq) ?_
    refine W.widen (k := 600000) (n := 7302250) (Nat.le_of_ble_eq_true rfl) (Nat.le_of_ble_eq_true rfl) ?_
    exact lw_ret hx hb hr hlocks hd
  · have ead : ad 1010 = b := (had2 1010 (by decide)).trans hb0
    have e0 : ad 0 = q0 := by rw [had]; rfl
    have e84 : ad 84 = q84 := by rw [had]; rfl
    match i, h with
    | 0, h =>
      cases h
      show ls[0]? = some (.val (.ref (ad 1010)))
      rw [ead]; exact lv_at hl 2 rfl
    | 1, h =>
      cases h
      show ls[1]? = some (.val (.ref (ad 0)))
      rw [e0]; exact lv_at hl 1 rfl
    | 2, h =>
      cases h
      show ls[2]? = some (.val (.ref (ad 84)))
      rw [e84]; exact lv_at hl 0 rfl
    | 3, h => cases h
    | i + 4, h => cases h
