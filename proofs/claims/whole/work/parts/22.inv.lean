/-! WHAT THE TWO SYSTEMS HAVE IN COMMON between two calls: the class's cells 0 .. 83 and the reference's, 84 .. 121. -/
def bd (x : Int32) (a b : Int) : Prop := a ≤ x.toInt ∧ x.toInt ≤ b
/-- the port: numbers N, told T; the reference's fields m and rows -/
def gPV (N T m st ro de ga ti wa : Nat → Int32) : Prop := ∃ ns nr nd ng nt : Nat, (ns ≤ 8 ∧ nr ≤ 4 ∧ nd ≤ 4 ∧ ng ≤ 4 ∧ nt ≤ 6 ∧ (ns = 0 → nr = 0 ∧ nd = 0 ∧ ng = 0 ∧ nt = 0)) ∧
  (T 0 = nI ns ∧ T 1 = nI nr ∧ T 2 = nI nd ∧ T 4 = nI ng ∧ N 50 = nI nt) ∧ (m 17 = nI ns ∧ m 19 = nI nr ∧ m 21 = nI nd ∧ m 23 = nI ng ∧ m 25 = nI nt) ∧
  (∀ i, i < ns → st (2 * i) = N (2 * i) ∧ st (2 * i + 1) = N (2 * i + 1) ∧ bd (N (2 * i)) 0 199 ∧ bd (N (2 * i + 1)) 1 999) ∧
  (∀ i, i < nr → ro (2 * i) = N (16 + 2 * i) ∧ ro (2 * i + 1) = N (16 + 2 * i + 1) ∧ bd (N (16 + 2 * i)) 1 999 ∧ bd (N (16 + 2 * i + 1)) 1 20) ∧
  (∀ i, i < nd → de (3 * i) = N (24 + 3 * i) ∧ de (3 * i + 1) = N (24 + 3 * i + 1) ∧ de (3 * i + 2) = N (24 + 3 * i + 2) ∧ bd (N (24 + 3 * i)) 0 200 ∧ bd (N (24 + 3 * i + 1)) 0 200 ∧ bd (N (24 + 3 * i + 2)) 0 40) ∧
  (∀ i, i < ng → ga (2 * i) = N (42 + 2 * i) ∧ ga (2 * i + 1) = N (42 + 2 * i + 1) ∧ bd (N (42 + 2 * i)) 1 20 ∧ bd (N (42 + 2 * i + 1)) 0 600) ∧
  (∀ i, i < 6 → ti i = N (36 + i) ∧ bd (N (36 + i)) 0 9) ∧ (∀ i, i < 3 → wa i = N (51 + i) ∧ bd (N (51 + i)) 0 99)
def gP (σ : xM) : Prop := ((σ.2.2 1 = 4 ∧ σ.2.2 2 = 7) ∨ (σ.2.2 1 = 7 ∧ σ.2.2 2 = 4)) ∧ gPV (σ.1 (σ.2.2 1 + 1)) (σ.1 (σ.2.2 1 + 2)) (σ.1 84) (σ.1 92) (σ.1 93) (σ.1 94) (σ.1 95) (σ.1 96) (σ.1 97)
/-- the text -/
def gT (σ : xM) : Prop := ∃ n : Nat, n ≤ 500 ∧ σ.1 2 1 = nI n ∧ σ.1 84 1 = nI n ∧ ∀ i, i < n → σ.1 85 i = (σ.1 3 i).toInt8.toInt32 ∧ bd (σ.1 3 i) 0 255
/-- a ship or an image: is it there, bow, deck, lines; the rows of the class; the reference's; stones and ropes of the port -/
def gLn (hr ho st ro sl ag : Int32) (r : Nat → Int32) (o : Nat) (ns nr : Int32) : Prop := r o = ho ∧ r (o + 1) = st ∧ r (o + 2) = ro ∧ r (o + 3) = sl ∧ r (o + 4) = ag ∧ r (o + 5) = hr ∧ bd ho 0 80 ∧ bd st 0 (ns.toInt - 1) ∧ bd ro 0 (nr.toInt - 1) ∧ bd sl 0 20 ∧ bd ag 0 99 ∧ bd hr 0 99
def gS (σ : xM) : Prop := ∃ n : Nat, n ≤ 6 ∧ σ.1 10 3 = nI n ∧ σ.1 84 31 = nI n ∧ (σ.1 10 0 = 0 ∨ σ.1 10 0 = 1) ∧ σ.1 84 28 = σ.1 10 0 ∧ (σ.1 10 0 = 0 → n = 0) ∧
  (σ.1 10 0 = 1 → σ.1 84 29 = σ.1 10 1 ∧ σ.1 84 30 = σ.1 10 2 ∧ bd (σ.1 10 1) 0 199 ∧ bd (σ.1 10 2) 0 30 ∧ 1 ≤ (σ.1 84 17).toInt) ∧
  ∀ l, l < n → gLn (σ.1 11 l) (σ.1 12 l) (σ.1 13 l) (σ.1 14 l) (σ.1 15 l) (σ.1 16 l) (σ.1 98) (6 * l) (σ.1 84 17) (σ.1 84 19)
/-- image k, at cell c -/
def gIk (σ : xM) (c k : Nat) : Prop := (σ.1 c 0 = 0 ∨ σ.1 c 0 = 1) ∧ σ.1 99 k = σ.1 c 0 ∧ (σ.1 c 0 = 1 → ∃ n : Nat, n ≤ 6 ∧ σ.1 c 3 = nI n ∧ σ.1 102 k = nI n ∧ σ.1 100 k = σ.1 c 1 ∧ σ.1 101 k = σ.1 c 2 ∧ bd (σ.1 c 1) 0 199 ∧ bd (σ.1 c 2) 0 30 ∧ 1 ≤ (σ.1 84 17).toInt ∧
  ∀ l, l < n → gLn (σ.1 (c + 1) l) (σ.1 (c + 2) l) (σ.1 (c + 3) l) (σ.1 (c + 4) l) (σ.1 (c + 5) l) (σ.1 (c + 6) l) (σ.1 103) (36 * k + 6 * l) (σ.1 84 17) (σ.1 84 19))
def gI (σ : xM) : Prop := gIk σ 17 0 ∧ gIk σ 24 1 ∧ gIk σ 31 2
def gC (σ : xM) : Prop := ∃ n : Nat, n ≤ 6 ∧ σ.1 51 0 = nI n ∧ σ.1 84 38 = nI n ∧ ∀ c, c < n → σ.1 104 (4 * c) = σ.1 53 c ∧ σ.1 104 (4 * c + 1) = σ.1 54 c ∧ σ.1 104 (4 * c + 2) = σ.1 55 c ∧ σ.1 104 (4 * c + 3) = σ.1 56 c ∧ bd (σ.1 53 c) 0 999 ∧ bd (σ.1 54 c) 1 20 ∧ bd (σ.1 55 c) 1 200 ∧ bd (σ.1 56 c) 0 6
def gR (σ : xM) : Prop := ∃ n : Nat, n ≤ 20 ∧ σ.1 59 0 = nI n ∧ σ.1 84 40 = nI n ∧ ∀ i, i < n → σ.1 105 i = σ.1 60 i ∧ σ.1 106 i = σ.1 61 i ∧ ∃ h g : Nat, 0 < h ∧ h < 2 ^ (σ.1 84 23).toNatClampNeg ∧ g < (σ.1 84 23).toNatClampNeg ∧ σ.1 60 i = nI h ∧ σ.1 61 i = nI g ∧ h.testBit g = true
/-- the depth at a place, by the last stretch told that has it; n of them -/
def dpt (N : Nat → Int32) (x : Int) : Nat → Int
  | 0 => 0
  | n + 1 => if (N (24 + 3 * n)).toInt ≤ x ∧ x ≤ (N (24 + 3 * n + 1)).toInt then (N (24 + 3 * n + 2)).toInt else dpt N x n
/-- the least depth from place x on over k more places -/
def ldp (N : Nat → Int32) (nd : Nat) (x : Int) : Nat → Int
  | 0 => dpt N x nd
  | k + 1 => min (ldp N nd x k) (dpt N (x + (k + 1 : Nat)) nd)
def gB (σ : xM) : Prop := ∃ n : Nat, n ≤ 5 ∧ σ.1 63 0 = nI n ∧ σ.1 84 43 = nI n ∧ ∀ v, v < n → σ.1 107 (4 * v) = σ.1 64 v ∧ σ.1 107 (4 * v + 1) = σ.1 65 v ∧ σ.1 107 (4 * v + 2) = σ.1 66 v ∧ σ.1 107 (4 * v + 3) = σ.1 67 v ∧ σ.1 109 v = σ.1 69 v ∧
  bd (σ.1 64 v) 10 150 ∧ bd (σ.1 65 v) 1 40 ∧ bd (σ.1 66 v) 0 99 ∧ bd (σ.1 67 v) 1 48 ∧ (σ.1 69 v = -1 → σ.1 68 v = -1) ∧ (σ.1 69 v ≠ -1 → σ.1 108 v = σ.1 68 v ∧ bd (σ.1 69 v) 0 199 ∧ bd (σ.1 68 v) 0 (200 - (σ.1 64 v).toInt)) ∧
  ∀ t, t < 20 → (σ.1 72 (20 * v + t)).toInt = ldp (σ.1 (σ.2.2 1 + 1)) (σ.1 84 21).toNatClampNeg (10 * t : Nat) (σ.1 64 v).toNatClampNeg
def gN (σ : xM) : Prop := ∃ n : Nat, n ≤ 6 ∧ σ.1 73 0 = nI n ∧ σ.1 84 47 = nI n ∧ ∀ i, i < n → σ.1 110 (3 * i) = σ.1 75 i ∧ σ.1 110 (3 * i + 1) = σ.1 76 i ∧ σ.1 110 (3 * i + 2) = σ.1 77 i ∧ bd (σ.1 75 i) 1 200 ∧ bd (σ.1 76 i) 0 999 ∧ bd (σ.1 77 i) 1 99
def gL (σ : xM) : Prop := ∃ n : Nat, n ≤ 12 ∧ σ.1 80 0 = nI n ∧ σ.1 84 49 = nI n ∧ ∀ i, i < n → σ.1 111 (3 * i) = σ.1 81 i ∧ σ.1 111 (3 * i + 1) = σ.1 82 i ∧ σ.1 111 (3 * i + 2) = σ.1 83 i ∧ bd (σ.1 81 i) 0 99 ∧ bd (σ.1 82 i) 0 999 ∧ bd (σ.1 83 i) (-99) 99
def gX (xs : Nat → Int32) (L : Nat) (σ : xM) : Prop := σ.1 1010 = xs ∧ σ.1 1011 0 = Int32.ofNat L
def xInv (xs : Nat → Int32) (L : Nat) (σ : xM) : Prop := gP σ ∧ gT σ ∧ gS σ ∧ gI σ ∧ gC σ ∧ gR σ ∧ gB σ ∧ gN σ ∧ gL σ ∧ gX xs L σ
/-- scratch: what no later call reads -/
def scr (k j : Nat) : Bool := match k with
  | 38 | 39 | 40 | 41 | 42 | 43 | 44 | 45 | 46 | 47 | 48 | 49 | 50 | 52 | 57 | 58 | 62 | 70 | 71 | 73 | 74 | 78 | 79 | 80 | 86 | 87 | 88 | 89 | 90 | 91 | 112 | 113 | 114 | 115 | 116 | 117 | 118 | 119 | 120 | 121 => !(k == 73 && j == 0) && !(k == 80 && j == 0)
  | 51 => j != 0
  | 59 => j != 0
  | 63 => j != 0
  | 2 => j != 1
  | 84 => j == 2 || j == 3 || j == 4 || j == 5 || j == 6 || j == 8 || j == 10 || j == 12 || j == 14 || j == 51 || j == 52 || j == 53
  | _ => false
def xSim (σ σ' : xM) : Prop := (∀ k j, scr k j = false → σ'.1 k j = σ.1 k j) ∧ σ'.2.2 = σ.2.2
theorem xSim.rf (σ : xM) : xSim σ σ := ⟨fun _ _ _ => rfl, rfl⟩
theorem xSim.tr {a b c : xM} (h1 : xSim a b) (h2 : xSim b c) : xSim a c := ⟨fun k j h => (h2.1 k j h).trans (h1.1 k j h), h2.2.trans h1.2⟩
theorem xSim.si {σ σ' : xM} {k j : Nat} {v : Int32} (h : xSim σ σ') (hs : scr k j = true) : xSim σ (xe_si σ' k j v) := by
  refine ⟨fun a b hab => ?_, h.2⟩
  rw [si_rd]
  by_cases q : a = k ∧ b = j
  · obtain ⟨rfl, rfl⟩ := q; rw [hs] at hab; cases hab
  · rw [if_neg q]; exact h.1 a b hab
theorem xSim.row {σ σ' : xM} (h : xSim σ σ') {k : Nat} (hk : ∀ j, scr k j = false) : σ'.1 k = σ.1 k := funext fun j => h.1 k j (hk j)
theorem xSim.port {σ σ' : xM} (h : xSim σ σ') (hp : (σ.2.2 1 = 4 ∧ σ.2.2 2 = 7) ∨ (σ.2.2 1 = 7 ∧ σ.2.2 2 = 4)) : σ'.1 (σ'.2.2 1 + 1) = σ.1 (σ.2.2 1 + 1) ∧ σ'.1 (σ'.2.2 1 + 2) = σ.1 (σ.2.2 1 + 2) := by
  rw [h.2]
  rcases hp with ⟨h1, -⟩ | ⟨h1, -⟩ <;> rw [h1] <;> exact ⟨h.row fun _ => rfl, h.row fun _ => rfl⟩
theorem xInv.sim {xs : Nat → Int32} {L : Nat} {σ σ' : xM} (h : xInv xs L σ) (hs : xSim σ σ') : xInv xs L σ' := by
  obtain ⟨hP, hT, hS, hI, hC, hR, hB, hN, hL, hX⟩ := h
  obtain ⟨e1, e2⟩ := hs.port hP.1
  have r92 := hs.row (k := 92) fun _ => rfl
  have r93 := hs.row (k := 93) fun _ => rfl
  have r94 := hs.row (k := 94) fun _ => rfl
  have r95 := hs.row (k := 95) fun _ => rfl
  have r96 := hs.row (k := 96) fun _ => rfl
  have r97 := hs.row (k := 97) fun _ => rfl
  have m17 := hs.1 84 17 rfl
  have m19 := hs.1 84 19 rfl
  have m21 := hs.1 84 21 rfl
  have m23 := hs.1 84 23 rfl
  have m25 := hs.1 84 25 rfl
  refine ⟨⟨by rw [hs.2]; exact hP.1, ?_⟩, ?_, ?_, ?_, ?_, ?_, ?_, ?_, ?_, ?_⟩
  · rw [e1, e2, r92, r93, r94, r95, r96, r97]
    have h := hP.2
    unfold gPV at h ⊢
    rw [m17, m19, m21, m23, m25]
    exact h
  · unfold gT at hT ⊢
    rw [hs.1 2 1 rfl, hs.1 84 1 rfl, hs.row (k := 85) fun _ => rfl, hs.row (k := 3) fun _ => rfl]
    exact hT
  · unfold gS at hS ⊢
    rw [hs.1 84 31 rfl, hs.1 84 28 rfl, hs.1 84 29 rfl, hs.1 84 30 rfl, m17, m19, hs.row (k := 10) fun _ => rfl, hs.row (k := 11) fun _ => rfl, hs.row (k := 12) fun _ => rfl, hs.row (k := 13) fun _ => rfl, hs.row (k := 14) fun _ => rfl, hs.row (k := 15) fun _ => rfl, hs.row (k := 16) fun _ => rfl, hs.row (k := 98) fun _ => rfl]
    exact hS
  · unfold gI gIk at hI ⊢
    rw [m17, m19, hs.row (k := 99) fun _ => rfl, hs.row (k := 100) fun _ => rfl, hs.row (k := 101) fun _ => rfl, hs.row (k := 102) fun _ => rfl, hs.row (k := 103) fun _ => rfl, hs.row (k := 17) fun _ => rfl, hs.row (k := 17 + 1) fun _ => rfl, hs.row (k := 17 + 2) fun _ => rfl, hs.row (k := 17 + 3) fun _ => rfl, hs.row (k := 17 + 4) fun _ => rfl, hs.row (k := 17 + 5) fun _ => rfl, hs.row (k := 17 + 6) fun _ => rfl,
      hs.row (k := 24) fun _ => rfl, hs.row (k := 24 + 1) fun _ => rfl, hs.row (k := 24 + 2) fun _ => rfl, hs.row (k := 24 + 3) fun _ => rfl, hs.row (k := 24 + 4) fun _ => rfl, hs.row (k := 24 + 5) fun _ => rfl, hs.row (k := 24 + 6) fun _ => rfl,
      hs.row (k := 31) fun _ => rfl, hs.row (k := 31 + 1) fun _ => rfl, hs.row (k := 31 + 2) fun _ => rfl, hs.row (k := 31 + 3) fun _ => rfl, hs.row (k := 31 + 4) fun _ => rfl, hs.row (k := 31 + 5) fun _ => rfl, hs.row (k := 31 + 6) fun _ => rfl]
    exact hI
  · unfold gC at hC ⊢
    rw [hs.1 51 0 rfl, hs.1 84 38 rfl, hs.row (k := 104) fun _ => rfl, hs.row (k := 53) fun _ => rfl, hs.row (k := 54) fun _ => rfl, hs.row (k := 55) fun _ => rfl, hs.row (k := 56) fun _ => rfl]
    exact hC
  · unfold gR at hR ⊢
    rw [hs.1 59 0 rfl, hs.1 84 40 rfl, m23, hs.row (k := 105) fun _ => rfl, hs.row (k := 106) fun _ => rfl, hs.row (k := 60) fun _ => rfl, hs.row (k := 61) fun _ => rfl]
    exact hR
  · unfold gB at hB ⊢
    rw [hs.1 63 0 rfl, hs.1 84 43 rfl, m21, e1, hs.row (k := 107) fun _ => rfl, hs.row (k := 108) fun _ => rfl, hs.row (k := 109) fun _ => rfl, hs.row (k := 64) fun _ => rfl, hs.row (k := 65) fun _ => rfl, hs.row (k := 66) fun _ => rfl, hs.row (k := 67) fun _ => rfl, hs.row (k := 68) fun _ => rfl, hs.row (k := 69) fun _ => rfl, hs.row (k := 72) fun _ => rfl]
    exact hB
  · unfold gN at hN ⊢
    rw [hs.1 73 0 rfl, hs.1 84 47 rfl, hs.row (k := 110) fun _ => rfl, hs.row (k := 75) fun _ => rfl, hs.row (k := 76) fun _ => rfl, hs.row (k := 77) fun _ => rfl]
    exact hN
  · unfold gL at hL ⊢
    rw [hs.1 80 0 rfl, hs.1 84 49 rfl, hs.row (k := 111) fun _ => rfl, hs.row (k := 81) fun _ => rfl, hs.row (k := 82) fun _ => rfl, hs.row (k := 83) fun _ => rfl]
    exact hL
  · unfold gX at hX ⊢
    rw [hs.1 1011 0 rfl, hs.row (k := 1010) fun _ => rfl]
    exact hX
/-- a call of both: class's method x, reference's m -/
def xOp (x m : Nat) (as : List Value) : Prop := ∀ (xs : Nat → Int32) (L : Nat) (σ : xM), xInv xs L σ → xI1 x (.ref 0 :: as) σ (fun r σ1 => xI1 m (.ref 84 :: as) σ1 (fun r2 σ2 => r = r2 ∧ xInv xs L σ2))
