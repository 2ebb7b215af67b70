def xf_ok (y : Nat) : Prop := plainFor (xm_y y) = true ∧ (xm_y y).cls ≠ "java/lang/invoke/MethodHandle" ∧ (xm_y y).cls ≠ "java/lang/invoke/VarHandle" ∧ (parseMethodDescriptor (xm_y y).desc).map (fun d => d.parameters.length) = some (if xm_c y = 200 then xm_a y else xm_a y - 1) ∧ (xm_c y ≠ 200 → 1 ≤ xm_a y)
theorem xf_0 : xf_ok 0 := ⟨by decide +kernel, by decide +kernel, by decide +kernel, by decide +kernel, by decide +kernel⟩
theorem xf_1 : xf_ok 1 := ⟨by decide +kernel, by decide +kernel, by decide +kernel, by decide +kernel, by decide +kernel⟩
theorem xf_2 : xf_ok 2 := ⟨by decide +kernel, by decide +kernel, by decide +kernel, by decide +kernel, by decide +kernel⟩
theorem xf_3 : xf_ok 3 := ⟨by decide +kernel, by decide +kernel, by decide +kernel, by decide +kernel, by decide +kernel⟩
theorem xf_4 : xf_ok 4 := ⟨by decide +kernel, by decide +kernel, by decide +kernel, by decide +kernel, by decide +kernel⟩
theorem xf_5 : xf_ok 5 := ⟨by decide +kernel, by decide +kernel, by decide +kernel, by decide +kernel, by decide +kernel⟩
theorem xf_6 : xf_ok 6 := ⟨by decide +kernel, by decide +kernel, by decide +kernel, by decide +kernel, by decide +kernel⟩
theorem xf_7 : xf_ok 7 := ⟨by decide +kernel, by decide +kernel, by decide +kernel, by decide +kernel, by decide +kernel⟩
theorem xf_8 : xf_ok 8 := ⟨by decide +kernel, by decide +kernel, by decide +kernel, by decide +kernel, by decide +kernel⟩
theorem xf_9 : xf_ok 9 := ⟨by decide +kernel, by decide +kernel, by decide +kernel, by decide +kernel, by decide +kernel⟩
theorem xf_10 : xf_ok 10 := ⟨by decide +kernel, by decide +kernel, by decide +kernel, by decide +kernel, by decide +kernel⟩
theorem xf_11 : xf_ok 11 := ⟨by decide +kernel, by decide +kernel, by decide +kernel, by decide +kernel, by decide +kernel⟩
theorem xf_12 : xf_ok 12 := ⟨by decide +kernel, by decide +kernel, by decide +kernel, by decide +kernel, by decide +kernel⟩
theorem xf_13 : xf_ok 13 := ⟨by decide +kernel, by decide +kernel, by decide +kernel, by decide +kernel, by decide +kernel⟩
theorem xf_14 : xf_ok 14 := ⟨by decide +kernel, by decide +kernel, by decide +kernel, by decide +kernel, by decide +kernel⟩
theorem xf_15 : xf_ok 15 := ⟨by decide +kernel, by decide +kernel, by decide +kernel, by decide +kernel, by decide +kernel⟩
theorem xf_s0 : ∀ i, i < 16 → xf_ok (16 * 0 + i) := by
  intro i hi
  match i, hi with
  | 0, _ => exact xf_0
  | 1, _ => exact xf_1
  | 2, _ => exact xf_2
  | 3, _ => exact xf_3
  | 4, _ => exact xf_4
  | 5, _ => exact xf_5
  | 6, _ => exact xf_6
  | 7, _ => exact xf_7
  | 8, _ => exact xf_8
  | 9, _ => exact xf_9
  | 10, _ => exact xf_10
  | 11, _ => exact xf_11
  | 12, _ => exact xf_12
  | 13, _ => exact xf_13
  | 14, _ => exact xf_14
  | 15, _ => exact xf_15
  | n + 16, h => exact absurd h (by omega)
theorem xn_s0 : ∀ i, i < 16 → (xm_y (16 * 0 + i)).cls = xown (xm_o (16 * 0 + i)) := by
  intro i hi
  match i, hi with
  | 0, _ => rfl
  | 1, _ => rfl
  | 2, _ => rfl
  | 3, _ => rfl
  | 4, _ => rfl
  | 5, _ => rfl
  | 6, _ => rfl
  | 7, _ => rfl
  | 8, _ => rfl
  | 9, _ => rfl
  | 10, _ => rfl
  | 11, _ => rfl
  | 12, _ => rfl
  | 13, _ => rfl
  | 14, _ => rfl
  | 15, _ => rfl
  | n + 16, h => exact absurd h (by omega)
theorem xf_16 : xf_ok 16 := ⟨by decide +kernel, by decide +kernel, by decide +kernel, by decide +kernel, by decide +kernel⟩
theorem xf_17 : xf_ok 17 := ⟨by decide +kernel, by decide +kernel, by decide +kernel, by decide +kernel, by decide +kernel⟩
theorem xf_18 : xf_ok 18 := ⟨by decide +kernel, by decide +kernel, by decide +kernel, by decide +kernel, by decide +kernel⟩
theorem xf_19 : xf_ok 19 := ⟨by decide +kernel, by decide +kernel, by decide +kernel, by decide +kernel, by decide +kernel⟩
theorem xf_20 : xf_ok 20 := ⟨by decide +kernel, by decide +kernel, by decide +kernel, by decide +kernel, by decide +kernel⟩
theorem xf_21 : xf_ok 21 := ⟨by decide +kernel, by decide +kernel, by decide +kernel, by decide +kernel, by decide +kernel⟩
theorem xf_22 : xf_ok 22 := ⟨by decide +kernel, by decide +kernel, by decide +kernel, by decide +kernel, by decide +kernel⟩
theorem xf_23 : xf_ok 23 := ⟨by decide +kernel, by decide +kernel, by decide +kernel, by decide +kernel, by decide +kernel⟩
theorem xf_24 : xf_ok 24 := ⟨by decide +kernel, by decide +kernel, by decide +kernel, by decide +kernel, by decide +kernel⟩
theorem xf_25 : xf_ok 25 := ⟨by decide +kernel, by decide +kernel, by decide +kernel, by decide +kernel, by decide +kernel⟩
theorem xf_26 : xf_ok 26 := ⟨by decide +kernel, by decide +kernel, by decide +kernel, by decide +kernel, by decide +kernel⟩
theorem xf_27 : xf_ok 27 := ⟨by decide +kernel, by decide +kernel, by decide +kernel, by decide +kernel, by decide +kernel⟩
theorem xf_28 : xf_ok 28 := ⟨by decide +kernel, by decide +kernel, by decide +kernel, by decide +kernel, by decide +kernel⟩
theorem xf_29 : xf_ok 29 := ⟨by decide +kernel, by decide +kernel, by decide +kernel, by decide +kernel, by decide +kernel⟩
theorem xf_30 : xf_ok 30 := ⟨by decide +kernel, by decide +kernel, by decide +kernel, by decide +kernel, by decide +kernel⟩
theorem xf_31 : xf_ok 31 := ⟨by decide +kernel, by decide +kernel, by decide +kernel, by decide +kernel, by decide +kernel⟩
theorem xf_s1 : ∀ i, i < 16 → xf_ok (16 * 1 + i) := by
  intro i hi
  match i, hi with
  | 0, _ => exact xf_16
  | 1, _ => exact xf_17
  | 2, _ => exact xf_18
  | 3, _ => exact xf_19
  | 4, _ => exact xf_20
  | 5, _ => exact xf_21
  | 6, _ => exact xf_22
  | 7, _ => exact xf_23
  | 8, _ => exact xf_24
  | 9, _ => exact xf_25
  | 10, _ => exact xf_26
  | 11, _ => exact xf_27
  | 12, _ => exact xf_28
  | 13, _ => exact xf_29
  | 14, _ => exact xf_30
  | 15, _ => exact xf_31
  | n + 16, h => exact absurd h (by omega)
theorem xn_s1 : ∀ i, i < 16 → (xm_y (16 * 1 + i)).cls = xown (xm_o (16 * 1 + i)) := by
  intro i hi
  match i, hi with
  | 0, _ => rfl
  | 1, _ => rfl
  | 2, _ => rfl
  | 3, _ => rfl
  | 4, _ => rfl
  | 5, _ => rfl
  | 6, _ => rfl
  | 7, _ => rfl
  | 8, _ => rfl
  | 9, _ => rfl
  | 10, _ => rfl
  | 11, _ => rfl
  | 12, _ => rfl
  | 13, _ => rfl
  | 14, _ => rfl
  | 15, _ => rfl
  | n + 16, h => exact absurd h (by omega)
theorem xf_32 : xf_ok 32 := ⟨by decide +kernel, by decide +kernel, by decide +kernel, by decide +kernel, by decide +kernel⟩
theorem xf_33 : xf_ok 33 := ⟨by decide +kernel, by decide +kernel, by decide +kernel, by decide +kernel, by decide +kernel⟩
theorem xf_34 : xf_ok 34 := ⟨by decide +kernel, by decide +kernel, by decide +kernel, by decide +kernel, by decide +kernel⟩
theorem xf_35 : xf_ok 35 := ⟨by decide +kernel, by decide +kernel, by decide +kernel, by decide +kernel, by decide +kernel⟩
theorem xf_36 : xf_ok 36 := ⟨by decide +kernel, by decide +kernel, by decide +kernel, by decide +kernel, by decide +kernel⟩
theorem xf_37 : xf_ok 37 := ⟨by decide +kernel, by decide +kernel, by decide +kernel, by decide +kernel, by decide +kernel⟩
theorem xf_38 : xf_ok 38 := ⟨by decide +kernel, by decide +kernel, by decide +kernel, by decide +kernel, by decide +kernel⟩
theorem xf_39 : xf_ok 39 := ⟨by decide +kernel, by decide +kernel, by decide +kernel, by decide +kernel, by decide +kernel⟩
theorem xf_40 : xf_ok 40 := ⟨by decide +kernel, by decide +kernel, by decide +kernel, by decide +kernel, by decide +kernel⟩
theorem xf_41 : xf_ok 41 := ⟨by decide +kernel, by decide +kernel, by decide +kernel, by decide +kernel, by decide +kernel⟩
theorem xf_42 : xf_ok 42 := ⟨by decide +kernel, by decide +kernel, by decide +kernel, by decide +kernel, by decide +kernel⟩
theorem xf_43 : xf_ok 43 := ⟨by decide +kernel, by decide +kernel, by decide +kernel, by decide +kernel, by decide +kernel⟩
theorem xf_44 : xf_ok 44 := ⟨by decide +kernel, by decide +kernel, by decide +kernel, by decide +kernel, by decide +kernel⟩
theorem xf_45 : xf_ok 45 := ⟨by decide +kernel, by decide +kernel, by decide +kernel, by decide +kernel, by decide +kernel⟩
theorem xf_46 : xf_ok 46 := ⟨by decide +kernel, by decide +kernel, by decide +kernel, by decide +kernel, by decide +kernel⟩
theorem xf_47 : xf_ok 47 := ⟨by decide +kernel, by decide +kernel, by decide +kernel, by decide +kernel, by decide +kernel⟩
theorem xf_s2 : ∀ i, i < 16 → xf_ok (16 * 2 + i) := by
  intro i hi
  match i, hi with
  | 0, _ => exact xf_32
  | 1, _ => exact xf_33
  | 2, _ => exact xf_34
  | 3, _ => exact xf_35
  | 4, _ => exact xf_36
  | 5, _ => exact xf_37
  | 6, _ => exact xf_38
  | 7, _ => exact xf_39
  | 8, _ => exact xf_40
  | 9, _ => exact xf_41
  | 10, _ => exact xf_42
  | 11, _ => exact xf_43
  | 12, _ => exact xf_44
  | 13, _ => exact xf_45
  | 14, _ => exact xf_46
  | 15, _ => exact xf_47
  | n + 16, h => exact absurd h (by omega)
theorem xn_s2 : ∀ i, i < 16 → (xm_y (16 * 2 + i)).cls = xown (xm_o (16 * 2 + i)) := by
  intro i hi
  match i, hi with
  | 0, _ => rfl
  | 1, _ => rfl
  | 2, _ => rfl
  | 3, _ => rfl
  | 4, _ => rfl
  | 5, _ => rfl
  | 6, _ => rfl
  | 7, _ => rfl
  | 8, _ => rfl
  | 9, _ => rfl
  | 10, _ => rfl
  | 11, _ => rfl
  | 12, _ => rfl
  | 13, _ => rfl
  | 14, _ => rfl
  | 15, _ => rfl
  | n + 16, h => exact absurd h (by omega)
theorem xf_48 : xf_ok 48 := ⟨by decide +kernel, by decide +kernel, by decide +kernel, by decide +kernel, by decide +kernel⟩
theorem xf_49 : xf_ok 49 := ⟨by decide +kernel, by decide +kernel, by decide +kernel, by decide +kernel, by decide +kernel⟩
theorem xf_50 : xf_ok 50 := ⟨by decide +kernel, by decide +kernel, by decide +kernel, by decide +kernel, by decide +kernel⟩
theorem xf_51 : xf_ok 51 := ⟨by decide +kernel, by decide +kernel, by decide +kernel, by decide +kernel, by decide +kernel⟩
theorem xf_52 : xf_ok 52 := ⟨by decide +kernel, by decide +kernel, by decide +kernel, by decide +kernel, by decide +kernel⟩
theorem xf_53 : xf_ok 53 := ⟨by decide +kernel, by decide +kernel, by decide +kernel, by decide +kernel, by decide +kernel⟩
theorem xf_54 : xf_ok 54 := ⟨by decide +kernel, by decide +kernel, by decide +kernel, by decide +kernel, by decide +kernel⟩
theorem xf_55 : xf_ok 55 := ⟨by decide +kernel, by decide +kernel, by decide +kernel, by decide +kernel, by decide +kernel⟩
theorem xf_56 : xf_ok 56 := ⟨by decide +kernel, by decide +kernel, by decide +kernel, by decide +kernel, by decide +kernel⟩
theorem xf_57 : xf_ok 57 := ⟨by decide +kernel, by decide +kernel, by decide +kernel, by decide +kernel, by decide +kernel⟩
theorem xf_58 : xf_ok 58 := ⟨by decide +kernel, by decide +kernel, by decide +kernel, by decide +kernel, by decide +kernel⟩
theorem xf_59 : xf_ok 59 := ⟨by decide +kernel, by decide +kernel, by decide +kernel, by decide +kernel, by decide +kernel⟩
theorem xf_60 : xf_ok 60 := ⟨by decide +kernel, by decide +kernel, by decide +kernel, by decide +kernel, by decide +kernel⟩
theorem xf_61 : xf_ok 61 := ⟨by decide +kernel, by decide +kernel, by decide +kernel, by decide +kernel, by decide +kernel⟩
theorem xf_62 : xf_ok 62 := ⟨by decide +kernel, by decide +kernel, by decide +kernel, by decide +kernel, by decide +kernel⟩
theorem xf_63 : xf_ok 63 := ⟨by decide +kernel, by decide +kernel, by decide +kernel, by decide +kernel, by decide +kernel⟩
theorem xf_s3 : ∀ i, i < 16 → xf_ok (16 * 3 + i) := by
  intro i hi
  match i, hi with
  | 0, _ => exact xf_48
  | 1, _ => exact xf_49
  | 2, _ => exact xf_50
  | 3, _ => exact xf_51
  | 4, _ => exact xf_52
  | 5, _ => exact xf_53
  | 6, _ => exact xf_54
  | 7, _ => exact xf_55
  | 8, _ => exact xf_56
  | 9, _ => exact xf_57
  | 10, _ => exact xf_58
  | 11, _ => exact xf_59
  | 12, _ => exact xf_60
  | 13, _ => exact xf_61
  | 14, _ => exact xf_62
  | 15, _ => exact xf_63
  | n + 16, h => exact absurd h (by omega)
theorem xn_s3 : ∀ i, i < 16 → (xm_y (16 * 3 + i)).cls = xown (xm_o (16 * 3 + i)) := by
  intro i hi
  match i, hi with
  | 0, _ => rfl
  | 1, _ => rfl
  | 2, _ => rfl
  | 3, _ => rfl
  | 4, _ => rfl
  | 5, _ => rfl
  | 6, _ => rfl
  | 7, _ => rfl
  | 8, _ => rfl
  | 9, _ => rfl
  | 10, _ => rfl
  | 11, _ => rfl
  | 12, _ => rfl
  | 13, _ => rfl
  | 14, _ => rfl
  | 15, _ => rfl
  | n + 16, h => exact absurd h (by omega)
theorem xf_64 : xf_ok 64 := ⟨by decide +kernel, by decide +kernel, by decide +kernel, by decide +kernel, by decide +kernel⟩
theorem xf_65 : xf_ok 65 := ⟨by decide +kernel, by decide +kernel, by decide +kernel, by decide +kernel, by decide +kernel⟩
theorem xf_66 : xf_ok 66 := ⟨by decide +kernel, by decide +kernel, by decide +kernel, by decide +kernel, by decide +kernel⟩
theorem xf_67 : xf_ok 67 := ⟨by decide +kernel, by decide +kernel, by decide +kernel, by decide +kernel, by decide +kernel⟩
theorem xf_68 : xf_ok 68 := ⟨by decide +kernel, by decide +kernel, by decide +kernel, by decide +kernel, by decide +kernel⟩
theorem xf_69 : xf_ok 69 := ⟨by decide +kernel, by decide +kernel, by decide +kernel, by decide +kernel, by decide +kernel⟩
theorem xf_70 : xf_ok 70 := ⟨by decide +kernel, by decide +kernel, by decide +kernel, by decide +kernel, by decide +kernel⟩
theorem xf_71 : xf_ok 71 := ⟨by decide +kernel, by decide +kernel, by decide +kernel, by decide +kernel, by decide +kernel⟩
theorem xf_72 : xf_ok 72 := ⟨by decide +kernel, by decide +kernel, by decide +kernel, by decide +kernel, by decide +kernel⟩
theorem xf_73 : xf_ok 73 := ⟨by decide +kernel, by decide +kernel, by decide +kernel, by decide +kernel, by decide +kernel⟩
theorem xf_74 : xf_ok 74 := ⟨by decide +kernel, by decide +kernel, by decide +kernel, by decide +kernel, by decide +kernel⟩
theorem xf_75 : xf_ok 75 := ⟨by decide +kernel, by decide +kernel, by decide +kernel, by decide +kernel, by decide +kernel⟩
theorem xf_76 : xf_ok 76 := ⟨by decide +kernel, by decide +kernel, by decide +kernel, by decide +kernel, by decide +kernel⟩
theorem xf_77 : xf_ok 77 := ⟨by decide +kernel, by decide +kernel, by decide +kernel, by decide +kernel, by decide +kernel⟩
theorem xf_78 : xf_ok 78 := ⟨by decide +kernel, by decide +kernel, by decide +kernel, by decide +kernel, by decide +kernel⟩
theorem xf_79 : xf_ok 79 := ⟨by decide +kernel, by decide +kernel, by decide +kernel, by decide +kernel, by decide +kernel⟩
theorem xf_s4 : ∀ i, i < 16 → xf_ok (16 * 4 + i) := by
  intro i hi
  match i, hi with
  | 0, _ => exact xf_64
  | 1, _ => exact xf_65
  | 2, _ => exact xf_66
  | 3, _ => exact xf_67
  | 4, _ => exact xf_68
  | 5, _ => exact xf_69
  | 6, _ => exact xf_70
  | 7, _ => exact xf_71
  | 8, _ => exact xf_72
  | 9, _ => exact xf_73
  | 10, _ => exact xf_74
  | 11, _ => exact xf_75
  | 12, _ => exact xf_76
  | 13, _ => exact xf_77
  | 14, _ => exact xf_78
  | 15, _ => exact xf_79
  | n + 16, h => exact absurd h (by omega)
theorem xn_s4 : ∀ i, i < 16 → (xm_y (16 * 4 + i)).cls = xown (xm_o (16 * 4 + i)) := by
  intro i hi
  match i, hi with
  | 0, _ => rfl
  | 1, _ => rfl
  | 2, _ => rfl
  | 3, _ => rfl
  | 4, _ => rfl
  | 5, _ => rfl
  | 6, _ => rfl
  | 7, _ => rfl
  | 8, _ => rfl
  | 9, _ => rfl
  | 10, _ => rfl
  | 11, _ => rfl
  | 12, _ => rfl
  | 13, _ => rfl
  | 14, _ => rfl
  | 15, _ => rfl
  | n + 16, h => exact absurd h (by omega)
theorem xf_80 : xf_ok 80 := ⟨by decide +kernel, by decide +kernel, by decide +kernel, by decide +kernel, by decide +kernel⟩
theorem xf_81 : xf_ok 81 := ⟨by decide +kernel, by decide +kernel, by decide +kernel, by decide +kernel, by decide +kernel⟩
theorem xf_82 : xf_ok 82 := ⟨by decide +kernel, by decide +kernel, by decide +kernel, by decide +kernel, by decide +kernel⟩
theorem xf_83 : xf_ok 83 := ⟨by decide +kernel, by decide +kernel, by decide +kernel, by decide +kernel, by decide +kernel⟩
theorem xf_84 : xf_ok 84 := ⟨by decide +kernel, by decide +kernel, by decide +kernel, by decide +kernel, by decide +kernel⟩
theorem xf_85 : xf_ok 85 := ⟨by decide +kernel, by decide +kernel, by decide +kernel, by decide +kernel, by decide +kernel⟩
theorem xf_86 : xf_ok 86 := ⟨by decide +kernel, by decide +kernel, by decide +kernel, by decide +kernel, by decide +kernel⟩
theorem xf_87 : xf_ok 87 := ⟨by decide +kernel, by decide +kernel, by decide +kernel, by decide +kernel, by decide +kernel⟩
theorem xf_88 : xf_ok 88 := ⟨by decide +kernel, by decide +kernel, by decide +kernel, by decide +kernel, by decide +kernel⟩
theorem xf_89 : xf_ok 89 := ⟨by decide +kernel, by decide +kernel, by decide +kernel, by decide +kernel, by decide +kernel⟩
theorem xf_90 : xf_ok 90 := ⟨by decide +kernel, by decide +kernel, by decide +kernel, by decide +kernel, by decide +kernel⟩
theorem xf_91 : xf_ok 91 := ⟨by decide +kernel, by decide +kernel, by decide +kernel, by decide +kernel, by decide +kernel⟩
theorem xf_92 : xf_ok 92 := ⟨by decide +kernel, by decide +kernel, by decide +kernel, by decide +kernel, by decide +kernel⟩
theorem xf_93 : xf_ok 93 := ⟨by decide +kernel, by decide +kernel, by decide +kernel, by decide +kernel, by decide +kernel⟩
theorem xf_94 : xf_ok 94 := ⟨by decide +kernel, by decide +kernel, by decide +kernel, by decide +kernel, by decide +kernel⟩
theorem xf_95 : xf_ok 95 := ⟨by decide +kernel, by decide +kernel, by decide +kernel, by decide +kernel, by decide +kernel⟩
theorem xf_s5 : ∀ i, i < 16 → xf_ok (16 * 5 + i) := by
  intro i hi
  match i, hi with
  | 0, _ => exact xf_80
  | 1, _ => exact xf_81
  | 2, _ => exact xf_82
  | 3, _ => exact xf_83
  | 4, _ => exact xf_84
  | 5, _ => exact xf_85
  | 6, _ => exact xf_86
  | 7, _ => exact xf_87
  | 8, _ => exact xf_88
  | 9, _ => exact xf_89
  | 10, _ => exact xf_90
  | 11, _ => exact xf_91
  | 12, _ => exact xf_92
  | 13, _ => exact xf_93
  | 14, _ => exact xf_94
  | 15, _ => exact xf_95
  | n + 16, h => exact absurd h (by omega)
theorem xn_s5 : ∀ i, i < 16 → (xm_y (16 * 5 + i)).cls = xown (xm_o (16 * 5 + i)) := by
  intro i hi
  match i, hi with
  | 0, _ => rfl
  | 1, _ => rfl
  | 2, _ => rfl
  | 3, _ => rfl
  | 4, _ => rfl
  | 5, _ => rfl
  | 6, _ => rfl
  | 7, _ => rfl
  | 8, _ => rfl
  | 9, _ => rfl
  | 10, _ => rfl
  | 11, _ => rfl
  | 12, _ => rfl
  | 13, _ => rfl
  | 14, _ => rfl
  | 15, _ => rfl
  | n + 16, h => exact absurd h (by omega)
theorem xf_96 : xf_ok 96 := ⟨by decide +kernel, by decide +kernel, by decide +kernel, by decide +kernel, by decide +kernel⟩
theorem xf_97 : xf_ok 97 := ⟨by decide +kernel, by decide +kernel, by decide +kernel, by decide +kernel, by decide +kernel⟩
theorem xf_98 : xf_ok 98 := ⟨by decide +kernel, by decide +kernel, by decide +kernel, by decide +kernel, by decide +kernel⟩
theorem xf_99 : xf_ok 99 := ⟨by decide +kernel, by decide +kernel, by decide +kernel, by decide +kernel, by decide +kernel⟩
theorem xf_100 : xf_ok 100 := ⟨by decide +kernel, by decide +kernel, by decide +kernel, by decide +kernel, by decide +kernel⟩
theorem xf_101 : xf_ok 101 := ⟨by decide +kernel, by decide +kernel, by decide +kernel, by decide +kernel, by decide +kernel⟩
theorem xf_102 : xf_ok 102 := ⟨by decide +kernel, by decide +kernel, by decide +kernel, by decide +kernel, by decide +kernel⟩
theorem xf_103 : xf_ok 103 := ⟨by decide +kernel, by decide +kernel, by decide +kernel, by decide +kernel, by decide +kernel⟩
theorem xf_104 : xf_ok 104 := ⟨by decide +kernel, by decide +kernel, by decide +kernel, by decide +kernel, by decide +kernel⟩
theorem xf_105 : xf_ok 105 := ⟨by decide +kernel, by decide +kernel, by decide +kernel, by decide +kernel, by decide +kernel⟩
theorem xf_106 : xf_ok 106 := ⟨by decide +kernel, by decide +kernel, by decide +kernel, by decide +kernel, by decide +kernel⟩
theorem xf_107 : xf_ok 107 := ⟨by decide +kernel, by decide +kernel, by decide +kernel, by decide +kernel, by decide +kernel⟩
theorem xf_108 : xf_ok 108 := ⟨by decide +kernel, by decide +kernel, by decide +kernel, by decide +kernel, by decide +kernel⟩
theorem xf_109 : xf_ok 109 := ⟨by decide +kernel, by decide +kernel, by decide +kernel, by decide +kernel, by decide +kernel⟩
theorem xf_110 : xf_ok 110 := ⟨by decide +kernel, by decide +kernel, by decide +kernel, by decide +kernel, by decide +kernel⟩
theorem xf_111 : xf_ok 111 := ⟨by decide +kernel, by decide +kernel, by decide +kernel, by decide +kernel, by decide +kernel⟩
theorem xf_s6 : ∀ i, i < 16 → xf_ok (16 * 6 + i) := by
  intro i hi
  match i, hi with
  | 0, _ => exact xf_96
  | 1, _ => exact xf_97
  | 2, _ => exact xf_98
  | 3, _ => exact xf_99
  | 4, _ => exact xf_100
  | 5, _ => exact xf_101
  | 6, _ => exact xf_102
  | 7, _ => exact xf_103
  | 8, _ => exact xf_104
  | 9, _ => exact xf_105
  | 10, _ => exact xf_106
  | 11, _ => exact xf_107
  | 12, _ => exact xf_108
  | 13, _ => exact xf_109
  | 14, _ => exact xf_110
  | 15, _ => exact xf_111
  | n + 16, h => exact absurd h (by omega)
theorem xn_s6 : ∀ i, i < 16 → (xm_y (16 * 6 + i)).cls = xown (xm_o (16 * 6 + i)) := by
  intro i hi
  match i, hi with
  | 0, _ => rfl
  | 1, _ => rfl
  | 2, _ => rfl
  | 3, _ => rfl
  | 4, _ => rfl
  | 5, _ => rfl
  | 6, _ => rfl
  | 7, _ => rfl
  | 8, _ => rfl
  | 9, _ => rfl
  | 10, _ => rfl
  | 11, _ => rfl
  | 12, _ => rfl
  | 13, _ => rfl
  | 14, _ => rfl
  | 15, _ => rfl
  | n + 16, h => exact absurd h (by omega)
theorem xf_112 : xf_ok 112 := ⟨by decide +kernel, by decide +kernel, by decide +kernel, by decide +kernel, by decide +kernel⟩
theorem xf_113 : xf_ok 113 := ⟨by decide +kernel, by decide +kernel, by decide +kernel, by decide +kernel, by decide +kernel⟩
theorem xf_114 : xf_ok 114 := ⟨by decide +kernel, by decide +kernel, by decide +kernel, by decide +kernel, by decide +kernel⟩
theorem xf_115 : xf_ok 115 := ⟨by decide +kernel, by decide +kernel, by decide +kernel, by decide +kernel, by decide +kernel⟩
theorem xf_116 : xf_ok 116 := ⟨by decide +kernel, by decide +kernel, by decide +kernel, by decide +kernel, by decide +kernel⟩
theorem xf_117 : xf_ok 117 := ⟨by decide +kernel, by decide +kernel, by decide +kernel, by decide +kernel, by decide +kernel⟩
theorem xf_118 : xf_ok 118 := ⟨by decide +kernel, by decide +kernel, by decide +kernel, by decide +kernel, by decide +kernel⟩
theorem xf_119 : xf_ok 119 := ⟨by decide +kernel, by decide +kernel, by decide +kernel, by decide +kernel, by decide +kernel⟩
theorem xf_120 : xf_ok 120 := ⟨by decide +kernel, by decide +kernel, by decide +kernel, by decide +kernel, by decide +kernel⟩
theorem xf_121 : xf_ok 121 := ⟨by decide +kernel, by decide +kernel, by decide +kernel, by decide +kernel, by decide +kernel⟩
theorem xf_122 : xf_ok 122 := ⟨by decide +kernel, by decide +kernel, by decide +kernel, by decide +kernel, by decide +kernel⟩
theorem xf_123 : xf_ok 123 := ⟨by decide +kernel, by decide +kernel, by decide +kernel, by decide +kernel, by decide +kernel⟩
theorem xf_124 : xf_ok 124 := ⟨by decide +kernel, by decide +kernel, by decide +kernel, by decide +kernel, by decide +kernel⟩
theorem xf_125 : xf_ok 125 := ⟨by decide +kernel, by decide +kernel, by decide +kernel, by decide +kernel, by decide +kernel⟩
theorem xf_126 : xf_ok 126 := ⟨by decide +kernel, by decide +kernel, by decide +kernel, by decide +kernel, by decide +kernel⟩
theorem xf_127 : xf_ok 127 := ⟨by decide +kernel, by decide +kernel, by decide +kernel, by decide +kernel, by decide +kernel⟩
theorem xf_s7 : ∀ i, i < 16 → xf_ok (16 * 7 + i) := by
  intro i hi
  match i, hi with
  | 0, _ => exact xf_112
  | 1, _ => exact xf_113
  | 2, _ => exact xf_114
  | 3, _ => exact xf_115
  | 4, _ => exact xf_116
  | 5, _ => exact xf_117
  | 6, _ => exact xf_118
  | 7, _ => exact xf_119
  | 8, _ => exact xf_120
  | 9, _ => exact xf_121
  | 10, _ => exact xf_122
  | 11, _ => exact xf_123
  | 12, _ => exact xf_124
  | 13, _ => exact xf_125
  | 14, _ => exact xf_126
  | 15, _ => exact xf_127
  | n + 16, h => exact absurd h (by omega)
theorem xn_s7 : ∀ i, i < 16 → (xm_y (16 * 7 + i)).cls = xown (xm_o (16 * 7 + i)) := by
  intro i hi
  match i, hi with
  | 0, _ => rfl
  | 1, _ => rfl
  | 2, _ => rfl
  | 3, _ => rfl
  | 4, _ => rfl
  | 5, _ => rfl
  | 6, _ => rfl
  | 7, _ => rfl
  | 8, _ => rfl
  | 9, _ => rfl
  | 10, _ => rfl
  | 11, _ => rfl
  | 12, _ => rfl
  | 13, _ => rfl
  | 14, _ => rfl
  | 15, _ => rfl
  | n + 16, h => exact absurd h (by omega)
theorem xf_128 : xf_ok 128 := ⟨by decide +kernel, by decide +kernel, by decide +kernel, by decide +kernel, by decide +kernel⟩
theorem xf_129 : xf_ok 129 := ⟨by decide +kernel, by decide +kernel, by decide +kernel, by decide +kernel, by decide +kernel⟩
theorem xf_130 : xf_ok 130 := ⟨by decide +kernel, by decide +kernel, by decide +kernel, by decide +kernel, by decide +kernel⟩
theorem xf_131 : xf_ok 131 := ⟨by decide +kernel, by decide +kernel, by decide +kernel, by decide +kernel, by decide +kernel⟩
theorem xf_132 : xf_ok 132 := ⟨by decide +kernel, by decide +kernel, by decide +kernel, by decide +kernel, by decide +kernel⟩
theorem xf_133 : xf_ok 133 := ⟨by decide +kernel, by decide +kernel, by decide +kernel, by decide +kernel, by decide +kernel⟩
theorem xf_134 : xf_ok 134 := ⟨by decide +kernel, by decide +kernel, by decide +kernel, by decide +kernel, by decide +kernel⟩
theorem xf_135 : xf_ok 135 := ⟨by decide +kernel, by decide +kernel, by decide +kernel, by decide +kernel, by decide +kernel⟩
theorem xf_136 : xf_ok 136 := ⟨by decide +kernel, by decide +kernel, by decide +kernel, by decide +kernel, by decide +kernel⟩
theorem xf_137 : xf_ok 137 := ⟨by decide +kernel, by decide +kernel, by decide +kernel, by decide +kernel, by decide +kernel⟩
theorem xf_138 : xf_ok 138 := ⟨by decide +kernel, by decide +kernel, by decide +kernel, by decide +kernel, by decide +kernel⟩
theorem xf_139 : xf_ok 139 := ⟨by decide +kernel, by decide +kernel, by decide +kernel, by decide +kernel, by decide +kernel⟩
theorem xf_140 : xf_ok 140 := ⟨by decide +kernel, by decide +kernel, by decide +kernel, by decide +kernel, by decide +kernel⟩
theorem xf_141 : xf_ok 141 := ⟨by decide +kernel, by decide +kernel, by decide +kernel, by decide +kernel, by decide +kernel⟩
theorem xf_142 : xf_ok 142 := ⟨by decide +kernel, by decide +kernel, by decide +kernel, by decide +kernel, by decide +kernel⟩
theorem xf_143 : xf_ok 143 := ⟨by decide +kernel, by decide +kernel, by decide +kernel, by decide +kernel, by decide +kernel⟩
theorem xf_s8 : ∀ i, i < 16 → xf_ok (16 * 8 + i) := by
  intro i hi
  match i, hi with
  | 0, _ => exact xf_128
  | 1, _ => exact xf_129
  | 2, _ => exact xf_130
  | 3, _ => exact xf_131
  | 4, _ => exact xf_132
  | 5, _ => exact xf_133
  | 6, _ => exact xf_134
  | 7, _ => exact xf_135
  | 8, _ => exact xf_136
  | 9, _ => exact xf_137
  | 10, _ => exact xf_138
  | 11, _ => exact xf_139
  | 12, _ => exact xf_140
  | 13, _ => exact xf_141
  | 14, _ => exact xf_142
  | 15, _ => exact xf_143
  | n + 16, h => exact absurd h (by omega)
theorem xn_s8 : ∀ i, i < 16 → (xm_y (16 * 8 + i)).cls = xown (xm_o (16 * 8 + i)) := by
  intro i hi
  match i, hi with
  | 0, _ => rfl
  | 1, _ => rfl
  | 2, _ => rfl
  | 3, _ => rfl
  | 4, _ => rfl
  | 5, _ => rfl
  | 6, _ => rfl
  | 7, _ => rfl
  | 8, _ => rfl
  | 9, _ => rfl
  | 10, _ => rfl
  | 11, _ => rfl
  | 12, _ => rfl
  | 13, _ => rfl
  | 14, _ => rfl
  | 15, _ => rfl
  | n + 16, h => exact absurd h (by omega)
theorem xf_144 : xf_ok 144 := ⟨by decide +kernel, by decide +kernel, by decide +kernel, by decide +kernel, by decide +kernel⟩
theorem xf_145 : xf_ok 145 := ⟨by decide +kernel, by decide +kernel, by decide +kernel, by decide +kernel, by decide +kernel⟩
theorem xf_146 : xf_ok 146 := ⟨by decide +kernel, by decide +kernel, by decide +kernel, by decide +kernel, by decide +kernel⟩
theorem xf_147 : xf_ok 147 := ⟨by decide +kernel, by decide +kernel, by decide +kernel, by decide +kernel, by decide +kernel⟩
theorem xf_148 : xf_ok 148 := ⟨by decide +kernel, by decide +kernel, by decide +kernel, by decide +kernel, by decide +kernel⟩
theorem xf_149 : xf_ok 149 := ⟨by decide +kernel, by decide +kernel, by decide +kernel, by decide +kernel, by decide +kernel⟩
theorem xf_150 : xf_ok 150 := ⟨by decide +kernel, by decide +kernel, by decide +kernel, by decide +kernel, by decide +kernel⟩
theorem xf_151 : xf_ok 151 := ⟨by decide +kernel, by decide +kernel, by decide +kernel, by decide +kernel, by decide +kernel⟩
theorem xf_152 : xf_ok 152 := ⟨by decide +kernel, by decide +kernel, by decide +kernel, by decide +kernel, by decide +kernel⟩
theorem xf_153 : xf_ok 153 := ⟨by decide +kernel, by decide +kernel, by decide +kernel, by decide +kernel, by decide +kernel⟩
theorem xf_154 : xf_ok 154 := ⟨by decide +kernel, by decide +kernel, by decide +kernel, by decide +kernel, by decide +kernel⟩
theorem xf_155 : xf_ok 155 := ⟨by decide +kernel, by decide +kernel, by decide +kernel, by decide +kernel, by decide +kernel⟩
theorem xf_156 : xf_ok 156 := ⟨by decide +kernel, by decide +kernel, by decide +kernel, by decide +kernel, by decide +kernel⟩
theorem xf_157 : xf_ok 157 := ⟨by decide +kernel, by decide +kernel, by decide +kernel, by decide +kernel, by decide +kernel⟩
theorem xf_158 : xf_ok 158 := ⟨by decide +kernel, by decide +kernel, by decide +kernel, by decide +kernel, by decide +kernel⟩
theorem xf_159 : xf_ok 159 := ⟨by decide +kernel, by decide +kernel, by decide +kernel, by decide +kernel, by decide +kernel⟩
theorem xf_s9 : ∀ i, i < 16 → xf_ok (16 * 9 + i) := by
  intro i hi
  match i, hi with
  | 0, _ => exact xf_144
  | 1, _ => exact xf_145
  | 2, _ => exact xf_146
  | 3, _ => exact xf_147
  | 4, _ => exact xf_148
  | 5, _ => exact xf_149
  | 6, _ => exact xf_150
  | 7, _ => exact xf_151
  | 8, _ => exact xf_152
  | 9, _ => exact xf_153
  | 10, _ => exact xf_154
  | 11, _ => exact xf_155
  | 12, _ => exact xf_156
  | 13, _ => exact xf_157
  | 14, _ => exact xf_158
  | 15, _ => exact xf_159
  | n + 16, h => exact absurd h (by omega)
theorem xn_s9 : ∀ i, i < 16 → (xm_y (16 * 9 + i)).cls = xown (xm_o (16 * 9 + i)) := by
  intro i hi
  match i, hi with
  | 0, _ => rfl
  | 1, _ => rfl
  | 2, _ => rfl
  | 3, _ => rfl
  | 4, _ => rfl
  | 5, _ => rfl
  | 6, _ => rfl
  | 7, _ => rfl
  | 8, _ => rfl
  | 9, _ => rfl
  | 10, _ => rfl
  | 11, _ => rfl
  | 12, _ => rfl
  | 13, _ => rfl
  | 14, _ => rfl
  | 15, _ => rfl
  | n + 16, h => exact absurd h (by omega)
theorem xf_160 : xf_ok 160 := ⟨by decide +kernel, by decide +kernel, by decide +kernel, by decide +kernel, by decide +kernel⟩
theorem xf_161 : xf_ok 161 := ⟨by decide +kernel, by decide +kernel, by decide +kernel, by decide +kernel, by decide +kernel⟩
theorem xf_162 : xf_ok 162 := ⟨by decide +kernel, by decide +kernel, by decide +kernel, by decide +kernel, by decide +kernel⟩
theorem xf_163 : xf_ok 163 := ⟨by decide +kernel, by decide +kernel, by decide +kernel, by decide +kernel, by decide +kernel⟩
theorem xf_164 : xf_ok 164 := ⟨by decide +kernel, by decide +kernel, by decide +kernel, by decide +kernel, by decide +kernel⟩
theorem xf_165 : xf_ok 165 := ⟨by decide +kernel, by decide +kernel, by decide +kernel, by decide +kernel, by decide +kernel⟩
theorem xf_166 : xf_ok 166 := ⟨by decide +kernel, by decide +kernel, by decide +kernel, by decide +kernel, by decide +kernel⟩
theorem xf_167 : xf_ok 167 := ⟨by decide +kernel, by decide +kernel, by decide +kernel, by decide +kernel, by decide +kernel⟩
theorem xf_168 : xf_ok 168 := ⟨by decide +kernel, by decide +kernel, by decide +kernel, by decide +kernel, by decide +kernel⟩
theorem xf_169 : xf_ok 169 := ⟨by decide +kernel, by decide +kernel, by decide +kernel, by decide +kernel, by decide +kernel⟩
theorem xf_170 : xf_ok 170 := ⟨by decide +kernel, by decide +kernel, by decide +kernel, by decide +kernel, by decide +kernel⟩
theorem xf_171 : xf_ok 171 := ⟨by decide +kernel, by decide +kernel, by decide +kernel, by decide +kernel, by decide +kernel⟩
theorem xf_172 : xf_ok 172 := ⟨by decide +kernel, by decide +kernel, by decide +kernel, by decide +kernel, by decide +kernel⟩
theorem xf_173 : xf_ok 173 := ⟨by decide +kernel, by decide +kernel, by decide +kernel, by decide +kernel, by decide +kernel⟩
theorem xf_174 : xf_ok 174 := ⟨by decide +kernel, by decide +kernel, by decide +kernel, by decide +kernel, by decide +kernel⟩
theorem xf_175 : xf_ok 175 := ⟨by decide +kernel, by decide +kernel, by decide +kernel, by decide +kernel, by decide +kernel⟩
theorem xf_s10 : ∀ i, i < 16 → xf_ok (16 * 10 + i) := by
  intro i hi
  match i, hi with
  | 0, _ => exact xf_160
  | 1, _ => exact xf_161
  | 2, _ => exact xf_162
  | 3, _ => exact xf_163
  | 4, _ => exact xf_164
  | 5, _ => exact xf_165
  | 6, _ => exact xf_166
  | 7, _ => exact xf_167
  | 8, _ => exact xf_168
  | 9, _ => exact xf_169
  | 10, _ => exact xf_170
  | 11, _ => exact xf_171
  | 12, _ => exact xf_172
  | 13, _ => exact xf_173
  | 14, _ => exact xf_174
  | 15, _ => exact xf_175
  | n + 16, h => exact absurd h (by omega)
theorem xn_s10 : ∀ i, i < 16 → (xm_y (16 * 10 + i)).cls = xown (xm_o (16 * 10 + i)) := by
  intro i hi
  match i, hi with
  | 0, _ => rfl
  | 1, _ => rfl
  | 2, _ => rfl
  | 3, _ => rfl
  | 4, _ => rfl
  | 5, _ => rfl
  | 6, _ => rfl
  | 7, _ => rfl
  | 8, _ => rfl
  | 9, _ => rfl
  | 10, _ => rfl
  | 11, _ => rfl
  | 12, _ => rfl
  | 13, _ => rfl
  | 14, _ => rfl
  | 15, _ => rfl
  | n + 16, h => exact absurd h (by omega)
theorem xf_176 : xf_ok 176 := ⟨by decide +kernel, by decide +kernel, by decide +kernel, by decide +kernel, by decide +kernel⟩
theorem xf_177 : xf_ok 177 := ⟨by decide +kernel, by decide +kernel, by decide +kernel, by decide +kernel, by decide +kernel⟩
theorem xf_178 : xf_ok 178 := ⟨by decide +kernel, by decide +kernel, by decide +kernel, by decide +kernel, by decide +kernel⟩
theorem xf_179 : xf_ok 179 := ⟨by decide +kernel, by decide +kernel, by decide +kernel, by decide +kernel, by decide +kernel⟩
theorem xf_180 : xf_ok 180 := ⟨by decide +kernel, by decide +kernel, by decide +kernel, by decide +kernel, by decide +kernel⟩
theorem xf_181 : xf_ok 181 := ⟨by decide +kernel, by decide +kernel, by decide +kernel, by decide +kernel, by decide +kernel⟩
theorem xf_182 : xf_ok 182 := ⟨by decide +kernel, by decide +kernel, by decide +kernel, by decide +kernel, by decide +kernel⟩
theorem xf_183 : xf_ok 183 := ⟨by decide +kernel, by decide +kernel, by decide +kernel, by decide +kernel, by decide +kernel⟩
theorem xf_184 : xf_ok 184 := ⟨by decide +kernel, by decide +kernel, by decide +kernel, by decide +kernel, by decide +kernel⟩
theorem xf_185 : xf_ok 185 := ⟨by decide +kernel, by decide +kernel, by decide +kernel, by decide +kernel, by decide +kernel⟩
theorem xf_186 : xf_ok 186 := ⟨by decide +kernel, by decide +kernel, by decide +kernel, by decide +kernel, by decide +kernel⟩
theorem xf_187 : xf_ok 187 := ⟨by decide +kernel, by decide +kernel, by decide +kernel, by decide +kernel, by decide +kernel⟩
theorem xf_188 : xf_ok 188 := ⟨by decide +kernel, by decide +kernel, by decide +kernel, by decide +kernel, by decide +kernel⟩
theorem xf_189 : xf_ok 189 := ⟨by decide +kernel, by decide +kernel, by decide +kernel, by decide +kernel, by decide +kernel⟩
theorem xf_190 : xf_ok 190 := ⟨by decide +kernel, by decide +kernel, by decide +kernel, by decide +kernel, by decide +kernel⟩
theorem xf_191 : xf_ok 191 := ⟨by decide +kernel, by decide +kernel, by decide +kernel, by decide +kernel, by decide +kernel⟩
theorem xf_s11 : ∀ i, i < 16 → xf_ok (16 * 11 + i) := by
  intro i hi
  match i, hi with
  | 0, _ => exact xf_176
  | 1, _ => exact xf_177
  | 2, _ => exact xf_178
  | 3, _ => exact xf_179
  | 4, _ => exact xf_180
  | 5, _ => exact xf_181
  | 6, _ => exact xf_182
  | 7, _ => exact xf_183
  | 8, _ => exact xf_184
  | 9, _ => exact xf_185
  | 10, _ => exact xf_186
  | 11, _ => exact xf_187
  | 12, _ => exact xf_188
  | 13, _ => exact xf_189
  | 14, _ => exact xf_190
  | 15, _ => exact xf_191
  | n + 16, h => exact absurd h (by omega)
theorem xn_s11 : ∀ i, i < 16 → (xm_y (16 * 11 + i)).cls = xown (xm_o (16 * 11 + i)) := by
  intro i hi
  match i, hi with
  | 0, _ => rfl
  | 1, _ => rfl
  | 2, _ => rfl
  | 3, _ => rfl
  | 4, _ => rfl
  | 5, _ => rfl
  | 6, _ => rfl
  | 7, _ => rfl
  | 8, _ => rfl
  | 9, _ => rfl
  | 10, _ => rfl
  | 11, _ => rfl
  | 12, _ => rfl
  | 13, _ => rfl
  | 14, _ => rfl
  | 15, _ => rfl
  | n + 16, h => exact absurd h (by omega)
theorem xf_192 : xf_ok 192 := ⟨by decide +kernel, by decide +kernel, by decide +kernel, by decide +kernel, by decide +kernel⟩
theorem xf_193 : xf_ok 193 := ⟨by decide +kernel, by decide +kernel, by decide +kernel, by decide +kernel, by decide +kernel⟩
theorem xf_194 : xf_ok 194 := ⟨by decide +kernel, by decide +kernel, by decide +kernel, by decide +kernel, by decide +kernel⟩
theorem xf_195 : xf_ok 195 := ⟨by decide +kernel, by decide +kernel, by decide +kernel, by decide +kernel, by decide +kernel⟩
theorem xf_196 : xf_ok 196 := ⟨by decide +kernel, by decide +kernel, by decide +kernel, by decide +kernel, by decide +kernel⟩
theorem xf_197 : xf_ok 197 := ⟨by decide +kernel, by decide +kernel, by decide +kernel, by decide +kernel, by decide +kernel⟩
theorem xf_198 : xf_ok 198 := ⟨by decide +kernel, by decide +kernel, by decide +kernel, by decide +kernel, by decide +kernel⟩
theorem xf_199 : xf_ok 199 := ⟨by decide +kernel, by decide +kernel, by decide +kernel, by decide +kernel, by decide +kernel⟩
theorem xf_200 : xf_ok 200 := ⟨by decide +kernel, by decide +kernel, by decide +kernel, by decide +kernel, by decide +kernel⟩
theorem xf_201 : xf_ok 201 := ⟨by decide +kernel, by decide +kernel, by decide +kernel, by decide +kernel, by decide +kernel⟩
theorem xf_202 : xf_ok 202 := ⟨by decide +kernel, by decide +kernel, by decide +kernel, by decide +kernel, by decide +kernel⟩
theorem xf_203 : xf_ok 203 := ⟨by decide +kernel, by decide +kernel, by decide +kernel, by decide +kernel, by decide +kernel⟩
theorem xf_204 : xf_ok 204 := ⟨by decide +kernel, by decide +kernel, by decide +kernel, by decide +kernel, by decide +kernel⟩
theorem xf_205 : xf_ok 205 := ⟨by decide +kernel, by decide +kernel, by decide +kernel, by decide +kernel, by decide +kernel⟩
theorem xf_206 : xf_ok 206 := ⟨by decide +kernel, by decide +kernel, by decide +kernel, by decide +kernel, by decide +kernel⟩
theorem xf_207 : xf_ok 207 := ⟨by decide +kernel, by decide +kernel, by decide +kernel, by decide +kernel, by decide +kernel⟩
theorem xf_s12 : ∀ i, i < 16 → xf_ok (16 * 12 + i) := by
  intro i hi
  match i, hi with
  | 0, _ => exact xf_192
  | 1, _ => exact xf_193
  | 2, _ => exact xf_194
  | 3, _ => exact xf_195
  | 4, _ => exact xf_196
  | 5, _ => exact xf_197
  | 6, _ => exact xf_198
  | 7, _ => exact xf_199
  | 8, _ => exact xf_200
  | 9, _ => exact xf_201
  | 10, _ => exact xf_202
  | 11, _ => exact xf_203
  | 12, _ => exact xf_204
  | 13, _ => exact xf_205
  | 14, _ => exact xf_206
  | 15, _ => exact xf_207
  | n + 16, h => exact absurd h (by omega)
theorem xn_s12 : ∀ i, i < 16 → (xm_y (16 * 12 + i)).cls = xown (xm_o (16 * 12 + i)) := by
  intro i hi
  match i, hi with
  | 0, _ => rfl
  | 1, _ => rfl
  | 2, _ => rfl
  | 3, _ => rfl
  | 4, _ => rfl
  | 5, _ => rfl
  | 6, _ => rfl
  | 7, _ => rfl
  | 8, _ => rfl
  | 9, _ => rfl
  | 10, _ => rfl
  | 11, _ => rfl
  | 12, _ => rfl
  | 13, _ => rfl
  | 14, _ => rfl
  | 15, _ => rfl
  | n + 16, h => exact absurd h (by omega)
theorem xf_208 : xf_ok 208 := ⟨by decide +kernel, by decide +kernel, by decide +kernel, by decide +kernel, by decide +kernel⟩
theorem xf_209 : xf_ok 209 := ⟨by decide +kernel, by decide +kernel, by decide +kernel, by decide +kernel, by decide +kernel⟩
theorem xf_210 : xf_ok 210 := ⟨by decide +kernel, by decide +kernel, by decide +kernel, by decide +kernel, by decide +kernel⟩
theorem xf_211 : xf_ok 211 := ⟨by decide +kernel, by decide +kernel, by decide +kernel, by decide +kernel, by decide +kernel⟩
theorem xf_212 : xf_ok 212 := ⟨by decide +kernel, by decide +kernel, by decide +kernel, by decide +kernel, by decide +kernel⟩
theorem xf_213 : xf_ok 213 := ⟨by decide +kernel, by decide +kernel, by decide +kernel, by decide +kernel, by decide +kernel⟩
theorem xf_214 : xf_ok 214 := ⟨by decide +kernel, by decide +kernel, by decide +kernel, by decide +kernel, by decide +kernel⟩
theorem xf_215 : xf_ok 215 := ⟨by decide +kernel, by decide +kernel, by decide +kernel, by decide +kernel, by decide +kernel⟩
theorem xf_216 : xf_ok 216 := ⟨by decide +kernel, by decide +kernel, by decide +kernel, by decide +kernel, by decide +kernel⟩
theorem xf_217 : xf_ok 217 := ⟨by decide +kernel, by decide +kernel, by decide +kernel, by decide +kernel, by decide +kernel⟩
theorem xf_218 : xf_ok 218 := ⟨by decide +kernel, by decide +kernel, by decide +kernel, by decide +kernel, by decide +kernel⟩
theorem xf_219 : xf_ok 219 := ⟨by decide +kernel, by decide +kernel, by decide +kernel, by decide +kernel, by decide +kernel⟩
theorem xf_220 : xf_ok 220 := ⟨by decide +kernel, by decide +kernel, by decide +kernel, by decide +kernel, by decide +kernel⟩
theorem xf_221 : xf_ok 221 := ⟨by decide +kernel, by decide +kernel, by decide +kernel, by decide +kernel, by decide +kernel⟩
theorem xf_222 : xf_ok 222 := ⟨by decide +kernel, by decide +kernel, by decide +kernel, by decide +kernel, by decide +kernel⟩
theorem xf_223 : xf_ok 223 := ⟨by decide +kernel, by decide +kernel, by decide +kernel, by decide +kernel, by decide +kernel⟩
theorem xf_s13 : ∀ i, i < 16 → xf_ok (16 * 13 + i) := by
  intro i hi
  match i, hi with
  | 0, _ => exact xf_208
  | 1, _ => exact xf_209
  | 2, _ => exact xf_210
  | 3, _ => exact xf_211
  | 4, _ => exact xf_212
  | 5, _ => exact xf_213
  | 6, _ => exact xf_214
  | 7, _ => exact xf_215
  | 8, _ => exact xf_216
  | 9, _ => exact xf_217
  | 10, _ => exact xf_218
  | 11, _ => exact xf_219
  | 12, _ => exact xf_220
  | 13, _ => exact xf_221
  | 14, _ => exact xf_222
  | 15, _ => exact xf_223
  | n + 16, h => exact absurd h (by omega)
theorem xn_s13 : ∀ i, i < 16 → (xm_y (16 * 13 + i)).cls = xown (xm_o (16 * 13 + i)) := by
  intro i hi
  match i, hi with
  | 0, _ => rfl
  | 1, _ => rfl
  | 2, _ => rfl
  | 3, _ => rfl
  | 4, _ => rfl
  | 5, _ => rfl
  | 6, _ => rfl
  | 7, _ => rfl
  | 8, _ => rfl
  | 9, _ => rfl
  | 10, _ => rfl
  | 11, _ => rfl
  | 12, _ => rfl
  | 13, _ => rfl
  | 14, _ => rfl
  | 15, _ => rfl
  | n + 16, h => exact absurd h (by omega)
theorem xf_224 : xf_ok 224 := ⟨by decide +kernel, by decide +kernel, by decide +kernel, by decide +kernel, by decide +kernel⟩
theorem xf_225 : xf_ok 225 := ⟨by decide +kernel, by decide +kernel, by decide +kernel, by decide +kernel, by decide +kernel⟩
theorem xf_226 : xf_ok 226 := ⟨by decide +kernel, by decide +kernel, by decide +kernel, by decide +kernel, by decide +kernel⟩
theorem xf_227 : xf_ok 227 := ⟨by decide +kernel, by decide +kernel, by decide +kernel, by decide +kernel, by decide +kernel⟩
theorem xf_228 : xf_ok 228 := ⟨by decide +kernel, by decide +kernel, by decide +kernel, by decide +kernel, by decide +kernel⟩
theorem xf_229 : xf_ok 229 := ⟨by decide +kernel, by decide +kernel, by decide +kernel, by decide +kernel, by decide +kernel⟩
theorem xf_230 : xf_ok 230 := ⟨by decide +kernel, by decide +kernel, by decide +kernel, by decide +kernel, by decide +kernel⟩
theorem xf_231 : xf_ok 231 := ⟨by decide +kernel, by decide +kernel, by decide +kernel, by decide +kernel, by decide +kernel⟩
theorem xf_232 : xf_ok 232 := ⟨by decide +kernel, by decide +kernel, by decide +kernel, by decide +kernel, by decide +kernel⟩
theorem xf_233 : xf_ok 233 := ⟨by decide +kernel, by decide +kernel, by decide +kernel, by decide +kernel, by decide +kernel⟩
theorem xf_234 : xf_ok 234 := ⟨by decide +kernel, by decide +kernel, by decide +kernel, by decide +kernel, by decide +kernel⟩
theorem xf_235 : xf_ok 235 := ⟨by decide +kernel, by decide +kernel, by decide +kernel, by decide +kernel, by decide +kernel⟩
theorem xf_236 : xf_ok 236 := ⟨by decide +kernel, by decide +kernel, by decide +kernel, by decide +kernel, by decide +kernel⟩
theorem xf_237 : xf_ok 237 := ⟨by decide +kernel, by decide +kernel, by decide +kernel, by decide +kernel, by decide +kernel⟩
theorem xf_238 : xf_ok 238 := ⟨by decide +kernel, by decide +kernel, by decide +kernel, by decide +kernel, by decide +kernel⟩
theorem xf_239 : xf_ok 239 := ⟨by decide +kernel, by decide +kernel, by decide +kernel, by decide +kernel, by decide +kernel⟩
theorem xf_s14 : ∀ i, i < 16 → xf_ok (16 * 14 + i) := by
  intro i hi
  match i, hi with
  | 0, _ => exact xf_224
  | 1, _ => exact xf_225
  | 2, _ => exact xf_226
  | 3, _ => exact xf_227
  | 4, _ => exact xf_228
  | 5, _ => exact xf_229
  | 6, _ => exact xf_230
  | 7, _ => exact xf_231
  | 8, _ => exact xf_232
  | 9, _ => exact xf_233
  | 10, _ => exact xf_234
  | 11, _ => exact xf_235
  | 12, _ => exact xf_236
  | 13, _ => exact xf_237
  | 14, _ => exact xf_238
  | 15, _ => exact xf_239
  | n + 16, h => exact absurd h (by omega)
theorem xn_s14 : ∀ i, i < 16 → (xm_y (16 * 14 + i)).cls = xown (xm_o (16 * 14 + i)) := by
  intro i hi
  match i, hi with
  | 0, _ => rfl
  | 1, _ => rfl
  | 2, _ => rfl
  | 3, _ => rfl
  | 4, _ => rfl
  | 5, _ => rfl
  | 6, _ => rfl
  | 7, _ => rfl
  | 8, _ => rfl
  | 9, _ => rfl
  | 10, _ => rfl
  | 11, _ => rfl
  | 12, _ => rfl
  | 13, _ => rfl
  | 14, _ => rfl
  | 15, _ => rfl
  | n + 16, h => exact absurd h (by omega)
theorem xf_240 : xf_ok 240 := ⟨by decide +kernel, by decide +kernel, by decide +kernel, by decide +kernel, by decide +kernel⟩
theorem xf_241 : xf_ok 241 := ⟨by decide +kernel, by decide +kernel, by decide +kernel, by decide +kernel, by decide +kernel⟩
theorem xf_242 : xf_ok 242 := ⟨by decide +kernel, by decide +kernel, by decide +kernel, by decide +kernel, by decide +kernel⟩
theorem xf_243 : xf_ok 243 := ⟨by decide +kernel, by decide +kernel, by decide +kernel, by decide +kernel, by decide +kernel⟩
theorem xf_244 : xf_ok 244 := ⟨by decide +kernel, by decide +kernel, by decide +kernel, by decide +kernel, by decide +kernel⟩
theorem xf_s15 : ∀ i, i < 5 → xf_ok (16 * 15 + i) := by
  intro i hi
  match i, hi with
  | 0, _ => exact xf_240
  | 1, _ => exact xf_241
  | 2, _ => exact xf_242
  | 3, _ => exact xf_243
  | 4, _ => exact xf_244
  | n + 5, h => exact absurd h (by omega)
theorem xn_s15 : ∀ i, i < 6 → (xm_y (16 * 15 + i)).cls = xown (xm_o (16 * 15 + i)) := by
  intro i hi
  match i, hi with
  | 0, _ => rfl
  | 1, _ => rfl
  | 2, _ => rfl
  | 3, _ => rfl
  | 4, _ => rfl
  | 5, _ => rfl
  | n + 6, h => exact absurd h (by omega)
theorem xf_all {y : Nat} (h : y < 245) : xf_ok y := by
  have e := Nat.div_add_mod y 16
  have hm : y % 16 < 16 := Nat.mod_lt _ (by decide)
  generalize hc : y / 16 = c at e
  generalize hi : y % 16 = i at e hm
  subst e
  have hc16 : c < 16 := by omega
  match c, hc16 with
  | 0, _ => exact xf_s0 i (by omega)
  | 1, _ => exact xf_s1 i (by omega)
  | 2, _ => exact xf_s2 i (by omega)
  | 3, _ => exact xf_s3 i (by omega)
  | 4, _ => exact xf_s4 i (by omega)
  | 5, _ => exact xf_s5 i (by omega)
  | 6, _ => exact xf_s6 i (by omega)
  | 7, _ => exact xf_s7 i (by omega)
  | 8, _ => exact xf_s8 i (by omega)
  | 9, _ => exact xf_s9 i (by omega)
  | 10, _ => exact xf_s10 i (by omega)
  | 11, _ => exact xf_s11 i (by omega)
  | 12, _ => exact xf_s12 i (by omega)
  | 13, _ => exact xf_s13 i (by omega)
  | 14, _ => exact xf_s14 i (by omega)
  | 15, _ => exact xf_s15 i (by omega)
  | n + 16, h => exact absurd h (by omega)
theorem xn_all {y : Nat} (h : y < 246) : (xm_y y).cls = xown (xm_o y) := by
  have e := Nat.div_add_mod y 16
  have hm : y % 16 < 16 := Nat.mod_lt _ (by decide)
  generalize hc : y / 16 = c at e
  generalize hi : y % 16 = i at e hm
  subst e
  have hc16 : c < 16 := by omega
  match c, hc16 with
  | 0, _ => exact xn_s0 i (by omega)
  | 1, _ => exact xn_s1 i (by omega)
  | 2, _ => exact xn_s2 i (by omega)
  | 3, _ => exact xn_s3 i (by omega)
  | 4, _ => exact xn_s4 i (by omega)
  | 5, _ => exact xn_s5 i (by omega)
  | 6, _ => exact xn_s6 i (by omega)
  | 7, _ => exact xn_s7 i (by omega)
  | 8, _ => exact xn_s8 i (by omega)
  | 9, _ => exact xn_s9 i (by omega)
  | 10, _ => exact xn_s10 i (by omega)
  | 11, _ => exact xn_s11 i (by omega)
  | 12, _ => exact xn_s12 i (by omega)
  | 13, _ => exact xn_s13 i (by omega)
  | 14, _ => exact xn_s14 i (by omega)
  | 15, _ => exact xn_s15 i (by omega)
  | n + 16, h => exact absurd h (by omega)
/-- a class of the world: its words, its types, its names, what its slots hold -/
def xk_ok (a : Nat) (q : vw_C) : Prop := q.1 = xown a ∧ q.2.2 = (xt_kd.getD a []).length ∧ (∀ w ∈ u_ws q.1 q.2.1 q.2.2, w ∈ lw_tbl) ∧ (∃ ty0 : Nat → FieldType, ∀ k, k < q.2.2 → parseFieldDescriptor (q.2.1 k).2.2.1 = some (ty0 k)) ∧ (∀ a, a < q.2.2 → ∀ b, b < q.2.2 → a ≠ b → (q.2.1 a).2.1 ≠ (q.2.1 b).2.1) ∧ (∀ b, b < q.2.2 → (xe_kd a b = 0 → (q.2.1 b).2.2.1 = "I" ∧ (q.2.1 b).2.2.2 = false) ∧ (xe_kd a b = 1 → (q.2.1 b).2.2.1 = "Z" ∧ (q.2.1 b).2.2.2 = false) ∧ (xe_kd a b = 2 → (q.2.1 b).2.2.1 = "J" ∧ (q.2.1 b).2.2.2 = false) ∧ (xe_kd a b = 4 → (q.2.1 b).2.2.1 = "LQuayRopes$Port;" ∧ (q.2.1 b).2.2.2 = false))
theorem xk_w0 : ∀ w ∈ u_ws RX0 TX0 11, w ∈ lw_tbl := by
  intro w hw
  obtain ⟨k, hk, rfl⟩ := List.mem_map.mp hw
  have hk := List.mem_range.mp hk
  match k, hk with
  | 0, _ => exact List.mem_append_right _ (List.mem_append_right _ (List.mem_append_left _ (List.mem_of_getElem? (i := 52) rfl)))
  | 1, _ => exact List.mem_append_right _ (List.mem_append_right _ (List.mem_append_left _ (List.mem_of_getElem? (i := 54) rfl)))
  | 2, _ => exact List.mem_append_right _ (List.mem_append_right _ (List.mem_append_left _ (List.mem_of_getElem? (i := 56) rfl)))
  | 3, _ => exact List.mem_append_right _ (List.mem_append_right _ (List.mem_append_left _ (List.mem_of_getElem? (i := 58) rfl)))
  | 4, _ => exact List.mem_append_right _ (List.mem_append_right _ (List.mem_append_left _ (List.mem_of_getElem? (i := 60) rfl)))
  | 5, _ => exact List.mem_append_right _ (List.mem_append_right _ (List.mem_append_left _ (List.mem_of_getElem? (i := 62) rfl)))
  | 6, _ => exact List.mem_append_right _ (List.mem_append_right _ (List.mem_append_left _ (List.mem_of_getElem? (i := 64) rfl)))
  | 7, _ => exact List.mem_append_right _ (List.mem_append_right _ (List.mem_append_left _ (List.mem_of_getElem? (i := 66) rfl)))
  | 8, _ => exact List.mem_append_right _ (List.mem_append_right _ (List.mem_append_left _ (List.mem_of_getElem? (i := 68) rfl)))
  | 9, _ => exact List.mem_append_right _ (List.mem_append_right _ (List.mem_append_left _ (List.mem_of_getElem? (i := 70) rfl)))
  | 10, _ => exact List.mem_append_right _ (List.mem_append_right _ (List.mem_append_left _ (List.mem_of_getElem? (i := 72) rfl)))
  | n + 11, h => exact absurd h (by omega)
theorem xk_0 : xk_ok 0 (RX0, TX0, 11) := ⟨rfl, by decide +kernel, xk_w0, ⟨tyX0, tyX0_ok⟩, nmX0, by decide +kernel⟩
theorem xk_w1 : ∀ w ∈ u_ws RX1 TX1 12, w ∈ lw_tbl := by
  intro w hw
  obtain ⟨k, hk, rfl⟩ := List.mem_map.mp hw
  have hk := List.mem_range.mp hk
  match k, hk with
  | 0, _ => exact List.mem_append_right _ (List.mem_append_left _ (List.mem_of_getElem? (i := 220) rfl))
  | 1, _ => exact List.mem_append_right _ (List.mem_append_left _ (List.mem_of_getElem? (i := 222) rfl))
  | 2, _ => exact List.mem_append_right _ (List.mem_append_left _ (List.mem_of_getElem? (i := 224) rfl))
  | 3, _ => exact List.mem_append_right _ (List.mem_append_left _ (List.mem_of_getElem? (i := 226) rfl))
  | 4, _ => exact List.mem_append_right _ (List.mem_append_left _ (List.mem_of_getElem? (i := 228) rfl))
  | 5, _ => exact List.mem_append_right _ (List.mem_append_left _ (List.mem_of_getElem? (i := 230) rfl))
  | 6, _ => exact List.mem_append_right _ (List.mem_append_left _ (List.mem_of_getElem? (i := 232) rfl))
  | 7, _ => exact List.mem_append_right _ (List.mem_append_left _ (List.mem_of_getElem? (i := 234) rfl))
  | 8, _ => exact List.mem_append_right _ (List.mem_append_left _ (List.mem_of_getElem? (i := 236) rfl))
  | 9, _ => exact List.mem_append_right _ (List.mem_append_left _ (List.mem_of_getElem? (i := 238) rfl))
  | 10, _ => exact List.mem_append_right _ (List.mem_append_right _ (List.mem_append_left _ (List.mem_of_getElem? (i := 0) rfl)))
  | 11, _ => exact List.mem_append_right _ (List.mem_append_right _ (List.mem_append_left _ (List.mem_of_getElem? (i := 2) rfl)))
  | n + 12, h => exact absurd h (by omega)
theorem xk_1 : xk_ok 1 (RX1, TX1, 12) := ⟨rfl, by decide +kernel, xk_w1, ⟨tyX1, tyX1_ok⟩, nmX1, by decide +kernel⟩
theorem xk_w2 : ∀ w ∈ u_ws RX2 TX2 4, w ∈ lw_tbl := by
  intro w hw
  obtain ⟨k, hk, rfl⟩ := List.mem_map.mp hw
  have hk := List.mem_range.mp hk
  match k, hk with
  | 0, _ => exact List.mem_append_right _ (List.mem_append_left _ (List.mem_of_getElem? (i := 187) rfl))
  | 1, _ => exact List.mem_append_right _ (List.mem_append_left _ (List.mem_of_getElem? (i := 189) rfl))
  | 2, _ => exact List.mem_append_right _ (List.mem_append_left _ (List.mem_of_getElem? (i := 191) rfl))
  | 3, _ => exact List.mem_append_right _ (List.mem_append_left _ (List.mem_of_getElem? (i := 193) rfl))
  | n + 4, h => exact absurd h (by omega)
theorem xk_2 : xk_ok 2 (RX2, TX2, 4) := ⟨rfl, by decide +kernel, xk_w2, ⟨tyX2, tyX2_ok⟩, nmX2, by decide +kernel⟩
theorem xk_w3 : ∀ w ∈ u_ws RX3 TX3 6, w ∈ lw_tbl := by
  intro w hw
  obtain ⟨k, hk, rfl⟩ := List.mem_map.mp hw
  have hk := List.mem_range.mp hk
  match k, hk with
  | 0, _ => exact List.mem_append_right _ (List.mem_append_right _ (List.mem_append_left _ (List.mem_of_getElem? (i := 138) rfl)))
  | 1, _ => exact List.mem_append_right _ (List.mem_append_right _ (List.mem_append_left _ (List.mem_of_getElem? (i := 140) rfl)))
  | 2, _ => exact List.mem_append_right _ (List.mem_append_right _ (List.mem_append_left _ (List.mem_of_getElem? (i := 142) rfl)))
  | 3, _ => exact List.mem_append_right _ (List.mem_append_right _ (List.mem_append_left _ (List.mem_of_getElem? (i := 144) rfl)))
  | 4, _ => exact List.mem_append_right _ (List.mem_append_right _ (List.mem_append_left _ (List.mem_of_getElem? (i := 146) rfl)))
  | 5, _ => exact List.mem_append_right _ (List.mem_append_right _ (List.mem_append_left _ (List.mem_of_getElem? (i := 148) rfl)))
  | n + 6, h => exact absurd h (by omega)
theorem xk_3 : xk_ok 3 (RX3, TX3, 6) := ⟨rfl, by decide +kernel, xk_w3, ⟨tyX3, tyX3_ok⟩, nmX3, by decide +kernel⟩
theorem xk_w4 : ∀ w ∈ u_ws RX4 TX4 16, w ∈ lw_tbl := by
  intro w hw
  obtain ⟨k, hk, rfl⟩ := List.mem_map.mp hw
  have hk := List.mem_range.mp hk
  match k, hk with
  | 0, _ => exact List.mem_append_right _ (List.mem_append_left _ (List.mem_of_getElem? (i := 140) rfl))
  | 1, _ => exact List.mem_append_right _ (List.mem_append_left _ (List.mem_of_getElem? (i := 142) rfl))
  | 2, _ => exact List.mem_append_right _ (List.mem_append_left _ (List.mem_of_getElem? (i := 144) rfl))
  | 3, _ => exact List.mem_append_right _ (List.mem_append_left _ (List.mem_of_getElem? (i := 146) rfl))
  | 4, _ => exact List.mem_append_right _ (List.mem_append_left _ (List.mem_of_getElem? (i := 148) rfl))
  | 5, _ => exact List.mem_append_right _ (List.mem_append_left _ (List.mem_of_getElem? (i := 150) rfl))
  | 6, _ => exact List.mem_append_right _ (List.mem_append_left _ (List.mem_of_getElem? (i := 152) rfl))
  | 7, _ => exact List.mem_append_right _ (List.mem_append_left _ (List.mem_of_getElem? (i := 154) rfl))
  | 8, _ => exact List.mem_append_right _ (List.mem_append_left _ (List.mem_of_getElem? (i := 156) rfl))
  | 9, _ => exact List.mem_append_right _ (List.mem_append_left _ (List.mem_of_getElem? (i := 158) rfl))
  | 10, _ => exact List.mem_append_right _ (List.mem_append_left _ (List.mem_of_getElem? (i := 160) rfl))
  | 11, _ => exact List.mem_append_right _ (List.mem_append_left _ (List.mem_of_getElem? (i := 162) rfl))
  | 12, _ => exact List.mem_append_right _ (List.mem_append_left _ (List.mem_of_getElem? (i := 164) rfl))
  | 13, _ => exact List.mem_append_right _ (List.mem_append_left _ (List.mem_of_getElem? (i := 166) rfl))
  | 14, _ => exact List.mem_append_right _ (List.mem_append_left _ (List.mem_of_getElem? (i := 168) rfl))
  | 15, _ => exact List.mem_append_right _ (List.mem_append_left _ (List.mem_of_getElem? (i := 170) rfl))
  | n + 16, h => exact absurd h (by omega)
theorem xk_4 : xk_ok 4 (RX4, TX4, 16) := ⟨rfl, by decide +kernel, xk_w4, ⟨tyX4, tyX4_ok⟩, nmX4, by decide +kernel⟩
theorem xk_w5 : ∀ w ∈ u_ws RX5 TX5 7, w ∈ lw_tbl := by
  intro w hw
  obtain ⟨k, hk, rfl⟩ := List.mem_map.mp hw
  have hk := List.mem_range.mp hk
  match k, hk with
  | 0, _ => exact List.mem_append_right _ (List.mem_append_right _ (List.mem_append_left _ (List.mem_of_getElem? (i := 92) rfl)))
  | 1, _ => exact List.mem_append_right _ (List.mem_append_right _ (List.mem_append_left _ (List.mem_of_getElem? (i := 94) rfl)))
  | 2, _ => exact List.mem_append_right _ (List.mem_append_right _ (List.mem_append_left _ (List.mem_of_getElem? (i := 96) rfl)))
  | 3, _ => exact List.mem_append_right _ (List.mem_append_right _ (List.mem_append_left _ (List.mem_of_getElem? (i := 98) rfl)))
  | 4, _ => exact List.mem_append_right _ (List.mem_append_right _ (List.mem_append_left _ (List.mem_of_getElem? (i := 100) rfl)))
  | 5, _ => exact List.mem_append_right _ (List.mem_append_right _ (List.mem_append_left _ (List.mem_of_getElem? (i := 102) rfl)))
  | 6, _ => exact List.mem_append_right _ (List.mem_append_right _ (List.mem_append_left _ (List.mem_of_getElem? (i := 104) rfl)))
  | n + 7, h => exact absurd h (by omega)
theorem xk_5 : xk_ok 5 (RX5, TX5, 7) := ⟨rfl, by decide +kernel, xk_w5, ⟨tyX5, tyX5_ok⟩, nmX5, by decide +kernel⟩
theorem xk_w6 : ∀ w ∈ u_ws RX6 TX6 2, w ∈ lw_tbl := by
  intro w hw
  obtain ⟨k, hk, rfl⟩ := List.mem_map.mp hw
  have hk := List.mem_range.mp hk
  match k, hk with
  | 0, _ => exact List.mem_append_right _ (List.mem_append_right _ (List.mem_append_left _ (List.mem_of_getElem? (i := 118) rfl)))
  | 1, _ => exact List.mem_append_right _ (List.mem_append_right _ (List.mem_append_left _ (List.mem_of_getElem? (i := 120) rfl)))
  | n + 2, h => exact absurd h (by omega)
theorem xk_6 : xk_ok 6 (RX6, TX6, 2) := ⟨rfl, by decide +kernel, xk_w6, ⟨tyX6, tyX6_ok⟩, nmX6, by decide +kernel⟩
theorem xk_w7 : ∀ w ∈ u_ws RX7 TX7 2, w ∈ lw_tbl := by
  intro w hw
  obtain ⟨k, hk, rfl⟩ := List.mem_map.mp hw
  have hk := List.mem_range.mp hk
  match k, hk with
  | 0, _ => exact List.mem_append_right _ (List.mem_append_left _ (List.mem_of_getElem? (i := 56) rfl))
  | 1, _ => exact List.mem_append_right _ (List.mem_append_left _ (List.mem_of_getElem? (i := 58) rfl))
  | n + 2, h => exact absurd h (by omega)
theorem xk_7 : xk_ok 7 (RX7, TX7, 2) := ⟨rfl, by decide +kernel, xk_w7, ⟨tyX7, tyX7_ok⟩, nmX7, by decide +kernel⟩
theorem xk_w8 : ∀ w ∈ u_ws RX8 TX8 4, w ∈ lw_tbl := by
  intro w hw
  obtain ⟨k, hk, rfl⟩ := List.mem_map.mp hw
  have hk := List.mem_range.mp hk
  match k, hk with
  | 0, _ => exact List.mem_append_right _ (List.mem_append_right _ (List.mem_append_left _ (List.mem_of_getElem? (i := 16) rfl)))
  | 1, _ => exact List.mem_append_right _ (List.mem_append_right _ (List.mem_append_left _ (List.mem_of_getElem? (i := 18) rfl)))
  | 2, _ => exact List.mem_append_right _ (List.mem_append_right _ (List.mem_append_left _ (List.mem_of_getElem? (i := 20) rfl)))
  | 3, _ => exact List.mem_append_right _ (List.mem_append_right _ (List.mem_append_left _ (List.mem_of_getElem? (i := 22) rfl)))
  | n + 4, h => exact absurd h (by omega)
theorem xk_8 : xk_ok 8 (RX8, TX8, 4) := ⟨rfl, by decide +kernel, xk_w8, ⟨tyX8, tyX8_ok⟩, nmX8, by decide +kernel⟩
theorem xk_w9 : ∀ w ∈ u_ws RX9 TX9 3, w ∈ lw_tbl := by
  intro w hw
  obtain ⟨k, hk, rfl⟩ := List.mem_map.mp hw
  have hk := List.mem_range.mp hk
  match k, hk with
  | 0, _ => exact List.mem_append_right _ (List.mem_append_left _ (List.mem_of_getElem? (i := 40) rfl))
  | 1, _ => exact List.mem_append_right _ (List.mem_append_left _ (List.mem_of_getElem? (i := 42) rfl))
  | 2, _ => exact List.mem_append_right _ (List.mem_append_left _ (List.mem_of_getElem? (i := 44) rfl))
  | n + 3, h => exact absurd h (by omega)
theorem xk_9 : xk_ok 9 (RX9, TX9, 3) := ⟨rfl, by decide +kernel, xk_w9, ⟨tyX9, tyX9_ok⟩, nmX9, by decide +kernel⟩
theorem xk_w10 : ∀ w ∈ u_ws RX10 TX10 10, w ∈ lw_tbl := by
  intro w hw
  obtain ⟨k, hk, rfl⟩ := List.mem_map.mp hw
  have hk := List.mem_range.mp hk
  match k, hk with
  | 0, _ => exact List.mem_append_right _ (List.mem_append_left _ (List.mem_of_getElem? (i := 88) rfl))
  | 1, _ => exact List.mem_append_right _ (List.mem_append_left _ (List.mem_of_getElem? (i := 90) rfl))
  | 2, _ => exact List.mem_append_right _ (List.mem_append_left _ (List.mem_of_getElem? (i := 92) rfl))
  | 3, _ => exact List.mem_append_right _ (List.mem_append_left _ (List.mem_of_getElem? (i := 94) rfl))
  | 4, _ => exact List.mem_append_right _ (List.mem_append_left _ (List.mem_of_getElem? (i := 96) rfl))
  | 5, _ => exact List.mem_append_right _ (List.mem_append_left _ (List.mem_of_getElem? (i := 98) rfl))
  | 6, _ => exact List.mem_append_right _ (List.mem_append_left _ (List.mem_of_getElem? (i := 100) rfl))
  | 7, _ => exact List.mem_append_right _ (List.mem_append_left _ (List.mem_of_getElem? (i := 102) rfl))
  | 8, _ => exact List.mem_append_right _ (List.mem_append_left _ (List.mem_of_getElem? (i := 104) rfl))
  | 9, _ => exact List.mem_append_right _ (List.mem_append_left _ (List.mem_of_getElem? (i := 106) rfl))
  | n + 10, h => exact absurd h (by omega)
theorem xk_10 : xk_ok 10 (RX10, TX10, 10) := ⟨rfl, by decide +kernel, xk_w10, ⟨tyX10, tyX10_ok⟩, nmX10, by decide +kernel⟩
theorem xk_w11 : ∀ w ∈ u_ws RX11 TX11 13, w ∈ lw_tbl := by
  intro w hw
  obtain ⟨k, hk, rfl⟩ := List.mem_map.mp hw
  have hk := List.mem_range.mp hk
  match k, hk with
  | 0, _ => exact List.mem_append_right _ (List.mem_append_right _ (List.mem_append_left _ (List.mem_of_getElem? (i := 164) rfl)))
  | 1, _ => exact List.mem_append_right _ (List.mem_append_right _ (List.mem_append_left _ (List.mem_of_getElem? (i := 166) rfl)))
  | 2, _ => exact List.mem_append_right _ (List.mem_append_right _ (List.mem_append_left _ (List.mem_of_getElem? (i := 168) rfl)))
  | 3, _ => exact List.mem_append_right _ (List.mem_append_right _ (List.mem_append_left _ (List.mem_of_getElem? (i := 170) rfl)))
  | 4, _ => exact List.mem_append_right _ (List.mem_append_right _ (List.mem_append_left _ (List.mem_of_getElem? (i := 172) rfl)))
  | 5, _ => exact List.mem_append_right _ (List.mem_append_right _ (List.mem_append_left _ (List.mem_of_getElem? (i := 174) rfl)))
  | 6, _ => exact List.mem_append_right _ (List.mem_append_right _ (List.mem_append_left _ (List.mem_of_getElem? (i := 176) rfl)))
  | 7, _ => exact List.mem_append_right _ (List.mem_append_right _ (List.mem_append_left _ (List.mem_of_getElem? (i := 178) rfl)))
  | 8, _ => exact List.mem_append_right _ (List.mem_append_right _ (List.mem_append_left _ (List.mem_of_getElem? (i := 180) rfl)))
  | 9, _ => exact List.mem_append_right _ (List.mem_append_right _ (List.mem_append_left _ (List.mem_of_getElem? (i := 182) rfl)))
  | 10, _ => exact List.mem_append_right _ (List.mem_append_right _ (List.mem_append_left _ (List.mem_of_getElem? (i := 184) rfl)))
  | 11, _ => exact List.mem_append_right _ (List.mem_append_right _ (List.mem_append_left _ (List.mem_of_getElem? (i := 186) rfl)))
  | 12, _ => exact List.mem_append_right _ (List.mem_append_right _ (List.mem_append_left _ (List.mem_of_getElem? (i := 188) rfl)))
  | n + 13, h => exact absurd h (by omega)
theorem xk_11 : xk_ok 11 (RX11, TX11, 13) := ⟨rfl, by decide +kernel, xk_w11, ⟨tyX11, tyX11_ok⟩, nmX11, by decide +kernel⟩
theorem xk_w12 : ∀ w ∈ u_ws RX12 TX12 64, w ∈ lw_tbl := by
  intro w hw
  obtain ⟨k, hk, rfl⟩ := List.mem_map.mp hw
  have hk := List.mem_range.mp hk
  match k, hk with
  | 0, _ => exact List.mem_append_right _ (List.mem_append_right _ (List.mem_append_right _ (List.mem_append_right _ (List.mem_append_right _ (List.mem_append_right _ (List.mem_append_left _ (List.mem_of_getElem? (i := 32) rfl)))))))
  | 1, _ => exact List.mem_append_right _ (List.mem_append_right _ (List.mem_append_right _ (List.mem_append_right _ (List.mem_append_right _ (List.mem_append_right _ (List.mem_append_left _ (List.mem_of_getElem? (i := 34) rfl)))))))
  | 2, _ => exact List.mem_append_right _ (List.mem_append_right _ (List.mem_append_right _ (List.mem_append_right _ (List.mem_append_right _ (List.mem_append_right _ (List.mem_append_left _ (List.mem_of_getElem? (i := 36) rfl)))))))
  | 3, _ => exact List.mem_append_right _ (List.mem_append_right _ (List.mem_append_right _ (List.mem_append_right _ (List.mem_append_right _ (List.mem_append_right _ (List.mem_append_left _ (List.mem_of_getElem? (i := 38) rfl)))))))
  | 4, _ => exact List.mem_append_right _ (List.mem_append_right _ (List.mem_append_right _ (List.mem_append_right _ (List.mem_append_right _ (List.mem_append_right _ (List.mem_append_left _ (List.mem_of_getElem? (i := 40) rfl)))))))
  | 5, _ => exact List.mem_append_right _ (List.mem_append_right _ (List.mem_append_right _ (List.mem_append_right _ (List.mem_append_right _ (List.mem_append_right _ (List.mem_append_left _ (List.mem_of_getElem? (i := 42) rfl)))))))
  | 6, _ => exact List.mem_append_right _ (List.mem_append_right _ (List.mem_append_right _ (List.mem_append_right _ (List.mem_append_right _ (List.mem_append_right _ (List.mem_append_left _ (List.mem_of_getElem? (i := 44) rfl)))))))
  | 7, _ => exact List.mem_append_right _ (List.mem_append_right _ (List.mem_append_right _ (List.mem_append_right _ (List.mem_append_right _ (List.mem_append_right _ (List.mem_append_left _ (List.mem_of_getElem? (i := 46) rfl)))))))
  | 8, _ => exact List.mem_append_right _ (List.mem_append_right _ (List.mem_append_right _ (List.mem_append_right _ (List.mem_append_right _ (List.mem_append_right _ (List.mem_append_left _ (List.mem_of_getElem? (i := 48) rfl)))))))
  | 9, _ => exact List.mem_append_right _ (List.mem_append_right _ (List.mem_append_right _ (List.mem_append_right _ (List.mem_append_right _ (List.mem_append_right _ (List.mem_append_left _ (List.mem_of_getElem? (i := 50) rfl)))))))
  | 10, _ => exact List.mem_append_right _ (List.mem_append_right _ (List.mem_append_right _ (List.mem_append_right _ (List.mem_append_right _ (List.mem_append_right _ (List.mem_append_left _ (List.mem_of_getElem? (i := 52) rfl)))))))
  | 11, _ => exact List.mem_append_right _ (List.mem_append_right _ (List.mem_append_right _ (List.mem_append_right _ (List.mem_append_right _ (List.mem_append_right _ (List.mem_append_left _ (List.mem_of_getElem? (i := 54) rfl)))))))
  | 12, _ => exact List.mem_append_right _ (List.mem_append_right _ (List.mem_append_right _ (List.mem_append_right _ (List.mem_append_right _ (List.mem_append_right _ (List.mem_append_left _ (List.mem_of_getElem? (i := 56) rfl)))))))
  | 13, _ => exact List.mem_append_right _ (List.mem_append_right _ (List.mem_append_right _ (List.mem_append_right _ (List.mem_append_right _ (List.mem_append_right _ (List.mem_append_left _ (List.mem_of_getElem? (i := 58) rfl)))))))
  | 14, _ => exact List.mem_append_right _ (List.mem_append_right _ (List.mem_append_right _ (List.mem_append_right _ (List.mem_append_right _ (List.mem_append_right _ (List.mem_append_left _ (List.mem_of_getElem? (i := 60) rfl)))))))
  | 15, _ => exact List.mem_append_right _ (List.mem_append_right _ (List.mem_append_right _ (List.mem_append_right _ (List.mem_append_right _ (List.mem_append_right _ (List.mem_append_left _ (List.mem_of_getElem? (i := 62) rfl)))))))
  | 16, _ => exact List.mem_append_right _ (List.mem_append_right _ (List.mem_append_right _ (List.mem_append_right _ (List.mem_append_right _ (List.mem_append_right _ (List.mem_append_left _ (List.mem_of_getElem? (i := 64) rfl)))))))
  | 17, _ => exact List.mem_append_right _ (List.mem_append_right _ (List.mem_append_right _ (List.mem_append_right _ (List.mem_append_right _ (List.mem_append_right _ (List.mem_append_left _ (List.mem_of_getElem? (i := 66) rfl)))))))
  | 18, _ => exact List.mem_append_right _ (List.mem_append_right _ (List.mem_append_right _ (List.mem_append_right _ (List.mem_append_right _ (List.mem_append_right _ (List.mem_append_left _ (List.mem_of_getElem? (i := 68) rfl)))))))
  | 19, _ => exact List.mem_append_right _ (List.mem_append_right _ (List.mem_append_right _ (List.mem_append_right _ (List.mem_append_right _ (List.mem_append_right _ (List.mem_append_left _ (List.mem_of_getElem? (i := 70) rfl)))))))
  | 20, _ => exact List.mem_append_right _ (List.mem_append_right _ (List.mem_append_right _ (List.mem_append_right _ (List.mem_append_right _ (List.mem_append_right _ (List.mem_append_left _ (List.mem_of_getElem? (i := 72) rfl)))))))
  | 21, _ => exact List.mem_append_right _ (List.mem_append_right _ (List.mem_append_right _ (List.mem_append_right _ (List.mem_append_right _ (List.mem_append_right _ (List.mem_append_left _ (List.mem_of_getElem? (i := 74) rfl)))))))
  | 22, _ => exact List.mem_append_right _ (List.mem_append_right _ (List.mem_append_right _ (List.mem_append_right _ (List.mem_append_right _ (List.mem_append_right _ (List.mem_append_left _ (List.mem_of_getElem? (i := 76) rfl)))))))
  | 23, _ => exact List.mem_append_right _ (List.mem_append_right _ (List.mem_append_right _ (List.mem_append_right _ (List.mem_append_right _ (List.mem_append_right _ (List.mem_append_left _ (List.mem_of_getElem? (i := 78) rfl)))))))
  | 24, _ => exact List.mem_append_right _ (List.mem_append_right _ (List.mem_append_right _ (List.mem_append_right _ (List.mem_append_right _ (List.mem_append_right _ (List.mem_append_left _ (List.mem_of_getElem? (i := 80) rfl)))))))
  | 25, _ => exact List.mem_append_right _ (List.mem_append_right _ (List.mem_append_right _ (List.mem_append_right _ (List.mem_append_right _ (List.mem_append_right _ (List.mem_append_left _ (List.mem_of_getElem? (i := 82) rfl)))))))
  | 26, _ => exact List.mem_append_right _ (List.mem_append_right _ (List.mem_append_right _ (List.mem_append_right _ (List.mem_append_right _ (List.mem_append_right _ (List.mem_append_left _ (List.mem_of_getElem? (i := 84) rfl)))))))
  | 27, _ => exact List.mem_append_right _ (List.mem_append_right _ (List.mem_append_right _ (List.mem_append_right _ (List.mem_append_right _ (List.mem_append_right _ (List.mem_append_left _ (List.mem_of_getElem? (i := 86) rfl)))))))
  | 28, _ => exact List.mem_append_right _ (List.mem_append_right _ (List.mem_append_right _ (List.mem_append_right _ (List.mem_append_right _ (List.mem_append_right _ (List.mem_append_left _ (List.mem_of_getElem? (i := 88) rfl)))))))
  | 29, _ => exact List.mem_append_right _ (List.mem_append_right _ (List.mem_append_right _ (List.mem_append_right _ (List.mem_append_right _ (List.mem_append_right _ (List.mem_append_left _ (List.mem_of_getElem? (i := 90) rfl)))))))
  | 30, _ => exact List.mem_append_right _ (List.mem_append_right _ (List.mem_append_right _ (List.mem_append_right _ (List.mem_append_right _ (List.mem_append_right _ (List.mem_append_left _ (List.mem_of_getElem? (i := 92) rfl)))))))
  | 31, _ => exact List.mem_append_right _ (List.mem_append_right _ (List.mem_append_right _ (List.mem_append_right _ (List.mem_append_right _ (List.mem_append_right _ (List.mem_append_left _ (List.mem_of_getElem? (i := 94) rfl)))))))
  | 32, _ => exact List.mem_append_right _ (List.mem_append_right _ (List.mem_append_right _ (List.mem_append_right _ (List.mem_append_right _ (List.mem_append_right _ (List.mem_append_left _ (List.mem_of_getElem? (i := 96) rfl)))))))
  | 33, _ => exact List.mem_append_right _ (List.mem_append_right _ (List.mem_append_right _ (List.mem_append_right _ (List.mem_append_right _ (List.mem_append_right _ (List.mem_append_left _ (List.mem_of_getElem? (i := 98) rfl)))))))
  | 34, _ => exact List.mem_append_right _ (List.mem_append_right _ (List.mem_append_right _ (List.mem_append_right _ (List.mem_append_right _ (List.mem_append_right _ (List.mem_append_left _ (List.mem_of_getElem? (i := 100) rfl)))))))
  | 35, _ => exact List.mem_append_right _ (List.mem_append_right _ (List.mem_append_right _ (List.mem_append_right _ (List.mem_append_right _ (List.mem_append_right _ (List.mem_append_left _ (List.mem_of_getElem? (i := 102) rfl)))))))
  | 36, _ => exact List.mem_append_right _ (List.mem_append_right _ (List.mem_append_right _ (List.mem_append_right _ (List.mem_append_right _ (List.mem_append_right _ (List.mem_append_left _ (List.mem_of_getElem? (i := 104) rfl)))))))
  | 37, _ => exact List.mem_append_right _ (List.mem_append_right _ (List.mem_append_right _ (List.mem_append_right _ (List.mem_append_right _ (List.mem_append_right _ (List.mem_append_left _ (List.mem_of_getElem? (i := 106) rfl)))))))
  | 38, _ => exact List.mem_append_right _ (List.mem_append_right _ (List.mem_append_right _ (List.mem_append_right _ (List.mem_append_right _ (List.mem_append_right _ (List.mem_append_left _ (List.mem_of_getElem? (i := 108) rfl)))))))
  | 39, _ => exact List.mem_append_right _ (List.mem_append_right _ (List.mem_append_right _ (List.mem_append_right _ (List.mem_append_right _ (List.mem_append_right _ (List.mem_append_left _ (List.mem_of_getElem? (i := 110) rfl)))))))
  | 40, _ => exact List.mem_append_right _ (List.mem_append_right _ (List.mem_append_right _ (List.mem_append_right _ (List.mem_append_right _ (List.mem_append_right _ (List.mem_append_left _ (List.mem_of_getElem? (i := 112) rfl)))))))
  | 41, _ => exact List.mem_append_right _ (List.mem_append_right _ (List.mem_append_right _ (List.mem_append_right _ (List.mem_append_right _ (List.mem_append_right _ (List.mem_append_left _ (List.mem_of_getElem? (i := 114) rfl)))))))
  | 42, _ => exact List.mem_append_right _ (List.mem_append_right _ (List.mem_append_right _ (List.mem_append_right _ (List.mem_append_right _ (List.mem_append_right _ (List.mem_append_left _ (List.mem_of_getElem? (i := 116) rfl)))))))
  | 43, _ => exact List.mem_append_right _ (List.mem_append_right _ (List.mem_append_right _ (List.mem_append_right _ (List.mem_append_right _ (List.mem_append_right _ (List.mem_append_left _ (List.mem_of_getElem? (i := 118) rfl)))))))
  | 44, _ => exact List.mem_append_right _ (List.mem_append_right _ (List.mem_append_right _ (List.mem_append_right _ (List.mem_append_right _ (List.mem_append_right _ (List.mem_append_left _ (List.mem_of_getElem? (i := 120) rfl)))))))
  | 45, _ => exact List.mem_append_right _ (List.mem_append_right _ (List.mem_append_right _ (List.mem_append_right _ (List.mem_append_right _ (List.mem_append_right _ (List.mem_append_left _ (List.mem_of_getElem? (i := 122) rfl)))))))
  | 46, _ => exact List.mem_append_right _ (List.mem_append_right _ (List.mem_append_right _ (List.mem_append_right _ (List.mem_append_right _ (List.mem_append_right _ (List.mem_append_left _ (List.mem_of_getElem? (i := 124) rfl)))))))
  | 47, _ => exact List.mem_append_right _ (List.mem_append_right _ (List.mem_append_right _ (List.mem_append_right _ (List.mem_append_right _ (List.mem_append_right _ (List.mem_append_left _ (List.mem_of_getElem? (i := 126) rfl)))))))
  | 48, _ => exact List.mem_append_right _ (List.mem_append_right _ (List.mem_append_right _ (List.mem_append_right _ (List.mem_append_right _ (List.mem_append_right _ (List.mem_append_left _ (List.mem_of_getElem? (i := 128) rfl)))))))
  | 49, _ => exact List.mem_append_right _ (List.mem_append_right _ (List.mem_append_right _ (List.mem_append_right _ (List.mem_append_right _ (List.mem_append_right _ (List.mem_append_left _ (List.mem_of_getElem? (i := 130) rfl)))))))
  | 50, _ => exact List.mem_append_right _ (List.mem_append_right _ (List.mem_append_right _ (List.mem_append_right _ (List.mem_append_right _ (List.mem_append_right _ (List.mem_append_left _ (List.mem_of_getElem? (i := 132) rfl)))))))
  | 51, _ => exact List.mem_append_right _ (List.mem_append_right _ (List.mem_append_right _ (List.mem_append_right _ (List.mem_append_right _ (List.mem_append_right _ (List.mem_append_left _ (List.mem_of_getElem? (i := 134) rfl)))))))
  | 52, _ => exact List.mem_append_right _ (List.mem_append_right _ (List.mem_append_right _ (List.mem_append_right _ (List.mem_append_right _ (List.mem_append_right _ (List.mem_append_left _ (List.mem_of_getElem? (i := 136) rfl)))))))
  | 53, _ => exact List.mem_append_right _ (List.mem_append_right _ (List.mem_append_right _ (List.mem_append_right _ (List.mem_append_right _ (List.mem_append_right _ (List.mem_append_left _ (List.mem_of_getElem? (i := 138) rfl)))))))
  | 54, _ => exact List.mem_append_right _ (List.mem_append_right _ (List.mem_append_right _ (List.mem_append_right _ (List.mem_append_right _ (List.mem_append_right _ (List.mem_append_left _ (List.mem_of_getElem? (i := 140) rfl)))))))
  | 55, _ => exact List.mem_append_right _ (List.mem_append_right _ (List.mem_append_right _ (List.mem_append_right _ (List.mem_append_right _ (List.mem_append_right _ (List.mem_append_left _ (List.mem_of_getElem? (i := 142) rfl)))))))
  | 56, _ => exact List.mem_append_right _ (List.mem_append_right _ (List.mem_append_right _ (List.mem_append_right _ (List.mem_append_right _ (List.mem_append_right _ (List.mem_append_left _ (List.mem_of_getElem? (i := 144) rfl)))))))
  | 57, _ => exact List.mem_append_right _ (List.mem_append_right _ (List.mem_append_right _ (List.mem_append_right _ (List.mem_append_right _ (List.mem_append_right _ (List.mem_append_left _ (List.mem_of_getElem? (i := 146) rfl)))))))
  | 58, _ => exact List.mem_append_right _ (List.mem_append_right _ (List.mem_append_right _ (List.mem_append_right _ (List.mem_append_right _ (List.mem_append_right _ (List.mem_append_left _ (List.mem_of_getElem? (i := 148) rfl)))))))
  | 59, _ => exact List.mem_append_right _ (List.mem_append_right _ (List.mem_append_right _ (List.mem_append_right _ (List.mem_append_right _ (List.mem_append_right _ (List.mem_append_left _ (List.mem_of_getElem? (i := 150) rfl)))))))
  | 60, _ => exact List.mem_append_right _ (List.mem_append_right _ (List.mem_append_right _ (List.mem_append_right _ (List.mem_append_right _ (List.mem_append_right _ (List.mem_append_left _ (List.mem_of_getElem? (i := 152) rfl)))))))
  | 61, _ => exact List.mem_append_right _ (List.mem_append_right _ (List.mem_append_right _ (List.mem_append_right _ (List.mem_append_right _ (List.mem_append_right _ (List.mem_append_left _ (List.mem_of_getElem? (i := 154) rfl)))))))
  | 62, _ => exact List.mem_append_right _ (List.mem_append_right _ (List.mem_append_right _ (List.mem_append_right _ (List.mem_append_right _ (List.mem_append_right _ (List.mem_append_left _ (List.mem_of_getElem? (i := 156) rfl)))))))
  | 63, _ => exact List.mem_append_right _ (List.mem_append_right _ (List.mem_append_right _ (List.mem_append_right _ (List.mem_append_right _ (List.mem_append_right _ (List.mem_append_left _ (List.mem_of_getElem? (i := 158) rfl)))))))
  | n + 64, h => exact absurd h (by omega)
theorem xk_12 : xk_ok 12 (RX12, TX12, 64) := ⟨rfl, by decide +kernel, xk_w12, ⟨tyX12, tyX12_ok⟩, nmX12, by decide +kernel⟩
theorem xk_all {a : Nat} (h : a < 13) : ∃ q : vw_C, xCls[a]? = some q ∧ xk_ok a q := by
  match a, h with
  | 0, _ => exact ⟨_, rfl, xk_0⟩
  | 1, _ => exact ⟨_, rfl, xk_1⟩
  | 2, _ => exact ⟨_, rfl, xk_2⟩
  | 3, _ => exact ⟨_, rfl, xk_3⟩
  | 4, _ => exact ⟨_, rfl, xk_4⟩
  | 5, _ => exact ⟨_, rfl, xk_5⟩
  | 6, _ => exact ⟨_, rfl, xk_6⟩
  | 7, _ => exact ⟨_, rfl, xk_7⟩
  | 8, _ => exact ⟨_, rfl, xk_8⟩
  | 9, _ => exact ⟨_, rfl, xk_9⟩
  | 10, _ => exact ⟨_, rfl, xk_10⟩
  | 11, _ => exact ⟨_, rfl, xk_11⟩
  | 12, _ => exact ⟨_, rfl, xk_12⟩
  | n + 13, h => exact absurd h (by omega)
