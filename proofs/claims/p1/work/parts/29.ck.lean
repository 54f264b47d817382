theorem zl_ck_feed (x1 x2 x3 x4 x5 : Int32) : ∃ a1 a2 a3 a4 a5 : zV, ((∀ (ad : Nat → Nat) (bn : Nat), zG ad bn a1 (.int x1)) ∧ (∀ (ad : Nat → Nat) (bn : Nat), zG ad bn a2 (.int x2)) ∧ (∀ (ad : Nat → Nat) (bn : Nat), zG ad bn a3 (.int x3)) ∧ (∀ (ad : Nat → Nat) (bn : Nat), zG ad bn a4 (.int x4)) ∧ (∀ (ad : Nat → Nat) (bn : Nat), zG ad bn a5 (.int x5))) ∧ zq 60 [(0, zRef (some 0)), (1, a1), (2, a2), (3, a3), (4, a4), (5, a5)] zh0 (zThen 104 [(0, zRef (some 102)), (1, a1), (2, a2), (3, a3), (4, a4), (5, a5)]) = true := ⟨zAny, zAny, zAny, zAny, zAny, ⟨fun ad bn => zG_any x1, fun ad bn => zG_any x2, fun ad bn => zG_any x3, fun ad bn => zG_any x4, fun ad bn => zG_any x5⟩, zk_feed⟩
theorem zl_ck_end (x1 : Int32) : ∃ a1 : zV, ((∀ (ad : Nat → Nat) (bn : Nat), zG ad bn a1 (.int x1))) ∧ zq 58 [(0, zRef (some 0)), (1, a1)] zh0 (zThen 102 [(0, zRef (some 102)), (1, a1)]) = true := by
  have hm := zB_max x1
  rcases (show (2147483648 ≤ zB x1 ∧ zB x1 ≤ 2147483648) ∨ (0 ≤ zB x1 ∧ zB x1 ≤ 2147483647) ∨ (2147483649 ≤ zB x1 ∧ zB x1 ≤ 4294967295) by omega) with h | h | h
  · exact ⟨.inl 0, fun ad bn => by show Value.int x1 = .int (nI 0); rw [show x1 = nI 0 from zB_eq.mpr (by rw [zB_nI]; omega)], zk_end_0⟩
  · exact ⟨.inr (.inl (0, 2147483647)), fun ad bn => ⟨x1, rfl, by omega, by omega⟩, zk_end_1⟩
  · exact ⟨.inr (.inl (2147483649, 4294967295)), fun ad bn => ⟨x1, rfl, by omega, by omega⟩, zk_end_2⟩
theorem zl_ck_way (x1 x2 : Int32) : ∃ a1 a2 : zV, ((∀ (ad : Nat → Nat) (bn : Nat), zG ad bn a1 (.int x1)) ∧ (∀ (ad : Nat → Nat) (bn : Nat), zG ad bn a2 (.int x2))) ∧ zq 89 [(0, zRef (some 0)), (1, a1), (2, a2)] zh0 (zThen 151 [(0, zRef (some 102)), (1, a1), (2, a2)]) = true := by
  have hm := zB_max x1
  rcases (show (0 ≤ zB x1 ∧ zB x1 ≤ 2147483647) ∨ (2147483648 ≤ zB x1 ∧ zB x1 ≤ 4294967295) by omega) with h | h
  · exact ⟨.inr (.inl (0, 2147483647)), zAny, ⟨fun ad bn => ⟨x1, rfl, by omega, by omega⟩, fun ad bn => zG_any x2⟩, zk_way_0⟩
  · exact ⟨.inr (.inl (2147483648, 4294967295)), zAny, ⟨fun ad bn => ⟨x1, rfl, by omega, by omega⟩, fun ad bn => zG_any x2⟩, zk_way_1⟩
theorem zl_ck_next (x1 : Int32) : ∃ a1 : zV, ((∀ (ad : Nat → Nat) (bn : Nat), zG ad bn a1 (.int x1))) ∧ zq 74 [(0, zRef (some 0)), (1, a1)] zh0 (zThen 126 [(0, zRef (some 102)), (1, a1)]) = true := by
  have hm := zB_max x1
  rcases (show (0 ≤ zB x1 ∧ zB x1 ≤ 2147483647) ∨ (2147483648 ≤ zB x1 ∧ zB x1 ≤ 4294967295) by omega) with h | h
  · exact ⟨.inr (.inl (0, 2147483647)), fun ad bn => ⟨x1, rfl, by omega, by omega⟩, zk_next_0⟩
  · exact ⟨.inr (.inl (2147483648, 4294967295)), fun ad bn => ⟨x1, rfl, by omega, by omega⟩, zk_next_1⟩
theorem zl_ck_order (x1 : Int32) : ∃ a1 : zV, ((∀ (ad : Nat → Nat) (bn : Nat), zG ad bn a1 (.int x1))) ∧ zq 79 [(0, zRef (some 0)), (1, a1)] zh0 (zThen 132 [(0, zRef (some 102)), (1, a1)]) = true := by
  have hm := zB_max x1
  rcases (show (0 ≤ zB x1 ∧ zB x1 ≤ 2147483647) ∨ (2147483648 ≤ zB x1 ∧ zB x1 ≤ 4294967295) by omega) with h | h
  · exact ⟨.inr (.inl (0, 2147483647)), fun ad bn => ⟨x1, rfl, by omega, by omega⟩, zk_order_0⟩
  · exact ⟨.inr (.inl (2147483648, 4294967295)), fun ad bn => ⟨x1, rfl, by omega, by omega⟩, zk_order_1⟩
theorem zl_on_k : ∀ k : Nat, k < 100 → zq 77 [(0, zRef (some 0)), (1, .inl (k + 1))] zh0 (zThen 129 [(0, zRef (some 102)), (1, .inl (k + 1))]) = true := by
  intro k hk
  match k, hk with
  | 0, _ => exact zk_on_2
  | 1, _ => exact zk_on_3
  | 2, _ => exact zk_on_4
  | 3, _ => exact zk_on_5
  | 4, _ => exact zk_on_6
  | 5, _ => exact zk_on_7
  | 6, _ => exact zk_on_8
  | 7, _ => exact zk_on_9
  | 8, _ => exact zk_on_10
  | 9, _ => exact zk_on_11
  | 10, _ => exact zk_on_12
  | 11, _ => exact zk_on_13
  | 12, _ => exact zk_on_14
  | 13, _ => exact zk_on_15
  | 14, _ => exact zk_on_16
  | 15, _ => exact zk_on_17
  | 16, _ => exact zk_on_18
  | 17, _ => exact zk_on_19
  | 18, _ => exact zk_on_20
  | 19, _ => exact zk_on_21
  | 20, _ => exact zk_on_22
  | 21, _ => exact zk_on_23
  | 22, _ => exact zk_on_24
  | 23, _ => exact zk_on_25
  | 24, _ => exact zk_on_26
  | 25, _ => exact zk_on_27
  | 26, _ => exact zk_on_28
  | 27, _ => exact zk_on_29
  | 28, _ => exact zk_on_30
  | 29, _ => exact zk_on_31
  | 30, _ => exact zk_on_32
  | 31, _ => exact zk_on_33
  | 32, _ => exact zk_on_34
  | 33, _ => exact zk_on_35
  | 34, _ => exact zk_on_36
  | 35, _ => exact zk_on_37
  | 36, _ => exact zk_on_38
  | 37, _ => exact zk_on_39
  | 38, _ => exact zk_on_40
  | 39, _ => exact zk_on_41
  | 40, _ => exact zk_on_42
  | 41, _ => exact zk_on_43
  | 42, _ => exact zk_on_44
  | 43, _ => exact zk_on_45
  | 44, _ => exact zk_on_46
  | 45, _ => exact zk_on_47
  | 46, _ => exact zk_on_48
  | 47, _ => exact zk_on_49
  | 48, _ => exact zk_on_50
  | 49, _ => exact zk_on_51
  | 50, _ => exact zk_on_52
  | 51, _ => exact zk_on_53
  | 52, _ => exact zk_on_54
  | 53, _ => exact zk_on_55
  | 54, _ => exact zk_on_56
  | 55, _ => exact zk_on_57
  | 56, _ => exact zk_on_58
  | 57, _ => exact zk_on_59
  | 58, _ => exact zk_on_60
  | 59, _ => exact zk_on_61
  | 60, _ => exact zk_on_62
  | 61, _ => exact zk_on_63
  | 62, _ => exact zk_on_64
  | 63, _ => exact zk_on_65
  | 64, _ => exact zk_on_66
  | 65, _ => exact zk_on_67
  | 66, _ => exact zk_on_68
  | 67, _ => exact zk_on_69
  | 68, _ => exact zk_on_70
  | 69, _ => exact zk_on_71
  | 70, _ => exact zk_on_72
  | 71, _ => exact zk_on_73
  | 72, _ => exact zk_on_74
  | 73, _ => exact zk_on_75
  | 74, _ => exact zk_on_76
  | 75, _ => exact zk_on_77
  | 76, _ => exact zk_on_78
  | 77, _ => exact zk_on_79
  | 78, _ => exact zk_on_80
  | 79, _ => exact zk_on_81
  | 80, _ => exact zk_on_82
  | 81, _ => exact zk_on_83
  | 82, _ => exact zk_on_84
  | 83, _ => exact zk_on_85
  | 84, _ => exact zk_on_86
  | 85, _ => exact zk_on_87
  | 86, _ => exact zk_on_88
  | 87, _ => exact zk_on_89
  | 88, _ => exact zk_on_90
  | 89, _ => exact zk_on_91
  | 90, _ => exact zk_on_92
  | 91, _ => exact zk_on_93
  | 92, _ => exact zk_on_94
  | 93, _ => exact zk_on_95
  | 94, _ => exact zk_on_96
  | 95, _ => exact zk_on_97
  | 96, _ => exact zk_on_98
  | 97, _ => exact zk_on_99
  | 98, _ => exact zk_on_100
  | 99, _ => exact zk_on_101
  | k + 100, h => exact absurd h (by omega)
theorem zl_ck_on (x1 : Int32) : ∃ a1 : zV, ((∀ (ad : Nat → Nat) (bn : Nat), zG ad bn a1 (.int x1))) ∧ zq 77 [(0, zRef (some 0)), (1, a1)] zh0 (zThen 129 [(0, zRef (some 102)), (1, a1)]) = true := by
  have hm := zB_max x1
  by_cases h1 : zB x1 ≤ 2147483648
  · exact ⟨.inr (.inl (0, 2147483648)), fun ad bn => ⟨x1, rfl, by omega, by omega⟩, zk_on_0⟩
  · by_cases h2 : 2147483749 ≤ zB x1
    · exact ⟨.inr (.inl (2147483749, 4294967295)), fun ad bn => ⟨x1, rfl, by omega, by omega⟩, zk_on_1⟩
    · obtain ⟨k, hk⟩ : ∃ k, zB x1 = 2147483649 + k := ⟨zB x1 - 2147483649, by omega⟩
      refine ⟨.inl (k + 1), fun ad bn => ?_, zl_on_k k (by omega)⟩
      show Value.int x1 = .int (nI (k + 1))
      rw [show x1 = nI (k + 1) from zB_eq.mpr (by rw [zB_nI]; omega)]
theorem zl_ck_now (x1 : Int32) : ∃ a1 : zV, ((∀ (ad : Nat → Nat) (bn : Nat), zG ad bn a1 (.int x1))) ∧ zq 75 [(0, zRef (some 0)), (1, a1)] zh0 (zThen 127 [(0, zRef (some 102)), (1, a1)]) = true := by
  have hm := zB_max x1
  rcases (show (2147483648 ≤ zB x1 ∧ zB x1 ≤ 2147483648) ∨ (2147483649 ≤ zB x1 ∧ zB x1 ≤ 2147483649) ∨ (2147483650 ≤ zB x1 ∧ zB x1 ≤ 2147483650) ∨ (2147483651 ≤ zB x1 ∧ zB x1 ≤ 2147483651) ∨ (2147483652 ≤ zB x1 ∧ zB x1 ≤ 2147483652) ∨ (2147483653 ≤ zB x1 ∧ zB x1 ≤ 2147483653) ∨ (0 ≤ zB x1 ∧ zB x1 ≤ 2147483647) ∨ (2147483654 ≤ zB x1 ∧ zB x1 ≤ 4294967295) by omega) with h | h | h | h | h | h | h | h
  · exact ⟨.inl 0, fun ad bn => by show Value.int x1 = .int (nI 0); rw [show x1 = nI 0 from zB_eq.mpr (by rw [zB_nI]; omega)], zk_now_0⟩
  · exact ⟨.inl 1, fun ad bn => by show Value.int x1 = .int (nI 1); rw [show x1 = nI 1 from zB_eq.mpr (by rw [zB_nI]; omega)], zk_now_1⟩
  · exact ⟨.inl 2, fun ad bn => by show Value.int x1 = .int (nI 2); rw [show x1 = nI 2 from zB_eq.mpr (by rw [zB_nI]; omega)], zk_now_2⟩
  · exact ⟨.inl 3, fun ad bn => by show Value.int x1 = .int (nI 3); rw [show x1 = nI 3 from zB_eq.mpr (by rw [zB_nI]; omega)], zk_now_3⟩
  · exact ⟨.inl 4, fun ad bn => by show Value.int x1 = .int (nI 4); rw [show x1 = nI 4 from zB_eq.mpr (by rw [zB_nI]; omega)], zk_now_4⟩
  · exact ⟨.inl 5, fun ad bn => by show Value.int x1 = .int (nI 5); rw [show x1 = nI 5 from zB_eq.mpr (by rw [zB_nI]; omega)], zk_now_5⟩
  · exact ⟨.inr (.inl (0, 2147483647)), fun ad bn => ⟨x1, rfl, by omega, by omega⟩, zk_now_6⟩
  · exact ⟨.inr (.inl (2147483654, 4294967295)), fun ad bn => ⟨x1, rfl, by omega, by omega⟩, zk_now_7⟩
theorem zl_ck_met (x1 x2 : Int32) : ∃ a1 a2 : zV, ((∀ (ad : Nat → Nat) (bn : Nat), zG ad bn a1 (.int x1)) ∧ (∀ (ad : Nat → Nat) (bn : Nat), zG ad bn a2 (.int x2))) ∧ zq 73 [(0, zRef (some 0)), (1, a1), (2, a2)] zh0 (zThen 124 [(0, zRef (some 102)), (1, a1), (2, a2)]) = true := by
  have hm := zB_max x1
  rcases (show (0 ≤ zB x1 ∧ zB x1 ≤ 2147483647) ∨ (2147483648 ≤ zB x1 ∧ zB x1 ≤ 4294967295) by omega) with h | h
  · exact ⟨.inr (.inl (0, 2147483647)), zAny, ⟨fun ad bn => ⟨x1, rfl, by omega, by omega⟩, fun ad bn => zG_any x2⟩, zk_met_0⟩
  · exact ⟨.inr (.inl (2147483648, 4294967295)), zAny, ⟨fun ad bn => ⟨x1, rfl, by omega, by omega⟩, fun ad bn => zG_any x2⟩, zk_met_1⟩
theorem zl_ck_lane (x1 x2 : Int32) : ∃ a1 a2 : zV, ((∀ (ad : Nat → Nat) (bn : Nat), zG ad bn a1 (.int x1)) ∧ (∀ (ad : Nat → Nat) (bn : Nat), zG ad bn a2 (.int x2))) ∧ zq 68 [(0, zRef (some 0)), (1, a1), (2, a2)] zh0 (zThen 119 [(0, zRef (some 102)), (1, a1), (2, a2)]) = true := by
  have hm := zB_max x1
  rcases (show (0 ≤ zB x1 ∧ zB x1 ≤ 2147483647) ∨ (2147483648 ≤ zB x1 ∧ zB x1 ≤ 4294967295) by omega) with h | h
  · exact ⟨.inr (.inl (0, 2147483647)), zAny, ⟨fun ad bn => ⟨x1, rfl, by omega, by omega⟩, fun ad bn => zG_any x2⟩, zk_lane_0⟩
  · exact ⟨.inr (.inl (2147483648, 4294967295)), zAny, ⟨fun ad bn => ⟨x1, rfl, by omega, by omega⟩, fun ad bn => zG_any x2⟩, zk_lane_1⟩
theorem zl_ck_step (x1 : Int32) : ∃ a1 : zV, ((∀ (ad : Nat → Nat) (bn : Nat), zG ad bn a1 (.int x1))) ∧ zq 84 [(0, zRef (some 0)), (1, a1)] zh0 (zThen 142 [(0, zRef (some 102)), (1, a1)]) = true := by
  have hm := zB_max x1
  rcases (show (0 ≤ zB x1 ∧ zB x1 ≤ 2147483647) ∨ (2147483648 ≤ zB x1 ∧ zB x1 ≤ 4294967295) by omega) with h | h
  · exact ⟨.inr (.inl (0, 2147483647)), fun ad bn => ⟨x1, rfl, by omega, by omega⟩, zk_step_0⟩
  · exact ⟨.inr (.inl (2147483648, 4294967295)), fun ad bn => ⟨x1, rfl, by omega, by omega⟩, zk_step_1⟩
theorem zl_ck_invited (x1 : Int32) : ∃ a1 : zV, ((∀ (ad : Nat → Nat) (bn : Nat), zG ad bn a1 (.int x1))) ∧ zq 62 [(0, zRef (some 0)), (1, a1)] zh0 (zThen 108 [(0, zRef (some 102)), (1, a1)]) = true := by
  have hm := zB_max x1
  rcases (show (0 ≤ zB x1 ∧ zB x1 ≤ 2147483647) ∨ (2147483648 ≤ zB x1 ∧ zB x1 ≤ 4294967295) by omega) with h | h
  · exact ⟨.inr (.inl (0, 2147483647)), fun ad bn => ⟨x1, rfl, by omega, by omega⟩, zk_invited_0⟩
  · exact ⟨.inr (.inl (2147483648, 4294967295)), fun ad bn => ⟨x1, rfl, by omega, by omega⟩, zk_invited_1⟩
theorem zl_ck_lent (x1 x2 : Int32) : ∃ a1 a2 : zV, ((∀ (ad : Nat → Nat) (bn : Nat), zG ad bn a1 (.int x1)) ∧ (∀ (ad : Nat → Nat) (bn : Nat), zG ad bn a2 (.int x2))) ∧ zq 71 [(0, zRef (some 0)), (1, a1), (2, a2)] zh0 (zThen 123 [(0, zRef (some 102)), (1, a1), (2, a2)]) = true := by
  have hm := zB_max x1
  rcases (show (0 ≤ zB x1 ∧ zB x1 ≤ 2147483647) ∨ (2147483648 ≤ zB x1 ∧ zB x1 ≤ 4294967295) by omega) with h | h
  · exact ⟨.inr (.inl (0, 2147483647)), zAny, ⟨fun ad bn => ⟨x1, rfl, by omega, by omega⟩, fun ad bn => zG_any x2⟩, zk_lent_0⟩
  · exact ⟨.inr (.inl (2147483648, 4294967295)), zAny, ⟨fun ad bn => ⟨x1, rfl, by omega, by omega⟩, fun ad bn => zG_any x2⟩, zk_lent_1⟩
theorem zl_ck_torches (x1 x2 x3 x4 : Int32) : ∃ a1 a2 a3 a4 : zV, ((∀ (ad : Nat → Nat) (bn : Nat), zG ad bn a1 (.int x1)) ∧ (∀ (ad : Nat → Nat) (bn : Nat), zG ad bn a2 (.int x2)) ∧ (∀ (ad : Nat → Nat) (bn : Nat), zG ad bn a3 (.int x3)) ∧ (∀ (ad : Nat → Nat) (bn : Nat), zG ad bn a4 (.int x4))) ∧ zq 85 [(0, zRef (some 0)), (1, a1), (2, a2), (3, a3), (4, a4)] zh0 (zThen 146 [(0, zRef (some 102)), (1, a1), (2, a2), (3, a3), (4, a4)]) = true := by
  have hm := zB_max x1
  rcases (show (0 ≤ zB x1 ∧ zB x1 ≤ 2147483647) ∨ (2147483648 ≤ zB x1 ∧ zB x1 ≤ 4294967295) by omega) with h | h
  · exact ⟨.inr (.inl (0, 2147483647)), zAny, zAny, zAny, ⟨fun ad bn => ⟨x1, rfl, by omega, by omega⟩, fun ad bn => zG_any x2, fun ad bn => zG_any x3, fun ad bn => zG_any x4⟩, zk_torches_0⟩
  · exact ⟨.inr (.inl (2147483648, 4294967295)), zAny, zAny, zAny, ⟨fun ad bn => ⟨x1, rfl, by omega, by omega⟩, fun ad bn => zG_any x2, fun ad bn => zG_any x3, fun ad bn => zG_any x4⟩, zk_torches_1⟩
theorem zl_ck_voted (x1 : Int32) : ∃ a1 : zV, ((∀ (ad : Nat → Nat) (bn : Nat), zG ad bn a1 (.int x1))) ∧ zq 88 [(0, zRef (some 0)), (1, a1)] zh0 (zThen 150 [(0, zRef (some 102)), (1, a1)]) = true := by
  have hm := zB_max x1
  rcases (show (0 ≤ zB x1 ∧ zB x1 ≤ 2147483647) ∨ (2147483648 ≤ zB x1 ∧ zB x1 ≤ 4294967295) by omega) with h | h
  · exact ⟨.inr (.inl (0, 2147483647)), fun ad bn => ⟨x1, rfl, by omega, by omega⟩, zk_voted_0⟩
  · exact ⟨.inr (.inl (2147483648, 4294967295)), fun ad bn => ⟨x1, rfl, by omega, by omega⟩, zk_voted_1⟩
theorem zl_ck_when (x1 : Int32) : ∃ a1 : zV, ((∀ (ad : Nat → Nat) (bn : Nat), zG ad bn a1 (.int x1))) ∧ zq 90 [(0, zRef (some 0)), (1, a1)] zh0 (zThen 153 [(0, zRef (some 102)), (1, a1)]) = true := by
  have hm := zB_max x1
  rcases (show (0 ≤ zB x1 ∧ zB x1 ≤ 2147483647) ∨ (2147483648 ≤ zB x1 ∧ zB x1 ≤ 4294967295) by omega) with h | h
  · exact ⟨.inr (.inl (0, 2147483647)), fun ad bn => ⟨x1, rfl, by omega, by omega⟩, zk_when_0⟩
  · exact ⟨.inr (.inl (2147483648, 4294967295)), fun ad bn => ⟨x1, rfl, by omega, by omega⟩, zk_when_1⟩
theorem zl_ck_drawn (x1 : Int32) : ∃ a1 : zV, ((∀ (ad : Nat → Nat) (bn : Nat), zG ad bn a1 (.int x1))) ∧ zq 57 [(0, zRef (some 0)), (1, a1)] zh0 (zThen 101 [(0, zRef (some 102)), (1, a1)]) = true := by
  have hm := zB_max x1
  rcases (show (0 ≤ zB x1 ∧ zB x1 ≤ 2147483647) ∨ (2147483648 ≤ zB x1 ∧ zB x1 ≤ 4294967295) by omega) with h | h
  · exact ⟨.inr (.inl (0, 2147483647)), fun ad bn => ⟨x1, rfl, by omega, by omega⟩, zk_drawn_0⟩
  · exact ⟨.inr (.inl (2147483648, 4294967295)), fun ad bn => ⟨x1, rfl, by omega, by omega⟩, zk_drawn_1⟩
theorem zl_ck_odds (x1 x2 : Int32) : ∃ a1 a2 : zV, ((∀ (ad : Nat → Nat) (bn : Nat), zG ad bn a1 (.int x1)) ∧ (∀ (ad : Nat → Nat) (bn : Nat), zG ad bn a2 (.int x2))) ∧ zq 76 [(0, zRef (some 0)), (1, a1), (2, a2)] zh0 (zThen 128 [(0, zRef (some 102)), (1, a1), (2, a2)]) = true := by
  have hm := zB_max x1
  rcases (show (0 ≤ zB x1 ∧ zB x1 ≤ 2147483647) ∨ (2147483648 ≤ zB x1 ∧ zB x1 ≤ 4294967295) by omega) with h | h
  · exact ⟨.inr (.inl (0, 2147483647)), zAny, ⟨fun ad bn => ⟨x1, rfl, by omega, by omega⟩, fun ad bn => zG_any x2⟩, zk_odds_0⟩
  · exact ⟨.inr (.inl (2147483648, 4294967295)), zAny, ⟨fun ad bn => ⟨x1, rfl, by omega, by omega⟩, fun ad bn => zG_any x2⟩, zk_odds_1⟩
theorem zl_ck_judge (x1 : Int32) : ∃ a1 : zV, ((∀ (ad : Nat → Nat) (bn : Nat), zG ad bn a1 (.int x1))) ∧ zq 66 [(0, zRef (some 0)), (1, a1)] zh0 (zThen 115 [(0, zRef (some 102)), (1, a1)]) = true := by
  have hm := zB_max x1
  rcases (show (2147483648 ≤ zB x1 ∧ zB x1 ≤ 2147483648) ∨ (2147483649 ≤ zB x1 ∧ zB x1 ≤ 2147483649) ∨ (0 ≤ zB x1 ∧ zB x1 ≤ 2147483647) ∨ (2147483650 ≤ zB x1 ∧ zB x1 ≤ 4294967295) by omega) with h | h | h | h
  · exact ⟨.inl 0, fun ad bn => by show Value.int x1 = .int (nI 0); rw [show x1 = nI 0 from zB_eq.mpr (by rw [zB_nI]; omega)], zk_judge_0⟩
  · exact ⟨.inl 1, fun ad bn => by show Value.int x1 = .int (nI 1); rw [show x1 = nI 1 from zB_eq.mpr (by rw [zB_nI]; omega)], zk_judge_1⟩
  · exact ⟨.inr (.inl (0, 2147483647)), fun ad bn => ⟨x1, rfl, by omega, by omega⟩, zk_judge_2⟩
  · exact ⟨.inr (.inl (2147483650, 4294967295)), fun ad bn => ⟨x1, rfl, by omega, by omega⟩, zk_judge_3⟩
theorem zl_ck_judged (x1 : Int32) : ∃ a1 : zV, ((∀ (ad : Nat → Nat) (bn : Nat), zG ad bn a1 (.int x1))) ∧ zq 67 [(0, zRef (some 0)), (1, a1)] zh0 (zThen 116 [(0, zRef (some 102)), (1, a1)]) = true := by
  have hm := zB_max x1
  rcases (show (2147483648 ≤ zB x1 ∧ zB x1 ≤ 2147483648) ∨ (2147483649 ≤ zB x1 ∧ zB x1 ≤ 2147483649) ∨ (2147483650 ≤ zB x1 ∧ zB x1 ≤ 2147483650) ∨ (0 ≤ zB x1 ∧ zB x1 ≤ 2147483647) ∨ (2147483651 ≤ zB x1 ∧ zB x1 ≤ 4294967295) by omega) with h | h | h | h | h
  · exact ⟨.inl 0, fun ad bn => by show Value.int x1 = .int (nI 0); rw [show x1 = nI 0 from zB_eq.mpr (by rw [zB_nI]; omega)], zk_judged_0⟩
  · exact ⟨.inl 1, fun ad bn => by show Value.int x1 = .int (nI 1); rw [show x1 = nI 1 from zB_eq.mpr (by rw [zB_nI]; omega)], zk_judged_1⟩
  · exact ⟨.inl 2, fun ad bn => by show Value.int x1 = .int (nI 2); rw [show x1 = nI 2 from zB_eq.mpr (by rw [zB_nI]; omega)], zk_judged_2⟩
  · exact ⟨.inr (.inl (0, 2147483647)), fun ad bn => ⟨x1, rfl, by omega, by omega⟩, zk_judged_3⟩
  · exact ⟨.inr (.inl (2147483651, 4294967295)), fun ad bn => ⟨x1, rfl, by omega, by omega⟩, zk_judged_4⟩
theorem zl_ck_said (x1 : Int32) : ∃ a1 : zV, ((∀ (ad : Nat → Nat) (bn : Nat), zG ad bn a1 (.int x1))) ∧ zq 82 [(0, zRef (some 0)), (1, a1)] zh0 (zThen 139 [(0, zRef (some 102)), (1, a1)]) = true := by
  have hm := zB_max x1
  rcases (show (0 ≤ zB x1 ∧ zB x1 ≤ 2147483647) ∨ (2147483648 ≤ zB x1 ∧ zB x1 ≤ 4294967295) by omega) with h | h
  · exact ⟨.inr (.inl (0, 2147483647)), fun ad bn => ⟨x1, rfl, by omega, by omega⟩, zk_said_0⟩
  · exact ⟨.inr (.inl (2147483648, 4294967295)), fun ad bn => ⟨x1, rfl, by omega, by omega⟩, zk_said_1⟩
theorem zl_ck_image (x1 : Int32) : ∃ a1 : zV, ((∀ (ad : Nat → Nat) (bn : Nat), zG ad bn a1 (.int x1))) ∧ zq 61 [(0, zRef (some 0)), (1, a1)] zh0 (zThen 107 [(0, zRef (some 102)), (1, a1)]) = true := by
  have hm := zB_max x1
  rcases (show (2147483648 ≤ zB x1 ∧ zB x1 ≤ 2147483648) ∨ (2147483649 ≤ zB x1 ∧ zB x1 ≤ 2147483649) ∨ (0 ≤ zB x1 ∧ zB x1 ≤ 2147483647) ∨ (2147483650 ≤ zB x1 ∧ zB x1 ≤ 4294967295) by omega) with h | h | h | h
  · exact ⟨.inl 0, fun ad bn => by show Value.int x1 = .int (nI 0); rw [show x1 = nI 0 from zB_eq.mpr (by rw [zB_nI]; omega)], zk_image_0⟩
  · exact ⟨.inl 1, fun ad bn => by show Value.int x1 = .int (nI 1); rw [show x1 = nI 1 from zB_eq.mpr (by rw [zB_nI]; omega)], zk_image_1⟩
  · exact ⟨.inr (.inl (0, 2147483647)), fun ad bn => ⟨x1, rfl, by omega, by omega⟩, zk_image_2⟩
  · exact ⟨.inr (.inl (2147483650, 4294967295)), fun ad bn => ⟨x1, rfl, by omega, by omega⟩, zk_image_3⟩
theorem zl_ck_restore (x1 : Int32) : ∃ a1 : zV, ((∀ (ad : Nat → Nat) (bn : Nat), zG ad bn a1 (.int x1))) ∧ zq 81 [(0, zRef (some 0)), (1, a1)] zh0 (zThen 137 [(0, zRef (some 102)), (1, a1)]) = true := by
  have hm := zB_max x1
  rcases (show (2147483648 ≤ zB x1 ∧ zB x1 ≤ 2147483648) ∨ (2147483649 ≤ zB x1 ∧ zB x1 ≤ 2147483649) ∨ (0 ≤ zB x1 ∧ zB x1 ≤ 2147483647) ∨ (2147483650 ≤ zB x1 ∧ zB x1 ≤ 4294967295) by omega) with h | h | h | h
  · exact ⟨.inl 0, fun ad bn => by show Value.int x1 = .int (nI 0); rw [show x1 = nI 0 from zB_eq.mpr (by rw [zB_nI]; omega)], zk_restore_0⟩
  · exact ⟨.inl 1, fun ad bn => by show Value.int x1 = .int (nI 1); rw [show x1 = nI 1 from zB_eq.mpr (by rw [zB_nI]; omega)], zk_restore_1⟩
  · exact ⟨.inr (.inl (0, 2147483647)), fun ad bn => ⟨x1, rfl, by omega, by omega⟩, zk_restore_2⟩
  · exact ⟨.inr (.inl (2147483650, 4294967295)), fun ad bn => ⟨x1, rfl, by omega, by omega⟩, zk_restore_3⟩
theorem zl_ck_count (x1 : Int32) : ∃ a1 : zV, ((∀ (ad : Nat → Nat) (bn : Nat), zG ad bn a1 (.int x1))) ∧ zq 56 [(0, zRef (some 0)), (1, a1)] zh0 (zThen 100 [(0, zRef (some 102)), (1, a1)]) = true := by
  have hm := zB_max x1
  rcases (show (2147483648 ≤ zB x1 ∧ zB x1 ≤ 2147483648) ∨ (2147483649 ≤ zB x1 ∧ zB x1 ≤ 2147483649) ∨ (2147483650 ≤ zB x1 ∧ zB x1 ≤ 2147483650) ∨ (2147483651 ≤ zB x1 ∧ zB x1 ≤ 2147483651) ∨ (2147483652 ≤ zB x1 ∧ zB x1 ≤ 2147483652) ∨ (2147483653 ≤ zB x1 ∧ zB x1 ≤ 2147483653) ∨ (2147483654 ≤ zB x1 ∧ zB x1 ≤ 2147483654) ∨ (2147483655 ≤ zB x1 ∧ zB x1 ≤ 2147483655) ∨ (2147483656 ≤ zB x1 ∧ zB x1 ≤ 2147483656) ∨ (0 ≤ zB x1 ∧ zB x1 ≤ 2147483647) ∨ (2147483657 ≤ zB x1 ∧ zB x1 ≤ 4294967295) by omega) with h | h | h | h | h | h | h | h | h | h | h
  · exact ⟨.inl 0, fun ad bn => by show Value.int x1 = .int (nI 0); rw [show x1 = nI 0 from zB_eq.mpr (by rw [zB_nI]; omega)], zk_count_0⟩
  · exact ⟨.inl 1, fun ad bn => by show Value.int x1 = .int (nI 1); rw [show x1 = nI 1 from zB_eq.mpr (by rw [zB_nI]; omega)], zk_count_1⟩
  · exact ⟨.inl 2, fun ad bn => by show Value.int x1 = .int (nI 2); rw [show x1 = nI 2 from zB_eq.mpr (by rw [zB_nI]; omega)], zk_count_2⟩
  · exact ⟨.inl 3, fun ad bn => by show Value.int x1 = .int (nI 3); rw [show x1 = nI 3 from zB_eq.mpr (by rw [zB_nI]; omega)], zk_count_3⟩
  · exact ⟨.inl 4, fun ad bn => by show Value.int x1 = .int (nI 4); rw [show x1 = nI 4 from zB_eq.mpr (by rw [zB_nI]; omega)], zk_count_4⟩
  · exact ⟨.inl 5, fun ad bn => by show Value.int x1 = .int (nI 5); rw [show x1 = nI 5 from zB_eq.mpr (by rw [zB_nI]; omega)], zk_count_5⟩
  · exact ⟨.inl 6, fun ad bn => by show Value.int x1 = .int (nI 6); rw [show x1 = nI 6 from zB_eq.mpr (by rw [zB_nI]; omega)], zk_count_6⟩
  · exact ⟨.inl 7, fun ad bn => by show Value.int x1 = .int (nI 7); rw [show x1 = nI 7 from zB_eq.mpr (by rw [zB_nI]; omega)], zk_count_7⟩
  · exact ⟨.inl 8, fun ad bn => by show Value.int x1 = .int (nI 8); rw [show x1 = nI 8 from zB_eq.mpr (by rw [zB_nI]; omega)], zk_count_8⟩
  · exact ⟨.inr (.inl (0, 2147483647)), fun ad bn => ⟨x1, rfl, by omega, by omega⟩, zk_count_9⟩
  · exact ⟨.inr (.inl (2147483657, 4294967295)), fun ad bn => ⟨x1, rfl, by omega, by omega⟩, zk_count_10⟩
