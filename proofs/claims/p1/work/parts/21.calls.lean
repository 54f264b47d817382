set_option maxRecDepth 100000 in
theorem zk_feed : zq 60 [(0, zRef (some 0)), (1, .inr (.inl (0, 4294967295))), (2, .inr (.inl (0, 4294967295))), (3, .inr (.inl (0, 4294967295))), (4, .inr (.inl (0, 4294967295))), (5, .inr (.inl (0, 4294967295)))] zh0 (zThen 104 [(0, zRef (some 102)), (1, .inr (.inl (0, 4294967295))), (2, .inr (.inl (0, 4294967295))), (3, .inr (.inl (0, 4294967295))), (4, .inr (.inl (0, 4294967295))), (5, .inr (.inl (0, 4294967295)))]) = true := by decide +kernel
set_option maxRecDepth 100000 in
theorem zk_end_0 : zq 58 [(0, zRef (some 0)), (1, .inl 0)] zh0 (zThen 102 [(0, zRef (some 102)), (1, .inl 0)]) = true := by decide +kernel
set_option maxRecDepth 100000 in
theorem zk_end_1 : zq 58 [(0, zRef (some 0)), (1, .inr (.inl (0, 2147483647)))] zh0 (zThen 102 [(0, zRef (some 102)), (1, .inr (.inl (0, 2147483647)))]) = true := by decide +kernel
set_option maxRecDepth 100000 in
theorem zk_end_2 : zq 58 [(0, zRef (some 0)), (1, .inr (.inl (2147483649, 4294967295)))] zh0 (zThen 102 [(0, zRef (some 102)), (1, .inr (.inl (2147483649, 4294967295)))]) = true := by decide +kernel
set_option maxRecDepth 100000 in
theorem zk_alleys : zq 54 [(0, zRef (some 0))] zh0 (zThen 92 [(0, zRef (some 102))]) = true := by decide +kernel
set_option maxRecDepth 100000 in
theorem zk_fault : zq 59 [(0, zRef (some 0))] zh0 (zThen 103 [(0, zRef (some 102))]) = true := by decide +kernel
set_option maxRecDepth 100000 in
theorem zk_way_0 : zq 89 [(0, zRef (some 0)), (1, .inr (.inl (0, 2147483647))), (2, .inr (.inl (0, 4294967295)))] zh0 (zThen 151 [(0, zRef (some 102)), (1, .inr (.inl (0, 2147483647))), (2, .inr (.inl (0, 4294967295)))]) = true := by decide +kernel
set_option maxRecDepth 100000 in
theorem zk_way_1 : zq 89 [(0, zRef (some 0)), (1, .inr (.inl (2147483648, 4294967295))), (2, .inr (.inl (0, 4294967295)))] zh0 (zThen 151 [(0, zRef (some 102)), (1, .inr (.inl (2147483648, 4294967295))), (2, .inr (.inl (0, 4294967295)))]) = true := by decide +kernel
set_option maxRecDepth 100000 in
theorem zk_next_0 : zq 74 [(0, zRef (some 0)), (1, .inr (.inl (0, 2147483647)))] zh0 (zThen 126 [(0, zRef (some 102)), (1, .inr (.inl (0, 2147483647)))]) = true := by decide +kernel
set_option maxRecDepth 100000 in
theorem zk_next_1 : zq 74 [(0, zRef (some 0)), (1, .inr (.inl (2147483648, 4294967295)))] zh0 (zThen 126 [(0, zRef (some 102)), (1, .inr (.inl (2147483648, 4294967295)))]) = true := by decide +kernel
set_option maxRecDepth 100000 in
theorem zk_order_0 : zq 79 [(0, zRef (some 0)), (1, .inr (.inl (0, 2147483647)))] zh0 (zThen 132 [(0, zRef (some 102)), (1, .inr (.inl (0, 2147483647)))]) = true := by decide +kernel
set_option maxRecDepth 100000 in
theorem zk_order_1 : zq 79 [(0, zRef (some 0)), (1, .inr (.inl (2147483648, 4294967295)))] zh0 (zThen 132 [(0, zRef (some 102)), (1, .inr (.inl (2147483648, 4294967295)))]) = true := by decide +kernel
set_option maxRecDepth 100000 in
theorem zk_on_0 : zq 77 [(0, zRef (some 0)), (1, .inr (.inl (0, 2147483648)))] zh0 (zThen 129 [(0, zRef (some 102)), (1, .inr (.inl (0, 2147483648)))]) = true := by decide +kernel
set_option maxRecDepth 100000 in
theorem zk_on_1 : zq 77 [(0, zRef (some 0)), (1, .inr (.inl (2147483749, 4294967295)))] zh0 (zThen 129 [(0, zRef (some 102)), (1, .inr (.inl (2147483749, 4294967295)))]) = true := by decide +kernel
set_option maxRecDepth 100000 in
theorem zk_now_0 : zq 75 [(0, zRef (some 0)), (1, .inl 0)] zh0 (zThen 127 [(0, zRef (some 102)), (1, .inl 0)]) = true := by decide +kernel
set_option maxRecDepth 100000 in
theorem zk_now_1 : zq 75 [(0, zRef (some 0)), (1, .inl 1)] zh0 (zThen 127 [(0, zRef (some 102)), (1, .inl 1)]) = true := by decide +kernel
set_option maxRecDepth 100000 in
theorem zk_now_2 : zq 75 [(0, zRef (some 0)), (1, .inl 2)] zh0 (zThen 127 [(0, zRef (some 102)), (1, .inl 2)]) = true := by decide +kernel
set_option maxRecDepth 100000 in
theorem zk_now_3 : zq 75 [(0, zRef (some 0)), (1, .inl 3)] zh0 (zThen 127 [(0, zRef (some 102)), (1, .inl 3)]) = true := by decide +kernel
set_option maxRecDepth 100000 in
theorem zk_now_4 : zq 75 [(0, zRef (some 0)), (1, .inl 4)] zh0 (zThen 127 [(0, zRef (some 102)), (1, .inl 4)]) = true := by decide +kernel
set_option maxRecDepth 100000 in
theorem zk_now_5 : zq 75 [(0, zRef (some 0)), (1, .inl 5)] zh0 (zThen 127 [(0, zRef (some 102)), (1, .inl 5)]) = true := by decide +kernel
set_option maxRecDepth 100000 in
theorem zk_now_6 : zq 75 [(0, zRef (some 0)), (1, .inr (.inl (0, 2147483647)))] zh0 (zThen 127 [(0, zRef (some 102)), (1, .inr (.inl (0, 2147483647)))]) = true := by decide +kernel
set_option maxRecDepth 100000 in
theorem zk_now_7 : zq 75 [(0, zRef (some 0)), (1, .inr (.inl (2147483654, 4294967295)))] zh0 (zThen 127 [(0, zRef (some 102)), (1, .inr (.inl (2147483654, 4294967295)))]) = true := by decide +kernel
set_option maxRecDepth 100000 in
theorem zk_met_0 : zq 73 [(0, zRef (some 0)), (1, .inr (.inl (0, 2147483647))), (2, .inr (.inl (0, 4294967295)))] zh0 (zThen 124 [(0, zRef (some 102)), (1, .inr (.inl (0, 2147483647))), (2, .inr (.inl (0, 4294967295)))]) = true := by decide +kernel
set_option maxRecDepth 100000 in
theorem zk_met_1 : zq 73 [(0, zRef (some 0)), (1, .inr (.inl (2147483648, 4294967295))), (2, .inr (.inl (0, 4294967295)))] zh0 (zThen 124 [(0, zRef (some 102)), (1, .inr (.inl (2147483648, 4294967295))), (2, .inr (.inl (0, 4294967295)))]) = true := by decide +kernel
set_option maxRecDepth 100000 in
theorem zk_undo : zq 86 [(0, zRef (some 0))] zh0 (zThen 148 [(0, zRef (some 102))]) = true := by decide +kernel
set_option maxRecDepth 100000 in
theorem zk_lane_0 : zq 68 [(0, zRef (some 0)), (1, .inr (.inl (0, 2147483647))), (2, .inr (.inl (0, 4294967295)))] zh0 (zThen 119 [(0, zRef (some 102)), (1, .inr (.inl (0, 2147483647))), (2, .inr (.inl (0, 4294967295)))]) = true := by decide +kernel
set_option maxRecDepth 100000 in
theorem zk_lane_1 : zq 68 [(0, zRef (some 0)), (1, .inr (.inl (2147483648, 4294967295))), (2, .inr (.inl (0, 4294967295)))] zh0 (zThen 119 [(0, zRef (some 102)), (1, .inr (.inl (2147483648, 4294967295))), (2, .inr (.inl (0, 4294967295)))]) = true := by decide +kernel
set_option maxRecDepth 100000 in
theorem zk_step_0 : zq 84 [(0, zRef (some 0)), (1, .inr (.inl (0, 2147483647)))] zh0 (zThen 142 [(0, zRef (some 102)), (1, .inr (.inl (0, 2147483647)))]) = true := by decide +kernel
set_option maxRecDepth 100000 in
theorem zk_step_1 : zq 84 [(0, zRef (some 0)), (1, .inr (.inl (2147483648, 4294967295)))] zh0 (zThen 142 [(0, zRef (some 102)), (1, .inr (.inl (2147483648, 4294967295)))]) = true := by decide +kernel
set_option maxRecDepth 100000 in
theorem zk_oneWay : zq 78 [(0, zRef (some 0))] zh0 (zThen 130 [(0, zRef (some 102))]) = true := by decide +kernel
set_option maxRecDepth 100000 in
theorem zk_last : zq 69 [(0, zRef (some 0))] zh0 (zThen 120 [(0, zRef (some 102))]) = true := by decide +kernel
set_option maxRecDepth 100000 in
theorem zk_invited_0 : zq 62 [(0, zRef (some 0)), (1, .inr (.inl (0, 2147483647)))] zh0 (zThen 108 [(0, zRef (some 102)), (1, .inr (.inl (0, 2147483647)))]) = true := by decide +kernel
set_option maxRecDepth 100000 in
theorem zk_invited_1 : zq 62 [(0, zRef (some 0)), (1, .inr (.inl (2147483648, 4294967295)))] zh0 (zThen 108 [(0, zRef (some 102)), (1, .inr (.inl (2147483648, 4294967295)))]) = true := by decide +kernel
set_option maxRecDepth 100000 in
theorem zk_began : zq 55 [(0, zRef (some 0))] zh0 (zThen 96 [(0, zRef (some 102))]) = true := by decide +kernel
set_option maxRecDepth 100000 in
theorem zk_lent_0 : zq 71 [(0, zRef (some 0)), (1, .inr (.inl (0, 2147483647))), (2, .inr (.inl (0, 4294967295)))] zh0 (zThen 123 [(0, zRef (some 102)), (1, .inr (.inl (0, 2147483647))), (2, .inr (.inl (0, 4294967295)))]) = true := by decide +kernel
set_option maxRecDepth 100000 in
theorem zk_lent_1 : zq 71 [(0, zRef (some 0)), (1, .inr (.inl (2147483648, 4294967295))), (2, .inr (.inl (0, 4294967295)))] zh0 (zThen 123 [(0, zRef (some 102)), (1, .inr (.inl (2147483648, 4294967295))), (2, .inr (.inl (0, 4294967295)))]) = true := by decide +kernel
set_option maxRecDepth 100000 in
theorem zk_torches_0 : zq 85 [(0, zRef (some 0)), (1, .inr (.inl (0, 2147483647))), (2, .inr (.inl (0, 4294967295))), (3, .inr (.inl (0, 4294967295))), (4, .inr (.inl (0, 4294967295)))] zh0 (zThen 146 [(0, zRef (some 102)), (1, .inr (.inl (0, 2147483647))), (2, .inr (.inl (0, 4294967295))), (3, .inr (.inl (0, 4294967295))), (4, .inr (.inl (0, 4294967295)))]) = true := by decide +kernel
set_option maxRecDepth 100000 in
theorem zk_torches_1 : zq 85 [(0, zRef (some 0)), (1, .inr (.inl (2147483648, 4294967295))), (2, .inr (.inl (0, 4294967295))), (3, .inr (.inl (0, 4294967295))), (4, .inr (.inl (0, 4294967295)))] zh0 (zThen 146 [(0, zRef (some 102)), (1, .inr (.inl (2147483648, 4294967295))), (2, .inr (.inl (0, 4294967295))), (3, .inr (.inl (0, 4294967295))), (4, .inr (.inl (0, 4294967295)))]) = true := by decide +kernel
set_option maxRecDepth 100000 in
theorem zk_voted_0 : zq 88 [(0, zRef (some 0)), (1, .inr (.inl (0, 2147483647)))] zh0 (zThen 150 [(0, zRef (some 102)), (1, .inr (.inl (0, 2147483647)))]) = true := by decide +kernel
set_option maxRecDepth 100000 in
theorem zk_voted_1 : zq 88 [(0, zRef (some 0)), (1, .inr (.inl (2147483648, 4294967295)))] zh0 (zThen 150 [(0, zRef (some 102)), (1, .inr (.inl (2147483648, 4294967295)))]) = true := by decide +kernel
set_option maxRecDepth 100000 in
theorem zk_when_0 : zq 90 [(0, zRef (some 0)), (1, .inr (.inl (0, 2147483647)))] zh0 (zThen 153 [(0, zRef (some 102)), (1, .inr (.inl (0, 2147483647)))]) = true := by decide +kernel
set_option maxRecDepth 100000 in
theorem zk_when_1 : zq 90 [(0, zRef (some 0)), (1, .inr (.inl (2147483648, 4294967295)))] zh0 (zThen 153 [(0, zRef (some 102)), (1, .inr (.inl (2147483648, 4294967295)))]) = true := by decide +kernel
set_option maxRecDepth 100000 in
theorem zk_latest : zq 70 [(0, zRef (some 0))] zh0 (zThen 121 [(0, zRef (some 102))]) = true := by decide +kernel
set_option maxRecDepth 100000 in
theorem zk_drawn_0 : zq 57 [(0, zRef (some 0)), (1, .inr (.inl (0, 2147483647)))] zh0 (zThen 101 [(0, zRef (some 102)), (1, .inr (.inl (0, 2147483647)))]) = true := by decide +kernel
set_option maxRecDepth 100000 in
theorem zk_drawn_1 : zq 57 [(0, zRef (some 0)), (1, .inr (.inl (2147483648, 4294967295)))] zh0 (zThen 101 [(0, zRef (some 102)), (1, .inr (.inl (2147483648, 4294967295)))]) = true := by decide +kernel
set_option maxRecDepth 100000 in
theorem zk_odds_0 : zq 76 [(0, zRef (some 0)), (1, .inr (.inl (0, 2147483647))), (2, .inr (.inl (0, 4294967295)))] zh0 (zThen 128 [(0, zRef (some 102)), (1, .inr (.inl (0, 2147483647))), (2, .inr (.inl (0, 4294967295)))]) = true := by decide +kernel
set_option maxRecDepth 100000 in
theorem zk_odds_1 : zq 76 [(0, zRef (some 0)), (1, .inr (.inl (2147483648, 4294967295))), (2, .inr (.inl (0, 4294967295)))] zh0 (zThen 128 [(0, zRef (some 102)), (1, .inr (.inl (2147483648, 4294967295))), (2, .inr (.inl (0, 4294967295)))]) = true := by decide +kernel
set_option maxRecDepth 100000 in
theorem zk_plan : zq 80 [(0, zRef (some 0))] zh0 (zThen 135 [(0, zRef (some 102))]) = true := by decide +kernel
set_option maxRecDepth 100000 in
theorem zk_judge_0 : zq 66 [(0, zRef (some 0)), (1, .inl 0)] zh0 (zThen 115 [(0, zRef (some 102)), (1, .inl 0)]) = true := by decide +kernel
set_option maxRecDepth 100000 in
theorem zk_judge_1 : zq 66 [(0, zRef (some 0)), (1, .inl 1)] zh0 (zThen 115 [(0, zRef (some 102)), (1, .inl 1)]) = true := by decide +kernel
set_option maxRecDepth 100000 in
theorem zk_judge_2 : zq 66 [(0, zRef (some 0)), (1, .inr (.inl (0, 2147483647)))] zh0 (zThen 115 [(0, zRef (some 102)), (1, .inr (.inl (0, 2147483647)))]) = true := by decide +kernel
set_option maxRecDepth 100000 in
theorem zk_judge_3 : zq 66 [(0, zRef (some 0)), (1, .inr (.inl (2147483650, 4294967295)))] zh0 (zThen 115 [(0, zRef (some 102)), (1, .inr (.inl (2147483650, 4294967295)))]) = true := by decide +kernel
set_option maxRecDepth 100000 in
theorem zk_judged_0 : zq 67 [(0, zRef (some 0)), (1, .inl 0)] zh0 (zThen 116 [(0, zRef (some 102)), (1, .inl 0)]) = true := by decide +kernel
set_option maxRecDepth 100000 in
theorem zk_judged_1 : zq 67 [(0, zRef (some 0)), (1, .inl 1)] zh0 (zThen 116 [(0, zRef (some 102)), (1, .inl 1)]) = true := by decide +kernel
set_option maxRecDepth 100000 in
theorem zk_judged_2 : zq 67 [(0, zRef (some 0)), (1, .inl 2)] zh0 (zThen 116 [(0, zRef (some 102)), (1, .inl 2)]) = true := by decide +kernel
set_option maxRecDepth 100000 in
theorem zk_judged_3 : zq 67 [(0, zRef (some 0)), (1, .inr (.inl (0, 2147483647)))] zh0 (zThen 116 [(0, zRef (some 102)), (1, .inr (.inl (0, 2147483647)))]) = true := by decide +kernel
set_option maxRecDepth 100000 in
theorem zk_judged_4 : zq 67 [(0, zRef (some 0)), (1, .inr (.inl (2147483651, 4294967295)))] zh0 (zThen 116 [(0, zRef (some 102)), (1, .inr (.inl (2147483651, 4294967295)))]) = true := by decide +kernel
set_option maxRecDepth 100000 in
theorem zk_sentence : zq 83 [(0, zRef (some 0))] zh0 (zThen 140 [(0, zRef (some 102))]) = true := by decide +kernel
set_option maxRecDepth 100000 in
theorem zk_said_0 : zq 82 [(0, zRef (some 0)), (1, .inr (.inl (0, 2147483647)))] zh0 (zThen 139 [(0, zRef (some 102)), (1, .inr (.inl (0, 2147483647)))]) = true := by decide +kernel
set_option maxRecDepth 100000 in
theorem zk_said_1 : zq 82 [(0, zRef (some 0)), (1, .inr (.inl (2147483648, 4294967295)))] zh0 (zThen 139 [(0, zRef (some 102)), (1, .inr (.inl (2147483648, 4294967295)))]) = true := by decide +kernel
set_option maxRecDepth 100000 in
theorem zk_image_0 : zq 61 [(0, zRef (some 0)), (1, .inl 0)] zh0 (zThen 107 [(0, zRef (some 102)), (1, .inl 0)]) = true := by decide +kernel
set_option maxRecDepth 100000 in
theorem zk_image_1 : zq 61 [(0, zRef (some 0)), (1, .inl 1)] zh0 (zThen 107 [(0, zRef (some 102)), (1, .inl 1)]) = true := by decide +kernel
set_option maxRecDepth 100000 in
theorem zk_image_2 : zq 61 [(0, zRef (some 0)), (1, .inr (.inl (0, 2147483647)))] zh0 (zThen 107 [(0, zRef (some 102)), (1, .inr (.inl (0, 2147483647)))]) = true := by decide +kernel
set_option maxRecDepth 100000 in
theorem zk_image_3 : zq 61 [(0, zRef (some 0)), (1, .inr (.inl (2147483650, 4294967295)))] zh0 (zThen 107 [(0, zRef (some 102)), (1, .inr (.inl (2147483650, 4294967295)))]) = true := by decide +kernel
set_option maxRecDepth 100000 in
theorem zk_restore_0 : zq 81 [(0, zRef (some 0)), (1, .inl 0)] zh0 (zThen 137 [(0, zRef (some 102)), (1, .inl 0)]) = true := by decide +kernel
set_option maxRecDepth 100000 in
theorem zk_restore_1 : zq 81 [(0, zRef (some 0)), (1, .inl 1)] zh0 (zThen 137 [(0, zRef (some 102)), (1, .inl 1)]) = true := by decide +kernel
set_option maxRecDepth 100000 in
theorem zk_restore_2 : zq 81 [(0, zRef (some 0)), (1, .inr (.inl (0, 2147483647)))] zh0 (zThen 137 [(0, zRef (some 102)), (1, .inr (.inl (0, 2147483647)))]) = true := by decide +kernel
set_option maxRecDepth 100000 in
theorem zk_restore_3 : zq 81 [(0, zRef (some 0)), (1, .inr (.inl (2147483650, 4294967295)))] zh0 (zThen 137 [(0, zRef (some 102)), (1, .inr (.inl (2147483650, 4294967295)))]) = true := by decide +kernel
set_option maxRecDepth 100000 in
theorem zk_count_0 : zq 56 [(0, zRef (some 0)), (1, .inl 0)] zh0 (zThen 100 [(0, zRef (some 102)), (1, .inl 0)]) = true := by decide +kernel
set_option maxRecDepth 100000 in
theorem zk_count_1 : zq 56 [(0, zRef (some 0)), (1, .inl 1)] zh0 (zThen 100 [(0, zRef (some 102)), (1, .inl 1)]) = true := by decide +kernel
set_option maxRecDepth 100000 in
theorem zk_count_2 : zq 56 [(0, zRef (some 0)), (1, .inl 2)] zh0 (zThen 100 [(0, zRef (some 102)), (1, .inl 2)]) = true := by decide +kernel
set_option maxRecDepth 100000 in
theorem zk_count_3 : zq 56 [(0, zRef (some 0)), (1, .inl 3)] zh0 (zThen 100 [(0, zRef (some 102)), (1, .inl 3)]) = true := by decide +kernel
set_option maxRecDepth 100000 in
theorem zk_count_4 : zq 56 [(0, zRef (some 0)), (1, .inl 4)] zh0 (zThen 100 [(0, zRef (some 102)), (1, .inl 4)]) = true := by decide +kernel
set_option maxRecDepth 100000 in
theorem zk_count_5 : zq 56 [(0, zRef (some 0)), (1, .inl 5)] zh0 (zThen 100 [(0, zRef (some 102)), (1, .inl 5)]) = true := by decide +kernel
set_option maxRecDepth 100000 in
theorem zk_count_6 : zq 56 [(0, zRef (some 0)), (1, .inl 6)] zh0 (zThen 100 [(0, zRef (some 102)), (1, .inl 6)]) = true := by decide +kernel
set_option maxRecDepth 100000 in
theorem zk_count_7 : zq 56 [(0, zRef (some 0)), (1, .inl 7)] zh0 (zThen 100 [(0, zRef (some 102)), (1, .inl 7)]) = true := by decide +kernel
set_option maxRecDepth 100000 in
theorem zk_count_8 : zq 56 [(0, zRef (some 0)), (1, .inl 8)] zh0 (zThen 100 [(0, zRef (some 102)), (1, .inl 8)]) = true := by decide +kernel
set_option maxRecDepth 100000 in
theorem zk_count_9 : zq 56 [(0, zRef (some 0)), (1, .inr (.inl (0, 2147483647)))] zh0 (zThen 100 [(0, zRef (some 102)), (1, .inr (.inl (0, 2147483647)))]) = true := by decide +kernel
set_option maxRecDepth 100000 in
theorem zk_count_10 : zq 56 [(0, zRef (some 0)), (1, .inr (.inl (2147483657, 4294967295)))] zh0 (zThen 100 [(0, zRef (some 102)), (1, .inr (.inl (2147483657, 4294967295)))]) = true := by decide +kernel
