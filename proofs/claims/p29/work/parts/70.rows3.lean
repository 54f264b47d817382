/-! printed by wip/whole/y/gen67.py: what is known of the methods that are called (1 of 2) -/
set_option maxRecDepth 100000 in
theorem zm_0 : zMtB zSS zPl 0 1 = true := by decide +kernel
set_option maxRecDepth 100000 in
theorem zm_1 : zMtB zSS zPl 1 3 = true := by decide +kernel
set_option maxRecDepth 100000 in
theorem zm_2 : zMtB zSS zPl 2 2 = true := by decide +kernel
set_option maxRecDepth 100000 in
theorem zm_3 : zMtB zSS zPl 3 2 = true := by decide +kernel
set_option maxRecDepth 100000 in
theorem zm_4 : zMtB zSS zPl 4 1 = true := by decide +kernel
set_option maxRecDepth 100000 in
theorem zm_5 : zMtB zSS zPl 5 5 = true := by decide +kernel
set_option maxRecDepth 100000 in
theorem zm_6 : zMtB zSS zPl 6 4 = true := by decide +kernel
set_option maxRecDepth 100000 in
theorem zm_7 : zMtB zSS zPl 7 2 = true := by decide +kernel
set_option maxRecDepth 100000 in
theorem zm_8 : zMtB zSS zPl 8 3 = true := by decide +kernel
set_option maxRecDepth 100000 in
theorem zm_9 : zMtB zSS zPl 9 3 = true := by decide +kernel
set_option maxRecDepth 100000 in
theorem zm_10 : zMtB zSS zPl 10 2 = true := by decide +kernel
set_option maxRecDepth 100000 in
theorem zm_11 : zMtB zSS zPl 11 2 = true := by decide +kernel
set_option maxRecDepth 100000 in
theorem zm_12 : zMtB zSS zPl 12 3 = true := by decide +kernel
set_option maxRecDepth 100000 in
theorem zm_13 : zMtB zSS zPl 13 3 = true := by decide +kernel
set_option maxRecDepth 100000 in
theorem zm_14 : zMtB zSS zPl 14 3 = true := by decide +kernel
set_option maxRecDepth 100000 in
theorem zm_15 : zMtB zSS zPl 15 4 = true := by decide +kernel
set_option maxRecDepth 100000 in
theorem zm_16 : zMtB zSS zPl 16 3 = true := by decide +kernel
set_option maxRecDepth 100000 in
theorem zm_17 : zMtB zSS zPl 17 3 = true := by decide +kernel
set_option maxRecDepth 100000 in
theorem zm_18 : zMtB zSS zPl 18 3 = true := by decide +kernel
set_option maxRecDepth 100000 in
theorem zm_19 : zMtB zSS zPl 19 2 = true := by decide +kernel
set_option maxRecDepth 100000 in
theorem zm_20 : zMtB zSS zPl 20 5 = true := by decide +kernel
set_option maxRecDepth 100000 in
theorem zm_21 : zMtB zSS zPl 21 3 = true := by decide +kernel
set_option maxRecDepth 100000 in
theorem zm_22 : zMtB zSS zPl 22 3 = true := by decide +kernel
set_option maxRecDepth 100000 in
theorem zm_23 : zMtB zSS zPl 23 4 = true := by decide +kernel
set_option maxRecDepth 100000 in
theorem zm_24 : zMtB zSS zPl 24 3 = true := by decide +kernel
set_option maxRecDepth 100000 in
theorem zm_25 : zMtB zSS zPl 25 5 = true := by decide +kernel
set_option maxRecDepth 100000 in
theorem zm_26 : zMtB zSS zPl 26 1 = true := by decide +kernel
set_option maxRecDepth 100000 in
theorem zm_27 : zMtB zSS zPl 27 2 = true := by decide +kernel
set_option maxRecDepth 100000 in
theorem zm_28 : zMtB zSS zPl 28 4 = true := by decide +kernel
set_option maxRecDepth 100000 in
theorem zm_29 : zMtB zSS zPl 29 5 = true := by decide +kernel
set_option maxRecDepth 100000 in
theorem zm_30 : zMtB zSS zPl 30 1 = true := by decide +kernel
set_option maxRecDepth 100000 in
theorem zm_31 : zMtB zSS zPl 31 2 = true := by decide +kernel
set_option maxRecDepth 100000 in
theorem zm_32 : zMtB zSS zPl 32 3 = true := by decide +kernel
set_option maxRecDepth 100000 in
theorem zm_33 : zMtB zSS zPl 33 1 = true := by decide +kernel
set_option maxRecDepth 100000 in
theorem zm_34 : zMtB zSS zPl 34 2 = true := by decide +kernel
set_option maxRecDepth 100000 in
theorem zm_35 : zMtB zSS zPl 35 6 = true := by decide +kernel
set_option maxRecDepth 100000 in
theorem zm_36 : zMtB zSS zPl 36 1 = true := by decide +kernel
set_option maxRecDepth 100000 in
theorem zm_37 : zMtB zSS zPl 37 3 = true := by decide +kernel
set_option maxRecDepth 100000 in
theorem zm_38 : zMtB zSS zPl 38 2 = true := by decide +kernel
set_option maxRecDepth 100000 in
theorem zm_39 : zMtB zSS zPl 39 3 = true := by decide +kernel
set_option maxRecDepth 100000 in
theorem zm_40 : zMtB zSS zPl 40 2 = true := by decide +kernel
set_option maxRecDepth 100000 in
theorem zm_41 : zMtB zSS zPl 41 2 = true := by decide +kernel
set_option maxRecDepth 100000 in
theorem zm_42 : zMtB zSS zPl 42 4 = true := by decide +kernel
set_option maxRecDepth 100000 in
theorem zm_43 : zMtB zSS zPl 43 2 = true := by decide +kernel
set_option maxRecDepth 100000 in
theorem zm_44 : zMtB zSS zPl 44 4 = true := by decide +kernel
set_option maxRecDepth 100000 in
theorem zm_45 : zMtB zSS zPl 45 1 = true := by decide +kernel
set_option maxRecDepth 100000 in
theorem zm_46 : zMtB zSS zPl 46 4 = true := by decide +kernel
set_option maxRecDepth 100000 in
theorem zm_47 : zMtB zSS zPl 47 2 = true := by decide +kernel
set_option maxRecDepth 100000 in
theorem zm_48 : zMtB zSS zPl 48 6 = true := by decide +kernel
set_option maxRecDepth 100000 in
theorem zm_49 : zMtB zSS zPl 49 11 = true := by decide +kernel
set_option maxRecDepth 100000 in
theorem zm_50 : zMtB zSS zPl 50 3 = true := by decide +kernel
set_option maxRecDepth 100000 in
theorem zm_51 : zMtB zSS zPl 51 6 = true := by decide +kernel
set_option maxRecDepth 100000 in
theorem zm_52 : zMtB zSS zPl 52 6 = true := by decide +kernel
set_option maxRecDepth 100000 in
theorem zm_53 : zMtB zSS zPl 53 8 = true := by decide +kernel
set_option maxRecDepth 100000 in
theorem zm_54 : zMtB zSS zPl 54 6 = true := by decide +kernel
set_option maxRecDepth 100000 in
theorem zm_55 : zMtB zSS zPl 55 1 = true := by decide +kernel
set_option maxRecDepth 100000 in
theorem zm_56 : zMtB zSS zPl 56 6 = true := by decide +kernel
set_option maxRecDepth 100000 in
theorem zm_57 : zMtB zSS zPl 57 3 = true := by decide +kernel
set_option maxRecDepth 100000 in
theorem zm_58 : zMtB zSS zPl 58 2 = true := by decide +kernel
set_option maxRecDepth 100000 in
theorem zm_59 : zMtB zSS zPl 59 4 = true := by decide +kernel
set_option maxRecDepth 100000 in
theorem zm_60 : zMtB zSS zPl 60 4 = true := by decide +kernel
set_option maxRecDepth 100000 in
theorem zm_61 : zMtB zSS zPl 61 4 = true := by decide +kernel
set_option maxRecDepth 100000 in
theorem zm_62 : zMtB zSS zPl 62 3 = true := by decide +kernel
set_option maxRecDepth 100000 in
theorem zm_63 : zMtB zSS zPl 63 4 = true := by decide +kernel
set_option maxRecDepth 100000 in
theorem zm_64 : zMtB zSS zPl 64 3 = true := by decide +kernel
set_option maxRecDepth 100000 in
theorem zm_65 : zMtB zSS zPl 65 4 = true := by decide +kernel
set_option maxRecDepth 100000 in
theorem zm_66 : zMtB zSS zPl 66 6 = true := by decide +kernel
set_option maxRecDepth 100000 in
theorem zm_67 : zMtB zSS zPl 67 4 = true := by decide +kernel
set_option maxRecDepth 100000 in
theorem zm_68 : zMtB zSS zPl 68 2 = true := by decide +kernel
set_option maxRecDepth 100000 in
theorem zm_69 : zMtB zSS zPl 69 1 = true := by decide +kernel
set_option maxRecDepth 100000 in
theorem zm_70 : zMtB zSS zPl 70 6 = true := by decide +kernel
set_option maxRecDepth 100000 in
theorem zm_71 : zMtB zSS zPl 71 5 = true := by decide +kernel
set_option maxRecDepth 100000 in
theorem zm_72 : zMtB zSS zPl 72 5 = true := by decide +kernel
set_option maxRecDepth 100000 in
theorem zm_73 : zMtB zSS zPl 73 5 = true := by decide +kernel
set_option maxRecDepth 100000 in
theorem zm_74 : zMtB zSS zPl 74 3 = true := by decide +kernel
set_option maxRecDepth 100000 in
theorem zm_75 : zMtB zSS zPl 75 7 = true := by decide +kernel
set_option maxRecDepth 100000 in
theorem zm_76 : zMtB zSS zPl 76 3 = true := by decide +kernel
set_option maxRecDepth 100000 in
theorem zm_77 : zMtB zSS zPl 77 4 = true := by decide +kernel
set_option maxRecDepth 100000 in
theorem zm_78 : zMtB zSS zPl 78 5 = true := by decide +kernel
set_option maxRecDepth 100000 in
theorem zm_79 : zMtB zSS zPl 79 7 = true := by decide +kernel
set_option maxRecDepth 100000 in
theorem zm_80 : zMtB zSS zPl 80 2 = true := by decide +kernel
set_option maxRecDepth 100000 in
theorem zm_81 : zMtB zSS zPl 81 2 = true := by decide +kernel
set_option maxRecDepth 100000 in
theorem zm_82 : zMtB zSS zPl 82 7 = true := by decide +kernel
set_option maxRecDepth 100000 in
theorem zm_83 : zMtB zSS zPl 83 2 = true := by decide +kernel
set_option maxRecDepth 100000 in
theorem zm_84 : zMtB zSS zPl 84 4 = true := by decide +kernel
set_option maxRecDepth 100000 in
theorem zm_85 : zMtB zSS zPl 85 3 = true := by decide +kernel
set_option maxRecDepth 100000 in
theorem zm_86 : zMtB zSS zPl 86 2 = true := by decide +kernel
set_option maxRecDepth 100000 in
theorem zm_87 : zMtB zSS zPl 87 4 = true := by decide +kernel
set_option maxRecDepth 100000 in
theorem zm_88 : zMtB zSS zPl 88 2 = true := by decide +kernel
set_option maxRecDepth 100000 in
theorem zm_89 : zMtB zSS zPl 89 4 = true := by decide +kernel
set_option maxRecDepth 100000 in
theorem zm_90 : zMtB zSS zPl 90 2 = true := by decide +kernel
set_option maxRecDepth 100000 in
theorem zm_91 : zMtB zSS zPl 91 2 = true := by decide +kernel
set_option maxRecDepth 100000 in
theorem zm_92 : zMtB zSS zPl 92 3 = true := by decide +kernel
set_option maxRecDepth 100000 in
theorem zm_93 : zMtB zSS zPl 93 3 = true := by decide +kernel
set_option maxRecDepth 100000 in
theorem zm_94 : zMtB zSS zPl 94 4 = true := by decide +kernel
set_option maxRecDepth 100000 in
theorem zm_95 : zMtB zSS zPl 95 2 = true := by decide +kernel
set_option maxRecDepth 100000 in
theorem zm_96 : zMtB zSS zPl 96 2 = true := by decide +kernel
set_option maxRecDepth 100000 in
theorem zm_97 : zMtB zSS zPl 97 2 = true := by decide +kernel
set_option maxRecDepth 100000 in
theorem zm_98 : zMtB zSS zPl 98 3 = true := by decide +kernel
set_option maxRecDepth 100000 in
theorem zm_99 : zMtB zSS zPl 99 2 = true := by decide +kernel
set_option maxRecDepth 100000 in
theorem zm_100 : zMtB zSS zPl 100 5 = true := by decide +kernel
set_option maxRecDepth 100000 in
theorem zm_101 : zMtB zSS zPl 101 3 = true := by decide +kernel
set_option maxRecDepth 100000 in
theorem zm_102 : zMtB zSS zPl 102 2 = true := by decide +kernel
set_option maxRecDepth 100000 in
theorem zm_103 : zMtB zSS zPl 103 2 = true := by decide +kernel
set_option maxRecDepth 100000 in
theorem zm_104 : zMtB zSS zPl 104 3 = true := by decide +kernel
set_option maxRecDepth 100000 in
theorem zm_105 : zMtB zSS zPl 105 1 = true := by decide +kernel
set_option maxRecDepth 100000 in
theorem zm_106 : zMtB zSS zPl 106 2 = true := by decide +kernel
set_option maxRecDepth 100000 in
theorem zm_107 : zMtB zSS zPl 107 2 = true := by decide +kernel
set_option maxRecDepth 100000 in
theorem zm_108 : zMtB zSS zPl 108 4 = true := by decide +kernel
set_option maxRecDepth 100000 in
theorem zm_109 : zMtB zSS zPl 109 6 = true := by decide +kernel
set_option maxRecDepth 100000 in
theorem zm_110 : zMtB zSS zPl 110 7 = true := by decide +kernel
set_option maxRecDepth 100000 in
theorem zm_111 : zMtB zSS zPl 111 1 = true := by decide +kernel
set_option maxRecDepth 100000 in
theorem zm_112 : zMtB zSS zPl 112 2 = true := by decide +kernel
set_option maxRecDepth 100000 in
theorem zm_113 : zMtB zSS zPl 113 1 = true := by decide +kernel
set_option maxRecDepth 100000 in
theorem zm_114 : zMtB zSS zPl 114 2 = true := by decide +kernel
set_option maxRecDepth 100000 in
theorem zm_115 : zMtB zSS zPl 115 3 = true := by decide +kernel
set_option maxRecDepth 100000 in
theorem zm_116 : zMtB zSS zPl 116 4 = true := by decide +kernel
set_option maxRecDepth 100000 in
theorem zm_117 : zMtB zSS zPl 117 4 = true := by decide +kernel
set_option maxRecDepth 100000 in
theorem zm_118 : zMtB zSS zPl 118 2 = true := by decide +kernel
set_option maxRecDepth 100000 in
theorem zm_119 : zMtB zSS zPl 119 2 = true := by decide +kernel
set_option maxRecDepth 100000 in
theorem zm_120 : zMtB zSS zPl 120 2 = true := by decide +kernel
set_option maxRecDepth 100000 in
theorem zm_121 : zMtB zSS zPl 121 1 = true := by decide +kernel
set_option maxRecDepth 100000 in
theorem zm_122 : zMtB zSS zPl 122 6 = true := by decide +kernel
set_option maxRecDepth 100000 in
theorem zm_123 : zMtB zSS zPl 123 2 = true := by decide +kernel
set_option maxRecDepth 100000 in
theorem zm_124 : zMtB zSS zPl 124 6 = true := by decide +kernel
set_option maxRecDepth 100000 in
theorem zm_125 : zMtB zSS zPl 125 1 = true := by decide +kernel
set_option maxRecDepth 100000 in
theorem zm_126 : zMtB zSS zPl 126 2 = true := by decide +kernel
set_option maxRecDepth 100000 in
theorem zm_127 : zMtB zSS zPl 127 2 = true := by decide +kernel
set_option maxRecDepth 100000 in
theorem zm_128 : zMtB zSS zPl 128 5 = true := by decide +kernel
