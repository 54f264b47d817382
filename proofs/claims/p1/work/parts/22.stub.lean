set_option maxRecDepth 100000 in
theorem zk_untied : zq 87 [(0, zRef (some 0))] zh0 (zThen 149 [(0, zRef (some 102))]) = true := sorry

set_option maxRecDepth 100000 in
theorem zk_on_2 : zq 77 [(0, zRef (some 0)), (1, .inl 1)] zh0 (zThen 129 [(0, zRef (some 102)), (1, .inl 1)]) = true := sorry
set_option maxRecDepth 100000 in
theorem zk_on_3 : zq 77 [(0, zRef (some 0)), (1, .inl 2)] zh0 (zThen 129 [(0, zRef (some 102)), (1, .inl 2)]) = true := sorry
set_option maxRecDepth 100000 in
theorem zk_on_4 : zq 77 [(0, zRef (some 0)), (1, .inl 3)] zh0 (zThen 129 [(0, zRef (some 102)), (1, .inl 3)]) = true := sorry
set_option maxRecDepth 100000 in
theorem zk_on_5 : zq 77 [(0, zRef (some 0)), (1, .inl 4)] zh0 (zThen 129 [(0, zRef (some 102)), (1, .inl 4)]) = true := sorry
set_option maxRecDepth 100000 in
theorem zk_on_6 : zq 77 [(0, zRef (some 0)), (1, .inl 5)] zh0 (zThen 129 [(0, zRef (some 102)), (1, .inl 5)]) = true := sorry
set_option maxRecDepth 100000 in
theorem zk_on_7 : zq 77 [(0, zRef (some 0)), (1, .inl 6)] zh0 (zThen 129 [(0, zRef (some 102)), (1, .inl 6)]) = true := sorry
set_option maxRecDepth 100000 in
theorem zk_on_8 : zq 77 [(0, zRef (some 0)), (1, .inl 7)] zh0 (zThen 129 [(0, zRef (some 102)), (1, .inl 7)]) = true := sorry
set_option maxRecDepth 100000 in
theorem zk_on_9 : zq 77 [(0, zRef (some 0)), (1, .inl 8)] zh0 (zThen 129 [(0, zRef (some 102)), (1, .inl 8)]) = true := sorry
set_option maxRecDepth 100000 in
theorem zk_on_10 : zq 77 [(0, zRef (some 0)), (1, .inl 9)] zh0 (zThen 129 [(0, zRef (some 102)), (1, .inl 9)]) = true := sorry
set_option maxRecDepth 100000 in
theorem zk_on_11 : zq 77 [(0, zRef (some 0)), (1, .inl 10)] zh0 (zThen 129 [(0, zRef (some 102)), (1, .inl 10)]) = true := sorry
set_option maxRecDepth 100000 in
theorem zk_on_12 : zq 77 [(0, zRef (some 0)), (1, .inl 11)] zh0 (zThen 129 [(0, zRef (some 102)), (1, .inl 11)]) = true := sorry
set_option maxRecDepth 100000 in
theorem zk_on_13 : zq 77 [(0, zRef (some 0)), (1, .inl 12)] zh0 (zThen 129 [(0, zRef (some 102)), (1, .inl 12)]) = true := sorry
set_option maxRecDepth 100000 in
theorem zk_on_14 : zq 77 [(0, zRef (some 0)), (1, .inl 13)] zh0 (zThen 129 [(0, zRef (some 102)), (1, .inl 13)]) = true := sorry
set_option maxRecDepth 100000 in
theorem zk_on_15 : zq 77 [(0, zRef (some 0)), (1, .inl 14)] zh0 (zThen 129 [(0, zRef (some 102)), (1, .inl 14)]) = true := sorry
set_option maxRecDepth 100000 in
theorem zk_on_16 : zq 77 [(0, zRef (some 0)), (1, .inl 15)] zh0 (zThen 129 [(0, zRef (some 102)), (1, .inl 15)]) = true := sorry
set_option maxRecDepth 100000 in
theorem zk_on_17 : zq 77 [(0, zRef (some 0)), (1, .inl 16)] zh0 (zThen 129 [(0, zRef (some 102)), (1, .inl 16)]) = true := sorry
set_option maxRecDepth 100000 in
theorem zk_on_18 : zq 77 [(0, zRef (some 0)), (1, .inl 17)] zh0 (zThen 129 [(0, zRef (some 102)), (1, .inl 17)]) = true := sorry
set_option maxRecDepth 100000 in
theorem zk_on_19 : zq 77 [(0, zRef (some 0)), (1, .inl 18)] zh0 (zThen 129 [(0, zRef (some 102)), (1, .inl 18)]) = true := sorry
set_option maxRecDepth 100000 in
theorem zk_on_20 : zq 77 [(0, zRef (some 0)), (1, .inl 19)] zh0 (zThen 129 [(0, zRef (some 102)), (1, .inl 19)]) = true := sorry
set_option maxRecDepth 100000 in
theorem zk_on_21 : zq 77 [(0, zRef (some 0)), (1, .inl 20)] zh0 (zThen 129 [(0, zRef (some 102)), (1, .inl 20)]) = true := sorry
set_option maxRecDepth 100000 in
theorem zk_on_22 : zq 77 [(0, zRef (some 0)), (1, .inl 21)] zh0 (zThen 129 [(0, zRef (some 102)), (1, .inl 21)]) = true := sorry
set_option maxRecDepth 100000 in
theorem zk_on_23 : zq 77 [(0, zRef (some 0)), (1, .inl 22)] zh0 (zThen 129 [(0, zRef (some 102)), (1, .inl 22)]) = true := sorry
set_option maxRecDepth 100000 in
theorem zk_on_24 : zq 77 [(0, zRef (some 0)), (1, .inl 23)] zh0 (zThen 129 [(0, zRef (some 102)), (1, .inl 23)]) = true := sorry
set_option maxRecDepth 100000 in
theorem zk_on_25 : zq 77 [(0, zRef (some 0)), (1, .inl 24)] zh0 (zThen 129 [(0, zRef (some 102)), (1, .inl 24)]) = true := sorry
set_option maxRecDepth 100000 in
theorem zk_on_26 : zq 77 [(0, zRef (some 0)), (1, .inl 25)] zh0 (zThen 129 [(0, zRef (some 102)), (1, .inl 25)]) = true := sorry

set_option maxRecDepth 100000 in
theorem zk_on_27 : zq 77 [(0, zRef (some 0)), (1, .inl 26)] zh0 (zThen 129 [(0, zRef (some 102)), (1, .inl 26)]) = true := sorry
set_option maxRecDepth 100000 in
theorem zk_on_28 : zq 77 [(0, zRef (some 0)), (1, .inl 27)] zh0 (zThen 129 [(0, zRef (some 102)), (1, .inl 27)]) = true := sorry
set_option maxRecDepth 100000 in
theorem zk_on_29 : zq 77 [(0, zRef (some 0)), (1, .inl 28)] zh0 (zThen 129 [(0, zRef (some 102)), (1, .inl 28)]) = true := sorry
set_option maxRecDepth 100000 in
theorem zk_on_30 : zq 77 [(0, zRef (some 0)), (1, .inl 29)] zh0 (zThen 129 [(0, zRef (some 102)), (1, .inl 29)]) = true := sorry
set_option maxRecDepth 100000 in
theorem zk_on_31 : zq 77 [(0, zRef (some 0)), (1, .inl 30)] zh0 (zThen 129 [(0, zRef (some 102)), (1, .inl 30)]) = true := sorry
set_option maxRecDepth 100000 in
theorem zk_on_32 : zq 77 [(0, zRef (some 0)), (1, .inl 31)] zh0 (zThen 129 [(0, zRef (some 102)), (1, .inl 31)]) = true := sorry
set_option maxRecDepth 100000 in
theorem zk_on_33 : zq 77 [(0, zRef (some 0)), (1, .inl 32)] zh0 (zThen 129 [(0, zRef (some 102)), (1, .inl 32)]) = true := sorry
set_option maxRecDepth 100000 in
theorem zk_on_34 : zq 77 [(0, zRef (some 0)), (1, .inl 33)] zh0 (zThen 129 [(0, zRef (some 102)), (1, .inl 33)]) = true := sorry
set_option maxRecDepth 100000 in
theorem zk_on_35 : zq 77 [(0, zRef (some 0)), (1, .inl 34)] zh0 (zThen 129 [(0, zRef (some 102)), (1, .inl 34)]) = true := sorry
set_option maxRecDepth 100000 in
theorem zk_on_36 : zq 77 [(0, zRef (some 0)), (1, .inl 35)] zh0 (zThen 129 [(0, zRef (some 102)), (1, .inl 35)]) = true := sorry
set_option maxRecDepth 100000 in
theorem zk_on_37 : zq 77 [(0, zRef (some 0)), (1, .inl 36)] zh0 (zThen 129 [(0, zRef (some 102)), (1, .inl 36)]) = true := sorry
set_option maxRecDepth 100000 in
theorem zk_on_38 : zq 77 [(0, zRef (some 0)), (1, .inl 37)] zh0 (zThen 129 [(0, zRef (some 102)), (1, .inl 37)]) = true := sorry
set_option maxRecDepth 100000 in
theorem zk_on_39 : zq 77 [(0, zRef (some 0)), (1, .inl 38)] zh0 (zThen 129 [(0, zRef (some 102)), (1, .inl 38)]) = true := sorry
set_option maxRecDepth 100000 in
theorem zk_on_40 : zq 77 [(0, zRef (some 0)), (1, .inl 39)] zh0 (zThen 129 [(0, zRef (some 102)), (1, .inl 39)]) = true := sorry
set_option maxRecDepth 100000 in
theorem zk_on_41 : zq 77 [(0, zRef (some 0)), (1, .inl 40)] zh0 (zThen 129 [(0, zRef (some 102)), (1, .inl 40)]) = true := sorry
set_option maxRecDepth 100000 in
theorem zk_on_42 : zq 77 [(0, zRef (some 0)), (1, .inl 41)] zh0 (zThen 129 [(0, zRef (some 102)), (1, .inl 41)]) = true := sorry
set_option maxRecDepth 100000 in
theorem zk_on_43 : zq 77 [(0, zRef (some 0)), (1, .inl 42)] zh0 (zThen 129 [(0, zRef (some 102)), (1, .inl 42)]) = true := sorry
set_option maxRecDepth 100000 in
theorem zk_on_44 : zq 77 [(0, zRef (some 0)), (1, .inl 43)] zh0 (zThen 129 [(0, zRef (some 102)), (1, .inl 43)]) = true := sorry
set_option maxRecDepth 100000 in
theorem zk_on_45 : zq 77 [(0, zRef (some 0)), (1, .inl 44)] zh0 (zThen 129 [(0, zRef (some 102)), (1, .inl 44)]) = true := sorry
set_option maxRecDepth 100000 in
theorem zk_on_46 : zq 77 [(0, zRef (some 0)), (1, .inl 45)] zh0 (zThen 129 [(0, zRef (some 102)), (1, .inl 45)]) = true := sorry
set_option maxRecDepth 100000 in
theorem zk_on_47 : zq 77 [(0, zRef (some 0)), (1, .inl 46)] zh0 (zThen 129 [(0, zRef (some 102)), (1, .inl 46)]) = true := sorry
set_option maxRecDepth 100000 in
theorem zk_on_48 : zq 77 [(0, zRef (some 0)), (1, .inl 47)] zh0 (zThen 129 [(0, zRef (some 102)), (1, .inl 47)]) = true := sorry
set_option maxRecDepth 100000 in
theorem zk_on_49 : zq 77 [(0, zRef (some 0)), (1, .inl 48)] zh0 (zThen 129 [(0, zRef (some 102)), (1, .inl 48)]) = true := sorry
set_option maxRecDepth 100000 in
theorem zk_on_50 : zq 77 [(0, zRef (some 0)), (1, .inl 49)] zh0 (zThen 129 [(0, zRef (some 102)), (1, .inl 49)]) = true := sorry
set_option maxRecDepth 100000 in
theorem zk_on_51 : zq 77 [(0, zRef (some 0)), (1, .inl 50)] zh0 (zThen 129 [(0, zRef (some 102)), (1, .inl 50)]) = true := sorry

set_option maxRecDepth 100000 in
theorem zk_on_52 : zq 77 [(0, zRef (some 0)), (1, .inl 51)] zh0 (zThen 129 [(0, zRef (some 102)), (1, .inl 51)]) = true := sorry
set_option maxRecDepth 100000 in
theorem zk_on_53 : zq 77 [(0, zRef (some 0)), (1, .inl 52)] zh0 (zThen 129 [(0, zRef (some 102)), (1, .inl 52)]) = true := sorry
set_option maxRecDepth 100000 in
theorem zk_on_54 : zq 77 [(0, zRef (some 0)), (1, .inl 53)] zh0 (zThen 129 [(0, zRef (some 102)), (1, .inl 53)]) = true := sorry
set_option maxRecDepth 100000 in
theorem zk_on_55 : zq 77 [(0, zRef (some 0)), (1, .inl 54)] zh0 (zThen 129 [(0, zRef (some 102)), (1, .inl 54)]) = true := sorry
set_option maxRecDepth 100000 in
theorem zk_on_56 : zq 77 [(0, zRef (some 0)), (1, .inl 55)] zh0 (zThen 129 [(0, zRef (some 102)), (1, .inl 55)]) = true := sorry
set_option maxRecDepth 100000 in
theorem zk_on_57 : zq 77 [(0, zRef (some 0)), (1, .inl 56)] zh0 (zThen 129 [(0, zRef (some 102)), (1, .inl 56)]) = true := sorry
set_option maxRecDepth 100000 in
theorem zk_on_58 : zq 77 [(0, zRef (some 0)), (1, .inl 57)] zh0 (zThen 129 [(0, zRef (some 102)), (1, .inl 57)]) = true := sorry
set_option maxRecDepth 100000 in
theorem zk_on_59 : zq 77 [(0, zRef (some 0)), (1, .inl 58)] zh0 (zThen 129 [(0, zRef (some 102)), (1, .inl 58)]) = true := sorry
set_option maxRecDepth 100000 in
theorem zk_on_60 : zq 77 [(0, zRef (some 0)), (1, .inl 59)] zh0 (zThen 129 [(0, zRef (some 102)), (1, .inl 59)]) = true := sorry
set_option maxRecDepth 100000 in
theorem zk_on_61 : zq 77 [(0, zRef (some 0)), (1, .inl 60)] zh0 (zThen 129 [(0, zRef (some 102)), (1, .inl 60)]) = true := sorry
set_option maxRecDepth 100000 in
theorem zk_on_62 : zq 77 [(0, zRef (some 0)), (1, .inl 61)] zh0 (zThen 129 [(0, zRef (some 102)), (1, .inl 61)]) = true := sorry
set_option maxRecDepth 100000 in
theorem zk_on_63 : zq 77 [(0, zRef (some 0)), (1, .inl 62)] zh0 (zThen 129 [(0, zRef (some 102)), (1, .inl 62)]) = true := sorry
set_option maxRecDepth 100000 in
theorem zk_on_64 : zq 77 [(0, zRef (some 0)), (1, .inl 63)] zh0 (zThen 129 [(0, zRef (some 102)), (1, .inl 63)]) = true := sorry
set_option maxRecDepth 100000 in
theorem zk_on_65 : zq 77 [(0, zRef (some 0)), (1, .inl 64)] zh0 (zThen 129 [(0, zRef (some 102)), (1, .inl 64)]) = true := sorry
set_option maxRecDepth 100000 in
theorem zk_on_66 : zq 77 [(0, zRef (some 0)), (1, .inl 65)] zh0 (zThen 129 [(0, zRef (some 102)), (1, .inl 65)]) = true := sorry
set_option maxRecDepth 100000 in
theorem zk_on_67 : zq 77 [(0, zRef (some 0)), (1, .inl 66)] zh0 (zThen 129 [(0, zRef (some 102)), (1, .inl 66)]) = true := sorry
set_option maxRecDepth 100000 in
theorem zk_on_68 : zq 77 [(0, zRef (some 0)), (1, .inl 67)] zh0 (zThen 129 [(0, zRef (some 102)), (1, .inl 67)]) = true := sorry
set_option maxRecDepth 100000 in
theorem zk_on_69 : zq 77 [(0, zRef (some 0)), (1, .inl 68)] zh0 (zThen 129 [(0, zRef (some 102)), (1, .inl 68)]) = true := sorry
set_option maxRecDepth 100000 in
theorem zk_on_70 : zq 77 [(0, zRef (some 0)), (1, .inl 69)] zh0 (zThen 129 [(0, zRef (some 102)), (1, .inl 69)]) = true := sorry
set_option maxRecDepth 100000 in
theorem zk_on_71 : zq 77 [(0, zRef (some 0)), (1, .inl 70)] zh0 (zThen 129 [(0, zRef (some 102)), (1, .inl 70)]) = true := sorry
set_option maxRecDepth 100000 in
theorem zk_on_72 : zq 77 [(0, zRef (some 0)), (1, .inl 71)] zh0 (zThen 129 [(0, zRef (some 102)), (1, .inl 71)]) = true := sorry
set_option maxRecDepth 100000 in
theorem zk_on_73 : zq 77 [(0, zRef (some 0)), (1, .inl 72)] zh0 (zThen 129 [(0, zRef (some 102)), (1, .inl 72)]) = true := sorry
set_option maxRecDepth 100000 in
theorem zk_on_74 : zq 77 [(0, zRef (some 0)), (1, .inl 73)] zh0 (zThen 129 [(0, zRef (some 102)), (1, .inl 73)]) = true := sorry
set_option maxRecDepth 100000 in
theorem zk_on_75 : zq 77 [(0, zRef (some 0)), (1, .inl 74)] zh0 (zThen 129 [(0, zRef (some 102)), (1, .inl 74)]) = true := sorry
set_option maxRecDepth 100000 in
theorem zk_on_76 : zq 77 [(0, zRef (some 0)), (1, .inl 75)] zh0 (zThen 129 [(0, zRef (some 102)), (1, .inl 75)]) = true := sorry

set_option maxRecDepth 100000 in
theorem zk_on_77 : zq 77 [(0, zRef (some 0)), (1, .inl 76)] zh0 (zThen 129 [(0, zRef (some 102)), (1, .inl 76)]) = true := sorry
set_option maxRecDepth 100000 in
theorem zk_on_78 : zq 77 [(0, zRef (some 0)), (1, .inl 77)] zh0 (zThen 129 [(0, zRef (some 102)), (1, .inl 77)]) = true := sorry
set_option maxRecDepth 100000 in
theorem zk_on_79 : zq 77 [(0, zRef (some 0)), (1, .inl 78)] zh0 (zThen 129 [(0, zRef (some 102)), (1, .inl 78)]) = true := sorry
set_option maxRecDepth 100000 in
theorem zk_on_80 : zq 77 [(0, zRef (some 0)), (1, .inl 79)] zh0 (zThen 129 [(0, zRef (some 102)), (1, .inl 79)]) = true := sorry
set_option maxRecDepth 100000 in
theorem zk_on_81 : zq 77 [(0, zRef (some 0)), (1, .inl 80)] zh0 (zThen 129 [(0, zRef (some 102)), (1, .inl 80)]) = true := sorry
set_option maxRecDepth 100000 in
theorem zk_on_82 : zq 77 [(0, zRef (some 0)), (1, .inl 81)] zh0 (zThen 129 [(0, zRef (some 102)), (1, .inl 81)]) = true := sorry
set_option maxRecDepth 100000 in
theorem zk_on_83 : zq 77 [(0, zRef (some 0)), (1, .inl 82)] zh0 (zThen 129 [(0, zRef (some 102)), (1, .inl 82)]) = true := sorry
set_option maxRecDepth 100000 in
theorem zk_on_84 : zq 77 [(0, zRef (some 0)), (1, .inl 83)] zh0 (zThen 129 [(0, zRef (some 102)), (1, .inl 83)]) = true := sorry
set_option maxRecDepth 100000 in
theorem zk_on_85 : zq 77 [(0, zRef (some 0)), (1, .inl 84)] zh0 (zThen 129 [(0, zRef (some 102)), (1, .inl 84)]) = true := sorry
set_option maxRecDepth 100000 in
theorem zk_on_86 : zq 77 [(0, zRef (some 0)), (1, .inl 85)] zh0 (zThen 129 [(0, zRef (some 102)), (1, .inl 85)]) = true := sorry
set_option maxRecDepth 100000 in
theorem zk_on_87 : zq 77 [(0, zRef (some 0)), (1, .inl 86)] zh0 (zThen 129 [(0, zRef (some 102)), (1, .inl 86)]) = true := sorry
set_option maxRecDepth 100000 in
theorem zk_on_88 : zq 77 [(0, zRef (some 0)), (1, .inl 87)] zh0 (zThen 129 [(0, zRef (some 102)), (1, .inl 87)]) = true := sorry
set_option maxRecDepth 100000 in
theorem zk_on_89 : zq 77 [(0, zRef (some 0)), (1, .inl 88)] zh0 (zThen 129 [(0, zRef (some 102)), (1, .inl 88)]) = true := sorry
set_option maxRecDepth 100000 in
theorem zk_on_90 : zq 77 [(0, zRef (some 0)), (1, .inl 89)] zh0 (zThen 129 [(0, zRef (some 102)), (1, .inl 89)]) = true := sorry
set_option maxRecDepth 100000 in
theorem zk_on_91 : zq 77 [(0, zRef (some 0)), (1, .inl 90)] zh0 (zThen 129 [(0, zRef (some 102)), (1, .inl 90)]) = true := sorry
set_option maxRecDepth 100000 in
theorem zk_on_92 : zq 77 [(0, zRef (some 0)), (1, .inl 91)] zh0 (zThen 129 [(0, zRef (some 102)), (1, .inl 91)]) = true := sorry
set_option maxRecDepth 100000 in
theorem zk_on_93 : zq 77 [(0, zRef (some 0)), (1, .inl 92)] zh0 (zThen 129 [(0, zRef (some 102)), (1, .inl 92)]) = true := sorry
set_option maxRecDepth 100000 in
theorem zk_on_94 : zq 77 [(0, zRef (some 0)), (1, .inl 93)] zh0 (zThen 129 [(0, zRef (some 102)), (1, .inl 93)]) = true := sorry
set_option maxRecDepth 100000 in
theorem zk_on_95 : zq 77 [(0, zRef (some 0)), (1, .inl 94)] zh0 (zThen 129 [(0, zRef (some 102)), (1, .inl 94)]) = true := sorry
set_option maxRecDepth 100000 in
theorem zk_on_96 : zq 77 [(0, zRef (some 0)), (1, .inl 95)] zh0 (zThen 129 [(0, zRef (some 102)), (1, .inl 95)]) = true := sorry
set_option maxRecDepth 100000 in
theorem zk_on_97 : zq 77 [(0, zRef (some 0)), (1, .inl 96)] zh0 (zThen 129 [(0, zRef (some 102)), (1, .inl 96)]) = true := sorry
set_option maxRecDepth 100000 in
theorem zk_on_98 : zq 77 [(0, zRef (some 0)), (1, .inl 97)] zh0 (zThen 129 [(0, zRef (some 102)), (1, .inl 97)]) = true := sorry
set_option maxRecDepth 100000 in
theorem zk_on_99 : zq 77 [(0, zRef (some 0)), (1, .inl 98)] zh0 (zThen 129 [(0, zRef (some 102)), (1, .inl 98)]) = true := sorry
set_option maxRecDepth 100000 in
theorem zk_on_100 : zq 77 [(0, zRef (some 0)), (1, .inl 99)] zh0 (zThen 129 [(0, zRef (some 102)), (1, .inl 99)]) = true := sorry
set_option maxRecDepth 100000 in
theorem zk_on_101 : zq 77 [(0, zRef (some 0)), (1, .inl 100)] zh0 (zThen 129 [(0, zRef (some 102)), (1, .inl 100)]) = true := sorry
