/-! printed by wip/whole/y/gen67.py: the rows are the methods' own (1 of 3) -/
set_option maxRecDepth 100000 in
theorem zr_0 : zc_0.all (fun l => l.all (yRowB zSS zGG zPl 0)) = true := by decide +kernel
set_option maxRecDepth 100000 in
theorem zr_1 : zc_1.all (fun l => l.all (yRowB zSS zGG zPl 1)) = true := by decide +kernel
set_option maxRecDepth 100000 in
theorem zr_2 : zc_2.all (fun l => l.all (yRowB zSS zGG zPl 2)) = true := by decide +kernel
set_option maxRecDepth 100000 in
theorem zr_3 : zc_3.all (fun l => l.all (yRowB zSS zGG zPl 3)) = true := by decide +kernel
set_option maxRecDepth 100000 in
theorem zr_4 : zc_4.all (fun l => l.all (yRowB zSS zGG zPl 4)) = true := by decide +kernel
set_option maxRecDepth 100000 in
theorem zr_5 : zc_5.all (fun l => l.all (yRowB zSS zGG zPl 5)) = true := by decide +kernel
set_option maxRecDepth 100000 in
theorem zr_6 : zc_6.all (fun l => l.all (yRowB zSS zGG zPl 6)) = true := by decide +kernel
set_option maxRecDepth 100000 in
theorem zr_7 : zc_7.all (fun l => l.all (yRowB zSS zGG zPl 7)) = true := by decide +kernel
set_option maxRecDepth 100000 in
theorem zr_8 : zc_8.all (fun l => l.all (yRowB zSS zGG zPl 8)) = true := by decide +kernel
set_option maxRecDepth 100000 in
theorem zr_9 : zc_9.all (fun l => l.all (yRowB zSS zGG zPl 9)) = true := by decide +kernel
set_option maxRecDepth 100000 in
theorem zr_10 : zc_10.all (fun l => l.all (yRowB zSS zGG zPl 10)) = true := by decide +kernel
set_option maxRecDepth 100000 in
theorem zr_11 : zc_11.all (fun l => l.all (yRowB zSS zGG zPl 11)) = true := by decide +kernel
set_option maxRecDepth 100000 in
theorem zr_12 : zc_12.all (fun l => l.all (yRowB zSS zGG zPl 12)) = true := by decide +kernel
set_option maxRecDepth 100000 in
theorem zr_13 : zc_13.all (fun l => l.all (yRowB zSS zGG zPl 13)) = true := by decide +kernel
set_option maxRecDepth 100000 in
theorem zr_14 : zc_14.all (fun l => l.all (yRowB zSS zGG zPl 14)) = true := by decide +kernel
set_option maxRecDepth 100000 in
theorem zr_15 : zc_15.all (fun l => l.all (yRowB zSS zGG zPl 15)) = true := by decide +kernel
set_option maxRecDepth 100000 in
theorem zr_16 : zc_16.all (fun l => l.all (yRowB zSS zGG zPl 16)) = true := by decide +kernel
set_option maxRecDepth 100000 in
theorem zr_17 : zc_17.all (fun l => l.all (yRowB zSS zGG zPl 17)) = true := by decide +kernel
set_option maxRecDepth 100000 in
theorem zr_18 : zc_18.all (fun l => l.all (yRowB zSS zGG zPl 18)) = true := by decide +kernel
set_option maxRecDepth 100000 in
theorem zr_19 : zc_19.all (fun l => l.all (yRowB zSS zGG zPl 19)) = true := by decide +kernel
set_option maxRecDepth 100000 in
theorem zr_20 : zc_20.all (fun l => l.all (yRowB zSS zGG zPl 20)) = true := by decide +kernel
set_option maxRecDepth 100000 in
theorem zr_21 : zc_21.all (fun l => l.all (yRowB zSS zGG zPl 21)) = true := by decide +kernel
set_option maxRecDepth 100000 in
theorem zr_22 : zc_22.all (fun l => l.all (yRowB zSS zGG zPl 22)) = true := by decide +kernel
set_option maxRecDepth 100000 in
theorem zr_23 : zc_23.all (fun l => l.all (yRowB zSS zGG zPl 23)) = true := by decide +kernel
set_option maxRecDepth 100000 in
theorem zr_24 : zc_24.all (fun l => l.all (yRowB zSS zGG zPl 24)) = true := by decide +kernel
set_option maxRecDepth 100000 in
theorem zr_25 : zc_25.all (fun l => l.all (yRowB zSS zGG zPl 25)) = true := by decide +kernel
set_option maxRecDepth 100000 in
theorem zr_26 : zc_26.all (fun l => l.all (yRowB zSS zGG zPl 26)) = true := by decide +kernel
set_option maxRecDepth 100000 in
theorem zr_27 : zc_27.all (fun l => l.all (yRowB zSS zGG zPl 27)) = true := by decide +kernel
set_option maxRecDepth 100000 in
theorem zr_28 : zc_28.all (fun l => l.all (yRowB zSS zGG zPl 28)) = true := by decide +kernel
set_option maxRecDepth 100000 in
theorem zr_29 : zc_29.all (fun l => l.all (yRowB zSS zGG zPl 29)) = true := by decide +kernel
set_option maxRecDepth 100000 in
theorem zr_30 : zc_30.all (fun l => l.all (yRowB zSS zGG zPl 30)) = true := by decide +kernel
set_option maxRecDepth 100000 in
theorem zr_31 : zc_31.all (fun l => l.all (yRowB zSS zGG zPl 31)) = true := by decide +kernel
set_option maxRecDepth 100000 in
theorem zr_32 : zc_32.all (fun l => l.all (yRowB zSS zGG zPl 32)) = true := by decide +kernel
set_option maxRecDepth 100000 in
theorem zr_33 : zc_33.all (fun l => l.all (yRowB zSS zGG zPl 33)) = true := by decide +kernel
set_option maxRecDepth 100000 in
theorem zr_34 : zc_34.all (fun l => l.all (yRowB zSS zGG zPl 34)) = true := by decide +kernel
set_option maxRecDepth 100000 in
theorem zr_35 : zc_35.all (fun l => l.all (yRowB zSS zGG zPl 35)) = true := by decide +kernel
set_option maxRecDepth 100000 in
theorem zr_36 : zc_36.all (fun l => l.all (yRowB zSS zGG zPl 36)) = true := by decide +kernel
set_option maxRecDepth 100000 in
theorem zr_37 : zc_37.all (fun l => l.all (yRowB zSS zGG zPl 37)) = true := by decide +kernel
set_option maxRecDepth 100000 in
theorem zr_38 : zc_38.all (fun l => l.all (yRowB zSS zGG zPl 38)) = true := by decide +kernel
set_option maxRecDepth 100000 in
theorem zr_39 : zc_39.all (fun l => l.all (yRowB zSS zGG zPl 39)) = true := by decide +kernel
set_option maxRecDepth 100000 in
theorem zr_40 : zc_40.all (fun l => l.all (yRowB zSS zGG zPl 40)) = true := by decide +kernel
set_option maxRecDepth 100000 in
theorem zr_41 : zc_41.all (fun l => l.all (yRowB zSS zGG zPl 41)) = true := by decide +kernel
set_option maxRecDepth 100000 in
theorem zr_42 : zc_42.all (fun l => l.all (yRowB zSS zGG zPl 42)) = true := by decide +kernel
set_option maxRecDepth 100000 in
theorem zr_43 : zc_43.all (fun l => l.all (yRowB zSS zGG zPl 43)) = true := by decide +kernel
set_option maxRecDepth 100000 in
theorem zr_44 : zc_44.all (fun l => l.all (yRowB zSS zGG zPl 44)) = true := by decide +kernel
set_option maxRecDepth 100000 in
theorem zr_45 : zc_45.all (fun l => l.all (yRowB zSS zGG zPl 45)) = true := by decide +kernel
set_option maxRecDepth 100000 in
theorem zr_46 : zc_46.all (fun l => l.all (yRowB zSS zGG zPl 46)) = true := by decide +kernel
set_option maxRecDepth 100000 in
theorem zr_47 : zc_47.all (fun l => l.all (yRowB zSS zGG zPl 47)) = true := by decide +kernel
set_option maxRecDepth 100000 in
theorem zr_48 : zc_48.all (fun l => l.all (yRowB zSS zGG zPl 48)) = true := by decide +kernel
set_option maxRecDepth 100000 in
theorem zr_49 : zc_49.all (fun l => l.all (yRowB zSS zGG zPl 49)) = true := by decide +kernel
set_option maxRecDepth 100000 in
theorem zr_50 : zc_50.all (fun l => l.all (yRowB zSS zGG zPl 50)) = true := by decide +kernel
set_option maxRecDepth 100000 in
theorem zr_51 : zc_51.all (fun l => l.all (yRowB zSS zGG zPl 51)) = true := by decide +kernel
set_option maxRecDepth 100000 in
theorem zr_52 : zc_52.all (fun l => l.all (yRowB zSS zGG zPl 52)) = true := by decide +kernel
set_option maxRecDepth 100000 in
theorem zr_53 : zc_53.all (fun l => l.all (yRowB zSS zGG zPl 53)) = true := by decide +kernel
set_option maxRecDepth 100000 in
theorem zr_54 : zc_54.all (fun l => l.all (yRowB zSS zGG zPl 54)) = true := by decide +kernel
set_option maxRecDepth 100000 in
theorem zr_55 : zc_55.all (fun l => l.all (yRowB zSS zGG zPl 55)) = true := by decide +kernel
set_option maxRecDepth 100000 in
theorem zr_56 : zc_56.all (fun l => l.all (yRowB zSS zGG zPl 56)) = true := by decide +kernel
set_option maxRecDepth 100000 in
theorem zr_57 : zc_57.all (fun l => l.all (yRowB zSS zGG zPl 57)) = true := by decide +kernel
set_option maxRecDepth 100000 in
theorem zr_58 : zc_58.all (fun l => l.all (yRowB zSS zGG zPl 58)) = true := by decide +kernel
set_option maxRecDepth 100000 in
theorem zr_59 : zc_59.all (fun l => l.all (yRowB zSS zGG zPl 59)) = true := by decide +kernel
set_option maxRecDepth 100000 in
theorem zr_60 : zc_60.all (fun l => l.all (yRowB zSS zGG zPl 60)) = true := by decide +kernel
set_option maxRecDepth 100000 in
theorem zr_61 : zc_61.all (fun l => l.all (yRowB zSS zGG zPl 61)) = true := by decide +kernel
set_option maxRecDepth 100000 in
theorem zr_62 : zc_62.all (fun l => l.all (yRowB zSS zGG zPl 62)) = true := by decide +kernel
set_option maxRecDepth 100000 in
theorem zr_63 : zc_63.all (fun l => l.all (yRowB zSS zGG zPl 63)) = true := by decide +kernel
set_option maxRecDepth 100000 in
theorem zr_64 : zc_64.all (fun l => l.all (yRowB zSS zGG zPl 64)) = true := by decide +kernel
set_option maxRecDepth 100000 in
theorem zr_65 : zc_65.all (fun l => l.all (yRowB zSS zGG zPl 65)) = true := by decide +kernel
set_option maxRecDepth 100000 in
theorem zr_66 : zc_66.all (fun l => l.all (yRowB zSS zGG zPl 66)) = true := by decide +kernel
set_option maxRecDepth 100000 in
theorem zr_67 : zc_67.all (fun l => l.all (yRowB zSS zGG zPl 67)) = true := by decide +kernel
set_option maxRecDepth 100000 in
theorem zr_68 : zc_68.all (fun l => l.all (yRowB zSS zGG zPl 68)) = true := by decide +kernel
set_option maxRecDepth 100000 in
theorem zr_69 : zc_69.all (fun l => l.all (yRowB zSS zGG zPl 69)) = true := by decide +kernel
set_option maxRecDepth 100000 in
theorem zr_70 : zc_70.all (fun l => l.all (yRowB zSS zGG zPl 70)) = true := by decide +kernel
set_option maxRecDepth 100000 in
theorem zr_71 : zc_71.all (fun l => l.all (yRowB zSS zGG zPl 71)) = true := by decide +kernel
set_option maxRecDepth 100000 in
theorem zr_72 : zc_72.all (fun l => l.all (yRowB zSS zGG zPl 72)) = true := by decide +kernel
set_option maxRecDepth 100000 in
theorem zr_73 : zc_73.all (fun l => l.all (yRowB zSS zGG zPl 73)) = true := by decide +kernel
set_option maxRecDepth 100000 in
theorem zr_74 : zc_74.all (fun l => l.all (yRowB zSS zGG zPl 74)) = true := by decide +kernel
set_option maxRecDepth 100000 in
theorem zr_75 : zc_75.all (fun l => l.all (yRowB zSS zGG zPl 75)) = true := by decide +kernel
set_option maxRecDepth 100000 in
theorem zr_76 : zc_76.all (fun l => l.all (yRowB zSS zGG zPl 76)) = true := by decide +kernel
set_option maxRecDepth 100000 in
theorem zr_77 : zc_77.all (fun l => l.all (yRowB zSS zGG zPl 77)) = true := by decide +kernel
set_option maxRecDepth 100000 in
theorem zr_78 : zc_78.all (fun l => l.all (yRowB zSS zGG zPl 78)) = true := by decide +kernel
set_option maxRecDepth 100000 in
theorem zr_79 : zc_79.all (fun l => l.all (yRowB zSS zGG zPl 79)) = true := by decide +kernel
set_option maxRecDepth 100000 in
theorem zr_80 : zc_80.all (fun l => l.all (yRowB zSS zGG zPl 80)) = true := by decide +kernel
set_option maxRecDepth 100000 in
theorem zr_81 : zc_81.all (fun l => l.all (yRowB zSS zGG zPl 81)) = true := by decide +kernel
set_option maxRecDepth 100000 in
theorem zr_82 : zc_82.all (fun l => l.all (yRowB zSS zGG zPl 82)) = true := by decide +kernel
set_option maxRecDepth 100000 in
theorem zr_83 : zc_83.all (fun l => l.all (yRowB zSS zGG zPl 83)) = true := by decide +kernel
set_option maxRecDepth 100000 in
theorem zr_84 : zc_84.all (fun l => l.all (yRowB zSS zGG zPl 84)) = true := by decide +kernel
set_option maxRecDepth 100000 in
theorem zr_85 : zc_85.all (fun l => l.all (yRowB zSS zGG zPl 85)) = true := by decide +kernel
