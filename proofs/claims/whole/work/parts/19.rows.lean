set_option maxRecDepth 100000 in
theorem zr_0 : (zMtB zSS zPl 0 1 && zc_0.all (fun l => l.all (zRowB zSS zGG zPl 0))) = true := by decide +kernel
set_option maxRecDepth 100000 in
theorem zr_1 : (zMtB zSS zPl 1 2 && zc_1.all (fun l => l.all (zRowB zSS zGG zPl 1))) = true := by decide +kernel
set_option maxRecDepth 100000 in
theorem zr_2 : (zMtB zSS zPl 2 2 && zc_2.all (fun l => l.all (zRowB zSS zGG zPl 2))) = true := by decide +kernel
set_option maxRecDepth 100000 in
theorem zr_3 : (zMtB zSS zPl 3 1 && zc_3.all (fun l => l.all (zRowB zSS zGG zPl 3))) = true := by decide +kernel
set_option maxRecDepth 100000 in
theorem zr_4 : (zMtB zSS zPl 4 2 && zc_4.all (fun l => l.all (zRowB zSS zGG zPl 4))) = true := by decide +kernel
set_option maxRecDepth 100000 in
theorem zr_5 : (zMtB zSS zPl 5 3 && zc_5.all (fun l => l.all (zRowB zSS zGG zPl 5))) = true := by decide +kernel
set_option maxRecDepth 100000 in
theorem zr_6 : (zMtB zSS zPl 6 2 && zc_6.all (fun l => l.all (zRowB zSS zGG zPl 6))) = true := by decide +kernel
set_option maxRecDepth 100000 in
theorem zr_7 : (zMtB zSS zPl 7 2 && zc_7.all (fun l => l.all (zRowB zSS zGG zPl 7))) = true := by decide +kernel
set_option maxRecDepth 100000 in
theorem zr_8 : (zMtB zSS zPl 8 3 && zc_8.all (fun l => l.all (zRowB zSS zGG zPl 8))) = true := by decide +kernel
set_option maxRecDepth 100000 in
theorem zr_9 : (zMtB zSS zPl 9 1 && zc_9.all (fun l => l.all (zRowB zSS zGG zPl 9))) = true := by decide +kernel
set_option maxRecDepth 100000 in
theorem zr_10 : (zMtB zSS zPl 10 2 && zc_10.all (fun l => l.all (zRowB zSS zGG zPl 10))) = true := by decide +kernel
set_option maxRecDepth 100000 in
theorem zr_11 : (zMtB zSS zPl 11 4 && zc_11.all (fun l => l.all (zRowB zSS zGG zPl 11))) = true := by decide +kernel
set_option maxRecDepth 100000 in
theorem zr_12 : (zMtB zSS zPl 12 1 && zc_12.all (fun l => l.all (zRowB zSS zGG zPl 12))) = true := by decide +kernel
set_option maxRecDepth 100000 in
theorem zr_13 : (zMtB zSS zPl 13 2 && zc_13.all (fun l => l.all (zRowB zSS zGG zPl 13))) = true := by decide +kernel
set_option maxRecDepth 100000 in
theorem zr_14 : (zMtB zSS zPl 14 3 && zc_14.all (fun l => l.all (zRowB zSS zGG zPl 14))) = true := by decide +kernel
set_option maxRecDepth 100000 in
theorem zr_15 : (zMtB zSS zPl 15 1 && zc_15.all (fun l => l.all (zRowB zSS zGG zPl 15))) = true := by decide +kernel
set_option maxRecDepth 100000 in
theorem zr_16 : (zMtB zSS zPl 16 2 && zc_16.all (fun l => l.all (zRowB zSS zGG zPl 16))) = true := by decide +kernel
set_option maxRecDepth 100000 in
theorem zr_17 : (zMtB zSS zPl 17 2 && zc_17.all (fun l => l.all (zRowB zSS zGG zPl 17))) = true := by decide +kernel
set_option maxRecDepth 100000 in
theorem zr_18 : (zMtB zSS zPl 18 3 && zc_18.all (fun l => l.all (zRowB zSS zGG zPl 18))) = true := by decide +kernel
set_option maxRecDepth 100000 in
theorem zr_19 : (zMtB zSS zPl 19 2 && zc_19.all (fun l => l.all (zRowB zSS zGG zPl 19))) = true := by decide +kernel
set_option maxRecDepth 100000 in
theorem zr_20 : (zMtB zSS zPl 20 1 && zc_20.all (fun l => l.all (zRowB zSS zGG zPl 20))) = true := by decide +kernel
set_option maxRecDepth 100000 in
theorem zr_21 : (zMtB zSS zPl 21 2 && zc_21.all (fun l => l.all (zRowB zSS zGG zPl 21))) = true := by decide +kernel
set_option maxRecDepth 100000 in
theorem zr_22 : (zMtB zSS zPl 22 3 && zc_22.all (fun l => l.all (zRowB zSS zGG zPl 22))) = true := by decide +kernel
set_option maxRecDepth 100000 in
theorem zr_23 : (zMtB zSS zPl 23 6 && zc_23.all (fun l => l.all (zRowB zSS zGG zPl 23))) = true := by decide +kernel
set_option maxRecDepth 100000 in
theorem zr_24 : (zMtB zSS zPl 24 6 && zc_24.all (fun l => l.all (zRowB zSS zGG zPl 24))) = true := by decide +kernel
set_option maxRecDepth 100000 in
theorem zr_25 : (zMtB zSS zPl 25 8 && zc_25.all (fun l => l.all (zRowB zSS zGG zPl 25))) = true := by decide +kernel
set_option maxRecDepth 100000 in
theorem zr_26 : (zMtB zSS zPl 26 1 && zc_26.all (fun l => l.all (zRowB zSS zGG zPl 26))) = true := by decide +kernel
set_option maxRecDepth 100000 in
theorem zr_27 : (zMtB zSS zPl 27 3 && zc_27.all (fun l => l.all (zRowB zSS zGG zPl 27))) = true := by decide +kernel
set_option maxRecDepth 100000 in
theorem zr_28 : (zMtB zSS zPl 28 2 && zc_28.all (fun l => l.all (zRowB zSS zGG zPl 28))) = true := by decide +kernel
set_option maxRecDepth 100000 in
theorem zr_29 : (zMtB zSS zPl 29 4 && zc_29.all (fun l => l.all (zRowB zSS zGG zPl 29))) = true := by decide +kernel
set_option maxRecDepth 100000 in
theorem zr_30 : (zMtB zSS zPl 30 4 && zc_30.all (fun l => l.all (zRowB zSS zGG zPl 30))) = true := by decide +kernel
set_option maxRecDepth 100000 in
theorem zr_31 : (zMtB zSS zPl 31 3 && zc_31.all (fun l => l.all (zRowB zSS zGG zPl 31))) = true := by decide +kernel
set_option maxRecDepth 100000 in
theorem zr_32 : (zMtB zSS zPl 32 3 && zc_32.all (fun l => l.all (zRowB zSS zGG zPl 32))) = true := by decide +kernel
set_option maxRecDepth 100000 in
theorem zr_33 : (zMtB zSS zPl 33 4 && zc_33.all (fun l => l.all (zRowB zSS zGG zPl 33))) = true := by decide +kernel
set_option maxRecDepth 100000 in
theorem zr_34 : (zMtB zSS zPl 34 1 && zc_34.all (fun l => l.all (zRowB zSS zGG zPl 34))) = true := by decide +kernel
set_option maxRecDepth 100000 in
theorem zr_35 : (zMtB zSS zPl 35 5 && zc_35.all (fun l => l.all (zRowB zSS zGG zPl 35))) = true := by decide +kernel
set_option maxRecDepth 100000 in
theorem zr_36 : (zMtB zSS zPl 36 5 && zc_36.all (fun l => l.all (zRowB zSS zGG zPl 36))) = true := by decide +kernel
set_option maxRecDepth 100000 in
theorem zr_37 : (zMtB zSS zPl 37 3 && zc_37.all (fun l => l.all (zRowB zSS zGG zPl 37))) = true := by decide +kernel
set_option maxRecDepth 100000 in
theorem zr_38 : (zMtB zSS zPl 38 7 && zc_38.all (fun l => l.all (zRowB zSS zGG zPl 38))) = true := by decide +kernel
set_option maxRecDepth 100000 in
theorem zr_39 : (zMtB zSS zPl 39 4 && zc_39.all (fun l => l.all (zRowB zSS zGG zPl 39))) = true := by decide +kernel
set_option maxRecDepth 100000 in
theorem zr_40 : (zMtB zSS zPl 40 5 && zc_40.all (fun l => l.all (zRowB zSS zGG zPl 40))) = true := by decide +kernel
set_option maxRecDepth 100000 in
theorem zr_41 : (zMtB zSS zPl 41 2 && zc_41.all (fun l => l.all (zRowB zSS zGG zPl 41))) = true := by decide +kernel
set_option maxRecDepth 100000 in
theorem zr_42 : (zMtB zSS zPl 42 7 && zc_42.all (fun l => l.all (zRowB zSS zGG zPl 42))) = true := by decide +kernel
set_option maxRecDepth 100000 in
theorem zr_43 : (zMtB zSS zPl 43 2 && zc_43.all (fun l => l.all (zRowB zSS zGG zPl 43))) = true := by decide +kernel
set_option maxRecDepth 100000 in
theorem zr_44 : (zMtB zSS zPl 44 2 && zc_44.all (fun l => l.all (zRowB zSS zGG zPl 44))) = true := by decide +kernel
set_option maxRecDepth 100000 in
theorem zr_45 : (zMtB zSS zPl 45 4 && zc_45.all (fun l => l.all (zRowB zSS zGG zPl 45))) = true := by decide +kernel
set_option maxRecDepth 100000 in
theorem zr_46 : (zMtB zSS zPl 46 2 && zc_46.all (fun l => l.all (zRowB zSS zGG zPl 46))) = true := by decide +kernel
set_option maxRecDepth 100000 in
theorem zr_47 : (zMtB zSS zPl 47 5 && zc_47.all (fun l => l.all (zRowB zSS zGG zPl 47))) = true := by decide +kernel
set_option maxRecDepth 100000 in
theorem zr_48 : (zMtB zSS zPl 48 2 && zc_48.all (fun l => l.all (zRowB zSS zGG zPl 48))) = true := by decide +kernel
set_option maxRecDepth 100000 in
theorem zr_49 : (zMtB zSS zPl 49 2 && zc_49.all (fun l => l.all (zRowB zSS zGG zPl 49))) = true := by decide +kernel
set_option maxRecDepth 100000 in
theorem zr_50 : (zMtB zSS zPl 50 2 && zc_50.all (fun l => l.all (zRowB zSS zGG zPl 50))) = true := by decide +kernel
set_option maxRecDepth 100000 in
theorem zr_51 : (zMtB zSS zPl 51 1 && zc_51.all (fun l => l.all (zRowB zSS zGG zPl 51))) = true := by decide +kernel
set_option maxRecDepth 100000 in
theorem zr_52 : (zMtB zSS zPl 52 2 && zc_52.all (fun l => l.all (zRowB zSS zGG zPl 52))) = true := by decide +kernel
set_option maxRecDepth 100000 in
theorem zr_53 : (zMtB zSS zPl 53 1 && zc_53.all (fun l => l.all (zRowB zSS zGG zPl 53))) = true := by decide +kernel
set_option maxRecDepth 100000 in
theorem zr_54 : (zMtB zSS zPl 54 2 && zc_54.all (fun l => l.all (zRowB zSS zGG zPl 54))) = true := by decide +kernel
set_option maxRecDepth 100000 in
theorem zr_55 : (zMtB zSS zPl 55 3 && zc_55.all (fun l => l.all (zRowB zSS zGG zPl 55))) = true := by decide +kernel
set_option maxRecDepth 100000 in
theorem zr_56 : (zMtB zSS zPl 56 2 && zc_56.all (fun l => l.all (zRowB zSS zGG zPl 56))) = true := by decide +kernel
set_option maxRecDepth 100000 in
theorem zr_57 : (zMtB zSS zPl 57 2 && zc_57.all (fun l => l.all (zRowB zSS zGG zPl 57))) = true := by decide +kernel
set_option maxRecDepth 100000 in
theorem zr_58 : (zMtB zSS zPl 58 2 && zc_58.all (fun l => l.all (zRowB zSS zGG zPl 58))) = true := by decide +kernel
set_option maxRecDepth 100000 in
theorem zr_59 : (zMtB zSS zPl 59 1 && zc_59.all (fun l => l.all (zRowB zSS zGG zPl 59))) = true := by decide +kernel
set_option maxRecDepth 100000 in
theorem zr_60 : (zMtB zSS zPl 60 6 && zc_60.all (fun l => l.all (zRowB zSS zGG zPl 60))) = true := by decide +kernel
set_option maxRecDepth 100000 in
theorem zr_61 : (zMtB zSS zPl 61 2 && zc_61.all (fun l => l.all (zRowB zSS zGG zPl 61))) = true := by decide +kernel
set_option maxRecDepth 100000 in
theorem zr_62 : (zMtB zSS zPl 62 6 && zc_62.all (fun l => l.all (zRowB zSS zGG zPl 62))) = true := by decide +kernel
set_option maxRecDepth 100000 in
theorem zr_63 : (zMtB zSS zPl 63 1 && zc_63.all (fun l => l.all (zRowB zSS zGG zPl 63))) = true := by decide +kernel
set_option maxRecDepth 100000 in
theorem zr_64 : (zMtB zSS zPl 64 2 && zc_64.all (fun l => l.all (zRowB zSS zGG zPl 64))) = true := by decide +kernel
set_option maxRecDepth 100000 in
theorem zr_65 : (zMtB zSS zPl 65 2 && zc_65.all (fun l => l.all (zRowB zSS zGG zPl 65))) = true := by decide +kernel
set_option maxRecDepth 100000 in
theorem zr_66 : (zMtB zSS zPl 66 5 && zc_66.all (fun l => l.all (zRowB zSS zGG zPl 66))) = true := by decide +kernel
set_option maxRecDepth 100000 in
theorem zr_67 : (zMtB zSS zPl 67 2 && zc_67.all (fun l => l.all (zRowB zSS zGG zPl 67))) = true := by decide +kernel
set_option maxRecDepth 100000 in
theorem zr_68 : (zMtB zSS zPl 68 3 && zc_68.all (fun l => l.all (zRowB zSS zGG zPl 68))) = true := by decide +kernel
set_option maxRecDepth 100000 in
theorem zr_69 : (zMtB zSS zPl 69 1 && zc_69.all (fun l => l.all (zRowB zSS zGG zPl 69))) = true := by decide +kernel
set_option maxRecDepth 100000 in
theorem zr_70 : (zMtB zSS zPl 70 3 && zc_70.all (fun l => l.all (zRowB zSS zGG zPl 70))) = true := by decide +kernel
set_option maxRecDepth 100000 in
theorem zr_71 : (zMtB zSS zPl 71 4 && zc_71.all (fun l => l.all (zRowB zSS zGG zPl 71))) = true := by decide +kernel
set_option maxRecDepth 100000 in
theorem zr_72 : (zMtB zSS zPl 72 1 && zc_72.all (fun l => l.all (zRowB zSS zGG zPl 72))) = true := by decide +kernel
set_option maxRecDepth 100000 in
theorem zr_73 : (zMtB zSS zPl 73 3 && zc_73.all (fun l => l.all (zRowB zSS zGG zPl 73))) = true := by decide +kernel
set_option maxRecDepth 100000 in
theorem zr_74 : (zMtB zSS zPl 74 2 && zc_74.all (fun l => l.all (zRowB zSS zGG zPl 74))) = true := by decide +kernel
set_option maxRecDepth 100000 in
theorem zr_75 : (zMtB zSS zPl 75 4 && zc_75.all (fun l => l.all (zRowB zSS zGG zPl 75))) = true := by decide +kernel
set_option maxRecDepth 100000 in
theorem zr_76 : (zMtB zSS zPl 76 5 && zc_76.all (fun l => l.all (zRowB zSS zGG zPl 76))) = true := by decide +kernel
set_option maxRecDepth 100000 in
theorem zr_77 : (zMtB zSS zPl 77 3 && zc_77.all (fun l => l.all (zRowB zSS zGG zPl 77))) = true := by decide +kernel
set_option maxRecDepth 100000 in
theorem zr_78 : (zMtB zSS zPl 78 8 && zc_78.all (fun l => l.all (zRowB zSS zGG zPl 78))) = true := by decide +kernel
set_option maxRecDepth 100000 in
theorem zr_79 : (zMtB zSS zPl 79 2 && zc_79.all (fun l => l.all (zRowB zSS zGG zPl 79))) = true := by decide +kernel
set_option maxRecDepth 100000 in
theorem zr_80 : (zMtB zSS zPl 80 1 && zc_80.all (fun l => l.all (zRowB zSS zGG zPl 80))) = true := by decide +kernel
set_option maxRecDepth 100000 in
theorem zr_81 : (zMtB zSS zPl 81 2 && zc_81.all (fun l => l.all (zRowB zSS zGG zPl 81))) = true := by decide +kernel
set_option maxRecDepth 100000 in
theorem zr_82 : (zMtB zSS zPl 82 4 && zc_82.all (fun l => l.all (zRowB zSS zGG zPl 82))) = true := by decide +kernel
set_option maxRecDepth 100000 in
theorem zr_83 : (zMtB zSS zPl 83 2 && zc_83.all (fun l => l.all (zRowB zSS zGG zPl 83))) = true := by decide +kernel
set_option maxRecDepth 100000 in
theorem zr_84 : (zMtB zSS zPl 84 2 && zc_84.all (fun l => l.all (zRowB zSS zGG zPl 84))) = true := by decide +kernel
set_option maxRecDepth 100000 in
theorem zr_85 : (zMtB zSS zPl 85 9 && zc_85.all (fun l => l.all (zRowB zSS zGG zPl 85))) = true := by decide +kernel
set_option maxRecDepth 100000 in
theorem zr_86 : (zMtB zSS zPl 86 1 && zc_86.all (fun l => l.all (zRowB zSS zGG zPl 86))) = true := by decide +kernel
set_option maxRecDepth 100000 in
theorem zr_87 : (zMtB zSS zPl 87 1 && zc_87.all (fun l => l.all (zRowB zSS zGG zPl 87))) = true := by decide +kernel
set_option maxRecDepth 100000 in
theorem zr_88 : (zMtB zSS zPl 88 6 && zc_88.all (fun l => l.all (zRowB zSS zGG zPl 88))) = true := by decide +kernel
set_option maxRecDepth 100000 in
theorem zr_89 : (zMtB zSS zPl 89 3 && zc_89.all (fun l => l.all (zRowB zSS zGG zPl 89))) = true := by decide +kernel
set_option maxRecDepth 100000 in
theorem zr_90 : (zMtB zSS zPl 90 2 && zc_90.all (fun l => l.all (zRowB zSS zGG zPl 90))) = true := by decide +kernel
set_option maxRecDepth 100000 in
theorem zr_91 : (zMtB zSS zPl 91 1 && zc_91.all (fun l => l.all (zRowB zSS zGG zPl 91))) = true := by decide +kernel
set_option maxRecDepth 100000 in
theorem zr_92 : (zMtB zSS zPl 92 2 && zc_92.all (fun l => l.all (zRowB zSS zGG zPl 92))) = true := by decide +kernel
set_option maxRecDepth 100000 in
theorem zr_93 : (zMtB zSS zPl 93 3 && zc_93.all (fun l => l.all (zRowB zSS zGG zPl 93))) = true := by decide +kernel
set_option maxRecDepth 100000 in
theorem zr_94 : (zMtB zSS zPl 94 2 && zc_94.all (fun l => l.all (zRowB zSS zGG zPl 94))) = true := by decide +kernel
set_option maxRecDepth 100000 in
theorem zr_95 : (zMtB zSS zPl 95 2 && zc_95.all (fun l => l.all (zRowB zSS zGG zPl 95))) = true := by decide +kernel
set_option maxRecDepth 100000 in
theorem zr_96 : (zMtB zSS zPl 96 3 && zc_96.all (fun l => l.all (zRowB zSS zGG zPl 96))) = true := by decide +kernel
set_option maxRecDepth 100000 in
theorem zr_97 : (zMtB zSS zPl 97 2 && zc_97.all (fun l => l.all (zRowB zSS zGG zPl 97))) = true := by decide +kernel
set_option maxRecDepth 100000 in
theorem zr_98 : (zMtB zSS zPl 98 4 && zc_98.all (fun l => l.all (zRowB zSS zGG zPl 98))) = true := by decide +kernel
set_option maxRecDepth 100000 in
theorem zr_99 : (zMtB zSS zPl 99 2 && zc_99.all (fun l => l.all (zRowB zSS zGG zPl 99))) = true := by decide +kernel
set_option maxRecDepth 100000 in
theorem zr_100 : (zMtB zSS zPl 100 2 && zc_100.all (fun l => l.all (zRowB zSS zGG zPl 100))) = true := by decide +kernel
set_option maxRecDepth 100000 in
theorem zr_101 : (zMtB zSS zPl 101 1 && zc_101.all (fun l => l.all (zRowB zSS zGG zPl 101))) = true := by decide +kernel
set_option maxRecDepth 100000 in
theorem zr_102 : (zMtB zSS zPl 102 6 && zc_102.all (fun l => l.all (zRowB zSS zGG zPl 102))) = true := by decide +kernel
set_option maxRecDepth 100000 in
theorem zr_103 : (zMtB zSS zPl 103 3 && zc_103.all (fun l => l.all (zRowB zSS zGG zPl 103))) = true := by decide +kernel
set_option maxRecDepth 100000 in
theorem zr_104 : (zMtB zSS zPl 104 4 && zc_104.all (fun l => l.all (zRowB zSS zGG zPl 104))) = true := by decide +kernel
set_option maxRecDepth 100000 in
theorem zr_105 : (zMtB zSS zPl 105 3 && zc_105.all (fun l => l.all (zRowB zSS zGG zPl 105))) = true := by decide +kernel
set_option maxRecDepth 100000 in
theorem zr_106 : (zMtB zSS zPl 106 5 && zc_106.all (fun l => l.all (zRowB zSS zGG zPl 106))) = true := by decide +kernel
set_option maxRecDepth 100000 in
theorem zr_107 : (zMtB zSS zPl 107 2 && zc_107.all (fun l => l.all (zRowB zSS zGG zPl 107))) = true := by decide +kernel
set_option maxRecDepth 100000 in
theorem zr_108 : (zMtB zSS zPl 108 2 && zc_108.all (fun l => l.all (zRowB zSS zGG zPl 108))) = true := by decide +kernel
set_option maxRecDepth 100000 in
theorem zr_109 : (zMtB zSS zPl 109 2 && zc_109.all (fun l => l.all (zRowB zSS zGG zPl 109))) = true := by decide +kernel
set_option maxRecDepth 100000 in
theorem zr_110 : (zMtB zSS zPl 110 3 && zc_110.all (fun l => l.all (zRowB zSS zGG zPl 110))) = true := by decide +kernel
set_option maxRecDepth 100000 in
theorem zr_111 : (zMtB zSS zPl 111 2 && zc_111.all (fun l => l.all (zRowB zSS zGG zPl 111))) = true := by decide +kernel
set_option maxRecDepth 100000 in
theorem zr_112 : (zMtB zSS zPl 112 3 && zc_112.all (fun l => l.all (zRowB zSS zGG zPl 112))) = true := by decide +kernel
set_option maxRecDepth 100000 in
theorem zr_113 : (zMtB zSS zPl 113 4 && zc_113.all (fun l => l.all (zRowB zSS zGG zPl 113))) = true := by decide +kernel
set_option maxRecDepth 100000 in
theorem zr_114 : (zMtB zSS zPl 114 2 && zc_114.all (fun l => l.all (zRowB zSS zGG zPl 114))) = true := by decide +kernel
set_option maxRecDepth 100000 in
theorem zr_115 : (zMtB zSS zPl 115 2 && zc_115.all (fun l => l.all (zRowB zSS zGG zPl 115))) = true := by decide +kernel
set_option maxRecDepth 100000 in
theorem zr_116 : (zMtB zSS zPl 116 5 && zc_116.all (fun l => l.all (zRowB zSS zGG zPl 116))) = true := by decide +kernel
set_option maxRecDepth 100000 in
theorem zr_117 : (zMtB zSS zPl 117 3 && zc_117.all (fun l => l.all (zRowB zSS zGG zPl 117))) = true := by decide +kernel
set_option maxRecDepth 100000 in
theorem zr_118 : (zMtB zSS zPl 118 2 && zc_118.all (fun l => l.all (zRowB zSS zGG zPl 118))) = true := by decide +kernel
set_option maxRecDepth 100000 in
theorem zr_119 : (zMtB zSS zPl 119 3 && zc_119.all (fun l => l.all (zRowB zSS zGG zPl 119))) = true := by decide +kernel
set_option maxRecDepth 100000 in
theorem zr_120 : (zMtB zSS zPl 120 1 && zc_120.all (fun l => l.all (zRowB zSS zGG zPl 120))) = true := by decide +kernel
set_option maxRecDepth 100000 in
theorem zr_121 : (zMtB zSS zPl 121 6 && zc_121.all (fun l => l.all (zRowB zSS zGG zPl 121))) = true := by decide +kernel
set_option maxRecDepth 100000 in
theorem zr_122 : (zMtB zSS zPl 122 3 && zc_122.all (fun l => l.all (zRowB zSS zGG zPl 122))) = true := by decide +kernel
set_option maxRecDepth 100000 in
theorem zr_123 : (zMtB zSS zPl 123 2 && zc_123.all (fun l => l.all (zRowB zSS zGG zPl 123))) = true := by decide +kernel
set_option maxRecDepth 100000 in
theorem zr_124 : (zMtB zSS zPl 124 2 && zc_124.all (fun l => l.all (zRowB zSS zGG zPl 124))) = true := by decide +kernel
set_option maxRecDepth 100000 in
theorem zr_125 : (zMtB zSS zPl 125 6 && zc_125.all (fun l => l.all (zRowB zSS zGG zPl 125))) = true := by decide +kernel
set_option maxRecDepth 100000 in
theorem zr_126 : (zMtB zSS zPl 126 5 && zc_126.all (fun l => l.all (zRowB zSS zGG zPl 126))) = true := by decide +kernel
set_option maxRecDepth 100000 in
theorem zr_127 : (zMtB zSS zPl 127 3 && zc_127.all (fun l => l.all (zRowB zSS zGG zPl 127))) = true := by decide +kernel
set_option maxRecDepth 100000 in
theorem zr_128 : (zMtB zSS zPl 128 8 && zc_128.all (fun l => l.all (zRowB zSS zGG zPl 128))) = true := by decide +kernel
set_option maxRecDepth 100000 in
theorem zr_129 : (zMtB zSS zPl 129 5 && zc_129.all (fun l => l.all (zRowB zSS zGG zPl 129))) = true := by decide +kernel
set_option maxRecDepth 100000 in
theorem zr_130 : (zMtB zSS zPl 130 2 && zc_130.all (fun l => l.all (zRowB zSS zGG zPl 130))) = true := by decide +kernel
set_option maxRecDepth 100000 in
theorem zr_131 : (zMtB zSS zPl 131 4 && zc_131.all (fun l => l.all (zRowB zSS zGG zPl 131))) = true := by decide +kernel
set_option maxRecDepth 100000 in
theorem zr_132 : (zMtB zSS zPl 132 1 && zc_132.all (fun l => l.all (zRowB zSS zGG zPl 132))) = true := by decide +kernel
set_option maxRecDepth 100000 in
theorem zr_133 : (zMtB zSS zPl 133 4 && zc_133.all (fun l => l.all (zRowB zSS zGG zPl 133))) = true := by decide +kernel
set_option maxRecDepth 100000 in
theorem zr_134 : (zMtB zSS zPl 134 4 && zc_134.all (fun l => l.all (zRowB zSS zGG zPl 134))) = true := by decide +kernel
set_option maxRecDepth 100000 in
theorem zr_135 : (zMtB zSS zPl 135 3 && zc_135.all (fun l => l.all (zRowB zSS zGG zPl 135))) = true := by decide +kernel
set_option maxRecDepth 100000 in
theorem zr_136 : (zMtB zSS zPl 136 1 && zc_136.all (fun l => l.all (zRowB zSS zGG zPl 136))) = true := by decide +kernel
set_option maxRecDepth 100000 in
theorem zr_137 : (zMtB zSS zPl 137 4 && zc_137.all (fun l => l.all (zRowB zSS zGG zPl 137))) = true := by decide +kernel
set_option maxRecDepth 100000 in
theorem zr_138 : (zMtB zSS zPl 138 3 && zc_138.all (fun l => l.all (zRowB zSS zGG zPl 138))) = true := by decide +kernel
set_option maxRecDepth 100000 in
theorem zr_139 : (zMtB zSS zPl 139 2 && zc_139.all (fun l => l.all (zRowB zSS zGG zPl 139))) = true := by decide +kernel
set_option maxRecDepth 100000 in
theorem zr_140 : (zMtB zSS zPl 140 2 && zc_140.all (fun l => l.all (zRowB zSS zGG zPl 140))) = true := by decide +kernel
set_option maxRecDepth 100000 in
theorem zr_141 : (zMtB zSS zPl 141 2 && zc_141.all (fun l => l.all (zRowB zSS zGG zPl 141))) = true := by decide +kernel
set_option maxRecDepth 100000 in
theorem zr_142 : (zMtB zSS zPl 142 7 && zc_142.all (fun l => l.all (zRowB zSS zGG zPl 142))) = true := by decide +kernel
set_option maxRecDepth 100000 in
theorem zr_143 : (zMtB zSS zPl 143 2 && zc_143.all (fun l => l.all (zRowB zSS zGG zPl 143))) = true := by decide +kernel
set_option maxRecDepth 100000 in
theorem zr_144 : (zMtB zSS zPl 144 2 && zc_144.all (fun l => l.all (zRowB zSS zGG zPl 144))) = true := by decide +kernel
set_option maxRecDepth 100000 in
theorem zr_145 : (zMtB zSS zPl 145 4 && zc_145.all (fun l => l.all (zRowB zSS zGG zPl 145))) = true := by decide +kernel
set_option maxRecDepth 100000 in
theorem zr_146 : (zMtB zSS zPl 146 5 && zc_146.all (fun l => l.all (zRowB zSS zGG zPl 146))) = true := by decide +kernel
set_option maxRecDepth 100000 in
theorem zr_147 : (zMtB zSS zPl 147 3 && zc_147.all (fun l => l.all (zRowB zSS zGG zPl 147))) = true := by decide +kernel
set_option maxRecDepth 100000 in
theorem zr_148 : (zMtB zSS zPl 148 2 && zc_148.all (fun l => l.all (zRowB zSS zGG zPl 148))) = true := by decide +kernel
set_option maxRecDepth 100000 in
theorem zr_149 : (zMtB zSS zPl 149 2 && zc_149.all (fun l => l.all (zRowB zSS zGG zPl 149))) = true := by decide +kernel
theorem zr_to {a ml : Nat} {tb : zT} (h : (zMtB zSS zPl a ml && tb.all (fun l => l.all (zRowB zSS zGG zPl a))) = true) : zMtB zSS zPl a ml = true ∧ ∀ l ∈ tb, ∀ e ∈ l, zRowB zSS zGG zPl a e = true := by
  simp only [Bool.and_eq_true] at h
  exact ⟨h.1, fun l hl e he => List.all_eq_true.mp (List.all_eq_true.mp h.2 l hl) e he⟩
theorem zg_0 : ∀ (a : Nat) (mt : zM), zMs[a + 0]? = some mt → a < 15 → zMtB zSS zPl (a + 0) mt.1.2 = true ∧ ∀ l ∈ mt.2.2.2, ∀ e ∈ l, zRowB zSS zGG zPl (a + 0) e = true := by
  intro a mt h ha
  match a, h, ha with
  | 0, h, _ => cases h; exact zr_to zr_0
  | 1, h, _ => cases h; exact zr_to zr_1
  | 2, h, _ => cases h; exact zr_to zr_2
  | 3, h, _ => cases h; exact zr_to zr_3
  | 4, h, _ => cases h; exact zr_to zr_4
  | 5, h, _ => cases h; exact zr_to zr_5
  | 6, h, _ => cases h; exact zr_to zr_6
  | 7, h, _ => cases h; exact zr_to zr_7
  | 8, h, _ => cases h; exact zr_to zr_8
  | 9, h, _ => cases h; exact zr_to zr_9
  | 10, h, _ => cases h; exact zr_to zr_10
  | 11, h, _ => cases h; exact zr_to zr_11
  | 12, h, _ => cases h; exact zr_to zr_12
  | 13, h, _ => cases h; exact zr_to zr_13
  | 14, h, _ => cases h; exact zr_to zr_14
theorem zg_1 : ∀ (a : Nat) (mt : zM), zMs[a + 15]? = some mt → a < 15 → zMtB zSS zPl (a + 15) mt.1.2 = true ∧ ∀ l ∈ mt.2.2.2, ∀ e ∈ l, zRowB zSS zGG zPl (a + 15) e = true := by
  intro a mt h ha
  match a, h, ha with
  | 0, h, _ => cases h; exact zr_to zr_15
  | 1, h, _ => cases h; exact zr_to zr_16
  | 2, h, _ => cases h; exact zr_to zr_17
  | 3, h, _ => cases h; exact zr_to zr_18
  | 4, h, _ => cases h; exact zr_to zr_19
  | 5, h, _ => cases h; exact zr_to zr_20
  | 6, h, _ => cases h; exact zr_to zr_21
  | 7, h, _ => cases h; exact zr_to zr_22
  | 8, h, _ => cases h; exact zr_to zr_23
  | 9, h, _ => cases h; exact zr_to zr_24
  | 10, h, _ => cases h; exact zr_to zr_25
  | 11, h, _ => cases h; exact zr_to zr_26
  | 12, h, _ => cases h; exact zr_to zr_27
  | 13, h, _ => cases h; exact zr_to zr_28
  | 14, h, _ => cases h; exact zr_to zr_29
theorem zg_2 : ∀ (a : Nat) (mt : zM), zMs[a + 30]? = some mt → a < 15 → zMtB zSS zPl (a + 30) mt.1.2 = true ∧ ∀ l ∈ mt.2.2.2, ∀ e ∈ l, zRowB zSS zGG zPl (a + 30) e = true := by
  intro a mt h ha
  match a, h, ha with
  | 0, h, _ => cases h; exact zr_to zr_30
  | 1, h, _ => cases h; exact zr_to zr_31
  | 2, h, _ => cases h; exact zr_to zr_32
  | 3, h, _ => cases h; exact zr_to zr_33
  | 4, h, _ => cases h; exact zr_to zr_34
  | 5, h, _ => cases h; exact zr_to zr_35
  | 6, h, _ => cases h; exact zr_to zr_36
  | 7, h, _ => cases h; exact zr_to zr_37
  | 8, h, _ => cases h; exact zr_to zr_38
  | 9, h, _ => cases h; exact zr_to zr_39
  | 10, h, _ => cases h; exact zr_to zr_40
  | 11, h, _ => cases h; exact zr_to zr_41
  | 12, h, _ => cases h; exact zr_to zr_42
  | 13, h, _ => cases h; exact zr_to zr_43
  | 14, h, _ => cases h; exact zr_to zr_44
theorem zg_3 : ∀ (a : Nat) (mt : zM), zMs[a + 45]? = some mt → a < 15 → zMtB zSS zPl (a + 45) mt.1.2 = true ∧ ∀ l ∈ mt.2.2.2, ∀ e ∈ l, zRowB zSS zGG zPl (a + 45) e = true := by
  intro a mt h ha
  match a, h, ha with
  | 0, h, _ => cases h; exact zr_to zr_45
  | 1, h, _ => cases h; exact zr_to zr_46
  | 2, h, _ => cases h; exact zr_to zr_47
  | 3, h, _ => cases h; exact zr_to zr_48
  | 4, h, _ => cases h; exact zr_to zr_49
  | 5, h, _ => cases h; exact zr_to zr_50
  | 6, h, _ => cases h; exact zr_to zr_51
  | 7, h, _ => cases h; exact zr_to zr_52
  | 8, h, _ => cases h; exact zr_to zr_53
  | 9, h, _ => cases h; exact zr_to zr_54
  | 10, h, _ => cases h; exact zr_to zr_55
  | 11, h, _ => cases h; exact zr_to zr_56
  | 12, h, _ => cases h; exact zr_to zr_57
  | 13, h, _ => cases h; exact zr_to zr_58
  | 14, h, _ => cases h; exact zr_to zr_59
theorem zg_4 : ∀ (a : Nat) (mt : zM), zMs[a + 60]? = some mt → a < 15 → zMtB zSS zPl (a + 60) mt.1.2 = true ∧ ∀ l ∈ mt.2.2.2, ∀ e ∈ l, zRowB zSS zGG zPl (a + 60) e = true := by
  intro a mt h ha
  match a, h, ha with
  | 0, h, _ => cases h; exact zr_to zr_60
  | 1, h, _ => cases h; exact zr_to zr_61
  | 2, h, _ => cases h; exact zr_to zr_62
  | 3, h, _ => cases h; exact zr_to zr_63
  | 4, h, _ => cases h; exact zr_to zr_64
  | 5, h, _ => cases h; exact zr_to zr_65
  | 6, h, _ => cases h; exact zr_to zr_66
  | 7, h, _ => cases h; exact zr_to zr_67
  | 8, h, _ => cases h; exact zr_to zr_68
  | 9, h, _ => cases h; exact zr_to zr_69
  | 10, h, _ => cases h; exact zr_to zr_70
  | 11, h, _ => cases h; exact zr_to zr_71
  | 12, h, _ => cases h; exact zr_to zr_72
  | 13, h, _ => cases h; exact zr_to zr_73
  | 14, h, _ => cases h; exact zr_to zr_74
theorem zg_5 : ∀ (a : Nat) (mt : zM), zMs[a + 75]? = some mt → a < 15 → zMtB zSS zPl (a + 75) mt.1.2 = true ∧ ∀ l ∈ mt.2.2.2, ∀ e ∈ l, zRowB zSS zGG zPl (a + 75) e = true := by
  intro a mt h ha
  match a, h, ha with
  | 0, h, _ => cases h; exact zr_to zr_75
  | 1, h, _ => cases h; exact zr_to zr_76
  | 2, h, _ => cases h; exact zr_to zr_77
  | 3, h, _ => cases h; exact zr_to zr_78
  | 4, h, _ => cases h; exact zr_to zr_79
  | 5, h, _ => cases h; exact zr_to zr_80
  | 6, h, _ => cases h; exact zr_to zr_81
  | 7, h, _ => cases h; exact zr_to zr_82
  | 8, h, _ => cases h; exact zr_to zr_83
  | 9, h, _ => cases h; exact zr_to zr_84
  | 10, h, _ => cases h; exact zr_to zr_85
  | 11, h, _ => cases h; exact zr_to zr_86
  | 12, h, _ => cases h; exact zr_to zr_87
  | 13, h, _ => cases h; exact zr_to zr_88
  | 14, h, _ => cases h; exact zr_to zr_89
theorem zg_6 : ∀ (a : Nat) (mt : zM), zMs[a + 90]? = some mt → a < 15 → zMtB zSS zPl (a + 90) mt.1.2 = true ∧ ∀ l ∈ mt.2.2.2, ∀ e ∈ l, zRowB zSS zGG zPl (a + 90) e = true := by
  intro a mt h ha
  match a, h, ha with
  | 0, h, _ => cases h; exact zr_to zr_90
  | 1, h, _ => cases h; exact zr_to zr_91
  | 2, h, _ => cases h; exact zr_to zr_92
  | 3, h, _ => cases h; exact zr_to zr_93
  | 4, h, _ => cases h; exact zr_to zr_94
  | 5, h, _ => cases h; exact zr_to zr_95
  | 6, h, _ => cases h; exact zr_to zr_96
  | 7, h, _ => cases h; exact zr_to zr_97
  | 8, h, _ => cases h; exact zr_to zr_98
  | 9, h, _ => cases h; exact zr_to zr_99
  | 10, h, _ => cases h; exact zr_to zr_100
  | 11, h, _ => cases h; exact zr_to zr_101
  | 12, h, _ => cases h; exact zr_to zr_102
  | 13, h, _ => cases h; exact zr_to zr_103
  | 14, h, _ => cases h; exact zr_to zr_104
theorem zg_7 : ∀ (a : Nat) (mt : zM), zMs[a + 105]? = some mt → a < 15 → zMtB zSS zPl (a + 105) mt.1.2 = true ∧ ∀ l ∈ mt.2.2.2, ∀ e ∈ l, zRowB zSS zGG zPl (a + 105) e = true := by
  intro a mt h ha
  match a, h, ha with
  | 0, h, _ => cases h; exact zr_to zr_105
  | 1, h, _ => cases h; exact zr_to zr_106
  | 2, h, _ => cases h; exact zr_to zr_107
  | 3, h, _ => cases h; exact zr_to zr_108
  | 4, h, _ => cases h; exact zr_to zr_109
  | 5, h, _ => cases h; exact zr_to zr_110
  | 6, h, _ => cases h; exact zr_to zr_111
  | 7, h, _ => cases h; exact zr_to zr_112
  | 8, h, _ => cases h; exact zr_to zr_113
  | 9, h, _ => cases h; exact zr_to zr_114
  | 10, h, _ => cases h; exact zr_to zr_115
  | 11, h, _ => cases h; exact zr_to zr_116
  | 12, h, _ => cases h; exact zr_to zr_117
  | 13, h, _ => cases h; exact zr_to zr_118
  | 14, h, _ => cases h; exact zr_to zr_119
theorem zg_8 : ∀ (a : Nat) (mt : zM), zMs[a + 120]? = some mt → a < 15 → zMtB zSS zPl (a + 120) mt.1.2 = true ∧ ∀ l ∈ mt.2.2.2, ∀ e ∈ l, zRowB zSS zGG zPl (a + 120) e = true := by
  intro a mt h ha
  match a, h, ha with
  | 0, h, _ => cases h; exact zr_to zr_120
  | 1, h, _ => cases h; exact zr_to zr_121
  | 2, h, _ => cases h; exact zr_to zr_122
  | 3, h, _ => cases h; exact zr_to zr_123
  | 4, h, _ => cases h; exact zr_to zr_124
  | 5, h, _ => cases h; exact zr_to zr_125
  | 6, h, _ => cases h; exact zr_to zr_126
  | 7, h, _ => cases h; exact zr_to zr_127
  | 8, h, _ => cases h; exact zr_to zr_128
  | 9, h, _ => cases h; exact zr_to zr_129
  | 10, h, _ => cases h; exact zr_to zr_130
  | 11, h, _ => cases h; exact zr_to zr_131
  | 12, h, _ => cases h; exact zr_to zr_132
  | 13, h, _ => cases h; exact zr_to zr_133
  | 14, h, _ => cases h; exact zr_to zr_134
theorem zg_9 : ∀ (a : Nat) (mt : zM), zMs[a + 135]? = some mt → a < 15 → zMtB zSS zPl (a + 135) mt.1.2 = true ∧ ∀ l ∈ mt.2.2.2, ∀ e ∈ l, zRowB zSS zGG zPl (a + 135) e = true := by
  intro a mt h ha
  match a, h, ha with
  | 0, h, _ => cases h; exact zr_to zr_135
  | 1, h, _ => cases h; exact zr_to zr_136
  | 2, h, _ => cases h; exact zr_to zr_137
  | 3, h, _ => cases h; exact zr_to zr_138
  | 4, h, _ => cases h; exact zr_to zr_139
  | 5, h, _ => cases h; exact zr_to zr_140
  | 6, h, _ => cases h; exact zr_to zr_141
  | 7, h, _ => cases h; exact zr_to zr_142
  | 8, h, _ => cases h; exact zr_to zr_143
  | 9, h, _ => cases h; exact zr_to zr_144
  | 10, h, _ => cases h; exact zr_to zr_145
  | 11, h, _ => cases h; exact zr_to zr_146
  | 12, h, _ => cases h; exact zr_to zr_147
  | 13, h, _ => cases h; exact zr_to zr_148
  | 14, h, _ => cases h; exact zr_to zr_149
theorem zs_rows : ∀ (a : Nat) (mt : zM), zGG.1[a]? = some mt → zMtB zSS zPl a mt.1.2 = true ∧ ∀ l ∈ mt.2.2.2, ∀ e ∈ l, zRowB zSS zGG zPl a e = true := by
  intro a mt h
  have hlt : a < 150 := (List.getElem?_eq_some_iff.mp h).1
  by_cases h0 : a < 15
  · obtain ⟨b, rfl⟩ : ∃ b, a = b + 0 := ⟨a - 0, by omega⟩
    exact zg_0 b mt h (by omega)
  by_cases h1 : a < 30
  · obtain ⟨b, rfl⟩ : ∃ b, a = b + 15 := ⟨a - 15, by omega⟩
    exact zg_1 b mt h (by omega)
  by_cases h2 : a < 45
  · obtain ⟨b, rfl⟩ : ∃ b, a = b + 30 := ⟨a - 30, by omega⟩
    exact zg_2 b mt h (by omega)
  by_cases h3 : a < 60
  · obtain ⟨b, rfl⟩ : ∃ b, a = b + 45 := ⟨a - 45, by omega⟩
    exact zg_3 b mt h (by omega)
  by_cases h4 : a < 75
  · obtain ⟨b, rfl⟩ : ∃ b, a = b + 60 := ⟨a - 60, by omega⟩
    exact zg_4 b mt h (by omega)
  by_cases h5 : a < 90
  · obtain ⟨b, rfl⟩ : ∃ b, a = b + 75 := ⟨a - 75, by omega⟩
    exact zg_5 b mt h (by omega)
  by_cases h6 : a < 105
  · obtain ⟨b, rfl⟩ : ∃ b, a = b + 90 := ⟨a - 90, by omega⟩
    exact zg_6 b mt h (by omega)
  by_cases h7 : a < 120
  · obtain ⟨b, rfl⟩ : ∃ b, a = b + 105 := ⟨a - 105, by omega⟩
    exact zg_7 b mt h (by omega)
  by_cases h8 : a < 135
  · obtain ⟨b, rfl⟩ : ∃ b, a = b + 120 := ⟨a - 120, by omega⟩
    exact zg_8 b mt h (by omega)
  obtain ⟨b, rfl⟩ : ∃ b, a = b + 135 := ⟨a - 135, by omega⟩
  exact zg_9 b mt h (by omega)
theorem zs_all : zAll zSS zGG zPl := ⟨zWS_good, zs_cls, zs_mk, zs_ra_ok, zs_nt, zs_ac, zs_rows⟩
