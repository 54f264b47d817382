set_option maxRecDepth 100000 in
theorem zcd_0 : Jvm.Cond.code (sY zSS 0) (sC zSS 0) (sM zSS 0) (sR zSS 0) ∈ sW zSS := List.mem_of_getElem? (i := 0) rfl
set_option maxRecDepth 100000 in
theorem zr_0 : (zMtB zSS zPl 0 1 && zc_0.all (fun l => l.all (zRowB zSS zGG zPl 0))) = true := by decide +kernel
set_option maxRecDepth 100000 in
theorem zcd_1 : Jvm.Cond.code (sY zSS 1) (sC zSS 1) (sM zSS 1) (sR zSS 1) ∈ sW zSS := List.mem_of_getElem? (i := 1) rfl
set_option maxRecDepth 100000 in
theorem zr_1 : (zMtB zSS zPl 1 2 && zc_1.all (fun l => l.all (zRowB zSS zGG zPl 1))) = true := by decide +kernel
set_option maxRecDepth 100000 in
theorem zcd_2 : Jvm.Cond.code (sY zSS 2) (sC zSS 2) (sM zSS 2) (sR zSS 2) ∈ sW zSS := List.mem_of_getElem? (i := 2) rfl
set_option maxRecDepth 100000 in
theorem zr_2 : (zMtB zSS zPl 2 2 && zc_2.all (fun l => l.all (zRowB zSS zGG zPl 2))) = true := by decide +kernel
set_option maxRecDepth 100000 in
theorem zcd_3 : Jvm.Cond.code (sY zSS 3) (sC zSS 3) (sM zSS 3) (sR zSS 3) ∈ sW zSS := List.mem_of_getElem? (i := 3) rfl
set_option maxRecDepth 100000 in
theorem zr_3 : (zMtB zSS zPl 3 1 && zc_3.all (fun l => l.all (zRowB zSS zGG zPl 3))) = true := by decide +kernel
set_option maxRecDepth 100000 in
theorem zcd_4 : Jvm.Cond.code (sY zSS 4) (sC zSS 4) (sM zSS 4) (sR zSS 4) ∈ sW zSS := List.mem_of_getElem? (i := 4) rfl
set_option maxRecDepth 100000 in
theorem zr_4 : (zMtB zSS zPl 4 2 && zc_4.all (fun l => l.all (zRowB zSS zGG zPl 4))) = true := by decide +kernel
set_option maxRecDepth 100000 in
theorem zcd_5 : Jvm.Cond.code (sY zSS 5) (sC zSS 5) (sM zSS 5) (sR zSS 5) ∈ sW zSS := List.mem_of_getElem? (i := 5) rfl
set_option maxRecDepth 100000 in
theorem zr_5 : (zMtB zSS zPl 5 3 && zc_5.all (fun l => l.all (zRowB zSS zGG zPl 5))) = true := by decide +kernel
set_option maxRecDepth 100000 in
theorem zcd_6 : Jvm.Cond.code (sY zSS 6) (sC zSS 6) (sM zSS 6) (sR zSS 6) ∈ sW zSS := List.mem_of_getElem? (i := 6) rfl
set_option maxRecDepth 100000 in
theorem zr_6 : (zMtB zSS zPl 6 2 && zc_6.all (fun l => l.all (zRowB zSS zGG zPl 6))) = true := by decide +kernel
set_option maxRecDepth 100000 in
theorem zcd_7 : Jvm.Cond.code (sY zSS 7) (sC zSS 7) (sM zSS 7) (sR zSS 7) ∈ sW zSS := List.mem_of_getElem? (i := 7) rfl
set_option maxRecDepth 100000 in
theorem zr_7 : (zMtB zSS zPl 7 2 && zc_7.all (fun l => l.all (zRowB zSS zGG zPl 7))) = true := by decide +kernel
set_option maxRecDepth 100000 in
theorem zcd_8 : Jvm.Cond.code (sY zSS 8) (sC zSS 8) (sM zSS 8) (sR zSS 8) ∈ sW zSS := List.mem_of_getElem? (i := 8) rfl
set_option maxRecDepth 100000 in
theorem zr_8 : (zMtB zSS zPl 8 3 && zc_8.all (fun l => l.all (zRowB zSS zGG zPl 8))) = true := by decide +kernel
set_option maxRecDepth 100000 in
theorem zcd_9 : Jvm.Cond.code (sY zSS 9) (sC zSS 9) (sM zSS 9) (sR zSS 9) ∈ sW zSS := List.mem_of_getElem? (i := 9) rfl
set_option maxRecDepth 100000 in
theorem zr_9 : (zMtB zSS zPl 9 1 && zc_9.all (fun l => l.all (zRowB zSS zGG zPl 9))) = true := by decide +kernel
set_option maxRecDepth 100000 in
theorem zcd_10 : Jvm.Cond.code (sY zSS 10) (sC zSS 10) (sM zSS 10) (sR zSS 10) ∈ sW zSS := List.mem_of_getElem? (i := 10) rfl
set_option maxRecDepth 100000 in
theorem zr_10 : (zMtB zSS zPl 10 2 && zc_10.all (fun l => l.all (zRowB zSS zGG zPl 10))) = true := by decide +kernel
set_option maxRecDepth 100000 in
theorem zcd_11 : Jvm.Cond.code (sY zSS 11) (sC zSS 11) (sM zSS 11) (sR zSS 11) ∈ sW zSS := List.mem_of_getElem? (i := 11) rfl
set_option maxRecDepth 100000 in
theorem zr_11 : (zMtB zSS zPl 11 4 && zc_11.all (fun l => l.all (zRowB zSS zGG zPl 11))) = true := by decide +kernel
set_option maxRecDepth 100000 in
theorem zcd_12 : Jvm.Cond.code (sY zSS 12) (sC zSS 12) (sM zSS 12) (sR zSS 12) ∈ sW zSS := List.mem_of_getElem? (i := 12) rfl
set_option maxRecDepth 100000 in
theorem zr_12 : (zMtB zSS zPl 12 1 && zc_12.all (fun l => l.all (zRowB zSS zGG zPl 12))) = true := by decide +kernel
set_option maxRecDepth 100000 in
theorem zcd_13 : Jvm.Cond.code (sY zSS 13) (sC zSS 13) (sM zSS 13) (sR zSS 13) ∈ sW zSS := List.mem_of_getElem? (i := 13) rfl
set_option maxRecDepth 100000 in
theorem zr_13 : (zMtB zSS zPl 13 2 && zc_13.all (fun l => l.all (zRowB zSS zGG zPl 13))) = true := by decide +kernel
set_option maxRecDepth 100000 in
theorem zcd_14 : Jvm.Cond.code (sY zSS 14) (sC zSS 14) (sM zSS 14) (sR zSS 14) ∈ sW zSS := List.mem_of_getElem? (i := 14) rfl
set_option maxRecDepth 100000 in
theorem zr_14 : (zMtB zSS zPl 14 3 && zc_14.all (fun l => l.all (zRowB zSS zGG zPl 14))) = true := by decide +kernel
set_option maxRecDepth 100000 in
theorem zcd_15 : Jvm.Cond.code (sY zSS 15) (sC zSS 15) (sM zSS 15) (sR zSS 15) ∈ sW zSS := List.mem_of_getElem? (i := 15) rfl
set_option maxRecDepth 100000 in
theorem zr_15 : (zMtB zSS zPl 15 1 && zc_15.all (fun l => l.all (zRowB zSS zGG zPl 15))) = true := by decide +kernel
set_option maxRecDepth 100000 in
theorem zcd_16 : Jvm.Cond.code (sY zSS 16) (sC zSS 16) (sM zSS 16) (sR zSS 16) ∈ sW zSS := List.mem_of_getElem? (i := 16) rfl
set_option maxRecDepth 100000 in
theorem zr_16 : (zMtB zSS zPl 16 2 && zc_16.all (fun l => l.all (zRowB zSS zGG zPl 16))) = true := by decide +kernel
set_option maxRecDepth 100000 in
theorem zcd_17 : Jvm.Cond.code (sY zSS 17) (sC zSS 17) (sM zSS 17) (sR zSS 17) ∈ sW zSS := List.mem_of_getElem? (i := 17) rfl
set_option maxRecDepth 100000 in
theorem zr_17 : (zMtB zSS zPl 17 2 && zc_17.all (fun l => l.all (zRowB zSS zGG zPl 17))) = true := by decide +kernel
set_option maxRecDepth 100000 in
theorem zcd_18 : Jvm.Cond.code (sY zSS 18) (sC zSS 18) (sM zSS 18) (sR zSS 18) ∈ sW zSS := List.mem_of_getElem? (i := 18) rfl
set_option maxRecDepth 100000 in
theorem zr_18 : (zMtB zSS zPl 18 3 && zc_18.all (fun l => l.all (zRowB zSS zGG zPl 18))) = true := by decide +kernel
set_option maxRecDepth 100000 in
theorem zcd_19 : Jvm.Cond.code (sY zSS 19) (sC zSS 19) (sM zSS 19) (sR zSS 19) ∈ sW zSS := List.mem_of_getElem? (i := 19) rfl
set_option maxRecDepth 100000 in
theorem zr_19 : (zMtB zSS zPl 19 2 && zc_19.all (fun l => l.all (zRowB zSS zGG zPl 19))) = true := by decide +kernel
set_option maxRecDepth 100000 in
theorem zcd_20 : Jvm.Cond.code (sY zSS 20) (sC zSS 20) (sM zSS 20) (sR zSS 20) ∈ sW zSS := List.mem_of_getElem? (i := 20) rfl
set_option maxRecDepth 100000 in
theorem zr_20 : (zMtB zSS zPl 20 1 && zc_20.all (fun l => l.all (zRowB zSS zGG zPl 20))) = true := by decide +kernel
set_option maxRecDepth 100000 in
theorem zcd_21 : Jvm.Cond.code (sY zSS 21) (sC zSS 21) (sM zSS 21) (sR zSS 21) ∈ sW zSS := List.mem_of_getElem? (i := 21) rfl
set_option maxRecDepth 100000 in
theorem zr_21 : (zMtB zSS zPl 21 2 && zc_21.all (fun l => l.all (zRowB zSS zGG zPl 21))) = true := by decide +kernel
set_option maxRecDepth 100000 in
theorem zcd_22 : Jvm.Cond.code (sY zSS 22) (sC zSS 22) (sM zSS 22) (sR zSS 22) ∈ sW zSS := List.mem_of_getElem? (i := 22) rfl
set_option maxRecDepth 100000 in
theorem zr_22 : (zMtB zSS zPl 22 3 && zc_22.all (fun l => l.all (zRowB zSS zGG zPl 22))) = true := by decide +kernel
set_option maxRecDepth 100000 in
theorem zcd_23 : Jvm.Cond.code (sY zSS 23) (sC zSS 23) (sM zSS 23) (sR zSS 23) ∈ sW zSS := List.mem_of_getElem? (i := 23) rfl
set_option maxRecDepth 100000 in
theorem zr_23 : (zMtB zSS zPl 23 6 && zc_23.all (fun l => l.all (zRowB zSS zGG zPl 23))) = true := by decide +kernel
set_option maxRecDepth 100000 in
theorem zcd_24 : Jvm.Cond.code (sY zSS 24) (sC zSS 24) (sM zSS 24) (sR zSS 24) ∈ sW zSS := List.mem_of_getElem? (i := 24) rfl
set_option maxRecDepth 100000 in
theorem zr_24 : (zMtB zSS zPl 24 6 && zc_24.all (fun l => l.all (zRowB zSS zGG zPl 24))) = true := by decide +kernel
set_option maxRecDepth 100000 in
theorem zcd_25 : Jvm.Cond.code (sY zSS 25) (sC zSS 25) (sM zSS 25) (sR zSS 25) ∈ sW zSS := List.mem_of_getElem? (i := 25) rfl
set_option maxRecDepth 100000 in
theorem zr_25 : (zMtB zSS zPl 25 8 && zc_25.all (fun l => l.all (zRowB zSS zGG zPl 25))) = true := by decide +kernel
set_option maxRecDepth 100000 in
theorem zcd_26 : Jvm.Cond.code (sY zSS 26) (sC zSS 26) (sM zSS 26) (sR zSS 26) ∈ sW zSS := List.mem_of_getElem? (i := 26) rfl
set_option maxRecDepth 100000 in
theorem zr_26 : (zMtB zSS zPl 26 1 && zc_26.all (fun l => l.all (zRowB zSS zGG zPl 26))) = true := by decide +kernel
set_option maxRecDepth 100000 in
theorem zcd_27 : Jvm.Cond.code (sY zSS 27) (sC zSS 27) (sM zSS 27) (sR zSS 27) ∈ sW zSS := List.mem_of_getElem? (i := 27) rfl
set_option maxRecDepth 100000 in
theorem zr_27 : (zMtB zSS zPl 27 3 && zc_27.all (fun l => l.all (zRowB zSS zGG zPl 27))) = true := by decide +kernel
set_option maxRecDepth 100000 in
theorem zcd_28 : Jvm.Cond.code (sY zSS 28) (sC zSS 28) (sM zSS 28) (sR zSS 28) ∈ sW zSS := List.mem_of_getElem? (i := 28) rfl
set_option maxRecDepth 100000 in
theorem zr_28 : (zMtB zSS zPl 28 2 && zc_28.all (fun l => l.all (zRowB zSS zGG zPl 28))) = true := by decide +kernel
set_option maxRecDepth 100000 in
theorem zcd_29 : Jvm.Cond.code (sY zSS 29) (sC zSS 29) (sM zSS 29) (sR zSS 29) ∈ sW zSS := List.mem_of_getElem? (i := 29) rfl
set_option maxRecDepth 100000 in
theorem zr_29 : (zMtB zSS zPl 29 4 && zc_29.all (fun l => l.all (zRowB zSS zGG zPl 29))) = true := by decide +kernel
set_option maxRecDepth 100000 in
theorem zcd_30 : Jvm.Cond.code (sY zSS 30) (sC zSS 30) (sM zSS 30) (sR zSS 30) ∈ sW zSS := List.mem_of_getElem? (i := 30) rfl
set_option maxRecDepth 100000 in
theorem zr_30 : (zMtB zSS zPl 30 4 && zc_30.all (fun l => l.all (zRowB zSS zGG zPl 30))) = true := by decide +kernel
set_option maxRecDepth 100000 in
theorem zcd_31 : Jvm.Cond.code (sY zSS 31) (sC zSS 31) (sM zSS 31) (sR zSS 31) ∈ sW zSS := List.mem_of_getElem? (i := 31) rfl
set_option maxRecDepth 100000 in
theorem zr_31 : (zMtB zSS zPl 31 3 && zc_31.all (fun l => l.all (zRowB zSS zGG zPl 31))) = true := by decide +kernel
set_option maxRecDepth 100000 in
theorem zcd_32 : Jvm.Cond.code (sY zSS 32) (sC zSS 32) (sM zSS 32) (sR zSS 32) ∈ sW zSS := List.mem_of_getElem? (i := 32) rfl
set_option maxRecDepth 100000 in
theorem zr_32 : (zMtB zSS zPl 32 3 && zc_32.all (fun l => l.all (zRowB zSS zGG zPl 32))) = true := by decide +kernel
set_option maxRecDepth 100000 in
theorem zcd_33 : Jvm.Cond.code (sY zSS 33) (sC zSS 33) (sM zSS 33) (sR zSS 33) ∈ sW zSS := List.mem_of_getElem? (i := 33) rfl
set_option maxRecDepth 100000 in
theorem zr_33 : (zMtB zSS zPl 33 4 && zc_33.all (fun l => l.all (zRowB zSS zGG zPl 33))) = true := by decide +kernel
set_option maxRecDepth 100000 in
theorem zcd_34 : Jvm.Cond.code (sY zSS 34) (sC zSS 34) (sM zSS 34) (sR zSS 34) ∈ sW zSS := List.mem_of_getElem? (i := 34) rfl
set_option maxRecDepth 100000 in
theorem zr_34 : (zMtB zSS zPl 34 1 && zc_34.all (fun l => l.all (zRowB zSS zGG zPl 34))) = true := by decide +kernel
set_option maxRecDepth 100000 in
theorem zcd_35 : Jvm.Cond.code (sY zSS 35) (sC zSS 35) (sM zSS 35) (sR zSS 35) ∈ sW zSS := List.mem_of_getElem? (i := 35) rfl
set_option maxRecDepth 100000 in
theorem zr_35 : (zMtB zSS zPl 35 5 && zc_35.all (fun l => l.all (zRowB zSS zGG zPl 35))) = true := by decide +kernel
set_option maxRecDepth 100000 in
theorem zcd_36 : Jvm.Cond.code (sY zSS 36) (sC zSS 36) (sM zSS 36) (sR zSS 36) ∈ sW zSS := List.mem_of_getElem? (i := 36) rfl
set_option maxRecDepth 100000 in
theorem zr_36 : (zMtB zSS zPl 36 5 && zc_36.all (fun l => l.all (zRowB zSS zGG zPl 36))) = true := by decide +kernel
set_option maxRecDepth 100000 in
theorem zcd_37 : Jvm.Cond.code (sY zSS 37) (sC zSS 37) (sM zSS 37) (sR zSS 37) ∈ sW zSS := List.mem_of_getElem? (i := 37) rfl
set_option maxRecDepth 100000 in
theorem zr_37 : (zMtB zSS zPl 37 3 && zc_37.all (fun l => l.all (zRowB zSS zGG zPl 37))) = true := by decide +kernel
set_option maxRecDepth 100000 in
theorem zcd_38 : Jvm.Cond.code (sY zSS 38) (sC zSS 38) (sM zSS 38) (sR zSS 38) ∈ sW zSS := List.mem_of_getElem? (i := 38) rfl
set_option maxRecDepth 100000 in
theorem zr_38 : (zMtB zSS zPl 38 7 && zc_38.all (fun l => l.all (zRowB zSS zGG zPl 38))) = true := by decide +kernel
set_option maxRecDepth 100000 in
theorem zcd_39 : Jvm.Cond.code (sY zSS 39) (sC zSS 39) (sM zSS 39) (sR zSS 39) ∈ sW zSS := List.mem_of_getElem? (i := 39) rfl
set_option maxRecDepth 100000 in
theorem zr_39 : (zMtB zSS zPl 39 4 && zc_39.all (fun l => l.all (zRowB zSS zGG zPl 39))) = true := by decide +kernel
set_option maxRecDepth 100000 in
theorem zcd_40 : Jvm.Cond.code (sY zSS 40) (sC zSS 40) (sM zSS 40) (sR zSS 40) ∈ sW zSS := List.mem_of_getElem? (i := 40) rfl
set_option maxRecDepth 100000 in
theorem zr_40 : (zMtB zSS zPl 40 5 && zc_40.all (fun l => l.all (zRowB zSS zGG zPl 40))) = true := by decide +kernel
set_option maxRecDepth 100000 in
theorem zcd_41 : Jvm.Cond.code (sY zSS 41) (sC zSS 41) (sM zSS 41) (sR zSS 41) ∈ sW zSS := List.mem_of_getElem? (i := 41) rfl
set_option maxRecDepth 100000 in
theorem zr_41 : (zMtB zSS zPl 41 2 && zc_41.all (fun l => l.all (zRowB zSS zGG zPl 41))) = true := by decide +kernel
set_option maxRecDepth 100000 in
theorem zcd_42 : Jvm.Cond.code (sY zSS 42) (sC zSS 42) (sM zSS 42) (sR zSS 42) ∈ sW zSS := List.mem_of_getElem? (i := 42) rfl
set_option maxRecDepth 100000 in
theorem zr_42 : (zMtB zSS zPl 42 7 && zc_42.all (fun l => l.all (zRowB zSS zGG zPl 42))) = true := by decide +kernel
set_option maxRecDepth 100000 in
theorem zcd_43 : Jvm.Cond.code (sY zSS 43) (sC zSS 43) (sM zSS 43) (sR zSS 43) ∈ sW zSS := List.mem_of_getElem? (i := 43) rfl
set_option maxRecDepth 100000 in
theorem zr_43 : (zMtB zSS zPl 43 2 && zc_43.all (fun l => l.all (zRowB zSS zGG zPl 43))) = true := by decide +kernel
set_option maxRecDepth 100000 in
theorem zcd_44 : Jvm.Cond.code (sY zSS 44) (sC zSS 44) (sM zSS 44) (sR zSS 44) ∈ sW zSS := List.mem_of_getElem? (i := 44) rfl
set_option maxRecDepth 100000 in
theorem zr_44 : (zMtB zSS zPl 44 2 && zc_44.all (fun l => l.all (zRowB zSS zGG zPl 44))) = true := by decide +kernel
set_option maxRecDepth 100000 in
theorem zcd_45 : Jvm.Cond.code (sY zSS 45) (sC zSS 45) (sM zSS 45) (sR zSS 45) ∈ sW zSS := List.mem_of_getElem? (i := 45) rfl
set_option maxRecDepth 100000 in
theorem zr_45 : (zMtB zSS zPl 45 4 && zc_45.all (fun l => l.all (zRowB zSS zGG zPl 45))) = true := by decide +kernel
set_option maxRecDepth 100000 in
theorem zcd_46 : Jvm.Cond.code (sY zSS 46) (sC zSS 46) (sM zSS 46) (sR zSS 46) ∈ sW zSS := List.mem_of_getElem? (i := 46) rfl
set_option maxRecDepth 100000 in
theorem zr_46 : (zMtB zSS zPl 46 2 && zc_46.all (fun l => l.all (zRowB zSS zGG zPl 46))) = true := by decide +kernel
set_option maxRecDepth 100000 in
theorem zcd_47 : Jvm.Cond.code (sY zSS 47) (sC zSS 47) (sM zSS 47) (sR zSS 47) ∈ sW zSS := List.mem_of_getElem? (i := 47) rfl
set_option maxRecDepth 100000 in
theorem zr_47 : (zMtB zSS zPl 47 5 && zc_47.all (fun l => l.all (zRowB zSS zGG zPl 47))) = true := by decide +kernel
set_option maxRecDepth 100000 in
theorem zcd_48 : Jvm.Cond.code (sY zSS 48) (sC zSS 48) (sM zSS 48) (sR zSS 48) ∈ sW zSS := List.mem_of_getElem? (i := 48) rfl
set_option maxRecDepth 100000 in
theorem zr_48 : (zMtB zSS zPl 48 2 && zc_48.all (fun l => l.all (zRowB zSS zGG zPl 48))) = true := by decide +kernel
set_option maxRecDepth 100000 in
theorem zcd_49 : Jvm.Cond.code (sY zSS 49) (sC zSS 49) (sM zSS 49) (sR zSS 49) ∈ sW zSS := List.mem_of_getElem? (i := 49) rfl
set_option maxRecDepth 100000 in
theorem zr_49 : (zMtB zSS zPl 49 2 && zc_49.all (fun l => l.all (zRowB zSS zGG zPl 49))) = true := by decide +kernel
set_option maxRecDepth 100000 in
theorem zcd_50 : Jvm.Cond.code (sY zSS 50) (sC zSS 50) (sM zSS 50) (sR zSS 50) ∈ sW zSS := List.mem_of_getElem? (i := 50) rfl
set_option maxRecDepth 100000 in
theorem zr_50 : (zMtB zSS zPl 50 2 && zc_50.all (fun l => l.all (zRowB zSS zGG zPl 50))) = true := by decide +kernel
set_option maxRecDepth 100000 in
theorem zcd_51 : Jvm.Cond.code (sY zSS 51) (sC zSS 51) (sM zSS 51) (sR zSS 51) ∈ sW zSS := List.mem_of_getElem? (i := 51) rfl
set_option maxRecDepth 100000 in
theorem zr_51 : (zMtB zSS zPl 51 1 && zc_51.all (fun l => l.all (zRowB zSS zGG zPl 51))) = true := by decide +kernel
set_option maxRecDepth 100000 in
theorem zcd_52 : Jvm.Cond.code (sY zSS 52) (sC zSS 52) (sM zSS 52) (sR zSS 52) ∈ sW zSS := List.mem_of_getElem? (i := 52) rfl
set_option maxRecDepth 100000 in
theorem zr_52 : (zMtB zSS zPl 52 2 && zc_52.all (fun l => l.all (zRowB zSS zGG zPl 52))) = true := by decide +kernel
set_option maxRecDepth 100000 in
theorem zcd_53 : Jvm.Cond.code (sY zSS 53) (sC zSS 53) (sM zSS 53) (sR zSS 53) ∈ sW zSS := List.mem_of_getElem? (i := 53) rfl
set_option maxRecDepth 100000 in
theorem zr_53 : (zMtB zSS zPl 53 1 && zc_53.all (fun l => l.all (zRowB zSS zGG zPl 53))) = true := by decide +kernel
set_option maxRecDepth 100000 in
theorem zcd_54 : Jvm.Cond.code (sY zSS 54) (sC zSS 54) (sM zSS 54) (sR zSS 54) ∈ sW zSS := List.mem_of_getElem? (i := 54) rfl
set_option maxRecDepth 100000 in
theorem zr_54 : (zMtB zSS zPl 54 2 && zc_54.all (fun l => l.all (zRowB zSS zGG zPl 54))) = true := by decide +kernel
set_option maxRecDepth 100000 in
theorem zcd_55 : Jvm.Cond.code (sY zSS 55) (sC zSS 55) (sM zSS 55) (sR zSS 55) ∈ sW zSS := List.mem_of_getElem? (i := 55) rfl
set_option maxRecDepth 100000 in
theorem zr_55 : (zMtB zSS zPl 55 3 && zc_55.all (fun l => l.all (zRowB zSS zGG zPl 55))) = true := by decide +kernel
set_option maxRecDepth 100000 in
theorem zcd_56 : Jvm.Cond.code (sY zSS 56) (sC zSS 56) (sM zSS 56) (sR zSS 56) ∈ sW zSS := List.mem_of_getElem? (i := 56) rfl
set_option maxRecDepth 100000 in
theorem zr_56 : (zMtB zSS zPl 56 2 && zc_56.all (fun l => l.all (zRowB zSS zGG zPl 56))) = true := by decide +kernel
set_option maxRecDepth 100000 in
theorem zcd_57 : Jvm.Cond.code (sY zSS 57) (sC zSS 57) (sM zSS 57) (sR zSS 57) ∈ sW zSS := List.mem_of_getElem? (i := 57) rfl
set_option maxRecDepth 100000 in
theorem zr_57 : (zMtB zSS zPl 57 2 && zc_57.all (fun l => l.all (zRowB zSS zGG zPl 57))) = true := by decide +kernel
set_option maxRecDepth 100000 in
theorem zcd_58 : Jvm.Cond.code (sY zSS 58) (sC zSS 58) (sM zSS 58) (sR zSS 58) ∈ sW zSS := List.mem_of_getElem? (i := 58) rfl
set_option maxRecDepth 100000 in
theorem zr_58 : (zMtB zSS zPl 58 2 && zc_58.all (fun l => l.all (zRowB zSS zGG zPl 58))) = true := by decide +kernel
set_option maxRecDepth 100000 in
theorem zcd_59 : Jvm.Cond.code (sY zSS 59) (sC zSS 59) (sM zSS 59) (sR zSS 59) ∈ sW zSS := List.mem_of_getElem? (i := 59) rfl
set_option maxRecDepth 100000 in
theorem zr_59 : (zMtB zSS zPl 59 1 && zc_59.all (fun l => l.all (zRowB zSS zGG zPl 59))) = true := by decide +kernel
set_option maxRecDepth 100000 in
theorem zcd_60 : Jvm.Cond.code (sY zSS 60) (sC zSS 60) (sM zSS 60) (sR zSS 60) ∈ sW zSS := List.mem_of_getElem? (i := 60) rfl
set_option maxRecDepth 100000 in
theorem zr_60 : (zMtB zSS zPl 60 6 && zc_60.all (fun l => l.all (zRowB zSS zGG zPl 60))) = true := by decide +kernel
set_option maxRecDepth 100000 in
theorem zcd_61 : Jvm.Cond.code (sY zSS 61) (sC zSS 61) (sM zSS 61) (sR zSS 61) ∈ sW zSS := List.mem_of_getElem? (i := 61) rfl
set_option maxRecDepth 100000 in
theorem zr_61 : (zMtB zSS zPl 61 2 && zc_61.all (fun l => l.all (zRowB zSS zGG zPl 61))) = true := by decide +kernel
set_option maxRecDepth 100000 in
theorem zcd_62 : Jvm.Cond.code (sY zSS 62) (sC zSS 62) (sM zSS 62) (sR zSS 62) ∈ sW zSS := List.mem_of_getElem? (i := 62) rfl
set_option maxRecDepth 100000 in
theorem zr_62 : (zMtB zSS zPl 62 6 && zc_62.all (fun l => l.all (zRowB zSS zGG zPl 62))) = true := by decide +kernel
set_option maxRecDepth 100000 in
theorem zcd_63 : Jvm.Cond.code (sY zSS 63) (sC zSS 63) (sM zSS 63) (sR zSS 63) ∈ sW zSS := List.mem_of_getElem? (i := 63) rfl
set_option maxRecDepth 100000 in
theorem zr_63 : (zMtB zSS zPl 63 1 && zc_63.all (fun l => l.all (zRowB zSS zGG zPl 63))) = true := by decide +kernel
set_option maxRecDepth 100000 in
theorem zcd_64 : Jvm.Cond.code (sY zSS 64) (sC zSS 64) (sM zSS 64) (sR zSS 64) ∈ sW zSS := List.mem_of_getElem? (i := 64) rfl
set_option maxRecDepth 100000 in
theorem zr_64 : (zMtB zSS zPl 64 2 && zc_64.all (fun l => l.all (zRowB zSS zGG zPl 64))) = true := by decide +kernel
set_option maxRecDepth 100000 in
theorem zcd_65 : Jvm.Cond.code (sY zSS 65) (sC zSS 65) (sM zSS 65) (sR zSS 65) ∈ sW zSS := List.mem_of_getElem? (i := 65) rfl
set_option maxRecDepth 100000 in
theorem zr_65 : (zMtB zSS zPl 65 2 && zc_65.all (fun l => l.all (zRowB zSS zGG zPl 65))) = true := by decide +kernel
set_option maxRecDepth 100000 in
theorem zcd_66 : Jvm.Cond.code (sY zSS 66) (sC zSS 66) (sM zSS 66) (sR zSS 66) ∈ sW zSS := List.mem_of_getElem? (i := 66) rfl
set_option maxRecDepth 100000 in
theorem zr_66 : (zMtB zSS zPl 66 5 && zc_66.all (fun l => l.all (zRowB zSS zGG zPl 66))) = true := by decide +kernel
set_option maxRecDepth 100000 in
theorem zcd_67 : Jvm.Cond.code (sY zSS 67) (sC zSS 67) (sM zSS 67) (sR zSS 67) ∈ sW zSS := List.mem_of_getElem? (i := 67) rfl
set_option maxRecDepth 100000 in
theorem zr_67 : (zMtB zSS zPl 67 2 && zc_67.all (fun l => l.all (zRowB zSS zGG zPl 67))) = true := by decide +kernel
set_option maxRecDepth 100000 in
theorem zcd_68 : Jvm.Cond.code (sY zSS 68) (sC zSS 68) (sM zSS 68) (sR zSS 68) ∈ sW zSS := List.mem_of_getElem? (i := 68) rfl
set_option maxRecDepth 100000 in
theorem zr_68 : (zMtB zSS zPl 68 3 && zc_68.all (fun l => l.all (zRowB zSS zGG zPl 68))) = true := by decide +kernel
set_option maxRecDepth 100000 in
theorem zcd_69 : Jvm.Cond.code (sY zSS 69) (sC zSS 69) (sM zSS 69) (sR zSS 69) ∈ sW zSS := List.mem_of_getElem? (i := 69) rfl
set_option maxRecDepth 100000 in
theorem zr_69 : (zMtB zSS zPl 69 1 && zc_69.all (fun l => l.all (zRowB zSS zGG zPl 69))) = true := by decide +kernel
set_option maxRecDepth 100000 in
theorem zcd_70 : Jvm.Cond.code (sY zSS 70) (sC zSS 70) (sM zSS 70) (sR zSS 70) ∈ sW zSS := List.mem_of_getElem? (i := 70) rfl
set_option maxRecDepth 100000 in
theorem zr_70 : (zMtB zSS zPl 70 3 && zc_70.all (fun l => l.all (zRowB zSS zGG zPl 70))) = true := by decide +kernel
set_option maxRecDepth 100000 in
theorem zcd_71 : Jvm.Cond.code (sY zSS 71) (sC zSS 71) (sM zSS 71) (sR zSS 71) ∈ sW zSS := List.mem_of_getElem? (i := 71) rfl
set_option maxRecDepth 100000 in
theorem zr_71 : (zMtB zSS zPl 71 4 && zc_71.all (fun l => l.all (zRowB zSS zGG zPl 71))) = true := by decide +kernel
set_option maxRecDepth 100000 in
theorem zcd_72 : Jvm.Cond.code (sY zSS 72) (sC zSS 72) (sM zSS 72) (sR zSS 72) ∈ sW zSS := List.mem_of_getElem? (i := 72) rfl
set_option maxRecDepth 100000 in
theorem zr_72 : (zMtB zSS zPl 72 1 && zc_72.all (fun l => l.all (zRowB zSS zGG zPl 72))) = true := by decide +kernel
set_option maxRecDepth 100000 in
theorem zcd_73 : Jvm.Cond.code (sY zSS 73) (sC zSS 73) (sM zSS 73) (sR zSS 73) ∈ sW zSS := List.mem_of_getElem? (i := 73) rfl
set_option maxRecDepth 100000 in
theorem zr_73 : (zMtB zSS zPl 73 3 && zc_73.all (fun l => l.all (zRowB zSS zGG zPl 73))) = true := by decide +kernel
set_option maxRecDepth 100000 in
theorem zcd_74 : Jvm.Cond.code (sY zSS 74) (sC zSS 74) (sM zSS 74) (sR zSS 74) ∈ sW zSS := List.mem_of_getElem? (i := 74) rfl
set_option maxRecDepth 100000 in
theorem zr_74 : (zMtB zSS zPl 74 2 && zc_74.all (fun l => l.all (zRowB zSS zGG zPl 74))) = true := by decide +kernel
set_option maxRecDepth 100000 in
theorem zcd_75 : Jvm.Cond.code (sY zSS 75) (sC zSS 75) (sM zSS 75) (sR zSS 75) ∈ sW zSS := List.mem_of_getElem? (i := 75) rfl
set_option maxRecDepth 100000 in
theorem zr_75 : (zMtB zSS zPl 75 4 && zc_75.all (fun l => l.all (zRowB zSS zGG zPl 75))) = true := by decide +kernel
set_option maxRecDepth 100000 in
theorem zcd_76 : Jvm.Cond.code (sY zSS 76) (sC zSS 76) (sM zSS 76) (sR zSS 76) ∈ sW zSS := List.mem_of_getElem? (i := 76) rfl
set_option maxRecDepth 100000 in
theorem zr_76 : (zMtB zSS zPl 76 5 && zc_76.all (fun l => l.all (zRowB zSS zGG zPl 76))) = true := by decide +kernel
set_option maxRecDepth 100000 in
theorem zcd_77 : Jvm.Cond.code (sY zSS 77) (sC zSS 77) (sM zSS 77) (sR zSS 77) ∈ sW zSS := List.mem_of_getElem? (i := 77) rfl
set_option maxRecDepth 100000 in
theorem zr_77 : (zMtB zSS zPl 77 3 && zc_77.all (fun l => l.all (zRowB zSS zGG zPl 77))) = true := by decide +kernel
set_option maxRecDepth 100000 in
theorem zcd_78 : Jvm.Cond.code (sY zSS 78) (sC zSS 78) (sM zSS 78) (sR zSS 78) ∈ sW zSS := List.mem_of_getElem? (i := 78) rfl
set_option maxRecDepth 100000 in
theorem zr_78 : (zMtB zSS zPl 78 8 && zc_78.all (fun l => l.all (zRowB zSS zGG zPl 78))) = true := by decide +kernel
set_option maxRecDepth 100000 in
theorem zcd_79 : Jvm.Cond.code (sY zSS 79) (sC zSS 79) (sM zSS 79) (sR zSS 79) ∈ sW zSS := List.mem_of_getElem? (i := 79) rfl
set_option maxRecDepth 100000 in
theorem zr_79 : (zMtB zSS zPl 79 2 && zc_79.all (fun l => l.all (zRowB zSS zGG zPl 79))) = true := by decide +kernel
set_option maxRecDepth 100000 in
theorem zcd_80 : Jvm.Cond.code (sY zSS 80) (sC zSS 80) (sM zSS 80) (sR zSS 80) ∈ sW zSS := List.mem_of_getElem? (i := 80) rfl
set_option maxRecDepth 100000 in
theorem zr_80 : (zMtB zSS zPl 80 1 && zc_80.all (fun l => l.all (zRowB zSS zGG zPl 80))) = true := by decide +kernel
set_option maxRecDepth 100000 in
theorem zcd_81 : Jvm.Cond.code (sY zSS 81) (sC zSS 81) (sM zSS 81) (sR zSS 81) ∈ sW zSS := List.mem_of_getElem? (i := 81) rfl
set_option maxRecDepth 100000 in
theorem zr_81 : (zMtB zSS zPl 81 2 && zc_81.all (fun l => l.all (zRowB zSS zGG zPl 81))) = true := by decide +kernel
set_option maxRecDepth 100000 in
theorem zcd_82 : Jvm.Cond.code (sY zSS 82) (sC zSS 82) (sM zSS 82) (sR zSS 82) ∈ sW zSS := List.mem_of_getElem? (i := 82) rfl
set_option maxRecDepth 100000 in
theorem zr_82 : (zMtB zSS zPl 82 4 && zc_82.all (fun l => l.all (zRowB zSS zGG zPl 82))) = true := by decide +kernel
set_option maxRecDepth 100000 in
theorem zcd_83 : Jvm.Cond.code (sY zSS 83) (sC zSS 83) (sM zSS 83) (sR zSS 83) ∈ sW zSS := List.mem_of_getElem? (i := 83) rfl
set_option maxRecDepth 100000 in
theorem zr_83 : (zMtB zSS zPl 83 2 && zc_83.all (fun l => l.all (zRowB zSS zGG zPl 83))) = true := by decide +kernel
set_option maxRecDepth 100000 in
theorem zcd_84 : Jvm.Cond.code (sY zSS 84) (sC zSS 84) (sM zSS 84) (sR zSS 84) ∈ sW zSS := List.mem_of_getElem? (i := 84) rfl
set_option maxRecDepth 100000 in
theorem zr_84 : (zMtB zSS zPl 84 2 && zc_84.all (fun l => l.all (zRowB zSS zGG zPl 84))) = true := by decide +kernel
set_option maxRecDepth 100000 in
theorem zcd_85 : Jvm.Cond.code (sY zSS 85) (sC zSS 85) (sM zSS 85) (sR zSS 85) ∈ sW zSS := List.mem_of_getElem? (i := 85) rfl
set_option maxRecDepth 100000 in
theorem zr_85 : (zMtB zSS zPl 85 9 && zc_85.all (fun l => l.all (zRowB zSS zGG zPl 85))) = true := by decide +kernel
set_option maxRecDepth 100000 in
theorem zcd_86 : Jvm.Cond.code (sY zSS 86) (sC zSS 86) (sM zSS 86) (sR zSS 86) ∈ sW zSS := List.mem_of_getElem? (i := 86) rfl
set_option maxRecDepth 100000 in
theorem zr_86 : (zMtB zSS zPl 86 1 && zc_86.all (fun l => l.all (zRowB zSS zGG zPl 86))) = true := by decide +kernel
set_option maxRecDepth 100000 in
theorem zcd_87 : Jvm.Cond.code (sY zSS 87) (sC zSS 87) (sM zSS 87) (sR zSS 87) ∈ sW zSS := List.mem_of_getElem? (i := 87) rfl
set_option maxRecDepth 100000 in
theorem zr_87 : (zMtB zSS zPl 87 1 && zc_87.all (fun l => l.all (zRowB zSS zGG zPl 87))) = true := by decide +kernel
set_option maxRecDepth 100000 in
theorem zcd_88 : Jvm.Cond.code (sY zSS 88) (sC zSS 88) (sM zSS 88) (sR zSS 88) ∈ sW zSS := List.mem_of_getElem? (i := 88) rfl
set_option maxRecDepth 100000 in
theorem zr_88 : (zMtB zSS zPl 88 6 && zc_88.all (fun l => l.all (zRowB zSS zGG zPl 88))) = true := by decide +kernel
set_option maxRecDepth 100000 in
theorem zcd_89 : Jvm.Cond.code (sY zSS 89) (sC zSS 89) (sM zSS 89) (sR zSS 89) ∈ sW zSS := List.mem_of_getElem? (i := 89) rfl
set_option maxRecDepth 100000 in
theorem zr_89 : (zMtB zSS zPl 89 3 && zc_89.all (fun l => l.all (zRowB zSS zGG zPl 89))) = true := by decide +kernel
set_option maxRecDepth 100000 in
theorem zcd_90 : Jvm.Cond.code (sY zSS 90) (sC zSS 90) (sM zSS 90) (sR zSS 90) ∈ sW zSS := List.mem_of_getElem? (i := 90) rfl
set_option maxRecDepth 100000 in
theorem zr_90 : (zMtB zSS zPl 90 2 && zc_90.all (fun l => l.all (zRowB zSS zGG zPl 90))) = true := by decide +kernel
set_option maxRecDepth 100000 in
theorem zcd_91 : Jvm.Cond.code (sY zSS 91) (sC zSS 91) (sM zSS 91) (sR zSS 91) ∈ sW zSS := List.mem_of_getElem? (i := 91) rfl
set_option maxRecDepth 100000 in
theorem zr_91 : (zMtB zSS zPl 91 1 && zc_91.all (fun l => l.all (zRowB zSS zGG zPl 91))) = true := by decide +kernel
set_option maxRecDepth 100000 in
theorem zcd_92 : Jvm.Cond.code (sY zSS 92) (sC zSS 92) (sM zSS 92) (sR zSS 92) ∈ sW zSS := List.mem_of_getElem? (i := 92) rfl
set_option maxRecDepth 100000 in
theorem zr_92 : (zMtB zSS zPl 92 2 && zc_92.all (fun l => l.all (zRowB zSS zGG zPl 92))) = true := by decide +kernel
set_option maxRecDepth 100000 in
theorem zcd_93 : Jvm.Cond.code (sY zSS 93) (sC zSS 93) (sM zSS 93) (sR zSS 93) ∈ sW zSS := List.mem_of_getElem? (i := 93) rfl
set_option maxRecDepth 100000 in
theorem zr_93 : (zMtB zSS zPl 93 3 && zc_93.all (fun l => l.all (zRowB zSS zGG zPl 93))) = true := by decide +kernel
set_option maxRecDepth 100000 in
theorem zcd_94 : Jvm.Cond.code (sY zSS 94) (sC zSS 94) (sM zSS 94) (sR zSS 94) ∈ sW zSS := List.mem_of_getElem? (i := 94) rfl
set_option maxRecDepth 100000 in
theorem zr_94 : (zMtB zSS zPl 94 2 && zc_94.all (fun l => l.all (zRowB zSS zGG zPl 94))) = true := by decide +kernel
set_option maxRecDepth 100000 in
theorem zcd_95 : Jvm.Cond.code (sY zSS 95) (sC zSS 95) (sM zSS 95) (sR zSS 95) ∈ sW zSS := List.mem_of_getElem? (i := 95) rfl
set_option maxRecDepth 100000 in
theorem zr_95 : (zMtB zSS zPl 95 2 && zc_95.all (fun l => l.all (zRowB zSS zGG zPl 95))) = true := by decide +kernel
set_option maxRecDepth 100000 in
theorem zcd_96 : Jvm.Cond.code (sY zSS 96) (sC zSS 96) (sM zSS 96) (sR zSS 96) ∈ sW zSS := List.mem_of_getElem? (i := 96) rfl
set_option maxRecDepth 100000 in
theorem zr_96 : (zMtB zSS zPl 96 3 && zc_96.all (fun l => l.all (zRowB zSS zGG zPl 96))) = true := by decide +kernel
set_option maxRecDepth 100000 in
theorem zcd_97 : Jvm.Cond.code (sY zSS 97) (sC zSS 97) (sM zSS 97) (sR zSS 97) ∈ sW zSS := List.mem_of_getElem? (i := 97) rfl
set_option maxRecDepth 100000 in
theorem zr_97 : (zMtB zSS zPl 97 2 && zc_97.all (fun l => l.all (zRowB zSS zGG zPl 97))) = true := by decide +kernel
set_option maxRecDepth 100000 in
theorem zcd_98 : Jvm.Cond.code (sY zSS 98) (sC zSS 98) (sM zSS 98) (sR zSS 98) ∈ sW zSS := List.mem_of_getElem? (i := 98) rfl
set_option maxRecDepth 100000 in
theorem zr_98 : (zMtB zSS zPl 98 3 && zc_98.all (fun l => l.all (zRowB zSS zGG zPl 98))) = true := by decide +kernel
set_option maxRecDepth 100000 in
theorem zcd_99 : Jvm.Cond.code (sY zSS 99) (sC zSS 99) (sM zSS 99) (sR zSS 99) ∈ sW zSS := List.mem_of_getElem? (i := 99) rfl
set_option maxRecDepth 100000 in
theorem zr_99 : (zMtB zSS zPl 99 3 && zc_99.all (fun l => l.all (zRowB zSS zGG zPl 99))) = true := by decide +kernel
set_option maxRecDepth 100000 in
theorem zcd_100 : Jvm.Cond.code (sY zSS 100) (sC zSS 100) (sM zSS 100) (sR zSS 100) ∈ sW zSS := List.mem_of_getElem? (i := 100) rfl
set_option maxRecDepth 100000 in
theorem zr_100 : (zMtB zSS zPl 100 4 && zc_100.all (fun l => l.all (zRowB zSS zGG zPl 100))) = true := by decide +kernel
set_option maxRecDepth 100000 in
theorem zcd_101 : Jvm.Cond.code (sY zSS 101) (sC zSS 101) (sM zSS 101) (sR zSS 101) ∈ sW zSS := List.mem_of_getElem? (i := 101) rfl
set_option maxRecDepth 100000 in
theorem zr_101 : (zMtB zSS zPl 101 2 && zc_101.all (fun l => l.all (zRowB zSS zGG zPl 101))) = true := by decide +kernel
set_option maxRecDepth 100000 in
theorem zcd_102 : Jvm.Cond.code (sY zSS 102) (sC zSS 102) (sM zSS 102) (sR zSS 102) ∈ sW zSS := List.mem_of_getElem? (i := 102) rfl
set_option maxRecDepth 100000 in
theorem zr_102 : (zMtB zSS zPl 102 2 && zc_102.all (fun l => l.all (zRowB zSS zGG zPl 102))) = true := by decide +kernel
set_option maxRecDepth 100000 in
theorem zcd_103 : Jvm.Cond.code (sY zSS 103) (sC zSS 103) (sM zSS 103) (sR zSS 103) ∈ sW zSS := List.mem_of_getElem? (i := 103) rfl
set_option maxRecDepth 100000 in
theorem zr_103 : (zMtB zSS zPl 103 1 && zc_103.all (fun l => l.all (zRowB zSS zGG zPl 103))) = true := by decide +kernel
set_option maxRecDepth 100000 in
theorem zcd_104 : Jvm.Cond.code (sY zSS 104) (sC zSS 104) (sM zSS 104) (sR zSS 104) ∈ sW zSS := List.mem_of_getElem? (i := 104) rfl
set_option maxRecDepth 100000 in
theorem zr_104 : (zMtB zSS zPl 104 6 && zc_104.all (fun l => l.all (zRowB zSS zGG zPl 104))) = true := by decide +kernel
set_option maxRecDepth 100000 in
theorem zcd_105 : Jvm.Cond.code (sY zSS 105) (sC zSS 105) (sM zSS 105) (sR zSS 105) ∈ sW zSS := List.mem_of_getElem? (i := 105) rfl
set_option maxRecDepth 100000 in
theorem zr_105 : (zMtB zSS zPl 105 3 && zc_105.all (fun l => l.all (zRowB zSS zGG zPl 105))) = true := by decide +kernel
set_option maxRecDepth 100000 in
theorem zcd_106 : Jvm.Cond.code (sY zSS 106) (sC zSS 106) (sM zSS 106) (sR zSS 106) ∈ sW zSS := List.mem_of_getElem? (i := 106) rfl
set_option maxRecDepth 100000 in
theorem zr_106 : (zMtB zSS zPl 106 4 && zc_106.all (fun l => l.all (zRowB zSS zGG zPl 106))) = true := by decide +kernel
set_option maxRecDepth 100000 in
theorem zcd_107 : Jvm.Cond.code (sY zSS 107) (sC zSS 107) (sM zSS 107) (sR zSS 107) ∈ sW zSS := List.mem_of_getElem? (i := 107) rfl
set_option maxRecDepth 100000 in
theorem zr_107 : (zMtB zSS zPl 107 3 && zc_107.all (fun l => l.all (zRowB zSS zGG zPl 107))) = true := by decide +kernel
set_option maxRecDepth 100000 in
theorem zcd_108 : Jvm.Cond.code (sY zSS 108) (sC zSS 108) (sM zSS 108) (sR zSS 108) ∈ sW zSS := List.mem_of_getElem? (i := 108) rfl
set_option maxRecDepth 100000 in
theorem zr_108 : (zMtB zSS zPl 108 5 && zc_108.all (fun l => l.all (zRowB zSS zGG zPl 108))) = true := by decide +kernel
set_option maxRecDepth 100000 in
theorem zcd_109 : Jvm.Cond.code (sY zSS 109) (sC zSS 109) (sM zSS 109) (sR zSS 109) ∈ sW zSS := List.mem_of_getElem? (i := 109) rfl
set_option maxRecDepth 100000 in
theorem zr_109 : (zMtB zSS zPl 109 2 && zc_109.all (fun l => l.all (zRowB zSS zGG zPl 109))) = true := by decide +kernel
set_option maxRecDepth 100000 in
theorem zcd_110 : Jvm.Cond.code (sY zSS 110) (sC zSS 110) (sM zSS 110) (sR zSS 110) ∈ sW zSS := List.mem_of_getElem? (i := 110) rfl
set_option maxRecDepth 100000 in
theorem zr_110 : (zMtB zSS zPl 110 2 && zc_110.all (fun l => l.all (zRowB zSS zGG zPl 110))) = true := by decide +kernel
set_option maxRecDepth 100000 in
theorem zcd_111 : Jvm.Cond.code (sY zSS 111) (sC zSS 111) (sM zSS 111) (sR zSS 111) ∈ sW zSS := List.mem_of_getElem? (i := 111) rfl
set_option maxRecDepth 100000 in
theorem zr_111 : (zMtB zSS zPl 111 2 && zc_111.all (fun l => l.all (zRowB zSS zGG zPl 111))) = true := by decide +kernel
set_option maxRecDepth 100000 in
theorem zcd_112 : Jvm.Cond.code (sY zSS 112) (sC zSS 112) (sM zSS 112) (sR zSS 112) ∈ sW zSS := List.mem_of_getElem? (i := 112) rfl
set_option maxRecDepth 100000 in
theorem zr_112 : (zMtB zSS zPl 112 3 && zc_112.all (fun l => l.all (zRowB zSS zGG zPl 112))) = true := by decide +kernel
set_option maxRecDepth 100000 in
theorem zcd_113 : Jvm.Cond.code (sY zSS 113) (sC zSS 113) (sM zSS 113) (sR zSS 113) ∈ sW zSS := List.mem_of_getElem? (i := 113) rfl
set_option maxRecDepth 100000 in
theorem zr_113 : (zMtB zSS zPl 113 2 && zc_113.all (fun l => l.all (zRowB zSS zGG zPl 113))) = true := by decide +kernel
set_option maxRecDepth 100000 in
theorem zcd_114 : Jvm.Cond.code (sY zSS 114) (sC zSS 114) (sM zSS 114) (sR zSS 114) ∈ sW zSS := List.mem_of_getElem? (i := 114) rfl
set_option maxRecDepth 100000 in
theorem zr_114 : (zMtB zSS zPl 114 3 && zc_114.all (fun l => l.all (zRowB zSS zGG zPl 114))) = true := by decide +kernel
set_option maxRecDepth 100000 in
theorem zcd_115 : Jvm.Cond.code (sY zSS 115) (sC zSS 115) (sM zSS 115) (sR zSS 115) ∈ sW zSS := List.mem_of_getElem? (i := 115) rfl
set_option maxRecDepth 100000 in
theorem zr_115 : (zMtB zSS zPl 115 4 && zc_115.all (fun l => l.all (zRowB zSS zGG zPl 115))) = true := by decide +kernel
set_option maxRecDepth 100000 in
theorem zcd_116 : Jvm.Cond.code (sY zSS 116) (sC zSS 116) (sM zSS 116) (sR zSS 116) ∈ sW zSS := List.mem_of_getElem? (i := 116) rfl
set_option maxRecDepth 100000 in
theorem zr_116 : (zMtB zSS zPl 116 2 && zc_116.all (fun l => l.all (zRowB zSS zGG zPl 116))) = true := by decide +kernel
set_option maxRecDepth 100000 in
theorem zcd_117 : Jvm.Cond.code (sY zSS 117) (sC zSS 117) (sM zSS 117) (sR zSS 117) ∈ sW zSS := List.mem_of_getElem? (i := 117) rfl
set_option maxRecDepth 100000 in
theorem zr_117 : (zMtB zSS zPl 117 2 && zc_117.all (fun l => l.all (zRowB zSS zGG zPl 117))) = true := by decide +kernel
set_option maxRecDepth 100000 in
theorem zcd_118 : Jvm.Cond.code (sY zSS 118) (sC zSS 118) (sM zSS 118) (sR zSS 118) ∈ sW zSS := List.mem_of_getElem? (i := 118) rfl
set_option maxRecDepth 100000 in
theorem zr_118 : (zMtB zSS zPl 118 5 && zc_118.all (fun l => l.all (zRowB zSS zGG zPl 118))) = true := by decide +kernel
set_option maxRecDepth 100000 in
theorem zcd_119 : Jvm.Cond.code (sY zSS 119) (sC zSS 119) (sM zSS 119) (sR zSS 119) ∈ sW zSS := List.mem_of_getElem? (i := 119) rfl
set_option maxRecDepth 100000 in
theorem zr_119 : (zMtB zSS zPl 119 3 && zc_119.all (fun l => l.all (zRowB zSS zGG zPl 119))) = true := by decide +kernel
set_option maxRecDepth 100000 in
theorem zcd_120 : Jvm.Cond.code (sY zSS 120) (sC zSS 120) (sM zSS 120) (sR zSS 120) ∈ sW zSS := List.mem_of_getElem? (i := 120) rfl
set_option maxRecDepth 100000 in
theorem zr_120 : (zMtB zSS zPl 120 2 && zc_120.all (fun l => l.all (zRowB zSS zGG zPl 120))) = true := by decide +kernel
set_option maxRecDepth 100000 in
theorem zcd_121 : Jvm.Cond.code (sY zSS 121) (sC zSS 121) (sM zSS 121) (sR zSS 121) ∈ sW zSS := List.mem_of_getElem? (i := 121) rfl
set_option maxRecDepth 100000 in
theorem zr_121 : (zMtB zSS zPl 121 3 && zc_121.all (fun l => l.all (zRowB zSS zGG zPl 121))) = true := by decide +kernel
set_option maxRecDepth 100000 in
theorem zcd_122 : Jvm.Cond.code (sY zSS 122) (sC zSS 122) (sM zSS 122) (sR zSS 122) ∈ sW zSS := List.mem_of_getElem? (i := 122) rfl
set_option maxRecDepth 100000 in
theorem zr_122 : (zMtB zSS zPl 122 1 && zc_122.all (fun l => l.all (zRowB zSS zGG zPl 122))) = true := by decide +kernel
set_option maxRecDepth 100000 in
theorem zcd_123 : Jvm.Cond.code (sY zSS 123) (sC zSS 123) (sM zSS 123) (sR zSS 123) ∈ sW zSS := List.mem_of_getElem? (i := 123) rfl
set_option maxRecDepth 100000 in
theorem zr_123 : (zMtB zSS zPl 123 6 && zc_123.all (fun l => l.all (zRowB zSS zGG zPl 123))) = true := by decide +kernel
set_option maxRecDepth 100000 in
theorem zcd_124 : Jvm.Cond.code (sY zSS 124) (sC zSS 124) (sM zSS 124) (sR zSS 124) ∈ sW zSS := List.mem_of_getElem? (i := 124) rfl
set_option maxRecDepth 100000 in
theorem zr_124 : (zMtB zSS zPl 124 3 && zc_124.all (fun l => l.all (zRowB zSS zGG zPl 124))) = true := by decide +kernel
set_option maxRecDepth 100000 in
theorem zcd_125 : Jvm.Cond.code (sY zSS 125) (sC zSS 125) (sM zSS 125) (sR zSS 125) ∈ sW zSS := List.mem_of_getElem? (i := 125) rfl
set_option maxRecDepth 100000 in
theorem zr_125 : (zMtB zSS zPl 125 2 && zc_125.all (fun l => l.all (zRowB zSS zGG zPl 125))) = true := by decide +kernel
set_option maxRecDepth 100000 in
theorem zcd_126 : Jvm.Cond.code (sY zSS 126) (sC zSS 126) (sM zSS 126) (sR zSS 126) ∈ sW zSS := List.mem_of_getElem? (i := 126) rfl
set_option maxRecDepth 100000 in
theorem zr_126 : (zMtB zSS zPl 126 2 && zc_126.all (fun l => l.all (zRowB zSS zGG zPl 126))) = true := by decide +kernel
set_option maxRecDepth 100000 in
theorem zcd_127 : Jvm.Cond.code (sY zSS 127) (sC zSS 127) (sM zSS 127) (sR zSS 127) ∈ sW zSS := List.mem_of_getElem? (i := 127) rfl
set_option maxRecDepth 100000 in
theorem zr_127 : (zMtB zSS zPl 127 6 && zc_127.all (fun l => l.all (zRowB zSS zGG zPl 127))) = true := by decide +kernel
set_option maxRecDepth 100000 in
theorem zcd_128 : Jvm.Cond.code (sY zSS 128) (sC zSS 128) (sM zSS 128) (sR zSS 128) ∈ sW zSS := List.mem_of_getElem? (i := 128) rfl
set_option maxRecDepth 100000 in
theorem zr_128 : (zMtB zSS zPl 128 5 && zc_128.all (fun l => l.all (zRowB zSS zGG zPl 128))) = true := by decide +kernel
set_option maxRecDepth 100000 in
theorem zcd_129 : Jvm.Cond.code (sY zSS 129) (sC zSS 129) (sM zSS 129) (sR zSS 129) ∈ sW zSS := List.mem_of_getElem? (i := 129) rfl
set_option maxRecDepth 100000 in
theorem zr_129 : (zMtB zSS zPl 129 3 && zc_129.all (fun l => l.all (zRowB zSS zGG zPl 129))) = true := by decide +kernel
set_option maxRecDepth 100000 in
theorem zcd_130 : Jvm.Cond.code (sY zSS 130) (sC zSS 130) (sM zSS 130) (sR zSS 130) ∈ sW zSS := List.mem_of_getElem? (i := 130) rfl
set_option maxRecDepth 100000 in
theorem zr_130 : (zMtB zSS zPl 130 8 && zc_130.all (fun l => l.all (zRowB zSS zGG zPl 130))) = true := by decide +kernel
set_option maxRecDepth 100000 in
theorem zcd_131 : Jvm.Cond.code (sY zSS 131) (sC zSS 131) (sM zSS 131) (sR zSS 131) ∈ sW zSS := List.mem_of_getElem? (i := 131) rfl
set_option maxRecDepth 100000 in
theorem zr_131 : (zMtB zSS zPl 131 5 && zc_131.all (fun l => l.all (zRowB zSS zGG zPl 131))) = true := by decide +kernel
set_option maxRecDepth 100000 in
theorem zcd_132 : Jvm.Cond.code (sY zSS 132) (sC zSS 132) (sM zSS 132) (sR zSS 132) ∈ sW zSS := List.mem_of_getElem? (i := 132) rfl
set_option maxRecDepth 100000 in
theorem zr_132 : (zMtB zSS zPl 132 2 && zc_132.all (fun l => l.all (zRowB zSS zGG zPl 132))) = true := by decide +kernel
set_option maxRecDepth 100000 in
theorem zcd_133 : Jvm.Cond.code (sY zSS 133) (sC zSS 133) (sM zSS 133) (sR zSS 133) ∈ sW zSS := List.mem_of_getElem? (i := 133) rfl
set_option maxRecDepth 100000 in
theorem zr_133 : (zMtB zSS zPl 133 4 && zc_133.all (fun l => l.all (zRowB zSS zGG zPl 133))) = true := by decide +kernel
set_option maxRecDepth 100000 in
theorem zcd_134 : Jvm.Cond.code (sY zSS 134) (sC zSS 134) (sM zSS 134) (sR zSS 134) ∈ sW zSS := List.mem_of_getElem? (i := 134) rfl
set_option maxRecDepth 100000 in
theorem zr_134 : (zMtB zSS zPl 134 1 && zc_134.all (fun l => l.all (zRowB zSS zGG zPl 134))) = true := by decide +kernel
set_option maxRecDepth 100000 in
theorem zcd_135 : Jvm.Cond.code (sY zSS 135) (sC zSS 135) (sM zSS 135) (sR zSS 135) ∈ sW zSS := List.mem_of_getElem? (i := 135) rfl
set_option maxRecDepth 100000 in
theorem zr_135 : (zMtB zSS zPl 135 4 && zc_135.all (fun l => l.all (zRowB zSS zGG zPl 135))) = true := by decide +kernel
set_option maxRecDepth 100000 in
theorem zcd_136 : Jvm.Cond.code (sY zSS 136) (sC zSS 136) (sM zSS 136) (sR zSS 136) ∈ sW zSS := List.mem_of_getElem? (i := 136) rfl
set_option maxRecDepth 100000 in
theorem zr_136 : (zMtB zSS zPl 136 4 && zc_136.all (fun l => l.all (zRowB zSS zGG zPl 136))) = true := by decide +kernel
set_option maxRecDepth 100000 in
theorem zcd_137 : Jvm.Cond.code (sY zSS 137) (sC zSS 137) (sM zSS 137) (sR zSS 137) ∈ sW zSS := List.mem_of_getElem? (i := 137) rfl
set_option maxRecDepth 100000 in
theorem zr_137 : (zMtB zSS zPl 137 3 && zc_137.all (fun l => l.all (zRowB zSS zGG zPl 137))) = true := by decide +kernel
set_option maxRecDepth 100000 in
theorem zcd_138 : Jvm.Cond.code (sY zSS 138) (sC zSS 138) (sM zSS 138) (sR zSS 138) ∈ sW zSS := List.mem_of_getElem? (i := 138) rfl
set_option maxRecDepth 100000 in
theorem zr_138 : (zMtB zSS zPl 138 1 && zc_138.all (fun l => l.all (zRowB zSS zGG zPl 138))) = true := by decide +kernel
set_option maxRecDepth 100000 in
theorem zcd_139 : Jvm.Cond.code (sY zSS 139) (sC zSS 139) (sM zSS 139) (sR zSS 139) ∈ sW zSS := List.mem_of_getElem? (i := 139) rfl
set_option maxRecDepth 100000 in
theorem zr_139 : (zMtB zSS zPl 139 4 && zc_139.all (fun l => l.all (zRowB zSS zGG zPl 139))) = true := by decide +kernel
set_option maxRecDepth 100000 in
theorem zcd_140 : Jvm.Cond.code (sY zSS 140) (sC zSS 140) (sM zSS 140) (sR zSS 140) ∈ sW zSS := List.mem_of_getElem? (i := 140) rfl
set_option maxRecDepth 100000 in
theorem zr_140 : (zMtB zSS zPl 140 3 && zc_140.all (fun l => l.all (zRowB zSS zGG zPl 140))) = true := by decide +kernel
set_option maxRecDepth 100000 in
theorem zcd_141 : Jvm.Cond.code (sY zSS 141) (sC zSS 141) (sM zSS 141) (sR zSS 141) ∈ sW zSS := List.mem_of_getElem? (i := 141) rfl
set_option maxRecDepth 100000 in
theorem zr_141 : (zMtB zSS zPl 141 2 && zc_141.all (fun l => l.all (zRowB zSS zGG zPl 141))) = true := by decide +kernel
set_option maxRecDepth 100000 in
theorem zcd_142 : Jvm.Cond.code (sY zSS 142) (sC zSS 142) (sM zSS 142) (sR zSS 142) ∈ sW zSS := List.mem_of_getElem? (i := 142) rfl
set_option maxRecDepth 100000 in
theorem zr_142 : (zMtB zSS zPl 142 2 && zc_142.all (fun l => l.all (zRowB zSS zGG zPl 142))) = true := by decide +kernel
set_option maxRecDepth 100000 in
theorem zcd_143 : Jvm.Cond.code (sY zSS 143) (sC zSS 143) (sM zSS 143) (sR zSS 143) ∈ sW zSS := List.mem_of_getElem? (i := 143) rfl
set_option maxRecDepth 100000 in
theorem zr_143 : (zMtB zSS zPl 143 2 && zc_143.all (fun l => l.all (zRowB zSS zGG zPl 143))) = true := by decide +kernel
set_option maxRecDepth 100000 in
theorem zcd_144 : Jvm.Cond.code (sY zSS 144) (sC zSS 144) (sM zSS 144) (sR zSS 144) ∈ sW zSS := List.mem_of_getElem? (i := 144) rfl
set_option maxRecDepth 100000 in
theorem zr_144 : (zMtB zSS zPl 144 1 && zc_144.all (fun l => l.all (zRowB zSS zGG zPl 144))) = true := by decide +kernel
set_option maxRecDepth 100000 in
theorem zcd_145 : Jvm.Cond.code (sY zSS 145) (sC zSS 145) (sM zSS 145) (sR zSS 145) ∈ sW zSS := List.mem_of_getElem? (i := 145) rfl
set_option maxRecDepth 100000 in
theorem zr_145 : (zMtB zSS zPl 145 2 && zc_145.all (fun l => l.all (zRowB zSS zGG zPl 145))) = true := by decide +kernel
set_option maxRecDepth 100000 in
theorem zcd_146 : Jvm.Cond.code (sY zSS 146) (sC zSS 146) (sM zSS 146) (sR zSS 146) ∈ sW zSS := List.mem_of_getElem? (i := 146) rfl
set_option maxRecDepth 100000 in
theorem zr_146 : (zMtB zSS zPl 146 7 && zc_146.all (fun l => l.all (zRowB zSS zGG zPl 146))) = true := by decide +kernel
set_option maxRecDepth 100000 in
theorem zcd_147 : Jvm.Cond.code (sY zSS 147) (sC zSS 147) (sM zSS 147) (sR zSS 147) ∈ sW zSS := List.mem_of_getElem? (i := 147) rfl
set_option maxRecDepth 100000 in
theorem zr_147 : (zMtB zSS zPl 147 2 && zc_147.all (fun l => l.all (zRowB zSS zGG zPl 147))) = true := by decide +kernel
set_option maxRecDepth 100000 in
theorem zcd_148 : Jvm.Cond.code (sY zSS 148) (sC zSS 148) (sM zSS 148) (sR zSS 148) ∈ sW zSS := List.mem_of_getElem? (i := 148) rfl
set_option maxRecDepth 100000 in
theorem zr_148 : (zMtB zSS zPl 148 2 && zc_148.all (fun l => l.all (zRowB zSS zGG zPl 148))) = true := by decide +kernel
set_option maxRecDepth 100000 in
theorem zcd_149 : Jvm.Cond.code (sY zSS 149) (sC zSS 149) (sM zSS 149) (sR zSS 149) ∈ sW zSS := List.mem_of_getElem? (i := 149) rfl
set_option maxRecDepth 100000 in
theorem zr_149 : (zMtB zSS zPl 149 4 && zc_149.all (fun l => l.all (zRowB zSS zGG zPl 149))) = true := by decide +kernel
set_option maxRecDepth 100000 in
theorem zcd_150 : Jvm.Cond.code (sY zSS 150) (sC zSS 150) (sM zSS 150) (sR zSS 150) ∈ sW zSS := List.mem_of_getElem? (i := 150) rfl
set_option maxRecDepth 100000 in
theorem zr_150 : (zMtB zSS zPl 150 5 && zc_150.all (fun l => l.all (zRowB zSS zGG zPl 150))) = true := by decide +kernel
set_option maxRecDepth 100000 in
theorem zcd_151 : Jvm.Cond.code (sY zSS 151) (sC zSS 151) (sM zSS 151) (sR zSS 151) ∈ sW zSS := List.mem_of_getElem? (i := 151) rfl
set_option maxRecDepth 100000 in
theorem zr_151 : (zMtB zSS zPl 151 3 && zc_151.all (fun l => l.all (zRowB zSS zGG zPl 151))) = true := by decide +kernel
set_option maxRecDepth 100000 in
theorem zcd_152 : Jvm.Cond.code (sY zSS 152) (sC zSS 152) (sM zSS 152) (sR zSS 152) ∈ sW zSS := List.mem_of_getElem? (i := 152) rfl
set_option maxRecDepth 100000 in
theorem zr_152 : (zMtB zSS zPl 152 2 && zc_152.all (fun l => l.all (zRowB zSS zGG zPl 152))) = true := by decide +kernel
set_option maxRecDepth 100000 in
theorem zcd_153 : Jvm.Cond.code (sY zSS 153) (sC zSS 153) (sM zSS 153) (sR zSS 153) ∈ sW zSS := List.mem_of_getElem? (i := 153) rfl
set_option maxRecDepth 100000 in
theorem zr_153 : (zMtB zSS zPl 153 2 && zc_153.all (fun l => l.all (zRowB zSS zGG zPl 153))) = true := by decide +kernel
theorem zr_to {a ml : Nat} {tb : zT} (hc : Jvm.Cond.code (sY zSS a) (sC zSS a) (sM zSS a) (sR zSS a) ∈ sW zSS) (h : (zMtB zSS zPl a ml && tb.all (fun l => l.all (zRowB zSS zGG zPl a))) = true) : (zMtB zSS zPl a ml = true ∧ Jvm.Cond.code (sY zSS a) (sC zSS a) (sM zSS a) (sR zSS a) ∈ sW zSS) ∧ ∀ l ∈ tb, ∀ e ∈ l, zRowB zSS zGG zPl a e = true := by
  simp only [Bool.and_eq_true] at h
  exact ⟨⟨h.1, hc⟩, fun l hl e he => List.all_eq_true.mp (List.all_eq_true.mp h.2 l hl) e he⟩
theorem zg_0 : ∀ (a : Nat) (mt : zM), zMs[a + 0]? = some mt → a < 15 → (zMtB zSS zPl (a + 0) mt.1.2 = true ∧ Jvm.Cond.code (sY zSS (a + 0)) (sC zSS (a + 0)) (sM zSS (a + 0)) (sR zSS (a + 0)) ∈ sW zSS) ∧ ∀ l ∈ mt.2.2.2, ∀ e ∈ l, zRowB zSS zGG zPl (a + 0) e = true := by
  intro a mt h ha
  match a, h, ha with
  | 0, h, _ => cases h; exact zr_to zcd_0 zr_0
  | 1, h, _ => cases h; exact zr_to zcd_1 zr_1
  | 2, h, _ => cases h; exact zr_to zcd_2 zr_2
  | 3, h, _ => cases h; exact zr_to zcd_3 zr_3
  | 4, h, _ => cases h; exact zr_to zcd_4 zr_4
  | 5, h, _ => cases h; exact zr_to zcd_5 zr_5
  | 6, h, _ => cases h; exact zr_to zcd_6 zr_6
  | 7, h, _ => cases h; exact zr_to zcd_7 zr_7
  | 8, h, _ => cases h; exact zr_to zcd_8 zr_8
  | 9, h, _ => cases h; exact zr_to zcd_9 zr_9
  | 10, h, _ => cases h; exact zr_to zcd_10 zr_10
  | 11, h, _ => cases h; exact zr_to zcd_11 zr_11
  | 12, h, _ => cases h; exact zr_to zcd_12 zr_12
  | 13, h, _ => cases h; exact zr_to zcd_13 zr_13
  | 14, h, _ => cases h; exact zr_to zcd_14 zr_14
theorem zg_1 : ∀ (a : Nat) (mt : zM), zMs[a + 15]? = some mt → a < 15 → (zMtB zSS zPl (a + 15) mt.1.2 = true ∧ Jvm.Cond.code (sY zSS (a + 15)) (sC zSS (a + 15)) (sM zSS (a + 15)) (sR zSS (a + 15)) ∈ sW zSS) ∧ ∀ l ∈ mt.2.2.2, ∀ e ∈ l, zRowB zSS zGG zPl (a + 15) e = true := by
  intro a mt h ha
  match a, h, ha with
  | 0, h, _ => cases h; exact zr_to zcd_15 zr_15
  | 1, h, _ => cases h; exact zr_to zcd_16 zr_16
  | 2, h, _ => cases h; exact zr_to zcd_17 zr_17
  | 3, h, _ => cases h; exact zr_to zcd_18 zr_18
  | 4, h, _ => cases h; exact zr_to zcd_19 zr_19
  | 5, h, _ => cases h; exact zr_to zcd_20 zr_20
  | 6, h, _ => cases h; exact zr_to zcd_21 zr_21
  | 7, h, _ => cases h; exact zr_to zcd_22 zr_22
  | 8, h, _ => cases h; exact zr_to zcd_23 zr_23
  | 9, h, _ => cases h; exact zr_to zcd_24 zr_24
  | 10, h, _ => cases h; exact zr_to zcd_25 zr_25
  | 11, h, _ => cases h; exact zr_to zcd_26 zr_26
  | 12, h, _ => cases h; exact zr_to zcd_27 zr_27
  | 13, h, _ => cases h; exact zr_to zcd_28 zr_28
  | 14, h, _ => cases h; exact zr_to zcd_29 zr_29
theorem zg_2 : ∀ (a : Nat) (mt : zM), zMs[a + 30]? = some mt → a < 15 → (zMtB zSS zPl (a + 30) mt.1.2 = true ∧ Jvm.Cond.code (sY zSS (a + 30)) (sC zSS (a + 30)) (sM zSS (a + 30)) (sR zSS (a + 30)) ∈ sW zSS) ∧ ∀ l ∈ mt.2.2.2, ∀ e ∈ l, zRowB zSS zGG zPl (a + 30) e = true := by
  intro a mt h ha
  match a, h, ha with
  | 0, h, _ => cases h; exact zr_to zcd_30 zr_30
  | 1, h, _ => cases h; exact zr_to zcd_31 zr_31
  | 2, h, _ => cases h; exact zr_to zcd_32 zr_32
  | 3, h, _ => cases h; exact zr_to zcd_33 zr_33
  | 4, h, _ => cases h; exact zr_to zcd_34 zr_34
  | 5, h, _ => cases h; exact zr_to zcd_35 zr_35
  | 6, h, _ => cases h; exact zr_to zcd_36 zr_36
  | 7, h, _ => cases h; exact zr_to zcd_37 zr_37
  | 8, h, _ => cases h; exact zr_to zcd_38 zr_38
  | 9, h, _ => cases h; exact zr_to zcd_39 zr_39
  | 10, h, _ => cases h; exact zr_to zcd_40 zr_40
  | 11, h, _ => cases h; exact zr_to zcd_41 zr_41
  | 12, h, _ => cases h; exact zr_to zcd_42 zr_42
  | 13, h, _ => cases h; exact zr_to zcd_43 zr_43
  | 14, h, _ => cases h; exact zr_to zcd_44 zr_44
theorem zg_3 : ∀ (a : Nat) (mt : zM), zMs[a + 45]? = some mt → a < 15 → (zMtB zSS zPl (a + 45) mt.1.2 = true ∧ Jvm.Cond.code (sY zSS (a + 45)) (sC zSS (a + 45)) (sM zSS (a + 45)) (sR zSS (a + 45)) ∈ sW zSS) ∧ ∀ l ∈ mt.2.2.2, ∀ e ∈ l, zRowB zSS zGG zPl (a + 45) e = true := by
  intro a mt h ha
  match a, h, ha with
  | 0, h, _ => cases h; exact zr_to zcd_45 zr_45
  | 1, h, _ => cases h; exact zr_to zcd_46 zr_46
  | 2, h, _ => cases h; exact zr_to zcd_47 zr_47
  | 3, h, _ => cases h; exact zr_to zcd_48 zr_48
  | 4, h, _ => cases h; exact zr_to zcd_49 zr_49
  | 5, h, _ => cases h; exact zr_to zcd_50 zr_50
  | 6, h, _ => cases h; exact zr_to zcd_51 zr_51
  | 7, h, _ => cases h; exact zr_to zcd_52 zr_52
  | 8, h, _ => cases h; exact zr_to zcd_53 zr_53
  | 9, h, _ => cases h; exact zr_to zcd_54 zr_54
  | 10, h, _ => cases h; exact zr_to zcd_55 zr_55
  | 11, h, _ => cases h; exact zr_to zcd_56 zr_56
  | 12, h, _ => cases h; exact zr_to zcd_57 zr_57
  | 13, h, _ => cases h; exact zr_to zcd_58 zr_58
  | 14, h, _ => cases h; exact zr_to zcd_59 zr_59
theorem zg_4 : ∀ (a : Nat) (mt : zM), zMs[a + 60]? = some mt → a < 15 → (zMtB zSS zPl (a + 60) mt.1.2 = true ∧ Jvm.Cond.code (sY zSS (a + 60)) (sC zSS (a + 60)) (sM zSS (a + 60)) (sR zSS (a + 60)) ∈ sW zSS) ∧ ∀ l ∈ mt.2.2.2, ∀ e ∈ l, zRowB zSS zGG zPl (a + 60) e = true := by
  intro a mt h ha
  match a, h, ha with
  | 0, h, _ => cases h; exact zr_to zcd_60 zr_60
  | 1, h, _ => cases h; exact zr_to zcd_61 zr_61
  | 2, h, _ => cases h; exact zr_to zcd_62 zr_62
  | 3, h, _ => cases h; exact zr_to zcd_63 zr_63
  | 4, h, _ => cases h; exact zr_to zcd_64 zr_64
  | 5, h, _ => cases h; exact zr_to zcd_65 zr_65
  | 6, h, _ => cases h; exact zr_to zcd_66 zr_66
  | 7, h, _ => cases h; exact zr_to zcd_67 zr_67
  | 8, h, _ => cases h; exact zr_to zcd_68 zr_68
  | 9, h, _ => cases h; exact zr_to zcd_69 zr_69
  | 10, h, _ => cases h; exact zr_to zcd_70 zr_70
  | 11, h, _ => cases h; exact zr_to zcd_71 zr_71
  | 12, h, _ => cases h; exact zr_to zcd_72 zr_72
  | 13, h, _ => cases h; exact zr_to zcd_73 zr_73
  | 14, h, _ => cases h; exact zr_to zcd_74 zr_74
theorem zg_5 : ∀ (a : Nat) (mt : zM), zMs[a + 75]? = some mt → a < 15 → (zMtB zSS zPl (a + 75) mt.1.2 = true ∧ Jvm.Cond.code (sY zSS (a + 75)) (sC zSS (a + 75)) (sM zSS (a + 75)) (sR zSS (a + 75)) ∈ sW zSS) ∧ ∀ l ∈ mt.2.2.2, ∀ e ∈ l, zRowB zSS zGG zPl (a + 75) e = true := by
  intro a mt h ha
  match a, h, ha with
  | 0, h, _ => cases h; exact zr_to zcd_75 zr_75
  | 1, h, _ => cases h; exact zr_to zcd_76 zr_76
  | 2, h, _ => cases h; exact zr_to zcd_77 zr_77
  | 3, h, _ => cases h; exact zr_to zcd_78 zr_78
  | 4, h, _ => cases h; exact zr_to zcd_79 zr_79
  | 5, h, _ => cases h; exact zr_to zcd_80 zr_80
  | 6, h, _ => cases h; exact zr_to zcd_81 zr_81
  | 7, h, _ => cases h; exact zr_to zcd_82 zr_82
  | 8, h, _ => cases h; exact zr_to zcd_83 zr_83
  | 9, h, _ => cases h; exact zr_to zcd_84 zr_84
  | 10, h, _ => cases h; exact zr_to zcd_85 zr_85
  | 11, h, _ => cases h; exact zr_to zcd_86 zr_86
  | 12, h, _ => cases h; exact zr_to zcd_87 zr_87
  | 13, h, _ => cases h; exact zr_to zcd_88 zr_88
  | 14, h, _ => cases h; exact zr_to zcd_89 zr_89
theorem zg_6 : ∀ (a : Nat) (mt : zM), zMs[a + 90]? = some mt → a < 15 → (zMtB zSS zPl (a + 90) mt.1.2 = true ∧ Jvm.Cond.code (sY zSS (a + 90)) (sC zSS (a + 90)) (sM zSS (a + 90)) (sR zSS (a + 90)) ∈ sW zSS) ∧ ∀ l ∈ mt.2.2.2, ∀ e ∈ l, zRowB zSS zGG zPl (a + 90) e = true := by
  intro a mt h ha
  match a, h, ha with
  | 0, h, _ => cases h; exact zr_to zcd_90 zr_90
  | 1, h, _ => cases h; exact zr_to zcd_91 zr_91
  | 2, h, _ => cases h; exact zr_to zcd_92 zr_92
  | 3, h, _ => cases h; exact zr_to zcd_93 zr_93
  | 4, h, _ => cases h; exact zr_to zcd_94 zr_94
  | 5, h, _ => cases h; exact zr_to zcd_95 zr_95
  | 6, h, _ => cases h; exact zr_to zcd_96 zr_96
  | 7, h, _ => cases h; exact zr_to zcd_97 zr_97
  | 8, h, _ => cases h; exact zr_to zcd_98 zr_98
  | 9, h, _ => cases h; exact zr_to zcd_99 zr_99
  | 10, h, _ => cases h; exact zr_to zcd_100 zr_100
  | 11, h, _ => cases h; exact zr_to zcd_101 zr_101
  | 12, h, _ => cases h; exact zr_to zcd_102 zr_102
  | 13, h, _ => cases h; exact zr_to zcd_103 zr_103
  | 14, h, _ => cases h; exact zr_to zcd_104 zr_104
theorem zg_7 : ∀ (a : Nat) (mt : zM), zMs[a + 105]? = some mt → a < 15 → (zMtB zSS zPl (a + 105) mt.1.2 = true ∧ Jvm.Cond.code (sY zSS (a + 105)) (sC zSS (a + 105)) (sM zSS (a + 105)) (sR zSS (a + 105)) ∈ sW zSS) ∧ ∀ l ∈ mt.2.2.2, ∀ e ∈ l, zRowB zSS zGG zPl (a + 105) e = true := by
  intro a mt h ha
  match a, h, ha with
  | 0, h, _ => cases h; exact zr_to zcd_105 zr_105
  | 1, h, _ => cases h; exact zr_to zcd_106 zr_106
  | 2, h, _ => cases h; exact zr_to zcd_107 zr_107
  | 3, h, _ => cases h; exact zr_to zcd_108 zr_108
  | 4, h, _ => cases h; exact zr_to zcd_109 zr_109
  | 5, h, _ => cases h; exact zr_to zcd_110 zr_110
  | 6, h, _ => cases h; exact zr_to zcd_111 zr_111
  | 7, h, _ => cases h; exact zr_to zcd_112 zr_112
  | 8, h, _ => cases h; exact zr_to zcd_113 zr_113
  | 9, h, _ => cases h; exact zr_to zcd_114 zr_114
  | 10, h, _ => cases h; exact zr_to zcd_115 zr_115
  | 11, h, _ => cases h; exact zr_to zcd_116 zr_116
  | 12, h, _ => cases h; exact zr_to zcd_117 zr_117
  | 13, h, _ => cases h; exact zr_to zcd_118 zr_118
  | 14, h, _ => cases h; exact zr_to zcd_119 zr_119
theorem zg_8 : ∀ (a : Nat) (mt : zM), zMs[a + 120]? = some mt → a < 15 → (zMtB zSS zPl (a + 120) mt.1.2 = true ∧ Jvm.Cond.code (sY zSS (a + 120)) (sC zSS (a + 120)) (sM zSS (a + 120)) (sR zSS (a + 120)) ∈ sW zSS) ∧ ∀ l ∈ mt.2.2.2, ∀ e ∈ l, zRowB zSS zGG zPl (a + 120) e = true := by
  intro a mt h ha
  match a, h, ha with
  | 0, h, _ => cases h; exact zr_to zcd_120 zr_120
  | 1, h, _ => cases h; exact zr_to zcd_121 zr_121
  | 2, h, _ => cases h; exact zr_to zcd_122 zr_122
  | 3, h, _ => cases h; exact zr_to zcd_123 zr_123
  | 4, h, _ => cases h; exact zr_to zcd_124 zr_124
  | 5, h, _ => cases h; exact zr_to zcd_125 zr_125
  | 6, h, _ => cases h; exact zr_to zcd_126 zr_126
  | 7, h, _ => cases h; exact zr_to zcd_127 zr_127
  | 8, h, _ => cases h; exact zr_to zcd_128 zr_128
  | 9, h, _ => cases h; exact zr_to zcd_129 zr_129
  | 10, h, _ => cases h; exact zr_to zcd_130 zr_130
  | 11, h, _ => cases h; exact zr_to zcd_131 zr_131
  | 12, h, _ => cases h; exact zr_to zcd_132 zr_132
  | 13, h, _ => cases h; exact zr_to zcd_133 zr_133
  | 14, h, _ => cases h; exact zr_to zcd_134 zr_134
theorem zg_9 : ∀ (a : Nat) (mt : zM), zMs[a + 135]? = some mt → a < 15 → (zMtB zSS zPl (a + 135) mt.1.2 = true ∧ Jvm.Cond.code (sY zSS (a + 135)) (sC zSS (a + 135)) (sM zSS (a + 135)) (sR zSS (a + 135)) ∈ sW zSS) ∧ ∀ l ∈ mt.2.2.2, ∀ e ∈ l, zRowB zSS zGG zPl (a + 135) e = true := by
  intro a mt h ha
  match a, h, ha with
  | 0, h, _ => cases h; exact zr_to zcd_135 zr_135
  | 1, h, _ => cases h; exact zr_to zcd_136 zr_136
  | 2, h, _ => cases h; exact zr_to zcd_137 zr_137
  | 3, h, _ => cases h; exact zr_to zcd_138 zr_138
  | 4, h, _ => cases h; exact zr_to zcd_139 zr_139
  | 5, h, _ => cases h; exact zr_to zcd_140 zr_140
  | 6, h, _ => cases h; exact zr_to zcd_141 zr_141
  | 7, h, _ => cases h; exact zr_to zcd_142 zr_142
  | 8, h, _ => cases h; exact zr_to zcd_143 zr_143
  | 9, h, _ => cases h; exact zr_to zcd_144 zr_144
  | 10, h, _ => cases h; exact zr_to zcd_145 zr_145
  | 11, h, _ => cases h; exact zr_to zcd_146 zr_146
  | 12, h, _ => cases h; exact zr_to zcd_147 zr_147
  | 13, h, _ => cases h; exact zr_to zcd_148 zr_148
  | 14, h, _ => cases h; exact zr_to zcd_149 zr_149
theorem zg_10 : ∀ (a : Nat) (mt : zM), zMs[a + 150]? = some mt → a < 4 → (zMtB zSS zPl (a + 150) mt.1.2 = true ∧ Jvm.Cond.code (sY zSS (a + 150)) (sC zSS (a + 150)) (sM zSS (a + 150)) (sR zSS (a + 150)) ∈ sW zSS) ∧ ∀ l ∈ mt.2.2.2, ∀ e ∈ l, zRowB zSS zGG zPl (a + 150) e = true := by
  intro a mt h ha
  match a, h, ha with
  | 0, h, _ => cases h; exact zr_to zcd_150 zr_150
  | 1, h, _ => cases h; exact zr_to zcd_151 zr_151
  | 2, h, _ => cases h; exact zr_to zcd_152 zr_152
  | 3, h, _ => cases h; exact zr_to zcd_153 zr_153
theorem zs_rows : ∀ (a : Nat) (mt : zM), zGG.1[a]? = some mt → (zMtB zSS zPl a mt.1.2 = true ∧ Jvm.Cond.code (sY zSS a) (sC zSS a) (sM zSS a) (sR zSS a) ∈ sW zSS) ∧ ∀ l ∈ mt.2.2.2, ∀ e ∈ l, zRowB zSS zGG zPl a e = true := by
  intro a mt h
  have hlt : a < 154 := (List.getElem?_eq_some_iff.mp h).1
  by_cases h0 : a < 15
  · exact zg_0 a mt h (by omega)
  by_cases h1 : a < 30
  · obtain ⟨b, rfl⟩ : ∃ b, a = b + 15 := ⟨a - 15, by omega⟩
    exact zg_1 b mt h (by omega)
  by_cases h2 : a < 45
  · obtain ⟨b, rfl⟩ : ∃ b, a = b + 30 := ⟨a - 30, by omega⟩
    exact zg_2 b mt h (by omega)
  by_cases h3 : a < 60
  · obtain ⟨b, rfl⟩ : ∃ b, a = b + 45 := ⟨a - 45, by omega⟩
    exact zg_3 b mt h (by omega)
  by_cases h4 : a < 75
  · obtain ⟨b, rfl⟩ : ∃ b, a = b + 60 := ⟨a - 60, by omega⟩
    exact zg_4 b mt h (by omega)
  by_cases h5 : a < 90
  · obtain ⟨b, rfl⟩ : ∃ b, a = b + 75 := ⟨a - 75, by omega⟩
    exact zg_5 b mt h (by omega)
  by_cases h6 : a < 105
  · obtain ⟨b, rfl⟩ : ∃ b, a = b + 90 := ⟨a - 90, by omega⟩
    exact zg_6 b mt h (by omega)
  by_cases h7 : a < 120
  · obtain ⟨b, rfl⟩ : ∃ b, a = b + 105 := ⟨a - 105, by omega⟩
    exact zg_7 b mt h (by omega)
  by_cases h8 : a < 135
  · obtain ⟨b, rfl⟩ : ∃ b, a = b + 120 := ⟨a - 120, by omega⟩
    exact zg_8 b mt h (by omega)
  by_cases h9 : a < 150
  · obtain ⟨b, rfl⟩ : ∃ b, a = b + 135 := ⟨a - 135, by omega⟩
    exact zg_9 b mt h (by omega)
  obtain ⟨b, rfl⟩ : ∃ b, a = b + 150 := ⟨a - 150, by omega⟩
  exact zg_10 b mt h (by omega)
theorem zs_all : zAll zSS zGG zPl := ⟨zWS_good, zs_cls, zs_mk, zs_ra_ok, zs_nt, zs_ac, zs_rows⟩
