/-! The methods' code among the tables' words -/
theorem zmem_t {w : Cond} (h : w ∈ tables_1) : w ∈ lw_tbl := List.mem_append_right _ h
theorem zmem_1 {w : Cond} (h : w ∈ tables_1_1) : w ∈ lw_tbl := zmem_t (show w ∈ tables_1_1 ++ (tables_1_2 ++ (tables_1_3 ++ (tables_1_4 ++ (tables_1_5 ++ (tables_1_6 ++ (tables_1_7 ++ tables_1_8)))))) from List.mem_append_left _ h)
theorem zmem_2 {w : Cond} (h : w ∈ tables_1_2) : w ∈ lw_tbl := zmem_t (show w ∈ tables_1_1 ++ (tables_1_2 ++ (tables_1_3 ++ (tables_1_4 ++ (tables_1_5 ++ (tables_1_6 ++ (tables_1_7 ++ tables_1_8)))))) from List.mem_append_right _ (List.mem_append_left _ h))
theorem zmem_3 {w : Cond} (h : w ∈ tables_1_3) : w ∈ lw_tbl := zmem_t (show w ∈ tables_1_1 ++ (tables_1_2 ++ (tables_1_3 ++ (tables_1_4 ++ (tables_1_5 ++ (tables_1_6 ++ (tables_1_7 ++ tables_1_8)))))) from List.mem_append_right _ (List.mem_append_right _ (List.mem_append_left _ h)))
theorem zmem_4 {w : Cond} (h : w ∈ tables_1_4) : w ∈ lw_tbl := zmem_t (show w ∈ tables_1_1 ++ (tables_1_2 ++ (tables_1_3 ++ (tables_1_4 ++ (tables_1_5 ++ (tables_1_6 ++ (tables_1_7 ++ tables_1_8)))))) from List.mem_append_right _ (List.mem_append_right _ (List.mem_append_right _ (List.mem_append_left _ h))))
theorem zmem_5 {w : Cond} (h : w ∈ tables_1_5) : w ∈ lw_tbl := zmem_t (show w ∈ tables_1_1 ++ (tables_1_2 ++ (tables_1_3 ++ (tables_1_4 ++ (tables_1_5 ++ (tables_1_6 ++ (tables_1_7 ++ tables_1_8)))))) from List.mem_append_right _ (List.mem_append_right _ (List.mem_append_right _ (List.mem_append_right _ (List.mem_append_left _ h)))))
theorem zmem_6 {w : Cond} (h : w ∈ tables_1_6) : w ∈ lw_tbl := zmem_t (show w ∈ tables_1_1 ++ (tables_1_2 ++ (tables_1_3 ++ (tables_1_4 ++ (tables_1_5 ++ (tables_1_6 ++ (tables_1_7 ++ tables_1_8)))))) from List.mem_append_right _ (List.mem_append_right _ (List.mem_append_right _ (List.mem_append_right _ (List.mem_append_right _ (List.mem_append_left _ h))))))
theorem zmem_7 {w : Cond} (h : w ∈ tables_1_7) : w ∈ lw_tbl := zmem_t (show w ∈ tables_1_1 ++ (tables_1_2 ++ (tables_1_3 ++ (tables_1_4 ++ (tables_1_5 ++ (tables_1_6 ++ (tables_1_7 ++ tables_1_8)))))) from List.mem_append_right _ (List.mem_append_right _ (List.mem_append_right _ (List.mem_append_right _ (List.mem_append_right _ (List.mem_append_right _ (List.mem_append_left _ h)))))))
theorem zmem_8 {w : Cond} (h : w ∈ tables_1_8) : w ∈ lw_tbl := zmem_t (show w ∈ tables_1_1 ++ (tables_1_2 ++ (tables_1_3 ++ (tables_1_4 ++ (tables_1_5 ++ (tables_1_6 ++ (tables_1_7 ++ tables_1_8)))))) from List.mem_append_right _ (List.mem_append_right _ (List.mem_append_right _ (List.mem_append_right _ (List.mem_append_right _ (List.mem_append_right _ (List.mem_append_right _ (h))))))))
set_option maxRecDepth 20000 in
theorem zwc_0 : Cond.code (zy 0) (zb 0) (zmL 0) (zret 0) ∈ lw_tbl := zmem_1 (List.mem_of_getElem? (i := 24) rfl)
set_option maxRecDepth 20000 in
theorem zwc_1 : Cond.code (zy 1) (zb 1) (zmL 1) (zret 1) ∈ lw_tbl := zmem_2 (List.mem_of_getElem? (i := 169) rfl)
set_option maxRecDepth 20000 in
theorem zwc_2 : Cond.code (zy 2) (zb 2) (zmL 2) (zret 2) ∈ lw_tbl := zmem_2 (List.mem_of_getElem? (i := 177) rfl)
set_option maxRecDepth 20000 in
theorem zwc_3 : Cond.code (zy 3) (zb 3) (zmL 3) (zret 3) ∈ lw_tbl := zmem_4 (List.mem_of_getElem? (i := 81) rfl)
set_option maxRecDepth 20000 in
theorem zwc_4 : Cond.code (zy 4) (zb 4) (zmL 4) (zret 4) ∈ lw_tbl := zmem_4 (List.mem_of_getElem? (i := 94) rfl)
set_option maxRecDepth 20000 in
theorem zwc_5 : Cond.code (zy 5) (zb 5) (zmL 5) (zret 5) ∈ lw_tbl := zmem_4 (List.mem_of_getElem? (i := 98) rfl)
set_option maxRecDepth 20000 in
theorem zwc_6 : Cond.code (zy 6) (zb 6) (zmL 6) (zret 6) ∈ lw_tbl := zmem_4 (List.mem_of_getElem? (i := 106) rfl)
set_option maxRecDepth 20000 in
theorem zwc_7 : Cond.code (zy 7) (zb 7) (zmL 7) (zret 7) ∈ lw_tbl := zmem_4 (List.mem_of_getElem? (i := 115) rfl)
set_option maxRecDepth 20000 in
theorem zwc_8 : Cond.code (zy 8) (zb 8) (zmL 8) (zret 8) ∈ lw_tbl := zmem_4 (List.mem_of_getElem? (i := 128) rfl)
set_option maxRecDepth 20000 in
theorem zwc_9 : Cond.code (zy 9) (zb 9) (zmL 9) (zret 9) ∈ lw_tbl := zmem_4 (List.mem_of_getElem? (i := 132) rfl)
set_option maxRecDepth 20000 in
theorem zwc_10 : Cond.code (zy 10) (zb 10) (zmL 10) (zret 10) ∈ lw_tbl := zmem_4 (List.mem_of_getElem? (i := 136) rfl)
set_option maxRecDepth 20000 in
theorem zwc_11 : Cond.code (zy 11) (zb 11) (zmL 11) (zret 11) ∈ lw_tbl := zmem_4 (List.mem_of_getElem? (i := 143) rfl)
set_option maxRecDepth 20000 in
theorem zwc_12 : Cond.code (zy 12) (zb 12) (zmL 12) (zret 12) ∈ lw_tbl := zmem_4 (List.mem_of_getElem? (i := 148) rfl)
set_option maxRecDepth 20000 in
theorem zwc_13 : Cond.code (zy 13) (zb 13) (zmL 13) (zret 13) ∈ lw_tbl := zmem_4 (List.mem_of_getElem? (i := 152) rfl)
set_option maxRecDepth 20000 in
theorem zwc_14 : Cond.code (zy 14) (zb 14) (zmL 14) (zret 14) ∈ lw_tbl := zmem_4 (List.mem_of_getElem? (i := 156) rfl)
set_option maxRecDepth 20000 in
theorem zwc_15 : Cond.code (zy 15) (zb 15) (zmL 15) (zret 15) ∈ lw_tbl := zmem_4 (List.mem_of_getElem? (i := 169) rfl)
set_option maxRecDepth 20000 in
theorem zwc_16 : Cond.code (zy 16) (zb 16) (zmL 16) (zret 16) ∈ lw_tbl := zmem_4 (List.mem_of_getElem? (i := 177) rfl)
set_option maxRecDepth 20000 in
theorem zwc_17 : Cond.code (zy 17) (zb 17) (zmL 17) (zret 17) ∈ lw_tbl := zmem_4 (List.mem_of_getElem? (i := 194) rfl)
set_option maxRecDepth 20000 in
theorem zwc_18 : Cond.code (zy 18) (zb 18) (zmL 18) (zret 18) ∈ lw_tbl := zmem_4 (List.mem_of_getElem? (i := 213) rfl)
set_option maxRecDepth 20000 in
theorem zwc_19 : Cond.code (zy 19) (zb 19) (zmL 19) (zret 19) ∈ lw_tbl := zmem_4 (List.mem_of_getElem? (i := 217) rfl)
set_option maxRecDepth 20000 in
theorem zwc_20 : Cond.code (zy 20) (zb 20) (zmL 20) (zret 20) ∈ lw_tbl := zmem_4 (List.mem_of_getElem? (i := 221) rfl)
set_option maxRecDepth 20000 in
theorem zwc_21 : Cond.code (zy 21) (zb 21) (zmL 21) (zret 21) ∈ lw_tbl := zmem_4 (List.mem_of_getElem? (i := 225) rfl)
set_option maxRecDepth 20000 in
theorem zwc_22 : Cond.code (zy 22) (zb 22) (zmL 22) (zret 22) ∈ lw_tbl := zmem_4 (List.mem_of_getElem? (i := 229) rfl)
set_option maxRecDepth 20000 in
theorem zwc_23 : Cond.code (zy 23) (zb 23) (zmL 23) (zret 23) ∈ lw_tbl := zmem_4 (List.mem_of_getElem? (i := 233) rfl)
set_option maxRecDepth 20000 in
theorem zwc_24 : Cond.code (zy 24) (zb 24) (zmL 24) (zret 24) ∈ lw_tbl := zmem_4 (List.mem_of_getElem? (i := 237) rfl)
set_option maxRecDepth 20000 in
theorem zwc_25 : Cond.code (zy 25) (zb 25) (zmL 25) (zret 25) ∈ lw_tbl := zmem_5 (List.mem_of_getElem? (i := 1) rfl)
set_option maxRecDepth 20000 in
theorem zwc_26 : Cond.code (zy 26) (zb 26) (zmL 26) (zret 26) ∈ lw_tbl := zmem_5 (List.mem_of_getElem? (i := 5) rfl)
set_option maxRecDepth 20000 in
theorem zwc_27 : Cond.code (zy 27) (zb 27) (zmL 27) (zret 27) ∈ lw_tbl := zmem_5 (List.mem_of_getElem? (i := 10) rfl)
set_option maxRecDepth 20000 in
theorem zwc_28 : Cond.code (zy 28) (zb 28) (zmL 28) (zret 28) ∈ lw_tbl := zmem_5 (List.mem_of_getElem? (i := 22) rfl)
set_option maxRecDepth 20000 in
theorem zwc_29 : Cond.code (zy 29) (zb 29) (zmL 29) (zret 29) ∈ lw_tbl := zmem_5 (List.mem_of_getElem? (i := 30) rfl)
set_option maxRecDepth 20000 in
theorem zwc_30 : Cond.code (zy 30) (zb 30) (zmL 30) (zret 30) ∈ lw_tbl := zmem_5 (List.mem_of_getElem? (i := 37) rfl)
set_option maxRecDepth 20000 in
theorem zwc_31 : Cond.code (zy 31) (zb 31) (zmL 31) (zret 31) ∈ lw_tbl := zmem_5 (List.mem_of_getElem? (i := 56) rfl)
set_option maxRecDepth 20000 in
theorem zwc_32 : Cond.code (zy 32) (zb 32) (zmL 32) (zret 32) ∈ lw_tbl := zmem_5 (List.mem_of_getElem? (i := 60) rfl)
set_option maxRecDepth 20000 in
theorem zwc_33 : Cond.code (zy 33) (zb 33) (zmL 33) (zret 33) ∈ lw_tbl := zmem_5 (List.mem_of_getElem? (i := 72) rfl)
set_option maxRecDepth 20000 in
theorem zwc_34 : Cond.code (zy 34) (zb 34) (zmL 34) (zret 34) ∈ lw_tbl := zmem_5 (List.mem_of_getElem? (i := 76) rfl)
set_option maxRecDepth 20000 in
theorem zwc_35 : Cond.code (zy 35) (zb 35) (zmL 35) (zret 35) ∈ lw_tbl := zmem_5 (List.mem_of_getElem? (i := 80) rfl)
set_option maxRecDepth 20000 in
theorem zwc_36 : Cond.code (zy 36) (zb 36) (zmL 36) (zret 36) ∈ lw_tbl := zmem_5 (List.mem_of_getElem? (i := 88) rfl)
set_option maxRecDepth 20000 in
theorem zwc_37 : Cond.code (zy 37) (zb 37) (zmL 37) (zret 37) ∈ lw_tbl := zmem_5 (List.mem_of_getElem? (i := 110) rfl)
set_option maxRecDepth 20000 in
theorem zwc_38 : Cond.code (zy 38) (zb 38) (zmL 38) (zret 38) ∈ lw_tbl := zmem_5 (List.mem_of_getElem? (i := 114) rfl)
set_option maxRecDepth 20000 in
theorem zwc_39 : Cond.code (zy 39) (zb 39) (zmL 39) (zret 39) ∈ lw_tbl := zmem_5 (List.mem_of_getElem? (i := 118) rfl)
set_option maxRecDepth 20000 in
theorem zwc_40 : Cond.code (zy 40) (zb 40) (zmL 40) (zret 40) ∈ lw_tbl := zmem_5 (List.mem_of_getElem? (i := 126) rfl)
set_option maxRecDepth 20000 in
theorem zwc_41 : Cond.code (zy 41) (zb 41) (zmL 41) (zret 41) ∈ lw_tbl := zmem_5 (List.mem_of_getElem? (i := 134) rfl)
set_option maxRecDepth 20000 in
theorem zwc_42 : Cond.code (zy 42) (zb 42) (zmL 42) (zret 42) ∈ lw_tbl := zmem_5 (List.mem_of_getElem? (i := 143) rfl)
set_option maxRecDepth 20000 in
theorem zwc_43 : Cond.code (zy 43) (zb 43) (zmL 43) (zret 43) ∈ lw_tbl := zmem_5 (List.mem_of_getElem? (i := 160) rfl)
set_option maxRecDepth 20000 in
theorem zwc_44 : Cond.code (zy 44) (zb 44) (zmL 44) (zret 44) ∈ lw_tbl := zmem_2 (List.mem_of_getElem? (i := 173) rfl)
set_option maxRecDepth 20000 in
theorem zwc_45 : Cond.code (zy 45) (zb 45) (zmL 45) (zret 45) ∈ lw_tbl := zmem_3 (List.mem_of_getElem? (i := 94) rfl)
set_option maxRecDepth 20000 in
theorem zwc_46 : Cond.code (zy 46) (zb 46) (zmL 46) (zret 46) ∈ lw_tbl := zmem_4 (List.mem_of_getElem? (i := 85) rfl)
set_option maxRecDepth 20000 in
theorem zwc_47 : Cond.code (zy 47) (zb 47) (zmL 47) (zret 47) ∈ lw_tbl := zmem_5 (List.mem_of_getElem? (i := 84) rfl)
set_option maxRecDepth 20000 in
theorem zwc_48 : Cond.code (zy 48) (zb 48) (zmL 48) (zret 48) ∈ lw_tbl := zmem_5 (List.mem_of_getElem? (i := 122) rfl)
set_option maxRecDepth 20000 in
theorem zwc_49 : Cond.code (zy 49) (zb 49) (zmL 49) (zret 49) ∈ lw_tbl := zmem_3 (List.mem_of_getElem? (i := 119) rfl)
set_option maxRecDepth 20000 in
theorem zwc_50 : Cond.code (zy 50) (zb 50) (zmL 50) (zret 50) ∈ lw_tbl := zmem_2 (List.mem_of_getElem? (i := 200) rfl)
set_option maxRecDepth 20000 in
theorem zwc_51 : Cond.code (zy 51) (zb 51) (zmL 51) (zret 51) ∈ lw_tbl := zmem_3 (List.mem_of_getElem? (i := 134) rfl)
set_option maxRecDepth 20000 in
theorem zwc_52 : Cond.code (zy 52) (zb 52) (zmL 52) (zret 52) ∈ lw_tbl := zmem_3 (List.mem_of_getElem? (i := 86) rfl)
set_option maxRecDepth 20000 in
theorem zwc_53 : Cond.code (zy 53) (zb 53) (zmL 53) (zret 53) ∈ lw_tbl := zmem_3 (List.mem_of_getElem? (i := 140) rfl)
set_option maxRecDepth 20000 in
theorem zwc_54 : Cond.code (zy 54) (zb 54) (zmL 54) (zret 54) ∈ lw_tbl := zmem_3 (List.mem_of_getElem? (i := 54) rfl)
set_option maxRecDepth 20000 in
theorem zwc_55 : Cond.code (zy 55) (zb 55) (zmL 55) (zret 55) ∈ lw_tbl := zmem_5 (List.mem_of_getElem? (i := 40) rfl)
set_option maxRecDepth 20000 in
theorem zwc_56 : Cond.code (zy 56) (zb 56) (zmL 56) (zret 56) ∈ lw_tbl := zmem_3 (List.mem_of_getElem? (i := 57) rfl)
set_option maxRecDepth 20000 in
theorem zwc_57 : Cond.code (zy 57) (zb 57) (zmL 57) (zret 57) ∈ lw_tbl := zmem_3 (List.mem_of_getElem? (i := 131) rfl)
set_option maxRecDepth 20000 in
theorem zwc_58 : Cond.code (zy 58) (zb 58) (zmL 58) (zret 58) ∈ lw_tbl := zmem_3 (List.mem_of_getElem? (i := 137) rfl)
set_option maxRecDepth 20000 in
theorem zwc_59 : Cond.code (zy 59) (zb 59) (zmL 59) (zret 59) ∈ lw_tbl := zmem_3 (List.mem_of_getElem? (i := 150) rfl)
set_option maxRecDepth 20000 in
theorem zwc_60 : Cond.code (zy 60) (zb 60) (zmL 60) (zret 60) ∈ lw_tbl := zmem_3 (List.mem_of_getElem? (i := 143) rfl)
set_option maxRecDepth 20000 in
theorem zwc_61 : Cond.code (zy 61) (zb 61) (zmL 61) (zret 61) ∈ lw_tbl := zmem_3 (List.mem_of_getElem? (i := 146) rfl)
set_option maxRecDepth 20000 in
theorem zwc_62 : Cond.code (zy 62) (zb 62) (zmL 62) (zret 62) ∈ lw_tbl := zmem_4 (List.mem_of_getElem? (i := 184) rfl)
set_option maxRecDepth 20000 in
theorem zwc_63 : Cond.code (zy 63) (zb 63) (zmL 63) (zret 63) ∈ lw_tbl := zmem_4 (List.mem_of_getElem? (i := 44) rfl)
set_option maxRecDepth 20000 in
theorem zwc_64 : Cond.code (zy 64) (zb 64) (zmL 64) (zret 64) ∈ lw_tbl := zmem_2 (List.mem_of_getElem? (i := 211) rfl)
set_option maxRecDepth 20000 in
theorem zwc_65 : Cond.code (zy 65) (zb 65) (zmL 65) (zret 65) ∈ lw_tbl := zmem_3 (List.mem_of_getElem? (i := 51) rfl)
set_option maxRecDepth 20000 in
theorem zwc_66 : Cond.code (zy 66) (zb 66) (zmL 66) (zret 66) ∈ lw_tbl := zmem_6 (List.mem_of_getElem? (i := 102) rfl)
set_option maxRecDepth 20000 in
theorem zwc_67 : Cond.code (zy 67) (zb 67) (zmL 67) (zret 67) ∈ lw_tbl := zmem_5 (List.mem_of_getElem? (i := 169) rfl)
set_option maxRecDepth 20000 in
theorem zwc_68 : Cond.code (zy 68) (zb 68) (zmL 68) (zret 68) ∈ lw_tbl := zmem_5 (List.mem_of_getElem? (i := 173) rfl)
set_option maxRecDepth 20000 in
theorem zwc_69 : Cond.code (zy 69) (zb 69) (zmL 69) (zret 69) ∈ lw_tbl := zmem_6 (List.mem_of_getElem? (i := 163) rfl)
set_option maxRecDepth 20000 in
theorem zwc_70 : Cond.code (zy 70) (zb 70) (zmL 70) (zret 70) ∈ lw_tbl := zmem_6 (List.mem_of_getElem? (i := 160) rfl)
set_option maxRecDepth 20000 in
theorem zwc_71 : Cond.code (zy 71) (zb 71) (zmL 71) (zret 71) ∈ lw_tbl := zmem_6 (List.mem_of_getElem? (i := 167) rfl)
set_option maxRecDepth 20000 in
theorem zwc_72 : Cond.code (zy 72) (zb 72) (zmL 72) (zret 72) ∈ lw_tbl := zmem_6 (List.mem_of_getElem? (i := 195) rfl)
set_option maxRecDepth 20000 in
theorem zwc_73 : Cond.code (zy 73) (zb 73) (zmL 73) (zret 73) ∈ lw_tbl := zmem_6 (List.mem_of_getElem? (i := 186) rfl)
set_option maxRecDepth 20000 in
theorem zwc_74 : Cond.code (zy 74) (zb 74) (zmL 74) (zret 74) ∈ lw_tbl := zmem_6 (List.mem_of_getElem? (i := 223) rfl)
set_option maxRecDepth 20000 in
theorem zwc_75 : Cond.code (zy 75) (zb 75) (zmL 75) (zret 75) ∈ lw_tbl := zmem_7 (List.mem_of_getElem? (i := 22) rfl)
set_option maxRecDepth 20000 in
theorem zwc_76 : Cond.code (zy 76) (zb 76) (zmL 76) (zret 76) ∈ lw_tbl := zmem_6 (List.mem_of_getElem? (i := 219) rfl)
set_option maxRecDepth 20000 in
theorem zwc_77 : Cond.code (zy 77) (zb 77) (zmL 77) (zret 77) ∈ lw_tbl := zmem_6 (List.mem_of_getElem? (i := 152) rfl)
set_option maxRecDepth 20000 in
theorem zwc_78 : Cond.code (zy 78) (zb 78) (zmL 78) (zret 78) ∈ lw_tbl := zmem_7 (List.mem_of_getElem? (i := 5) rfl)
set_option maxRecDepth 20000 in
theorem zwc_79 : Cond.code (zy 79) (zb 79) (zmL 79) (zret 79) ∈ lw_tbl := zmem_6 (List.mem_of_getElem? (i := 238) rfl)
set_option maxRecDepth 20000 in
theorem zwc_80 : Cond.code (zy 80) (zb 80) (zmL 80) (zret 80) ∈ lw_tbl := zmem_6 (List.mem_of_getElem? (i := 231) rfl)
set_option maxRecDepth 20000 in
theorem zwc_81 : Cond.code (zy 81) (zb 81) (zmL 81) (zret 81) ∈ lw_tbl := zmem_6 (List.mem_of_getElem? (i := 235) rfl)
set_option maxRecDepth 20000 in
theorem zwc_82 : Cond.code (zy 82) (zb 82) (zmL 82) (zret 82) ∈ lw_tbl := zmem_6 (List.mem_of_getElem? (i := 227) rfl)
set_option maxRecDepth 20000 in
theorem zwc_83 : Cond.code (zy 83) (zb 83) (zmL 83) (zret 83) ∈ lw_tbl := zmem_7 (List.mem_of_getElem? (i := 10) rfl)
set_option maxRecDepth 20000 in
theorem zwc_84 : Cond.code (zy 84) (zb 84) (zmL 84) (zret 84) ∈ lw_tbl := zmem_7 (List.mem_of_getElem? (i := 2) rfl)
set_option maxRecDepth 20000 in
theorem zwc_85 : Cond.code (zy 85) (zb 85) (zmL 85) (zret 85) ∈ lw_tbl := zmem_7 (List.mem_of_getElem? (i := 30) rfl)
set_option maxRecDepth 20000 in
theorem zwc_86 : Cond.code (zy 86) (zb 86) (zmL 86) (zret 86) ∈ lw_tbl := zmem_7 (List.mem_of_getElem? (i := 26) rfl)
set_option maxRecDepth 20000 in
theorem zwc_87 : Cond.code (zy 87) (zb 87) (zmL 87) (zret 87) ∈ lw_tbl := zmem_7 (List.mem_of_getElem? (i := 18) rfl)
set_option maxRecDepth 20000 in
theorem zwc_88 : Cond.code (zy 88) (zb 88) (zmL 88) (zret 88) ∈ lw_tbl := zmem_7 (List.mem_of_getElem? (i := 50) rfl)
set_option maxRecDepth 20000 in
theorem zwc_89 : Cond.code (zy 89) (zb 89) (zmL 89) (zret 89) ∈ lw_tbl := zmem_6 (List.mem_of_getElem? (i := 215) rfl)
set_option maxRecDepth 20000 in
theorem zwc_90 : Cond.code (zy 90) (zb 90) (zmL 90) (zret 90) ∈ lw_tbl := zmem_6 (List.mem_of_getElem? (i := 211) rfl)
set_option maxRecDepth 20000 in
theorem zwc_91 : Cond.code (zy 91) (zb 91) (zmL 91) (zret 91) ∈ lw_tbl := zmem_7 (List.mem_of_getElem? (i := 42) rfl)
set_option maxRecDepth 20000 in
theorem zwc_92 : Cond.code (zy 92) (zb 92) (zmL 92) (zret 92) ∈ lw_tbl := zmem_7 (List.mem_of_getElem? (i := 38) rfl)
set_option maxRecDepth 20000 in
theorem zwc_93 : Cond.code (zy 93) (zb 93) (zmL 93) (zret 93) ∈ lw_tbl := zmem_7 (List.mem_of_getElem? (i := 46) rfl)
set_option maxRecDepth 20000 in
theorem zwc_94 : Cond.code (zy 94) (zb 94) (zmL 94) (zret 94) ∈ lw_tbl := zmem_7 (List.mem_of_getElem? (i := 34) rfl)
set_option maxRecDepth 20000 in
theorem zwc_95 : Cond.code (zy 95) (zb 95) (zmL 95) (zret 95) ∈ lw_tbl := zmem_7 (List.mem_of_getElem? (i := 78) rfl)
set_option maxRecDepth 20000 in
theorem zwc_96 : Cond.code (zy 96) (zb 96) (zmL 96) (zret 96) ∈ lw_tbl := zmem_7 (List.mem_of_getElem? (i := 62) rfl)
set_option maxRecDepth 20000 in
theorem zwc_97 : Cond.code (zy 97) (zb 97) (zmL 97) (zret 97) ∈ lw_tbl := zmem_7 (List.mem_of_getElem? (i := 54) rfl)
set_option maxRecDepth 20000 in
theorem zwc_98 : Cond.code (zy 98) (zb 98) (zmL 98) (zret 98) ∈ lw_tbl := zmem_7 (List.mem_of_getElem? (i := 58) rfl)
set_option maxRecDepth 20000 in
theorem zwc_99 : Cond.code (zy 99) (zb 99) (zmL 99) (zret 99) ∈ lw_tbl := zmem_7 (List.mem_of_getElem? (i := 66) rfl)
set_option maxRecDepth 20000 in
theorem zwc_100 : Cond.code (zy 100) (zb 100) (zmL 100) (zret 100) ∈ lw_tbl := zmem_7 (List.mem_of_getElem? (i := 74) rfl)
set_option maxRecDepth 20000 in
theorem zwc_101 : Cond.code (zy 101) (zb 101) (zmL 101) (zret 101) ∈ lw_tbl := zmem_7 (List.mem_of_getElem? (i := 14) rfl)
set_option maxRecDepth 20000 in
theorem zwc_102 : Cond.code (zy 102) (zb 102) (zmL 102) (zret 102) ∈ lw_tbl := zmem_7 (List.mem_of_getElem? (i := 70) rfl)
set_option maxRecDepth 20000 in
theorem zwc_103 : Cond.code (zy 103) (zb 103) (zmL 103) (zret 103) ∈ lw_tbl := zmem_7 (List.mem_of_getElem? (i := 126) rfl)
set_option maxRecDepth 20000 in
theorem zwc_104 : Cond.code (zy 104) (zb 104) (zmL 104) (zret 104) ∈ lw_tbl := zmem_7 (List.mem_of_getElem? (i := 94) rfl)
set_option maxRecDepth 20000 in
theorem zwc_105 : Cond.code (zy 105) (zb 105) (zmL 105) (zret 105) ∈ lw_tbl := zmem_7 (List.mem_of_getElem? (i := 98) rfl)
set_option maxRecDepth 20000 in
theorem zwc_106 : Cond.code (zy 106) (zb 106) (zmL 106) (zret 106) ∈ lw_tbl := zmem_7 (List.mem_of_getElem? (i := 90) rfl)
set_option maxRecDepth 20000 in
theorem zwc_107 : Cond.code (zy 107) (zb 107) (zmL 107) (zret 107) ∈ lw_tbl := zmem_6 (List.mem_of_getElem? (i := 91) rfl)
set_option maxRecDepth 20000 in
theorem zwc_108 : Cond.code (zy 108) (zb 108) (zmL 108) (zret 108) ∈ lw_tbl := zmem_6 (List.mem_of_getElem? (i := 110) rfl)
set_option maxRecDepth 20000 in
theorem zwc_109 : Cond.code (zy 109) (zb 109) (zmL 109) (zret 109) ∈ lw_tbl := zmem_6 (List.mem_of_getElem? (i := 124) rfl)
set_option maxRecDepth 20000 in
theorem zwc_110 : Cond.code (zy 110) (zb 110) (zmL 110) (zret 110) ∈ lw_tbl := zmem_6 (List.mem_of_getElem? (i := 106) rfl)
set_option maxRecDepth 20000 in
theorem zwc_111 : Cond.code (zy 111) (zb 111) (zmL 111) (zret 111) ∈ lw_tbl := zmem_6 (List.mem_of_getElem? (i := 118) rfl)
set_option maxRecDepth 20000 in
theorem zwc_112 : Cond.code (zy 112) (zb 112) (zmL 112) (zret 112) ∈ lw_tbl := zmem_6 (List.mem_of_getElem? (i := 128) rfl)
set_option maxRecDepth 20000 in
theorem zwc_113 : Cond.code (zy 113) (zb 113) (zmL 113) (zret 113) ∈ lw_tbl := zmem_6 (List.mem_of_getElem? (i := 143) rfl)
set_option maxRecDepth 20000 in
theorem zwc_114 : Cond.code (zy 114) (zb 114) (zmL 114) (zret 114) ∈ lw_tbl := zmem_6 (List.mem_of_getElem? (i := 135) rfl)
set_option maxRecDepth 20000 in
theorem zwc_115 : Cond.code (zy 115) (zb 115) (zmL 115) (zret 115) ∈ lw_tbl := zmem_6 (List.mem_of_getElem? (i := 132) rfl)
set_option maxRecDepth 20000 in
theorem zwc_116 : Cond.code (zy 116) (zb 116) (zmL 116) (zret 116) ∈ lw_tbl := zmem_6 (List.mem_of_getElem? (i := 156) rfl)
set_option maxRecDepth 20000 in
theorem zwc_117 : Cond.code (zy 117) (zb 117) (zmL 117) (zret 117) ∈ lw_tbl := zmem_6 (List.mem_of_getElem? (i := 139) rfl)
set_option maxRecDepth 20000 in
theorem zwc_118 : Cond.code (zy 118) (zb 118) (zmL 118) (zret 118) ∈ lw_tbl := zmem_6 (List.mem_of_getElem? (i := 149) rfl)
set_option maxRecDepth 20000 in
theorem zwc_119 : Cond.code (zy 119) (zb 119) (zmL 119) (zret 119) ∈ lw_tbl := zmem_6 (List.mem_of_getElem? (i := 114) rfl)
set_option maxRecDepth 20000 in
theorem zwc_120 : Cond.code (zy 120) (zb 120) (zmL 120) (zret 120) ∈ lw_tbl := zmem_6 (List.mem_of_getElem? (i := 99) rfl)
set_option maxRecDepth 20000 in
theorem zwc_121 : Cond.code (zy 121) (zb 121) (zmL 121) (zret 121) ∈ lw_tbl := zmem_6 (List.mem_of_getElem? (i := 171) rfl)
set_option maxRecDepth 20000 in
theorem zwc_122 : Cond.code (zy 122) (zb 122) (zmL 122) (zret 122) ∈ lw_tbl := zmem_6 (List.mem_of_getElem? (i := 95) rfl)
set_option maxRecDepth 20000 in
theorem zwc_123 : Cond.code (zy 123) (zb 123) (zmL 123) (zret 123) ∈ lw_tbl := zmem_6 (List.mem_of_getElem? (i := 175) rfl)
set_option maxRecDepth 20000 in
theorem zwc_124 : Cond.code (zy 124) (zb 124) (zmL 124) (zret 124) ∈ lw_tbl := zmem_6 (List.mem_of_getElem? (i := 179) rfl)
set_option maxRecDepth 20000 in
theorem zwc_125 : Cond.code (zy 125) (zb 125) (zmL 125) (zret 125) ∈ lw_tbl := zmem_6 (List.mem_of_getElem? (i := 183) rfl)
set_option maxRecDepth 20000 in
theorem zwc_126 : Cond.code (zy 126) (zb 126) (zmL 126) (zret 126) ∈ lw_tbl := zmem_6 (List.mem_of_getElem? (i := 199) rfl)
set_option maxRecDepth 20000 in
theorem zwc_127 : Cond.code (zy 127) (zb 127) (zmL 127) (zret 127) ∈ lw_tbl := zmem_6 (List.mem_of_getElem? (i := 191) rfl)
set_option maxRecDepth 20000 in
theorem zwc_128 : Cond.code (zy 128) (zb 128) (zmL 128) (zret 128) ∈ lw_tbl := zmem_6 (List.mem_of_getElem? (i := 207) rfl)
set_option maxRecDepth 20000 in
theorem zwc_129 : Cond.code (zy 129) (zb 129) (zmL 129) (zret 129) ∈ lw_tbl := zmem_6 (List.mem_of_getElem? (i := 203) rfl)
set_option maxRecDepth 20000 in
theorem zwc_130 : Cond.code (zy 130) (zb 130) (zmL 130) (zret 130) ∈ lw_tbl := zmem_7 (List.mem_of_getElem? (i := 82) rfl)
set_option maxRecDepth 20000 in
theorem zwc_131 : Cond.code (zy 131) (zb 131) (zmL 131) (zret 131) ∈ lw_tbl := zmem_7 (List.mem_of_getElem? (i := 86) rfl)
set_option maxRecDepth 20000 in
theorem zwc_132 : Cond.code (zy 132) (zb 132) (zmL 132) (zret 132) ∈ lw_tbl := zmem_7 (List.mem_of_getElem? (i := 102) rfl)
set_option maxRecDepth 20000 in
theorem zwc_133 : Cond.code (zy 133) (zb 133) (zmL 133) (zret 133) ∈ lw_tbl := zmem_7 (List.mem_of_getElem? (i := 106) rfl)
set_option maxRecDepth 20000 in
theorem zwc_134 : Cond.code (zy 134) (zb 134) (zmL 134) (zret 134) ∈ lw_tbl := zmem_7 (List.mem_of_getElem? (i := 110) rfl)
set_option maxRecDepth 20000 in
theorem zwc_135 : Cond.code (zy 135) (zb 135) (zmL 135) (zret 135) ∈ lw_tbl := zmem_7 (List.mem_of_getElem? (i := 114) rfl)
set_option maxRecDepth 20000 in
theorem zwc_136 : Cond.code (zy 136) (zb 136) (zmL 136) (zret 136) ∈ lw_tbl := zmem_7 (List.mem_of_getElem? (i := 122) rfl)
set_option maxRecDepth 20000 in
theorem zwc_137 : Cond.code (zy 137) (zb 137) (zmL 137) (zret 137) ∈ lw_tbl := zmem_7 (List.mem_of_getElem? (i := 118) rfl)
set_option maxRecDepth 20000 in
theorem zwc_138 : Cond.code (zy 138) (zb 138) (zmL 138) (zret 138) ∈ lw_tbl := zmem_7 (List.mem_of_getElem? (i := 134) rfl)
set_option maxRecDepth 20000 in
theorem zwc_139 : Cond.code (zy 139) (zb 139) (zmL 139) (zret 139) ∈ lw_tbl := zmem_7 (List.mem_of_getElem? (i := 130) rfl)
set_option maxRecDepth 20000 in
theorem zwc_140 : Cond.code (zy 140) (zb 140) (zmL 140) (zret 140) ∈ lw_tbl := zmem_7 (List.mem_of_getElem? (i := 138) rfl)
set_option maxRecDepth 20000 in
theorem zwc_141 : Cond.code (zy 141) (zb 141) (zmL 141) (zret 141) ∈ lw_tbl := zmem_7 (List.mem_of_getElem? (i := 150) rfl)
set_option maxRecDepth 20000 in
theorem zwc_142 : Cond.code (zy 142) (zb 142) (zmL 142) (zret 142) ∈ lw_tbl := zmem_7 (List.mem_of_getElem? (i := 146) rfl)
set_option maxRecDepth 20000 in
theorem zwc_143 : Cond.code (zy 143) (zb 143) (zmL 143) (zret 143) ∈ lw_tbl := zmem_7 (List.mem_of_getElem? (i := 142) rfl)
set_option maxRecDepth 20000 in
theorem zwc_144 : Cond.code (zy 144) (zb 144) (zmL 144) (zret 144) ∈ lw_tbl := zmem_7 (List.mem_of_getElem? (i := 162) rfl)
set_option maxRecDepth 20000 in
theorem zwc_145 : Cond.code (zy 145) (zb 145) (zmL 145) (zret 145) ∈ lw_tbl := zmem_7 (List.mem_of_getElem? (i := 158) rfl)
set_option maxRecDepth 20000 in
theorem zwc_146 : Cond.code (zy 146) (zb 146) (zmL 146) (zret 146) ∈ lw_tbl := zmem_7 (List.mem_of_getElem? (i := 154) rfl)
set_option maxRecDepth 20000 in
theorem zwc_147 : Cond.code (zy 147) (zb 147) (zmL 147) (zret 147) ∈ lw_tbl := zmem_7 (List.mem_of_getElem? (i := 167) rfl)
set_option maxRecDepth 20000 in
theorem zwc_148 : Cond.code (zy 148) (zb 148) (zmL 148) (zret 148) ∈ lw_tbl := zmem_7 (List.mem_of_getElem? (i := 171) rfl)
set_option maxRecDepth 20000 in
theorem zwc_149 : Cond.code (zy 149) (zb 149) (zmL 149) (zret 149) ∈ lw_tbl := zmem_7 (List.mem_of_getElem? (i := 175) rfl)
set_option maxRecDepth 20000 in
theorem zwc_150 : Cond.code (zy 150) (zb 150) (zmL 150) (zret 150) ∈ lw_tbl := zmem_7 (List.mem_of_getElem? (i := 179) rfl)
set_option maxRecDepth 20000 in
theorem zwc_151 : Cond.code (zy 151) (zb 151) (zmL 151) (zret 151) ∈ lw_tbl := zmem_7 (List.mem_of_getElem? (i := 183) rfl)
set_option maxRecDepth 20000 in
theorem zwc_152 : Cond.code (zy 152) (zb 152) (zmL 152) (zret 152) ∈ lw_tbl := zmem_7 (List.mem_of_getElem? (i := 187) rfl)
set_option maxRecDepth 20000 in
theorem zwc_153 : Cond.code (zy 153) (zb 153) (zmL 153) (zret 153) ∈ lw_tbl := zmem_7 (List.mem_of_getElem? (i := 191) rfl)
set_option maxRecDepth 20000 in
theorem zwc_154 : Cond.code (zy 154) (zb 154) (zmL 154) (zret 154) ∈ lw_tbl := zmem_7 (List.mem_of_getElem? (i := 195) rfl)
set_option maxRecDepth 20000 in
theorem zwc_155 : Cond.code (zy 155) (zb 155) (zmL 155) (zret 155) ∈ lw_tbl := zmem_7 (List.mem_of_getElem? (i := 199) rfl)
set_option maxRecDepth 20000 in
theorem zwc_156 : Cond.code (zy 156) (zb 156) (zmL 156) (zret 156) ∈ lw_tbl := zmem_7 (List.mem_of_getElem? (i := 207) rfl)
set_option maxRecDepth 20000 in
theorem zwc_157 : Cond.code (zy 157) (zb 157) (zmL 157) (zret 157) ∈ lw_tbl := zmem_7 (List.mem_of_getElem? (i := 211) rfl)
set_option maxRecDepth 20000 in
theorem zwc_158 : Cond.code (zy 158) (zb 158) (zmL 158) (zret 158) ∈ lw_tbl := zmem_7 (List.mem_of_getElem? (i := 203) rfl)
set_option maxRecDepth 20000 in
theorem zwc_159 : Cond.code (zy 159) (zb 159) (zmL 159) (zret 159) ∈ lw_tbl := zmem_7 (List.mem_of_getElem? (i := 219) rfl)
set_option maxRecDepth 20000 in
theorem zwc_160 : Cond.code (zy 160) (zb 160) (zmL 160) (zret 160) ∈ lw_tbl := zmem_7 (List.mem_of_getElem? (i := 215) rfl)
set_option maxRecDepth 20000 in
theorem zwc_161 : Cond.code (zy 161) (zb 161) (zmL 161) (zret 161) ∈ lw_tbl := zmem_7 (List.mem_of_getElem? (i := 232) rfl)
set_option maxRecDepth 20000 in
theorem zwc_162 : Cond.code (zy 162) (zb 162) (zmL 162) (zret 162) ∈ lw_tbl := zmem_7 (List.mem_of_getElem? (i := 228) rfl)
set_option maxRecDepth 20000 in
theorem zwc_163 : Cond.code (zy 163) (zb 163) (zmL 163) (zret 163) ∈ lw_tbl := zmem_7 (List.mem_of_getElem? (i := 223) rfl)
set_option maxRecDepth 20000 in
theorem zwc_164 : Cond.code (zy 164) (zb 164) (zmL 164) (zret 164) ∈ lw_tbl := zmem_7 (List.mem_of_getElem? (i := 236) rfl)
set_option maxRecDepth 20000 in
theorem zwc_165 : Cond.code (zy 165) (zb 165) (zmL 165) (zret 165) ∈ lw_tbl := zmem_8 (List.mem_of_getElem? (i := 4) rfl)
set_option maxRecDepth 20000 in
theorem zwc_166 : Cond.code (zy 166) (zb 166) (zmL 166) (zret 166) ∈ lw_tbl := zmem_8 (List.mem_of_getElem? (i := 0) rfl)
set_option maxRecDepth 20000 in
theorem zwc_167 : Cond.code (zy 167) (zb 167) (zmL 167) (zret 167) ∈ lw_tbl := zmem_8 (List.mem_of_getElem? (i := 8) rfl)
set_option maxRecDepth 20000 in
theorem zwc_168 : Cond.code (zy 168) (zb 168) (zmL 168) (zret 168) ∈ lw_tbl := zmem_8 (List.mem_of_getElem? (i := 12) rfl)
set_option maxRecDepth 20000 in
theorem zwc_169 : Cond.code (zy 169) (zb 169) (zmL 169) (zret 169) ∈ lw_tbl := zmem_8 (List.mem_of_getElem? (i := 17) rfl)
set_option maxRecDepth 20000 in
theorem zwc_170 : Cond.code (zy 170) (zb 170) (zmL 170) (zret 170) ∈ lw_tbl := zmem_8 (List.mem_of_getElem? (i := 33) rfl)
set_option maxRecDepth 20000 in
theorem zwc_171 : Cond.code (zy 171) (zb 171) (zmL 171) (zret 171) ∈ lw_tbl := zmem_8 (List.mem_of_getElem? (i := 29) rfl)
set_option maxRecDepth 20000 in
theorem zwc_172 : Cond.code (zy 172) (zb 172) (zmL 172) (zret 172) ∈ lw_tbl := zmem_8 (List.mem_of_getElem? (i := 25) rfl)
set_option maxRecDepth 20000 in
theorem zwc_173 : Cond.code (zy 173) (zb 173) (zmL 173) (zret 173) ∈ lw_tbl := zmem_8 (List.mem_of_getElem? (i := 21) rfl)
set_option maxRecDepth 20000 in
theorem zwc_174 : Cond.code (zy 174) (zb 174) (zmL 174) (zret 174) ∈ lw_tbl := zmem_8 (List.mem_of_getElem? (i := 37) rfl)
set_option maxRecDepth 20000 in
theorem zwc_175 : Cond.code (zy 175) (zb 175) (zmL 175) (zret 175) ∈ lw_tbl := zmem_8 (List.mem_of_getElem? (i := 41) rfl)
set_option maxRecDepth 20000 in
theorem zwc_176 : Cond.code (zy 176) (zb 176) (zmL 176) (zret 176) ∈ lw_tbl := zmem_8 (List.mem_of_getElem? (i := 45) rfl)
set_option maxRecDepth 20000 in
theorem zwc_177 : Cond.code (zy 177) (zb 177) (zmL 177) (zret 177) ∈ lw_tbl := zmem_8 (List.mem_of_getElem? (i := 49) rfl)
set_option maxRecDepth 20000 in
theorem zwc_178 : Cond.code (zy 178) (zb 178) (zmL 178) (zret 178) ∈ lw_tbl := zmem_8 (List.mem_of_getElem? (i := 54) rfl)
set_option maxRecDepth 20000 in
theorem zwc_179 : Cond.code (zy 179) (zb 179) (zmL 179) (zret 179) ∈ lw_tbl := zmem_8 (List.mem_of_getElem? (i := 58) rfl)
set_option maxRecDepth 20000 in
theorem zwc_180 : Cond.code (zy 180) (zb 180) (zmL 180) (zret 180) ∈ lw_tbl := zmem_8 (List.mem_of_getElem? (i := 66) rfl)
set_option maxRecDepth 20000 in
theorem zwc_181 : Cond.code (zy 181) (zb 181) (zmL 181) (zret 181) ∈ lw_tbl := zmem_8 (List.mem_of_getElem? (i := 62) rfl)
set_option maxRecDepth 20000 in
theorem zwc_182 : Cond.code (zy 182) (zb 182) (zmL 182) (zret 182) ∈ lw_tbl := zmem_1 (List.mem_of_getElem? (i := 196) rfl)
set_option maxRecDepth 20000 in
theorem zwc_183 : Cond.code (zy 183) (zb 183) (zmL 183) (zret 183) ∈ lw_tbl := zmem_3 (List.mem_of_getElem? (i := 162) rfl)
set_option maxRecDepth 20000 in
theorem zwc_184 : Cond.code (zy 184) (zb 184) (zmL 184) (zret 184) ∈ lw_tbl := zmem_3 (List.mem_of_getElem? (i := 178) rfl)
set_option maxRecDepth 20000 in
theorem zwc_185 : Cond.code (zy 185) (zb 185) (zmL 185) (zret 185) ∈ lw_tbl := zmem_3 (List.mem_of_getElem? (i := 186) rfl)
set_option maxRecDepth 20000 in
theorem zwc_186 : Cond.code (zy 186) (zb 186) (zmL 186) (zret 186) ∈ lw_tbl := zmem_3 (List.mem_of_getElem? (i := 191) rfl)
set_option maxRecDepth 20000 in
theorem zwc_187 : Cond.code (zy 187) (zb 187) (zmL 187) (zret 187) ∈ lw_tbl := zmem_3 (List.mem_of_getElem? (i := 196) rfl)
set_option maxRecDepth 20000 in
theorem zwc_188 : Cond.code (zy 188) (zb 188) (zmL 188) (zret 188) ∈ lw_tbl := zmem_3 (List.mem_of_getElem? (i := 201) rfl)
set_option maxRecDepth 20000 in
theorem zwc_189 : Cond.code (zy 189) (zb 189) (zmL 189) (zret 189) ∈ lw_tbl := zmem_3 (List.mem_of_getElem? (i := 210) rfl)
set_option maxRecDepth 20000 in
theorem zwc_190 : Cond.code (zy 190) (zb 190) (zmL 190) (zret 190) ∈ lw_tbl := zmem_1 (List.mem_of_getElem? (i := 169) rfl)
set_option maxRecDepth 20000 in
theorem zwc_191 : Cond.code (zy 191) (zb 191) (zmL 191) (zret 191) ∈ lw_tbl := zmem_3 (List.mem_of_getElem? (i := 123) rfl)
set_option maxRecDepth 20000 in
theorem zwc_192 : Cond.code (zy 192) (zb 192) (zmL 192) (zret 192) ∈ lw_tbl := zmem_3 (List.mem_of_getElem? (i := 206) rfl)
set_option maxRecDepth 20000 in
theorem zwc_193 : Cond.code (zy 193) (zb 193) (zmL 193) (zret 193) ∈ lw_tbl := zmem_3 (List.mem_of_getElem? (i := 170) rfl)
set_option maxRecDepth 20000 in
theorem zwc_194 : Cond.code (zy 194) (zb 194) (zmL 194) (zret 194) ∈ lw_tbl := zmem_3 (List.mem_of_getElem? (i := 166) rfl)
set_option maxRecDepth 20000 in
theorem zwc_195 : Cond.code (zy 195) (zb 195) (zmL 195) (zret 195) ∈ lw_tbl := zmem_3 (List.mem_of_getElem? (i := 174) rfl)
set_option maxRecDepth 20000 in
theorem zwc_196 : Cond.code (zy 196) (zb 196) (zmL 196) (zret 196) ∈ lw_tbl := zmem_4 (List.mem_of_getElem? (i := 173) rfl)
set_option maxRecDepth 20000 in
theorem zwc_197 : Cond.code (zy 197) (zb 197) (zmL 197) (zret 197) ∈ lw_tbl := zmem_3 (List.mem_of_getElem? (i := 182) rfl)
set_option maxRecDepth 20000 in
theorem zwc_198 : Cond.code (zy 198) (zb 198) (zmL 198) (zret 198) ∈ lw_tbl := zmem_4 (List.mem_of_getElem? (i := 190) rfl)
set_option maxRecDepth 20000 in
theorem zwc_199 : Cond.code (zy 199) (zb 199) (zmL 199) (zret 199) ∈ lw_tbl := zmem_4 (List.mem_of_getElem? (i := 181) rfl)
set_option maxRecDepth 20000 in
theorem zwc_200 : Cond.code (zy 200) (zb 200) (zmL 200) (zret 200) ∈ lw_tbl := zmem_4 (List.mem_of_getElem? (i := 123) rfl)
set_option maxRecDepth 20000 in
theorem zwc_201 : Cond.code (zy 201) (zb 201) (zmL 201) (zret 201) ∈ lw_tbl := zmem_4 (List.mem_of_getElem? (i := 119) rfl)
set_option maxRecDepth 20000 in
theorem zwc_202 : Cond.code (zy 202) (zb 202) (zmL 202) (zret 202) ∈ lw_tbl := zmem_5 (List.mem_of_getElem? (i := 14) rfl)
set_option maxRecDepth 20000 in
theorem zwc_203 : Cond.code (zy 203) (zb 203) (zmL 203) (zret 203) ∈ lw_tbl := zmem_5 (List.mem_of_getElem? (i := 18) rfl)
set_option maxRecDepth 20000 in
theorem zwc_204 : Cond.code (zy 204) (zb 204) (zmL 204) (zret 204) ∈ lw_tbl := zmem_2 (List.mem_of_getElem? (i := 27) rfl)
set_option maxRecDepth 20000 in
theorem zwc_205 : Cond.code (zy 205) (zb 205) (zmL 205) (zret 205) ∈ lw_tbl := zmem_3 (List.mem_of_getElem? (i := 154) rfl)
set_option maxRecDepth 20000 in
theorem zwc_206 : Cond.code (zy 206) (zb 206) (zmL 206) (zret 206) ∈ lw_tbl := zmem_3 (List.mem_of_getElem? (i := 214) rfl)
set_option maxRecDepth 20000 in
theorem zwc_207 : Cond.code (zy 207) (zb 207) (zmL 207) (zret 207) ∈ lw_tbl := zmem_4 (List.mem_of_getElem? (i := 41) rfl)
set_option maxRecDepth 20000 in
theorem zwc_208 : Cond.code (zy 208) (zb 208) (zmL 208) (zret 208) ∈ lw_tbl := zmem_3 (List.mem_of_getElem? (i := 229) rfl)
set_option maxRecDepth 20000 in
theorem zwc_209 : Cond.code (zy 209) (zb 209) (zmL 209) (zret 209) ∈ lw_tbl := zmem_3 (List.mem_of_getElem? (i := 224) rfl)
set_option maxRecDepth 20000 in
theorem zwc_210 : Cond.code (zy 210) (zb 210) (zmL 210) (zret 210) ∈ lw_tbl := zmem_3 (List.mem_of_getElem? (i := 233) rfl)
set_option maxRecDepth 20000 in
theorem zwc_211 : Cond.code (zy 211) (zb 211) (zmL 211) (zret 211) ∈ lw_tbl := zmem_3 (List.mem_of_getElem? (i := 219) rfl)
set_option maxRecDepth 20000 in
theorem zwc_212 : Cond.code (zy 212) (zb 212) (zmL 212) (zret 212) ∈ lw_tbl := zmem_3 (List.mem_of_getElem? (i := 237) rfl)
set_option maxRecDepth 20000 in
theorem zwc_213 : Cond.code (zy 213) (zb 213) (zmL 213) (zret 213) ∈ lw_tbl := zmem_4 (List.mem_of_getElem? (i := 37) rfl)
set_option maxRecDepth 20000 in
theorem zwc_214 : Cond.code (zy 214) (zb 214) (zmL 214) (zret 214) ∈ lw_tbl := zmem_4 (List.mem_of_getElem? (i := 7) rfl)
set_option maxRecDepth 20000 in
theorem zwc_215 : Cond.code (zy 215) (zb 215) (zmL 215) (zret 215) ∈ lw_tbl := zmem_4 (List.mem_of_getElem? (i := 11) rfl)
set_option maxRecDepth 20000 in
theorem zwc_216 : Cond.code (zy 216) (zb 216) (zmL 216) (zret 216) ∈ lw_tbl := zmem_4 (List.mem_of_getElem? (i := 16) rfl)
set_option maxRecDepth 20000 in
theorem zwc_217 : Cond.code (zy 217) (zb 217) (zmL 217) (zret 217) ∈ lw_tbl := zmem_4 (List.mem_of_getElem? (i := 20) rfl)
set_option maxRecDepth 20000 in
theorem zwc_218 : Cond.code (zy 218) (zb 218) (zmL 218) (zret 218) ∈ lw_tbl := zmem_4 (List.mem_of_getElem? (i := 25) rfl)
set_option maxRecDepth 20000 in
theorem zwc_219 : Cond.code (zy 219) (zb 219) (zmL 219) (zret 219) ∈ lw_tbl := zmem_4 (List.mem_of_getElem? (i := 29) rfl)
set_option maxRecDepth 20000 in
theorem zwc_220 : Cond.code (zy 220) (zb 220) (zmL 220) (zret 220) ∈ lw_tbl := zmem_4 (List.mem_of_getElem? (i := 33) rfl)
set_option maxRecDepth 20000 in
theorem zwc_221 : Cond.code (zy 221) (zb 221) (zmL 221) (zret 221) ∈ lw_tbl := zmem_5 (List.mem_of_getElem? (i := 26) rfl)
set_option maxRecDepth 20000 in
theorem zwc_222 : Cond.code (zy 222) (zb 222) (zmL 222) (zret 222) ∈ lw_tbl := zmem_4 (List.mem_of_getElem? (i := 165) rfl)
set_option maxRecDepth 20000 in
theorem zwc_223 : Cond.code (zy 223) (zb 223) (zmL 223) (zret 223) ∈ lw_tbl := zmem_4 (List.mem_of_getElem? (i := 161) rfl)
set_option maxRecDepth 20000 in
theorem zwc_224 : Cond.code (zy 224) (zb 224) (zmL 224) (zret 224) ∈ lw_tbl := zmem_5 (List.mem_of_getElem? (i := 164) rfl)
set_option maxRecDepth 20000 in
theorem zwc_225 : Cond.code (zy 225) (zb 225) (zmL 225) (zret 225) ∈ lw_tbl := zmem_5 (List.mem_of_getElem? (i := 92) rfl)
set_option maxRecDepth 20000 in
theorem zwc_226 : Cond.code (zy 226) (zb 226) (zmL 226) (zret 226) ∈ lw_tbl := zmem_5 (List.mem_of_getElem? (i := 100) rfl)
set_option maxRecDepth 20000 in
theorem zwc_227 : Cond.code (zy 227) (zb 227) (zmL 227) (zret 227) ∈ lw_tbl := zmem_5 (List.mem_of_getElem? (i := 104) rfl)
set_option maxRecDepth 20000 in
theorem zwc_228 : Cond.code (zy 228) (zb 228) (zmL 228) (zret 228) ∈ lw_tbl := zmem_5 (List.mem_of_getElem? (i := 96) rfl)
set_option maxRecDepth 20000 in
theorem zwc_229 : Cond.code (zy 229) (zb 229) (zmL 229) (zret 229) ∈ lw_tbl := zmem_1 (List.mem_of_getElem? (i := 103) rfl)
set_option maxRecDepth 20000 in
theorem zwc_230 : Cond.code (zy 230) (zb 230) (zmL 230) (zret 230) ∈ lw_tbl := zmem_3 (List.mem_of_getElem? (i := 98) rfl)
set_option maxRecDepth 20000 in
theorem zwc_231 : Cond.code (zy 231) (zb 231) (zmL 231) (zret 231) ∈ lw_tbl := zmem_3 (List.mem_of_getElem? (i := 102) rfl)
set_option maxRecDepth 20000 in
theorem zwc_232 : Cond.code (zy 232) (zb 232) (zmL 232) (zret 232) ∈ lw_tbl := zmem_5 (List.mem_of_getElem? (i := 130) rfl)
set_option maxRecDepth 20000 in
theorem zwc_233 : Cond.code (zy 233) (zb 233) (zmL 233) (zret 233) ∈ lw_tbl := zmem_5 (List.mem_of_getElem? (i := 156) rfl)
set_option maxRecDepth 20000 in
theorem zwc_234 : Cond.code (zy 234) (zb 234) (zmL 234) (zret 234) ∈ lw_tbl := zmem_2 (List.mem_of_getElem? (i := 108) rfl)
set_option maxRecDepth 20000 in
theorem zwc_235 : Cond.code (zy 235) (zb 235) (zmL 235) (zret 235) ∈ lw_tbl := zmem_4 (List.mem_of_getElem? (i := 198) rfl)
set_option maxRecDepth 20000 in
theorem zwc_236 : Cond.code (zy 236) (zb 236) (zmL 236) (zret 236) ∈ lw_tbl := zmem_4 (List.mem_of_getElem? (i := 204) rfl)
set_option maxRecDepth 20000 in
theorem zwc_237 : Cond.code (zy 237) (zb 237) (zmL 237) (zret 237) ∈ lw_tbl := zmem_1 (List.mem_of_getElem? (i := 120) rfl)
set_option maxRecDepth 20000 in
theorem zwc_238 : Cond.code (zy 238) (zb 238) (zmL 238) (zret 238) ∈ lw_tbl := zmem_5 (List.mem_of_getElem? (i := 147) rfl)
set_option maxRecDepth 20000 in
theorem zwc_239 : Cond.code (zy 239) (zb 239) (zmL 239) (zret 239) ∈ lw_tbl := zmem_5 (List.mem_of_getElem? (i := 138) rfl)
set_option maxRecDepth 20000 in
theorem zwc_240 : Cond.code (zy 240) (zb 240) (zmL 240) (zret 240) ∈ lw_tbl := zmem_5 (List.mem_of_getElem? (i := 151) rfl)
set_option maxRecDepth 20000 in
theorem zwc_241 : Cond.code (zy 241) (zb 241) (zmL 241) (zret 241) ∈ lw_tbl := zmem_2 (List.mem_of_getElem? (i := 66) rfl)
set_option maxRecDepth 20000 in
theorem zwc_242 : Cond.code (zy 242) (zb 242) (zmL 242) (zret 242) ∈ lw_tbl := zmem_3 (List.mem_of_getElem? (i := 158) rfl)
set_option maxRecDepth 20000 in
theorem zwc_243 : Cond.code (zy 243) (zb 243) (zmL 243) (zret 243) ∈ lw_tbl := zmem_4 (List.mem_of_getElem? (i := 48) rfl)
set_option maxRecDepth 20000 in
theorem zwc_244 : Cond.code (zy 244) (zb 244) (zmL 244) (zret 244) ∈ lw_tbl := zmem_4 (List.mem_of_getElem? (i := 62) rfl)
set_option maxRecDepth 20000 in
theorem zwc_245 : Cond.code (zy 245) (zb 245) (zmL 245) (zret 245) ∈ lw_tbl := zmem_4 (List.mem_of_getElem? (i := 67) rfl)
set_option maxRecDepth 20000 in
theorem zwc_246 : Cond.code (zy 246) (zb 246) (zmL 246) (zret 246) ∈ lw_tbl := zmem_4 (List.mem_of_getElem? (i := 72) rfl)
set_option maxRecDepth 20000 in
theorem zwc_247 : Cond.code (zy 247) (zb 247) (zmL 247) (zret 247) ∈ lw_tbl := zmem_4 (List.mem_of_getElem? (i := 58) rfl)
set_option maxRecDepth 20000 in
theorem zwc_248 : Cond.code (zy 248) (zb 248) (zmL 248) (zret 248) ∈ lw_tbl := zmem_1 (List.mem_of_getElem? (i := 136) rfl)
set_option maxRecDepth 20000 in
theorem zwc_249 : Cond.code (zy 249) (zb 249) (zmL 249) (zret 249) ∈ lw_tbl := zmem_2 (List.mem_of_getElem? (i := 181) rfl)
set_option maxRecDepth 20000 in
theorem zwc_250 : Cond.code (zy 250) (zb 250) (zmL 250) (zret 250) ∈ lw_tbl := zmem_2 (List.mem_of_getElem? (i := 193) rfl)
set_option maxRecDepth 20000 in
theorem zwc_251 : Cond.code (zy 251) (zb 251) (zmL 251) (zret 251) ∈ lw_tbl := zmem_2 (List.mem_of_getElem? (i := 204) rfl)
set_option maxRecDepth 20000 in
theorem zwc_252 : Cond.code (zy 252) (zb 252) (zmL 252) (zret 252) ∈ lw_tbl := zmem_3 (List.mem_of_getElem? (i := 6) rfl)
set_option maxRecDepth 20000 in
theorem zwc_253 : Cond.code (zy 253) (zb 253) (zmL 253) (zret 253) ∈ lw_tbl := zmem_2 (List.mem_of_getElem? (i := 189) rfl)
set_option maxRecDepth 20000 in
theorem zwc_254 : Cond.code (zy 254) (zb 254) (zmL 254) (zret 254) ∈ lw_tbl := zmem_2 (List.mem_of_getElem? (i := 197) rfl)
set_option maxRecDepth 20000 in
theorem zwc_255 : Cond.code (zy 255) (zb 255) (zmL 255) (zret 255) ∈ lw_tbl := zmem_2 (List.mem_of_getElem? (i := 208) rfl)
set_option maxRecDepth 20000 in
theorem zwc_256 : Cond.code (zy 256) (zb 256) (zmL 256) (zret 256) ∈ lw_tbl := zmem_2 (List.mem_of_getElem? (i := 232) rfl)
set_option maxRecDepth 20000 in
theorem zwc_257 : Cond.code (zy 257) (zb 257) (zmL 257) (zret 257) ∈ lw_tbl := zmem_3 (List.mem_of_getElem? (i := 48) rfl)
set_option maxRecDepth 20000 in
theorem zwc_258 : Cond.code (zy 258) (zb 258) (zmL 258) (zret 258) ∈ lw_tbl := zmem_3 (List.mem_of_getElem? (i := 90) rfl)
set_option maxRecDepth 20000 in
theorem zwc_259 : Cond.code (zy 259) (zb 259) (zmL 259) (zret 259) ∈ lw_tbl := zmem_3 (List.mem_of_getElem? (i := 61) rfl)
set_option maxRecDepth 20000 in
theorem zwc_260 : Cond.code (zy 260) (zb 260) (zmL 260) (zret 260) ∈ lw_tbl := zmem_3 (List.mem_of_getElem? (i := 69) rfl)
set_option maxRecDepth 20000 in
theorem zwc_261 : Cond.code (zy 261) (zb 261) (zmL 261) (zret 261) ∈ lw_tbl := zmem_3 (List.mem_of_getElem? (i := 73) rfl)
set_option maxRecDepth 20000 in
theorem zwc_262 : Cond.code (zy 262) (zb 262) (zmL 262) (zret 262) ∈ lw_tbl := zmem_3 (List.mem_of_getElem? (i := 83) rfl)
set_option maxRecDepth 20000 in
theorem zwc_263 : Cond.code (zy 263) (zb 263) (zmL 263) (zret 263) ∈ lw_tbl := zmem_1 (List.mem_of_getElem? (i := 38) rfl)
set_option maxRecDepth 20000 in
theorem zwc_264 : Cond.code (zy 264) (zb 264) (zmL 264) (zret 264) ∈ lw_tbl := zmem_2 (List.mem_of_getElem? (i := 185) rfl)
set_option maxRecDepth 20000 in
theorem zwc_265 : Cond.code (zy 265) (zb 265) (zmL 265) (zret 265) ∈ lw_tbl := zmem_3 (List.mem_of_getElem? (i := 110) rfl)
set_option maxRecDepth 20000 in
theorem zwc_266 : Cond.code (zy 266) (zb 266) (zmL 266) (zret 266) ∈ lw_tbl := zmem_3 (List.mem_of_getElem? (i := 65) rfl)
set_option maxRecDepth 20000 in
theorem zwc_267 : Cond.code (zy 267) (zb 267) (zmL 267) (zret 267) ∈ lw_tbl := zmem_4 (List.mem_of_getElem? (i := 1) rfl)
set_option maxRecDepth 20000 in
theorem zwc_268 : Cond.code (zy 268) (zb 268) (zmL 268) (zret 268) ∈ lw_tbl := zmem_3 (List.mem_of_getElem? (i := 77) rfl)
set_option maxRecDepth 20000 in
theorem zwc_269 : Cond.code (zy 269) (zb 269) (zmL 269) (zret 269) ∈ lw_tbl := zmem_4 (List.mem_of_getElem? (i := 76) rfl)
set_option maxRecDepth 20000 in
theorem zwc_270 : Cond.code (zy 270) (zb 270) (zmL 270) (zret 270) ∈ lw_tbl := zmem_1 (List.mem_of_getElem? (i := 32) rfl)
set_option maxRecDepth 20000 in
theorem zwc_271 : Cond.code (zy 271) (zb 271) (zmL 271) (zret 271) ∈ lw_tbl := zmem_3 (List.mem_of_getElem? (i := 106) rfl)
set_option maxRecDepth 20000 in
theorem zwc_272 : Cond.code (zy 272) (zb 272) (zmL 272) (zret 272) ∈ lw_tbl := zmem_3 (List.mem_of_getElem? (i := 127) rfl)
set_option maxRecDepth 20000 in
theorem zwc_273 : Cond.code (zy 273) (zb 273) (zmL 273) (zret 273) ∈ lw_tbl := zmem_4 (List.mem_of_getElem? (i := 90) rfl)
set_option maxRecDepth 20000 in
theorem zwc_274 : Cond.code (zy 274) (zb 274) (zmL 274) (zret 274) ∈ lw_tbl := zmem_4 (List.mem_of_getElem? (i := 102) rfl)
set_option maxRecDepth 20000 in
theorem zwc_275 : Cond.code (zy 275) (zb 275) (zmL 275) (zret 275) ∈ lw_tbl := zmem_4 (List.mem_of_getElem? (i := 111) rfl)
set_option maxRecDepth 20000 in
theorem zwc_276 : Cond.code (zy 276) (zb 276) (zmL 276) (zret 276) ∈ lw_tbl := zmem_2 (List.mem_of_getElem? (i := 87) rfl)
set_option maxRecDepth 20000 in
theorem zwc_277 : Cond.code (zy 277) (zb 277) (zmL 277) (zret 277) ∈ lw_tbl := zmem_5 (List.mem_of_getElem? (i := 48) rfl)
set_option maxRecDepth 20000 in
theorem zwc_278 : Cond.code (zy 278) (zb 278) (zmL 278) (zret 278) ∈ lw_tbl := zmem_5 (List.mem_of_getElem? (i := 44) rfl)
set_option maxRecDepth 20000 in
theorem zwc_279 : Cond.code (zy 279) (zb 279) (zmL 279) (zret 279) ∈ lw_tbl := zmem_5 (List.mem_of_getElem? (i := 64) rfl)
set_option maxRecDepth 20000 in
theorem zwc_280 : Cond.code (zy 280) (zb 280) (zmL 280) (zret 280) ∈ lw_tbl := zmem_5 (List.mem_of_getElem? (i := 68) rfl)
set_option maxRecDepth 20000 in
theorem zwc_281 : Cond.code (zy 281) (zb 281) (zmL 281) (zret 281) ∈ lw_tbl := zmem_5 (List.mem_of_getElem? (i := 52) rfl)
