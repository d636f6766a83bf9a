/-! CONSTRUCTORS: words, codes, classes -/
def cn_ws : List Cond := [Cond.instantiable "RivetedSisters$Best" 2, Cond.initialized "RivetedSisters$Best", Cond.code (cn_y "RivetedSisters$Best") prog_2_method_1_code 1 none, Cond.instanceMethod (cn_y "RivetedSisters$Best"), Cond.instantiable "RivetedSisters$Wave" 3, Cond.initialized "RivetedSisters$Wave", Cond.code (cn_y "RivetedSisters$Wave") prog_11_method_1_code 1 none, Cond.instanceMethod (cn_y "RivetedSisters$Wave"), Cond.instantiable "RivetedSisters$Wire" 9, Cond.initialized "RivetedSisters$Wire", Cond.code (cn_y "RivetedSisters$Wire") prog_12_method_1_code 1 none, Cond.instanceMethod (cn_y "RivetedSisters$Wire"), Cond.instantiable "RivetedSisters$Row" 2, Cond.initialized "RivetedSisters$Row", Cond.code (cn_y "RivetedSisters$Row") prog_9_method_1_code 1 none, Cond.instanceMethod (cn_y "RivetedSisters$Row"), Cond.instantiable "RivetedSisters$Echoes" 6, Cond.initialized "RivetedSisters$Echoes", Cond.code (cn_y "RivetedSisters$Echoes") prog_3_method_1_code 1 none, Cond.instanceMethod (cn_y "RivetedSisters$Echoes"), Cond.instantiable "RivetedSisters$Plans" 5, Cond.initialized "RivetedSisters$Plans", Cond.code (cn_y "RivetedSisters$Plans") prog_8_method_1_code 1 none, Cond.instanceMethod (cn_y "RivetedSisters$Plans"), Cond.instantiable "RivetedSisters$Orders" 4, Cond.initialized "RivetedSisters$Orders", Cond.code (cn_y "RivetedSisters$Orders") prog_6_method_1_code 1 none, Cond.instanceMethod (cn_y "RivetedSisters$Orders"), Cond.instantiable "RivetedSisters$Futures" 7, Cond.initialized "RivetedSisters$Futures", Cond.code (cn_y "RivetedSisters$Futures") prog_4_method_1_code 1 none, Cond.instanceMethod (cn_y "RivetedSisters$Futures"), Cond.instantiable "RivetedSisters$Valley" 4, Cond.initialized "RivetedSisters$Valley", Cond.code (cn_y "RivetedSisters$Valley") prog_10_method_1_code 1 none, Cond.instanceMethod (cn_y "RivetedSisters$Valley"), Cond.instantiable "RivetedSisters$Past" 3, Cond.initialized "RivetedSisters$Past", Cond.code (cn_y "RivetedSisters$Past") prog_7_method_1_code 2 none, Cond.instanceMethod (cn_y "RivetedSisters$Past"), Cond.instantiable "RivetedSisters" 12, Cond.initialized "RivetedSisters", Cond.code (cn_y "RivetedSisters") prog_1_method_1_code 1 none, Cond.instanceMethod (cn_y "RivetedSisters"), Cond.instantiable "RivetedSistersModel" 28, Cond.initialized "RivetedSistersModel", Cond.code (cn_y "RivetedSistersModel") prog_14_method_1_code 1 none, Cond.instanceMethod (cn_y "RivetedSistersModel"), Cond.classLink (am_cn 1) 9 "RivetedSisters$Wave", Cond.classLink (am_cn 1) 18 "RivetedSisters$Wire", Cond.classLink (am_cn 1) 25 "RivetedSisters$Best", Cond.classLink (am_cn 6) 9 "RivetedSisters$Wave", Cond.classLink (am_cn 6) 18 "RivetedSisters$Wire", Cond.classLink (am_cn 6) 25 "RivetedSisters$Best", Cond.classLink (am_cn 4) 9 "RivetedSisters$Wave", Cond.classLink (am_cn 4) 18 "RivetedSisters$Wire", Cond.classLink (am_cn 2) 9 "RivetedSisters$Wave", Cond.classLink (am_cn 2) 18 "RivetedSisters$Wire", Cond.classLink (am_cn 8) 15 "RivetedSisters$Wire", Cond.classLink (am_cn 8) 22 "RivetedSisters$Wave", Cond.classLink (am_cn 11) 7 "RivetedSisters$Wire", Cond.methodLink (am_cn 11) 25 (cn_y "RivetedSisters$Past"), Cond.classLink (am_cn 11) 23 "RivetedSisters$Past", Cond.classLink (am_cn 11) 30 "RivetedSisters$Valley", Cond.classLink (am_cn 11) 37 "RivetedSisters$Row", Cond.classLink (am_cn 11) 44 "RivetedSisters$Wave", Cond.classLink (am_cn 11) 51 "RivetedSisters$Echoes", Cond.classLink (am_cn 11) 58 "RivetedSisters$Plans", Cond.classLink (am_cn 11) 65 "RivetedSisters$Orders", Cond.classLink (am_cn 11) 72 "RivetedSisters$Futures", Cond.methodLink (am_cn 0) 3 objectInit, Cond.methodLink (am_cn 9) 3 objectInit, Cond.methodLink (am_cn 10) 3 objectInit, Cond.methodLink (am_cn 7) 3 objectInit, Cond.methodLink (am_cn 1) 3 objectInit, Cond.methodLink (am_cn 6) 3 objectInit, Cond.methodLink (am_cn 4) 3 objectInit, Cond.methodLink (am_cn 2) 3 objectInit, Cond.methodLink (am_cn 8) 3 objectInit, Cond.methodLink (am_cn 11) 1 objectInit, Cond.methodLink (am_cn 12) 1 objectInit, Cond.methodLink (am_cn 5) 3 objectInit, Cond.classLink (am_cn 5) 9 "RivetedSisters$Wire", Cond.classLink (am_cn 13) 7 "RivetedSisters", Cond.methodLink (am_cn 13) 9 (cn_y "RivetedSisters"), Cond.classLink (am_cn 13) 10 "RivetedSistersModel", Cond.methodLink (am_cn 13) 12 (cn_y "RivetedSistersModel")]
set_option maxRecDepth 100000 in
theorem in_cws : ∀ w ∈ cn_ws, w ∈ lw_tbl := am_in [252, 75, 255, 254, 187, 72, 190, 189, 94, 69, 97, 96, 226, 73, 229, 228, 242, 74, 245, 244, 289, 76, 292, 291, 317, 77, 320, 319, 340, 78, 343, 342, 179, 71, 182, 181, 159, 70, 162, 161, 86, 68, 89, 88, 1091, 79, 1094, 1093, 247, 249, 251, 294, 296, 298, 322, 324, 345, 347, 184, 186, 93, 160, 158, 178, 225, 239, 241, 288, 316, 339, 256, 191, 98, 230, 246, 293, 321, 344, 183, 90, 1095, 163, 164, 85, 87, 1090, 1092] (by decide +kernel)
theorem cw_0 : Cond.instantiable "RivetedSisters$Best" 2 ∈ am_TS := am_ts (in_cws _ (List.mem_of_getElem? (i := 0) rfl)) rfl
theorem cw_1 : Cond.initialized "RivetedSisters$Best" ∈ am_TS := am_ts (in_cws _ (List.mem_of_getElem? (i := 1) rfl)) rfl
theorem cw_2 : Cond.code (cn_y "RivetedSisters$Best") prog_2_method_1_code 1 none ∈ am_TS := am_ts (in_cws _ (List.mem_of_getElem? (i := 2) rfl)) rfl
theorem cw_3 : Cond.instanceMethod (cn_y "RivetedSisters$Best") ∈ am_TS := am_ts (in_cws _ (List.mem_of_getElem? (i := 3) rfl)) rfl
theorem cw_4 : Cond.instantiable "RivetedSisters$Wave" 3 ∈ am_TS := am_ts (in_cws _ (List.mem_of_getElem? (i := 4) rfl)) rfl
theorem cw_5 : Cond.initialized "RivetedSisters$Wave" ∈ am_TS := am_ts (in_cws _ (List.mem_of_getElem? (i := 5) rfl)) rfl
theorem cw_6 : Cond.code (cn_y "RivetedSisters$Wave") prog_11_method_1_code 1 none ∈ am_TS := am_ts (in_cws _ (List.mem_of_getElem? (i := 6) rfl)) rfl
theorem cw_7 : Cond.instanceMethod (cn_y "RivetedSisters$Wave") ∈ am_TS := am_ts (in_cws _ (List.mem_of_getElem? (i := 7) rfl)) rfl
theorem cw_8 : Cond.instantiable "RivetedSisters$Wire" 9 ∈ am_TS := am_ts (in_cws _ (List.mem_of_getElem? (i := 8) rfl)) rfl
theorem cw_9 : Cond.initialized "RivetedSisters$Wire" ∈ am_TS := am_ts (in_cws _ (List.mem_of_getElem? (i := 9) rfl)) rfl
theorem cw_10 : Cond.code (cn_y "RivetedSisters$Wire") prog_12_method_1_code 1 none ∈ am_TS := am_ts (in_cws _ (List.mem_of_getElem? (i := 10) rfl)) rfl
theorem cw_11 : Cond.instanceMethod (cn_y "RivetedSisters$Wire") ∈ am_TS := am_ts (in_cws _ (List.mem_of_getElem? (i := 11) rfl)) rfl
theorem cw_12 : Cond.instantiable "RivetedSisters$Row" 2 ∈ am_TS := am_ts (in_cws _ (List.mem_of_getElem? (i := 12) rfl)) rfl
theorem cw_13 : Cond.initialized "RivetedSisters$Row" ∈ am_TS := am_ts (in_cws _ (List.mem_of_getElem? (i := 13) rfl)) rfl
theorem cw_14 : Cond.code (cn_y "RivetedSisters$Row") prog_9_method_1_code 1 none ∈ am_TS := am_ts (in_cws _ (List.mem_of_getElem? (i := 14) rfl)) rfl
theorem cw_15 : Cond.instanceMethod (cn_y "RivetedSisters$Row") ∈ am_TS := am_ts (in_cws _ (List.mem_of_getElem? (i := 15) rfl)) rfl
theorem cw_16 : Cond.instantiable "RivetedSisters$Echoes" 6 ∈ am_TS := am_ts (in_cws _ (List.mem_of_getElem? (i := 16) rfl)) rfl
theorem cw_17 : Cond.initialized "RivetedSisters$Echoes" ∈ am_TS := am_ts (in_cws _ (List.mem_of_getElem? (i := 17) rfl)) rfl
theorem cw_18 : Cond.code (cn_y "RivetedSisters$Echoes") prog_3_method_1_code 1 none ∈ am_TS := am_ts (in_cws _ (List.mem_of_getElem? (i := 18) rfl)) rfl
theorem cw_19 : Cond.instanceMethod (cn_y "RivetedSisters$Echoes") ∈ am_TS := am_ts (in_cws _ (List.mem_of_getElem? (i := 19) rfl)) rfl
theorem cw_20 : Cond.instantiable "RivetedSisters$Plans" 5 ∈ am_TS := am_ts (in_cws _ (List.mem_of_getElem? (i := 20) rfl)) rfl
theorem cw_21 : Cond.initialized "RivetedSisters$Plans" ∈ am_TS := am_ts (in_cws _ (List.mem_of_getElem? (i := 21) rfl)) rfl
theorem cw_22 : Cond.code (cn_y "RivetedSisters$Plans") prog_8_method_1_code 1 none ∈ am_TS := am_ts (in_cws _ (List.mem_of_getElem? (i := 22) rfl)) rfl
theorem cw_23 : Cond.instanceMethod (cn_y "RivetedSisters$Plans") ∈ am_TS := am_ts (in_cws _ (List.mem_of_getElem? (i := 23) rfl)) rfl
theorem cw_24 : Cond.instantiable "RivetedSisters$Orders" 4 ∈ am_TS := am_ts (in_cws _ (List.mem_of_getElem? (i := 24) rfl)) rfl
theorem cw_25 : Cond.initialized "RivetedSisters$Orders" ∈ am_TS := am_ts (in_cws _ (List.mem_of_getElem? (i := 25) rfl)) rfl
theorem cw_26 : Cond.code (cn_y "RivetedSisters$Orders") prog_6_method_1_code 1 none ∈ am_TS := am_ts (in_cws _ (List.mem_of_getElem? (i := 26) rfl)) rfl
theorem cw_27 : Cond.instanceMethod (cn_y "RivetedSisters$Orders") ∈ am_TS := am_ts (in_cws _ (List.mem_of_getElem? (i := 27) rfl)) rfl
theorem cw_28 : Cond.instantiable "RivetedSisters$Futures" 7 ∈ am_TS := am_ts (in_cws _ (List.mem_of_getElem? (i := 28) rfl)) rfl
theorem cw_29 : Cond.initialized "RivetedSisters$Futures" ∈ am_TS := am_ts (in_cws _ (List.mem_of_getElem? (i := 29) rfl)) rfl
theorem cw_30 : Cond.code (cn_y "RivetedSisters$Futures") prog_4_method_1_code 1 none ∈ am_TS := am_ts (in_cws _ (List.mem_of_getElem? (i := 30) rfl)) rfl
theorem cw_31 : Cond.instanceMethod (cn_y "RivetedSisters$Futures") ∈ am_TS := am_ts (in_cws _ (List.mem_of_getElem? (i := 31) rfl)) rfl
theorem cw_32 : Cond.instantiable "RivetedSisters$Valley" 4 ∈ am_TS := am_ts (in_cws _ (List.mem_of_getElem? (i := 32) rfl)) rfl
theorem cw_33 : Cond.initialized "RivetedSisters$Valley" ∈ am_TS := am_ts (in_cws _ (List.mem_of_getElem? (i := 33) rfl)) rfl
theorem cw_34 : Cond.code (cn_y "RivetedSisters$Valley") prog_10_method_1_code 1 none ∈ am_TS := am_ts (in_cws _ (List.mem_of_getElem? (i := 34) rfl)) rfl
theorem cw_35 : Cond.instanceMethod (cn_y "RivetedSisters$Valley") ∈ am_TS := am_ts (in_cws _ (List.mem_of_getElem? (i := 35) rfl)) rfl
theorem cw_36 : Cond.instantiable "RivetedSisters$Past" 3 ∈ am_TS := am_ts (in_cws _ (List.mem_of_getElem? (i := 36) rfl)) rfl
theorem cw_37 : Cond.initialized "RivetedSisters$Past" ∈ am_TS := am_ts (in_cws _ (List.mem_of_getElem? (i := 37) rfl)) rfl
theorem cw_38 : Cond.code (cn_y "RivetedSisters$Past") prog_7_method_1_code 2 none ∈ am_TS := am_ts (in_cws _ (List.mem_of_getElem? (i := 38) rfl)) rfl
theorem cw_39 : Cond.instanceMethod (cn_y "RivetedSisters$Past") ∈ am_TS := am_ts (in_cws _ (List.mem_of_getElem? (i := 39) rfl)) rfl
theorem cw_40 : Cond.instantiable "RivetedSisters" 12 ∈ am_TS := am_ts (in_cws _ (List.mem_of_getElem? (i := 40) rfl)) rfl
theorem cw_41 : Cond.initialized "RivetedSisters" ∈ am_TS := am_ts (in_cws _ (List.mem_of_getElem? (i := 41) rfl)) rfl
theorem cw_42 : Cond.code (cn_y "RivetedSisters") prog_1_method_1_code 1 none ∈ am_TS := am_ts (in_cws _ (List.mem_of_getElem? (i := 42) rfl)) rfl
theorem cw_43 : Cond.instanceMethod (cn_y "RivetedSisters") ∈ am_TS := am_ts (in_cws _ (List.mem_of_getElem? (i := 43) rfl)) rfl
theorem cw_44 : Cond.instantiable "RivetedSistersModel" 28 ∈ am_TS := am_ts (in_cws _ (List.mem_of_getElem? (i := 44) rfl)) rfl
theorem cw_45 : Cond.initialized "RivetedSistersModel" ∈ am_TS := am_ts (in_cws _ (List.mem_of_getElem? (i := 45) rfl)) rfl
theorem cw_46 : Cond.code (cn_y "RivetedSistersModel") prog_14_method_1_code 1 none ∈ am_TS := am_ts (in_cws _ (List.mem_of_getElem? (i := 46) rfl)) rfl
theorem cw_47 : Cond.instanceMethod (cn_y "RivetedSistersModel") ∈ am_TS := am_ts (in_cws _ (List.mem_of_getElem? (i := 47) rfl)) rfl
theorem cw_48 : Cond.classLink (am_cn 1) 9 "RivetedSisters$Wave" ∈ am_TS := am_ts (in_cws _ (List.mem_of_getElem? (i := 48) rfl)) rfl
theorem cw_49 : Cond.classLink (am_cn 1) 18 "RivetedSisters$Wire" ∈ am_TS := am_ts (in_cws _ (List.mem_of_getElem? (i := 49) rfl)) rfl
theorem cw_50 : Cond.classLink (am_cn 1) 25 "RivetedSisters$Best" ∈ am_TS := am_ts (in_cws _ (List.mem_of_getElem? (i := 50) rfl)) rfl
theorem cw_51 : Cond.classLink (am_cn 6) 9 "RivetedSisters$Wave" ∈ am_TS := am_ts (in_cws _ (List.mem_of_getElem? (i := 51) rfl)) rfl
theorem cw_52 : Cond.classLink (am_cn 6) 18 "RivetedSisters$Wire" ∈ am_TS := am_ts (in_cws _ (List.mem_of_getElem? (i := 52) rfl)) rfl
theorem cw_53 : Cond.classLink (am_cn 6) 25 "RivetedSisters$Best" ∈ am_TS := am_ts (in_cws _ (List.mem_of_getElem? (i := 53) rfl)) rfl
theorem cw_54 : Cond.classLink (am_cn 4) 9 "RivetedSisters$Wave" ∈ am_TS := am_ts (in_cws _ (List.mem_of_getElem? (i := 54) rfl)) rfl
theorem cw_55 : Cond.classLink (am_cn 4) 18 "RivetedSisters$Wire" ∈ am_TS := am_ts (in_cws _ (List.mem_of_getElem? (i := 55) rfl)) rfl
theorem cw_56 : Cond.classLink (am_cn 2) 9 "RivetedSisters$Wave" ∈ am_TS := am_ts (in_cws _ (List.mem_of_getElem? (i := 56) rfl)) rfl
theorem cw_57 : Cond.classLink (am_cn 2) 18 "RivetedSisters$Wire" ∈ am_TS := am_ts (in_cws _ (List.mem_of_getElem? (i := 57) rfl)) rfl
theorem cw_58 : Cond.classLink (am_cn 8) 15 "RivetedSisters$Wire" ∈ am_TS := am_ts (in_cws _ (List.mem_of_getElem? (i := 58) rfl)) rfl
theorem cw_59 : Cond.classLink (am_cn 8) 22 "RivetedSisters$Wave" ∈ am_TS := am_ts (in_cws _ (List.mem_of_getElem? (i := 59) rfl)) rfl
theorem cw_60 : Cond.classLink (am_cn 11) 7 "RivetedSisters$Wire" ∈ am_TS := am_ts (in_cws _ (List.mem_of_getElem? (i := 60) rfl)) rfl
theorem cw_61 : Cond.methodLink (am_cn 11) 25 (cn_y "RivetedSisters$Past") ∈ am_TS := am_ts (in_cws _ (List.mem_of_getElem? (i := 61) rfl)) rfl
theorem cw_62 : Cond.classLink (am_cn 11) 23 "RivetedSisters$Past" ∈ am_TS := am_ts (in_cws _ (List.mem_of_getElem? (i := 62) rfl)) rfl
theorem cw_63 : Cond.classLink (am_cn 11) 30 "RivetedSisters$Valley" ∈ am_TS := am_ts (in_cws _ (List.mem_of_getElem? (i := 63) rfl)) rfl
theorem cw_64 : Cond.classLink (am_cn 11) 37 "RivetedSisters$Row" ∈ am_TS := am_ts (in_cws _ (List.mem_of_getElem? (i := 64) rfl)) rfl
theorem cw_65 : Cond.classLink (am_cn 11) 44 "RivetedSisters$Wave" ∈ am_TS := am_ts (in_cws _ (List.mem_of_getElem? (i := 65) rfl)) rfl
theorem cw_66 : Cond.classLink (am_cn 11) 51 "RivetedSisters$Echoes" ∈ am_TS := am_ts (in_cws _ (List.mem_of_getElem? (i := 66) rfl)) rfl
theorem cw_67 : Cond.classLink (am_cn 11) 58 "RivetedSisters$Plans" ∈ am_TS := am_ts (in_cws _ (List.mem_of_getElem? (i := 67) rfl)) rfl
theorem cw_68 : Cond.classLink (am_cn 11) 65 "RivetedSisters$Orders" ∈ am_TS := am_ts (in_cws _ (List.mem_of_getElem? (i := 68) rfl)) rfl
theorem cw_69 : Cond.classLink (am_cn 11) 72 "RivetedSisters$Futures" ∈ am_TS := am_ts (in_cws _ (List.mem_of_getElem? (i := 69) rfl)) rfl
theorem cw_70 : Cond.methodLink (am_cn 0) 3 objectInit ∈ am_TS := am_ts (in_cws _ (List.mem_of_getElem? (i := 70) rfl)) rfl
theorem cw_71 : Cond.methodLink (am_cn 9) 3 objectInit ∈ am_TS := am_ts (in_cws _ (List.mem_of_getElem? (i := 71) rfl)) rfl
theorem cw_72 : Cond.methodLink (am_cn 10) 3 objectInit ∈ am_TS := am_ts (in_cws _ (List.mem_of_getElem? (i := 72) rfl)) rfl
theorem cw_73 : Cond.methodLink (am_cn 7) 3 objectInit ∈ am_TS := am_ts (in_cws _ (List.mem_of_getElem? (i := 73) rfl)) rfl
theorem cw_74 : Cond.methodLink (am_cn 1) 3 objectInit ∈ am_TS := am_ts (in_cws _ (List.mem_of_getElem? (i := 74) rfl)) rfl
theorem cw_75 : Cond.methodLink (am_cn 6) 3 objectInit ∈ am_TS := am_ts (in_cws _ (List.mem_of_getElem? (i := 75) rfl)) rfl
theorem cw_76 : Cond.methodLink (am_cn 4) 3 objectInit ∈ am_TS := am_ts (in_cws _ (List.mem_of_getElem? (i := 76) rfl)) rfl
theorem cw_77 : Cond.methodLink (am_cn 2) 3 objectInit ∈ am_TS := am_ts (in_cws _ (List.mem_of_getElem? (i := 77) rfl)) rfl
theorem cw_78 : Cond.methodLink (am_cn 8) 3 objectInit ∈ am_TS := am_ts (in_cws _ (List.mem_of_getElem? (i := 78) rfl)) rfl
theorem cw_79 : Cond.methodLink (am_cn 11) 1 objectInit ∈ am_TS := am_ts (in_cws _ (List.mem_of_getElem? (i := 79) rfl)) rfl
theorem cw_80 : Cond.methodLink (am_cn 12) 1 objectInit ∈ am_TS := am_ts (in_cws _ (List.mem_of_getElem? (i := 80) rfl)) rfl
theorem cw_81 : Cond.methodLink (am_cn 5) 3 objectInit ∈ am_TS := am_ts (in_cws _ (List.mem_of_getElem? (i := 81) rfl)) rfl
theorem cw_82 : Cond.classLink (am_cn 5) 9 "RivetedSisters$Wire" ∈ am_TS := am_ts (in_cws _ (List.mem_of_getElem? (i := 82) rfl)) rfl
theorem cw_83 : Cond.classLink (am_cn 13) 7 "RivetedSisters" ∈ am_TS := am_ts (in_cws _ (List.mem_of_getElem? (i := 83) rfl)) rfl
theorem cw_84 : Cond.methodLink (am_cn 13) 9 (cn_y "RivetedSisters") ∈ am_TS := am_ts (in_cws _ (List.mem_of_getElem? (i := 84) rfl)) rfl
theorem cw_85 : Cond.classLink (am_cn 13) 10 "RivetedSistersModel" ∈ am_TS := am_ts (in_cws _ (List.mem_of_getElem? (i := 85) rfl)) rfl
theorem cw_86 : Cond.methodLink (am_cn 13) 12 (cn_y "RivetedSistersModel") ∈ am_TS := am_ts (in_cws _ (List.mem_of_getElem? (i := 86) rfl)) rfl
theorem dK0_0 : decode prog_2_method_1_code 0 = .ok (.aload_n 0, 1) := by decide +kernel
theorem dK0_1 : decode prog_2_method_1_code 1 = .ok (.invokespecial 3, 3) := by decide +kernel
theorem dK0_4 : decode prog_2_method_1_code 4 = .ok (.aload_n 0, 1) := by decide +kernel
theorem dK0_5 : decode prog_2_method_1_code 5 = .ok (.bipush (-9), 2) := by decide +kernel
theorem dK0_7 : decode prog_2_method_1_code 7 = .ok (.putfield 9, 3) := by decide +kernel
theorem dK0_10 : decode prog_2_method_1_code 10 = .ok (.aload_n 0, 1) := by decide +kernel
theorem dK0_11 : decode prog_2_method_1_code 11 = .ok (.bipush (-9), 2) := by decide +kernel
theorem dK0_13 : decode prog_2_method_1_code 13 = .ok (.putfield 15, 3) := by decide +kernel
theorem dK0_16 : decode prog_2_method_1_code 16 = .ok (.return_, 1) := by decide +kernel
theorem dK9_0 : decode prog_11_method_1_code 0 = .ok (.aload_n 0, 1) := by decide +kernel
theorem dK9_1 : decode prog_11_method_1_code 1 = .ok (.invokespecial 3, 3) := by decide +kernel
theorem dK9_4 : decode prog_11_method_1_code 4 = .ok (.aload_n 0, 1) := by decide +kernel
theorem dK9_5 : decode prog_11_method_1_code 5 = .ok (.bipush 8, 2) := by decide +kernel
theorem dK9_7 : decode prog_11_method_1_code 7 = .ok (.newarray .int, 2) := by decide +kernel
theorem dK9_9 : decode prog_11_method_1_code 9 = .ok (.putfield 9, 3) := by decide +kernel
theorem dK9_12 : decode prog_11_method_1_code 12 = .ok (.aload_n 0, 1) := by decide +kernel
theorem dK9_13 : decode prog_11_method_1_code 13 = .ok (.iconst 0, 1) := by decide +kernel
theorem dK9_14 : decode prog_11_method_1_code 14 = .ok (.putfield 15, 3) := by decide +kernel
theorem dK9_17 : decode prog_11_method_1_code 17 = .ok (.aload_n 0, 1) := by decide +kernel
theorem dK9_18 : decode prog_11_method_1_code 18 = .ok (.iconst 0, 1) := by decide +kernel
theorem dK9_19 : decode prog_11_method_1_code 19 = .ok (.putfield 19, 3) := by decide +kernel
theorem dK9_22 : decode prog_11_method_1_code 22 = .ok (.return_, 1) := by decide +kernel
theorem dK10_0 : decode prog_12_method_1_code 0 = .ok (.aload_n 0, 1) := by decide +kernel
theorem dK10_1 : decode prog_12_method_1_code 1 = .ok (.invokespecial 3, 3) := by decide +kernel
theorem dK10_4 : decode prog_12_method_1_code 4 = .ok (.aload_n 0, 1) := by decide +kernel
theorem dK10_5 : decode prog_12_method_1_code 5 = .ok (.iconst 0, 1) := by decide +kernel
theorem dK10_6 : decode prog_12_method_1_code 6 = .ok (.putfield 9, 3) := by decide +kernel
theorem dK10_9 : decode prog_12_method_1_code 9 = .ok (.aload_n 0, 1) := by decide +kernel
theorem dK10_10 : decode prog_12_method_1_code 10 = .ok (.iconst 0, 1) := by decide +kernel
theorem dK10_11 : decode prog_12_method_1_code 11 = .ok (.putfield 15, 3) := by decide +kernel
theorem dK10_14 : decode prog_12_method_1_code 14 = .ok (.aload_n 0, 1) := by decide +kernel
theorem dK10_15 : decode prog_12_method_1_code 15 = .ok (.iconst 0, 1) := by decide +kernel
theorem dK10_16 : decode prog_12_method_1_code 16 = .ok (.putfield 18, 3) := by decide +kernel
theorem dK10_19 : decode prog_12_method_1_code 19 = .ok (.aload_n 0, 1) := by decide +kernel
theorem dK10_20 : decode prog_12_method_1_code 20 = .ok (.iconst 0, 1) := by decide +kernel
theorem dK10_21 : decode prog_12_method_1_code 21 = .ok (.putfield 21, 3) := by decide +kernel
theorem dK10_24 : decode prog_12_method_1_code 24 = .ok (.aload_n 0, 1) := by decide +kernel
theorem dK10_25 : decode prog_12_method_1_code 25 = .ok (.bipush 8, 2) := by decide +kernel
theorem dK10_27 : decode prog_12_method_1_code 27 = .ok (.newarray .int, 2) := by decide +kernel
theorem dK10_29 : decode prog_12_method_1_code 29 = .ok (.putfield 24, 3) := by decide +kernel
theorem dK10_32 : decode prog_12_method_1_code 32 = .ok (.aload_n 0, 1) := by decide +kernel
theorem dK10_33 : decode prog_12_method_1_code 33 = .ok (.bipush 8, 2) := by decide +kernel
theorem dK10_35 : decode prog_12_method_1_code 35 = .ok (.newarray .int, 2) := by decide +kernel
theorem dK10_37 : decode prog_12_method_1_code 37 = .ok (.putfield 28, 3) := by decide +kernel
theorem dK10_40 : decode prog_12_method_1_code 40 = .ok (.aload_n 0, 1) := by decide +kernel
theorem dK10_41 : decode prog_12_method_1_code 41 = .ok (.bipush 8, 2) := by decide +kernel
theorem dK10_43 : decode prog_12_method_1_code 43 = .ok (.newarray .int, 2) := by decide +kernel
theorem dK10_45 : decode prog_12_method_1_code 45 = .ok (.putfield 31, 3) := by decide +kernel
theorem dK10_48 : decode prog_12_method_1_code 48 = .ok (.aload_n 0, 1) := by decide +kernel
theorem dK10_49 : decode prog_12_method_1_code 49 = .ok (.bipush 8, 2) := by decide +kernel
theorem dK10_51 : decode prog_12_method_1_code 51 = .ok (.newarray .int, 2) := by decide +kernel
theorem dK10_53 : decode prog_12_method_1_code 53 = .ok (.putfield 34, 3) := by decide +kernel
theorem dK10_56 : decode prog_12_method_1_code 56 = .ok (.aload_n 0, 1) := by decide +kernel
theorem dK10_57 : decode prog_12_method_1_code 57 = .ok (.bipush 8, 2) := by decide +kernel
theorem dK10_59 : decode prog_12_method_1_code 59 = .ok (.newarray .int, 2) := by decide +kernel
theorem dK10_61 : decode prog_12_method_1_code 61 = .ok (.putfield 37, 3) := by decide +kernel
theorem dK10_64 : decode prog_12_method_1_code 64 = .ok (.return_, 1) := by decide +kernel
theorem dK7_0 : decode prog_9_method_1_code 0 = .ok (.aload_n 0, 1) := by decide +kernel
theorem dK7_1 : decode prog_9_method_1_code 1 = .ok (.invokespecial 3, 3) := by decide +kernel
theorem dK7_4 : decode prog_9_method_1_code 4 = .ok (.aload_n 0, 1) := by decide +kernel
theorem dK7_5 : decode prog_9_method_1_code 5 = .ok (.bipush 12, 2) := by decide +kernel
theorem dK7_7 : decode prog_9_method_1_code 7 = .ok (.newarray .int, 2) := by decide +kernel
theorem dK7_9 : decode prog_9_method_1_code 9 = .ok (.putfield 9, 3) := by decide +kernel
theorem dK7_12 : decode prog_9_method_1_code 12 = .ok (.aload_n 0, 1) := by decide +kernel
theorem dK7_13 : decode prog_9_method_1_code 13 = .ok (.iconst 0, 1) := by decide +kernel
theorem dK7_14 : decode prog_9_method_1_code 14 = .ok (.putfield 15, 3) := by decide +kernel
theorem dK7_17 : decode prog_9_method_1_code 17 = .ok (.return_, 1) := by decide +kernel
theorem dK1_0 : decode prog_3_method_1_code 0 = .ok (.aload_n 0, 1) := by decide +kernel
theorem dK1_1 : decode prog_3_method_1_code 1 = .ok (.invokespecial 3, 3) := by decide +kernel
theorem dK1_4 : decode prog_3_method_1_code 4 = .ok (.aload_n 0, 1) := by decide +kernel
theorem dK1_5 : decode prog_3_method_1_code 5 = .ok (.new 9, 3) := by decide +kernel
theorem dK1_8 : decode prog_3_method_1_code 8 = .ok (.dup, 1) := by decide +kernel
theorem dK1_9 : decode prog_3_method_1_code 9 = .ok (.invokespecial 11, 3) := by decide +kernel
theorem dK1_12 : decode prog_3_method_1_code 12 = .ok (.putfield 12, 3) := by decide +kernel
theorem dK1_15 : decode prog_3_method_1_code 15 = .ok (.aload_n 0, 1) := by decide +kernel
theorem dK1_16 : decode prog_3_method_1_code 16 = .ok (.new 18, 3) := by decide +kernel
theorem dK1_19 : decode prog_3_method_1_code 19 = .ok (.dup, 1) := by decide +kernel
theorem dK1_20 : decode prog_3_method_1_code 20 = .ok (.invokespecial 20, 3) := by decide +kernel
theorem dK1_23 : decode prog_3_method_1_code 23 = .ok (.putfield 21, 3) := by decide +kernel
theorem dK1_26 : decode prog_3_method_1_code 26 = .ok (.aload_n 0, 1) := by decide +kernel
theorem dK1_27 : decode prog_3_method_1_code 27 = .ok (.new 25, 3) := by decide +kernel
theorem dK1_30 : decode prog_3_method_1_code 30 = .ok (.dup, 1) := by decide +kernel
theorem dK1_31 : decode prog_3_method_1_code 31 = .ok (.invokespecial 27, 3) := by decide +kernel
theorem dK1_34 : decode prog_3_method_1_code 34 = .ok (.putfield 28, 3) := by decide +kernel
theorem dK1_37 : decode prog_3_method_1_code 37 = .ok (.aload_n 0, 1) := by decide +kernel
theorem dK1_38 : decode prog_3_method_1_code 38 = .ok (.iconst 0, 1) := by decide +kernel
theorem dK1_39 : decode prog_3_method_1_code 39 = .ok (.putfield 32, 3) := by decide +kernel
theorem dK1_42 : decode prog_3_method_1_code 42 = .ok (.aload_n 0, 1) := by decide +kernel
theorem dK1_43 : decode prog_3_method_1_code 43 = .ok (.bipush (-9), 2) := by decide +kernel
theorem dK1_45 : decode prog_3_method_1_code 45 = .ok (.putfield 36, 3) := by decide +kernel
theorem dK1_48 : decode prog_3_method_1_code 48 = .ok (.aload_n 0, 1) := by decide +kernel
theorem dK1_49 : decode prog_3_method_1_code 49 = .ok (.iconst 0, 1) := by decide +kernel
theorem dK1_50 : decode prog_3_method_1_code 50 = .ok (.putfield 39, 3) := by decide +kernel
theorem dK1_53 : decode prog_3_method_1_code 53 = .ok (.return_, 1) := by decide +kernel
theorem dK6_0 : decode prog_8_method_1_code 0 = .ok (.aload_n 0, 1) := by decide +kernel
theorem dK6_1 : decode prog_8_method_1_code 1 = .ok (.invokespecial 3, 3) := by decide +kernel
theorem dK6_4 : decode prog_8_method_1_code 4 = .ok (.aload_n 0, 1) := by decide +kernel
theorem dK6_5 : decode prog_8_method_1_code 5 = .ok (.new 9, 3) := by decide +kernel
theorem dK6_8 : decode prog_8_method_1_code 8 = .ok (.dup, 1) := by decide +kernel
theorem dK6_9 : decode prog_8_method_1_code 9 = .ok (.invokespecial 11, 3) := by decide +kernel
theorem dK6_12 : decode prog_8_method_1_code 12 = .ok (.putfield 12, 3) := by decide +kernel
theorem dK6_15 : decode prog_8_method_1_code 15 = .ok (.aload_n 0, 1) := by decide +kernel
theorem dK6_16 : decode prog_8_method_1_code 16 = .ok (.new 18, 3) := by decide +kernel
theorem dK6_19 : decode prog_8_method_1_code 19 = .ok (.dup, 1) := by decide +kernel
theorem dK6_20 : decode prog_8_method_1_code 20 = .ok (.invokespecial 20, 3) := by decide +kernel
theorem dK6_23 : decode prog_8_method_1_code 23 = .ok (.putfield 21, 3) := by decide +kernel
theorem dK6_26 : decode prog_8_method_1_code 26 = .ok (.aload_n 0, 1) := by decide +kernel
theorem dK6_27 : decode prog_8_method_1_code 27 = .ok (.new 25, 3) := by decide +kernel
theorem dK6_30 : decode prog_8_method_1_code 30 = .ok (.dup, 1) := by decide +kernel
theorem dK6_31 : decode prog_8_method_1_code 31 = .ok (.invokespecial 27, 3) := by decide +kernel
theorem dK6_34 : decode prog_8_method_1_code 34 = .ok (.putfield 28, 3) := by decide +kernel
theorem dK6_37 : decode prog_8_method_1_code 37 = .ok (.aload_n 0, 1) := by decide +kernel
theorem dK6_38 : decode prog_8_method_1_code 38 = .ok (.bipush 8, 2) := by decide +kernel
theorem dK6_40 : decode prog_8_method_1_code 40 = .ok (.newarray .int, 2) := by decide +kernel
theorem dK6_42 : decode prog_8_method_1_code 42 = .ok (.putfield 32, 3) := by decide +kernel
theorem dK6_45 : decode prog_8_method_1_code 45 = .ok (.aload_n 0, 1) := by decide +kernel
theorem dK6_46 : decode prog_8_method_1_code 46 = .ok (.bipush 64, 2) := by decide +kernel
theorem dK6_48 : decode prog_8_method_1_code 48 = .ok (.newarray .int, 2) := by decide +kernel
theorem dK6_50 : decode prog_8_method_1_code 50 = .ok (.putfield 36, 3) := by decide +kernel
theorem dK6_53 : decode prog_8_method_1_code 53 = .ok (.return_, 1) := by decide +kernel
theorem dK4_0 : decode prog_6_method_1_code 0 = .ok (.aload_n 0, 1) := by decide +kernel
theorem dK4_1 : decode prog_6_method_1_code 1 = .ok (.invokespecial 3, 3) := by decide +kernel
theorem dK4_4 : decode prog_6_method_1_code 4 = .ok (.aload_n 0, 1) := by decide +kernel
theorem dK4_5 : decode prog_6_method_1_code 5 = .ok (.new 9, 3) := by decide +kernel
theorem dK4_8 : decode prog_6_method_1_code 8 = .ok (.dup, 1) := by decide +kernel
theorem dK4_9 : decode prog_6_method_1_code 9 = .ok (.invokespecial 11, 3) := by decide +kernel
theorem dK4_12 : decode prog_6_method_1_code 12 = .ok (.putfield 12, 3) := by decide +kernel
theorem dK4_15 : decode prog_6_method_1_code 15 = .ok (.aload_n 0, 1) := by decide +kernel
theorem dK4_16 : decode prog_6_method_1_code 16 = .ok (.new 18, 3) := by decide +kernel
theorem dK4_19 : decode prog_6_method_1_code 19 = .ok (.dup, 1) := by decide +kernel
theorem dK4_20 : decode prog_6_method_1_code 20 = .ok (.invokespecial 20, 3) := by decide +kernel
theorem dK4_23 : decode prog_6_method_1_code 23 = .ok (.putfield 21, 3) := by decide +kernel
theorem dK4_26 : decode prog_6_method_1_code 26 = .ok (.aload_n 0, 1) := by decide +kernel
theorem dK4_27 : decode prog_6_method_1_code 27 = .ok (.bipush 8, 2) := by decide +kernel
theorem dK4_29 : decode prog_6_method_1_code 29 = .ok (.newarray .int, 2) := by decide +kernel
theorem dK4_31 : decode prog_6_method_1_code 31 = .ok (.putfield 25, 3) := by decide +kernel
theorem dK4_34 : decode prog_6_method_1_code 34 = .ok (.aload_n 0, 1) := by decide +kernel
theorem dK4_35 : decode prog_6_method_1_code 35 = .ok (.bipush 8, 2) := by decide +kernel
theorem dK4_37 : decode prog_6_method_1_code 37 = .ok (.newarray .int, 2) := by decide +kernel
theorem dK4_39 : decode prog_6_method_1_code 39 = .ok (.putfield 29, 3) := by decide +kernel
theorem dK4_42 : decode prog_6_method_1_code 42 = .ok (.return_, 1) := by decide +kernel
theorem dK2_0 : decode prog_4_method_1_code 0 = .ok (.aload_n 0, 1) := by decide +kernel
theorem dK2_1 : decode prog_4_method_1_code 1 = .ok (.invokespecial 3, 3) := by decide +kernel
theorem dK2_4 : decode prog_4_method_1_code 4 = .ok (.aload_n 0, 1) := by decide +kernel
theorem dK2_5 : decode prog_4_method_1_code 5 = .ok (.new 9, 3) := by decide +kernel
theorem dK2_8 : decode prog_4_method_1_code 8 = .ok (.dup, 1) := by decide +kernel
theorem dK2_9 : decode prog_4_method_1_code 9 = .ok (.invokespecial 11, 3) := by decide +kernel
theorem dK2_12 : decode prog_4_method_1_code 12 = .ok (.putfield 12, 3) := by decide +kernel
theorem dK2_15 : decode prog_4_method_1_code 15 = .ok (.aload_n 0, 1) := by decide +kernel
theorem dK2_16 : decode prog_4_method_1_code 16 = .ok (.new 18, 3) := by decide +kernel
theorem dK2_19 : decode prog_4_method_1_code 19 = .ok (.dup, 1) := by decide +kernel
theorem dK2_20 : decode prog_4_method_1_code 20 = .ok (.invokespecial 20, 3) := by decide +kernel
theorem dK2_23 : decode prog_4_method_1_code 23 = .ok (.putfield 21, 3) := by decide +kernel
theorem dK2_26 : decode prog_4_method_1_code 26 = .ok (.aload_n 0, 1) := by decide +kernel
theorem dK2_27 : decode prog_4_method_1_code 27 = .ok (.iconst 0, 1) := by decide +kernel
theorem dK2_28 : decode prog_4_method_1_code 28 = .ok (.putfield 25, 3) := by decide +kernel
theorem dK2_31 : decode prog_4_method_1_code 31 = .ok (.aload_n 0, 1) := by decide +kernel
theorem dK2_32 : decode prog_4_method_1_code 32 = .ok (.lconst 0, 1) := by decide +kernel
theorem dK2_33 : decode prog_4_method_1_code 33 = .ok (.putfield 29, 3) := by decide +kernel
theorem dK2_36 : decode prog_4_method_1_code 36 = .ok (.aload_n 0, 1) := by decide +kernel
theorem dK2_37 : decode prog_4_method_1_code 37 = .ok (.lconst 1, 1) := by decide +kernel
theorem dK2_38 : decode prog_4_method_1_code 38 = .ok (.putfield 33, 3) := by decide +kernel
theorem dK2_41 : decode prog_4_method_1_code 41 = .ok (.aload_n 0, 1) := by decide +kernel
theorem dK2_42 : decode prog_4_method_1_code 42 = .ok (.iconst 0, 1) := by decide +kernel
theorem dK2_43 : decode prog_4_method_1_code 43 = .ok (.putfield 36, 3) := by decide +kernel
theorem dK2_46 : decode prog_4_method_1_code 46 = .ok (.aload_n 0, 1) := by decide +kernel
theorem dK2_47 : decode prog_4_method_1_code 47 = .ok (.iconst 0, 1) := by decide +kernel
theorem dK2_48 : decode prog_4_method_1_code 48 = .ok (.putfield 39, 3) := by decide +kernel
theorem dK2_51 : decode prog_4_method_1_code 51 = .ok (.return_, 1) := by decide +kernel
theorem dK8_0 : decode prog_10_method_1_code 0 = .ok (.aload_n 0, 1) := by decide +kernel
theorem dK8_1 : decode prog_10_method_1_code 1 = .ok (.invokespecial 3, 3) := by decide +kernel
theorem dK8_4 : decode prog_10_method_1_code 4 = .ok (.aload_n 0, 1) := by decide +kernel
theorem dK8_5 : decode prog_10_method_1_code 5 = .ok (.bipush 96, 2) := by decide +kernel
theorem dK8_7 : decode prog_10_method_1_code 7 = .ok (.newarray .int, 2) := by decide +kernel
theorem dK8_9 : decode prog_10_method_1_code 9 = .ok (.putfield 9, 3) := by decide +kernel
theorem dK8_12 : decode prog_10_method_1_code 12 = .ok (.aload_n 0, 1) := by decide +kernel
theorem dK8_13 : decode prog_10_method_1_code 13 = .ok (.new 15, 3) := by decide +kernel
theorem dK8_16 : decode prog_10_method_1_code 16 = .ok (.dup, 1) := by decide +kernel
theorem dK8_17 : decode prog_10_method_1_code 17 = .ok (.invokespecial 17, 3) := by decide +kernel
theorem dK8_20 : decode prog_10_method_1_code 20 = .ok (.putfield 18, 3) := by decide +kernel
theorem dK8_23 : decode prog_10_method_1_code 23 = .ok (.aload_n 0, 1) := by decide +kernel
theorem dK8_24 : decode prog_10_method_1_code 24 = .ok (.new 22, 3) := by decide +kernel
theorem dK8_27 : decode prog_10_method_1_code 27 = .ok (.dup, 1) := by decide +kernel
theorem dK8_28 : decode prog_10_method_1_code 28 = .ok (.invokespecial 24, 3) := by decide +kernel
theorem dK8_31 : decode prog_10_method_1_code 31 = .ok (.putfield 25, 3) := by decide +kernel
theorem dK8_34 : decode prog_10_method_1_code 34 = .ok (.aload_n 0, 1) := by decide +kernel
theorem dK8_35 : decode prog_10_method_1_code 35 = .ok (.iconst 0, 1) := by decide +kernel
theorem dK8_36 : decode prog_10_method_1_code 36 = .ok (.putfield 29, 3) := by decide +kernel
theorem dK8_39 : decode prog_10_method_1_code 39 = .ok (.return_, 1) := by decide +kernel
theorem dK5_0 : decode prog_7_method_1_code 0 = .ok (.aload_n 0, 1) := by decide +kernel
theorem dK5_1 : decode prog_7_method_1_code 1 = .ok (.invokespecial 3, 3) := by decide +kernel
theorem dK5_4 : decode prog_7_method_1_code 4 = .ok (.aload_n 0, 1) := by decide +kernel
theorem dK5_5 : decode prog_7_method_1_code 5 = .ok (.bipush 8, 2) := by decide +kernel
theorem dK5_7 : decode prog_7_method_1_code 7 = .ok (.anewarray 9, 3) := by decide +kernel
theorem dK5_10 : decode prog_7_method_1_code 10 = .ok (.putfield 11, 3) := by decide +kernel
theorem dK5_13 : decode prog_7_method_1_code 13 = .ok (.aload_n 0, 1) := by decide +kernel
theorem dK5_14 : decode prog_7_method_1_code 14 = .ok (.iconst 0, 1) := by decide +kernel
theorem dK5_15 : decode prog_7_method_1_code 15 = .ok (.putfield 17, 3) := by decide +kernel
theorem dK5_18 : decode prog_7_method_1_code 18 = .ok (.aload_n 0, 1) := by decide +kernel
theorem dK5_19 : decode prog_7_method_1_code 19 = .ok (.iconst 0, 1) := by decide +kernel
theorem dK5_20 : decode prog_7_method_1_code 20 = .ok (.putfield 21, 3) := by decide +kernel
theorem dK5_23 : decode prog_7_method_1_code 23 = .ok (.iconst 0, 1) := by decide +kernel
theorem dK5_24 : decode prog_7_method_1_code 24 = .ok (.istore_n 1, 1) := by decide +kernel
theorem dK5_25 : decode prog_7_method_1_code 25 = .ok (.iload_n 1, 1) := by decide +kernel
theorem dK5_26 : decode prog_7_method_1_code 26 = .ok (.bipush 8, 2) := by decide +kernel
theorem dK5_28 : decode prog_7_method_1_code 28 = .ok (.if_icmp .ge 22, 3) := by decide +kernel
theorem dK5_31 : decode prog_7_method_1_code 31 = .ok (.aload_n 0, 1) := by decide +kernel
theorem dK5_32 : decode prog_7_method_1_code 32 = .ok (.getfield 11, 3) := by decide +kernel
theorem dK5_35 : decode prog_7_method_1_code 35 = .ok (.iload_n 1, 1) := by decide +kernel
theorem dK5_36 : decode prog_7_method_1_code 36 = .ok (.new 9, 3) := by decide +kernel
theorem dK5_39 : decode prog_7_method_1_code 39 = .ok (.dup, 1) := by decide +kernel
theorem dK5_40 : decode prog_7_method_1_code 40 = .ok (.invokespecial 24, 3) := by decide +kernel
theorem dK5_43 : decode prog_7_method_1_code 43 = .ok (.aastore, 1) := by decide +kernel
theorem dK5_44 : decode prog_7_method_1_code 44 = .ok (.iinc 1 1, 3) := by decide +kernel
theorem dK5_47 : decode prog_7_method_1_code 47 = .ok (.goto (-22), 3) := by decide +kernel
theorem dK5_50 : decode prog_7_method_1_code 50 = .ok (.return_, 1) := by decide +kernel
theorem dK11_0 : decode prog_1_method_1_code 0 = .ok (.aload_n 0, 1) := by decide +kernel
theorem dK11_1 : decode prog_1_method_1_code 1 = .ok (.invokespecial 1, 3) := by decide +kernel
theorem dK11_4 : decode prog_1_method_1_code 4 = .ok (.aload_n 0, 1) := by decide +kernel
theorem dK11_5 : decode prog_1_method_1_code 5 = .ok (.new 7, 3) := by decide +kernel
theorem dK11_8 : decode prog_1_method_1_code 8 = .ok (.dup, 1) := by decide +kernel
theorem dK11_9 : decode prog_1_method_1_code 9 = .ok (.invokespecial 9, 3) := by decide +kernel
theorem dK11_12 : decode prog_1_method_1_code 12 = .ok (.putfield 10, 3) := by decide +kernel
theorem dK11_15 : decode prog_1_method_1_code 15 = .ok (.aload_n 0, 1) := by decide +kernel
theorem dK11_16 : decode prog_1_method_1_code 16 = .ok (.new 7, 3) := by decide +kernel
theorem dK11_19 : decode prog_1_method_1_code 19 = .ok (.dup, 1) := by decide +kernel
theorem dK11_20 : decode prog_1_method_1_code 20 = .ok (.invokespecial 9, 3) := by decide +kernel
theorem dK11_23 : decode prog_1_method_1_code 23 = .ok (.putfield 16, 3) := by decide +kernel
theorem dK11_26 : decode prog_1_method_1_code 26 = .ok (.aload_n 0, 1) := by decide +kernel
theorem dK11_27 : decode prog_1_method_1_code 27 = .ok (.iconst 0, 1) := by decide +kernel
theorem dK11_28 : decode prog_1_method_1_code 28 = .ok (.putfield 19, 3) := by decide +kernel
theorem dK11_31 : decode prog_1_method_1_code 31 = .ok (.aload_n 0, 1) := by decide +kernel
theorem dK11_32 : decode prog_1_method_1_code 32 = .ok (.new 23, 3) := by decide +kernel
theorem dK11_35 : decode prog_1_method_1_code 35 = .ok (.dup, 1) := by decide +kernel
theorem dK11_36 : decode prog_1_method_1_code 36 = .ok (.invokespecial 25, 3) := by decide +kernel
theorem dK11_39 : decode prog_1_method_1_code 39 = .ok (.putfield 26, 3) := by decide +kernel
theorem dK11_42 : decode prog_1_method_1_code 42 = .ok (.aload_n 0, 1) := by decide +kernel
theorem dK11_43 : decode prog_1_method_1_code 43 = .ok (.new 30, 3) := by decide +kernel
theorem dK11_46 : decode prog_1_method_1_code 46 = .ok (.dup, 1) := by decide +kernel
theorem dK11_47 : decode prog_1_method_1_code 47 = .ok (.invokespecial 32, 3) := by decide +kernel
theorem dK11_50 : decode prog_1_method_1_code 50 = .ok (.putfield 33, 3) := by decide +kernel
theorem dK11_53 : decode prog_1_method_1_code 53 = .ok (.aload_n 0, 1) := by decide +kernel
theorem dK11_54 : decode prog_1_method_1_code 54 = .ok (.new 37, 3) := by decide +kernel
theorem dK11_57 : decode prog_1_method_1_code 57 = .ok (.dup, 1) := by decide +kernel
theorem dK11_58 : decode prog_1_method_1_code 58 = .ok (.invokespecial 39, 3) := by decide +kernel
theorem dK11_61 : decode prog_1_method_1_code 61 = .ok (.putfield 40, 3) := by decide +kernel
theorem dK11_64 : decode prog_1_method_1_code 64 = .ok (.aload_n 0, 1) := by decide +kernel
theorem dK11_65 : decode prog_1_method_1_code 65 = .ok (.new 44, 3) := by decide +kernel
theorem dK11_68 : decode prog_1_method_1_code 68 = .ok (.dup, 1) := by decide +kernel
theorem dK11_69 : decode prog_1_method_1_code 69 = .ok (.invokespecial 46, 3) := by decide +kernel
theorem dK11_72 : decode prog_1_method_1_code 72 = .ok (.putfield 47, 3) := by decide +kernel
theorem dK11_75 : decode prog_1_method_1_code 75 = .ok (.aload_n 0, 1) := by decide +kernel
theorem dK11_76 : decode prog_1_method_1_code 76 = .ok (.new 51, 3) := by decide +kernel
theorem dK11_79 : decode prog_1_method_1_code 79 = .ok (.dup, 1) := by decide +kernel
theorem dK11_80 : decode prog_1_method_1_code 80 = .ok (.invokespecial 53, 3) := by decide +kernel
theorem dK11_83 : decode prog_1_method_1_code 83 = .ok (.putfield 54, 3) := by decide +kernel
theorem dK11_86 : decode prog_1_method_1_code 86 = .ok (.aload_n 0, 1) := by decide +kernel
theorem dK11_87 : decode prog_1_method_1_code 87 = .ok (.new 58, 3) := by decide +kernel
theorem dK11_90 : decode prog_1_method_1_code 90 = .ok (.dup, 1) := by decide +kernel
theorem dK11_91 : decode prog_1_method_1_code 91 = .ok (.invokespecial 60, 3) := by decide +kernel
theorem dK11_94 : decode prog_1_method_1_code 94 = .ok (.putfield 61, 3) := by decide +kernel
theorem dK11_97 : decode prog_1_method_1_code 97 = .ok (.aload_n 0, 1) := by decide +kernel
theorem dK11_98 : decode prog_1_method_1_code 98 = .ok (.new 65, 3) := by decide +kernel
theorem dK11_101 : decode prog_1_method_1_code 101 = .ok (.dup, 1) := by decide +kernel
theorem dK11_102 : decode prog_1_method_1_code 102 = .ok (.invokespecial 67, 3) := by decide +kernel
theorem dK11_105 : decode prog_1_method_1_code 105 = .ok (.putfield 68, 3) := by decide +kernel
theorem dK11_108 : decode prog_1_method_1_code 108 = .ok (.aload_n 0, 1) := by decide +kernel
theorem dK11_109 : decode prog_1_method_1_code 109 = .ok (.new 72, 3) := by decide +kernel
theorem dK11_112 : decode prog_1_method_1_code 112 = .ok (.dup, 1) := by decide +kernel
theorem dK11_113 : decode prog_1_method_1_code 113 = .ok (.invokespecial 74, 3) := by decide +kernel
theorem dK11_116 : decode prog_1_method_1_code 116 = .ok (.putfield 75, 3) := by decide +kernel
theorem dK11_119 : decode prog_1_method_1_code 119 = .ok (.aload_n 0, 1) := by decide +kernel
theorem dK11_120 : decode prog_1_method_1_code 120 = .ok (.bipush 7, 2) := by decide +kernel
theorem dK11_122 : decode prog_1_method_1_code 122 = .ok (.newarray .int, 2) := by decide +kernel
theorem dK11_124 : decode prog_1_method_1_code 124 = .ok (.putfield 79, 3) := by decide +kernel
theorem dK11_127 : decode prog_1_method_1_code 127 = .ok (.return_, 1) := by decide +kernel
theorem dK12_0 : decode prog_14_method_1_code 0 = .ok (.aload_n 0, 1) := by decide +kernel
theorem dK12_1 : decode prog_14_method_1_code 1 = .ok (.invokespecial 1, 3) := by decide +kernel
theorem dK12_4 : decode prog_14_method_1_code 4 = .ok (.aload_n 0, 1) := by decide +kernel
theorem dK12_5 : decode prog_14_method_1_code 5 = .ok (.bipush 7, 2) := by decide +kernel
theorem dK12_7 : decode prog_14_method_1_code 7 = .ok (.newarray .int, 2) := by decide +kernel
theorem dK12_9 : decode prog_14_method_1_code 9 = .ok (.putfield 7, 3) := by decide +kernel
theorem dK12_12 : decode prog_14_method_1_code 12 = .ok (.aload_n 0, 1) := by decide +kernel
theorem dK12_13 : decode prog_14_method_1_code 13 = .ok (.bipush 8, 2) := by decide +kernel
theorem dK12_15 : decode prog_14_method_1_code 15 = .ok (.newarray .int, 2) := by decide +kernel
theorem dK12_17 : decode prog_14_method_1_code 17 = .ok (.putfield 13, 3) := by decide +kernel
theorem dK12_20 : decode prog_14_method_1_code 20 = .ok (.aload_n 0, 1) := by decide +kernel
theorem dK12_21 : decode prog_14_method_1_code 21 = .ok (.bipush 8, 2) := by decide +kernel
theorem dK12_23 : decode prog_14_method_1_code 23 = .ok (.newarray .int, 2) := by decide +kernel
theorem dK12_25 : decode prog_14_method_1_code 25 = .ok (.putfield 16, 3) := by decide +kernel
theorem dK12_28 : decode prog_14_method_1_code 28 = .ok (.aload_n 0, 1) := by decide +kernel
theorem dK12_29 : decode prog_14_method_1_code 29 = .ok (.bipush 8, 2) := by decide +kernel
theorem dK12_31 : decode prog_14_method_1_code 31 = .ok (.newarray .int, 2) := by decide +kernel
theorem dK12_33 : decode prog_14_method_1_code 33 = .ok (.putfield 19, 3) := by decide +kernel
theorem dK12_36 : decode prog_14_method_1_code 36 = .ok (.aload_n 0, 1) := by decide +kernel
theorem dK12_37 : decode prog_14_method_1_code 37 = .ok (.bipush 8, 2) := by decide +kernel
theorem dK12_39 : decode prog_14_method_1_code 39 = .ok (.newarray .int, 2) := by decide +kernel
theorem dK12_41 : decode prog_14_method_1_code 41 = .ok (.putfield 22, 3) := by decide +kernel
theorem dK12_44 : decode prog_14_method_1_code 44 = .ok (.aload_n 0, 1) := by decide +kernel
theorem dK12_45 : decode prog_14_method_1_code 45 = .ok (.bipush 96, 2) := by decide +kernel
theorem dK12_47 : decode prog_14_method_1_code 47 = .ok (.newarray .int, 2) := by decide +kernel
theorem dK12_49 : decode prog_14_method_1_code 49 = .ok (.putfield 25, 3) := by decide +kernel
theorem dK12_52 : decode prog_14_method_1_code 52 = .ok (.aload_n 0, 1) := by decide +kernel
theorem dK12_53 : decode prog_14_method_1_code 53 = .ok (.bipush 48, 2) := by decide +kernel
theorem dK12_55 : decode prog_14_method_1_code 55 = .ok (.newarray .int, 2) := by decide +kernel
theorem dK12_57 : decode prog_14_method_1_code 57 = .ok (.putfield 28, 3) := by decide +kernel
theorem dK12_60 : decode prog_14_method_1_code 60 = .ok (.aload_n 0, 1) := by decide +kernel
theorem dK12_61 : decode prog_14_method_1_code 61 = .ok (.bipush 48, 2) := by decide +kernel
theorem dK12_63 : decode prog_14_method_1_code 63 = .ok (.newarray .int, 2) := by decide +kernel
theorem dK12_65 : decode prog_14_method_1_code 65 = .ok (.putfield 31, 3) := by decide +kernel
theorem dK12_68 : decode prog_14_method_1_code 68 = .ok (.aload_n 0, 1) := by decide +kernel
theorem dK12_69 : decode prog_14_method_1_code 69 = .ok (.sipush 144, 3) := by decide +kernel
theorem dK12_72 : decode prog_14_method_1_code 72 = .ok (.newarray .int, 2) := by decide +kernel
theorem dK12_74 : decode prog_14_method_1_code 74 = .ok (.putfield 34, 3) := by decide +kernel
theorem dK12_77 : decode prog_14_method_1_code 77 = .ok (.aload_n 0, 1) := by decide +kernel
theorem dK12_78 : decode prog_14_method_1_code 78 = .ok (.sipush 440, 3) := by decide +kernel
theorem dK12_81 : decode prog_14_method_1_code 81 = .ok (.newarray .int, 2) := by decide +kernel
theorem dK12_83 : decode prog_14_method_1_code 83 = .ok (.putfield 37, 3) := by decide +kernel
theorem dK12_86 : decode prog_14_method_1_code 86 = .ok (.aload_n 0, 1) := by decide +kernel
theorem dK12_87 : decode prog_14_method_1_code 87 = .ok (.bipush 8, 2) := by decide +kernel
theorem dK12_89 : decode prog_14_method_1_code 89 = .ok (.newarray .int, 2) := by decide +kernel
theorem dK12_91 : decode prog_14_method_1_code 91 = .ok (.putfield 40, 3) := by decide +kernel
theorem dK12_94 : decode prog_14_method_1_code 94 = .ok (.aload_n 0, 1) := by decide +kernel
theorem dK12_95 : decode prog_14_method_1_code 95 = .ok (.bipush 12, 2) := by decide +kernel
theorem dK12_97 : decode prog_14_method_1_code 97 = .ok (.newarray .int, 2) := by decide +kernel
theorem dK12_99 : decode prog_14_method_1_code 99 = .ok (.putfield 43, 3) := by decide +kernel
theorem dK12_102 : decode prog_14_method_1_code 102 = .ok (.aload_n 0, 1) := by decide +kernel
theorem dK12_103 : decode prog_14_method_1_code 103 = .ok (.bipush 8, 2) := by decide +kernel
theorem dK12_105 : decode prog_14_method_1_code 105 = .ok (.newarray .int, 2) := by decide +kernel
theorem dK12_107 : decode prog_14_method_1_code 107 = .ok (.putfield 46, 3) := by decide +kernel
theorem dK12_110 : decode prog_14_method_1_code 110 = .ok (.aload_n 0, 1) := by decide +kernel
theorem dK12_111 : decode prog_14_method_1_code 111 = .ok (.sipush 2048, 3) := by decide +kernel
theorem dK12_114 : decode prog_14_method_1_code 114 = .ok (.newarray .int, 2) := by decide +kernel
theorem dK12_116 : decode prog_14_method_1_code 116 = .ok (.putfield 49, 3) := by decide +kernel
theorem dK12_119 : decode prog_14_method_1_code 119 = .ok (.aload_n 0, 1) := by decide +kernel
theorem dK12_120 : decode prog_14_method_1_code 120 = .ok (.iconst 0, 1) := by decide +kernel
theorem dK12_121 : decode prog_14_method_1_code 121 = .ok (.putfield 52, 3) := by decide +kernel
theorem dK12_124 : decode prog_14_method_1_code 124 = .ok (.return_, 1) := by decide +kernel
theorem cK_0 : cn_K 0 "RivetedSisters$Best" am_F0 2 am_Y0 prog_2_method_1_code 1 [.int 0, .int 0] := ⟨rfl, am_cl_0.1, by decide +kernel, fun j hj => by rcases (show j = 0 ∨ j = 1 by omega) with rfl | rfl <;> rfl, cw_0, cw_1, cw_2, cw_3, by decide +kernel, by decide +kernel, rfl⟩
theorem cK_8 : cn_K 8 "RivetedSisters$Wave" am_F8 3 am_Y8 prog_11_method_1_code 1 [.null, .int 0, .int 0] := ⟨rfl, am_cl_8.1, by decide +kernel, fun j hj => by rcases (show j = 0 ∨ j = 1 ∨ j = 2 by omega) with rfl | rfl | rfl <;> rfl, cw_4, cw_5, cw_6, cw_7, by decide +kernel, by decide +kernel, rfl⟩
theorem cK_9 : cn_K 9 "RivetedSisters$Wire" am_F9 9 am_Y9 prog_12_method_1_code 1 [.int 0, .int 0, .int 0, .int 0, .null, .null, .null, .null, .null] := ⟨rfl, am_cl_9.1, by decide +kernel, fun j hj => by rcases (show j = 0 ∨ j = 1 ∨ j = 2 ∨ j = 3 ∨ j = 4 ∨ j = 5 ∨ j = 6 ∨ j = 7 ∨ j = 8 by omega) with rfl | rfl | rfl | rfl | rfl | rfl | rfl | rfl | rfl <;> rfl, cw_8, cw_9, cw_10, cw_11, by decide +kernel, by decide +kernel, rfl⟩
theorem cK_6 : cn_K 6 "RivetedSisters$Row" am_F6 2 am_Y6 prog_9_method_1_code 1 [.null, .int 0] := ⟨rfl, am_cl_6.1, by decide +kernel, fun j hj => by rcases (show j = 0 ∨ j = 1 by omega) with rfl | rfl <;> rfl, cw_12, cw_13, cw_14, cw_15, by decide +kernel, by decide +kernel, rfl⟩
theorem cK_1 : cn_K 1 "RivetedSisters$Echoes" am_F1 6 am_Y1 prog_3_method_1_code 1 [.null, .null, .null, .int 0, .int 0, .int 0] := ⟨rfl, am_cl_1.1, by decide +kernel, fun j hj => by rcases (show j = 0 ∨ j = 1 ∨ j = 2 ∨ j = 3 ∨ j = 4 ∨ j = 5 by omega) with rfl | rfl | rfl | rfl | rfl | rfl <;> rfl, cw_16, cw_17, cw_18, cw_19, by decide +kernel, by decide +kernel, rfl⟩
theorem cK_5 : cn_K 5 "RivetedSisters$Plans" am_F5 5 am_Y5 prog_8_method_1_code 1 [.null, .null, .null, .null, .null] := ⟨rfl, am_cl_5.1, by decide +kernel, fun j hj => by rcases (show j = 0 ∨ j = 1 ∨ j = 2 ∨ j = 3 ∨ j = 4 by omega) with rfl | rfl | rfl | rfl | rfl <;> rfl, cw_20, cw_21, cw_22, cw_23, by decide +kernel, by decide +kernel, rfl⟩
theorem cK_3 : cn_K 3 "RivetedSisters$Orders" am_F3 4 am_Y3 prog_6_method_1_code 1 [.null, .null, .null, .null] := ⟨rfl, am_cl_3.1, by decide +kernel, fun j hj => by rcases (show j = 0 ∨ j = 1 ∨ j = 2 ∨ j = 3 by omega) with rfl | rfl | rfl | rfl <;> rfl, cw_24, cw_25, cw_26, cw_27, by decide +kernel, by decide +kernel, rfl⟩
theorem cK_2 : cn_K 2 "RivetedSisters$Futures" am_F2 7 am_Y2 prog_4_method_1_code 1 [.null, .null, .int 0, .long 0, .long 0, .int 0, .int 0] := ⟨rfl, am_cl_2.1, by decide +kernel, fun j hj => by rcases (show j = 0 ∨ j = 1 ∨ j = 2 ∨ j = 3 ∨ j = 4 ∨ j = 5 ∨ j = 6 by omega) with rfl | rfl | rfl | rfl | rfl | rfl | rfl <;> rfl, cw_28, cw_29, cw_30, cw_31, by decide +kernel, by decide +kernel, rfl⟩
theorem cK_7 : cn_K 7 "RivetedSisters$Valley" am_F7 4 am_Y7 prog_10_method_1_code 1 [.null, .null, .null, .int 0] := ⟨rfl, am_cl_7.1, by decide +kernel, fun j hj => by rcases (show j = 0 ∨ j = 1 ∨ j = 2 ∨ j = 3 by omega) with rfl | rfl | rfl | rfl <;> rfl, cw_32, cw_33, cw_34, cw_35, by decide +kernel, by decide +kernel, rfl⟩
theorem cK_4 : cn_K 4 "RivetedSisters$Past" am_F4 3 am_Y4 prog_7_method_1_code 2 [.null, .int 0, .int 0] := ⟨rfl, am_cl_4.1, by decide +kernel, fun j hj => by rcases (show j = 0 ∨ j = 1 ∨ j = 2 by omega) with rfl | rfl | rfl <;> rfl, cw_36, cw_37, cw_38, cw_39, by decide +kernel, by decide +kernel, rfl⟩
theorem cK_10 : cn_K 10 "RivetedSisters" am_F10 12 am_Y10 prog_1_method_1_code 1 [.null, .null, .int 0, .null, .null, .null, .null, .null, .null, .null, .null, .null] := ⟨rfl, am_cl_10.1, by decide +kernel, fun j hj => by rcases (show j = 0 ∨ j = 1 ∨ j = 2 ∨ j = 3 ∨ j = 4 ∨ j = 5 ∨ j = 6 ∨ j = 7 ∨ j = 8 ∨ j = 9 ∨ j = 10 ∨ j = 11 by omega) with rfl | rfl | rfl | rfl | rfl | rfl | rfl | rfl | rfl | rfl | rfl | rfl <;> rfl, cw_40, cw_41, cw_42, cw_43, by decide +kernel, by decide +kernel, rfl⟩
theorem cK_11 : cn_K 11 "RivetedSistersModel" am_F11 28 am_Y11 prog_14_method_1_code 1 [.null, .null, .null, .null, .null, .int 0, .int 0, .int 0, .int 0, .null, .null, .null, .null, .int 0, .int 0, .int 0, .null, .int 0, .int 0, .int 0, .int 0, .null, .int 0, .null, .int 0, .null, .null, .int 0] := ⟨rfl, am_cl_11.1, by decide +kernel, fun j hj => by rcases (show j = 0 ∨ j = 1 ∨ j = 2 ∨ j = 3 ∨ j = 4 ∨ j = 5 ∨ j = 6 ∨ j = 7 ∨ j = 8 ∨ j = 9 ∨ j = 10 ∨ j = 11 ∨ j = 12 ∨ j = 13 ∨ j = 14 ∨ j = 15 ∨ j = 16 ∨ j = 17 ∨ j = 18 ∨ j = 19 ∨ j = 20 ∨ j = 21 ∨ j = 22 ∨ j = 23 ∨ j = 24 ∨ j = 25 ∨ j = 26 ∨ j = 27 by omega) with rfl | rfl | rfl | rfl | rfl | rfl | rfl | rfl | rfl | rfl | rfl | rfl | rfl | rfl | rfl | rfl | rfl | rfl | rfl | rfl | rfl | rfl | rfl | rfl | rfl | rfl | rfl | rfl <;> rfl, cw_44, cw_45, cw_46, cw_47, by decide +kernel, by decide +kernel, rfl⟩
def cl_cb (k : Nat) (c : AC) : Bool := match c with
  | .inl _ => true
  | .inr (.inl _) => false
  | .inr (.inr q) => q.2.all (fun v => match v with | .ref a => Nat.blt a k | _ => true)
def cl_ck (J : AH) : Bool := J.all (cl_cb J.length)
theorem cl_cb_c {k : Nat} : ∀ {c : AC}, cl_cb k c = true → cl_c k c
  | .inl _, _ => trivial
  | .inr (.inl _), h => by cases h
  | .inr (.inr q), h => fun v hv => by
    have h1 := List.all_eq_true.mp h v hv
    cases v with
    | ref a => exact Nat.le_of_ble_eq_true h1
    | _ => trivial
theorem cl_ck_h {J : AH} (h : cl_ck J = true) : cl_h J.length J := fun c hc => cl_cb_c (List.all_eq_true.mp h c hc)
