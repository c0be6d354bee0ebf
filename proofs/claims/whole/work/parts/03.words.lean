def GW : List Cond := lw_tbl.filter goodWord
theorem GW_good {w : Cond} (h : w ∈ GW) : (w.onTables && w.keeps) = true ∨ ∃ ty, w = .arrayClass ty := good_of_word (List.mem_filter.mp h).2
theorem GW_tbl {w : Cond} (h : w ∈ GW) : w ∈ lw_tbl := (List.mem_filter.mp h).1
theorem gw_1 {i : Nat} {w : Cond} (h : tables_1_1[i]? = some w) (hg : goodWord w = true) : w ∈ GW := List.mem_filter.mpr ⟨List.mem_append_right _ (show w ∈ tables_1 from List.mem_append_left _ (List.mem_of_getElem? h)), hg⟩
theorem gw_2 {i : Nat} {w : Cond} (h : tables_1_2[i]? = some w) (hg : goodWord w = true) : w ∈ GW := List.mem_filter.mpr ⟨List.mem_append_right _ (show w ∈ tables_1 from List.mem_append_right _ (List.mem_append_left _ (List.mem_of_getElem? h))), hg⟩
theorem gw_3 {i : Nat} {w : Cond} (h : tables_1_3[i]? = some w) (hg : goodWord w = true) : w ∈ GW := List.mem_filter.mpr ⟨List.mem_append_right _ (show w ∈ tables_1 from List.mem_append_right _ (List.mem_append_right _ (List.mem_append_left _ (List.mem_of_getElem? h)))), hg⟩
theorem gw_4 {i : Nat} {w : Cond} (h : tables_1_4[i]? = some w) (hg : goodWord w = true) : w ∈ GW := List.mem_filter.mpr ⟨List.mem_append_right _ (show w ∈ tables_1 from List.mem_append_right _ (List.mem_append_right _ (List.mem_append_right _ (List.mem_append_left _ (List.mem_of_getElem? h))))), hg⟩
theorem gw_5 {i : Nat} {w : Cond} (h : tables_1_5[i]? = some w) (hg : goodWord w = true) : w ∈ GW := List.mem_filter.mpr ⟨List.mem_append_right _ (show w ∈ tables_1 from List.mem_append_right _ (List.mem_append_right _ (List.mem_append_right _ (List.mem_append_right _ (List.mem_append_left _ (List.mem_of_getElem? h)))))), hg⟩
theorem gw_6 {i : Nat} {w : Cond} (h : tables_1_6[i]? = some w) (hg : goodWord w = true) : w ∈ GW := List.mem_filter.mpr ⟨List.mem_append_right _ (show w ∈ tables_1 from List.mem_append_right _ (List.mem_append_right _ (List.mem_append_right _ (List.mem_append_right _ (List.mem_append_right _ (List.mem_append_left _ (List.mem_of_getElem? h))))))), hg⟩
theorem gw_7 {i : Nat} {w : Cond} (h : tables_1_7[i]? = some w) (hg : goodWord w = true) : w ∈ GW := List.mem_filter.mpr ⟨List.mem_append_right _ (show w ∈ tables_1 from List.mem_append_right _ (List.mem_append_right _ (List.mem_append_right _ (List.mem_append_right _ (List.mem_append_right _ (List.mem_append_right _ (List.mem_of_getElem? h))))))), hg⟩
theorem gp_1 {i n : Nat} {y : MethodName} (h : lw_privs_1[i]? = some (y, n)) : Cond.selects y.cls y y ∈ GW := List.mem_filter.mpr ⟨List.mem_append_left _ (List.mem_map.mpr ⟨(y, n), (show (y, n) ∈ lw_privs from List.mem_append_left _ (List.mem_of_getElem? h)), rfl⟩), rfl⟩
theorem gp_2 {i n : Nat} {y : MethodName} (h : lw_privs_2[i]? = some (y, n)) : Cond.selects y.cls y y ∈ GW := List.mem_filter.mpr ⟨List.mem_append_left _ (List.mem_map.mpr ⟨(y, n), (show (y, n) ∈ lw_privs from List.mem_append_right _ (List.mem_append_left _ (List.mem_of_getElem? h))), rfl⟩), rfl⟩
theorem gp_3 {i n : Nat} {y : MethodName} (h : lw_privs_3[i]? = some (y, n)) : Cond.selects y.cls y y ∈ GW := List.mem_filter.mpr ⟨List.mem_append_left _ (List.mem_map.mpr ⟨(y, n), (show (y, n) ∈ lw_privs from List.mem_append_right _ (List.mem_append_right _ (List.mem_append_left _ (List.mem_of_getElem? h)))), rfl⟩), rfl⟩
theorem gp_4 {i n : Nat} {y : MethodName} (h : lw_privs_4[i]? = some (y, n)) : Cond.selects y.cls y y ∈ GW := List.mem_filter.mpr ⟨List.mem_append_left _ (List.mem_map.mpr ⟨(y, n), (show (y, n) ∈ lw_privs from List.mem_append_right _ (List.mem_append_right _ (List.mem_append_right _ (List.mem_append_left _ (List.mem_of_getElem? h))))), rfl⟩), rfl⟩
theorem gp_5 {i n : Nat} {y : MethodName} (h : lw_privs_5[i]? = some (y, n)) : Cond.selects y.cls y y ∈ GW := List.mem_filter.mpr ⟨List.mem_append_left _ (List.mem_map.mpr ⟨(y, n), (show (y, n) ∈ lw_privs from List.mem_append_right _ (List.mem_append_right _ (List.mem_append_right _ (List.mem_append_right _ (List.mem_append_left _ (List.mem_of_getElem? h)))))), rfl⟩), rfl⟩
theorem gp_6 {i n : Nat} {y : MethodName} (h : lw_privs_6[i]? = some (y, n)) : Cond.selects y.cls y y ∈ GW := List.mem_filter.mpr ⟨List.mem_append_left _ (List.mem_map.mpr ⟨(y, n), (show (y, n) ∈ lw_privs from List.mem_append_right _ (List.mem_append_right _ (List.mem_append_right _ (List.mem_append_right _ (List.mem_append_right _ (List.mem_of_getElem? h)))))), rfl⟩), rfl⟩
theorem ini_ElderPapersLaw : (.initialized "ElderPapersLaw" : Cond) ∈ GW := gw_1 (i := 0) rfl rfl
theorem ini_X8 : (.initialized RX8 : Cond) ∈ GW := gw_1 (i := 1) rfl rfl
theorem ini_X0 : (.initialized RX0 : Cond) ∈ GW := gw_1 (i := 2) rfl rfl
theorem ini_X5 : (.initialized RX5 : Cond) ∈ GW := gw_1 (i := 3) rfl rfl
theorem ini_J9 : (.initialized RJ9 : Cond) ∈ GW := gw_1 (i := 4) rfl rfl
theorem ini_X2 : (.initialized RX2 : Cond) ∈ GW := gw_1 (i := 5) rfl rfl
theorem ini_X1 : (.initialized RX1 : Cond) ∈ GW := gw_1 (i := 6) rfl rfl
theorem ini_X3 : (.initialized RX3 : Cond) ∈ GW := gw_1 (i := 7) rfl rfl
theorem ini_X7 : (.initialized RX7 : Cond) ∈ GW := gw_1 (i := 8) rfl rfl
theorem ini_X4 : (.initialized RX4 : Cond) ∈ GW := gw_1 (i := 9) rfl rfl
theorem ini_X6 : (.initialized RX6 : Cond) ∈ GW := gw_1 (i := 10) rfl rfl
theorem ini_X9 : (.initialized RX9 : Cond) ∈ GW := gw_1 (i := 11) rfl rfl
theorem ini_J6 : (.initialized RJ6 : Cond) ∈ GW := gw_1 (i := 12) rfl rfl
theorem ini_J0 : (.initialized RJ0 : Cond) ∈ GW := gw_1 (i := 13) rfl rfl
theorem ini_J1 : (.initialized RJ1 : Cond) ∈ GW := gw_1 (i := 14) rfl rfl
theorem ini_J3 : (.initialized RJ3 : Cond) ∈ GW := gw_1 (i := 15) rfl rfl
theorem ini_J2 : (.initialized RJ2 : Cond) ∈ GW := gw_1 (i := 16) rfl rfl
theorem ini_J10 : (.initialized RJ10 : Cond) ∈ GW := gw_1 (i := 17) rfl rfl
theorem ini_J7 : (.initialized RJ7 : Cond) ∈ GW := gw_1 (i := 18) rfl rfl
theorem cl_ElderPapersLaw_7 : (.classLink "ElderPapersLaw" 7 RX8 : Cond) ∈ GW := gw_1 (i := 19) rfl rfl
theorem ib_X8 : (.instantiable RX8 11 : Cond) ∈ GW := gw_1 (i := 20) rfl rfl
theorem ml_L_9 : (.methodLink "ElderPapersLaw" 9 yX8_init : Cond) ∈ GW := gw_1 (i := 21) rfl rfl
theorem im_X8_init : (.instanceMethod yX8_init : Cond) ∈ GW := gw_1 (i := 22) rfl rfl
theorem cd_X8_init : (.code yX8_init cX8_init 2 none : Cond) ∈ GW := gw_1 (i := 23) rfl rfl
theorem ml_X8_1 : (.methodLink RX8 1 objectInit : Cond) ∈ GW := gw_1 (i := 24) rfl rfl
theorem im_objectInit : (.instanceMethod objectInit : Cond) ∈ GW := gw_1 (i := 25) rfl rfl
theorem cd_objectInit : (.code objectInit ⟨#[0xb1]⟩ 1 none : Cond) ∈ GW := gw_1 (i := 26) rfl rfl
theorem cl_X8_7 : (.classLink RX8 7 RX0 : Cond) ∈ GW := gw_1 (i := 27) rfl rfl
theorem ib_X0 : (.instantiable RX0 8 : Cond) ∈ GW := gw_1 (i := 28) rfl rfl
theorem ml_X8_9 : (.methodLink RX8 9 yX0_init : Cond) ∈ GW := gw_1 (i := 29) rfl rfl
theorem im_X0_init : (.instanceMethod yX0_init : Cond) ∈ GW := gw_1 (i := 30) rfl rfl
theorem cd_X0_init : (.code yX0_init cX0_init 2 none : Cond) ∈ GW := gw_1 (i := 31) rfl rfl
theorem ml_X0_3 : (.methodLink RX0 3 objectInit : Cond) ∈ GW := gw_1 (i := 32) rfl rfl
theorem cl_X0_9 : (.classLink RX0 9 RX5 : Cond) ∈ GW := gw_1 (i := 33) rfl rfl
theorem ib_X5 : (.instantiable RX5 4 : Cond) ∈ GW := gw_1 (i := 34) rfl rfl
theorem ml_X0_11 : (.methodLink RX0 11 yX5_init : Cond) ∈ GW := gw_1 (i := 35) rfl rfl
theorem im_X5_init : (.instanceMethod yX5_init : Cond) ∈ GW := gw_1 (i := 36) rfl rfl
theorem cd_X5_init : (.code yX5_init cX5_init 3 none : Cond) ∈ GW := gw_1 (i := 37) rfl rfl
theorem ml_X5_3 : (.methodLink RX5 3 objectInit : Cond) ∈ GW := gw_1 (i := 38) rfl rfl
theorem ml_X5_15 : (.methodLink RX5 15 yJ9_max_7cf53 : Cond) ∈ GW := gw_1 (i := 39) rfl rfl
theorem sm_J9_max_7cf53 : (.static yJ9_max_7cf53 : Cond) ∈ GW := gw_1 (i := 40) rfl rfl
theorem cd_J9_max_7cf53 : (.code yJ9_max_7cf53 cJ9_max_7cf53 2 (some .int) : Cond) ∈ GW := gw_1 (i := 41) rfl rfl
theorem fl_X5_21 : (.fieldLink RX5 21 "ElderPapers$Table" "width" "I" : Cond) ∈ GW := gw_1 (i := 42) rfl rfl
theorem fl_X5_24 : (.fieldLink RX5 24 "ElderPapers$Table" "most" "I" : Cond) ∈ GW := gw_1 (i := 43) rfl rfl
theorem fl_X5_27 : (.fieldLink RX5 27 "ElderPapers$Table" "cells" "[I" : Cond) ∈ GW := gw_1 (i := 44) rfl rfl
theorem fl_X5_9 : (.fieldLink RX5 9 "ElderPapers$Table" "count" "I" : Cond) ∈ GW := gw_1 (i := 45) rfl rfl
theorem fl_X2_39 : (.fieldLink RX2 39 "ElderPapers$Table" "count" "I" : Cond) ∈ GW := gw_1 (i := 46) rfl rfl
theorem fl_X1_59 : (.fieldLink RX1 59 "ElderPapers$Table" "count" "I" : Cond) ∈ GW := gw_1 (i := 47) rfl rfl
theorem fl_X0_71 : (.fieldLink RX0 71 "ElderPapers$Table" "count" "I" : Cond) ∈ GW := gw_1 (i := 48) rfl rfl
theorem fl_X7_160 : (.fieldLink RX7 160 "ElderPapers$Table" "count" "I" : Cond) ∈ GW := gw_1 (i := 49) rfl rfl
theorem fl_X8_228 : (.fieldLink RX8 228 "ElderPapers$Table" "count" "I" : Cond) ∈ GW := gw_1 (i := 50) rfl rfl
theorem ly_X5_width : (.laysFinal RX5 "ElderPapers$Table" "width" "I" : Cond) ∈ GW := gw_1 (i := 51) rfl rfl
theorem ly_X5_most : (.laysFinal RX5 "ElderPapers$Table" "most" "I" : Cond) ∈ GW := gw_1 (i := 53) rfl rfl
theorem ly_X5_cells : (.laysFinal RX5 "ElderPapers$Table" "cells" "[I" : Cond) ∈ GW := gw_1 (i := 55) rfl rfl
theorem ly_X5_count : (.lays RX5 "ElderPapers$Table" "count" "I" : Cond) ∈ GW := gw_1 (i := 57) rfl rfl
theorem ac_int : (.arrayClass .int : Cond) ∈ GW := gw_1 (i := 60) rfl rfl
theorem ml_X0_42 : (.methodLink RX0 42 yX5_add : Cond) ∈ GW := gw_1 (i := 61) rfl rfl
theorem im_X5_add : (.instanceMethod yX5_add : Cond) ∈ GW := gw_1 (i := 62) rfl rfl
theorem sl_X5_add : (.selects RX5 yX5_add yX5_add : Cond) ∈ GW := gw_1 (i := 63) rfl rfl
theorem cd_X5_add : (.code yX5_add cX5_add 3 (some .int) : Cond) ∈ GW := gw_1 (i := 64) rfl rfl
theorem ml_X0_46 : (.methodLink RX0 46 yX5_set : Cond) ∈ GW := gw_1 (i := 65) rfl rfl
theorem im_X5_set : (.instanceMethod yX5_set : Cond) ∈ GW := gw_1 (i := 66) rfl rfl
theorem sl_X5_set : (.selects RX5 yX5_set yX5_set : Cond) ∈ GW := gw_1 (i := 67) rfl rfl
theorem cd_X5_set : (.code yX5_set cX5_set 5 none : Cond) ∈ GW := gw_1 (i := 68) rfl rfl
theorem fl_X0_14 : (.fieldLink RX0 14 "ElderPapers$Book" "persons" "LElderPapers$Table;" : Cond) ∈ GW := gw_1 (i := 69) rfl rfl
theorem fl_X8_95 : (.fieldLink RX8 95 "ElderPapers$Book" "persons" "LElderPapers$Table;" : Cond) ∈ GW := gw_1 (i := 70) rfl rfl
theorem fl_X1_79 : (.fieldLink RX1 79 "ElderPapers$Book" "persons" "LElderPapers$Table;" : Cond) ∈ GW := gw_1 (i := 71) rfl rfl
theorem fl_X0_20 : (.fieldLink RX0 20 "ElderPapers$Book" "papers" "LElderPapers$Table;" : Cond) ∈ GW := gw_1 (i := 72) rfl rfl
theorem fl_X2_35 : (.fieldLink RX2 35 "ElderPapers$Book" "papers" "LElderPapers$Table;" : Cond) ∈ GW := gw_1 (i := 73) rfl rfl
theorem fl_X1_82 : (.fieldLink RX1 82 "ElderPapers$Book" "papers" "LElderPapers$Table;" : Cond) ∈ GW := gw_1 (i := 74) rfl rfl
theorem fl_X8_122 : (.fieldLink RX8 122 "ElderPapers$Book" "papers" "LElderPapers$Table;" : Cond) ∈ GW := gw_1 (i := 75) rfl rfl
theorem fl_X0_23 : (.fieldLink RX0 23 "ElderPapers$Book" "life" "LElderPapers$Table;" : Cond) ∈ GW := gw_1 (i := 76) rfl rfl
theorem fl_X2_57 : (.fieldLink RX2 57 "ElderPapers$Book" "life" "LElderPapers$Table;" : Cond) ∈ GW := gw_1 (i := 77) rfl rfl
theorem fl_X8_139 : (.fieldLink RX8 139 "ElderPapers$Book" "life" "LElderPapers$Table;" : Cond) ∈ GW := gw_1 (i := 78) rfl rfl
theorem fl_X0_26 : (.fieldLink RX0 26 "ElderPapers$Book" "draws" "LElderPapers$Table;" : Cond) ∈ GW := gw_1 (i := 79) rfl rfl
theorem fl_X8_237 : (.fieldLink RX8 237 "ElderPapers$Book" "draws" "LElderPapers$Table;" : Cond) ∈ GW := gw_1 (i := 80) rfl rfl
theorem fl_X0_29 : (.fieldLink RX0 29 "ElderPapers$Book" "questions" "LElderPapers$Table;" : Cond) ∈ GW := gw_1 (i := 81) rfl rfl
theorem fl_X8_258 : (.fieldLink RX8 258 "ElderPapers$Book" "questions" "LElderPapers$Table;" : Cond) ∈ GW := gw_1 (i := 82) rfl rfl
theorem fl_X0_32 : (.fieldLink RX0 32 "ElderPapers$Book" "clauses" "LElderPapers$Table;" : Cond) ∈ GW := gw_1 (i := 83) rfl rfl
theorem fl_X1_37 : (.fieldLink RX1 37 "ElderPapers$Book" "clauses" "LElderPapers$Table;" : Cond) ∈ GW := gw_1 (i := 84) rfl rfl
theorem fl_X8_216 : (.fieldLink RX8 216 "ElderPapers$Book" "clauses" "LElderPapers$Table;" : Cond) ∈ GW := gw_1 (i := 85) rfl rfl
theorem fl_X0_35 : (.fieldLink RX0 35 "ElderPapers$Book" "steps" "LElderPapers$Table;" : Cond) ∈ GW := gw_1 (i := 86) rfl rfl
theorem fl_X1_97 : (.fieldLink RX1 97 "ElderPapers$Book" "steps" "LElderPapers$Table;" : Cond) ∈ GW := gw_1 (i := 87) rfl rfl
theorem fl_X8_224 : (.fieldLink RX8 224 "ElderPapers$Book" "steps" "LElderPapers$Table;" : Cond) ∈ GW := gw_1 (i := 88) rfl rfl
theorem fl_X0_38 : (.fieldLink RX0 38 "ElderPapers$Book" "restsTold" "I" : Cond) ∈ GW := gw_1 (i := 89) rfl rfl
theorem fl_X8_191 : (.fieldLink RX8 191 "ElderPapers$Book" "restsTold" "I" : Cond) ∈ GW := gw_1 (i := 90) rfl rfl
theorem ly_X0_persons : (.laysFinal RX0 "ElderPapers$Book" "persons" "LElderPapers$Table;" : Cond) ∈ GW := gw_1 (i := 91) rfl rfl
theorem ly_X0_papers : (.laysFinal RX0 "ElderPapers$Book" "papers" "LElderPapers$Table;" : Cond) ∈ GW := gw_1 (i := 93) rfl rfl
theorem ly_X0_life : (.laysFinal RX0 "ElderPapers$Book" "life" "LElderPapers$Table;" : Cond) ∈ GW := gw_1 (i := 95) rfl rfl
theorem ly_X0_draws : (.laysFinal RX0 "ElderPapers$Book" "draws" "LElderPapers$Table;" : Cond) ∈ GW := gw_1 (i := 97) rfl rfl
theorem ly_X0_questions : (.laysFinal RX0 "ElderPapers$Book" "questions" "LElderPapers$Table;" : Cond) ∈ GW := gw_1 (i := 99) rfl rfl
theorem ly_X0_clauses : (.laysFinal RX0 "ElderPapers$Book" "clauses" "LElderPapers$Table;" : Cond) ∈ GW := gw_1 (i := 101) rfl rfl
theorem ly_X0_steps : (.laysFinal RX0 "ElderPapers$Book" "steps" "LElderPapers$Table;" : Cond) ∈ GW := gw_1 (i := 103) rfl rfl
theorem ly_X0_restsTold : (.lays RX0 "ElderPapers$Book" "restsTold" "I" : Cond) ∈ GW := gw_1 (i := 105) rfl rfl
theorem cl_X8_23 : (.classLink RX8 23 RX2 : Cond) ∈ GW := gw_1 (i := 108) rfl rfl
theorem ib_X2 : (.instantiable RX2 4 : Cond) ∈ GW := gw_1 (i := 109) rfl rfl
theorem im_X2_init : (.instanceMethod yX2_init : Cond) ∈ GW := gw_1 (i := 111) rfl rfl
theorem cd_X2_init : (.code yX2_init cX2_init 1 none : Cond) ∈ GW := gw_1 (i := 112) rfl rfl
theorem ml_X2_3 : (.methodLink RX2 3 objectInit : Cond) ∈ GW := gw_1 (i := 113) rfl rfl
theorem fl_X2_9 : (.fieldLink RX2 9 "ElderPapers$Odds" "weights" "[J" : Cond) ∈ GW := gw_1 (i := 114) rfl rfl
theorem fl_X2_15 : (.fieldLink RX2 15 "ElderPapers$Odds" "seen" "I" : Cond) ∈ GW := gw_1 (i := 115) rfl rfl
theorem fl_X1_128 : (.fieldLink RX1 128 "ElderPapers$Odds" "seen" "I" : Cond) ∈ GW := gw_1 (i := 116) rfl rfl
theorem fl_X2_19 : (.fieldLink RX2 19 "ElderPapers$Odds" "total" "J" : Cond) ∈ GW := gw_1 (i := 117) rfl rfl
theorem fl_X8_158 : (.fieldLink RX8 158 "ElderPapers$Odds" "total" "J" : Cond) ∈ GW := gw_1 (i := 118) rfl rfl
theorem fl_X2_23 : (.fieldLink RX2 23 "ElderPapers$Odds" "bestYear" "I" : Cond) ∈ GW := gw_1 (i := 119) rfl rfl
theorem fl_X1_84 : (.fieldLink RX1 84 "ElderPapers$Odds" "bestYear" "I" : Cond) ∈ GW := gw_1 (i := 120) rfl rfl
theorem fl_X8_162 : (.fieldLink RX8 162 "ElderPapers$Odds" "bestYear" "I" : Cond) ∈ GW := gw_1 (i := 121) rfl rfl
theorem ly_X2_weights : (.laysFinal RX2 "ElderPapers$Odds" "weights" "[J" : Cond) ∈ GW := gw_1 (i := 122) rfl rfl
theorem ly_X2_seen : (.lays RX2 "ElderPapers$Odds" "seen" "I" : Cond) ∈ GW := gw_1 (i := 124) rfl rfl
theorem ly_X2_total : (.lays RX2 "ElderPapers$Odds" "total" "J" : Cond) ∈ GW := gw_1 (i := 126) rfl rfl
theorem ly_X2_bestYear : (.lays RX2 "ElderPapers$Odds" "bestYear" "I" : Cond) ∈ GW := gw_1 (i := 128) rfl rfl
theorem ac_long : (.arrayClass .long : Cond) ∈ GW := gw_1 (i := 131) rfl rfl
theorem cl_X8_30 : (.classLink RX8 30 RX1 : Cond) ∈ GW := gw_1 (i := 132) rfl rfl
theorem ib_X1 : (.instantiable RX1 5 : Cond) ∈ GW := gw_1 (i := 133) rfl rfl
theorem im_X1_init : (.instanceMethod yX1_init : Cond) ∈ GW := gw_1 (i := 135) rfl rfl
theorem cd_X1_init : (.code yX1_init cX1_init 1 none : Cond) ∈ GW := gw_1 (i := 136) rfl rfl
theorem ml_X1_3 : (.methodLink RX1 3 objectInit : Cond) ∈ GW := gw_1 (i := 137) rfl rfl
theorem cl_X1_9 : (.classLink RX1 9 RX3 : Cond) ∈ GW := gw_1 (i := 138) rfl rfl
theorem ib_X3 : (.instantiable RX3 2 : Cond) ∈ GW := gw_1 (i := 139) rfl rfl
theorem ml_X1_11 : (.methodLink RX1 11 yX3_init : Cond) ∈ GW := gw_1 (i := 140) rfl rfl
theorem im_X3_init : (.instanceMethod yX3_init : Cond) ∈ GW := gw_1 (i := 141) rfl rfl
theorem cd_X3_init : (.code yX3_init cX3_init 2 none : Cond) ∈ GW := gw_1 (i := 142) rfl rfl
theorem ml_X3_1 : (.methodLink RX3 1 objectInit : Cond) ∈ GW := gw_1 (i := 143) rfl rfl
theorem ml_X3_13 : (.methodLink RX3 13 yJ9_max_7cf53 : Cond) ∈ GW := gw_1 (i := 144) rfl rfl
theorem fl_X3_19 : (.fieldLink RX3 19 "ElderPapers$Pile" "numbers" "[I" : Cond) ∈ GW := gw_1 (i := 145) rfl rfl
theorem fl_X3_7 : (.fieldLink RX3 7 "ElderPapers$Pile" "count" "I" : Cond) ∈ GW := gw_1 (i := 146) rfl rfl
theorem fl_X7_76 : (.fieldLink RX7 76 "ElderPapers$Pile" "count" "I" : Cond) ∈ GW := gw_1 (i := 147) rfl rfl
theorem fl_X8_203 : (.fieldLink RX8 203 "ElderPapers$Pile" "count" "I" : Cond) ∈ GW := gw_1 (i := 148) rfl rfl
theorem ly_X3_numbers : (.laysFinal RX3 "ElderPapers$Pile" "numbers" "[I" : Cond) ∈ GW := gw_1 (i := 149) rfl rfl
theorem ly_X3_count : (.lays RX3 "ElderPapers$Pile" "count" "I" : Cond) ∈ GW := gw_1 (i := 151) rfl rfl
theorem fl_X1_14 : (.fieldLink RX1 14 "ElderPapers$Judge" "truths" "LElderPapers$Pile;" : Cond) ∈ GW := gw_1 (i := 154) rfl rfl
theorem fl_X1_20 : (.fieldLink RX1 20 "ElderPapers$Judge" "papers" "I" : Cond) ∈ GW := gw_1 (i := 155) rfl rfl
theorem fl_X1_24 : (.fieldLink RX1 24 "ElderPapers$Judge" "stands" "I" : Cond) ∈ GW := gw_1 (i := 156) rfl rfl
theorem fl_X1_27 : (.fieldLink RX1 27 "ElderPapers$Judge" "house" "I" : Cond) ∈ GW := gw_1 (i := 157) rfl rfl
theorem fl_X1_30 : (.fieldLink RX1 30 "ElderPapers$Judge" "missed" "I" : Cond) ∈ GW := gw_1 (i := 158) rfl rfl
theorem ly_X1_truths : (.laysFinal RX1 "ElderPapers$Judge" "truths" "LElderPapers$Pile;" : Cond) ∈ GW := gw_1 (i := 159) rfl rfl
theorem ly_X1_papers : (.lays RX1 "ElderPapers$Judge" "papers" "I" : Cond) ∈ GW := gw_1 (i := 161) rfl rfl
theorem ly_X1_stands : (.lays RX1 "ElderPapers$Judge" "stands" "I" : Cond) ∈ GW := gw_1 (i := 163) rfl rfl
theorem ly_X1_house : (.lays RX1 "ElderPapers$Judge" "house" "I" : Cond) ∈ GW := gw_1 (i := 165) rfl rfl
theorem ly_X1_missed : (.lays RX1 "ElderPapers$Judge" "missed" "I" : Cond) ∈ GW := gw_1 (i := 167) rfl rfl
theorem cl_X8_37 : (.classLink RX8 37 RX7 : Cond) ∈ GW := gw_1 (i := 170) rfl rfl
theorem ib_X7 : (.instantiable RX7 11 : Cond) ∈ GW := gw_1 (i := 171) rfl rfl
theorem im_X7_init : (.instanceMethod yX7_init : Cond) ∈ GW := gw_1 (i := 173) rfl rfl
theorem cd_X7_init : (.code yX7_init cX7_init 1 none : Cond) ∈ GW := gw_1 (i := 174) rfl rfl
theorem ml_X7_3 : (.methodLink RX7 3 objectInit : Cond) ∈ GW := gw_1 (i := 175) rfl rfl
theorem cl_X7_9 : (.classLink RX7 9 RX5 : Cond) ∈ GW := gw_1 (i := 176) rfl rfl
theorem ml_X7_11 : (.methodLink RX7 11 yX5_init : Cond) ∈ GW := gw_1 (i := 177) rfl rfl
theorem cl_X7_23 : (.classLink RX7 23 RX3 : Cond) ∈ GW := gw_1 (i := 178) rfl rfl
theorem ml_X7_25 : (.methodLink RX7 25 yX3_init : Cond) ∈ GW := gw_1 (i := 179) rfl rfl
theorem fl_X7_14 : (.fieldLink RX7 14 "ElderPapers$WayReader" "clauses" "LElderPapers$Table;" : Cond) ∈ GW := gw_1 (i := 180) rfl rfl
theorem fl_X8_219 : (.fieldLink RX8 219 "ElderPapers$WayReader" "clauses" "LElderPapers$Table;" : Cond) ∈ GW := gw_1 (i := 181) rfl rfl
theorem fl_X7_20 : (.fieldLink RX7 20 "ElderPapers$WayReader" "steps" "LElderPapers$Table;" : Cond) ∈ GW := gw_1 (i := 182) rfl rfl
theorem fl_X8_227 : (.fieldLink RX8 227 "ElderPapers$WayReader" "steps" "LElderPapers$Table;" : Cond) ∈ GW := gw_1 (i := 183) rfl rfl
theorem fl_X7_28 : (.fieldLink RX7 28 "ElderPapers$WayReader" "waiting" "LElderPapers$Pile;" : Cond) ∈ GW := gw_1 (i := 184) rfl rfl
theorem fl_X7_32 : (.fieldLink RX7 32 "ElderPapers$WayReader" "tape" "LElderPapers$Pile;" : Cond) ∈ GW := gw_1 (i := 185) rfl rfl
theorem fl_X7_35 : (.fieldLink RX7 35 "ElderPapers$WayReader" "first" "I" : Cond) ∈ GW := gw_1 (i := 186) rfl rfl
theorem fl_X7_39 : (.fieldLink RX7 39 "ElderPapers$WayReader" "behind" "I" : Cond) ∈ GW := gw_1 (i := 187) rfl rfl
theorem fl_X7_42 : (.fieldLink RX7 42 "ElderPapers$WayReader" "number" "I" : Cond) ∈ GW := gw_1 (i := 188) rfl rfl
theorem fl_X7_45 : (.fieldLink RX7 45 "ElderPapers$WayReader" "state" "I" : Cond) ∈ GW := gw_1 (i := 189) rfl rfl
theorem fl_X7_48 : (.fieldLink RX7 48 "ElderPapers$WayReader" "open" "I" : Cond) ∈ GW := gw_1 (i := 190) rfl rfl
theorem fl_X7_51 : (.fieldLink RX7 51 "ElderPapers$WayReader" "left" "I" : Cond) ∈ GW := gw_1 (i := 191) rfl rfl
theorem fl_X7_54 : (.fieldLink RX7 54 "ElderPapers$WayReader" "sign" "I" : Cond) ∈ GW := gw_1 (i := 192) rfl rfl
theorem ly_X7_clauses : (.laysFinal RX7 "ElderPapers$WayReader" "clauses" "LElderPapers$Table;" : Cond) ∈ GW := gw_1 (i := 193) rfl rfl
theorem ly_X7_steps : (.laysFinal RX7 "ElderPapers$WayReader" "steps" "LElderPapers$Table;" : Cond) ∈ GW := gw_1 (i := 195) rfl rfl
theorem ly_X7_waiting : (.laysFinal RX7 "ElderPapers$WayReader" "waiting" "LElderPapers$Pile;" : Cond) ∈ GW := gw_1 (i := 197) rfl rfl
theorem ly_X7_tape : (.lays RX7 "ElderPapers$WayReader" "tape" "LElderPapers$Pile;" : Cond) ∈ GW := gw_1 (i := 199) rfl rfl
theorem ly_X7_first : (.lays RX7 "ElderPapers$WayReader" "first" "I" : Cond) ∈ GW := gw_1 (i := 201) rfl rfl
theorem ly_X7_behind : (.lays RX7 "ElderPapers$WayReader" "behind" "I" : Cond) ∈ GW := gw_1 (i := 203) rfl rfl
theorem ly_X7_number : (.lays RX7 "ElderPapers$WayReader" "number" "I" : Cond) ∈ GW := gw_1 (i := 205) rfl rfl
theorem ly_X7_state : (.lays RX7 "ElderPapers$WayReader" "state" "I" : Cond) ∈ GW := gw_1 (i := 207) rfl rfl
theorem ly_X7_open : (.lays RX7 "ElderPapers$WayReader" "open" "I" : Cond) ∈ GW := gw_1 (i := 209) rfl rfl
theorem ly_X7_left : (.lays RX7 "ElderPapers$WayReader" "left" "I" : Cond) ∈ GW := gw_1 (i := 211) rfl rfl
theorem ly_X7_sign : (.lays RX7 "ElderPapers$WayReader" "sign" "I" : Cond) ∈ GW := gw_1 (i := 213) rfl rfl
theorem cl_X8_44 : (.classLink RX8 44 RX3 : Cond) ∈ GW := gw_1 (i := 216) rfl rfl
theorem ml_X8_46 : (.methodLink RX8 46 yX3_init : Cond) ∈ GW := gw_1 (i := 217) rfl rfl
theorem cl_X8_53 : (.classLink RX8 53 RX5 : Cond) ∈ GW := gw_1 (i := 218) rfl rfl
theorem ml_X8_55 : (.methodLink RX8 55 yX5_init : Cond) ∈ GW := gw_1 (i := 219) rfl rfl
theorem cl_X8_62 : (.classLink RX8 62 RX4 : Cond) ∈ GW := gw_1 (i := 220) rfl rfl
theorem ib_X4 : (.instantiable RX4 3 : Cond) ∈ GW := gw_1 (i := 222) rfl rfl
theorem im_X4_init : (.instanceMethod yX4_init : Cond) ∈ GW := gw_1 (i := 224) rfl rfl
theorem cd_X4_init : (.code yX4_init cX4_init 1 none : Cond) ∈ GW := gw_1 (i := 225) rfl rfl
theorem ml_X4_3 : (.methodLink RX4 3 objectInit : Cond) ∈ GW := gw_1 (i := 226) rfl rfl
theorem fl_X4_9 : (.fieldLink RX4 9 "ElderPapers$Sheet" "items" "[I" : Cond) ∈ GW := gw_1 (i := 227) rfl rfl
theorem fl_X4_15 : (.fieldLink RX4 15 "ElderPapers$Sheet" "sort" "I" : Cond) ∈ GW := gw_1 (i := 228) rfl rfl
theorem fl_X8_279 : (.fieldLink RX8 279 "ElderPapers$Sheet" "sort" "I" : Cond) ∈ GW := gw_1 (i := 229) rfl rfl
theorem fl_X4_19 : (.fieldLink RX4 19 "ElderPapers$Sheet" "size" "I" : Cond) ∈ GW := gw_1 (i := 230) rfl rfl
theorem fl_X8_144 : (.fieldLink RX8 144 "ElderPapers$Sheet" "size" "I" : Cond) ∈ GW := gw_1 (i := 231) rfl rfl
theorem ly_X4_items : (.laysFinal RX4 "ElderPapers$Sheet" "items" "[I" : Cond) ∈ GW := gw_1 (i := 232) rfl rfl
theorem ly_X4_sort : (.lays RX4 "ElderPapers$Sheet" "sort" "I" : Cond) ∈ GW := gw_1 (i := 234) rfl rfl
theorem ly_X4_size : (.lays RX4 "ElderPapers$Sheet" "size" "I" : Cond) ∈ GW := gw_1 (i := 236) rfl rfl
theorem cl_X8_72 : (.classLink RX8 72 RX6 : Cond) ∈ GW := gw_1 (i := 239) rfl rfl
theorem ib_X6 : (.instantiable RX6 5 : Cond) ∈ GW := gw_2 (i := 0) rfl rfl
theorem im_X6_init : (.instanceMethod yX6_init : Cond) ∈ GW := gw_2 (i := 2) rfl rfl
theorem cd_X6_init : (.code yX6_init cX6_init 1 none : Cond) ∈ GW := gw_2 (i := 3) rfl rfl
theorem ml_X6_3 : (.methodLink RX6 3 objectInit : Cond) ∈ GW := gw_2 (i := 4) rfl rfl
theorem cl_X6_9 : (.classLink RX6 9 RX3 : Cond) ∈ GW := gw_2 (i := 5) rfl rfl
theorem ml_X6_11 : (.methodLink RX6 11 yX3_init : Cond) ∈ GW := gw_2 (i := 6) rfl rfl
theorem fl_X6_14 : (.fieldLink RX6 14 "ElderPapers$Thing" "trace" "LElderPapers$Pile;" : Cond) ∈ GW := gw_2 (i := 7) rfl rfl
theorem fl_X8_308 : (.fieldLink RX8 308 "ElderPapers$Thing" "trace" "LElderPapers$Pile;" : Cond) ∈ GW := gw_2 (i := 8) rfl rfl
theorem fl_X6_20 : (.fieldLink RX6 20 "ElderPapers$Thing" "kind" "I" : Cond) ∈ GW := gw_2 (i := 9) rfl rfl
theorem fl_X8_311 : (.fieldLink RX8 311 "ElderPapers$Thing" "kind" "I" : Cond) ∈ GW := gw_2 (i := 10) rfl rfl
theorem fl_X6_24 : (.fieldLink RX6 24 "ElderPapers$Thing" "n" "I" : Cond) ∈ GW := gw_2 (i := 11) rfl rfl
theorem fl_X8_314 : (.fieldLink RX8 314 "ElderPapers$Thing" "n" "I" : Cond) ∈ GW := gw_2 (i := 12) rfl rfl
theorem fl_X6_27 : (.fieldLink RX6 27 "ElderPapers$Thing" "a" "I" : Cond) ∈ GW := gw_2 (i := 13) rfl rfl
theorem fl_X8_317 : (.fieldLink RX8 317 "ElderPapers$Thing" "a" "I" : Cond) ∈ GW := gw_2 (i := 14) rfl rfl
theorem fl_X6_30 : (.fieldLink RX6 30 "ElderPapers$Thing" "isParted" "Z" : Cond) ∈ GW := gw_2 (i := 15) rfl rfl
theorem ly_X6_trace : (.laysFinal RX6 "ElderPapers$Thing" "trace" "LElderPapers$Pile;" : Cond) ∈ GW := gw_2 (i := 16) rfl rfl
theorem ly_X6_kind : (.lays RX6 "ElderPapers$Thing" "kind" "I" : Cond) ∈ GW := gw_2 (i := 18) rfl rfl
theorem ly_X6_n : (.lays RX6 "ElderPapers$Thing" "n" "I" : Cond) ∈ GW := gw_2 (i := 20) rfl rfl
theorem ly_X6_a : (.lays RX6 "ElderPapers$Thing" "a" "I" : Cond) ∈ GW := gw_2 (i := 22) rfl rfl
theorem ly_X6_isParted : (.lays RX6 "ElderPapers$Thing" "isParted" "Z" : Cond) ∈ GW := gw_2 (i := 24) rfl rfl
theorem ml_X8_79 : (.methodLink RX8 79 yX5_add : Cond) ∈ GW := gw_2 (i := 27) rfl rfl
theorem ml_X8_83 : (.methodLink RX8 83 yX5_set : Cond) ∈ GW := gw_2 (i := 28) rfl rfl
theorem fl_X8_10 : (.fieldLink RX8 10 "ElderPapers" "book" "LElderPapers$Book;" : Cond) ∈ GW := gw_2 (i := 29) rfl rfl
theorem fl_X8_16 : (.fieldLink RX8 16 "ElderPapers" "kept" "LElderPapers$Book;" : Cond) ∈ GW := gw_2 (i := 30) rfl rfl
theorem fl_X8_19 : (.fieldLink RX8 19 "ElderPapers" "hasKept" "Z" : Cond) ∈ GW := gw_2 (i := 31) rfl rfl
theorem fl_X8_26 : (.fieldLink RX8 26 "ElderPapers" "odds" "LElderPapers$Odds;" : Cond) ∈ GW := gw_2 (i := 32) rfl rfl
theorem fl_X8_33 : (.fieldLink RX8 33 "ElderPapers" "judge" "LElderPapers$Judge;" : Cond) ∈ GW := gw_2 (i := 33) rfl rfl
theorem fl_X8_40 : (.fieldLink RX8 40 "ElderPapers" "reader" "LElderPapers$WayReader;" : Cond) ∈ GW := gw_2 (i := 34) rfl rfl
theorem fl_X8_49 : (.fieldLink RX8 49 "ElderPapers" "tape" "LElderPapers$Pile;" : Cond) ∈ GW := gw_2 (i := 35) rfl rfl
theorem fl_X8_58 : (.fieldLink RX8 58 "ElderPapers" "rows" "LElderPapers$Table;" : Cond) ∈ GW := gw_2 (i := 36) rfl rfl
theorem fl_X8_65 : (.fieldLink RX8 65 "ElderPapers" "sheets" "[LElderPapers$Sheet;" : Cond) ∈ GW := gw_2 (i := 37) rfl rfl
theorem fl_X8_69 : (.fieldLink RX8 69 "ElderPapers" "shelves" "LElderPapers$Table;" : Cond) ∈ GW := gw_2 (i := 38) rfl rfl
theorem fl_X8_75 : (.fieldLink RX8 75 "ElderPapers" "thing" "LElderPapers$Thing;" : Cond) ∈ GW := gw_2 (i := 39) rfl rfl
theorem ly_X8_book : (.laysFinal RX8 "ElderPapers" "book" "LElderPapers$Book;" : Cond) ∈ GW := gw_2 (i := 40) rfl rfl
theorem ly_X8_kept : (.laysFinal RX8 "ElderPapers" "kept" "LElderPapers$Book;" : Cond) ∈ GW := gw_2 (i := 42) rfl rfl
theorem ly_X8_hasKept : (.lays RX8 "ElderPapers" "hasKept" "Z" : Cond) ∈ GW := gw_2 (i := 44) rfl rfl
theorem ly_X8_odds : (.laysFinal RX8 "ElderPapers" "odds" "LElderPapers$Odds;" : Cond) ∈ GW := gw_2 (i := 46) rfl rfl
theorem ly_X8_judge : (.laysFinal RX8 "ElderPapers" "judge" "LElderPapers$Judge;" : Cond) ∈ GW := gw_2 (i := 48) rfl rfl
theorem ly_X8_reader : (.laysFinal RX8 "ElderPapers" "reader" "LElderPapers$WayReader;" : Cond) ∈ GW := gw_2 (i := 50) rfl rfl
theorem ly_X8_tape : (.laysFinal RX8 "ElderPapers" "tape" "LElderPapers$Pile;" : Cond) ∈ GW := gw_2 (i := 52) rfl rfl
theorem ly_X8_rows : (.laysFinal RX8 "ElderPapers" "rows" "LElderPapers$Table;" : Cond) ∈ GW := gw_2 (i := 54) rfl rfl
theorem ly_X8_sheets : (.laysFinal RX8 "ElderPapers" "sheets" "[LElderPapers$Sheet;" : Cond) ∈ GW := gw_2 (i := 56) rfl rfl
theorem ly_X8_shelves : (.laysFinal RX8 "ElderPapers" "shelves" "LElderPapers$Table;" : Cond) ∈ GW := gw_2 (i := 58) rfl rfl
theorem ly_X8_thing : (.laysFinal RX8 "ElderPapers" "thing" "LElderPapers$Thing;" : Cond) ∈ GW := gw_2 (i := 60) rfl rfl
theorem ml_L_13 : (.methodLink "ElderPapersLaw" 13 yX8_person : Cond) ∈ GW := gw_2 (i := 63) rfl rfl
theorem im_X8_person : (.instanceMethod yX8_person : Cond) ∈ GW := gw_2 (i := 64) rfl rfl
theorem sl_X8_person : (.selects RX8 yX8_person yX8_person : Cond) ∈ GW := gw_2 (i := 65) rfl rfl
theorem cd_X8_person : (.code yX8_person cX8_person 5 (some .int) : Cond) ∈ GW := gw_2 (i := 66) rfl rfl
theorem ml_X8_87 : (.methodLink RX8 87 yX8_isHouse : Cond) ∈ GW := gw_2 (i := 67) rfl rfl
theorem sm_X8_isHouse : (.static yX8_isHouse : Cond) ∈ GW := gw_2 (i := 68) rfl rfl
theorem cd_X8_isHouse : (.code yX8_isHouse cX8_isHouse 1 (some .boolean) : Cond) ∈ GW := gw_2 (i := 69) rfl rfl
theorem ml_X8_91 : (.methodLink RX8 91 yX8_isWithin : Cond) ∈ GW := gw_2 (i := 70) rfl rfl
theorem sm_X8_isWithin : (.static yX8_isWithin : Cond) ∈ GW := gw_2 (i := 71) rfl rfl
theorem cd_X8_isWithin : (.code yX8_isWithin cX8_isWithin 3 (some .boolean) : Cond) ∈ GW := gw_2 (i := 72) rfl rfl
theorem ml_X8_98 : (.methodLink RX8 98 yX5_isFull : Cond) ∈ GW := gw_2 (i := 73) rfl rfl
theorem im_X5_isFull : (.instanceMethod yX5_isFull : Cond) ∈ GW := gw_2 (i := 74) rfl rfl
theorem sl_X5_isFull : (.selects RX5 yX5_isFull yX5_isFull : Cond) ∈ GW := gw_2 (i := 75) rfl rfl
theorem cd_X5_isFull : (.code yX5_isFull cX5_isFull 1 (some .boolean) : Cond) ∈ GW := gw_2 (i := 76) rfl rfl
theorem ml_L_18 : (.methodLink "ElderPapersLaw" 18 yX8_personOf : Cond) ∈ GW := gw_2 (i := 77) rfl rfl
theorem im_X8_personOf : (.instanceMethod yX8_personOf : Cond) ∈ GW := gw_2 (i := 78) rfl rfl
theorem sl_X8_personOf : (.selects RX8 yX8_personOf yX8_personOf : Cond) ∈ GW := gw_2 (i := 79) rfl rfl
theorem cd_X8_personOf : (.code yX8_personOf cX8_personOf 3 (some .int) : Cond) ∈ GW := gw_2 (i := 80) rfl rfl
theorem ml_X8_102 : (.methodLink RX8 102 yX5_has : Cond) ∈ GW := gw_2 (i := 81) rfl rfl
theorem im_X5_has : (.instanceMethod yX5_has : Cond) ∈ GW := gw_2 (i := 82) rfl rfl
theorem sl_X5_has : (.selects RX5 yX5_has yX5_has : Cond) ∈ GW := gw_2 (i := 83) rfl rfl
theorem cd_X5_has : (.code yX5_has cX5_has 2 (some .boolean) : Cond) ∈ GW := gw_2 (i := 84) rfl rfl
theorem ml_X8_105 : (.methodLink RX8 105 yX5_get : Cond) ∈ GW := gw_2 (i := 85) rfl rfl
theorem im_X5_get : (.instanceMethod yX5_get : Cond) ∈ GW := gw_2 (i := 86) rfl rfl
theorem sl_X5_get : (.selects RX5 yX5_get yX5_get : Cond) ∈ GW := gw_2 (i := 87) rfl rfl
theorem cd_X5_get : (.code yX5_get cX5_get 4 (some .int) : Cond) ∈ GW := gw_2 (i := 88) rfl rfl
theorem ml_X8_109 : (.methodLink RX8 109 yX0_seen : Cond) ∈ GW := gw_2 (i := 89) rfl rfl
theorem im_X0_seen : (.instanceMethod yX0_seen : Cond) ∈ GW := gw_2 (i := 90) rfl rfl
theorem sl_X0_seen : (.selects RX0 yX0_seen yX0_seen : Cond) ∈ GW := gw_2 (i := 91) rfl rfl
theorem cd_X0_seen : (.code yX0_seen cX0_seen 4 (some .int) : Cond) ∈ GW := gw_2 (i := 92) rfl rfl
theorem ml_X0_74 : (.methodLink RX0 74 yX0_isOf : Cond) ∈ GW := gw_2 (i := 93) rfl rfl
theorem im_X0_isOf : (.instanceMethod yX0_isOf : Cond) ∈ GW := gw_2 (i := 94) rfl rfl
theorem sl_X0_isOf : (.selects RX0 yX0_isOf yX0_isOf : Cond) ∈ GW := gw_2 (i := 95) rfl rfl
theorem cd_X0_isOf : (.code yX0_isOf cX0_isOf 3 (some .boolean) : Cond) ∈ GW := gw_2 (i := 96) rfl rfl
theorem ml_X0_58 : (.methodLink RX0 58 yX5_has : Cond) ∈ GW := gw_2 (i := 97) rfl rfl
theorem ml_X0_54 : (.methodLink RX0 54 yX5_get : Cond) ∈ GW := gw_2 (i := 98) rfl rfl
theorem ml_X0_81 : (.methodLink RX0 81 yJ9_max_7cf53 : Cond) ∈ GW := gw_2 (i := 99) rfl rfl
theorem ml_X8_113 : (.methodLink RX8 113 yX0_papersOf : Cond) ∈ GW := gw_2 (i := 100) rfl rfl
theorem im_X0_papersOf : (.instanceMethod yX0_papersOf : Cond) ∈ GW := gw_2 (i := 101) rfl rfl
theorem sl_X0_papersOf : (.selects RX0 yX0_papersOf yX0_papersOf : Cond) ∈ GW := gw_2 (i := 102) rfl rfl
theorem cd_X0_papersOf : (.code yX0_papersOf cX0_papersOf 2 (some .int) : Cond) ∈ GW := gw_2 (i := 103) rfl rfl
theorem ml_X0_62 : (.methodLink RX0 62 yX0_paperBitsOf : Cond) ∈ GW := gw_2 (i := 104) rfl rfl
theorem im_X0_paperBitsOf : (.instanceMethod yX0_paperBitsOf : Cond) ∈ GW := gw_2 (i := 105) rfl rfl
theorem sl_X0_paperBitsOf : (.selects RX0 yX0_paperBitsOf yX0_paperBitsOf : Cond) ∈ GW := gw_2 (i := 106) rfl rfl
theorem cd_X0_paperBitsOf : (.code yX0_paperBitsOf cX0_paperBitsOf 4 (some .int) : Cond) ∈ GW := gw_2 (i := 107) rfl rfl
theorem sm_X8_bit : (.static yX8_bit : Cond) ∈ GW := gw_2 (i := 109) rfl rfl
theorem cd_X8_bit : (.code yX8_bit cX8_bit 1 (some .int) : Cond) ∈ GW := gw_2 (i := 110) rfl rfl
theorem ml_X0_66 : (.methodLink RX0 66 yJ6_bitCount_0f7a4 : Cond) ∈ GW := gw_2 (i := 111) rfl rfl
theorem sm_J6_bitCount_0f7a4 : (.static yJ6_bitCount_0f7a4 : Cond) ∈ GW := gw_2 (i := 112) rfl rfl
theorem cd_J6_bitCount_0f7a4 : (.code yJ6_bitCount_0f7a4 cJ6_bitCount_0f7a4 1 (some .int) : Cond) ∈ GW := gw_2 (i := 113) rfl rfl
theorem kI_J6_265 : (.constant RJ6 265 (1431655765) : Cond) ∈ GW := gw_2 (i := 114) rfl rfl
theorem kI_J6_266 : (.constant RJ6 266 (858993459) : Cond) ∈ GW := gw_2 (i := 115) rfl rfl
theorem kI_J6_267 : (.constant RJ6 267 (252645135) : Cond) ∈ GW := gw_2 (i := 116) rfl rfl
theorem ml_X8_116 : (.methodLink RX8 116 yX0_isTruthTold : Cond) ∈ GW := gw_2 (i := 117) rfl rfl
theorem im_X0_isTruthTold : (.instanceMethod yX0_isTruthTold : Cond) ∈ GW := gw_2 (i := 118) rfl rfl
theorem sl_X0_isTruthTold : (.selects RX0 yX0_isTruthTold yX0_isTruthTold : Cond) ∈ GW := gw_2 (i := 119) rfl rfl
theorem cd_X0_isTruthTold : (.code yX0_isTruthTold cX0_isTruthTold 2 (some .boolean) : Cond) ∈ GW := gw_2 (i := 120) rfl rfl
theorem ml_L_23 : (.methodLink "ElderPapersLaw" 23 yX8_paper : Cond) ∈ GW := gw_2 (i := 121) rfl rfl
theorem im_X8_paper : (.instanceMethod yX8_paper : Cond) ∈ GW := gw_2 (i := 122) rfl rfl
theorem sl_X8_paper : (.selects RX8 yX8_paper yX8_paper : Cond) ∈ GW := gw_2 (i := 123) rfl rfl
theorem cd_X8_paper : (.code yX8_paper cX8_paper 8 (some .int) : Cond) ∈ GW := gw_2 (i := 124) rfl rfl
theorem ml_X8_119 : (.methodLink RX8 119 yX8_isYear : Cond) ∈ GW := gw_2 (i := 125) rfl rfl
theorem sm_X8_isYear : (.static yX8_isYear : Cond) ∈ GW := gw_2 (i := 126) rfl rfl
theorem cd_X8_isYear : (.code yX8_isYear cX8_isYear 1 (some .boolean) : Cond) ∈ GW := gw_2 (i := 127) rfl rfl
theorem ml_L_28 : (.methodLink "ElderPapersLaw" 28 yX8_paperOf : Cond) ∈ GW := gw_2 (i := 128) rfl rfl
theorem im_X8_paperOf : (.instanceMethod yX8_paperOf : Cond) ∈ GW := gw_2 (i := 129) rfl rfl
theorem sl_X8_paperOf : (.selects RX8 yX8_paperOf yX8_paperOf : Cond) ∈ GW := gw_2 (i := 130) rfl rfl
theorem cd_X8_paperOf : (.code yX8_paperOf cX8_paperOf 3 (some .int) : Cond) ∈ GW := gw_2 (i := 131) rfl rfl
theorem ml_L_32 : (.methodLink "ElderPapersLaw" 32 yX8_correct : Cond) ∈ GW := gw_2 (i := 132) rfl rfl
theorem im_X8_correct : (.instanceMethod yX8_correct : Cond) ∈ GW := gw_2 (i := 133) rfl rfl
theorem sl_X8_correct : (.selects RX8 yX8_correct yX8_correct : Cond) ∈ GW := gw_2 (i := 134) rfl rfl
theorem cd_X8_correct : (.code yX8_correct cX8_correct 4 (some .int) : Cond) ∈ GW := gw_2 (i := 135) rfl rfl
theorem ml_L_36 : (.methodLink "ElderPapersLaw" 36 yX8_span : Cond) ∈ GW := gw_2 (i := 136) rfl rfl
theorem im_X8_span : (.instanceMethod yX8_span : Cond) ∈ GW := gw_2 (i := 137) rfl rfl
theorem sl_X8_span : (.selects RX8 yX8_span yX8_span : Cond) ∈ GW := gw_2 (i := 138) rfl rfl
theorem cd_X8_span : (.code yX8_span cX8_span 3 (some .int) : Cond) ∈ GW := gw_2 (i := 139) rfl rfl
theorem ml_X8_125 : (.methodLink RX8 125 yX0_isInSpan : Cond) ∈ GW := gw_2 (i := 140) rfl rfl
theorem im_X0_isInSpan : (.instanceMethod yX0_isInSpan : Cond) ∈ GW := gw_2 (i := 141) rfl rfl
theorem sl_X0_isInSpan : (.selects RX0 yX0_isInSpan yX0_isInSpan : Cond) ∈ GW := gw_2 (i := 142) rfl rfl
theorem cd_X0_isInSpan : (.code yX0_isInSpan cX0_isInSpan 5 (some .boolean) : Cond) ∈ GW := gw_2 (i := 143) rfl rfl
theorem ml_X0_86 : (.methodLink RX0 86 yX0_isNear : Cond) ∈ GW := gw_2 (i := 144) rfl rfl
theorem sm_X0_isNear : (.static yX0_isNear : Cond) ∈ GW := gw_2 (i := 145) rfl rfl
theorem cd_X0_isNear : (.code yX0_isNear cX0_isNear 3 (some .boolean) : Cond) ∈ GW := gw_2 (i := 146) rfl rfl
theorem ml_X0_90 : (.methodLink RX0 90 yX0_leewayOf : Cond) ∈ GW := gw_2 (i := 147) rfl rfl
theorem sm_X0_leewayOf : (.static yX0_leewayOf : Cond) ∈ GW := gw_2 (i := 148) rfl rfl
theorem cd_X0_leewayOf : (.code yX0_leewayOf cX0_leewayOf 1 (some .int) : Cond) ∈ GW := gw_2 (i := 149) rfl rfl
theorem ml_X0_93 : (.methodLink RX0 93 yX0_placesApart : Cond) ∈ GW := gw_2 (i := 150) rfl rfl
theorem sm_X0_placesApart : (.static yX0_placesApart : Cond) ∈ GW := gw_2 (i := 151) rfl rfl
theorem cd_X0_placesApart : (.code yX0_placesApart cX0_placesApart 3 (some .int) : Cond) ∈ GW := gw_2 (i := 152) rfl rfl
theorem ml_L_40 : (.methodLink "ElderPapersLaw" 40 yX8_life : Cond) ∈ GW := gw_2 (i := 153) rfl rfl
theorem im_X8_life : (.instanceMethod yX8_life : Cond) ∈ GW := gw_2 (i := 154) rfl rfl
theorem sl_X8_life : (.selects RX8 yX8_life yX8_life : Cond) ∈ GW := gw_2 (i := 155) rfl rfl
theorem cd_X8_life : (.code yX8_life cX8_life 4 (some .int) : Cond) ∈ GW := gw_2 (i := 156) rfl rfl
theorem ml_X8_129 : (.methodLink RX8 129 yX8_isSheet : Cond) ∈ GW := gw_2 (i := 157) rfl rfl
theorem sm_X8_isSheet : (.static yX8_isSheet : Cond) ∈ GW := gw_2 (i := 158) rfl rfl
theorem cd_X8_isSheet : (.code yX8_isSheet cX8_isSheet 1 (some .boolean) : Cond) ∈ GW := gw_2 (i := 159) rfl rfl
theorem ml_X8_132 : (.methodLink RX8 132 yX4_refusalAs : Cond) ∈ GW := gw_2 (i := 160) rfl rfl
theorem im_X4_refusalAs : (.instanceMethod yX4_refusalAs : Cond) ∈ GW := gw_2 (i := 161) rfl rfl
theorem sl_X4_refusalAs : (.selects RX4 yX4_refusalAs yX4_refusalAs : Cond) ∈ GW := gw_2 (i := 162) rfl rfl
theorem cd_X4_refusalAs : (.code yX4_refusalAs cX4_refusalAs 2 (some .int) : Cond) ∈ GW := gw_2 (i := 163) rfl rfl
theorem ml_X8_135 : (.methodLink RX8 135 yX8_isLifeTable : Cond) ∈ GW := gw_2 (i := 164) rfl rfl
theorem sm_X8_isLifeTable : (.static yX8_isLifeTable : Cond) ∈ GW := gw_2 (i := 165) rfl rfl
theorem cd_X8_isLifeTable : (.code yX8_isLifeTable cX8_isLifeTable 2 (some .boolean) : Cond) ∈ GW := gw_2 (i := 166) rfl rfl
theorem ml_X8_142 : (.methodLink RX8 142 yX4_get : Cond) ∈ GW := gw_2 (i := 167) rfl rfl
theorem im_X4_get : (.instanceMethod yX4_get : Cond) ∈ GW := gw_2 (i := 168) rfl rfl
theorem sl_X4_get : (.selects RX4 yX4_get yX4_get : Cond) ∈ GW := gw_2 (i := 169) rfl rfl
theorem cd_X4_get : (.code yX4_get cX4_get 2 (some .int) : Cond) ∈ GW := gw_2 (i := 170) rfl rfl
theorem ml_X4_37 : (.methodLink RX4 37 yX4_has : Cond) ∈ GW := gw_2 (i := 171) rfl rfl
theorem im_X4_has : (.instanceMethod yX4_has : Cond) ∈ GW := gw_2 (i := 172) rfl rfl
theorem sl_X4_has : (.selects RX4 yX4_has yX4_has : Cond) ∈ GW := gw_2 (i := 173) rfl rfl
theorem cd_X4_has : (.code yX4_has cX4_has 2 (some .boolean) : Cond) ∈ GW := gw_2 (i := 174) rfl rfl
theorem ml_L_45 : (.methodLink "ElderPapersLaw" 45 yX8_weight : Cond) ∈ GW := gw_2 (i := 175) rfl rfl
theorem im_X8_weight : (.instanceMethod yX8_weight : Cond) ∈ GW := gw_2 (i := 176) rfl rfl
theorem sl_X8_weight : (.selects RX8 yX8_weight yX8_weight : Cond) ∈ GW := gw_2 (i := 177) rfl rfl
theorem cd_X8_weight : (.code yX8_weight cX8_weight 3 (some .long) : Cond) ∈ GW := gw_2 (i := 178) rfl rfl
theorem kL_X8_148 : (.constantLong RX8 148 (-1) : Cond) ∈ GW := gw_2 (i := 179) rfl rfl
theorem ml_X8_150 : (.methodLink RX8 150 yX2_weigh : Cond) ∈ GW := gw_2 (i := 180) rfl rfl
theorem im_X2_weigh : (.instanceMethod yX2_weigh : Cond) ∈ GW := gw_2 (i := 181) rfl rfl
theorem sl_X2_weigh : (.selects RX2 yX2_weigh yX2_weigh : Cond) ∈ GW := gw_2 (i := 182) rfl rfl
theorem cd_X2_weigh : (.code yX2_weigh cX2_weigh 4 none : Cond) ∈ GW := gw_2 (i := 183) rfl rfl
theorem ml_X2_26 : (.methodLink RX2 26 yX0_seen : Cond) ∈ GW := gw_2 (i := 184) rfl rfl
theorem ml_X2_31 : (.methodLink RX2 31 yX2_begin : Cond) ∈ GW := gw_2 (i := 185) rfl rfl
theorem im_X2_begin : (.instanceMethod yX2_begin : Cond) ∈ GW := gw_2 (i := 187) rfl rfl
theorem cd_X2_begin : (.code yX2_begin cX2_begin 5 none : Cond) ∈ GW := gw_2 (i := 188) rfl rfl
theorem ml_X2_54 : (.methodLink RX2 54 yX0_isLeftOut : Cond) ∈ GW := gw_2 (i := 189) rfl rfl
theorem im_X0_isLeftOut : (.instanceMethod yX0_isLeftOut : Cond) ∈ GW := gw_2 (i := 190) rfl rfl
theorem sl_X0_isLeftOut : (.selects RX0 yX0_isLeftOut yX0_isLeftOut : Cond) ∈ GW := gw_2 (i := 191) rfl rfl
theorem cd_X0_isLeftOut : (.code yX0_isLeftOut cX0_isLeftOut 6 (some .boolean) : Cond) ∈ GW := gw_2 (i := 192) rfl rfl
theorem ml_X2_60 : (.methodLink RX2 60 yX5_get : Cond) ∈ GW := gw_2 (i := 193) rfl rfl
theorem ml_X2_44 : (.methodLink RX2 44 yX0_isOf : Cond) ∈ GW := gw_2 (i := 194) rfl rfl
theorem ml_X2_48 : (.methodLink RX2 48 yX2_take : Cond) ∈ GW := gw_2 (i := 195) rfl rfl
theorem im_X2_take : (.instanceMethod yX2_take : Cond) ∈ GW := gw_2 (i := 197) rfl rfl
theorem cd_X2_take : (.code yX2_take cX2_take 5 none : Cond) ∈ GW := gw_2 (i := 198) rfl rfl
theorem ml_X2_64 : (.methodLink RX2 64 yX0_isInSpan : Cond) ∈ GW := gw_2 (i := 199) rfl rfl
theorem ml_X2_51 : (.methodLink RX2 51 yX2_sum : Cond) ∈ GW := gw_2 (i := 200) rfl rfl
theorem im_X2_sum : (.instanceMethod yX2_sum : Cond) ∈ GW := gw_2 (i := 202) rfl rfl
theorem cd_X2_sum : (.code yX2_sum cX2_sum 4 none : Cond) ∈ GW := gw_2 (i := 203) rfl rfl
theorem ml_X8_154 : (.methodLink RX8 154 yX2_of : Cond) ∈ GW := gw_2 (i := 204) rfl rfl
theorem im_X2_of : (.instanceMethod yX2_of : Cond) ∈ GW := gw_2 (i := 205) rfl rfl
theorem sl_X2_of : (.selects RX2 yX2_of yX2_of : Cond) ∈ GW := gw_2 (i := 206) rfl rfl
theorem cd_X2_of : (.code yX2_of cX2_of 2 (some .long) : Cond) ∈ GW := gw_2 (i := 207) rfl rfl
theorem ml_L_50 : (.methodLink "ElderPapersLaw" 50 yX8_all : Cond) ∈ GW := gw_2 (i := 208) rfl rfl
theorem im_X8_all : (.instanceMethod yX8_all : Cond) ∈ GW := gw_2 (i := 209) rfl rfl
theorem sl_X8_all : (.selects RX8 yX8_all yX8_all : Cond) ∈ GW := gw_2 (i := 210) rfl rfl
theorem cd_X8_all : (.code yX8_all cX8_all 2 (some .long) : Cond) ∈ GW := gw_2 (i := 211) rfl rfl
theorem ml_L_55 : (.methodLink "ElderPapersLaw" 55 yX8_best : Cond) ∈ GW := gw_2 (i := 212) rfl rfl
theorem im_X8_best : (.instanceMethod yX8_best : Cond) ∈ GW := gw_2 (i := 213) rfl rfl
theorem sl_X8_best : (.selects RX8 yX8_best yX8_best : Cond) ∈ GW := gw_2 (i := 214) rfl rfl
theorem cd_X8_best : (.code yX8_best cX8_best 2 (some .int) : Cond) ∈ GW := gw_2 (i := 215) rfl rfl
theorem ml_L_59 : (.methodLink "ElderPapersLaw" 59 yX8_share : Cond) ∈ GW := gw_2 (i := 216) rfl rfl
theorem im_X8_share : (.instanceMethod yX8_share : Cond) ∈ GW := gw_2 (i := 217) rfl rfl
theorem sl_X8_share : (.selects RX8 yX8_share yX8_share : Cond) ∈ GW := gw_2 (i := 218) rfl rfl
theorem cd_X8_share : (.code yX8_share cX8_share 8 (some .long) : Cond) ∈ GW := gw_2 (i := 219) rfl rfl
theorem kL_X8_165 : (.constantLong RX8 165 (-3) : Cond) ∈ GW := gw_2 (i := 220) rfl rfl
theorem ml_X8_167 : (.methodLink RX8 167 yX2_ofAge : Cond) ∈ GW := gw_2 (i := 221) rfl rfl
theorem im_X2_ofAge : (.instanceMethod yX2_ofAge : Cond) ∈ GW := gw_2 (i := 222) rfl rfl
theorem sl_X2_ofAge : (.selects RX2 yX2_ofAge yX2_ofAge : Cond) ∈ GW := gw_2 (i := 223) rfl rfl
theorem cd_X2_ofAge : (.code yX2_ofAge cX2_ofAge 2 (some .long) : Cond) ∈ GW := gw_2 (i := 224) rfl rfl
theorem ml_X2_67 : (.methodLink RX2 67 yX2_upTo : Cond) ∈ GW := gw_2 (i := 225) rfl rfl
theorem im_X2_upTo : (.instanceMethod yX2_upTo : Cond) ∈ GW := gw_2 (i := 226) rfl rfl
theorem sl_X2_upTo : (.selects RX2 yX2_upTo yX2_upTo : Cond) ∈ GW := gw_2 (i := 227) rfl rfl
theorem cd_X2_upTo : (.code yX2_upTo cX2_upTo 5 (some .long) : Cond) ∈ GW := gw_2 (i := 228) rfl rfl
theorem ml_X8_170 : (.methodLink RX8 170 yX8_greatestCommonDivisor : Cond) ∈ GW := gw_2 (i := 229) rfl rfl
theorem sm_X8_greatestCommonDivisor : (.static yX8_greatestCommonDivisor : Cond) ∈ GW := gw_2 (i := 230) rfl rfl
theorem cd_X8_greatestCommonDivisor : (.code yX8_greatestCommonDivisor cX8_greatestCommonDivisor 11 (some .long) : Cond) ∈ GW := gw_2 (i := 231) rfl rfl
theorem ml_X8_174 : (.methodLink RX8 174 yJ9_max_f86c9 : Cond) ∈ GW := gw_2 (i := 232) rfl rfl
theorem sm_J9_max_f86c9 : (.static yJ9_max_f86c9 : Cond) ∈ GW := gw_2 (i := 233) rfl rfl
theorem cd_J9_max_f86c9 : (.code yJ9_max_f86c9 cJ9_max_f86c9 4 (some .long) : Cond) ∈ GW := gw_2 (i := 234) rfl rfl
theorem ml_L_64 : (.methodLink "ElderPapersLaw" 64 yX8_common : Cond) ∈ GW := gw_2 (i := 235) rfl rfl
theorem im_X8_common : (.instanceMethod yX8_common : Cond) ∈ GW := gw_2 (i := 236) rfl rfl
theorem sl_X8_common : (.selects RX8 yX8_common yX8_common : Cond) ∈ GW := gw_2 (i := 237) rfl rfl
theorem cd_X8_common : (.code yX8_common cX8_common 5 (some .int) : Cond) ∈ GW := gw_2 (i := 238) rfl rfl
theorem ml_X8_179 : (.methodLink RX8 179 yX0_isInSpans : Cond) ∈ GW := gw_2 (i := 239) rfl rfl
theorem im_X0_isInSpans : (.instanceMethod yX0_isInSpans : Cond) ∈ GW := gw_3 (i := 0) rfl rfl
theorem sl_X0_isInSpans : (.selects RX0 yX0_isInSpans yX0_isInSpans : Cond) ∈ GW := gw_3 (i := 1) rfl rfl
theorem cd_X0_isInSpans : (.code yX0_isInSpans cX0_isInSpans 4 (some .boolean) : Cond) ∈ GW := gw_3 (i := 2) rfl rfl
theorem ml_X0_96 : (.methodLink RX0 96 yX0_isInSpan : Cond) ∈ GW := gw_3 (i := 3) rfl rfl
theorem ml_L_68 : (.methodLink "ElderPapersLaw" 68 yX8_one : Cond) ∈ GW := gw_3 (i := 4) rfl rfl
theorem im_X8_one : (.instanceMethod yX8_one : Cond) ∈ GW := gw_3 (i := 5) rfl rfl
theorem sl_X8_one : (.selects RX8 yX8_one yX8_one : Cond) ∈ GW := gw_3 (i := 6) rfl rfl
theorem cd_X8_one : (.code yX8_one cX8_one 6 (some .int) : Cond) ∈ GW := gw_3 (i := 7) rfl rfl
theorem ml_X8_182 : (.methodLink RX8 182 yX8_common : Cond) ∈ GW := gw_3 (i := 8) rfl rfl
theorem ml_L_72 : (.methodLink "ElderPapersLaw" 72 yX8_cut : Cond) ∈ GW := gw_3 (i := 9) rfl rfl
theorem im_X8_cut : (.instanceMethod yX8_cut : Cond) ∈ GW := gw_3 (i := 10) rfl rfl
theorem sl_X8_cut : (.selects RX8 yX8_cut yX8_cut : Cond) ∈ GW := gw_3 (i := 11) rfl rfl
theorem cd_X8_cut : (.code yX8_cut cX8_cut 5 (some .int) : Cond) ∈ GW := gw_3 (i := 12) rfl rfl
theorem ml_X8_185 : (.methodLink RX8 185 yX0_spansMeet : Cond) ∈ GW := gw_3 (i := 13) rfl rfl
theorem im_X0_spansMeet : (.instanceMethod yX0_spansMeet : Cond) ∈ GW := gw_3 (i := 14) rfl rfl
theorem sl_X0_spansMeet : (.selects RX0 yX0_spansMeet yX0_spansMeet : Cond) ∈ GW := gw_3 (i := 15) rfl rfl
theorem cd_X0_spansMeet : (.code yX0_spansMeet cX0_spansMeet 7 (some .boolean) : Cond) ∈ GW := gw_3 (i := 16) rfl rfl
theorem ml_X0_99 : (.methodLink RX0 99 yX0_placeByMade : Cond) ∈ GW := gw_3 (i := 17) rfl rfl
theorem im_X0_placeByMade : (.instanceMethod yX0_placeByMade : Cond) ∈ GW := gw_3 (i := 19) rfl rfl
theorem cd_X0_placeByMade : (.code yX0_placeByMade cX0_placeByMade 7 (some .int) : Cond) ∈ GW := gw_3 (i := 20) rfl rfl
theorem ml_X0_102 : (.methodLink RX0 102 yX0_areAllInSpan : Cond) ∈ GW := gw_3 (i := 21) rfl rfl
theorem im_X0_areAllInSpan : (.instanceMethod yX0_areAllInSpan : Cond) ∈ GW := gw_3 (i := 23) rfl rfl
theorem cd_X0_areAllInSpan : (.code yX0_areAllInSpan cX0_areAllInSpan 4 (some .boolean) : Cond) ∈ GW := gw_3 (i := 24) rfl rfl
theorem ml_L_76 : (.methodLink "ElderPapersLaw" 76 yX8_rest : Cond) ∈ GW := gw_3 (i := 25) rfl rfl
theorem im_X8_rest : (.instanceMethod yX8_rest : Cond) ∈ GW := gw_3 (i := 26) rfl rfl
theorem sl_X8_rest : (.selects RX8 yX8_rest yX8_rest : Cond) ∈ GW := gw_3 (i := 27) rfl rfl
theorem cd_X8_rest : (.code yX8_rest cX8_rest 4 (some .int) : Cond) ∈ GW := gw_3 (i := 28) rfl rfl
theorem ml_X8_188 : (.methodLink RX8 188 yX8_bit : Cond) ∈ GW := gw_3 (i := 29) rfl rfl
theorem ml_L_80 : (.methodLink "ElderPapersLaw" 80 yX8_stands : Cond) ∈ GW := gw_3 (i := 30) rfl rfl
theorem im_X8_stands : (.instanceMethod yX8_stands : Cond) ∈ GW := gw_3 (i := 31) rfl rfl
theorem sl_X8_stands : (.selects RX8 yX8_stands yX8_stands : Cond) ∈ GW := gw_3 (i := 32) rfl rfl
theorem cd_X8_stands : (.code yX8_stands cX8_stands 1 (some .int) : Cond) ∈ GW := gw_3 (i := 33) rfl rfl
theorem ml_X8_194 : (.methodLink RX8 194 yX0_standing : Cond) ∈ GW := gw_3 (i := 34) rfl rfl
theorem im_X0_standing : (.instanceMethod yX0_standing : Cond) ∈ GW := gw_3 (i := 35) rfl rfl
theorem sl_X0_standing : (.selects RX0 yX0_standing yX0_standing : Cond) ∈ GW := gw_3 (i := 36) rfl rfl
theorem cd_X0_standing : (.code yX0_standing cX0_standing 6 (some .int) : Cond) ∈ GW := gw_3 (i := 37) rfl rfl
theorem ml_X0_105 : (.methodLink RX0 105 yX0_restsOn : Cond) ∈ GW := gw_3 (i := 38) rfl rfl
theorem im_X0_restsOn : (.instanceMethod yX0_restsOn : Cond) ∈ GW := gw_3 (i := 40) rfl rfl
theorem cd_X0_restsOn : (.code yX0_restsOn cX0_restsOn 3 (some .int) : Cond) ∈ GW := gw_3 (i := 41) rfl rfl
theorem ml_L_85 : (.methodLink "ElderPapersLaw" 85 yX8_round : Cond) ∈ GW := gw_3 (i := 42) rfl rfl
theorem im_X8_round : (.instanceMethod yX8_round : Cond) ∈ GW := gw_3 (i := 43) rfl rfl
theorem sl_X8_round : (.selects RX8 yX8_round yX8_round : Cond) ∈ GW := gw_3 (i := 44) rfl rfl
theorem cd_X8_round : (.code yX8_round cX8_round 2 (some .int) : Cond) ∈ GW := gw_3 (i := 45) rfl rfl
theorem ml_X8_197 : (.methodLink RX8 197 yX0_restsOver : Cond) ∈ GW := gw_3 (i := 46) rfl rfl
theorem im_X0_restsOver : (.instanceMethod yX0_restsOver : Cond) ∈ GW := gw_3 (i := 47) rfl rfl
theorem sl_X0_restsOver : (.selects RX0 yX0_restsOver yX0_restsOver : Cond) ∈ GW := gw_3 (i := 48) rfl rfl
theorem cd_X0_restsOver : (.code yX0_restsOver cX0_restsOver 6 (some .int) : Cond) ∈ GW := gw_3 (i := 49) rfl rfl
theorem ml_L_89 : (.methodLink "ElderPapersLaw" 89 yX8_roots : Cond) ∈ GW := gw_3 (i := 50) rfl rfl
theorem im_X8_roots : (.instanceMethod yX8_roots : Cond) ∈ GW := gw_3 (i := 51) rfl rfl
theorem sl_X8_roots : (.selects RX8 yX8_roots yX8_roots : Cond) ∈ GW := gw_3 (i := 52) rfl rfl
theorem cd_X8_roots : (.code yX8_roots cX8_roots 2 (some .int) : Cond) ∈ GW := gw_3 (i := 53) rfl rfl
theorem ml_X8_200 : (.methodLink RX8 200 yX0_restingOnNone : Cond) ∈ GW := gw_3 (i := 54) rfl rfl
theorem im_X0_restingOnNone : (.instanceMethod yX0_restingOnNone : Cond) ∈ GW := gw_3 (i := 55) rfl rfl
theorem sl_X0_restingOnNone : (.selects RX0 yX0_restingOnNone yX0_restingOnNone : Cond) ∈ GW := gw_3 (i := 56) rfl rfl
theorem cd_X0_restingOnNone : (.code yX0_restingOnNone cX0_restingOnNone 3 (some .int) : Cond) ∈ GW := gw_3 (i := 57) rfl rfl
theorem ml_L_95 : (.methodLink "ElderPapersLaw" 95 yX8_feed : Cond) ∈ GW := gw_3 (i := 58) rfl rfl
theorem im_X8_feed : (.instanceMethod yX8_feed : Cond) ∈ GW := gw_3 (i := 59) rfl rfl
theorem sl_X8_feed : (.selects RX8 yX8_feed yX8_feed : Cond) ∈ GW := gw_3 (i := 60) rfl rfl
theorem cd_X8_feed : (.code yX8_feed cX8_feed 5 (some .int) : Cond) ∈ GW := gw_3 (i := 61) rfl rfl
theorem ml_X8_206 : (.methodLink RX8 206 yX3_push : Cond) ∈ GW := gw_3 (i := 62) rfl rfl
theorem im_X3_push : (.instanceMethod yX3_push : Cond) ∈ GW := gw_3 (i := 63) rfl rfl
theorem sl_X3_push : (.selects RX3 yX3_push yX3_push : Cond) ∈ GW := gw_3 (i := 64) rfl rfl
theorem cd_X3_push : (.code yX3_push cX3_push 2 none : Cond) ∈ GW := gw_3 (i := 65) rfl rfl
theorem ml_L_100 : (.methodLink "ElderPapersLaw" 100 yX8_read : Cond) ∈ GW := gw_3 (i := 66) rfl rfl
theorem im_X8_read : (.instanceMethod yX8_read : Cond) ∈ GW := gw_3 (i := 67) rfl rfl
theorem sl_X8_read : (.selects RX8 yX8_read yX8_read : Cond) ∈ GW := gw_3 (i := 68) rfl rfl
theorem cd_X8_read : (.code yX8_read cX8_read 2 (some .int) : Cond) ∈ GW := gw_3 (i := 69) rfl rfl
theorem ml_X8_209 : (.methodLink RX8 209 yX7_readTape : Cond) ∈ GW := gw_3 (i := 70) rfl rfl
theorem im_X7_readTape : (.instanceMethod yX7_readTape : Cond) ∈ GW := gw_3 (i := 71) rfl rfl
theorem sl_X7_readTape : (.selects RX7 yX7_readTape yX7_readTape : Cond) ∈ GW := gw_3 (i := 72) rfl rfl
theorem cd_X7_readTape : (.code yX7_readTape cX7_readTape 4 (some .int) : Cond) ∈ GW := gw_3 (i := 73) rfl rfl
theorem ml_X7_57 : (.methodLink RX7 57 yX5_clear : Cond) ∈ GW := gw_3 (i := 74) rfl rfl
theorem im_X5_clear : (.instanceMethod yX5_clear : Cond) ∈ GW := gw_3 (i := 75) rfl rfl
theorem sl_X5_clear : (.selects RX5 yX5_clear yX5_clear : Cond) ∈ GW := gw_3 (i := 76) rfl rfl
theorem cd_X5_clear : (.code yX5_clear cX5_clear 1 none : Cond) ∈ GW := gw_3 (i := 77) rfl rfl
theorem ml_X7_60 : (.methodLink RX7 60 yX3_clear : Cond) ∈ GW := gw_3 (i := 78) rfl rfl
theorem im_X3_clear : (.instanceMethod yX3_clear : Cond) ∈ GW := gw_3 (i := 79) rfl rfl
theorem sl_X3_clear : (.selects RX3 yX3_clear yX3_clear : Cond) ∈ GW := gw_3 (i := 80) rfl rfl
theorem cd_X3_clear : (.code yX3_clear cX3_clear 1 none : Cond) ∈ GW := gw_3 (i := 81) rfl rfl
theorem ml_X7_61 : (.methodLink RX7 61 yX7_nextToken : Cond) ∈ GW := gw_3 (i := 82) rfl rfl
theorem im_X7_nextToken : (.instanceMethod yX7_nextToken : Cond) ∈ GW := gw_3 (i := 84) rfl rfl
theorem cd_X7_nextToken : (.code yX7_nextToken cX7_nextToken 2 (some .int) : Cond) ∈ GW := gw_3 (i := 85) rfl rfl
theorem ml_X7_73 : (.methodLink RX7 73 yX7_byteAt : Cond) ∈ GW := gw_3 (i := 86) rfl rfl
theorem im_X7_byteAt : (.instanceMethod yX7_byteAt : Cond) ∈ GW := gw_3 (i := 88) rfl rfl
theorem cd_X7_byteAt : (.code yX7_byteAt cX7_byteAt 2 (some .int) : Cond) ∈ GW := gw_3 (i := 89) rfl rfl
theorem ml_X7_69 : (.methodLink RX7 69 yX3_get : Cond) ∈ GW := gw_3 (i := 90) rfl rfl
theorem im_X3_get : (.instanceMethod yX3_get : Cond) ∈ GW := gw_3 (i := 91) rfl rfl
theorem sl_X3_get : (.selects RX3 yX3_get yX3_get : Cond) ∈ GW := gw_3 (i := 92) rfl rfl
theorem cd_X3_get : (.code yX3_get cX3_get 2 (some .int) : Cond) ∈ GW := gw_3 (i := 93) rfl rfl
theorem ml_X7_79 : (.methodLink RX7 79 yX7_isLetter : Cond) ∈ GW := gw_3 (i := 94) rfl rfl
theorem im_X7_isLetter : (.instanceMethod yX7_isLetter : Cond) ∈ GW := gw_3 (i := 96) rfl rfl
theorem cd_X7_isLetter : (.code yX7_isLetter cX7_isLetter 2 (some .boolean) : Cond) ∈ GW := gw_3 (i := 97) rfl rfl
theorem ml_X7_82 : (.methodLink RX7 82 yX7_wordToken : Cond) ∈ GW := gw_3 (i := 98) rfl rfl
theorem im_X7_wordToken : (.instanceMethod yX7_wordToken : Cond) ∈ GW := gw_3 (i := 100) rfl rfl
theorem cd_X7_wordToken : (.code yX7_wordToken cX7_wordToken 1 (some .int) : Cond) ∈ GW := gw_3 (i := 101) rfl rfl
theorem ml_X7_96 : (.methodLink RX7 96 yX7_isWord : Cond) ∈ GW := gw_3 (i := 103) rfl rfl
theorem im_X7_isWord : (.instanceMethod yX7_isWord : Cond) ∈ GW := gw_3 (i := 105) rfl rfl
theorem cd_X7_isWord : (.code yX7_isWord cX7_isWord 3 (some .boolean) : Cond) ∈ GW := gw_3 (i := 106) rfl rfl
theorem ml_X7_122 : (.methodLink RX7 122 yJ0_length_8abf5 : Cond) ∈ GW := gw_3 (i := 107) rfl rfl
theorem im_J0_length_8abf5 : (.instanceMethod yJ0_length_8abf5 : Cond) ∈ GW := gw_3 (i := 108) rfl rfl
theorem sl_J0_length_8abf5 : (.selects RJ0 yJ0_length_8abf5 yJ0_length_8abf5 : Cond) ∈ GW := gw_3 (i := 109) rfl rfl
theorem cd_J0_length_8abf5 : (.code yJ0_length_8abf5 cJ0_length_8abf5 1 (some .int) : Cond) ∈ GW := gw_3 (i := 110) rfl rfl
theorem ml_J0_335 : (.methodLink RJ0 335 yJ0_coder_7d493 : Cond) ∈ GW := gw_3 (i := 111) rfl rfl
theorem im_J0_coder_7d493 : (.instanceMethod yJ0_coder_7d493 : Cond) ∈ GW := gw_3 (i := 112) rfl rfl
theorem sl_J0_coder_7d493 : (.selects RJ0 yJ0_coder_7d493 yJ0_coder_7d493 : Cond) ∈ GW := gw_3 (i := 113) rfl rfl
theorem cd_J0_coder_7d493 : (.code yJ0_coder_7d493 cJ0_coder_7d493 1 (some .byte) : Cond) ∈ GW := gw_3 (i := 114) rfl rfl
theorem fl_J0_38 : (.fieldLink RJ0 38 "java/lang/String" "COMPACT_STRINGS" "Z" : Cond) ∈ GW := gw_3 (i := 115) rfl rfl
theorem ml_X7_127 : (.methodLink RX7 127 yJ0_charAt_5068e : Cond) ∈ GW := gw_3 (i := 117) rfl rfl
theorem im_J0_charAt_5068e : (.instanceMethod yJ0_charAt_5068e : Cond) ∈ GW := gw_3 (i := 118) rfl rfl
theorem sl_J0_charAt_5068e : (.selects RJ0 yJ0_charAt_5068e yJ0_charAt_5068e : Cond) ∈ GW := gw_3 (i := 119) rfl rfl
theorem cd_J0_charAt_5068e : (.code yJ0_charAt_5068e cJ0_charAt_5068e 2 (some .char) : Cond) ∈ GW := gw_3 (i := 120) rfl rfl
theorem ml_J0_492 : (.methodLink RJ0 492 yJ0_isLatin1_aae02 : Cond) ∈ GW := gw_3 (i := 121) rfl rfl
theorem im_J0_isLatin1_aae02 : (.instanceMethod yJ0_isLatin1_aae02 : Cond) ∈ GW := gw_3 (i := 122) rfl rfl
theorem sl_J0_isLatin1_aae02 : (.selects RJ0 yJ0_isLatin1_aae02 yJ0_isLatin1_aae02 : Cond) ∈ GW := gw_3 (i := 123) rfl rfl
theorem cd_J0_isLatin1_aae02 : (.code yJ0_isLatin1_aae02 cJ0_isLatin1_aae02 1 (some .boolean) : Cond) ∈ GW := gw_3 (i := 124) rfl rfl
theorem ml_J0_495 : (.methodLink RJ0 495 yJ1_charAt_3b067 : Cond) ∈ GW := gw_3 (i := 125) rfl rfl
theorem sm_J1_charAt_3b067 : (.static yJ1_charAt_3b067 : Cond) ∈ GW := gw_3 (i := 126) rfl rfl
theorem cd_J1_charAt_3b067 : (.code yJ1_charAt_3b067 cJ1_charAt_3b067 2 (some .char) : Cond) ∈ GW := gw_3 (i := 127) rfl rfl
theorem ml_J1_9 : (.methodLink RJ1 9 yJ0_checkIndex_df160 : Cond) ∈ GW := gw_3 (i := 128) rfl rfl
theorem sm_J0_checkIndex_df160 : (.static yJ0_checkIndex_df160 : Cond) ∈ GW := gw_3 (i := 129) rfl rfl
theorem cd_J0_checkIndex_df160 : (.code yJ0_checkIndex_df160 cJ0_checkIndex_df160 2 none : Cond) ∈ GW := gw_3 (i := 130) rfl rfl
theorem fl_J0_1053 : (.fieldLink RJ0 1053 "jdk/internal/util/Preconditions" "SIOOBE_FORMATTER" "Ljava/util/function/BiFunction;" : Cond) ∈ GW := gw_3 (i := 131) rfl rfl
theorem ml_J0_1059 : (.methodLink RJ0 1059 yJ3_checkIndex_8e157 : Cond) ∈ GW := gw_3 (i := 133) rfl rfl
theorem sm_J3_checkIndex_8e157 : (.static yJ3_checkIndex_8e157 : Cond) ∈ GW := gw_3 (i := 134) rfl rfl
theorem cd_J3_checkIndex_8e157 : (.code yJ3_checkIndex_8e157 cJ3_checkIndex_8e157 3 (some .int) : Cond) ∈ GW := gw_3 (i := 135) rfl rfl
theorem ml_J0_498 : (.methodLink RJ0 498 yJ2_charAt_3b067 : Cond) ∈ GW := gw_3 (i := 136) rfl rfl
theorem sm_J2_charAt_3b067 : (.static yJ2_charAt_3b067 : Cond) ∈ GW := gw_3 (i := 137) rfl rfl
theorem cd_J2_charAt_3b067 : (.code yJ2_charAt_3b067 cJ2_charAt_3b067 2 (some .char) : Cond) ∈ GW := gw_3 (i := 138) rfl rfl
theorem ml_J2_67 : (.methodLink RJ2 67 yJ2_checkIndex_2214a : Cond) ∈ GW := gw_3 (i := 139) rfl rfl
theorem sm_J2_checkIndex_2214a : (.static yJ2_checkIndex_2214a : Cond) ∈ GW := gw_3 (i := 140) rfl rfl
theorem cd_J2_checkIndex_2214a : (.code yJ2_checkIndex_2214a cJ2_checkIndex_2214a 2 none : Cond) ∈ GW := gw_3 (i := 141) rfl rfl
theorem ml_J2_48 : (.methodLink RJ2 48 yJ2_length_9d52b : Cond) ∈ GW := gw_3 (i := 142) rfl rfl
theorem sm_J2_length_9d52b : (.static yJ2_length_9d52b : Cond) ∈ GW := gw_3 (i := 143) rfl rfl
theorem cd_J2_length_9d52b : (.code yJ2_length_9d52b cJ2_length_9d52b 1 (some .int) : Cond) ∈ GW := gw_3 (i := 144) rfl rfl
theorem ml_J2_414 : (.methodLink RJ2 414 yJ0_checkIndex_df160 : Cond) ∈ GW := gw_3 (i := 145) rfl rfl
theorem ml_J2_71 : (.methodLink RJ2 71 yJ2_getChar_3b067 : Cond) ∈ GW := gw_3 (i := 146) rfl rfl
theorem sm_J2_getChar_3b067 : (.static yJ2_getChar_3b067 : Cond) ∈ GW := gw_3 (i := 147) rfl rfl
theorem cd_J2_getChar_3b067 : (.code yJ2_getChar_3b067 cJ2_getChar_3b067 2 (some .char) : Cond) ∈ GW := gw_3 (i := 148) rfl rfl
theorem fl_J2_44 : (.fieldLink RJ2 44 "java/lang/StringUTF16" "$assertionsDisabled" "Z" : Cond) ∈ GW := gw_3 (i := 149) rfl rfl
theorem fl_J2_59 : (.fieldLink RJ2 59 "java/lang/StringUTF16" "HI_BYTE_SHIFT" "I" : Cond) ∈ GW := gw_3 (i := 151) rfl rfl
theorem fl_J2_63 : (.fieldLink RJ2 63 "java/lang/StringUTF16" "LO_BYTE_SHIFT" "I" : Cond) ∈ GW := gw_3 (i := 153) rfl rfl
theorem ml_X7_85 : (.methodLink RX7 85 yX7_isDigit : Cond) ∈ GW := gw_3 (i := 166) rfl rfl
theorem im_X7_isDigit : (.instanceMethod yX7_isDigit : Cond) ∈ GW := gw_3 (i := 168) rfl rfl
theorem cd_X7_isDigit : (.code yX7_isDigit cX7_isDigit 2 (some .boolean) : Cond) ∈ GW := gw_3 (i := 169) rfl rfl
theorem ml_X7_88 : (.methodLink RX7 88 yX7_numberToken : Cond) ∈ GW := gw_3 (i := 170) rfl rfl
theorem im_X7_numberToken : (.instanceMethod yX7_numberToken : Cond) ∈ GW := gw_3 (i := 172) rfl rfl
theorem cd_X7_numberToken : (.code yX7_numberToken cX7_numberToken 2 (some .int) : Cond) ∈ GW := gw_3 (i := 173) rfl rfl
theorem ml_X7_91 : (.methodLink RX7 91 yX7_signToken : Cond) ∈ GW := gw_3 (i := 174) rfl rfl
theorem im_X7_signToken : (.instanceMethod yX7_signToken : Cond) ∈ GW := gw_3 (i := 176) rfl rfl
theorem cd_X7_signToken : (.code yX7_signToken cX7_signToken 1 (some .int) : Cond) ∈ GW := gw_3 (i := 177) rfl rfl
theorem ml_X7_65 : (.methodLink RX7 65 yX7_isAccepted : Cond) ∈ GW := gw_3 (i := 178) rfl rfl
theorem im_X7_isAccepted : (.instanceMethod yX7_isAccepted : Cond) ∈ GW := gw_3 (i := 180) rfl rfl
theorem cd_X7_isAccepted : (.code yX7_isAccepted cX7_isAccepted 2 (some .boolean) : Cond) ∈ GW := gw_3 (i := 181) rfl rfl
theorem ml_X7_131 : (.methodLink RX7 131 yX7_isClauseBegun : Cond) ∈ GW := gw_3 (i := 182) rfl rfl
theorem im_X7_isClauseBegun : (.instanceMethod yX7_isClauseBegun : Cond) ∈ GW := gw_3 (i := 184) rfl rfl
theorem cd_X7_isClauseBegun : (.code yX7_isClauseBegun cX7_isClauseBegun 3 (some .boolean) : Cond) ∈ GW := gw_3 (i := 185) rfl rfl
theorem ml_X7_149 : (.methodLink RX7 149 yX5_isFull : Cond) ∈ GW := gw_3 (i := 186) rfl rfl
theorem ml_X7_153 : (.methodLink RX7 153 yX5_add : Cond) ∈ GW := gw_3 (i := 187) rfl rfl
theorem ml_X7_156 : (.methodLink RX7 156 yX5_set : Cond) ∈ GW := gw_3 (i := 188) rfl rfl
theorem ml_X7_134 : (.methodLink RX7 134 yX7_isOneOpened : Cond) ∈ GW := gw_3 (i := 189) rfl rfl
theorem im_X7_isOneOpened : (.instanceMethod yX7_isOneOpened : Cond) ∈ GW := gw_3 (i := 191) rfl rfl
theorem cd_X7_isOneOpened : (.code yX7_isOneOpened cX7_isOneOpened 2 (some .boolean) : Cond) ∈ GW := gw_3 (i := 192) rfl rfl
theorem ml_X7_161 : (.methodLink RX7 161 yX3_push : Cond) ∈ GW := gw_3 (i := 193) rfl rfl
theorem ml_X7_137 : (.methodLink RX7 137 yX7_isValueBegun : Cond) ∈ GW := gw_3 (i := 194) rfl rfl
theorem im_X7_isValueBegun : (.instanceMethod yX7_isValueBegun : Cond) ∈ GW := gw_3 (i := 196) rfl rfl
theorem cd_X7_isValueBegun : (.code yX7_isValueBegun cX7_isValueBegun 2 (some .boolean) : Cond) ∈ GW := gw_3 (i := 197) rfl rfl
theorem ml_X7_140 : (.methodLink RX7 140 yX7_isValueTold : Cond) ∈ GW := gw_3 (i := 198) rfl rfl
theorem im_X7_isValueTold : (.instanceMethod yX7_isValueTold : Cond) ∈ GW := gw_3 (i := 200) rfl rfl
theorem cd_X7_isValueTold : (.code yX7_isValueTold cX7_isValueTold 3 (some .boolean) : Cond) ∈ GW := gw_3 (i := 201) rfl rfl
theorem ml_X7_164 : (.methodLink RX7 164 yX7_addStep : Cond) ∈ GW := gw_3 (i := 202) rfl rfl
theorem im_X7_addStep : (.instanceMethod yX7_addStep : Cond) ∈ GW := gw_3 (i := 204) rfl rfl
theorem cd_X7_addStep : (.code yX7_addStep cX7_addStep 5 none : Cond) ∈ GW := gw_3 (i := 205) rfl rfl
theorem ml_X7_143 : (.methodLink RX7 143 yX7_isSignTold : Cond) ∈ GW := gw_3 (i := 206) rfl rfl
theorem im_X7_isSignTold : (.instanceMethod yX7_isSignTold : Cond) ∈ GW := gw_3 (i := 208) rfl rfl
theorem cd_X7_isSignTold : (.code yX7_isSignTold cX7_isSignTold 2 (some .boolean) : Cond) ∈ GW := gw_3 (i := 209) rfl rfl
theorem ml_X7_146 : (.methodLink RX7 146 yX7_isOneFollowed : Cond) ∈ GW := gw_3 (i := 210) rfl rfl
theorem im_X7_isOneFollowed : (.instanceMethod yX7_isOneFollowed : Cond) ∈ GW := gw_3 (i := 212) rfl rfl
theorem cd_X7_isOneFollowed : (.code yX7_isOneFollowed cX7_isOneFollowed 2 (some .boolean) : Cond) ∈ GW := gw_3 (i := 213) rfl rfl
theorem ml_X7_167 : (.methodLink RX7 167 yX7_settle : Cond) ∈ GW := gw_3 (i := 214) rfl rfl
theorem im_X7_settle : (.instanceMethod yX7_settle : Cond) ∈ GW := gw_3 (i := 216) rfl rfl
theorem cd_X7_settle : (.code yX7_settle cX7_settle 4 none : Cond) ∈ GW := gw_3 (i := 217) rfl rfl
theorem ml_X7_173 : (.methodLink RX7 173 yX3_top : Cond) ∈ GW := gw_3 (i := 218) rfl rfl
theorem im_X3_top : (.instanceMethod yX3_top : Cond) ∈ GW := gw_3 (i := 219) rfl rfl
theorem sl_X3_top : (.selects RX3 yX3_top yX3_top : Cond) ∈ GW := gw_3 (i := 220) rfl rfl
theorem cd_X3_top : (.code yX3_top cX3_top 1 (some .int) : Cond) ∈ GW := gw_3 (i := 221) rfl rfl
theorem ml_X7_170 : (.methodLink RX7 170 yX3_pop : Cond) ∈ GW := gw_3 (i := 222) rfl rfl
theorem im_X3_pop : (.instanceMethod yX3_pop : Cond) ∈ GW := gw_3 (i := 223) rfl rfl
theorem sl_X3_pop : (.selects RX3 yX3_pop yX3_pop : Cond) ∈ GW := gw_3 (i := 224) rfl rfl
theorem cd_X3_pop : (.code yX3_pop cX3_pop 1 (some .int) : Cond) ∈ GW := gw_3 (i := 225) rfl rfl
theorem ml_X8_213 : (.methodLink RX8 213 yX3_clear : Cond) ∈ GW := gw_3 (i := 226) rfl rfl
theorem ml_X8_220 : (.methodLink RX8 220 yX5_become : Cond) ∈ GW := gw_3 (i := 227) rfl rfl
theorem im_X5_become : (.instanceMethod yX5_become : Cond) ∈ GW := gw_3 (i := 228) rfl rfl
theorem sl_X5_become : (.selects RX5 yX5_become yX5_become : Cond) ∈ GW := gw_3 (i := 229) rfl rfl
theorem cd_X5_become : (.code yX5_become cX5_become 2 none : Cond) ∈ GW := gw_3 (i := 230) rfl rfl
theorem ml_X5_31 : (.methodLink RX5 31 yJ9_min_7cf53 : Cond) ∈ GW := gw_3 (i := 231) rfl rfl
theorem sm_J9_min_7cf53 : (.static yJ9_min_7cf53 : Cond) ∈ GW := gw_3 (i := 232) rfl rfl
theorem cd_J9_min_7cf53 : (.code yJ9_min_7cf53 cJ9_min_7cf53 2 (some .int) : Cond) ∈ GW := gw_3 (i := 233) rfl rfl
theorem ml_X5_34 : (.methodLink RX5 34 arraycopyName : Cond) ∈ GW := gw_3 (i := 234) rfl rfl
theorem sm_arraycopyName : (.static arraycopyName : Cond) ∈ GW := gw_3 (i := 235) rfl rfl
theorem nv_arraycopyName : (.native arraycopyName : Cond) ∈ GW := gw_3 (i := 236) rfl rfl
theorem ac_byte : (.arrayClass .byte : Cond) ∈ GW := gw_3 (i := 237) rfl rfl
theorem ml_L_104 : (.methodLink "ElderPapersLaw" 104 yX8_takes : Cond) ∈ GW := gw_3 (i := 238) rfl rfl
theorem im_X8_takes : (.instanceMethod yX8_takes : Cond) ∈ GW := gw_3 (i := 239) rfl rfl
theorem sl_X8_takes : (.selects RX8 yX8_takes yX8_takes : Cond) ∈ GW := gw_4 (i := 0) rfl rfl
theorem cd_X8_takes : (.code yX8_takes cX8_takes 2 (some .int) : Cond) ∈ GW := gw_4 (i := 1) rfl rfl
theorem ml_X8_229 : (.methodLink RX8 229 yX1_isTaken : Cond) ∈ GW := gw_4 (i := 2) rfl rfl
theorem im_X1_isTaken : (.instanceMethod yX1_isTaken : Cond) ∈ GW := gw_4 (i := 3) rfl rfl
theorem sl_X1_isTaken : (.selects RX1 yX1_isTaken yX1_isTaken : Cond) ∈ GW := gw_4 (i := 4) rfl rfl
theorem cd_X1_isTaken : (.code yX1_isTaken cX1_isTaken 5 (some .boolean) : Cond) ∈ GW := gw_4 (i := 5) rfl rfl
theorem ml_X1_33 : (.methodLink RX1 33 yX1_clauseFor : Cond) ∈ GW := gw_4 (i := 6) rfl rfl
theorem im_X1_clauseFor : (.instanceMethod yX1_clauseFor : Cond) ∈ GW := gw_4 (i := 7) rfl rfl
theorem sl_X1_clauseFor : (.selects RX1 yX1_clauseFor yX1_clauseFor : Cond) ∈ GW := gw_4 (i := 8) rfl rfl
theorem cd_X1_clauseFor : (.code yX1_clauseFor cX1_clauseFor 5 (some .int) : Cond) ∈ GW := gw_4 (i := 9) rfl rfl
theorem ml_X1_49 : (.methodLink RX1 49 yX2_weigh : Cond) ∈ GW := gw_4 (i := 10) rfl rfl
theorem ml_X1_55 : (.methodLink RX1 55 yX1_learn : Cond) ∈ GW := gw_4 (i := 11) rfl rfl
theorem im_X1_learn : (.instanceMethod yX1_learn : Cond) ∈ GW := gw_4 (i := 13) rfl rfl
theorem cd_X1_learn : (.code yX1_learn cX1_learn 6 none : Cond) ∈ GW := gw_4 (i := 14) rfl rfl
theorem ml_X1_66 : (.methodLink RX1 66 yX0_paperBitsOf : Cond) ∈ GW := gw_4 (i := 15) rfl rfl
theorem ml_X1_70 : (.methodLink RX1 70 yJ6_bitCount_0f7a4 : Cond) ∈ GW := gw_4 (i := 16) rfl rfl
theorem ml_X1_75 : (.methodLink RX1 75 yX0_standing : Cond) ∈ GW := gw_4 (i := 17) rfl rfl
theorem ml_X1_43 : (.methodLink RX1 43 yX5_get : Cond) ∈ GW := gw_4 (i := 18) rfl rfl
theorem ml_X1_87 : (.methodLink RX1 87 yX0_isOf : Cond) ∈ GW := gw_4 (i := 19) rfl rfl
theorem ml_X1_91 : (.methodLink RX1 91 yX0_isInSpan : Cond) ∈ GW := gw_4 (i := 20) rfl rfl
theorem ml_X1_62 : (.methodLink RX1 62 yX1_holds : Cond) ∈ GW := gw_4 (i := 21) rfl rfl
theorem im_X1_holds : (.instanceMethod yX1_holds : Cond) ∈ GW := gw_4 (i := 23) rfl rfl
theorem cd_X1_holds : (.code yX1_holds cX1_holds 9 (some .boolean) : Cond) ∈ GW := gw_4 (i := 24) rfl rfl
theorem ml_X1_94 : (.methodLink RX1 94 yX3_clear : Cond) ∈ GW := gw_4 (i := 25) rfl rfl
theorem ml_X1_100 : (.methodLink RX1 100 yJ9_min_7cf53 : Cond) ∈ GW := gw_4 (i := 26) rfl rfl
theorem ml_X1_105 : (.methodLink RX1 105 yX1_join : Cond) ∈ GW := gw_4 (i := 27) rfl rfl
theorem im_X1_join : (.instanceMethod yX1_join : Cond) ∈ GW := gw_4 (i := 29) rfl rfl
theorem cd_X1_join : (.code yX1_join cX1_join 4 none : Cond) ∈ GW := gw_4 (i := 30) rfl rfl
theorem ml_X1_122 : (.methodLink RX1 122 yX3_pop : Cond) ∈ GW := gw_4 (i := 31) rfl rfl
theorem ml_X1_116 : (.methodLink RX1 116 yX3_push : Cond) ∈ GW := gw_4 (i := 32) rfl rfl
theorem ml_X1_108 : (.methodLink RX1 108 yX1_valueOf : Cond) ∈ GW := gw_4 (i := 33) rfl rfl
theorem im_X1_valueOf : (.instanceMethod yX1_valueOf : Cond) ∈ GW := gw_4 (i := 35) rfl rfl
theorem cd_X1_valueOf : (.code yX1_valueOf cX1_valueOf 4 (some .int) : Cond) ∈ GW := gw_4 (i := 36) rfl rfl
theorem ml_X1_125 : (.methodLink RX1 125 yX2_bestAge : Cond) ∈ GW := gw_4 (i := 37) rfl rfl
theorem im_X2_bestAge : (.instanceMethod yX2_bestAge : Cond) ∈ GW := gw_4 (i := 38) rfl rfl
theorem sl_X2_bestAge : (.selects RX2 yX2_bestAge yX2_bestAge : Cond) ∈ GW := gw_4 (i := 39) rfl rfl
theorem cd_X2_bestAge : (.code yX2_bestAge cX2_bestAge 1 (some .int) : Cond) ∈ GW := gw_4 (i := 40) rfl rfl
theorem ml_X1_131 : (.methodLink RX1 131 yX2_hundredthsOf : Cond) ∈ GW := gw_4 (i := 41) rfl rfl
theorem im_X2_hundredthsOf : (.instanceMethod yX2_hundredthsOf : Cond) ∈ GW := gw_4 (i := 42) rfl rfl
theorem sl_X2_hundredthsOf : (.selects RX2 yX2_hundredthsOf yX2_hundredthsOf : Cond) ∈ GW := gw_4 (i := 43) rfl rfl
theorem cd_X2_hundredthsOf : (.code yX2_hundredthsOf cX2_hundredthsOf 2 (some .int) : Cond) ∈ GW := gw_4 (i := 44) rfl rfl
theorem kL_X2_71 : (.constantLong RX2 71 (100) : Cond) ∈ GW := gw_4 (i := 45) rfl rfl
theorem ml_X1_112 : (.methodLink RX1 112 yX1_isSo : Cond) ∈ GW := gw_4 (i := 46) rfl rfl
theorem sm_X1_isSo : (.static yX1_isSo : Cond) ∈ GW := gw_4 (i := 47) rfl rfl
theorem cd_X1_isSo : (.code yX1_isSo cX1_isSo 3 (some .boolean) : Cond) ∈ GW := gw_4 (i := 48) rfl rfl
theorem ml_X1_119 : (.methodLink RX1 119 yX3_top : Cond) ∈ GW := gw_4 (i := 49) rfl rfl
theorem ml_L_108 : (.methodLink "ElderPapersLaw" 108 yX8_clause : Cond) ∈ GW := gw_4 (i := 50) rfl rfl
theorem im_X8_clause : (.instanceMethod yX8_clause : Cond) ∈ GW := gw_4 (i := 51) rfl rfl
theorem sl_X8_clause : (.selects RX8 yX8_clause yX8_clause : Cond) ∈ GW := gw_4 (i := 52) rfl rfl
theorem cd_X8_clause : (.code yX8_clause cX8_clause 2 (some .int) : Cond) ∈ GW := gw_4 (i := 53) rfl rfl
theorem ml_X8_233 : (.methodLink RX8 233 yX1_clauseFor : Cond) ∈ GW := gw_4 (i := 54) rfl rfl
theorem ml_L_112 : (.methodLink "ElderPapersLaw" 112 yX8_truth : Cond) ∈ GW := gw_4 (i := 55) rfl rfl
theorem im_X8_truth : (.instanceMethod yX8_truth : Cond) ∈ GW := gw_4 (i := 56) rfl rfl
theorem sl_X8_truth : (.selects RX8 yX8_truth yX8_truth : Cond) ∈ GW := gw_4 (i := 57) rfl rfl
theorem cd_X8_truth : (.code yX8_truth cX8_truth 3 (some .int) : Cond) ∈ GW := gw_4 (i := 58) rfl rfl
theorem ml_L_116 : (.methodLink "ElderPapersLaw" 116 yX8_errs : Cond) ∈ GW := gw_4 (i := 59) rfl rfl
theorem im_X8_errs : (.instanceMethod yX8_errs : Cond) ∈ GW := gw_4 (i := 60) rfl rfl
theorem sl_X8_errs : (.selects RX8 yX8_errs yX8_errs : Cond) ∈ GW := gw_4 (i := 61) rfl rfl
theorem cd_X8_errs : (.code yX8_errs cX8_errs 7 (some .int) : Cond) ∈ GW := gw_4 (i := 62) rfl rfl
theorem ml_L_120 : (.methodLink "ElderPapersLaw" 120 yX8_draw : Cond) ∈ GW := gw_4 (i := 63) rfl rfl
theorem im_X8_draw : (.instanceMethod yX8_draw : Cond) ∈ GW := gw_4 (i := 64) rfl rfl
theorem sl_X8_draw : (.selects RX8 yX8_draw yX8_draw : Cond) ∈ GW := gw_4 (i := 65) rfl rfl
theorem cd_X8_draw : (.code yX8_draw cX8_draw 6 (some .int) : Cond) ∈ GW := gw_4 (i := 66) rfl rfl
theorem ml_L_125 : (.methodLink "ElderPapersLaw" 125 yX8_behind : Cond) ∈ GW := gw_4 (i := 67) rfl rfl
theorem im_X8_behind : (.instanceMethod yX8_behind : Cond) ∈ GW := gw_4 (i := 68) rfl rfl
theorem sl_X8_behind : (.selects RX8 yX8_behind yX8_behind : Cond) ∈ GW := gw_4 (i := 69) rfl rfl
theorem cd_X8_behind : (.code yX8_behind cX8_behind 2 (some .int) : Cond) ∈ GW := gw_4 (i := 70) rfl rfl
theorem ml_X8_240 : (.methodLink RX8 240 yX0_paidBehindSeen : Cond) ∈ GW := gw_4 (i := 71) rfl rfl
theorem im_X0_paidBehindSeen : (.instanceMethod yX0_paidBehindSeen : Cond) ∈ GW := gw_4 (i := 72) rfl rfl
theorem sl_X0_paidBehindSeen : (.selects RX0 yX0_paidBehindSeen yX0_paidBehindSeen : Cond) ∈ GW := gw_4 (i := 73) rfl rfl
theorem cd_X0_paidBehindSeen : (.code yX0_paidBehindSeen cX0_paidBehindSeen 7 (some .int) : Cond) ∈ GW := gw_4 (i := 74) rfl rfl
theorem ml_X0_108 : (.methodLink RX0 108 yX0_seen : Cond) ∈ GW := gw_4 (i := 75) rfl rfl
theorem ml_L_129 : (.methodLink "ElderPapersLaw" 129 yX8_suspect : Cond) ∈ GW := gw_4 (i := 76) rfl rfl
theorem im_X8_suspect : (.instanceMethod yX8_suspect : Cond) ∈ GW := gw_4 (i := 77) rfl rfl
theorem sl_X8_suspect : (.selects RX8 yX8_suspect yX8_suspect : Cond) ∈ GW := gw_4 (i := 78) rfl rfl
theorem cd_X8_suspect : (.code yX8_suspect cX8_suspect 3 (some .int) : Cond) ∈ GW := gw_4 (i := 79) rfl rfl
theorem ml_X8_243 : (.methodLink RX8 243 yX8_suspectsAheadOf : Cond) ∈ GW := gw_4 (i := 80) rfl rfl
theorem im_X8_suspectsAheadOf : (.instanceMethod yX8_suspectsAheadOf : Cond) ∈ GW := gw_4 (i := 82) rfl rfl
theorem cd_X8_suspectsAheadOf : (.code yX8_suspectsAheadOf cX8_suspectsAheadOf 6 (some .int) : Cond) ∈ GW := gw_4 (i := 83) rfl rfl
theorem ml_L_133 : (.methodLink "ElderPapersLaw" 133 yX8_heap : Cond) ∈ GW := gw_4 (i := 84) rfl rfl
theorem im_X8_heap : (.instanceMethod yX8_heap : Cond) ∈ GW := gw_4 (i := 85) rfl rfl
theorem sl_X8_heap : (.selects RX8 yX8_heap yX8_heap : Cond) ∈ GW := gw_4 (i := 86) rfl rfl
theorem cd_X8_heap : (.code yX8_heap cX8_heap 5 (some .int) : Cond) ∈ GW := gw_4 (i := 87) rfl rfl
theorem ml_X8_246 : (.methodLink RX8 246 yX0_countsWithEnding : Cond) ∈ GW := gw_4 (i := 88) rfl rfl
theorem im_X0_countsWithEnding : (.instanceMethod yX0_countsWithEnding : Cond) ∈ GW := gw_4 (i := 89) rfl rfl
theorem sl_X0_countsWithEnding : (.selects RX0 yX0_countsWithEnding yX0_countsWithEnding : Cond) ∈ GW := gw_4 (i := 90) rfl rfl
theorem cd_X0_countsWithEnding : (.code yX0_countsWithEnding cX0_countsWithEnding 4 (some .int) : Cond) ∈ GW := gw_4 (i := 91) rfl rfl
theorem ml_X8_249 : (.methodLink RX8 249 yX0_counts : Cond) ∈ GW := gw_4 (i := 92) rfl rfl
theorem im_X0_counts : (.instanceMethod yX0_counts : Cond) ∈ GW := gw_4 (i := 93) rfl rfl
theorem sl_X0_counts : (.selects RX0 yX0_counts yX0_counts : Cond) ∈ GW := gw_4 (i := 94) rfl rfl
theorem cd_X0_counts : (.code yX0_counts cX0_counts 3 (some .int) : Cond) ∈ GW := gw_4 (i := 95) rfl rfl
theorem ml_L_137 : (.methodLink "ElderPapersLaw" 137 yX8_valley : Cond) ∈ GW := gw_4 (i := 96) rfl rfl
theorem im_X8_valley : (.instanceMethod yX8_valley : Cond) ∈ GW := gw_4 (i := 97) rfl rfl
theorem sl_X8_valley : (.selects RX8 yX8_valley yX8_valley : Cond) ∈ GW := gw_4 (i := 98) rfl rfl
theorem cd_X8_valley : (.code yX8_valley cX8_valley 6 (some .int) : Cond) ∈ GW := gw_4 (i := 99) rfl rfl
theorem ml_X8_252 : (.methodLink RX8 252 yX8_isOld : Cond) ∈ GW := gw_4 (i := 100) rfl rfl
theorem im_X8_isOld : (.instanceMethod yX8_isOld : Cond) ∈ GW := gw_4 (i := 102) rfl rfl
theorem cd_X8_isOld : (.code yX8_isOld cX8_isOld 4 (some .boolean) : Cond) ∈ GW := gw_4 (i := 103) rfl rfl
theorem ml_X8_255 : (.methodLink RX8 255 yX2_bestAge : Cond) ∈ GW := gw_4 (i := 104) rfl rfl
theorem ml_L_141 : (.methodLink "ElderPapersLaw" 141 yX8_question : Cond) ∈ GW := gw_4 (i := 105) rfl rfl
theorem im_X8_question : (.instanceMethod yX8_question : Cond) ∈ GW := gw_4 (i := 106) rfl rfl
theorem sl_X8_question : (.selects RX8 yX8_question yX8_question : Cond) ∈ GW := gw_4 (i := 107) rfl rfl
theorem cd_X8_question : (.code yX8_question cX8_question 5 (some .int) : Cond) ∈ GW := gw_4 (i := 108) rfl rfl
theorem ml_L_145 : (.methodLink "ElderPapersLaw" 145 yX8_answer : Cond) ∈ GW := gw_4 (i := 109) rfl rfl
theorem im_X8_answer : (.instanceMethod yX8_answer : Cond) ∈ GW := gw_4 (i := 110) rfl rfl
theorem sl_X8_answer : (.selects RX8 yX8_answer yX8_answer : Cond) ∈ GW := gw_4 (i := 111) rfl rfl
theorem cd_X8_answer : (.code yX8_answer cX8_answer 3 (some .int) : Cond) ∈ GW := gw_4 (i := 112) rfl rfl
theorem ml_X8_261 : (.methodLink RX8 261 yX0_answered : Cond) ∈ GW := gw_4 (i := 113) rfl rfl
theorem im_X0_answered : (.instanceMethod yX0_answered : Cond) ∈ GW := gw_4 (i := 114) rfl rfl
theorem sl_X0_answered : (.selects RX0 yX0_answered yX0_answered : Cond) ∈ GW := gw_4 (i := 115) rfl rfl
theorem cd_X0_answered : (.code yX0_answered cX0_answered 3 (some .int) : Cond) ∈ GW := gw_4 (i := 116) rfl rfl
theorem ml_L_150 : (.methodLink "ElderPapersLaw" 150 yX8_next : Cond) ∈ GW := gw_4 (i := 117) rfl rfl
theorem im_X8_next : (.instanceMethod yX8_next : Cond) ∈ GW := gw_4 (i := 118) rfl rfl
theorem sl_X8_next : (.selects RX8 yX8_next yX8_next : Cond) ∈ GW := gw_4 (i := 119) rfl rfl
theorem cd_X8_next : (.code yX8_next cX8_next 10 (some .int) : Cond) ∈ GW := gw_4 (i := 120) rfl rfl
theorem ml_X8_264 : (.methodLink RX8 264 yX2_upTo : Cond) ∈ GW := gw_4 (i := 121) rfl rfl
theorem ml_L_154 : (.methodLink "ElderPapersLaw" 154 yX8_prove : Cond) ∈ GW := gw_4 (i := 122) rfl rfl
theorem im_X8_prove : (.instanceMethod yX8_prove : Cond) ∈ GW := gw_4 (i := 123) rfl rfl
theorem sl_X8_prove : (.selects RX8 yX8_prove yX8_prove : Cond) ∈ GW := gw_4 (i := 124) rfl rfl
theorem cd_X8_prove : (.code yX8_prove cX8_prove 3 (some .int) : Cond) ∈ GW := gw_4 (i := 125) rfl rfl
theorem ml_X8_267 : (.methodLink RX8 267 yX5_clear : Cond) ∈ GW := gw_4 (i := 126) rfl rfl
theorem ml_X8_268 : (.methodLink RX8 268 yX8_addRow : Cond) ∈ GW := gw_4 (i := 127) rfl rfl
theorem im_X8_addRow : (.instanceMethod yX8_addRow : Cond) ∈ GW := gw_4 (i := 129) rfl rfl
theorem cd_X8_addRow : (.code yX8_addRow cX8_addRow 4 none : Cond) ∈ GW := gw_4 (i := 130) rfl rfl
theorem ml_X8_271 : (.methodLink RX8 271 yX0_isOf : Cond) ∈ GW := gw_4 (i := 131) rfl rfl
theorem ml_L_158 : (.methodLink "ElderPapersLaw" 158 yX8_row : Cond) ∈ GW := gw_4 (i := 132) rfl rfl
theorem im_X8_row : (.instanceMethod yX8_row : Cond) ∈ GW := gw_4 (i := 133) rfl rfl
theorem sl_X8_row : (.selects RX8 yX8_row yX8_row : Cond) ∈ GW := gw_4 (i := 134) rfl rfl
theorem cd_X8_row : (.code yX8_row cX8_row 3 (some .int) : Cond) ∈ GW := gw_4 (i := 135) rfl rfl
theorem ml_L_162 : (.methodLink "ElderPapersLaw" 162 yX8_alterRow : Cond) ∈ GW := gw_4 (i := 136) rfl rfl
theorem im_X8_alterRow : (.instanceMethod yX8_alterRow : Cond) ∈ GW := gw_4 (i := 137) rfl rfl
theorem sl_X8_alterRow : (.selects RX8 yX8_alterRow yX8_alterRow : Cond) ∈ GW := gw_4 (i := 138) rfl rfl
theorem cd_X8_alterRow : (.code yX8_alterRow cX8_alterRow 5 (some .int) : Cond) ∈ GW := gw_4 (i := 139) rfl rfl
theorem ml_L_166 : (.methodLink "ElderPapersLaw" 166 yX8_judge : Cond) ∈ GW := gw_4 (i := 140) rfl rfl
theorem im_X8_judge : (.instanceMethod yX8_judge : Cond) ∈ GW := gw_4 (i := 141) rfl rfl
theorem sl_X8_judge : (.selects RX8 yX8_judge yX8_judge : Cond) ∈ GW := gw_4 (i := 142) rfl rfl
theorem cd_X8_judge : (.code yX8_judge cX8_judge 5 (some .int) : Cond) ∈ GW := gw_4 (i := 143) rfl rfl
theorem ml_X8_274 : (.methodLink RX8 274 yX0_nextPaperOf : Cond) ∈ GW := gw_4 (i := 144) rfl rfl
theorem im_X0_nextPaperOf : (.instanceMethod yX0_nextPaperOf : Cond) ∈ GW := gw_4 (i := 145) rfl rfl
theorem sl_X0_nextPaperOf : (.selects RX0 yX0_nextPaperOf yX0_nextPaperOf : Cond) ∈ GW := gw_4 (i := 146) rfl rfl
theorem cd_X0_nextPaperOf : (.code yX0_nextPaperOf cX0_nextPaperOf 5 (some .int) : Cond) ∈ GW := gw_4 (i := 147) rfl rfl
theorem ml_L_170 : (.methodLink "ElderPapersLaw" 170 yX8_sheet : Cond) ∈ GW := gw_4 (i := 148) rfl rfl
theorem im_X8_sheet : (.instanceMethod yX8_sheet : Cond) ∈ GW := gw_4 (i := 149) rfl rfl
theorem sl_X8_sheet : (.selects RX8 yX8_sheet yX8_sheet : Cond) ∈ GW := gw_4 (i := 150) rfl rfl
theorem cd_X8_sheet : (.code yX8_sheet cX8_sheet 4 (some .int) : Cond) ∈ GW := gw_4 (i := 151) rfl rfl
theorem ml_X8_277 : (.methodLink RX8 277 yX4_become : Cond) ∈ GW := gw_4 (i := 152) rfl rfl
theorem im_X4_become : (.instanceMethod yX4_become : Cond) ∈ GW := gw_4 (i := 153) rfl rfl
theorem sl_X4_become : (.selects RX4 yX4_become yX4_become : Cond) ∈ GW := gw_4 (i := 154) rfl rfl
theorem cd_X4_become : (.code yX4_become cX4_become 3 none : Cond) ∈ GW := gw_4 (i := 155) rfl rfl
theorem ml_X4_22 : (.methodLink RX4 22 yJ9_min_7cf53 : Cond) ∈ GW := gw_4 (i := 156) rfl rfl
theorem ml_X4_28 : (.methodLink RX4 28 yJ9_max_7cf53 : Cond) ∈ GW := gw_4 (i := 157) rfl rfl
theorem ml_X4_31 : (.methodLink RX4 31 yJ7_fill_53178 : Cond) ∈ GW := gw_4 (i := 158) rfl rfl
theorem sm_J7_fill_53178 : (.static yJ7_fill_53178 : Cond) ∈ GW := gw_4 (i := 159) rfl rfl
theorem cd_J7_fill_53178 : (.code yJ7_fill_53178 cJ7_fill_53178 4 none : Cond) ∈ GW := gw_4 (i := 160) rfl rfl
theorem ml_L_174 : (.methodLink "ElderPapersLaw" 174 yX8_put : Cond) ∈ GW := gw_4 (i := 161) rfl rfl
theorem im_X8_put : (.instanceMethod yX8_put : Cond) ∈ GW := gw_4 (i := 162) rfl rfl
theorem sl_X8_put : (.selects RX8 yX8_put yX8_put : Cond) ∈ GW := gw_4 (i := 163) rfl rfl
theorem cd_X8_put : (.code yX8_put cX8_put 4 (some .int) : Cond) ∈ GW := gw_4 (i := 164) rfl rfl
theorem ml_X8_282 : (.methodLink RX8 282 yX4_has : Cond) ∈ GW := gw_4 (i := 165) rfl rfl
theorem ml_X8_283 : (.methodLink RX8 283 yX4_set : Cond) ∈ GW := gw_4 (i := 166) rfl rfl
theorem im_X4_set : (.instanceMethod yX4_set : Cond) ∈ GW := gw_4 (i := 167) rfl rfl
theorem sl_X4_set : (.selects RX4 yX4_set yX4_set : Cond) ∈ GW := gw_4 (i := 168) rfl rfl
theorem cd_X4_set : (.code yX4_set cX4_set 3 none : Cond) ∈ GW := gw_4 (i := 169) rfl rfl
theorem ml_L_178 : (.methodLink "ElderPapersLaw" 178 yX8_item : Cond) ∈ GW := gw_4 (i := 170) rfl rfl
theorem im_X8_item : (.instanceMethod yX8_item : Cond) ∈ GW := gw_4 (i := 171) rfl rfl
theorem sl_X8_item : (.selects RX8 yX8_item yX8_item : Cond) ∈ GW := gw_4 (i := 172) rfl rfl
theorem cd_X8_item : (.code yX8_item cX8_item 5 (some .int) : Cond) ∈ GW := gw_4 (i := 173) rfl rfl
theorem ml_X8_285 : (.methodLink RX8 285 yX8_isSort : Cond) ∈ GW := gw_4 (i := 174) rfl rfl
theorem sm_X8_isSort : (.static yX8_isSort : Cond) ∈ GW := gw_4 (i := 175) rfl rfl
theorem cd_X8_isSort : (.code yX8_isSort cX8_isSort 1 (some .boolean) : Cond) ∈ GW := gw_4 (i := 176) rfl rfl
theorem ml_L_182 : (.methodLink "ElderPapersLaw" 182 yX8_register : Cond) ∈ GW := gw_4 (i := 177) rfl rfl
theorem im_X8_register : (.instanceMethod yX8_register : Cond) ∈ GW := gw_4 (i := 178) rfl rfl
theorem sl_X8_register : (.selects RX8 yX8_register yX8_register : Cond) ∈ GW := gw_4 (i := 179) rfl rfl
theorem cd_X8_register : (.code yX8_register cX8_register 10 (some .int) : Cond) ∈ GW := gw_4 (i := 180) rfl rfl
theorem ml_X8_288 : (.methodLink RX8 288 yX8_paper : Cond) ∈ GW := gw_4 (i := 181) rfl rfl
theorem ml_L_186 : (.methodLink "ElderPapersLaw" 186 yX8_shelf : Cond) ∈ GW := gw_4 (i := 182) rfl rfl
theorem im_X8_shelf : (.instanceMethod yX8_shelf : Cond) ∈ GW := gw_4 (i := 183) rfl rfl
theorem sl_X8_shelf : (.selects RX8 yX8_shelf yX8_shelf : Cond) ∈ GW := gw_4 (i := 184) rfl rfl
theorem cd_X8_shelf : (.code yX8_shelf cX8_shelf 4 (some .int) : Cond) ∈ GW := gw_4 (i := 185) rfl rfl
theorem ml_X8_292 : (.methodLink RX8 292 yX8_shelve : Cond) ∈ GW := gw_4 (i := 186) rfl rfl
theorem im_X8_shelve : (.instanceMethod yX8_shelve : Cond) ∈ GW := gw_4 (i := 188) rfl rfl
theorem cd_X8_shelve : (.code yX8_shelve cX8_shelve 4 (some .int) : Cond) ∈ GW := gw_4 (i := 189) rfl rfl
theorem ml_X8_296 : (.methodLink RX8 296 yX8_shelveRow : Cond) ∈ GW := gw_4 (i := 190) rfl rfl
theorem im_X8_shelveRow : (.instanceMethod yX8_shelveRow : Cond) ∈ GW := gw_4 (i := 192) rfl rfl
theorem cd_X8_shelveRow : (.code yX8_shelveRow cX8_shelveRow 4 (some .int) : Cond) ∈ GW := gw_4 (i := 193) rfl rfl
theorem ml_L_190 : (.methodLink "ElderPapersLaw" 190 yX8_taken : Cond) ∈ GW := gw_4 (i := 194) rfl rfl
theorem im_X8_taken : (.instanceMethod yX8_taken : Cond) ∈ GW := gw_4 (i := 195) rfl rfl
theorem sl_X8_taken : (.selects RX8 yX8_taken yX8_taken : Cond) ∈ GW := gw_4 (i := 196) rfl rfl
theorem cd_X8_taken : (.code yX8_taken cX8_taken 5 (some .int) : Cond) ∈ GW := gw_4 (i := 197) rfl rfl
theorem ml_X8_299 : (.methodLink RX8 299 yX8_heldOn : Cond) ∈ GW := gw_4 (i := 198) rfl rfl
theorem im_X8_heldOn : (.instanceMethod yX8_heldOn : Cond) ∈ GW := gw_4 (i := 200) rfl rfl
theorem cd_X8_heldOn : (.code yX8_heldOn cX8_heldOn 4 (some .int) : Cond) ∈ GW := gw_4 (i := 201) rfl rfl
theorem ml_X8_302 : (.methodLink RX8 302 yX8_kindOn : Cond) ∈ GW := gw_4 (i := 202) rfl rfl
theorem im_X8_kindOn : (.instanceMethod yX8_kindOn : Cond) ∈ GW := gw_4 (i := 204) rfl rfl
theorem cd_X8_kindOn : (.code yX8_kindOn cX8_kindOn 2 (some .int) : Cond) ∈ GW := gw_4 (i := 205) rfl rfl
theorem ml_X8_305 : (.methodLink RX8 305 yX8_isUnder : Cond) ∈ GW := gw_4 (i := 206) rfl rfl
theorem sm_X8_isUnder : (.static yX8_isUnder : Cond) ∈ GW := gw_4 (i := 207) rfl rfl
theorem cd_X8_isUnder : (.code yX8_isUnder cX8_isUnder 4 (some .boolean) : Cond) ∈ GW := gw_4 (i := 208) rfl rfl
theorem fl_X8_328 : (.fieldLink RX8 328 "ElderPapers" "KIND_ABOVE" "[I" : Cond) ∈ GW := gw_4 (i := 209) rfl rfl
theorem ml_L_194 : (.methodLink "ElderPapersLaw" 194 yX8_act : Cond) ∈ GW := gw_4 (i := 211) rfl rfl
theorem im_X8_act : (.instanceMethod yX8_act : Cond) ∈ GW := gw_4 (i := 212) rfl rfl
theorem sl_X8_act : (.selects RX8 yX8_act yX8_act : Cond) ∈ GW := gw_4 (i := 213) rfl rfl
theorem cd_X8_act : (.code yX8_act cX8_act 5 (some .int) : Cond) ∈ GW := gw_4 (i := 214) rfl rfl
theorem ml_X8_320 : (.methodLink RX8 320 yX6_perform : Cond) ∈ GW := gw_4 (i := 215) rfl rfl
theorem im_X6_perform : (.instanceMethod yX6_perform : Cond) ∈ GW := gw_4 (i := 216) rfl rfl
theorem sl_X6_perform : (.selects RX6 yX6_perform yX6_perform : Cond) ∈ GW := gw_4 (i := 217) rfl rfl
theorem cd_X6_perform : (.code yX6_perform cX6_perform 4 (some .int) : Cond) ∈ GW := gw_4 (i := 218) rfl rfl
theorem ml_X6_34 : (.methodLink RX6 34 yX6_saysOf : Cond) ∈ GW := gw_4 (i := 219) rfl rfl
theorem im_X6_saysOf : (.instanceMethod yX6_saysOf : Cond) ∈ GW := gw_4 (i := 221) rfl rfl
theorem cd_X6_saysOf : (.code yX6_saysOf cX6_saysOf 6 (some .int) : Cond) ∈ GW := gw_4 (i := 222) rfl rfl
theorem ml_X6_54 : (.methodLink RX6 54 yX6_runs : Cond) ∈ GW := gw_4 (i := 223) rfl rfl
theorem im_X6_runs : (.instanceMethod yX6_runs : Cond) ∈ GW := gw_4 (i := 225) rfl rfl
theorem cd_X6_runs : (.code yX6_runs cX6_runs 3 (some .boolean) : Cond) ∈ GW := gw_4 (i := 226) rfl rfl
theorem ml_X6_51 : (.methodLink RX6 51 yX3_push : Cond) ∈ GW := gw_4 (i := 228) rfl rfl
theorem ml_X6_38 : (.methodLink RX6 38 yX6_leansOf : Cond) ∈ GW := gw_4 (i := 229) rfl rfl
theorem im_X6_leansOf : (.instanceMethod yX6_leansOf : Cond) ∈ GW := gw_4 (i := 231) rfl rfl
theorem cd_X6_leansOf : (.code yX6_leansOf cX6_leansOf 5 (some .int) : Cond) ∈ GW := gw_4 (i := 232) rfl rfl
theorem ml_X6_41 : (.methodLink RX6 41 yX6_fitsOf : Cond) ∈ GW := gw_4 (i := 233) rfl rfl
theorem im_X6_fitsOf : (.instanceMethod yX6_fitsOf : Cond) ∈ GW := gw_4 (i := 235) rfl rfl
theorem cd_X6_fitsOf : (.code yX6_fitsOf cX6_fitsOf 4 (some .int) : Cond) ∈ GW := gw_4 (i := 236) rfl rfl
theorem ml_X6_44 : (.methodLink RX6 44 yX6_tellsOf : Cond) ∈ GW := gw_4 (i := 237) rfl rfl
theorem im_X6_tellsOf : (.instanceMethod yX6_tellsOf : Cond) ∈ GW := gw_4 (i := 239) rfl rfl
theorem cd_X6_tellsOf : (.code yX6_tellsOf cX6_tellsOf 5 (some .int) : Cond) ∈ GW := gw_5 (i := 0) rfl rfl
theorem ml_L_198 : (.methodLink "ElderPapersLaw" 198 yX8_trace : Cond) ∈ GW := gw_5 (i := 1) rfl rfl
theorem im_X8_trace : (.instanceMethod yX8_trace : Cond) ∈ GW := gw_5 (i := 2) rfl rfl
theorem sl_X8_trace : (.selects RX8 yX8_trace yX8_trace : Cond) ∈ GW := gw_5 (i := 3) rfl rfl
theorem cd_X8_trace : (.code yX8_trace cX8_trace 2 (some .int) : Cond) ∈ GW := gw_5 (i := 4) rfl rfl
theorem ml_X8_323 : (.methodLink RX8 323 yX3_has : Cond) ∈ GW := gw_5 (i := 5) rfl rfl
theorem im_X3_has : (.instanceMethod yX3_has : Cond) ∈ GW := gw_5 (i := 6) rfl rfl
theorem sl_X3_has : (.selects RX3 yX3_has yX3_has : Cond) ∈ GW := gw_5 (i := 7) rfl rfl
theorem cd_X3_has : (.code yX3_has cX3_has 2 (some .boolean) : Cond) ∈ GW := gw_5 (i := 8) rfl rfl
theorem ml_X8_324 : (.methodLink RX8 324 yX3_get : Cond) ∈ GW := gw_5 (i := 9) rfl rfl
theorem ml_L_202 : (.methodLink "ElderPapersLaw" 202 yX8_many : Cond) ∈ GW := gw_5 (i := 10) rfl rfl
theorem im_X8_many : (.instanceMethod yX8_many : Cond) ∈ GW := gw_5 (i := 11) rfl rfl
theorem sl_X8_many : (.selects RX8 yX8_many yX8_many : Cond) ∈ GW := gw_5 (i := 12) rfl rfl
theorem cd_X8_many : (.code yX8_many cX8_many 2 (some .int) : Cond) ∈ GW := gw_5 (i := 13) rfl rfl
theorem ml_L_206 : (.methodLink "ElderPapersLaw" 206 yX8_keep : Cond) ∈ GW := gw_5 (i := 14) rfl rfl
theorem im_X8_keep : (.instanceMethod yX8_keep : Cond) ∈ GW := gw_5 (i := 15) rfl rfl
theorem sl_X8_keep : (.selects RX8 yX8_keep yX8_keep : Cond) ∈ GW := gw_5 (i := 16) rfl rfl
theorem cd_X8_keep : (.code yX8_keep cX8_keep 1 (some .int) : Cond) ∈ GW := gw_5 (i := 17) rfl rfl
theorem ml_X8_325 : (.methodLink RX8 325 yX0_become : Cond) ∈ GW := gw_5 (i := 18) rfl rfl
theorem im_X0_become : (.instanceMethod yX0_become : Cond) ∈ GW := gw_5 (i := 19) rfl rfl
theorem sl_X0_become : (.selects RX0 yX0_become yX0_become : Cond) ∈ GW := gw_5 (i := 20) rfl rfl
theorem cd_X0_become : (.code yX0_become cX0_become 2 none : Cond) ∈ GW := gw_5 (i := 21) rfl rfl
theorem ml_X0_50 : (.methodLink RX0 50 yX5_become : Cond) ∈ GW := gw_5 (i := 22) rfl rfl
theorem ml_L_210 : (.methodLink "ElderPapersLaw" 210 yX8_again : Cond) ∈ GW := gw_5 (i := 23) rfl rfl
theorem im_X8_again : (.instanceMethod yX8_again : Cond) ∈ GW := gw_5 (i := 24) rfl rfl
theorem sl_X8_again : (.selects RX8 yX8_again yX8_again : Cond) ∈ GW := gw_5 (i := 25) rfl rfl
theorem cd_X8_again : (.code yX8_again cX8_again 1 (some .int) : Cond) ∈ GW := gw_5 (i := 26) rfl rfl
theorem cl_ElderPapersLaw_10 : (.classLink "ElderPapersLaw" 10 RX9 : Cond) ∈ GW := gw_5 (i := 27) rfl rfl
theorem ib_X9 : (.instantiable RX9 48 : Cond) ∈ GW := gw_5 (i := 28) rfl rfl
theorem ml_L_12 : (.methodLink "ElderPapersLaw" 12 yX9_init : Cond) ∈ GW := gw_5 (i := 29) rfl rfl
theorem im_X9_init : (.instanceMethod yX9_init : Cond) ∈ GW := gw_5 (i := 30) rfl rfl
theorem cd_X9_init : (.code yX9_init cX9_init 2 none : Cond) ∈ GW := gw_5 (i := 31) rfl rfl
theorem ml_X9_1 : (.methodLink RX9 1 objectInit : Cond) ∈ GW := gw_5 (i := 32) rfl rfl
theorem fl_X9_89 : (.fieldLink RX9 89 "ElderPapersModel" "persons" "I" : Cond) ∈ GW := gw_5 (i := 33) rfl rfl
theorem fl_X9_7 : (.fieldLink RX9 7 "ElderPapersModel" "person" "[I" : Cond) ∈ GW := gw_5 (i := 34) rfl rfl
theorem fl_X9_97 : (.fieldLink RX9 97 "ElderPapersModel" "papers" "I" : Cond) ∈ GW := gw_5 (i := 35) rfl rfl
theorem fl_X9_13 : (.fieldLink RX9 13 "ElderPapersModel" "paper" "[I" : Cond) ∈ GW := gw_5 (i := 36) rfl rfl
theorem fl_X9_16 : (.fieldLink RX9 16 "ElderPapersModel" "life" "[I" : Cond) ∈ GW := gw_5 (i := 37) rfl rfl
theorem fl_X9_177 : (.fieldLink RX9 177 "ElderPapersModel" "rests" "I" : Cond) ∈ GW := gw_5 (i := 38) rfl rfl
theorem fl_X9_19 : (.fieldLink RX9 19 "ElderPapersModel" "rest" "[I" : Cond) ∈ GW := gw_5 (i := 39) rfl rfl
theorem fl_X9_329 : (.fieldLink RX9 329 "ElderPapersModel" "draws" "I" : Cond) ∈ GW := gw_5 (i := 40) rfl rfl
theorem fl_X9_22 : (.fieldLink RX9 22 "ElderPapersModel" "draw" "[I" : Cond) ∈ GW := gw_5 (i := 41) rfl rfl
theorem fl_X9_133 : (.fieldLink RX9 133 "ElderPapersModel" "questions" "I" : Cond) ∈ GW := gw_5 (i := 42) rfl rfl
theorem fl_X9_25 : (.fieldLink RX9 25 "ElderPapersModel" "question" "[I" : Cond) ∈ GW := gw_5 (i := 43) rfl rfl
theorem fl_X9_301 : (.fieldLink RX9 301 "ElderPapersModel" "clauses" "I" : Cond) ∈ GW := gw_5 (i := 44) rfl rfl
theorem fl_X9_28 : (.fieldLink RX9 28 "ElderPapersModel" "clauseEnd" "[I" : Cond) ∈ GW := gw_5 (i := 45) rfl rfl
theorem fl_X9_31 : (.fieldLink RX9 31 "ElderPapersModel" "clauseTakes" "[I" : Cond) ∈ GW := gw_5 (i := 46) rfl rfl
theorem fl_X9_34 : (.fieldLink RX9 34 "ElderPapersModel" "way" "[I" : Cond) ∈ GW := gw_5 (i := 47) rfl rfl
theorem fl_X9_37 : (.fieldLink RX9 37 "ElderPapersModel" "order" "[I" : Cond) ∈ GW := gw_5 (i := 48) rfl rfl
theorem fl_X9_40 : (.fieldLink RX9 40 "ElderPapersModel" "tape" "[I" : Cond) ∈ GW := gw_5 (i := 49) rfl rfl
theorem fl_X9_190 : (.fieldLink RX9 190 "ElderPapersModel" "tapeMany" "I" : Cond) ∈ GW := gw_5 (i := 50) rfl rfl
theorem fl_X9_205 : (.fieldLink RX9 205 "ElderPapersModel" "tokenKind" "I" : Cond) ∈ GW := gw_5 (i := 51) rfl rfl
theorem fl_X9_198 : (.fieldLink RX9 198 "ElderPapersModel" "tokenAt" "I" : Cond) ∈ GW := gw_5 (i := 52) rfl rfl
theorem fl_X9_195 : (.fieldLink RX9 195 "ElderPapersModel" "tokenEnd" "I" : Cond) ∈ GW := gw_5 (i := 53) rfl rfl
theorem fl_X9_201 : (.fieldLink RX9 201 "ElderPapersModel" "tokenValue" "J" : Cond) ∈ GW := gw_5 (i := 54) rfl rfl
theorem fl_X9_222 : (.fieldLink RX9 222 "ElderPapersModel" "fault" "I" : Cond) ∈ GW := gw_5 (i := 55) rfl rfl
theorem fl_X9_43 : (.fieldLink RX9 43 "ElderPapersModel" "fresh" "[I" : Cond) ∈ GW := gw_5 (i := 56) rfl rfl
theorem fl_X9_46 : (.fieldLink RX9 46 "ElderPapersModel" "waiting" "[I" : Cond) ∈ GW := gw_5 (i := 57) rfl rfl
theorem fl_X9_49 : (.fieldLink RX9 49 "ElderPapersModel" "freshEnd" "[I" : Cond) ∈ GW := gw_5 (i := 58) rfl rfl
theorem fl_X9_52 : (.fieldLink RX9 52 "ElderPapersModel" "freshTakes" "[I" : Cond) ∈ GW := gw_5 (i := 59) rfl rfl
theorem fl_X9_239 : (.fieldLink RX9 239 "ElderPapersModel" "freshMany" "I" : Cond) ∈ GW := gw_5 (i := 60) rfl rfl
theorem fl_X9_242 : (.fieldLink RX9 242 "ElderPapersModel" "waits" "I" : Cond) ∈ GW := gw_5 (i := 61) rfl rfl
theorem fl_X9_55 : (.fieldLink RX9 55 "ElderPapersModel" "stack" "[I" : Cond) ∈ GW := gw_5 (i := 62) rfl rfl
theorem fl_X9_58 : (.fieldLink RX9 58 "ElderPapersModel" "rows" "[I" : Cond) ∈ GW := gw_5 (i := 63) rfl rfl
theorem fl_X9_338 : (.fieldLink RX9 338 "ElderPapersModel" "rowMany" "I" : Cond) ∈ GW := gw_5 (i := 64) rfl rfl
theorem fl_X9_61 : (.fieldLink RX9 61 "ElderPapersModel" "sorts" "[I" : Cond) ∈ GW := gw_5 (i := 65) rfl rfl
theorem fl_X9_64 : (.fieldLink RX9 64 "ElderPapersModel" "sizes" "[I" : Cond) ∈ GW := gw_5 (i := 66) rfl rfl
theorem fl_X9_67 : (.fieldLink RX9 67 "ElderPapersModel" "sheets" "[J" : Cond) ∈ GW := gw_5 (i := 67) rfl rfl
theorem fl_X9_71 : (.fieldLink RX9 71 "ElderPapersModel" "held" "[I" : Cond) ∈ GW := gw_5 (i := 68) rfl rfl
theorem fl_X9_74 : (.fieldLink RX9 74 "ElderPapersModel" "heldNumber" "[I" : Cond) ∈ GW := gw_5 (i := 69) rfl rfl
theorem fl_X9_77 : (.fieldLink RX9 77 "ElderPapersModel" "heldSize" "[I" : Cond) ∈ GW := gw_5 (i := 70) rfl rfl
theorem fl_X9_362 : (.fieldLink RX9 362 "ElderPapersModel" "kind" "I" : Cond) ∈ GW := gw_5 (i := 71) rfl rfl
theorem fl_X9_377 : (.fieldLink RX9 377 "ElderPapersModel" "number" "I" : Cond) ∈ GW := gw_5 (i := 72) rfl rfl
theorem fl_X9_368 : (.fieldLink RX9 368 "ElderPapersModel" "its" "I" : Cond) ∈ GW := gw_5 (i := 73) rfl rfl
theorem fl_X9_80 : (.fieldLink RX9 80 "ElderPapersModel" "traced" "[I" : Cond) ∈ GW := gw_5 (i := 74) rfl rfl
theorem fl_X9_359 : (.fieldLink RX9 359 "ElderPapersModel" "bodies" "I" : Cond) ∈ GW := gw_5 (i := 75) rfl rfl
theorem fl_X9_383 : (.fieldLink RX9 383 "ElderPapersModel" "isParted" "Z" : Cond) ∈ GW := gw_5 (i := 76) rfl rfl
theorem fl_X9_409 : (.fieldLink RX9 409 "ElderPapersModel" "isKept" "Z" : Cond) ∈ GW := gw_5 (i := 77) rfl rfl
theorem fl_X9_83 : (.fieldLink RX9 83 "ElderPapersModel" "kept" "[I" : Cond) ∈ GW := gw_5 (i := 78) rfl rfl
theorem fl_X9_399 : (.fieldLink RX9 399 "ElderPapersModel" "place" "I" : Cond) ∈ GW := gw_5 (i := 79) rfl rfl
theorem fl_X9_86 : (.fieldLink RX9 86 "ElderPapersModel" "counts" "[I" : Cond) ∈ GW := gw_5 (i := 80) rfl rfl
theorem ly_X9_persons : (.lays RX9 "ElderPapersModel" "persons" "I" : Cond) ∈ GW := gw_5 (i := 81) rfl rfl
theorem ly_X9_person : (.laysFinal RX9 "ElderPapersModel" "person" "[I" : Cond) ∈ GW := gw_5 (i := 83) rfl rfl
theorem ly_X9_papers : (.lays RX9 "ElderPapersModel" "papers" "I" : Cond) ∈ GW := gw_5 (i := 85) rfl rfl
theorem ly_X9_paper : (.laysFinal RX9 "ElderPapersModel" "paper" "[I" : Cond) ∈ GW := gw_5 (i := 87) rfl rfl
theorem ly_X9_life : (.laysFinal RX9 "ElderPapersModel" "life" "[I" : Cond) ∈ GW := gw_5 (i := 89) rfl rfl
theorem ly_X9_rests : (.lays RX9 "ElderPapersModel" "rests" "I" : Cond) ∈ GW := gw_5 (i := 91) rfl rfl
theorem ly_X9_rest : (.laysFinal RX9 "ElderPapersModel" "rest" "[I" : Cond) ∈ GW := gw_5 (i := 93) rfl rfl
theorem ly_X9_draws : (.lays RX9 "ElderPapersModel" "draws" "I" : Cond) ∈ GW := gw_5 (i := 95) rfl rfl
theorem ly_X9_draw : (.laysFinal RX9 "ElderPapersModel" "draw" "[I" : Cond) ∈ GW := gw_5 (i := 97) rfl rfl
theorem ly_X9_questions : (.lays RX9 "ElderPapersModel" "questions" "I" : Cond) ∈ GW := gw_5 (i := 99) rfl rfl
theorem ly_X9_question : (.laysFinal RX9 "ElderPapersModel" "question" "[I" : Cond) ∈ GW := gw_5 (i := 101) rfl rfl
theorem ly_X9_clauses : (.lays RX9 "ElderPapersModel" "clauses" "I" : Cond) ∈ GW := gw_5 (i := 103) rfl rfl
theorem ly_X9_clauseEnd : (.laysFinal RX9 "ElderPapersModel" "clauseEnd" "[I" : Cond) ∈ GW := gw_5 (i := 105) rfl rfl
theorem ly_X9_clauseTakes : (.laysFinal RX9 "ElderPapersModel" "clauseTakes" "[I" : Cond) ∈ GW := gw_5 (i := 107) rfl rfl
theorem ly_X9_way : (.laysFinal RX9 "ElderPapersModel" "way" "[I" : Cond) ∈ GW := gw_5 (i := 109) rfl rfl
theorem ly_X9_order : (.laysFinal RX9 "ElderPapersModel" "order" "[I" : Cond) ∈ GW := gw_5 (i := 111) rfl rfl
theorem ly_X9_tape : (.laysFinal RX9 "ElderPapersModel" "tape" "[I" : Cond) ∈ GW := gw_5 (i := 113) rfl rfl
theorem ly_X9_tapeMany : (.lays RX9 "ElderPapersModel" "tapeMany" "I" : Cond) ∈ GW := gw_5 (i := 115) rfl rfl
theorem ly_X9_tokenKind : (.lays RX9 "ElderPapersModel" "tokenKind" "I" : Cond) ∈ GW := gw_5 (i := 117) rfl rfl
theorem ly_X9_tokenAt : (.lays RX9 "ElderPapersModel" "tokenAt" "I" : Cond) ∈ GW := gw_5 (i := 119) rfl rfl
theorem ly_X9_tokenEnd : (.lays RX9 "ElderPapersModel" "tokenEnd" "I" : Cond) ∈ GW := gw_5 (i := 121) rfl rfl
theorem ly_X9_tokenValue : (.lays RX9 "ElderPapersModel" "tokenValue" "J" : Cond) ∈ GW := gw_5 (i := 123) rfl rfl
theorem ly_X9_fault : (.lays RX9 "ElderPapersModel" "fault" "I" : Cond) ∈ GW := gw_5 (i := 125) rfl rfl
theorem ly_X9_fresh : (.laysFinal RX9 "ElderPapersModel" "fresh" "[I" : Cond) ∈ GW := gw_5 (i := 127) rfl rfl
theorem ly_X9_waiting : (.laysFinal RX9 "ElderPapersModel" "waiting" "[I" : Cond) ∈ GW := gw_5 (i := 129) rfl rfl
theorem ly_X9_freshEnd : (.laysFinal RX9 "ElderPapersModel" "freshEnd" "[I" : Cond) ∈ GW := gw_5 (i := 131) rfl rfl
theorem ly_X9_freshTakes : (.laysFinal RX9 "ElderPapersModel" "freshTakes" "[I" : Cond) ∈ GW := gw_5 (i := 133) rfl rfl
theorem ly_X9_freshMany : (.lays RX9 "ElderPapersModel" "freshMany" "I" : Cond) ∈ GW := gw_5 (i := 135) rfl rfl
theorem ly_X9_waits : (.lays RX9 "ElderPapersModel" "waits" "I" : Cond) ∈ GW := gw_5 (i := 137) rfl rfl
theorem ly_X9_stack : (.laysFinal RX9 "ElderPapersModel" "stack" "[I" : Cond) ∈ GW := gw_5 (i := 139) rfl rfl
theorem ly_X9_rows : (.laysFinal RX9 "ElderPapersModel" "rows" "[I" : Cond) ∈ GW := gw_5 (i := 141) rfl rfl
theorem ly_X9_rowMany : (.lays RX9 "ElderPapersModel" "rowMany" "I" : Cond) ∈ GW := gw_5 (i := 143) rfl rfl
theorem ly_X9_sorts : (.laysFinal RX9 "ElderPapersModel" "sorts" "[I" : Cond) ∈ GW := gw_5 (i := 145) rfl rfl
theorem ly_X9_sizes : (.laysFinal RX9 "ElderPapersModel" "sizes" "[I" : Cond) ∈ GW := gw_5 (i := 147) rfl rfl
theorem ly_X9_sheets : (.laysFinal RX9 "ElderPapersModel" "sheets" "[J" : Cond) ∈ GW := gw_5 (i := 149) rfl rfl
theorem ly_X9_held : (.laysFinal RX9 "ElderPapersModel" "held" "[I" : Cond) ∈ GW := gw_5 (i := 151) rfl rfl
theorem ly_X9_heldNumber : (.laysFinal RX9 "ElderPapersModel" "heldNumber" "[I" : Cond) ∈ GW := gw_5 (i := 153) rfl rfl
theorem ly_X9_heldSize : (.laysFinal RX9 "ElderPapersModel" "heldSize" "[I" : Cond) ∈ GW := gw_5 (i := 155) rfl rfl
theorem ly_X9_kind : (.lays RX9 "ElderPapersModel" "kind" "I" : Cond) ∈ GW := gw_5 (i := 157) rfl rfl
theorem ly_X9_number : (.lays RX9 "ElderPapersModel" "number" "I" : Cond) ∈ GW := gw_5 (i := 159) rfl rfl
theorem ly_X9_its : (.lays RX9 "ElderPapersModel" "its" "I" : Cond) ∈ GW := gw_5 (i := 161) rfl rfl
theorem ly_X9_traced : (.laysFinal RX9 "ElderPapersModel" "traced" "[I" : Cond) ∈ GW := gw_5 (i := 163) rfl rfl
theorem ly_X9_bodies : (.lays RX9 "ElderPapersModel" "bodies" "I" : Cond) ∈ GW := gw_5 (i := 165) rfl rfl
theorem ly_X9_isParted : (.lays RX9 "ElderPapersModel" "isParted" "Z" : Cond) ∈ GW := gw_5 (i := 167) rfl rfl
theorem ly_X9_isKept : (.lays RX9 "ElderPapersModel" "isKept" "Z" : Cond) ∈ GW := gw_5 (i := 169) rfl rfl
theorem ly_X9_kept : (.laysFinal RX9 "ElderPapersModel" "kept" "[I" : Cond) ∈ GW := gw_5 (i := 171) rfl rfl
theorem ly_X9_place : (.lays RX9 "ElderPapersModel" "place" "I" : Cond) ∈ GW := gw_5 (i := 173) rfl rfl
theorem ly_X9_counts : (.laysFinal RX9 "ElderPapersModel" "counts" "[I" : Cond) ∈ GW := gw_5 (i := 175) rfl rfl
theorem ml_L_17 : (.methodLink "ElderPapersLaw" 17 yX9_person : Cond) ∈ GW := gw_5 (i := 178) rfl rfl
theorem im_X9_person : (.instanceMethod yX9_person : Cond) ∈ GW := gw_5 (i := 179) rfl rfl
theorem sl_X9_person : (.selects RX9 yX9_person yX9_person : Cond) ∈ GW := gw_5 (i := 180) rfl rfl
theorem cd_X9_person : (.code yX9_person cX9_person 4 (some .int) : Cond) ∈ GW := gw_5 (i := 181) rfl rfl
theorem ml_X9_93 : (.methodLink RX9 93 yX9_in : Cond) ∈ GW := gw_5 (i := 182) rfl rfl
theorem sm_X9_in : (.static yX9_in : Cond) ∈ GW := gw_5 (i := 183) rfl rfl
theorem cd_X9_in : (.code yX9_in cX9_in 3 (some .boolean) : Cond) ∈ GW := gw_5 (i := 184) rfl rfl
theorem ml_L_22 : (.methodLink "ElderPapersLaw" 22 yX9_personOf : Cond) ∈ GW := gw_5 (i := 185) rfl rfl
theorem im_X9_personOf : (.instanceMethod yX9_personOf : Cond) ∈ GW := gw_5 (i := 186) rfl rfl
theorem sl_X9_personOf : (.selects RX9 yX9_personOf yX9_personOf : Cond) ∈ GW := gw_5 (i := 187) rfl rfl
theorem cd_X9_personOf : (.code yX9_personOf cX9_personOf 3 (some .int) : Cond) ∈ GW := gw_5 (i := 188) rfl rfl
theorem ml_X9_100 : (.methodLink RX9 100 yX9_isPerson : Cond) ∈ GW := gw_5 (i := 189) rfl rfl
theorem im_X9_isPerson : (.instanceMethod yX9_isPerson : Cond) ∈ GW := gw_5 (i := 191) rfl rfl
theorem cd_X9_isPerson : (.code yX9_isPerson cX9_isPerson 2 (some .boolean) : Cond) ∈ GW := gw_5 (i := 192) rfl rfl
theorem ml_X9_104 : (.methodLink RX9 104 yX9_seenOf : Cond) ∈ GW := gw_5 (i := 193) rfl rfl
theorem im_X9_seenOf : (.instanceMethod yX9_seenOf : Cond) ∈ GW := gw_5 (i := 195) rfl rfl
theorem cd_X9_seenOf : (.code yX9_seenOf cX9_seenOf 5 (some .int) : Cond) ∈ GW := gw_5 (i := 196) rfl rfl
theorem ml_X9_108 : (.methodLink RX9 108 yX9_papersOf : Cond) ∈ GW := gw_5 (i := 197) rfl rfl
theorem im_X9_papersOf : (.instanceMethod yX9_papersOf : Cond) ∈ GW := gw_5 (i := 199) rfl rfl
theorem cd_X9_papersOf : (.code yX9_papersOf cX9_papersOf 4 (some .int) : Cond) ∈ GW := gw_5 (i := 200) rfl rfl
theorem ml_L_27 : (.methodLink "ElderPapersLaw" 27 yX9_paper : Cond) ∈ GW := gw_5 (i := 201) rfl rfl
theorem im_X9_paper : (.instanceMethod yX9_paper : Cond) ∈ GW := gw_5 (i := 202) rfl rfl
theorem sl_X9_paper : (.selects RX9 yX9_paper yX9_paper : Cond) ∈ GW := gw_5 (i := 203) rfl rfl
theorem cd_X9_paper : (.code yX9_paper cX9_paper 8 (some .int) : Cond) ∈ GW := gw_5 (i := 204) rfl rfl
theorem ml_X9_111 : (.methodLink RX9 111 yX9_isYear : Cond) ∈ GW := gw_5 (i := 205) rfl rfl
theorem sm_X9_isYear : (.static yX9_isYear : Cond) ∈ GW := gw_5 (i := 206) rfl rfl
theorem cd_X9_isYear : (.code yX9_isYear cX9_isYear 1 (some .boolean) : Cond) ∈ GW := gw_5 (i := 207) rfl rfl
theorem ml_X9_114 : (.methodLink RX9 114 yX9_isPaper : Cond) ∈ GW := gw_5 (i := 208) rfl rfl
theorem im_X9_isPaper : (.instanceMethod yX9_isPaper : Cond) ∈ GW := gw_5 (i := 210) rfl rfl
theorem cd_X9_isPaper : (.code yX9_isPaper cX9_isPaper 2 (some .boolean) : Cond) ∈ GW := gw_5 (i := 211) rfl rfl
theorem ml_L_31 : (.methodLink "ElderPapersLaw" 31 yX9_paperOf : Cond) ∈ GW := gw_5 (i := 212) rfl rfl
theorem im_X9_paperOf : (.instanceMethod yX9_paperOf : Cond) ∈ GW := gw_5 (i := 213) rfl rfl
theorem sl_X9_paperOf : (.selects RX9 yX9_paperOf yX9_paperOf : Cond) ∈ GW := gw_5 (i := 214) rfl rfl
theorem cd_X9_paperOf : (.code yX9_paperOf cX9_paperOf 3 (some .int) : Cond) ∈ GW := gw_5 (i := 215) rfl rfl
theorem ml_L_35 : (.methodLink "ElderPapersLaw" 35 yX9_correct : Cond) ∈ GW := gw_5 (i := 216) rfl rfl
theorem im_X9_correct : (.instanceMethod yX9_correct : Cond) ∈ GW := gw_5 (i := 217) rfl rfl
theorem sl_X9_correct : (.selects RX9 yX9_correct yX9_correct : Cond) ∈ GW := gw_5 (i := 218) rfl rfl
theorem cd_X9_correct : (.code yX9_correct cX9_correct 4 (some .int) : Cond) ∈ GW := gw_5 (i := 219) rfl rfl
theorem ml_L_39 : (.methodLink "ElderPapersLaw" 39 yX9_span : Cond) ∈ GW := gw_5 (i := 220) rfl rfl
theorem im_X9_span : (.instanceMethod yX9_span : Cond) ∈ GW := gw_5 (i := 221) rfl rfl
theorem sl_X9_span : (.selects RX9 yX9_span yX9_span : Cond) ∈ GW := gw_5 (i := 222) rfl rfl
theorem cd_X9_span : (.code yX9_span cX9_span 3 (some .int) : Cond) ∈ GW := gw_5 (i := 223) rfl rfl
theorem ml_X9_121 : (.methodLink RX9 121 yX9_spans : Cond) ∈ GW := gw_5 (i := 224) rfl rfl
theorem im_X9_spans : (.instanceMethod yX9_spans : Cond) ∈ GW := gw_5 (i := 226) rfl rfl
theorem cd_X9_spans : (.code yX9_spans cX9_spans 7 (some .boolean) : Cond) ∈ GW := gw_5 (i := 227) rfl rfl
theorem ml_X9_117 : (.methodLink RX9 117 yX9_unlike : Cond) ∈ GW := gw_5 (i := 228) rfl rfl
theorem sm_X9_unlike : (.static yX9_unlike : Cond) ∈ GW := gw_5 (i := 229) rfl rfl
theorem cd_X9_unlike : (.code yX9_unlike cX9_unlike 2 (some .int) : Cond) ∈ GW := gw_5 (i := 230) rfl rfl
theorem ml_L_44 : (.methodLink "ElderPapersLaw" 44 yX9_life : Cond) ∈ GW := gw_5 (i := 231) rfl rfl
theorem im_X9_life : (.instanceMethod yX9_life : Cond) ∈ GW := gw_5 (i := 232) rfl rfl
theorem sl_X9_life : (.selects RX9 yX9_life yX9_life : Cond) ∈ GW := gw_5 (i := 233) rfl rfl
theorem cd_X9_life : (.code yX9_life cX9_life 5 (some .int) : Cond) ∈ GW := gw_5 (i := 234) rfl rfl
theorem ml_X9_125 : (.methodLink RX9 125 yX9_isShelf : Cond) ∈ GW := gw_5 (i := 235) rfl rfl
theorem sm_X9_isShelf : (.static yX9_isShelf : Cond) ∈ GW := gw_5 (i := 236) rfl rfl
theorem cd_X9_isShelf : (.code yX9_isShelf cX9_isShelf 1 (some .boolean) : Cond) ∈ GW := gw_5 (i := 237) rfl rfl
theorem ml_X9_128 : (.methodLink RX9 128 yX9_lacksSort : Cond) ∈ GW := gw_5 (i := 238) rfl rfl
theorem im_X9_lacksSort : (.instanceMethod yX9_lacksSort : Cond) ∈ GW := gw_6 (i := 0) rfl rfl
theorem cd_X9_lacksSort : (.code yX9_lacksSort cX9_lacksSort 3 (some .int) : Cond) ∈ GW := gw_6 (i := 1) rfl rfl
theorem kL_X9_131 : (.constantLong RX9 131 (100) : Cond) ∈ GW := gw_6 (i := 2) rfl rfl
theorem ml_L_49 : (.methodLink "ElderPapersLaw" 49 yX9_weight : Cond) ∈ GW := gw_6 (i := 3) rfl rfl
theorem im_X9_weight : (.instanceMethod yX9_weight : Cond) ∈ GW := gw_6 (i := 4) rfl rfl
theorem sl_X9_weight : (.selects RX9 yX9_weight yX9_weight : Cond) ∈ GW := gw_6 (i := 5) rfl rfl
theorem cd_X9_weight : (.code yX9_weight cX9_weight 3 (some .long) : Cond) ∈ GW := gw_6 (i := 6) rfl rfl
theorem ml_X9_139 : (.methodLink RX9 139 yX9_weightOf : Cond) ∈ GW := gw_6 (i := 7) rfl rfl
theorem im_X9_weightOf : (.instanceMethod yX9_weightOf : Cond) ∈ GW := gw_6 (i := 9) rfl rfl
theorem cd_X9_weightOf : (.code yX9_weightOf cX9_weightOf 7 (some .long) : Cond) ∈ GW := gw_6 (i := 10) rfl rfl
theorem ml_X9_136 : (.methodLink RX9 136 yX9_isLeftOut : Cond) ∈ GW := gw_6 (i := 11) rfl rfl
theorem im_X9_isLeftOut : (.instanceMethod yX9_isLeftOut : Cond) ∈ GW := gw_6 (i := 13) rfl rfl
theorem cd_X9_isLeftOut : (.code yX9_isLeftOut cX9_isLeftOut 6 (some .boolean) : Cond) ∈ GW := gw_6 (i := 14) rfl rfl
theorem kL_X9_147 : (.constantLong RX9 147 (-1) : Cond) ∈ GW := gw_6 (i := 15) rfl rfl
theorem ml_L_54 : (.methodLink "ElderPapersLaw" 54 yX9_all : Cond) ∈ GW := gw_6 (i := 16) rfl rfl
theorem im_X9_all : (.instanceMethod yX9_all : Cond) ∈ GW := gw_6 (i := 17) rfl rfl
theorem sl_X9_all : (.selects RX9 yX9_all yX9_all : Cond) ∈ GW := gw_6 (i := 18) rfl rfl
theorem cd_X9_all : (.code yX9_all cX9_all 2 (some .long) : Cond) ∈ GW := gw_6 (i := 19) rfl rfl
theorem ml_X9_149 : (.methodLink RX9 149 yX9_allOf : Cond) ∈ GW := gw_6 (i := 20) rfl rfl
theorem im_X9_allOf : (.instanceMethod yX9_allOf : Cond) ∈ GW := gw_6 (i := 22) rfl rfl
theorem cd_X9_allOf : (.code yX9_allOf cX9_allOf 2 (some .long) : Cond) ∈ GW := gw_6 (i := 23) rfl rfl
theorem ml_X9_143 : (.methodLink RX9 143 yX9_sumOf : Cond) ∈ GW := gw_6 (i := 24) rfl rfl
theorem im_X9_sumOf : (.instanceMethod yX9_sumOf : Cond) ∈ GW := gw_6 (i := 26) rfl rfl
theorem cd_X9_sumOf : (.code yX9_sumOf cX9_sumOf 7 (some .long) : Cond) ∈ GW := gw_6 (i := 27) rfl rfl
theorem ml_L_58 : (.methodLink "ElderPapersLaw" 58 yX9_best : Cond) ∈ GW := gw_6 (i := 28) rfl rfl
theorem im_X9_best : (.instanceMethod yX9_best : Cond) ∈ GW := gw_6 (i := 29) rfl rfl
theorem sl_X9_best : (.selects RX9 yX9_best yX9_best : Cond) ∈ GW := gw_6 (i := 30) rfl rfl
theorem cd_X9_best : (.code yX9_best cX9_best 3 (some .int) : Cond) ∈ GW := gw_6 (i := 31) rfl rfl
theorem ml_X9_153 : (.methodLink RX9 153 yX9_bestOf : Cond) ∈ GW := gw_6 (i := 32) rfl rfl
theorem im_X9_bestOf : (.instanceMethod yX9_bestOf : Cond) ∈ GW := gw_6 (i := 34) rfl rfl
theorem cd_X9_bestOf : (.code yX9_bestOf cX9_bestOf 8 (some .int) : Cond) ∈ GW := gw_6 (i := 35) rfl rfl
theorem ml_L_63 : (.methodLink "ElderPapersLaw" 63 yX9_share : Cond) ∈ GW := gw_6 (i := 36) rfl rfl
theorem im_X9_share : (.instanceMethod yX9_share : Cond) ∈ GW := gw_6 (i := 37) rfl rfl
theorem sl_X9_share : (.selects RX9 yX9_share yX9_share : Cond) ∈ GW := gw_6 (i := 38) rfl rfl
theorem cd_X9_share : (.code yX9_share cX9_share 10 (some .long) : Cond) ∈ GW := gw_6 (i := 39) rfl rfl
theorem kL_X9_156 : (.constantLong RX9 156 (-3) : Cond) ∈ GW := gw_6 (i := 40) rfl rfl
theorem ml_X9_158 : (.methodLink RX9 158 yX9_partOf : Cond) ∈ GW := gw_6 (i := 41) rfl rfl
theorem im_X9_partOf : (.instanceMethod yX9_partOf : Cond) ∈ GW := gw_6 (i := 43) rfl rfl
theorem cd_X9_partOf : (.code yX9_partOf cX9_partOf 3 (some .long) : Cond) ∈ GW := gw_6 (i := 44) rfl rfl
theorem ml_X9_161 : (.methodLink RX9 161 yX9_divisor : Cond) ∈ GW := gw_6 (i := 45) rfl rfl
theorem sm_X9_divisor : (.static yX9_divisor : Cond) ∈ GW := gw_6 (i := 46) rfl rfl
theorem cd_X9_divisor : (.code yX9_divisor cX9_divisor 10 (some .long) : Cond) ∈ GW := gw_6 (i := 47) rfl rfl
theorem ml_L_67 : (.methodLink "ElderPapersLaw" 67 yX9_common : Cond) ∈ GW := gw_6 (i := 48) rfl rfl
theorem im_X9_common : (.instanceMethod yX9_common : Cond) ∈ GW := gw_6 (i := 49) rfl rfl
theorem sl_X9_common : (.selects RX9 yX9_common yX9_common : Cond) ∈ GW := gw_6 (i := 50) rfl rfl
theorem cd_X9_common : (.code yX9_common cX9_common 3 (some .int) : Cond) ∈ GW := gw_6 (i := 51) rfl rfl
theorem ml_X9_168 : (.methodLink RX9 168 yX9_commonOf : Cond) ∈ GW := gw_6 (i := 52) rfl rfl
theorem im_X9_commonOf : (.instanceMethod yX9_commonOf : Cond) ∈ GW := gw_6 (i := 54) rfl rfl
theorem cd_X9_commonOf : (.code yX9_commonOf cX9_commonOf 5 (some .int) : Cond) ∈ GW := gw_6 (i := 55) rfl rfl
theorem ml_X9_165 : (.methodLink RX9 165 yX9_isCommon : Cond) ∈ GW := gw_6 (i := 56) rfl rfl
theorem im_X9_isCommon : (.instanceMethod yX9_isCommon : Cond) ∈ GW := gw_6 (i := 58) rfl rfl
theorem cd_X9_isCommon : (.code yX9_isCommon cX9_isCommon 5 (some .boolean) : Cond) ∈ GW := gw_6 (i := 59) rfl rfl
theorem ml_L_71 : (.methodLink "ElderPapersLaw" 71 yX9_one : Cond) ∈ GW := gw_6 (i := 60) rfl rfl
theorem im_X9_one : (.instanceMethod yX9_one : Cond) ∈ GW := gw_6 (i := 61) rfl rfl
theorem sl_X9_one : (.selects RX9 yX9_one yX9_one : Cond) ∈ GW := gw_6 (i := 62) rfl rfl
theorem cd_X9_one : (.code yX9_one cX9_one 4 (some .int) : Cond) ∈ GW := gw_6 (i := 63) rfl rfl
theorem ml_L_75 : (.methodLink "ElderPapersLaw" 75 yX9_cut : Cond) ∈ GW := gw_6 (i := 64) rfl rfl
theorem im_X9_cut : (.instanceMethod yX9_cut : Cond) ∈ GW := gw_6 (i := 65) rfl rfl
theorem sl_X9_cut : (.selects RX9 yX9_cut yX9_cut : Cond) ∈ GW := gw_6 (i := 66) rfl rfl
theorem cd_X9_cut : (.code yX9_cut cX9_cut 4 (some .int) : Cond) ∈ GW := gw_6 (i := 67) rfl rfl
theorem ml_X9_171 : (.methodLink RX9 171 yX9_orderOf : Cond) ∈ GW := gw_6 (i := 68) rfl rfl
theorem im_X9_orderOf : (.instanceMethod yX9_orderOf : Cond) ∈ GW := gw_6 (i := 70) rfl rfl
theorem cd_X9_orderOf : (.code yX9_orderOf cX9_orderOf 5 (some .int) : Cond) ∈ GW := gw_6 (i := 71) rfl rfl
theorem ml_X9_174 : (.methodLink RX9 174 yX9_agree : Cond) ∈ GW := gw_6 (i := 72) rfl rfl
theorem im_X9_agree : (.instanceMethod yX9_agree : Cond) ∈ GW := gw_6 (i := 74) rfl rfl
theorem cd_X9_agree : (.code yX9_agree cX9_agree 6 (some .boolean) : Cond) ∈ GW := gw_6 (i := 75) rfl rfl
theorem ml_L_79 : (.methodLink "ElderPapersLaw" 79 yX9_rest : Cond) ∈ GW := gw_6 (i := 76) rfl rfl
theorem im_X9_rest : (.instanceMethod yX9_rest : Cond) ∈ GW := gw_6 (i := 77) rfl rfl
theorem sl_X9_rest : (.selects RX9 yX9_rest yX9_rest : Cond) ∈ GW := gw_6 (i := 78) rfl rfl
theorem cd_X9_rest : (.code yX9_rest cX9_rest 4 (some .int) : Cond) ∈ GW := gw_6 (i := 79) rfl rfl
theorem ml_L_84 : (.methodLink "ElderPapersLaw" 84 yX9_stands : Cond) ∈ GW := gw_6 (i := 80) rfl rfl
theorem im_X9_stands : (.instanceMethod yX9_stands : Cond) ∈ GW := gw_6 (i := 81) rfl rfl
theorem sl_X9_stands : (.selects RX9 yX9_stands yX9_stands : Cond) ∈ GW := gw_6 (i := 82) rfl rfl
theorem cd_X9_stands : (.code yX9_stands cX9_stands 1 (some .int) : Cond) ∈ GW := gw_6 (i := 83) rfl rfl
theorem ml_X9_183 : (.methodLink RX9 183 yX9_standing : Cond) ∈ GW := gw_6 (i := 84) rfl rfl
theorem im_X9_standing : (.instanceMethod yX9_standing : Cond) ∈ GW := gw_6 (i := 86) rfl rfl
theorem cd_X9_standing : (.code yX9_standing cX9_standing 5 (some .int) : Cond) ∈ GW := gw_6 (i := 87) rfl rfl
theorem ml_X9_180 : (.methodLink RX9 180 yX9_under : Cond) ∈ GW := gw_6 (i := 88) rfl rfl
theorem im_X9_under : (.instanceMethod yX9_under : Cond) ∈ GW := gw_6 (i := 90) rfl rfl
theorem cd_X9_under : (.code yX9_under cX9_under 4 (some .int) : Cond) ∈ GW := gw_6 (i := 91) rfl rfl
theorem ml_L_88 : (.methodLink "ElderPapersLaw" 88 yX9_round : Cond) ∈ GW := gw_6 (i := 92) rfl rfl
theorem im_X9_round : (.instanceMethod yX9_round : Cond) ∈ GW := gw_6 (i := 93) rfl rfl
theorem sl_X9_round : (.selects RX9 yX9_round yX9_round : Cond) ∈ GW := gw_6 (i := 94) rfl rfl
theorem cd_X9_round : (.code yX9_round cX9_round 2 (some .int) : Cond) ∈ GW := gw_6 (i := 95) rfl rfl
theorem ml_X9_187 : (.methodLink RX9 187 yX9_below : Cond) ∈ GW := gw_6 (i := 96) rfl rfl
theorem im_X9_below : (.instanceMethod yX9_below : Cond) ∈ GW := gw_6 (i := 98) rfl rfl
theorem cd_X9_below : (.code yX9_below cX9_below 6 (some .int) : Cond) ∈ GW := gw_6 (i := 99) rfl rfl
theorem ml_L_92 : (.methodLink "ElderPapersLaw" 92 yX9_roots : Cond) ∈ GW := gw_6 (i := 100) rfl rfl
theorem im_X9_roots : (.instanceMethod yX9_roots : Cond) ∈ GW := gw_6 (i := 101) rfl rfl
theorem sl_X9_roots : (.selects RX9 yX9_roots yX9_roots : Cond) ∈ GW := gw_6 (i := 102) rfl rfl
theorem cd_X9_roots : (.code yX9_roots cX9_roots 5 (some .int) : Cond) ∈ GW := gw_6 (i := 103) rfl rfl
theorem ml_L_99 : (.methodLink "ElderPapersLaw" 99 yX9_feed : Cond) ∈ GW := gw_6 (i := 104) rfl rfl
theorem im_X9_feed : (.instanceMethod yX9_feed : Cond) ∈ GW := gw_6 (i := 105) rfl rfl
theorem sl_X9_feed : (.selects RX9 yX9_feed yX9_feed : Cond) ∈ GW := gw_6 (i := 106) rfl rfl
theorem cd_X9_feed : (.code yX9_feed cX9_feed 5 (some .int) : Cond) ∈ GW := gw_6 (i := 107) rfl rfl
theorem kL_X9_193 : (.constantLong RX9 193 (255) : Cond) ∈ GW := gw_6 (i := 108) rfl rfl
theorem ml_L_103 : (.methodLink "ElderPapersLaw" 103 yX9_read : Cond) ∈ GW := gw_6 (i := 109) rfl rfl
theorem im_X9_read : (.instanceMethod yX9_read : Cond) ∈ GW := gw_6 (i := 110) rfl rfl
theorem sl_X9_read : (.selects RX9 yX9_read yX9_read : Cond) ∈ GW := gw_6 (i := 111) rfl rfl
theorem cd_X9_read : (.code yX9_read cX9_read 3 (some .int) : Cond) ∈ GW := gw_6 (i := 112) rfl rfl
theorem ml_X9_229 : (.methodLink RX9 229 yX9_advance : Cond) ∈ GW := gw_6 (i := 113) rfl rfl
theorem im_X9_advance : (.instanceMethod yX9_advance : Cond) ∈ GW := gw_6 (i := 115) rfl rfl
theorem cd_X9_advance : (.code yX9_advance cX9_advance 2 none : Cond) ∈ GW := gw_6 (i := 116) rfl rfl
theorem ml_X9_208 : (.methodLink RX9 208 yX9_isLetter : Cond) ∈ GW := gw_6 (i := 117) rfl rfl
theorem sm_X9_isLetter : (.static yX9_isLetter : Cond) ∈ GW := gw_6 (i := 118) rfl rfl
theorem cd_X9_isLetter : (.code yX9_isLetter cX9_isLetter 1 (some .boolean) : Cond) ∈ GW := gw_6 (i := 119) rfl rfl
theorem kL_X9_211 : (.constantLong RX9 211 (27) : Cond) ∈ GW := gw_6 (i := 120) rfl rfl
theorem kL_X9_213 : (.constantLong RX9 213 (96) : Cond) ∈ GW := gw_6 (i := 121) rfl rfl
theorem ml_X9_215 : (.methodLink RX9 215 yX9_isDigit : Cond) ∈ GW := gw_6 (i := 122) rfl rfl
theorem sm_X9_isDigit : (.static yX9_isDigit : Cond) ∈ GW := gw_6 (i := 123) rfl rfl
theorem cd_X9_isDigit : (.code yX9_isDigit cX9_isDigit 1 (some .boolean) : Cond) ∈ GW := gw_6 (i := 124) rfl rfl
theorem kL_X9_218 : (.constantLong RX9 218 (10) : Cond) ∈ GW := gw_6 (i := 125) rfl rfl
theorem kL_X9_220 : (.constantLong RX9 220 (48) : Cond) ∈ GW := gw_6 (i := 126) rfl rfl
theorem ml_X9_225 : (.methodLink RX9 225 yX9_isGood : Cond) ∈ GW := gw_6 (i := 127) rfl rfl
theorem im_X9_isGood : (.instanceMethod yX9_isGood : Cond) ∈ GW := gw_6 (i := 129) rfl rfl
theorem cd_X9_isGood : (.code yX9_isGood cX9_isGood 1 (some .boolean) : Cond) ∈ GW := gw_6 (i := 130) rfl rfl
theorem kL_X9_294 : (.constantLong RX9 294 (394691) : Cond) ∈ GW := gw_6 (i := 131) rfl rfl
theorem ml_X9_251 : (.methodLink RX9 251 yX9_isWord : Cond) ∈ GW := gw_6 (i := 132) rfl rfl
theorem im_X9_isWord : (.instanceMethod yX9_isWord : Cond) ∈ GW := gw_6 (i := 134) rfl rfl
theorem cd_X9_isWord : (.code yX9_isWord cX9_isWord 3 (some .boolean) : Cond) ∈ GW := gw_6 (i := 135) rfl rfl
theorem kL_X9_296 : (.constantLong RX9 296 (409469) : Cond) ∈ GW := gw_6 (i := 136) rfl rfl
theorem ml_X9_235 : (.methodLink RX9 235 yX9_want : Cond) ∈ GW := gw_6 (i := 137) rfl rfl
theorem im_X9_want : (.instanceMethod yX9_want : Cond) ∈ GW := gw_6 (i := 139) rfl rfl
theorem cd_X9_want : (.code yX9_want cX9_want 2 none : Cond) ∈ GW := gw_6 (i := 140) rfl rfl
theorem ml_X9_232 : (.methodLink RX9 232 yX9_faulty : Cond) ∈ GW := gw_6 (i := 141) rfl rfl
theorem im_X9_faulty : (.instanceMethod yX9_faulty : Cond) ∈ GW := gw_6 (i := 143) rfl rfl
theorem cd_X9_faulty : (.code yX9_faulty cX9_faulty 1 none : Cond) ∈ GW := gw_6 (i := 144) rfl rfl
theorem ml_X9_298 : (.methodLink RX9 298 yX9_wantCond : Cond) ∈ GW := gw_6 (i := 145) rfl rfl
theorem im_X9_wantCond : (.instanceMethod yX9_wantCond : Cond) ∈ GW := gw_6 (i := 147) rfl rfl
theorem cd_X9_wantCond : (.code yX9_wantCond cX9_wantCond 5 none : Cond) ∈ GW := gw_6 (i := 148) rfl rfl
theorem kL_X9_279 : (.constantLong RX9 279 (10631) : Cond) ∈ GW := gw_6 (i := 149) rfl rfl
theorem ml_X9_281 : (.methodLink RX9 281 yX9_hold : Cond) ∈ GW := gw_6 (i := 150) rfl rfl
theorem im_X9_hold : (.instanceMethod yX9_hold : Cond) ∈ GW := gw_6 (i := 152) rfl rfl
theorem cd_X9_hold : (.code yX9_hold cX9_hold 2 none : Cond) ∈ GW := gw_6 (i := 153) rfl rfl
theorem ml_X9_276 : (.methodLink RX9 276 yX9_isMark : Cond) ∈ GW := gw_6 (i := 154) rfl rfl
theorem im_X9_isMark : (.instanceMethod yX9_isMark : Cond) ∈ GW := gw_6 (i := 156) rfl rfl
theorem cd_X9_isMark : (.code yX9_isMark cX9_isMark 2 (some .boolean) : Cond) ∈ GW := gw_6 (i := 157) rfl rfl
theorem ml_X9_284 : (.methodLink RX9 284 yX9_wantAsk : Cond) ∈ GW := gw_6 (i := 158) rfl rfl
theorem im_X9_wantAsk : (.instanceMethod yX9_wantAsk : Cond) ∈ GW := gw_6 (i := 160) rfl rfl
theorem cd_X9_wantAsk : (.code yX9_wantAsk cX9_wantAsk 2 none : Cond) ∈ GW := gw_6 (i := 161) rfl rfl
theorem ml_X9_273 : (.methodLink RX9 273 yX9_wantValue : Cond) ∈ GW := gw_6 (i := 162) rfl rfl
theorem im_X9_wantValue : (.instanceMethod yX9_wantValue : Cond) ∈ GW := gw_6 (i := 164) rfl rfl
theorem cd_X9_wantValue : (.code yX9_wantValue cX9_wantValue 3 none : Cond) ∈ GW := gw_6 (i := 165) rfl rfl
theorem ml_X9_265 : (.methodLink RX9 265 yX9_wordHere : Cond) ∈ GW := gw_6 (i := 166) rfl rfl
theorem im_X9_wordHere : (.instanceMethod yX9_wordHere : Cond) ∈ GW := gw_6 (i := 168) rfl rfl
theorem cd_X9_wordHere : (.code yX9_wordHere cX9_wordHere 1 (some .int) : Cond) ∈ GW := gw_6 (i := 169) rfl rfl
theorem kL_X9_249 : (.constantLong RX9 249 (230433031) : Cond) ∈ GW := gw_6 (i := 170) rfl rfl
theorem kL_X9_255 : (.constantLong RX9 255 (283288069) : Cond) ∈ GW := gw_6 (i := 171) rfl rfl
theorem kL_X9_257 : (.constantLong RX9 257 (923) : Cond) ∈ GW := gw_6 (i := 172) rfl rfl
theorem kL_X9_259 : (.constantLong RX9 259 (377771) : Cond) ∈ GW := gw_6 (i := 173) rfl rfl
theorem kL_X9_261 : (.constantLong RX9 261 (4562600) : Cond) ∈ GW := gw_6 (i := 174) rfl rfl
theorem kL_X9_263 : (.constantLong RX9 263 (12588757) : Cond) ∈ GW := gw_6 (i := 175) rfl rfl
theorem ml_X9_245 : (.methodLink RX9 245 yX9_emit : Cond) ∈ GW := gw_6 (i := 176) rfl rfl
theorem im_X9_emit : (.instanceMethod yX9_emit : Cond) ∈ GW := gw_6 (i := 178) rfl rfl
theorem cd_X9_emit : (.code yX9_emit cX9_emit 2 none : Cond) ∈ GW := gw_6 (i := 179) rfl rfl
theorem kL_X9_268 : (.constantLong RX9 268 (10256063) : Cond) ∈ GW := gw_6 (i := 180) rfl rfl
theorem ml_X9_270 : (.methodLink RX9 270 yX9_wantNumber : Cond) ∈ GW := gw_6 (i := 181) rfl rfl
theorem im_X9_wantNumber : (.instanceMethod yX9_wantNumber : Cond) ∈ GW := gw_6 (i := 183) rfl rfl
theorem cd_X9_wantNumber : (.code yX9_wantNumber cX9_wantNumber 2 (some .int) : Cond) ∈ GW := gw_6 (i := 184) rfl rfl
theorem ml_X9_287 : (.methodLink RX9 287 yX9_settle : Cond) ∈ GW := gw_6 (i := 185) rfl rfl
theorem im_X9_settle : (.instanceMethod yX9_settle : Cond) ∈ GW := gw_6 (i := 187) rfl rfl
theorem cd_X9_settle : (.code yX9_settle cX9_settle 2 none : Cond) ∈ GW := gw_6 (i := 188) rfl rfl
theorem kL_X9_290 : (.constantLong RX9 290 (1111) : Cond) ∈ GW := gw_6 (i := 189) rfl rfl
theorem kL_X9_292 : (.constantLong RX9 292 (423) : Cond) ∈ GW := gw_6 (i := 190) rfl rfl
theorem ml_L_107 : (.methodLink "ElderPapersLaw" 107 yX9_takes : Cond) ∈ GW := gw_6 (i := 191) rfl rfl
theorem im_X9_takes : (.instanceMethod yX9_takes : Cond) ∈ GW := gw_6 (i := 192) rfl rfl
theorem sl_X9_takes : (.selects RX9 yX9_takes yX9_takes : Cond) ∈ GW := gw_6 (i := 193) rfl rfl
theorem cd_X9_takes : (.code yX9_takes cX9_takes 2 (some .int) : Cond) ∈ GW := gw_6 (i := 194) rfl rfl
theorem ml_X9_326 : (.methodLink RX9 326 yX9_isTaken : Cond) ∈ GW := gw_6 (i := 195) rfl rfl
theorem im_X9_isTaken : (.instanceMethod yX9_isTaken : Cond) ∈ GW := gw_6 (i := 197) rfl rfl
theorem cd_X9_isTaken : (.code yX9_isTaken cX9_isTaken 3 (some .boolean) : Cond) ∈ GW := gw_6 (i := 198) rfl rfl
theorem ml_X9_323 : (.methodLink RX9 323 yX9_clauseOf : Cond) ∈ GW := gw_6 (i := 199) rfl rfl
theorem im_X9_clauseOf : (.instanceMethod yX9_clauseOf : Cond) ∈ GW := gw_6 (i := 201) rfl rfl
theorem cd_X9_clauseOf : (.code yX9_clauseOf cX9_clauseOf 3 (some .int) : Cond) ∈ GW := gw_6 (i := 202) rfl rfl
theorem ml_X9_320 : (.methodLink RX9 320 yX9_holds : Cond) ∈ GW := gw_6 (i := 203) rfl rfl
theorem im_X9_holds : (.instanceMethod yX9_holds : Cond) ∈ GW := gw_6 (i := 205) rfl rfl
theorem cd_X9_holds : (.code yX9_holds cX9_holds 6 (some .boolean) : Cond) ∈ GW := gw_6 (i := 206) rfl rfl
theorem ml_X9_313 : (.methodLink RX9 313 yX9_joined : Cond) ∈ GW := gw_6 (i := 207) rfl rfl
theorem sm_X9_joined : (.static yX9_joined : Cond) ∈ GW := gw_6 (i := 208) rfl rfl
theorem cd_X9_joined : (.code yX9_joined cX9_joined 3 (some .int) : Cond) ∈ GW := gw_6 (i := 209) rfl rfl
theorem ml_X9_317 : (.methodLink RX9 317 yX9_valueOf : Cond) ∈ GW := gw_6 (i := 210) rfl rfl
theorem im_X9_valueOf : (.instanceMethod yX9_valueOf : Cond) ∈ GW := gw_6 (i := 212) rfl rfl
theorem cd_X9_valueOf : (.code yX9_valueOf cX9_valueOf 4 (some .int) : Cond) ∈ GW := gw_6 (i := 213) rfl rfl
theorem ml_X9_304 : (.methodLink RX9 304 yX9_hundredths : Cond) ∈ GW := gw_6 (i := 214) rfl rfl
theorem im_X9_hundredths : (.instanceMethod yX9_hundredths : Cond) ∈ GW := gw_6 (i := 216) rfl rfl
theorem cd_X9_hundredths : (.code yX9_hundredths cX9_hundredths 5 (some .int) : Cond) ∈ GW := gw_6 (i := 217) rfl rfl
theorem ml_X9_307 : (.methodLink RX9 307 yX9_standingOf : Cond) ∈ GW := gw_6 (i := 218) rfl rfl
theorem im_X9_standingOf : (.instanceMethod yX9_standingOf : Cond) ∈ GW := gw_6 (i := 220) rfl rfl
theorem cd_X9_standingOf : (.code yX9_standingOf cX9_standingOf 5 (some .int) : Cond) ∈ GW := gw_6 (i := 221) rfl rfl
theorem ml_X9_310 : (.methodLink RX9 310 yX9_wrongOf : Cond) ∈ GW := gw_6 (i := 222) rfl rfl
theorem im_X9_wrongOf : (.instanceMethod yX9_wrongOf : Cond) ∈ GW := gw_6 (i := 224) rfl rfl
theorem cd_X9_wrongOf : (.code yX9_wrongOf cX9_wrongOf 5 (some .int) : Cond) ∈ GW := gw_6 (i := 225) rfl rfl
theorem ml_L_111 : (.methodLink "ElderPapersLaw" 111 yX9_clause : Cond) ∈ GW := gw_6 (i := 226) rfl rfl
theorem im_X9_clause : (.instanceMethod yX9_clause : Cond) ∈ GW := gw_6 (i := 227) rfl rfl
theorem sl_X9_clause : (.selects RX9 yX9_clause yX9_clause : Cond) ∈ GW := gw_6 (i := 228) rfl rfl
theorem cd_X9_clause : (.code yX9_clause cX9_clause 3 (some .int) : Cond) ∈ GW := gw_6 (i := 229) rfl rfl
theorem ml_L_115 : (.methodLink "ElderPapersLaw" 115 yX9_truth : Cond) ∈ GW := gw_6 (i := 230) rfl rfl
theorem im_X9_truth : (.instanceMethod yX9_truth : Cond) ∈ GW := gw_6 (i := 231) rfl rfl
theorem sl_X9_truth : (.selects RX9 yX9_truth yX9_truth : Cond) ∈ GW := gw_6 (i := 232) rfl rfl
theorem cd_X9_truth : (.code yX9_truth cX9_truth 3 (some .int) : Cond) ∈ GW := gw_6 (i := 233) rfl rfl
theorem ml_L_119 : (.methodLink "ElderPapersLaw" 119 yX9_errs : Cond) ∈ GW := gw_6 (i := 234) rfl rfl
theorem im_X9_errs : (.instanceMethod yX9_errs : Cond) ∈ GW := gw_6 (i := 235) rfl rfl
theorem sl_X9_errs : (.selects RX9 yX9_errs yX9_errs : Cond) ∈ GW := gw_6 (i := 236) rfl rfl
theorem cd_X9_errs : (.code yX9_errs cX9_errs 7 (some .int) : Cond) ∈ GW := gw_6 (i := 237) rfl rfl
theorem ml_L_124 : (.methodLink "ElderPapersLaw" 124 yX9_draw : Cond) ∈ GW := gw_6 (i := 238) rfl rfl
theorem im_X9_draw : (.instanceMethod yX9_draw : Cond) ∈ GW := gw_6 (i := 239) rfl rfl
theorem sl_X9_draw : (.selects RX9 yX9_draw yX9_draw : Cond) ∈ GW := gw_7 (i := 0) rfl rfl
theorem cd_X9_draw : (.code yX9_draw cX9_draw 5 (some .int) : Cond) ∈ GW := gw_7 (i := 1) rfl rfl
theorem ml_L_128 : (.methodLink "ElderPapersLaw" 128 yX9_behind : Cond) ∈ GW := gw_7 (i := 2) rfl rfl
theorem im_X9_behind : (.instanceMethod yX9_behind : Cond) ∈ GW := gw_7 (i := 3) rfl rfl
theorem sl_X9_behind : (.selects RX9 yX9_behind yX9_behind : Cond) ∈ GW := gw_7 (i := 4) rfl rfl
theorem cd_X9_behind : (.code yX9_behind cX9_behind 2 (some .int) : Cond) ∈ GW := gw_7 (i := 5) rfl rfl
theorem ml_X9_332 : (.methodLink RX9 332 yX9_behindOf : Cond) ∈ GW := gw_7 (i := 6) rfl rfl
theorem im_X9_behindOf : (.instanceMethod yX9_behindOf : Cond) ∈ GW := gw_7 (i := 8) rfl rfl
theorem cd_X9_behindOf : (.code yX9_behindOf cX9_behindOf 7 (some .int) : Cond) ∈ GW := gw_7 (i := 9) rfl rfl
theorem ml_L_132 : (.methodLink "ElderPapersLaw" 132 yX9_suspect : Cond) ∈ GW := gw_7 (i := 10) rfl rfl
theorem im_X9_suspect : (.instanceMethod yX9_suspect : Cond) ∈ GW := gw_7 (i := 11) rfl rfl
theorem sl_X9_suspect : (.selects RX9 yX9_suspect yX9_suspect : Cond) ∈ GW := gw_7 (i := 12) rfl rfl
theorem cd_X9_suspect : (.code yX9_suspect cX9_suspect 7 (some .int) : Cond) ∈ GW := gw_7 (i := 13) rfl rfl
theorem ml_L_136 : (.methodLink "ElderPapersLaw" 136 yX9_heap : Cond) ∈ GW := gw_7 (i := 14) rfl rfl
theorem im_X9_heap : (.instanceMethod yX9_heap : Cond) ∈ GW := gw_7 (i := 15) rfl rfl
theorem sl_X9_heap : (.selects RX9 yX9_heap yX9_heap : Cond) ∈ GW := gw_7 (i := 16) rfl rfl
theorem cd_X9_heap : (.code yX9_heap cX9_heap 7 (some .int) : Cond) ∈ GW := gw_7 (i := 17) rfl rfl
theorem ml_L_140 : (.methodLink "ElderPapersLaw" 140 yX9_valley : Cond) ∈ GW := gw_7 (i := 18) rfl rfl
theorem im_X9_valley : (.instanceMethod yX9_valley : Cond) ∈ GW := gw_7 (i := 19) rfl rfl
theorem sl_X9_valley : (.selects RX9 yX9_valley yX9_valley : Cond) ∈ GW := gw_7 (i := 20) rfl rfl
theorem cd_X9_valley : (.code yX9_valley cX9_valley 12 (some .int) : Cond) ∈ GW := gw_7 (i := 21) rfl rfl
theorem ml_L_144 : (.methodLink "ElderPapersLaw" 144 yX9_question : Cond) ∈ GW := gw_7 (i := 22) rfl rfl
theorem im_X9_question : (.instanceMethod yX9_question : Cond) ∈ GW := gw_7 (i := 23) rfl rfl
theorem sl_X9_question : (.selects RX9 yX9_question yX9_question : Cond) ∈ GW := gw_7 (i := 24) rfl rfl
theorem cd_X9_question : (.code yX9_question cX9_question 4 (some .int) : Cond) ∈ GW := gw_7 (i := 25) rfl rfl
theorem ml_L_149 : (.methodLink "ElderPapersLaw" 149 yX9_answer : Cond) ∈ GW := gw_7 (i := 26) rfl rfl
theorem im_X9_answer : (.instanceMethod yX9_answer : Cond) ∈ GW := gw_7 (i := 27) rfl rfl
theorem sl_X9_answer : (.selects RX9 yX9_answer yX9_answer : Cond) ∈ GW := gw_7 (i := 28) rfl rfl
theorem cd_X9_answer : (.code yX9_answer cX9_answer 3 (some .int) : Cond) ∈ GW := gw_7 (i := 29) rfl rfl
theorem ml_X9_335 : (.methodLink RX9 335 yX9_answered : Cond) ∈ GW := gw_7 (i := 30) rfl rfl
theorem im_X9_answered : (.instanceMethod yX9_answered : Cond) ∈ GW := gw_7 (i := 32) rfl rfl
theorem cd_X9_answered : (.code yX9_answered cX9_answered 3 (some .int) : Cond) ∈ GW := gw_7 (i := 33) rfl rfl
theorem ml_L_153 : (.methodLink "ElderPapersLaw" 153 yX9_next : Cond) ∈ GW := gw_7 (i := 34) rfl rfl
theorem im_X9_next : (.instanceMethod yX9_next : Cond) ∈ GW := gw_7 (i := 35) rfl rfl
theorem sl_X9_next : (.selects RX9 yX9_next yX9_next : Cond) ∈ GW := gw_7 (i := 36) rfl rfl
theorem cd_X9_next : (.code yX9_next cX9_next 12 (some .int) : Cond) ∈ GW := gw_7 (i := 37) rfl rfl
theorem ml_L_157 : (.methodLink "ElderPapersLaw" 157 yX9_prove : Cond) ∈ GW := gw_7 (i := 38) rfl rfl
theorem im_X9_prove : (.instanceMethod yX9_prove : Cond) ∈ GW := gw_7 (i := 39) rfl rfl
theorem sl_X9_prove : (.selects RX9 yX9_prove yX9_prove : Cond) ∈ GW := gw_7 (i := 40) rfl rfl
theorem cd_X9_prove : (.code yX9_prove cX9_prove 4 (some .int) : Cond) ∈ GW := gw_7 (i := 41) rfl rfl
theorem ml_L_161 : (.methodLink "ElderPapersLaw" 161 yX9_row : Cond) ∈ GW := gw_7 (i := 42) rfl rfl
theorem im_X9_row : (.instanceMethod yX9_row : Cond) ∈ GW := gw_7 (i := 43) rfl rfl
theorem sl_X9_row : (.selects RX9 yX9_row yX9_row : Cond) ∈ GW := gw_7 (i := 44) rfl rfl
theorem cd_X9_row : (.code yX9_row cX9_row 3 (some .int) : Cond) ∈ GW := gw_7 (i := 45) rfl rfl
theorem ml_X9_341 : (.methodLink RX9 341 yX9_isRow : Cond) ∈ GW := gw_7 (i := 46) rfl rfl
theorem im_X9_isRow : (.instanceMethod yX9_isRow : Cond) ∈ GW := gw_7 (i := 48) rfl rfl
theorem cd_X9_isRow : (.code yX9_isRow cX9_isRow 3 (some .boolean) : Cond) ∈ GW := gw_7 (i := 49) rfl rfl
theorem ml_L_165 : (.methodLink "ElderPapersLaw" 165 yX9_alterRow : Cond) ∈ GW := gw_7 (i := 50) rfl rfl
theorem im_X9_alterRow : (.instanceMethod yX9_alterRow : Cond) ∈ GW := gw_7 (i := 51) rfl rfl
theorem sl_X9_alterRow : (.selects RX9 yX9_alterRow yX9_alterRow : Cond) ∈ GW := gw_7 (i := 52) rfl rfl
theorem cd_X9_alterRow : (.code yX9_alterRow cX9_alterRow 5 (some .int) : Cond) ∈ GW := gw_7 (i := 53) rfl rfl
theorem ml_L_169 : (.methodLink "ElderPapersLaw" 169 yX9_judge : Cond) ∈ GW := gw_7 (i := 54) rfl rfl
theorem im_X9_judge : (.instanceMethod yX9_judge : Cond) ∈ GW := gw_7 (i := 55) rfl rfl
theorem sl_X9_judge : (.selects RX9 yX9_judge yX9_judge : Cond) ∈ GW := gw_7 (i := 56) rfl rfl
theorem cd_X9_judge : (.code yX9_judge cX9_judge 5 (some .int) : Cond) ∈ GW := gw_7 (i := 57) rfl rfl
theorem ml_X9_344 : (.methodLink RX9 344 yX9_paperFrom : Cond) ∈ GW := gw_7 (i := 58) rfl rfl
theorem im_X9_paperFrom : (.instanceMethod yX9_paperFrom : Cond) ∈ GW := gw_7 (i := 60) rfl rfl
theorem cd_X9_paperFrom : (.code yX9_paperFrom cX9_paperFrom 4 (some .int) : Cond) ∈ GW := gw_7 (i := 61) rfl rfl
theorem ml_L_173 : (.methodLink "ElderPapersLaw" 173 yX9_sheet : Cond) ∈ GW := gw_7 (i := 62) rfl rfl
theorem im_X9_sheet : (.instanceMethod yX9_sheet : Cond) ∈ GW := gw_7 (i := 63) rfl rfl
theorem sl_X9_sheet : (.selects RX9 yX9_sheet yX9_sheet : Cond) ∈ GW := gw_7 (i := 64) rfl rfl
theorem cd_X9_sheet : (.code yX9_sheet cX9_sheet 5 (some .int) : Cond) ∈ GW := gw_7 (i := 65) rfl rfl
theorem ml_L_177 : (.methodLink "ElderPapersLaw" 177 yX9_put : Cond) ∈ GW := gw_7 (i := 66) rfl rfl
theorem im_X9_put : (.instanceMethod yX9_put : Cond) ∈ GW := gw_7 (i := 67) rfl rfl
theorem sl_X9_put : (.selects RX9 yX9_put yX9_put : Cond) ∈ GW := gw_7 (i := 68) rfl rfl
theorem cd_X9_put : (.code yX9_put cX9_put 4 (some .int) : Cond) ∈ GW := gw_7 (i := 69) rfl rfl
theorem ml_L_181 : (.methodLink "ElderPapersLaw" 181 yX9_item : Cond) ∈ GW := gw_7 (i := 70) rfl rfl
theorem im_X9_item : (.instanceMethod yX9_item : Cond) ∈ GW := gw_7 (i := 71) rfl rfl
theorem sl_X9_item : (.selects RX9 yX9_item yX9_item : Cond) ∈ GW := gw_7 (i := 72) rfl rfl
theorem cd_X9_item : (.code yX9_item cX9_item 5 (some .int) : Cond) ∈ GW := gw_7 (i := 73) rfl rfl
theorem ml_L_185 : (.methodLink "ElderPapersLaw" 185 yX9_register : Cond) ∈ GW := gw_7 (i := 74) rfl rfl
theorem im_X9_register : (.instanceMethod yX9_register : Cond) ∈ GW := gw_7 (i := 75) rfl rfl
theorem sl_X9_register : (.selects RX9 yX9_register yX9_register : Cond) ∈ GW := gw_7 (i := 76) rfl rfl
theorem cd_X9_register : (.code yX9_register cX9_register 10 (some .int) : Cond) ∈ GW := gw_7 (i := 77) rfl rfl
theorem ml_X9_347 : (.methodLink RX9 347 yX9_paper : Cond) ∈ GW := gw_7 (i := 78) rfl rfl
theorem ml_L_189 : (.methodLink "ElderPapersLaw" 189 yX9_shelf : Cond) ∈ GW := gw_7 (i := 79) rfl rfl
theorem im_X9_shelf : (.instanceMethod yX9_shelf : Cond) ∈ GW := gw_7 (i := 80) rfl rfl
theorem sl_X9_shelf : (.selects RX9 yX9_shelf yX9_shelf : Cond) ∈ GW := gw_7 (i := 81) rfl rfl
theorem cd_X9_shelf : (.code yX9_shelf cX9_shelf 4 (some .int) : Cond) ∈ GW := gw_7 (i := 82) rfl rfl
theorem ml_X9_350 : (.methodLink RX9 350 yX9_isThing : Cond) ∈ GW := gw_7 (i := 83) rfl rfl
theorem im_X9_isThing : (.instanceMethod yX9_isThing : Cond) ∈ GW := gw_7 (i := 85) rfl rfl
theorem cd_X9_isThing : (.code yX9_isThing cX9_isThing 3 (some .boolean) : Cond) ∈ GW := gw_7 (i := 86) rfl rfl
theorem ml_L_193 : (.methodLink "ElderPapersLaw" 193 yX9_taken : Cond) ∈ GW := gw_7 (i := 87) rfl rfl
theorem im_X9_taken : (.instanceMethod yX9_taken : Cond) ∈ GW := gw_7 (i := 88) rfl rfl
theorem sl_X9_taken : (.selects RX9 yX9_taken yX9_taken : Cond) ∈ GW := gw_7 (i := 89) rfl rfl
theorem cd_X9_taken : (.code yX9_taken cX9_taken 4 (some .int) : Cond) ∈ GW := gw_7 (i := 90) rfl rfl
theorem ml_X9_353 : (.methodLink RX9 353 yX9_kindOn : Cond) ∈ GW := gw_7 (i := 91) rfl rfl
theorem im_X9_kindOn : (.instanceMethod yX9_kindOn : Cond) ∈ GW := gw_7 (i := 93) rfl rfl
theorem cd_X9_kindOn : (.code yX9_kindOn cX9_kindOn 4 (some .int) : Cond) ∈ GW := gw_7 (i := 94) rfl rfl
theorem ml_X9_356 : (.methodLink RX9 356 yX9_isUnder : Cond) ∈ GW := gw_7 (i := 95) rfl rfl
theorem sm_X9_isUnder : (.static yX9_isUnder : Cond) ∈ GW := gw_7 (i := 96) rfl rfl
theorem cd_X9_isUnder : (.code yX9_isUnder cX9_isUnder 2 (some .boolean) : Cond) ∈ GW := gw_7 (i := 97) rfl rfl
theorem ml_L_197 : (.methodLink "ElderPapersLaw" 197 yX9_act : Cond) ∈ GW := gw_7 (i := 98) rfl rfl
theorem im_X9_act : (.instanceMethod yX9_act : Cond) ∈ GW := gw_7 (i := 99) rfl rfl
theorem sl_X9_act : (.selects RX9 yX9_act yX9_act : Cond) ∈ GW := gw_7 (i := 100) rfl rfl
theorem cd_X9_act : (.code yX9_act cX9_act 5 (some .int) : Cond) ∈ GW := gw_7 (i := 101) rfl rfl
theorem ml_X9_371 : (.methodLink RX9 371 yX9_saysIt : Cond) ∈ GW := gw_7 (i := 102) rfl rfl
theorem im_X9_saysIt : (.instanceMethod yX9_saysIt : Cond) ∈ GW := gw_7 (i := 104) rfl rfl
theorem cd_X9_saysIt : (.code yX9_saysIt cX9_saysIt 4 (some .int) : Cond) ∈ GW := gw_7 (i := 105) rfl rfl
theorem ml_X9_365 : (.methodLink RX9 365 yX9_ran : Cond) ∈ GW := gw_7 (i := 106) rfl rfl
theorem im_X9_ran : (.instanceMethod yX9_ran : Cond) ∈ GW := gw_7 (i := 108) rfl rfl
theorem cd_X9_ran : (.code yX9_ran cX9_ran 2 none : Cond) ∈ GW := gw_7 (i := 109) rfl rfl
theorem ml_X9_387 : (.methodLink RX9 387 yX9_leansIt : Cond) ∈ GW := gw_7 (i := 110) rfl rfl
theorem im_X9_leansIt : (.instanceMethod yX9_leansIt : Cond) ∈ GW := gw_7 (i := 112) rfl rfl
theorem cd_X9_leansIt : (.code yX9_leansIt cX9_leansIt 2 (some .int) : Cond) ∈ GW := gw_7 (i := 113) rfl rfl
theorem ml_X9_380 : (.methodLink RX9 380 yX9_countLeans : Cond) ∈ GW := gw_7 (i := 114) rfl rfl
theorem im_X9_countLeans : (.instanceMethod yX9_countLeans : Cond) ∈ GW := gw_7 (i := 116) rfl rfl
theorem cd_X9_countLeans : (.code yX9_countLeans cX9_countLeans 3 (some .int) : Cond) ∈ GW := gw_7 (i := 117) rfl rfl
theorem ml_X9_374 : (.methodLink RX9 374 yX9_paperLeans : Cond) ∈ GW := gw_7 (i := 118) rfl rfl
theorem im_X9_paperLeans : (.instanceMethod yX9_paperLeans : Cond) ∈ GW := gw_7 (i := 120) rfl rfl
theorem cd_X9_paperLeans : (.code yX9_paperLeans cX9_paperLeans 2 (some .int) : Cond) ∈ GW := gw_7 (i := 121) rfl rfl
theorem ml_X9_393 : (.methodLink RX9 393 yX9_fitsIt : Cond) ∈ GW := gw_7 (i := 122) rfl rfl
theorem im_X9_fitsIt : (.instanceMethod yX9_fitsIt : Cond) ∈ GW := gw_7 (i := 124) rfl rfl
theorem cd_X9_fitsIt : (.code yX9_fitsIt cX9_fitsIt 3 (some .int) : Cond) ∈ GW := gw_7 (i := 125) rfl rfl
theorem ml_X9_396 : (.methodLink RX9 396 yX9_tellsIt : Cond) ∈ GW := gw_7 (i := 126) rfl rfl
theorem im_X9_tellsIt : (.instanceMethod yX9_tellsIt : Cond) ∈ GW := gw_7 (i := 128) rfl rfl
theorem cd_X9_tellsIt : (.code yX9_tellsIt cX9_tellsIt 3 (some .int) : Cond) ∈ GW := gw_7 (i := 129) rfl rfl
theorem ml_X9_390 : (.methodLink RX9 390 yX9_paperTells : Cond) ∈ GW := gw_7 (i := 130) rfl rfl
theorem im_X9_paperTells : (.instanceMethod yX9_paperTells : Cond) ∈ GW := gw_7 (i := 132) rfl rfl
theorem cd_X9_paperTells : (.code yX9_paperTells cX9_paperTells 2 (some .int) : Cond) ∈ GW := gw_7 (i := 133) rfl rfl
theorem ml_L_201 : (.methodLink "ElderPapersLaw" 201 yX9_trace : Cond) ∈ GW := gw_7 (i := 134) rfl rfl
theorem im_X9_trace : (.instanceMethod yX9_trace : Cond) ∈ GW := gw_7 (i := 135) rfl rfl
theorem sl_X9_trace : (.selects RX9 yX9_trace yX9_trace : Cond) ∈ GW := gw_7 (i := 136) rfl rfl
theorem cd_X9_trace : (.code yX9_trace cX9_trace 2 (some .int) : Cond) ∈ GW := gw_7 (i := 137) rfl rfl
theorem ml_L_205 : (.methodLink "ElderPapersLaw" 205 yX9_many : Cond) ∈ GW := gw_7 (i := 138) rfl rfl
theorem im_X9_many : (.instanceMethod yX9_many : Cond) ∈ GW := gw_7 (i := 139) rfl rfl
theorem sl_X9_many : (.selects RX9 yX9_many yX9_many : Cond) ∈ GW := gw_7 (i := 140) rfl rfl
theorem cd_X9_many : (.code yX9_many cX9_many 2 (some .int) : Cond) ∈ GW := gw_7 (i := 141) rfl rfl
theorem ml_L_209 : (.methodLink "ElderPapersLaw" 209 yX9_keep : Cond) ∈ GW := gw_7 (i := 142) rfl rfl
theorem im_X9_keep : (.instanceMethod yX9_keep : Cond) ∈ GW := gw_7 (i := 143) rfl rfl
theorem sl_X9_keep : (.selects RX9 yX9_keep yX9_keep : Cond) ∈ GW := gw_7 (i := 144) rfl rfl
theorem cd_X9_keep : (.code yX9_keep cX9_keep 1 (some .int) : Cond) ∈ GW := gw_7 (i := 145) rfl rfl
theorem ml_X9_406 : (.methodLink RX9 406 yX9_moveAll : Cond) ∈ GW := gw_7 (i := 146) rfl rfl
theorem im_X9_moveAll : (.instanceMethod yX9_moveAll : Cond) ∈ GW := gw_7 (i := 148) rfl rfl
theorem cd_X9_moveAll : (.code yX9_moveAll cX9_moveAll 2 none : Cond) ∈ GW := gw_7 (i := 149) rfl rfl
theorem ml_X9_402 : (.methodLink RX9 402 yX9_move : Cond) ∈ GW := gw_7 (i := 150) rfl rfl
theorem im_X9_move : (.instanceMethod yX9_move : Cond) ∈ GW := gw_7 (i := 152) rfl rfl
theorem cd_X9_move : (.code yX9_move cX9_move 5 none : Cond) ∈ GW := gw_7 (i := 153) rfl rfl
theorem ml_L_213 : (.methodLink "ElderPapersLaw" 213 yX9_again : Cond) ∈ GW := gw_7 (i := 154) rfl rfl
theorem im_X9_again : (.instanceMethod yX9_again : Cond) ∈ GW := gw_7 (i := 155) rfl rfl
theorem sl_X9_again : (.selects RX9 yX9_again yX9_again : Cond) ∈ GW := gw_7 (i := 156) rfl rfl
theorem cd_X9_again : (.code yX9_again cX9_again 1 (some .int) : Cond) ∈ GW := gw_7 (i := 157) rfl rfl
theorem kL_L_93 : (.constantLong "ElderPapersLaw" 93 (4294967295) : Cond) ∈ GW := gw_7 (i := 158) rfl rfl
theorem fl_J0_9 : (.fieldLink RJ0 9 "java/lang/String" "value" "[B" : Cond) ∈ GW := gw_7 (i := 159) rfl rfl
theorem fl_J0_15 : (.fieldLink RJ0 15 "java/lang/String" "coder" "B" : Cond) ∈ GW := gw_7 (i := 160) rfl rfl
theorem sl_X2_begin : (.selects RX2 yX2_begin yX2_begin : Cond) ∈ GW := gp_1 (i := 0) (n := 4) rfl
theorem sl_X2_take : (.selects RX2 yX2_take yX2_take : Cond) ∈ GW := gp_1 (i := 1) (n := 4) rfl
theorem sl_X2_sum : (.selects RX2 yX2_sum yX2_sum : Cond) ∈ GW := gp_1 (i := 2) (n := 4) rfl
theorem sl_X0_placeByMade : (.selects RX0 yX0_placeByMade yX0_placeByMade : Cond) ∈ GW := gp_1 (i := 3) (n := 8) rfl
theorem sl_X0_areAllInSpan : (.selects RX0 yX0_areAllInSpan yX0_areAllInSpan : Cond) ∈ GW := gp_1 (i := 4) (n := 8) rfl
theorem sl_X0_restsOn : (.selects RX0 yX0_restsOn yX0_restsOn : Cond) ∈ GW := gp_1 (i := 5) (n := 8) rfl
theorem sl_X7_nextToken : (.selects RX7 yX7_nextToken yX7_nextToken : Cond) ∈ GW := gp_1 (i := 6) (n := 11) rfl
theorem sl_X7_byteAt : (.selects RX7 yX7_byteAt yX7_byteAt : Cond) ∈ GW := gp_1 (i := 7) (n := 11) rfl
theorem sl_X7_isLetter : (.selects RX7 yX7_isLetter yX7_isLetter : Cond) ∈ GW := gp_1 (i := 8) (n := 11) rfl
theorem sl_X7_wordToken : (.selects RX7 yX7_wordToken yX7_wordToken : Cond) ∈ GW := gp_1 (i := 9) (n := 11) rfl
theorem sl_X7_isWord : (.selects RX7 yX7_isWord yX7_isWord : Cond) ∈ GW := gp_1 (i := 10) (n := 11) rfl
theorem sl_X7_isDigit : (.selects RX7 yX7_isDigit yX7_isDigit : Cond) ∈ GW := gp_1 (i := 11) (n := 11) rfl
theorem sl_X7_numberToken : (.selects RX7 yX7_numberToken yX7_numberToken : Cond) ∈ GW := gp_1 (i := 12) (n := 11) rfl
theorem sl_X7_signToken : (.selects RX7 yX7_signToken yX7_signToken : Cond) ∈ GW := gp_1 (i := 13) (n := 11) rfl
theorem sl_X7_isAccepted : (.selects RX7 yX7_isAccepted yX7_isAccepted : Cond) ∈ GW := gp_1 (i := 14) (n := 11) rfl
theorem sl_X7_isClauseBegun : (.selects RX7 yX7_isClauseBegun yX7_isClauseBegun : Cond) ∈ GW := gp_1 (i := 15) (n := 11) rfl
theorem sl_X7_isOneOpened : (.selects RX7 yX7_isOneOpened yX7_isOneOpened : Cond) ∈ GW := gp_2 (i := 0) (n := 11) rfl
theorem sl_X7_isValueBegun : (.selects RX7 yX7_isValueBegun yX7_isValueBegun : Cond) ∈ GW := gp_2 (i := 1) (n := 11) rfl
theorem sl_X7_isValueTold : (.selects RX7 yX7_isValueTold yX7_isValueTold : Cond) ∈ GW := gp_2 (i := 2) (n := 11) rfl
theorem sl_X7_addStep : (.selects RX7 yX7_addStep yX7_addStep : Cond) ∈ GW := gp_2 (i := 3) (n := 11) rfl
theorem sl_X7_isSignTold : (.selects RX7 yX7_isSignTold yX7_isSignTold : Cond) ∈ GW := gp_2 (i := 4) (n := 11) rfl
theorem sl_X7_isOneFollowed : (.selects RX7 yX7_isOneFollowed yX7_isOneFollowed : Cond) ∈ GW := gp_2 (i := 5) (n := 11) rfl
theorem sl_X7_settle : (.selects RX7 yX7_settle yX7_settle : Cond) ∈ GW := gp_2 (i := 6) (n := 11) rfl
theorem sl_X1_learn : (.selects RX1 yX1_learn yX1_learn : Cond) ∈ GW := gp_2 (i := 7) (n := 5) rfl
theorem sl_X1_holds : (.selects RX1 yX1_holds yX1_holds : Cond) ∈ GW := gp_2 (i := 8) (n := 5) rfl
theorem sl_X1_join : (.selects RX1 yX1_join yX1_join : Cond) ∈ GW := gp_2 (i := 9) (n := 5) rfl
theorem sl_X1_valueOf : (.selects RX1 yX1_valueOf yX1_valueOf : Cond) ∈ GW := gp_2 (i := 10) (n := 5) rfl
theorem sl_X8_suspectsAheadOf : (.selects RX8 yX8_suspectsAheadOf yX8_suspectsAheadOf : Cond) ∈ GW := gp_2 (i := 11) (n := 11) rfl
theorem sl_X8_isOld : (.selects RX8 yX8_isOld yX8_isOld : Cond) ∈ GW := gp_2 (i := 12) (n := 11) rfl
theorem sl_X8_addRow : (.selects RX8 yX8_addRow yX8_addRow : Cond) ∈ GW := gp_2 (i := 13) (n := 11) rfl
theorem sl_X8_shelve : (.selects RX8 yX8_shelve yX8_shelve : Cond) ∈ GW := gp_2 (i := 14) (n := 11) rfl
theorem sl_X8_shelveRow : (.selects RX8 yX8_shelveRow yX8_shelveRow : Cond) ∈ GW := gp_2 (i := 15) (n := 11) rfl
theorem sl_X8_heldOn : (.selects RX8 yX8_heldOn yX8_heldOn : Cond) ∈ GW := gp_3 (i := 0) (n := 11) rfl
theorem sl_X8_kindOn : (.selects RX8 yX8_kindOn yX8_kindOn : Cond) ∈ GW := gp_3 (i := 1) (n := 11) rfl
theorem sl_X6_saysOf : (.selects RX6 yX6_saysOf yX6_saysOf : Cond) ∈ GW := gp_3 (i := 2) (n := 5) rfl
theorem sl_X6_runs : (.selects RX6 yX6_runs yX6_runs : Cond) ∈ GW := gp_3 (i := 3) (n := 5) rfl
theorem sl_X6_leansOf : (.selects RX6 yX6_leansOf yX6_leansOf : Cond) ∈ GW := gp_3 (i := 4) (n := 5) rfl
theorem sl_X6_fitsOf : (.selects RX6 yX6_fitsOf yX6_fitsOf : Cond) ∈ GW := gp_3 (i := 5) (n := 5) rfl
theorem sl_X6_tellsOf : (.selects RX6 yX6_tellsOf yX6_tellsOf : Cond) ∈ GW := gp_3 (i := 6) (n := 5) rfl
theorem sl_X9_isPerson : (.selects RX9 yX9_isPerson yX9_isPerson : Cond) ∈ GW := gp_3 (i := 7) (n := 48) rfl
theorem sl_X9_seenOf : (.selects RX9 yX9_seenOf yX9_seenOf : Cond) ∈ GW := gp_3 (i := 8) (n := 48) rfl
theorem sl_X9_papersOf : (.selects RX9 yX9_papersOf yX9_papersOf : Cond) ∈ GW := gp_3 (i := 9) (n := 48) rfl
theorem sl_X9_isPaper : (.selects RX9 yX9_isPaper yX9_isPaper : Cond) ∈ GW := gp_3 (i := 10) (n := 48) rfl
theorem sl_X9_spans : (.selects RX9 yX9_spans yX9_spans : Cond) ∈ GW := gp_3 (i := 11) (n := 48) rfl
theorem sl_X9_lacksSort : (.selects RX9 yX9_lacksSort yX9_lacksSort : Cond) ∈ GW := gp_3 (i := 12) (n := 48) rfl
theorem sl_X9_weightOf : (.selects RX9 yX9_weightOf yX9_weightOf : Cond) ∈ GW := gp_3 (i := 13) (n := 48) rfl
theorem sl_X9_isLeftOut : (.selects RX9 yX9_isLeftOut yX9_isLeftOut : Cond) ∈ GW := gp_3 (i := 14) (n := 48) rfl
theorem sl_X9_allOf : (.selects RX9 yX9_allOf yX9_allOf : Cond) ∈ GW := gp_3 (i := 15) (n := 48) rfl
theorem sl_X9_sumOf : (.selects RX9 yX9_sumOf yX9_sumOf : Cond) ∈ GW := gp_4 (i := 0) (n := 48) rfl
theorem sl_X9_bestOf : (.selects RX9 yX9_bestOf yX9_bestOf : Cond) ∈ GW := gp_4 (i := 1) (n := 48) rfl
theorem sl_X9_partOf : (.selects RX9 yX9_partOf yX9_partOf : Cond) ∈ GW := gp_4 (i := 2) (n := 48) rfl
theorem sl_X9_commonOf : (.selects RX9 yX9_commonOf yX9_commonOf : Cond) ∈ GW := gp_4 (i := 3) (n := 48) rfl
theorem sl_X9_isCommon : (.selects RX9 yX9_isCommon yX9_isCommon : Cond) ∈ GW := gp_4 (i := 4) (n := 48) rfl
theorem sl_X9_orderOf : (.selects RX9 yX9_orderOf yX9_orderOf : Cond) ∈ GW := gp_4 (i := 5) (n := 48) rfl
theorem sl_X9_agree : (.selects RX9 yX9_agree yX9_agree : Cond) ∈ GW := gp_4 (i := 6) (n := 48) rfl
theorem sl_X9_standing : (.selects RX9 yX9_standing yX9_standing : Cond) ∈ GW := gp_4 (i := 7) (n := 48) rfl
theorem sl_X9_under : (.selects RX9 yX9_under yX9_under : Cond) ∈ GW := gp_4 (i := 8) (n := 48) rfl
theorem sl_X9_below : (.selects RX9 yX9_below yX9_below : Cond) ∈ GW := gp_4 (i := 9) (n := 48) rfl
theorem sl_X9_advance : (.selects RX9 yX9_advance yX9_advance : Cond) ∈ GW := gp_4 (i := 10) (n := 48) rfl
theorem sl_X9_isGood : (.selects RX9 yX9_isGood yX9_isGood : Cond) ∈ GW := gp_4 (i := 11) (n := 48) rfl
theorem sl_X9_isWord : (.selects RX9 yX9_isWord yX9_isWord : Cond) ∈ GW := gp_4 (i := 12) (n := 48) rfl
theorem sl_X9_want : (.selects RX9 yX9_want yX9_want : Cond) ∈ GW := gp_4 (i := 13) (n := 48) rfl
theorem sl_X9_faulty : (.selects RX9 yX9_faulty yX9_faulty : Cond) ∈ GW := gp_4 (i := 14) (n := 48) rfl
theorem sl_X9_wantCond : (.selects RX9 yX9_wantCond yX9_wantCond : Cond) ∈ GW := gp_4 (i := 15) (n := 48) rfl
theorem sl_X9_hold : (.selects RX9 yX9_hold yX9_hold : Cond) ∈ GW := gp_5 (i := 0) (n := 48) rfl
theorem sl_X9_isMark : (.selects RX9 yX9_isMark yX9_isMark : Cond) ∈ GW := gp_5 (i := 1) (n := 48) rfl
theorem sl_X9_wantAsk : (.selects RX9 yX9_wantAsk yX9_wantAsk : Cond) ∈ GW := gp_5 (i := 2) (n := 48) rfl
theorem sl_X9_wantValue : (.selects RX9 yX9_wantValue yX9_wantValue : Cond) ∈ GW := gp_5 (i := 3) (n := 48) rfl
theorem sl_X9_wordHere : (.selects RX9 yX9_wordHere yX9_wordHere : Cond) ∈ GW := gp_5 (i := 4) (n := 48) rfl
theorem sl_X9_emit : (.selects RX9 yX9_emit yX9_emit : Cond) ∈ GW := gp_5 (i := 5) (n := 48) rfl
theorem sl_X9_wantNumber : (.selects RX9 yX9_wantNumber yX9_wantNumber : Cond) ∈ GW := gp_5 (i := 6) (n := 48) rfl
theorem sl_X9_settle : (.selects RX9 yX9_settle yX9_settle : Cond) ∈ GW := gp_5 (i := 7) (n := 48) rfl
theorem sl_X9_isTaken : (.selects RX9 yX9_isTaken yX9_isTaken : Cond) ∈ GW := gp_5 (i := 8) (n := 48) rfl
theorem sl_X9_clauseOf : (.selects RX9 yX9_clauseOf yX9_clauseOf : Cond) ∈ GW := gp_5 (i := 9) (n := 48) rfl
theorem sl_X9_holds : (.selects RX9 yX9_holds yX9_holds : Cond) ∈ GW := gp_5 (i := 10) (n := 48) rfl
theorem sl_X9_valueOf : (.selects RX9 yX9_valueOf yX9_valueOf : Cond) ∈ GW := gp_5 (i := 11) (n := 48) rfl
theorem sl_X9_hundredths : (.selects RX9 yX9_hundredths yX9_hundredths : Cond) ∈ GW := gp_5 (i := 12) (n := 48) rfl
theorem sl_X9_standingOf : (.selects RX9 yX9_standingOf yX9_standingOf : Cond) ∈ GW := gp_5 (i := 13) (n := 48) rfl
theorem sl_X9_wrongOf : (.selects RX9 yX9_wrongOf yX9_wrongOf : Cond) ∈ GW := gp_5 (i := 14) (n := 48) rfl
theorem sl_X9_behindOf : (.selects RX9 yX9_behindOf yX9_behindOf : Cond) ∈ GW := gp_5 (i := 15) (n := 48) rfl
theorem sl_X9_answered : (.selects RX9 yX9_answered yX9_answered : Cond) ∈ GW := gp_6 (i := 0) (n := 48) rfl
theorem sl_X9_isRow : (.selects RX9 yX9_isRow yX9_isRow : Cond) ∈ GW := gp_6 (i := 1) (n := 48) rfl
theorem sl_X9_paperFrom : (.selects RX9 yX9_paperFrom yX9_paperFrom : Cond) ∈ GW := gp_6 (i := 2) (n := 48) rfl
theorem sl_X9_isThing : (.selects RX9 yX9_isThing yX9_isThing : Cond) ∈ GW := gp_6 (i := 3) (n := 48) rfl
theorem sl_X9_kindOn : (.selects RX9 yX9_kindOn yX9_kindOn : Cond) ∈ GW := gp_6 (i := 4) (n := 48) rfl
theorem sl_X9_saysIt : (.selects RX9 yX9_saysIt yX9_saysIt : Cond) ∈ GW := gp_6 (i := 5) (n := 48) rfl
theorem sl_X9_ran : (.selects RX9 yX9_ran yX9_ran : Cond) ∈ GW := gp_6 (i := 6) (n := 48) rfl
theorem sl_X9_leansIt : (.selects RX9 yX9_leansIt yX9_leansIt : Cond) ∈ GW := gp_6 (i := 7) (n := 48) rfl
theorem sl_X9_countLeans : (.selects RX9 yX9_countLeans yX9_countLeans : Cond) ∈ GW := gp_6 (i := 8) (n := 48) rfl
theorem sl_X9_paperLeans : (.selects RX9 yX9_paperLeans yX9_paperLeans : Cond) ∈ GW := gp_6 (i := 9) (n := 48) rfl
theorem sl_X9_fitsIt : (.selects RX9 yX9_fitsIt yX9_fitsIt : Cond) ∈ GW := gp_6 (i := 10) (n := 48) rfl
theorem sl_X9_tellsIt : (.selects RX9 yX9_tellsIt yX9_tellsIt : Cond) ∈ GW := gp_6 (i := 11) (n := 48) rfl
theorem sl_X9_paperTells : (.selects RX9 yX9_paperTells yX9_paperTells : Cond) ∈ GW := gp_6 (i := 12) (n := 48) rfl
theorem sl_X9_moveAll : (.selects RX9 yX9_moveAll yX9_moveAll : Cond) ∈ GW := gp_6 (i := 13) (n := 48) rfl
theorem sl_X9_move : (.selects RX9 yX9_move yX9_move : Cond) ∈ GW := gp_6 (i := 14) (n := 48) rfl
theorem hinX0 : ∀ u ∈ u_ws RX0 TX0 8, u ∈ GW := by
  show ∀ u ∈ [u_lay RX0 TX0 0, u_lay RX0 TX0 1, u_lay RX0 TX0 2, u_lay RX0 TX0 3, u_lay RX0 TX0 4, u_lay RX0 TX0 5, u_lay RX0 TX0 6, u_lay RX0 TX0 7], u ∈ GW
  exact List.forall_mem_cons.mpr ⟨ly_X0_persons, List.forall_mem_cons.mpr ⟨ly_X0_papers, List.forall_mem_cons.mpr ⟨ly_X0_life, List.forall_mem_cons.mpr ⟨ly_X0_draws, List.forall_mem_cons.mpr ⟨ly_X0_questions, List.forall_mem_cons.mpr ⟨ly_X0_clauses, List.forall_mem_cons.mpr ⟨ly_X0_steps, List.forall_mem_cons.mpr ⟨ly_X0_restsTold, fun _ h => absurd h List.not_mem_nil⟩⟩⟩⟩⟩⟩⟩⟩
theorem hinX1 : ∀ u ∈ u_ws RX1 TX1 5, u ∈ GW := by
  show ∀ u ∈ [u_lay RX1 TX1 0, u_lay RX1 TX1 1, u_lay RX1 TX1 2, u_lay RX1 TX1 3, u_lay RX1 TX1 4], u ∈ GW
  exact List.forall_mem_cons.mpr ⟨ly_X1_truths, List.forall_mem_cons.mpr ⟨ly_X1_papers, List.forall_mem_cons.mpr ⟨ly_X1_stands, List.forall_mem_cons.mpr ⟨ly_X1_house, List.forall_mem_cons.mpr ⟨ly_X1_missed, fun _ h => absurd h List.not_mem_nil⟩⟩⟩⟩⟩
theorem hinX2 : ∀ u ∈ u_ws RX2 TX2 4, u ∈ GW := by
  show ∀ u ∈ [u_lay RX2 TX2 0, u_lay RX2 TX2 1, u_lay RX2 TX2 2, u_lay RX2 TX2 3], u ∈ GW
  exact List.forall_mem_cons.mpr ⟨ly_X2_weights, List.forall_mem_cons.mpr ⟨ly_X2_seen, List.forall_mem_cons.mpr ⟨ly_X2_total, List.forall_mem_cons.mpr ⟨ly_X2_bestYear, fun _ h => absurd h List.not_mem_nil⟩⟩⟩⟩
theorem hinX3 : ∀ u ∈ u_ws RX3 TX3 2, u ∈ GW := by
  show ∀ u ∈ [u_lay RX3 TX3 0, u_lay RX3 TX3 1], u ∈ GW
  exact List.forall_mem_cons.mpr ⟨ly_X3_numbers, List.forall_mem_cons.mpr ⟨ly_X3_count, fun _ h => absurd h List.not_mem_nil⟩⟩
theorem hinX4 : ∀ u ∈ u_ws RX4 TX4 3, u ∈ GW := by
  show ∀ u ∈ [u_lay RX4 TX4 0, u_lay RX4 TX4 1, u_lay RX4 TX4 2], u ∈ GW
  exact List.forall_mem_cons.mpr ⟨ly_X4_items, List.forall_mem_cons.mpr ⟨ly_X4_sort, List.forall_mem_cons.mpr ⟨ly_X4_size, fun _ h => absurd h List.not_mem_nil⟩⟩⟩
theorem hinX5 : ∀ u ∈ u_ws RX5 TX5 4, u ∈ GW := by
  show ∀ u ∈ [u_lay RX5 TX5 0, u_lay RX5 TX5 1, u_lay RX5 TX5 2, u_lay RX5 TX5 3], u ∈ GW
  exact List.forall_mem_cons.mpr ⟨ly_X5_width, List.forall_mem_cons.mpr ⟨ly_X5_most, List.forall_mem_cons.mpr ⟨ly_X5_cells, List.forall_mem_cons.mpr ⟨ly_X5_count, fun _ h => absurd h List.not_mem_nil⟩⟩⟩⟩
theorem hinX6 : ∀ u ∈ u_ws RX6 TX6 5, u ∈ GW := by
  show ∀ u ∈ [u_lay RX6 TX6 0, u_lay RX6 TX6 1, u_lay RX6 TX6 2, u_lay RX6 TX6 3, u_lay RX6 TX6 4], u ∈ GW
  exact List.forall_mem_cons.mpr ⟨ly_X6_trace, List.forall_mem_cons.mpr ⟨ly_X6_kind, List.forall_mem_cons.mpr ⟨ly_X6_n, List.forall_mem_cons.mpr ⟨ly_X6_a, List.forall_mem_cons.mpr ⟨ly_X6_isParted, fun _ h => absurd h List.not_mem_nil⟩⟩⟩⟩⟩
theorem hinX7 : ∀ u ∈ u_ws RX7 TX7 11, u ∈ GW := by
  show ∀ u ∈ [u_lay RX7 TX7 0, u_lay RX7 TX7 1, u_lay RX7 TX7 2, u_lay RX7 TX7 3, u_lay RX7 TX7 4, u_lay RX7 TX7 5, u_lay RX7 TX7 6, u_lay RX7 TX7 7, u_lay RX7 TX7 8, u_lay RX7 TX7 9, u_lay RX7 TX7 10], u ∈ GW
  exact List.forall_mem_cons.mpr ⟨ly_X7_clauses, List.forall_mem_cons.mpr ⟨ly_X7_steps, List.forall_mem_cons.mpr ⟨ly_X7_waiting, List.forall_mem_cons.mpr ⟨ly_X7_tape, List.forall_mem_cons.mpr ⟨ly_X7_first, List.forall_mem_cons.mpr ⟨ly_X7_behind, List.forall_mem_cons.mpr ⟨ly_X7_number, List.forall_mem_cons.mpr ⟨ly_X7_state, List.forall_mem_cons.mpr ⟨ly_X7_open, List.forall_mem_cons.mpr ⟨ly_X7_left, List.forall_mem_cons.mpr ⟨ly_X7_sign, fun _ h => absurd h List.not_mem_nil⟩⟩⟩⟩⟩⟩⟩⟩⟩⟩⟩
theorem hinX8 : ∀ u ∈ u_ws RX8 TX8 11, u ∈ GW := by
  show ∀ u ∈ [u_lay RX8 TX8 0, u_lay RX8 TX8 1, u_lay RX8 TX8 2, u_lay RX8 TX8 3, u_lay RX8 TX8 4, u_lay RX8 TX8 5, u_lay RX8 TX8 6, u_lay RX8 TX8 7, u_lay RX8 TX8 8, u_lay RX8 TX8 9, u_lay RX8 TX8 10], u ∈ GW
  exact List.forall_mem_cons.mpr ⟨ly_X8_book, List.forall_mem_cons.mpr ⟨ly_X8_kept, List.forall_mem_cons.mpr ⟨ly_X8_hasKept, List.forall_mem_cons.mpr ⟨ly_X8_odds, List.forall_mem_cons.mpr ⟨ly_X8_judge, List.forall_mem_cons.mpr ⟨ly_X8_reader, List.forall_mem_cons.mpr ⟨ly_X8_tape, List.forall_mem_cons.mpr ⟨ly_X8_rows, List.forall_mem_cons.mpr ⟨ly_X8_sheets, List.forall_mem_cons.mpr ⟨ly_X8_shelves, List.forall_mem_cons.mpr ⟨ly_X8_thing, fun _ h => absurd h List.not_mem_nil⟩⟩⟩⟩⟩⟩⟩⟩⟩⟩⟩
theorem hinX9 : ∀ u ∈ u_ws RX9 TX9 48, u ∈ GW := by
  show ∀ u ∈ [u_lay RX9 TX9 0, u_lay RX9 TX9 1, u_lay RX9 TX9 2, u_lay RX9 TX9 3, u_lay RX9 TX9 4, u_lay RX9 TX9 5, u_lay RX9 TX9 6, u_lay RX9 TX9 7, u_lay RX9 TX9 8, u_lay RX9 TX9 9, u_lay RX9 TX9 10, u_lay RX9 TX9 11, u_lay RX9 TX9 12, u_lay RX9 TX9 13, u_lay RX9 TX9 14, u_lay RX9 TX9 15, u_lay RX9 TX9 16, u_lay RX9 TX9 17, u_lay RX9 TX9 18, u_lay RX9 TX9 19, u_lay RX9 TX9 20, u_lay RX9 TX9 21, u_lay RX9 TX9 22, u_lay RX9 TX9 23, u_lay RX9 TX9 24, u_lay RX9 TX9 25, u_lay RX9 TX9 26, u_lay RX9 TX9 27, u_lay RX9 TX9 28, u_lay RX9 TX9 29, u_lay RX9 TX9 30, u_lay RX9 TX9 31, u_lay RX9 TX9 32, u_lay RX9 TX9 33, u_lay RX9 TX9 34, u_lay RX9 TX9 35, u_lay RX9 TX9 36, u_lay RX9 TX9 37, u_lay RX9 TX9 38, u_lay RX9 TX9 39, u_lay RX9 TX9 40, u_lay RX9 TX9 41, u_lay RX9 TX9 42, u_lay RX9 TX9 43, u_lay RX9 TX9 44, u_lay RX9 TX9 45, u_lay RX9 TX9 46, u_lay RX9 TX9 47], u ∈ GW
  exact List.forall_mem_cons.mpr ⟨ly_X9_persons, List.forall_mem_cons.mpr ⟨ly_X9_person, List.forall_mem_cons.mpr ⟨ly_X9_papers, List.forall_mem_cons.mpr ⟨ly_X9_paper, List.forall_mem_cons.mpr ⟨ly_X9_life, List.forall_mem_cons.mpr ⟨ly_X9_rests, List.forall_mem_cons.mpr ⟨ly_X9_rest, List.forall_mem_cons.mpr ⟨ly_X9_draws, List.forall_mem_cons.mpr ⟨ly_X9_draw, List.forall_mem_cons.mpr ⟨ly_X9_questions, List.forall_mem_cons.mpr ⟨ly_X9_question, List.forall_mem_cons.mpr ⟨ly_X9_clauses, List.forall_mem_cons.mpr ⟨ly_X9_clauseEnd, List.forall_mem_cons.mpr ⟨ly_X9_clauseTakes, List.forall_mem_cons.mpr ⟨ly_X9_way, List.forall_mem_cons.mpr ⟨ly_X9_order, List.forall_mem_cons.mpr ⟨ly_X9_tape, List.forall_mem_cons.mpr ⟨ly_X9_tapeMany, List.forall_mem_cons.mpr ⟨ly_X9_tokenKind, List.forall_mem_cons.mpr ⟨ly_X9_tokenAt, List.forall_mem_cons.mpr ⟨ly_X9_tokenEnd, List.forall_mem_cons.mpr ⟨ly_X9_tokenValue, List.forall_mem_cons.mpr ⟨ly_X9_fault, List.forall_mem_cons.mpr ⟨ly_X9_fresh, List.forall_mem_cons.mpr ⟨ly_X9_waiting, List.forall_mem_cons.mpr ⟨ly_X9_freshEnd, List.forall_mem_cons.mpr ⟨ly_X9_freshTakes, List.forall_mem_cons.mpr ⟨ly_X9_freshMany, List.forall_mem_cons.mpr ⟨ly_X9_waits, List.forall_mem_cons.mpr ⟨ly_X9_stack, List.forall_mem_cons.mpr ⟨ly_X9_rows, List.forall_mem_cons.mpr ⟨ly_X9_rowMany, List.forall_mem_cons.mpr ⟨ly_X9_sorts, List.forall_mem_cons.mpr ⟨ly_X9_sizes, List.forall_mem_cons.mpr ⟨ly_X9_sheets, List.forall_mem_cons.mpr ⟨ly_X9_held, List.forall_mem_cons.mpr ⟨ly_X9_heldNumber, List.forall_mem_cons.mpr ⟨ly_X9_heldSize, List.forall_mem_cons.mpr ⟨ly_X9_kind, List.forall_mem_cons.mpr ⟨ly_X9_number, List.forall_mem_cons.mpr ⟨ly_X9_its, List.forall_mem_cons.mpr ⟨ly_X9_traced, List.forall_mem_cons.mpr ⟨ly_X9_bodies, List.forall_mem_cons.mpr ⟨ly_X9_isParted, List.forall_mem_cons.mpr ⟨ly_X9_isKept, List.forall_mem_cons.mpr ⟨ly_X9_kept, List.forall_mem_cons.mpr ⟨ly_X9_place, List.forall_mem_cons.mpr ⟨ly_X9_counts, fun _ h => absurd h List.not_mem_nil⟩⟩⟩⟩⟩⟩⟩⟩⟩⟩⟩⟩⟩⟩⟩⟩⟩⟩⟩⟩⟩⟩⟩⟩⟩⟩⟩⟩⟩⟩⟩⟩⟩⟩⟩⟩⟩⟩⟩⟩⟩⟩⟩⟩⟩⟩⟩⟩
