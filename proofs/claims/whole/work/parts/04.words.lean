/-! ===== the words of the tables that a walk may use, each by its place ===== -/
def lw_g : List Cond := lw_tbl.filter goodWord
theorem lw_g_in {w : Cond} (h : w ∈ lw_g) : w ∈ lw_tbl := (List.mem_filter.mp h).1
theorem lw_g_good : ∀ w ∈ lw_g, (w.onTables && w.keeps) = true ∨ ∃ ty, w = .arrayClass ty := fun w h => good_of_word (List.mem_filter.mp h).2
theorem gm_1 {w : Cond} (h : w ∈ tables_1_1) (hg : goodWord w = true) : w ∈ lw_g := List.mem_filter.mpr ⟨List.mem_append_right _ (List.mem_append_left _ h), hg⟩
theorem gm_2 {w : Cond} (h : w ∈ tables_1_2) (hg : goodWord w = true) : w ∈ lw_g := List.mem_filter.mpr ⟨List.mem_append_right _ (List.mem_append_right _ (List.mem_append_left _ h)), hg⟩
theorem gm_3 {w : Cond} (h : w ∈ tables_1_3) (hg : goodWord w = true) : w ∈ lw_g := List.mem_filter.mpr ⟨List.mem_append_right _ (List.mem_append_right _ (List.mem_append_right _ (List.mem_append_left _ h))), hg⟩
theorem gm_4 {w : Cond} (h : w ∈ tables_1_4) (hg : goodWord w = true) : w ∈ lw_g := List.mem_filter.mpr ⟨List.mem_append_right _ (List.mem_append_right _ (List.mem_append_right _ (List.mem_append_right _ (List.mem_append_left _ h)))), hg⟩
theorem gm_5 {w : Cond} (h : w ∈ tables_1_5) (hg : goodWord w = true) : w ∈ lw_g := List.mem_filter.mpr ⟨List.mem_append_right _ (List.mem_append_right _ (List.mem_append_right _ (List.mem_append_right _ (List.mem_append_right _ h)))), hg⟩
theorem gp_1 {q : MethodName × Nat} (h : q ∈ lw_privs_1) (hg : goodWord (Cond.selects q.1.cls q.1 q.1) = true) : Cond.selects q.1.cls q.1 q.1 ∈ lw_g := List.mem_filter.mpr ⟨List.mem_append_left _ (List.mem_map.mpr ⟨q, (List.mem_append_left _ h), rfl⟩), hg⟩
theorem gp_2 {q : MethodName × Nat} (h : q ∈ lw_privs_2) (hg : goodWord (Cond.selects q.1.cls q.1 q.1) = true) : Cond.selects q.1.cls q.1 q.1 ∈ lw_g := List.mem_filter.mpr ⟨List.mem_append_left _ (List.mem_map.mpr ⟨q, (List.mem_append_right _ (List.mem_append_left _ h)), rfl⟩), hg⟩
theorem gp_3 {q : MethodName × Nat} (h : q ∈ lw_privs_3) (hg : goodWord (Cond.selects q.1.cls q.1 q.1) = true) : Cond.selects q.1.cls q.1 q.1 ∈ lw_g := List.mem_filter.mpr ⟨List.mem_append_left _ (List.mem_map.mpr ⟨q, (List.mem_append_right _ (List.mem_append_right _ (List.mem_append_left _ h))), rfl⟩), hg⟩
theorem gp_4 {q : MethodName × Nat} (h : q ∈ lw_privs_4) (hg : goodWord (Cond.selects q.1.cls q.1 q.1) = true) : Cond.selects q.1.cls q.1 q.1 ∈ lw_g := List.mem_filter.mpr ⟨List.mem_append_left _ (List.mem_map.mpr ⟨q, (List.mem_append_right _ (List.mem_append_right _ (List.mem_append_right _ h))), rfl⟩), hg⟩
theorem ini_L : Cond.initialized RL ∈ lw_g := gm_1 (List.mem_of_getElem? (i := 0) rfl) rfl
theorem ini_X8 : Cond.initialized RX8 ∈ lw_g := gm_1 (List.mem_of_getElem? (i := 1) rfl) rfl
theorem ini_X6 : Cond.initialized RX6 ∈ lw_g := gm_1 (List.mem_of_getElem? (i := 2) rfl) rfl
theorem ini_X7 : Cond.initialized RX7 ∈ lw_g := gm_1 (List.mem_of_getElem? (i := 3) rfl) rfl
theorem ini_X1 : Cond.initialized RX1 ∈ lw_g := gm_1 (List.mem_of_getElem? (i := 4) rfl) rfl
theorem ini_X4 : Cond.initialized RX4 ∈ lw_g := gm_1 (List.mem_of_getElem? (i := 5) rfl) rfl
theorem ini_X3 : Cond.initialized RX3 ∈ lw_g := gm_1 (List.mem_of_getElem? (i := 6) rfl) rfl
theorem ini_X0 : Cond.initialized RX0 ∈ lw_g := gm_1 (List.mem_of_getElem? (i := 7) rfl) rfl
theorem ini_X2 : Cond.initialized RX2 ∈ lw_g := gm_1 (List.mem_of_getElem? (i := 8) rfl) rfl
theorem ini_X5 : Cond.initialized RX5 ∈ lw_g := gm_1 (List.mem_of_getElem? (i := 9) rfl) rfl
theorem ini_J9 : Cond.initialized RJ9 ∈ lw_g := gm_1 (List.mem_of_getElem? (i := 10) rfl) rfl
theorem ini_J10 : Cond.initialized RJ10 ∈ lw_g := gm_1 (List.mem_of_getElem? (i := 11) rfl) rfl
theorem ini_X9 : Cond.initialized RX9 ∈ lw_g := gm_1 (List.mem_of_getElem? (i := 12) rfl) rfl
theorem ini_J0 : Cond.initialized RJ0 ∈ lw_g := gm_1 (List.mem_of_getElem? (i := 13) rfl) rfl
theorem ini_J1 : Cond.initialized RJ1 ∈ lw_g := gm_1 (List.mem_of_getElem? (i := 14) rfl) rfl
theorem ini_J3 : Cond.initialized RJ3 ∈ lw_g := gm_1 (List.mem_of_getElem? (i := 15) rfl) rfl
theorem ini_J2 : Cond.initialized RJ2 ∈ lw_g := gm_1 (List.mem_of_getElem? (i := 16) rfl) rfl
theorem ck_L_7 : Cond.classLink RL 7 RX8 ∈ lw_g := gm_1 (List.mem_of_getElem? (i := 17) rfl) rfl
theorem ins_X8 : Cond.instantiable RX8 11 ∈ lw_g := gm_1 (List.mem_of_getElem? (i := 18) rfl) rfl
theorem ml_L_9 : Cond.methodLink RL 9 yX8_init ∈ lw_g := gm_1 (List.mem_of_getElem? (i := 19) rfl) rfl
theorem im_X8_init : Cond.instanceMethod yX8_init ∈ lw_g := gm_1 (List.mem_of_getElem? (i := 20) rfl) rfl
theorem cd_X8_init : Cond.code yX8_init cX8_init 2 none ∈ lw_g := gm_1 (List.mem_of_getElem? (i := 21) rfl) rfl
theorem ml_X8_1 : Cond.methodLink RX8 1 objectInit ∈ lw_g := gm_1 (List.mem_of_getElem? (i := 22) rfl) rfl
theorem im_objectInit : Cond.instanceMethod objectInit ∈ lw_g := gm_1 (List.mem_of_getElem? (i := 23) rfl) rfl
theorem cd_objectInit : Cond.code objectInit ⟨#[0xb1]⟩ 1 none ∈ lw_g := gm_1 (List.mem_of_getElem? (i := 24) rfl) rfl
theorem ck_X8_7 : Cond.classLink RX8 7 RX6 ∈ lw_g := gm_1 (List.mem_of_getElem? (i := 25) rfl) rfl
theorem ins_X6 : Cond.instantiable RX6 8 ∈ lw_g := gm_1 (List.mem_of_getElem? (i := 26) rfl) rfl
theorem ml_X8_9 : Cond.methodLink RX8 9 yX6_init ∈ lw_g := gm_1 (List.mem_of_getElem? (i := 27) rfl) rfl
theorem im_X6_init : Cond.instanceMethod yX6_init ∈ lw_g := gm_1 (List.mem_of_getElem? (i := 28) rfl) rfl
theorem cd_X6_init : Cond.code yX6_init cX6_init 1 none ∈ lw_g := gm_1 (List.mem_of_getElem? (i := 29) rfl) rfl
theorem ml_X6_3 : Cond.methodLink RX6 3 objectInit ∈ lw_g := gm_1 (List.mem_of_getElem? (i := 30) rfl) rfl
theorem ck_X6_9 : Cond.classLink RX6 9 RX7 ∈ lw_g := gm_1 (List.mem_of_getElem? (i := 31) rfl) rfl
theorem ins_X7 : Cond.instantiable RX7 6 ∈ lw_g := gm_1 (List.mem_of_getElem? (i := 32) rfl) rfl
theorem ml_X6_11 : Cond.methodLink RX6 11 yX7_init ∈ lw_g := gm_1 (List.mem_of_getElem? (i := 33) rfl) rfl
theorem im_X7_init : Cond.instanceMethod yX7_init ∈ lw_g := gm_1 (List.mem_of_getElem? (i := 34) rfl) rfl
theorem cd_X7_init : Cond.code yX7_init cX7_init 1 none ∈ lw_g := gm_1 (List.mem_of_getElem? (i := 35) rfl) rfl
theorem ml_X7_3 : Cond.methodLink RX7 3 objectInit ∈ lw_g := gm_1 (List.mem_of_getElem? (i := 36) rfl) rfl
theorem fl_X7_9 : Cond.fieldLink RX7 9 (TX7 0).1 (TX7 0).2.1 (TX7 0).2.2.1 ∈ lw_g := gm_1 (List.mem_of_getElem? (i := 37) rfl) rfl
theorem fl_X8_77 : Cond.fieldLink RX8 77 (TX7 0).1 (TX7 0).2.1 (TX7 0).2.2.1 ∈ lw_g := gm_1 (List.mem_of_getElem? (i := 38) rfl) rfl
theorem fl_X7_15 : Cond.fieldLink RX7 15 (TX7 1).1 (TX7 1).2.1 (TX7 1).2.2.1 ∈ lw_g := gm_1 (List.mem_of_getElem? (i := 39) rfl) rfl
theorem fl_X7_19 : Cond.fieldLink RX7 19 (TX7 2).1 (TX7 2).2.1 (TX7 2).2.2.1 ∈ lw_g := gm_1 (List.mem_of_getElem? (i := 40) rfl) rfl
theorem fl_X8_91 : Cond.fieldLink RX8 91 (TX7 2).1 (TX7 2).2.1 (TX7 2).2.2.1 ∈ lw_g := gm_1 (List.mem_of_getElem? (i := 41) rfl) rfl
theorem fl_X7_22 : Cond.fieldLink RX7 22 (TX7 3).1 (TX7 3).2.1 (TX7 3).2.2.1 ∈ lw_g := gm_1 (List.mem_of_getElem? (i := 42) rfl) rfl
theorem fl_X7_25 : Cond.fieldLink RX7 25 (TX7 4).1 (TX7 4).2.1 (TX7 4).2.2.1 ∈ lw_g := gm_1 (List.mem_of_getElem? (i := 43) rfl) rfl
theorem fl_X6_54 : Cond.fieldLink RX6 54 (TX7 4).1 (TX7 4).2.1 (TX7 4).2.2.1 ∈ lw_g := gm_1 (List.mem_of_getElem? (i := 44) rfl) rfl
theorem fl_X7_28 : Cond.fieldLink RX7 28 (TX7 5).1 (TX7 5).2.1 (TX7 5).2.2.1 ∈ lw_g := gm_1 (List.mem_of_getElem? (i := 45) rfl) rfl
theorem fl_X6_83 : Cond.fieldLink RX6 83 (TX7 5).1 (TX7 5).2.1 (TX7 5).2.2.1 ∈ lw_g := gm_1 (List.mem_of_getElem? (i := 46) rfl) rfl
theorem arr_int : Cond.arrayClass .int ∈ lw_g := gm_1 (List.mem_of_getElem? (i := 60) rfl) rfl
theorem ck_X6_18 : Cond.classLink RX6 18 RX1 ∈ lw_g := gm_1 (List.mem_of_getElem? (i := 61) rfl) rfl
theorem ins_X1 : Cond.instantiable RX1 5 ∈ lw_g := gm_1 (List.mem_of_getElem? (i := 62) rfl) rfl
theorem ml_X6_20 : Cond.methodLink RX6 20 yX1_init ∈ lw_g := gm_1 (List.mem_of_getElem? (i := 63) rfl) rfl
theorem im_X1_init : Cond.instanceMethod yX1_init ∈ lw_g := gm_1 (List.mem_of_getElem? (i := 64) rfl) rfl
theorem cd_X1_init : Cond.code yX1_init cX1_init 1 none ∈ lw_g := gm_1 (List.mem_of_getElem? (i := 65) rfl) rfl
theorem ml_X1_3 : Cond.methodLink RX1 3 objectInit ∈ lw_g := gm_1 (List.mem_of_getElem? (i := 66) rfl) rfl
theorem ck_X1_15 : Cond.classLink RX1 15 RX4 ∈ lw_g := gm_1 (List.mem_of_getElem? (i := 67) rfl) rfl
theorem ins_X4 : Cond.instantiable RX4 3 ∈ lw_g := gm_1 (List.mem_of_getElem? (i := 68) rfl) rfl
theorem ml_X1_17 : Cond.methodLink RX1 17 yX4_init ∈ lw_g := gm_1 (List.mem_of_getElem? (i := 69) rfl) rfl
theorem im_X4_init : Cond.instanceMethod yX4_init ∈ lw_g := gm_1 (List.mem_of_getElem? (i := 70) rfl) rfl
theorem cd_X4_init : Cond.code yX4_init cX4_init 1 none ∈ lw_g := gm_1 (List.mem_of_getElem? (i := 71) rfl) rfl
theorem ml_X4_3 : Cond.methodLink RX4 3 objectInit ∈ lw_g := gm_1 (List.mem_of_getElem? (i := 72) rfl) rfl
theorem fl_X4_9 : Cond.fieldLink RX4 9 (TX4 0).1 (TX4 0).2.1 (TX4 0).2.2.1 ∈ lw_g := gm_1 (List.mem_of_getElem? (i := 73) rfl) rfl
theorem fl_X1_35 : Cond.fieldLink RX1 35 (TX4 0).1 (TX4 0).2.1 (TX4 0).2.2.1 ∈ lw_g := gm_1 (List.mem_of_getElem? (i := 74) rfl) rfl
theorem fl_X8_221 : Cond.fieldLink RX8 221 (TX4 0).1 (TX4 0).2.1 (TX4 0).2.2.1 ∈ lw_g := gm_1 (List.mem_of_getElem? (i := 75) rfl) rfl
theorem fl_X3_88 : Cond.fieldLink RX3 88 (TX4 0).1 (TX4 0).2.1 (TX4 0).2.2.1 ∈ lw_g := gm_1 (List.mem_of_getElem? (i := 76) rfl) rfl
theorem fl_X4_15 : Cond.fieldLink RX4 15 (TX4 1).1 (TX4 1).2.1 (TX4 1).2.2.1 ∈ lw_g := gm_1 (List.mem_of_getElem? (i := 77) rfl) rfl
theorem fl_X3_93 : Cond.fieldLink RX3 93 (TX4 1).1 (TX4 1).2.1 (TX4 1).2.2.1 ∈ lw_g := gm_1 (List.mem_of_getElem? (i := 78) rfl) rfl
theorem fl_X4_19 : Cond.fieldLink RX4 19 (TX4 2).1 (TX4 2).2.1 (TX4 2).2.2.1 ∈ lw_g := gm_1 (List.mem_of_getElem? (i := 79) rfl) rfl
theorem fl_X3_96 : Cond.fieldLink RX3 96 (TX4 2).1 (TX4 2).2.1 (TX4 2).2.2.1 ∈ lw_g := gm_1 (List.mem_of_getElem? (i := 80) rfl) rfl
theorem ml_X1_22 : Cond.methodLink RX1 22 yX1_becomeAsAtFirst ∈ lw_g := gm_1 (List.mem_of_getElem? (i := 88) rfl) rfl
theorem im_X1_becomeAsAtFirst : Cond.instanceMethod yX1_becomeAsAtFirst ∈ lw_g := gm_1 (List.mem_of_getElem? (i := 89) rfl) rfl
theorem se_X1_becomeAsAtFirst : Cond.selects RX1 yX1_becomeAsAtFirst yX1_becomeAsAtFirst ∈ lw_g := gm_1 (List.mem_of_getElem? (i := 90) rfl) rfl
theorem cd_X1_becomeAsAtFirst : Cond.code yX1_becomeAsAtFirst cX1_becomeAsAtFirst 2 none ∈ lw_g := gm_1 (List.mem_of_getElem? (i := 91) rfl) rfl
theorem fl_X1_25 : Cond.fieldLink RX1 25 (TX1 0).1 (TX1 0).2.1 (TX1 0).2.2.1 ∈ lw_g := gm_1 (List.mem_of_getElem? (i := 92) rfl) rfl
theorem fl_X6_90 : Cond.fieldLink RX6 90 (TX1 0).1 (TX1 0).2.1 (TX1 0).2.2.1 ∈ lw_g := gm_1 (List.mem_of_getElem? (i := 93) rfl) rfl
theorem fl_X8_257 : Cond.fieldLink RX8 257 (TX1 0).1 (TX1 0).2.1 (TX1 0).2.2.1 ∈ lw_g := gm_1 (List.mem_of_getElem? (i := 94) rfl) rfl
theorem fl_X1_29 : Cond.fieldLink RX1 29 (TX1 1).1 (TX1 1).2.1 (TX1 1).2.2.1 ∈ lw_g := gm_1 (List.mem_of_getElem? (i := 95) rfl) rfl
theorem fl_X6_93 : Cond.fieldLink RX6 93 (TX1 1).1 (TX1 1).2.1 (TX1 1).2.2.1 ∈ lw_g := gm_1 (List.mem_of_getElem? (i := 96) rfl) rfl
theorem fl_X8_258 : Cond.fieldLink RX8 258 (TX1 1).1 (TX1 1).2.1 (TX1 1).2.2.1 ∈ lw_g := gm_1 (List.mem_of_getElem? (i := 97) rfl) rfl
theorem fl_X1_32 : Cond.fieldLink RX1 32 (TX1 2).1 (TX1 2).2.1 (TX1 2).2.2.1 ∈ lw_g := gm_1 (List.mem_of_getElem? (i := 98) rfl) rfl
theorem fl_X8_137 : Cond.fieldLink RX8 137 (TX1 2).1 (TX1 2).2.1 (TX1 2).2.2.1 ∈ lw_g := gm_1 (List.mem_of_getElem? (i := 99) rfl) rfl
theorem fl_X6_103 : Cond.fieldLink RX6 103 (TX1 2).1 (TX1 2).2.1 (TX1 2).2.2.1 ∈ lw_g := gm_1 (List.mem_of_getElem? (i := 100) rfl) rfl
theorem fl_X1_9 : Cond.fieldLink RX1 9 (TX1 3).1 (TX1 3).2.1 (TX1 3).2.2.1 ∈ lw_g := gm_1 (List.mem_of_getElem? (i := 101) rfl) rfl
theorem fl_X8_121 : Cond.fieldLink RX8 121 (TX1 3).1 (TX1 3).2.1 (TX1 3).2.2.1 ∈ lw_g := gm_1 (List.mem_of_getElem? (i := 102) rfl) rfl
theorem fl_X1_18 : Cond.fieldLink RX1 18 (TX1 4).1 (TX1 4).2.1 (TX1 4).2.2.1 ∈ lw_g := gm_1 (List.mem_of_getElem? (i := 103) rfl) rfl
theorem fl_X6_74 : Cond.fieldLink RX6 74 (TX1 4).1 (TX1 4).2.1 (TX1 4).2.2.1 ∈ lw_g := gm_1 (List.mem_of_getElem? (i := 104) rfl) rfl
theorem fl_X8_187 : Cond.fieldLink RX8 187 (TX1 4).1 (TX1 4).2.1 (TX1 4).2.2.1 ∈ lw_g := gm_1 (List.mem_of_getElem? (i := 105) rfl) rfl
theorem fl_X6_12 : Cond.fieldLink RX6 12 (TX6 0).1 (TX6 0).2.1 (TX6 0).2.2.1 ∈ lw_g := gm_1 (List.mem_of_getElem? (i := 117) rfl) rfl
theorem fl_X8_16 : Cond.fieldLink RX8 16 (TX6 0).1 (TX6 0).2.1 (TX6 0).2.2.1 ∈ lw_g := gm_1 (List.mem_of_getElem? (i := 118) rfl) rfl
theorem fl_X6_21 : Cond.fieldLink RX6 21 (TX6 1).1 (TX6 1).2.1 (TX6 1).2.2.1 ∈ lw_g := gm_1 (List.mem_of_getElem? (i := 119) rfl) rfl
theorem fl_X8_94 : Cond.fieldLink RX8 94 (TX6 1).1 (TX6 1).2.1 (TX6 1).2.2.1 ∈ lw_g := gm_1 (List.mem_of_getElem? (i := 120) rfl) rfl
theorem fl_X6_25 : Cond.fieldLink RX6 25 (TX6 2).1 (TX6 2).2.1 (TX6 2).2.2.1 ∈ lw_g := gm_1 (List.mem_of_getElem? (i := 121) rfl) rfl
theorem fl_X8_101 : Cond.fieldLink RX8 101 (TX6 2).1 (TX6 2).2.1 (TX6 2).2.2.1 ∈ lw_g := gm_1 (List.mem_of_getElem? (i := 122) rfl) rfl
theorem fl_X6_29 : Cond.fieldLink RX6 29 (TX6 3).1 (TX6 3).2.1 (TX6 3).2.2.1 ∈ lw_g := gm_1 (List.mem_of_getElem? (i := 123) rfl) rfl
theorem fl_X6_32 : Cond.fieldLink RX6 32 (TX6 4).1 (TX6 4).2.1 (TX6 4).2.2.1 ∈ lw_g := gm_1 (List.mem_of_getElem? (i := 124) rfl) rfl
theorem fl_X6_35 : Cond.fieldLink RX6 35 (TX6 5).1 (TX6 5).2.1 (TX6 5).2.2.1 ∈ lw_g := gm_1 (List.mem_of_getElem? (i := 125) rfl) rfl
theorem fl_X6_38 : Cond.fieldLink RX6 38 (TX6 6).1 (TX6 6).2.1 (TX6 6).2.2.1 ∈ lw_g := gm_1 (List.mem_of_getElem? (i := 126) rfl) rfl
theorem fl_X6_41 : Cond.fieldLink RX6 41 (TX6 7).1 (TX6 7).2.1 (TX6 7).2.2.1 ∈ lw_g := gm_1 (List.mem_of_getElem? (i := 127) rfl) rfl
theorem ck_X8_21 : Cond.classLink RX8 21 RX1 ∈ lw_g := gm_1 (List.mem_of_getElem? (i := 145) rfl) rfl
theorem ml_X8_23 : Cond.methodLink RX8 23 yX1_init ∈ lw_g := gm_1 (List.mem_of_getElem? (i := 146) rfl) rfl
theorem ck_X8_28 : Cond.classLink RX8 28 RX3 ∈ lw_g := gm_1 (List.mem_of_getElem? (i := 147) rfl) rfl
theorem ins_X3 : Cond.instantiable RX3 8 ∈ lw_g := gm_1 (List.mem_of_getElem? (i := 148) rfl) rfl
theorem ml_X8_30 : Cond.methodLink RX8 30 yX3_init ∈ lw_g := gm_1 (List.mem_of_getElem? (i := 149) rfl) rfl
theorem im_X3_init : Cond.instanceMethod yX3_init ∈ lw_g := gm_1 (List.mem_of_getElem? (i := 150) rfl) rfl
theorem cd_X3_init : Cond.code yX3_init cX3_init 1 none ∈ lw_g := gm_1 (List.mem_of_getElem? (i := 151) rfl) rfl
theorem ml_X3_3 : Cond.methodLink RX3 3 objectInit ∈ lw_g := gm_1 (List.mem_of_getElem? (i := 152) rfl) rfl
theorem fl_X3_9 : Cond.fieldLink RX3 9 (TX3 0).1 (TX3 0).2.1 (TX3 0).2.2.1 ∈ lw_g := gm_1 (List.mem_of_getElem? (i := 153) rfl) rfl
theorem fl_X0_25 : Cond.fieldLink RX0 25 (TX3 0).1 (TX3 0).2.1 (TX3 0).2.2.1 ∈ lw_g := gm_1 (List.mem_of_getElem? (i := 154) rfl) rfl
theorem fl_X8_128 : Cond.fieldLink RX8 128 (TX3 0).1 (TX3 0).2.1 (TX3 0).2.2.1 ∈ lw_g := gm_1 (List.mem_of_getElem? (i := 155) rfl) rfl
theorem fl_X3_15 : Cond.fieldLink RX3 15 (TX3 1).1 (TX3 1).2.1 (TX3 1).2.2.1 ∈ lw_g := gm_1 (List.mem_of_getElem? (i := 156) rfl) rfl
theorem fl_X8_181 : Cond.fieldLink RX8 181 (TX3 1).1 (TX3 1).2.1 (TX3 1).2.2.1 ∈ lw_g := gm_1 (List.mem_of_getElem? (i := 157) rfl) rfl
theorem fl_X3_18 : Cond.fieldLink RX3 18 (TX3 2).1 (TX3 2).2.1 (TX3 2).2.2.1 ∈ lw_g := gm_1 (List.mem_of_getElem? (i := 158) rfl) rfl
theorem fl_X8_184 : Cond.fieldLink RX8 184 (TX3 2).1 (TX3 2).2.1 (TX3 2).2.2.1 ∈ lw_g := gm_1 (List.mem_of_getElem? (i := 159) rfl) rfl
theorem fl_X3_21 : Cond.fieldLink RX3 21 (TX3 3).1 (TX3 3).2.1 (TX3 3).2.2.1 ∈ lw_g := gm_1 (List.mem_of_getElem? (i := 160) rfl) rfl
theorem fl_X0_30 : Cond.fieldLink RX0 30 (TX3 3).1 (TX3 3).2.1 (TX3 3).2.2.1 ∈ lw_g := gm_1 (List.mem_of_getElem? (i := 161) rfl) rfl
theorem fl_X8_108 : Cond.fieldLink RX8 108 (TX3 3).1 (TX3 3).2.1 (TX3 3).2.2.1 ∈ lw_g := gm_1 (List.mem_of_getElem? (i := 162) rfl) rfl
theorem fl_X3_25 : Cond.fieldLink RX3 25 (TX3 4).1 (TX3 4).2.1 (TX3 4).2.2.1 ∈ lw_g := gm_1 (List.mem_of_getElem? (i := 163) rfl) rfl
theorem fl_X0_39 : Cond.fieldLink RX0 39 (TX3 4).1 (TX3 4).2.1 (TX3 4).2.2.1 ∈ lw_g := gm_1 (List.mem_of_getElem? (i := 164) rfl) rfl
theorem fl_X8_112 : Cond.fieldLink RX8 112 (TX3 4).1 (TX3 4).2.1 (TX3 4).2.2.1 ∈ lw_g := gm_1 (List.mem_of_getElem? (i := 165) rfl) rfl
theorem fl_X3_28 : Cond.fieldLink RX3 28 (TX3 5).1 (TX3 5).2.1 (TX3 5).2.2.1 ∈ lw_g := gm_1 (List.mem_of_getElem? (i := 166) rfl) rfl
theorem fl_X8_115 : Cond.fieldLink RX8 115 (TX3 5).1 (TX3 5).2.1 (TX3 5).2.2.1 ∈ lw_g := gm_1 (List.mem_of_getElem? (i := 167) rfl) rfl
theorem fl_X3_31 : Cond.fieldLink RX3 31 (TX3 6).1 (TX3 6).2.1 (TX3 6).2.2.1 ∈ lw_g := gm_1 (List.mem_of_getElem? (i := 168) rfl) rfl
theorem fl_X8_118 : Cond.fieldLink RX8 118 (TX3 6).1 (TX3 6).2.1 (TX3 6).2.2.1 ∈ lw_g := gm_1 (List.mem_of_getElem? (i := 169) rfl) rfl
theorem fl_X3_34 : Cond.fieldLink RX3 34 (TX3 7).1 (TX3 7).2.1 (TX3 7).2.2.1 ∈ lw_g := gm_1 (List.mem_of_getElem? (i := 170) rfl) rfl
theorem ck_X8_38 : Cond.classLink RX8 38 RX0 ∈ lw_g := gm_1 (List.mem_of_getElem? (i := 188) rfl) rfl
theorem ins_X0 : Cond.instantiable RX0 4 ∈ lw_g := gm_1 (List.mem_of_getElem? (i := 189) rfl) rfl
theorem ml_X8_40 : Cond.methodLink RX8 40 yX0_init ∈ lw_g := gm_1 (List.mem_of_getElem? (i := 190) rfl) rfl
theorem im_X0_init : Cond.instanceMethod yX0_init ∈ lw_g := gm_1 (List.mem_of_getElem? (i := 191) rfl) rfl
theorem cd_X0_init : Cond.code yX0_init cX0_init 1 none ∈ lw_g := gm_1 (List.mem_of_getElem? (i := 192) rfl) rfl
theorem ml_X0_3 : Cond.methodLink RX0 3 objectInit ∈ lw_g := gm_1 (List.mem_of_getElem? (i := 193) rfl) rfl
theorem fl_X0_9 : Cond.fieldLink RX0 9 (TX0 0).1 (TX0 0).2.1 (TX0 0).2.2.1 ∈ lw_g := gm_1 (List.mem_of_getElem? (i := 194) rfl) rfl
theorem fl_X0_15 : Cond.fieldLink RX0 15 (TX0 1).1 (TX0 1).2.1 (TX0 1).2.2.1 ∈ lw_g := gm_1 (List.mem_of_getElem? (i := 195) rfl) rfl
theorem fl_X0_19 : Cond.fieldLink RX0 19 (TX0 2).1 (TX0 2).2.1 (TX0 2).2.2.1 ∈ lw_g := gm_1 (List.mem_of_getElem? (i := 196) rfl) rfl
theorem fl_X0_22 : Cond.fieldLink RX0 22 (TX0 3).1 (TX0 3).2.1 (TX0 3).2.2.1 ∈ lw_g := gm_1 (List.mem_of_getElem? (i := 197) rfl) rfl
theorem fl_X2_29 : Cond.fieldLink RX2 29 (TX0 3).1 (TX0 3).2.1 (TX0 3).2.2.1 ∈ lw_g := gm_1 (List.mem_of_getElem? (i := 198) rfl) rfl
theorem fl_X8_171 : Cond.fieldLink RX8 171 (TX0 3).1 (TX0 3).2.1 (TX0 3).2.2.1 ∈ lw_g := gm_1 (List.mem_of_getElem? (i := 199) rfl) rfl
theorem ck_X8_45 : Cond.classLink RX8 45 RX2 ∈ lw_g := gm_1 (List.mem_of_getElem? (i := 209) rfl) rfl
theorem ins_X2 : Cond.instantiable RX2 5 ∈ lw_g := gm_1 (List.mem_of_getElem? (i := 210) rfl) rfl
theorem ml_X8_47 : Cond.methodLink RX8 47 yX2_init ∈ lw_g := gm_1 (List.mem_of_getElem? (i := 211) rfl) rfl
theorem im_X2_init : Cond.instanceMethod yX2_init ∈ lw_g := gm_1 (List.mem_of_getElem? (i := 212) rfl) rfl
theorem cd_X2_init : Cond.code yX2_init cX2_init 1 none ∈ lw_g := gm_1 (List.mem_of_getElem? (i := 213) rfl) rfl
theorem ml_X2_3 : Cond.methodLink RX2 3 objectInit ∈ lw_g := gm_1 (List.mem_of_getElem? (i := 214) rfl) rfl
theorem fl_X2_9 : Cond.fieldLink RX2 9 (TX2 0).1 (TX2 0).2.1 (TX2 0).2.2.1 ∈ lw_g := gm_1 (List.mem_of_getElem? (i := 215) rfl) rfl
theorem fl_X8_253 : Cond.fieldLink RX8 253 (TX2 0).1 (TX2 0).2.1 (TX2 0).2.2.1 ∈ lw_g := gm_1 (List.mem_of_getElem? (i := 216) rfl) rfl
theorem fl_X2_15 : Cond.fieldLink RX2 15 (TX2 1).1 (TX2 1).2.1 (TX2 1).2.2.1 ∈ lw_g := gm_1 (List.mem_of_getElem? (i := 217) rfl) rfl
theorem fl_X8_164 : Cond.fieldLink RX8 164 (TX2 1).1 (TX2 1).2.1 (TX2 1).2.2.1 ∈ lw_g := gm_1 (List.mem_of_getElem? (i := 218) rfl) rfl
theorem fl_X2_19 : Cond.fieldLink RX2 19 (TX2 2).1 (TX2 2).2.1 (TX2 2).2.2.1 ∈ lw_g := gm_1 (List.mem_of_getElem? (i := 219) rfl) rfl
theorem fl_X8_154 : Cond.fieldLink RX8 154 (TX2 2).1 (TX2 2).2.1 (TX2 2).2.2.1 ∈ lw_g := gm_1 (List.mem_of_getElem? (i := 220) rfl) rfl
theorem fl_X2_22 : Cond.fieldLink RX2 22 (TX2 3).1 (TX2 3).2.1 (TX2 3).2.2.1 ∈ lw_g := gm_1 (List.mem_of_getElem? (i := 221) rfl) rfl
theorem fl_X8_279 : Cond.fieldLink RX8 279 (TX2 3).1 (TX2 3).2.1 (TX2 3).2.2.1 ∈ lw_g := gm_1 (List.mem_of_getElem? (i := 222) rfl) rfl
theorem fl_X2_26 : Cond.fieldLink RX2 26 (TX2 4).1 (TX2 4).2.1 (TX2 4).2.2.1 ∈ lw_g := gm_1 (List.mem_of_getElem? (i := 223) rfl) rfl
theorem fl_X8_270 : Cond.fieldLink RX8 270 (TX2 4).1 (TX2 4).2.1 (TX2 4).2.2.1 ∈ lw_g := gm_1 (List.mem_of_getElem? (i := 224) rfl) rfl
theorem ao_X2 : Cond.arrayOver (.object RX2) ∈ lw_tbl := List.mem_append_right _ (List.mem_append_left _ (List.mem_of_getElem? (i := 236) rfl))
theorem ck_X8_56 : Cond.classLink RX8 56 RX4 ∈ lw_g := gm_1 (List.mem_of_getElem? (i := 237) rfl) rfl
theorem ml_X8_58 : Cond.methodLink RX8 58 yX4_init ∈ lw_g := gm_1 (List.mem_of_getElem? (i := 238) rfl) rfl
theorem ck_X8_63 : Cond.classLink RX8 63 RX5 ∈ lw_g := gm_1 (List.mem_of_getElem? (i := 239) rfl) rfl
theorem ins_X5 : Cond.instantiable RX5 5 ∈ lw_g := gm_2 (List.mem_of_getElem? (i := 0) rfl) rfl
theorem ml_X8_65 : Cond.methodLink RX8 65 yX5_init ∈ lw_g := gm_2 (List.mem_of_getElem? (i := 1) rfl) rfl
theorem im_X5_init : Cond.instanceMethod yX5_init ∈ lw_g := gm_2 (List.mem_of_getElem? (i := 2) rfl) rfl
theorem cd_X5_init : Cond.code yX5_init cX5_init 2 none ∈ lw_g := gm_2 (List.mem_of_getElem? (i := 3) rfl) rfl
theorem ml_X5_3 : Cond.methodLink RX5 3 objectInit ∈ lw_g := gm_2 (List.mem_of_getElem? (i := 4) rfl) rfl
theorem ck_X5_22 : Cond.classLink RX5 22 RX3 ∈ lw_g := gm_2 (List.mem_of_getElem? (i := 5) rfl) rfl
theorem ao_X3 : Cond.arrayOver (.object RX3) ∈ lw_tbl := List.mem_append_right _ (List.mem_append_right _ (List.mem_append_left _ (List.mem_of_getElem? (i := 6) rfl)))
theorem ml_X5_32 : Cond.methodLink RX5 32 yX3_init ∈ lw_g := gm_2 (List.mem_of_getElem? (i := 7) rfl) rfl
theorem fl_X5_9 : Cond.fieldLink RX5 9 (TX5 0).1 (TX5 0).2.1 (TX5 0).2.2.1 ∈ lw_g := gm_2 (List.mem_of_getElem? (i := 8) rfl) rfl
theorem fl_X8_204 : Cond.fieldLink RX8 204 (TX5 0).1 (TX5 0).2.1 (TX5 0).2.2.1 ∈ lw_g := gm_2 (List.mem_of_getElem? (i := 9) rfl) rfl
theorem fl_X5_15 : Cond.fieldLink RX5 15 (TX5 1).1 (TX5 1).2.1 (TX5 1).2.2.1 ∈ lw_g := gm_2 (List.mem_of_getElem? (i := 10) rfl) rfl
theorem fl_X5_19 : Cond.fieldLink RX5 19 (TX5 2).1 (TX5 2).2.1 (TX5 2).2.2.1 ∈ lw_g := gm_2 (List.mem_of_getElem? (i := 11) rfl) rfl
theorem fl_X5_24 : Cond.fieldLink RX5 24 (TX5 3).1 (TX5 3).2.1 (TX5 3).2.2.1 ∈ lw_g := gm_2 (List.mem_of_getElem? (i := 12) rfl) rfl
theorem fl_X5_28 : Cond.fieldLink RX5 28 (TX5 4).1 (TX5 4).2.1 (TX5 4).2.2.1 ∈ lw_g := gm_2 (List.mem_of_getElem? (i := 13) rfl) rfl
theorem ml_X8_74 : Cond.methodLink RX8 74 yX8_beginAnew ∈ lw_g := gm_2 (List.mem_of_getElem? (i := 25) rfl) rfl
theorem im_X8_beginAnew : Cond.instanceMethod yX8_beginAnew ∈ lw_g := gm_2 (List.mem_of_getElem? (i := 27) rfl) rfl
theorem cd_X8_beginAnew : Cond.code yX8_beginAnew cX8_beginAnew 2 none ∈ lw_g := gm_2 (List.mem_of_getElem? (i := 28) rfl) rfl
theorem ml_X8_259 : Cond.methodLink RX8 259 yX3_layFlat ∈ lw_g := gm_2 (List.mem_of_getElem? (i := 29) rfl) rfl
theorem im_X3_layFlat : Cond.instanceMethod yX3_layFlat ∈ lw_g := gm_2 (List.mem_of_getElem? (i := 30) rfl) rfl
theorem se_X3_layFlat : Cond.selects RX3 yX3_layFlat yX3_layFlat ∈ lw_g := gm_2 (List.mem_of_getElem? (i := 31) rfl) rfl
theorem cd_X3_layFlat : Cond.code yX3_layFlat cX3_layFlat 5 none ∈ lw_g := gm_2 (List.mem_of_getElem? (i := 32) rfl) rfl
theorem ml_X3_37 : Cond.methodLink RX3 37 Lib.Math.min.name ∈ lw_g := gm_2 (List.mem_of_getElem? (i := 33) rfl) rfl
theorem sm_Math_min : Cond.static Lib.Math.min.name ∈ lw_g := gm_2 (List.mem_of_getElem? (i := 34) rfl) rfl
theorem cd_Math_min : Cond.code Lib.Math.min.name Lib.Math.min.code 2 (some .int) ∈ lw_g := gm_2 (List.mem_of_getElem? (i := 35) rfl) rfl
theorem ml_X8_262 : Cond.methodLink RX8 262 yX0_layOut ∈ lw_g := gm_2 (List.mem_of_getElem? (i := 36) rfl) rfl
theorem im_X0_layOut : Cond.instanceMethod yX0_layOut ∈ lw_g := gm_2 (List.mem_of_getElem? (i := 37) rfl) rfl
theorem se_X0_layOut : Cond.selects RX0 yX0_layOut yX0_layOut ∈ lw_g := gm_2 (List.mem_of_getElem? (i := 38) rfl) rfl
theorem cd_X0_layOut : Cond.code yX0_layOut cX0_layOut 5 none ∈ lw_g := gm_2 (List.mem_of_getElem? (i := 39) rfl) rfl
theorem ml_X0_33 : Cond.methodLink RX0 33 Lib.Math.abs.name ∈ lw_g := gm_2 (List.mem_of_getElem? (i := 40) rfl) rfl
theorem sm_Math_abs : Cond.static Lib.Math.abs.name ∈ lw_g := gm_2 (List.mem_of_getElem? (i := 41) rfl) rfl
theorem cd_Math_abs : Cond.code Lib.Math.abs.name Lib.Math.abs.code 1 (some .int) ∈ lw_g := gm_2 (List.mem_of_getElem? (i := 42) rfl) rfl
theorem ml_X8_265 : Cond.methodLink RX8 265 yX2_begin ∈ lw_g := gm_2 (List.mem_of_getElem? (i := 43) rfl) rfl
theorem im_X2_begin : Cond.instanceMethod yX2_begin ∈ lw_g := gm_2 (List.mem_of_getElem? (i := 44) rfl) rfl
theorem se_X2_begin : Cond.selects RX2 yX2_begin yX2_begin ∈ lw_g := gm_2 (List.mem_of_getElem? (i := 45) rfl) rfl
theorem cd_X2_begin : Cond.code yX2_begin cX2_begin 2 none ∈ lw_g := gm_2 (List.mem_of_getElem? (i := 46) rfl) rfl
theorem ml_X8_157 : Cond.methodLink RX8 157 yX8_foldAsNowTells ∈ lw_g := gm_2 (List.mem_of_getElem? (i := 47) rfl) rfl
theorem im_X8_foldAsNowTells : Cond.instanceMethod yX8_foldAsNowTells ∈ lw_g := gm_2 (List.mem_of_getElem? (i := 49) rfl) rfl
theorem cd_X8_foldAsNowTells : Cond.code yX8_foldAsNowTells cX8_foldAsNowTells 2 none ∈ lw_g := gm_2 (List.mem_of_getElem? (i := 50) rfl) rfl
theorem ml_X8_268 : Cond.methodLink RX8 268 yX3_copyFrom ∈ lw_g := gm_2 (List.mem_of_getElem? (i := 51) rfl) rfl
theorem im_X3_copyFrom : Cond.instanceMethod yX3_copyFrom ∈ lw_g := gm_2 (List.mem_of_getElem? (i := 52) rfl) rfl
theorem se_X3_copyFrom : Cond.selects RX3 yX3_copyFrom yX3_copyFrom ∈ lw_g := gm_2 (List.mem_of_getElem? (i := 53) rfl) rfl
theorem cd_X3_copyFrom : Cond.code yX3_copyFrom cX3_copyFrom 2 none ∈ lw_g := gm_2 (List.mem_of_getElem? (i := 54) rfl) rfl
theorem ml_X3_43 : Cond.methodLink RX3 43 arraycopyName ∈ lw_g := gm_2 (List.mem_of_getElem? (i := 55) rfl) rfl
theorem sm_arraycopy : Cond.static arraycopyName ∈ lw_g := gm_2 (List.mem_of_getElem? (i := 56) rfl) rfl
theorem nv_arraycopy : Cond.native arraycopyName ∈ lw_g := gm_2 (List.mem_of_getElem? (i := 57) rfl) rfl
theorem ml_X8_273 : Cond.methodLink RX8 273 arraycopyName ∈ lw_g := gm_2 (List.mem_of_getElem? (i := 58) rfl) rfl
theorem ml_X8_147 : Cond.methodLink RX8 147 yX8_bendBy ∈ lw_g := gm_2 (List.mem_of_getElem? (i := 59) rfl) rfl
theorem im_X8_bendBy : Cond.instanceMethod yX8_bendBy ∈ lw_g := gm_2 (List.mem_of_getElem? (i := 61) rfl) rfl
theorem cd_X8_bendBy : Cond.code yX8_bendBy cX8_bendBy 2 none ∈ lw_g := gm_2 (List.mem_of_getElem? (i := 62) rfl) rfl
theorem ml_X8_282 : Cond.methodLink RX8 282 yX0_bend ∈ lw_g := gm_2 (List.mem_of_getElem? (i := 63) rfl) rfl
theorem im_X0_bend : Cond.instanceMethod yX0_bend ∈ lw_g := gm_2 (List.mem_of_getElem? (i := 64) rfl) rfl
theorem se_X0_bend : Cond.selects RX0 yX0_bend yX0_bend ∈ lw_g := gm_2 (List.mem_of_getElem? (i := 65) rfl) rfl
theorem cd_X0_bend : Cond.code yX0_bend cX0_bend 4 none ∈ lw_g := gm_2 (List.mem_of_getElem? (i := 66) rfl) rfl
theorem ml_X0_49 : Cond.methodLink RX0 49 yX3_isParted ∈ lw_g := gm_2 (List.mem_of_getElem? (i := 67) rfl) rfl
theorem im_X3_isParted : Cond.instanceMethod yX3_isParted ∈ lw_g := gm_2 (List.mem_of_getElem? (i := 68) rfl) rfl
theorem se_X3_isParted : Cond.selects RX3 yX3_isParted yX3_isParted ∈ lw_g := gm_2 (List.mem_of_getElem? (i := 69) rfl) rfl
theorem cd_X3_isParted : Cond.code yX3_isParted cX3_isParted 7 (some .boolean) ∈ lw_g := gm_2 (List.mem_of_getElem? (i := 70) rfl) rfl
theorem ml_X3_49 : Cond.methodLink RX3 49 yX3_axisOf ∈ lw_g := gm_2 (List.mem_of_getElem? (i := 71) rfl) rfl
theorem sm_X3_axisOf : Cond.static yX3_axisOf ∈ lw_g := gm_2 (List.mem_of_getElem? (i := 72) rfl) rfl
theorem cd_X3_axisOf : Cond.code yX3_axisOf cX3_axisOf 1 (some .int) ∈ lw_g := gm_2 (List.mem_of_getElem? (i := 73) rfl) rfl
theorem ml_X3_53 : Cond.methodLink RX3 53 yX3_lineOf ∈ lw_g := gm_2 (List.mem_of_getElem? (i := 74) rfl) rfl
theorem sm_X3_lineOf : Cond.static yX3_lineOf ∈ lw_g := gm_2 (List.mem_of_getElem? (i := 75) rfl) rfl
theorem cd_X3_lineOf : Cond.code yX3_lineOf cX3_lineOf 1 (some .int) ∈ lw_g := gm_2 (List.mem_of_getElem? (i := 76) rfl) rfl
theorem ml_X3_75 : Cond.methodLink RX3 75 Lib.Math.max.name ∈ lw_g := gm_2 (List.mem_of_getElem? (i := 77) rfl) rfl
theorem sm_Math_max : Cond.static Lib.Math.max.name ∈ lw_g := gm_2 (List.mem_of_getElem? (i := 78) rfl) rfl
theorem cd_Math_max : Cond.code Lib.Math.max.name Lib.Math.max.code 2 (some .int) ∈ lw_g := gm_2 (List.mem_of_getElem? (i := 79) rfl) rfl
theorem ml_X8_286 : Cond.methodLink RX8 286 yX3_bend ∈ lw_g := gm_2 (List.mem_of_getElem? (i := 80) rfl) rfl
theorem im_X3_bend : Cond.instanceMethod yX3_bend ∈ lw_g := gm_2 (List.mem_of_getElem? (i := 81) rfl) rfl
theorem se_X3_bend : Cond.selects RX3 yX3_bend yX3_bend ∈ lw_g := gm_2 (List.mem_of_getElem? (i := 82) rfl) rfl
theorem cd_X3_bend : Cond.code yX3_bend cX3_bend 12 none ∈ lw_g := gm_2 (List.mem_of_getElem? (i := 83) rfl) rfl
theorem ml_X3_56 : Cond.methodLink RX3 56 yX3_countHeights ∈ lw_g := gm_2 (List.mem_of_getElem? (i := 84) rfl) rfl
theorem im_X3_countHeights : Cond.instanceMethod yX3_countHeights ∈ lw_g := gm_2 (List.mem_of_getElem? (i := 86) rfl) rfl
theorem cd_X3_countHeights : Cond.code yX3_countHeights cX3_countHeights 2 none ∈ lw_g := gm_2 (List.mem_of_getElem? (i := 87) rfl) rfl
theorem ml_X3_78 : Cond.methodLink RX3 78 yX3_isPlace ∈ lw_g := gm_2 (List.mem_of_getElem? (i := 88) rfl) rfl
theorem sm_X3_isPlace : Cond.static yX3_isPlace ∈ lw_g := gm_2 (List.mem_of_getElem? (i := 89) rfl) rfl
theorem cd_X3_isPlace : Cond.code yX3_isPlace cX3_isPlace 2 (some .boolean) ∈ lw_g := gm_2 (List.mem_of_getElem? (i := 90) rfl) rfl
theorem ml_X3_59 : Cond.methodLink RX3 59 yX3_overOf ∈ lw_g := gm_2 (List.mem_of_getElem? (i := 91) rfl) rfl
theorem sm_X3_overOf : Cond.static yX3_overOf ∈ lw_g := gm_2 (List.mem_of_getElem? (i := 92) rfl) rfl
theorem cd_X3_overOf : Cond.code yX3_overOf cX3_overOf 1 (some .int) ∈ lw_g := gm_2 (List.mem_of_getElem? (i := 93) rfl) rfl
theorem ml_X3_62 : Cond.methodLink RX3 62 yX3_shiftOf ∈ lw_g := gm_2 (List.mem_of_getElem? (i := 94) rfl) rfl
theorem im_X3_shiftOf : Cond.instanceMethod yX3_shiftOf ∈ lw_g := gm_2 (List.mem_of_getElem? (i := 96) rfl) rfl
theorem cd_X3_shiftOf : Cond.code yX3_shiftOf cX3_shiftOf 4 (some .int) ∈ lw_g := gm_2 (List.mem_of_getElem? (i := 97) rfl) rfl
theorem ml_X3_68 : Cond.methodLink RX3 68 yX3_partOf ∈ lw_g := gm_2 (List.mem_of_getElem? (i := 98) rfl) rfl
theorem sm_X3_partOf : Cond.static yX3_partOf ∈ lw_g := gm_2 (List.mem_of_getElem? (i := 99) rfl) rfl
theorem cd_X3_partOf : Cond.code yX3_partOf cX3_partOf 1 (some .int) ∈ lw_g := gm_2 (List.mem_of_getElem? (i := 100) rfl) rfl
theorem ml_X3_65 : Cond.methodLink RX3 65 yX3_heightAt ∈ lw_g := gm_2 (List.mem_of_getElem? (i := 101) rfl) rfl
theorem im_X3_heightAt : Cond.instanceMethod yX3_heightAt ∈ lw_g := gm_2 (List.mem_of_getElem? (i := 103) rfl) rfl
theorem cd_X3_heightAt : Cond.code yX3_heightAt cX3_heightAt 3 (some .int) ∈ lw_g := gm_2 (List.mem_of_getElem? (i := 104) rfl) rfl
theorem ml_X3_71 : Cond.methodLink RX3 71 yX3_shrink ∈ lw_g := gm_2 (List.mem_of_getElem? (i := 105) rfl) rfl
theorem im_X3_shrink : Cond.instanceMethod yX3_shrink ∈ lw_g := gm_2 (List.mem_of_getElem? (i := 107) rfl) rfl
theorem cd_X3_shrink : Cond.code yX3_shrink cX3_shrink 3 none ∈ lw_g := gm_2 (List.mem_of_getElem? (i := 108) rfl) rfl
theorem fl_X8_10 : Cond.fieldLink RX8 10 (TX8 0).1 (TX8 0).2.1 (TX8 0).2.2.1 ∈ lw_g := gm_2 (List.mem_of_getElem? (i := 109) rfl) rfl
theorem fl_X8_20 : Cond.fieldLink RX8 20 (TX8 1).1 (TX8 1).2.1 (TX8 1).2.2.1 ∈ lw_g := gm_2 (List.mem_of_getElem? (i := 110) rfl) rfl
theorem fl_X8_24 : Cond.fieldLink RX8 24 (TX8 2).1 (TX8 2).2.1 (TX8 2).2.2.1 ∈ lw_g := gm_2 (List.mem_of_getElem? (i := 111) rfl) rfl
theorem fl_X8_31 : Cond.fieldLink RX8 31 (TX8 3).1 (TX8 3).2.1 (TX8 3).2.2.1 ∈ lw_g := gm_2 (List.mem_of_getElem? (i := 112) rfl) rfl
theorem fl_X8_35 : Cond.fieldLink RX8 35 (TX8 4).1 (TX8 4).2.1 (TX8 4).2.2.1 ∈ lw_g := gm_2 (List.mem_of_getElem? (i := 113) rfl) rfl
theorem fl_X8_41 : Cond.fieldLink RX8 41 (TX8 5).1 (TX8 5).2.1 (TX8 5).2.2.1 ∈ lw_g := gm_2 (List.mem_of_getElem? (i := 114) rfl) rfl
theorem fl_X8_48 : Cond.fieldLink RX8 48 (TX8 6).1 (TX8 6).2.1 (TX8 6).2.2.1 ∈ lw_g := gm_2 (List.mem_of_getElem? (i := 115) rfl) rfl
theorem fl_X8_52 : Cond.fieldLink RX8 52 (TX8 7).1 (TX8 7).2.1 (TX8 7).2.2.1 ∈ lw_g := gm_2 (List.mem_of_getElem? (i := 116) rfl) rfl
theorem fl_X8_59 : Cond.fieldLink RX8 59 (TX8 8).1 (TX8 8).2.1 (TX8 8).2.2.1 ∈ lw_g := gm_2 (List.mem_of_getElem? (i := 117) rfl) rfl
theorem fl_X8_66 : Cond.fieldLink RX8 66 (TX8 9).1 (TX8 9).2.1 (TX8 9).2.2.1 ∈ lw_g := gm_2 (List.mem_of_getElem? (i := 118) rfl) rfl
theorem fl_X8_70 : Cond.fieldLink RX8 70 (TX8 10).1 (TX8 10).2.1 (TX8 10).2.2.1 ∈ lw_g := gm_2 (List.mem_of_getElem? (i := 119) rfl) rfl
theorem ml_L_15 : Cond.methodLink RL 15 yX8_type ∈ lw_g := gm_2 (List.mem_of_getElem? (i := 143) rfl) rfl
theorem im_X8_type : Cond.instanceMethod yX8_type ∈ lw_g := gm_2 (List.mem_of_getElem? (i := 144) rfl) rfl
theorem se_X8_type : Cond.selects RX8 yX8_type yX8_type ∈ lw_g := gm_2 (List.mem_of_getElem? (i := 145) rfl) rfl
theorem cd_X8_type : Cond.code yX8_type cX8_type 5 (some .int) ∈ lw_g := gm_2 (List.mem_of_getElem? (i := 146) rfl) rfl
theorem ml_X8_83 : Cond.methodLink RX8 83 yX7_append ∈ lw_g := gm_2 (List.mem_of_getElem? (i := 147) rfl) rfl
theorem im_X7_append : Cond.instanceMethod yX7_append ∈ lw_g := gm_2 (List.mem_of_getElem? (i := 148) rfl) rfl
theorem se_X7_append : Cond.selects RX7 yX7_append yX7_append ∈ lw_g := gm_2 (List.mem_of_getElem? (i := 149) rfl) rfl
theorem cd_X7_append : Cond.code yX7_append cX7_append 2 none ∈ lw_g := gm_2 (List.mem_of_getElem? (i := 150) rfl) rfl
theorem ml_L_20 : Cond.methodLink RL 20 yX8_clear ∈ lw_g := gm_2 (List.mem_of_getElem? (i := 151) rfl) rfl
theorem im_X8_clear : Cond.instanceMethod yX8_clear ∈ lw_g := gm_2 (List.mem_of_getElem? (i := 152) rfl) rfl
theorem se_X8_clear : Cond.selects RX8 yX8_clear yX8_clear ∈ lw_g := gm_2 (List.mem_of_getElem? (i := 153) rfl) rfl
theorem cd_X8_clear : Cond.code yX8_clear cX8_clear 2 (some .int) ∈ lw_g := gm_2 (List.mem_of_getElem? (i := 154) rfl) rfl
theorem ml_L_25 : Cond.methodLink RL 25 yX8_map ∈ lw_g := gm_2 (List.mem_of_getElem? (i := 155) rfl) rfl
theorem im_X8_map : Cond.instanceMethod yX8_map ∈ lw_g := gm_2 (List.mem_of_getElem? (i := 156) rfl) rfl
theorem se_X8_map : Cond.selects RX8 yX8_map yX8_map ∈ lw_g := gm_2 (List.mem_of_getElem? (i := 157) rfl) rfl
theorem cd_X8_map : Cond.code yX8_map cX8_map 1 (some .int) ∈ lw_g := gm_2 (List.mem_of_getElem? (i := 158) rfl) rfl
theorem ml_X8_87 : Cond.methodLink RX8 87 yX6_readAll ∈ lw_g := gm_2 (List.mem_of_getElem? (i := 159) rfl) rfl
theorem im_X6_readAll : Cond.instanceMethod yX6_readAll ∈ lw_g := gm_2 (List.mem_of_getElem? (i := 160) rfl) rfl
theorem se_X6_readAll : Cond.selects RX6 yX6_readAll yX6_readAll ∈ lw_g := gm_2 (List.mem_of_getElem? (i := 161) rfl) rfl
theorem cd_X6_readAll : Cond.code yX6_readAll cX6_readAll 2 (some .boolean) ∈ lw_g := gm_2 (List.mem_of_getElem? (i := 162) rfl) rfl
theorem ml_X6_45 : Cond.methodLink RX6 45 yX1_becomeAsAtFirst ∈ lw_g := gm_2 (List.mem_of_getElem? (i := 163) rfl) rfl
theorem ml_X6_48 : Cond.methodLink RX6 48 yX7_rewind ∈ lw_g := gm_2 (List.mem_of_getElem? (i := 164) rfl) rfl
theorem im_X7_rewind : Cond.instanceMethod yX7_rewind ∈ lw_g := gm_2 (List.mem_of_getElem? (i := 165) rfl) rfl
theorem se_X7_rewind : Cond.selects RX7 yX7_rewind yX7_rewind ∈ lw_g := gm_2 (List.mem_of_getElem? (i := 166) rfl) rfl
theorem cd_X7_rewind : Cond.code yX7_rewind cX7_rewind 1 none ∈ lw_g := gm_2 (List.mem_of_getElem? (i := 167) rfl) rfl
theorem ml_X6_51 : Cond.methodLink RX6 51 yX7_readToken ∈ lw_g := gm_2 (List.mem_of_getElem? (i := 168) rfl) rfl
theorem im_X7_readToken : Cond.instanceMethod yX7_readToken ∈ lw_g := gm_2 (List.mem_of_getElem? (i := 169) rfl) rfl
theorem se_X7_readToken : Cond.selects RX7 yX7_readToken yX7_readToken ∈ lw_g := gm_2 (List.mem_of_getElem? (i := 170) rfl) rfl
theorem cd_X7_readToken : Cond.code yX7_readToken cX7_readToken 2 none ∈ lw_g := gm_2 (List.mem_of_getElem? (i := 171) rfl) rfl
theorem ml_X7_31 : Cond.methodLink RX7 31 yX7_byteAt ∈ lw_g := gm_2 (List.mem_of_getElem? (i := 172) rfl) rfl
theorem im_X7_byteAt : Cond.instanceMethod yX7_byteAt ∈ lw_g := gm_2 (List.mem_of_getElem? (i := 174) rfl) rfl
theorem cd_X7_byteAt : Cond.code yX7_byteAt cX7_byteAt 2 (some .int) ∈ lw_g := gm_2 (List.mem_of_getElem? (i := 175) rfl) rfl
theorem ml_X7_35 : Cond.methodLink RX7 35 yX7_isLetter ∈ lw_g := gm_2 (List.mem_of_getElem? (i := 176) rfl) rfl
theorem sm_X7_isLetter : Cond.static yX7_isLetter ∈ lw_g := gm_2 (List.mem_of_getElem? (i := 177) rfl) rfl
theorem cd_X7_isLetter : Cond.code yX7_isLetter cX7_isLetter 1 (some .boolean) ∈ lw_g := gm_2 (List.mem_of_getElem? (i := 178) rfl) rfl
theorem ml_X7_39 : Cond.methodLink RX7 39 yX7_readWord ∈ lw_g := gm_2 (List.mem_of_getElem? (i := 179) rfl) rfl
theorem im_X7_readWord : Cond.instanceMethod yX7_readWord ∈ lw_g := gm_2 (List.mem_of_getElem? (i := 181) rfl) rfl
theorem cd_X7_readWord : Cond.code yX7_readWord cX7_readWord 1 none ∈ lw_g := gm_2 (List.mem_of_getElem? (i := 182) rfl) rfl
theorem sr_X7_48 : Cond.stringRef RX7 48 "map" ∈ lw_tbl := List.mem_append_right _ (List.mem_append_right _ (List.mem_append_left _ (List.mem_of_getElem? (i := 183) rfl)))
theorem ml_X7_50 : Cond.methodLink RX7 50 yX7_isWord ∈ lw_g := gm_2 (List.mem_of_getElem? (i := 184) rfl) rfl
theorem im_X7_isWord : Cond.instanceMethod yX7_isWord ∈ lw_g := gm_2 (List.mem_of_getElem? (i := 186) rfl) rfl
theorem cd_X7_isWord : Cond.code yX7_isWord cX7_isWord 3 (some .boolean) ∈ lw_g := gm_2 (List.mem_of_getElem? (i := 187) rfl) rfl
theorem ml_X7_60 : Cond.methodLink RX7 60 yJ0_length_8abf5 ∈ lw_g := gm_2 (List.mem_of_getElem? (i := 188) rfl) rfl
theorem im_J0_length_8abf5 : Cond.instanceMethod yJ0_length_8abf5 ∈ lw_g := gm_2 (List.mem_of_getElem? (i := 189) rfl) rfl
theorem se_J0_length_8abf5 : Cond.selects RJ0 yJ0_length_8abf5 yJ0_length_8abf5 ∈ lw_g := gm_2 (List.mem_of_getElem? (i := 190) rfl) rfl
theorem cd_J0_length_8abf5 : Cond.code yJ0_length_8abf5 cJ0_length_8abf5 1 (some .int) ∈ lw_g := gm_2 (List.mem_of_getElem? (i := 191) rfl) rfl
theorem ml_J0_335 : Cond.methodLink RJ0 335 yJ0_coder_7d493 ∈ lw_g := gm_2 (List.mem_of_getElem? (i := 192) rfl) rfl
theorem im_J0_coder_7d493 : Cond.instanceMethod yJ0_coder_7d493 ∈ lw_g := gm_2 (List.mem_of_getElem? (i := 193) rfl) rfl
theorem se_J0_coder_7d493 : Cond.selects RJ0 yJ0_coder_7d493 yJ0_coder_7d493 ∈ lw_g := gm_2 (List.mem_of_getElem? (i := 194) rfl) rfl
theorem cd_J0_coder_7d493 : Cond.code yJ0_coder_7d493 cJ0_coder_7d493 1 (some .byte) ∈ lw_g := gm_2 (List.mem_of_getElem? (i := 195) rfl) rfl
theorem fl_J0_38 : Cond.fieldLink RJ0 38 "java/lang/String" "COMPACT_STRINGS" "Z" ∈ lw_g := gm_2 (List.mem_of_getElem? (i := 196) rfl) rfl
theorem ls_J0_COMPACT_STRINGS : Cond.laysStatic RJ0 "COMPACT_STRINGS" "Z" ∈ lw_tbl := List.mem_append_right _ (List.mem_append_right _ (List.mem_append_left _ (List.mem_of_getElem? (i := 197) rfl)))
theorem ml_X7_65 : Cond.methodLink RX7 65 yJ0_charAt_5068e ∈ lw_g := gm_2 (List.mem_of_getElem? (i := 198) rfl) rfl
theorem im_J0_charAt_5068e : Cond.instanceMethod yJ0_charAt_5068e ∈ lw_g := gm_2 (List.mem_of_getElem? (i := 199) rfl) rfl
theorem se_J0_charAt_5068e : Cond.selects RJ0 yJ0_charAt_5068e yJ0_charAt_5068e ∈ lw_g := gm_2 (List.mem_of_getElem? (i := 200) rfl) rfl
theorem cd_J0_charAt_5068e : Cond.code yJ0_charAt_5068e cJ0_charAt_5068e 2 (some .char) ∈ lw_g := gm_2 (List.mem_of_getElem? (i := 201) rfl) rfl
theorem ml_J0_492 : Cond.methodLink RJ0 492 yJ0_isLatin1_aae02 ∈ lw_g := gm_2 (List.mem_of_getElem? (i := 202) rfl) rfl
theorem im_J0_isLatin1_aae02 : Cond.instanceMethod yJ0_isLatin1_aae02 ∈ lw_g := gm_2 (List.mem_of_getElem? (i := 203) rfl) rfl
theorem se_J0_isLatin1_aae02 : Cond.selects RJ0 yJ0_isLatin1_aae02 yJ0_isLatin1_aae02 ∈ lw_g := gm_2 (List.mem_of_getElem? (i := 204) rfl) rfl
theorem cd_J0_isLatin1_aae02 : Cond.code yJ0_isLatin1_aae02 cJ0_isLatin1_aae02 1 (some .boolean) ∈ lw_g := gm_2 (List.mem_of_getElem? (i := 205) rfl) rfl
theorem ml_J0_495 : Cond.methodLink RJ0 495 yJ1_charAt_3b067 ∈ lw_g := gm_2 (List.mem_of_getElem? (i := 206) rfl) rfl
theorem sm_J1_charAt_3b067 : Cond.static yJ1_charAt_3b067 ∈ lw_g := gm_2 (List.mem_of_getElem? (i := 207) rfl) rfl
theorem cd_J1_charAt_3b067 : Cond.code yJ1_charAt_3b067 cJ1_charAt_3b067 2 (some .char) ∈ lw_g := gm_2 (List.mem_of_getElem? (i := 208) rfl) rfl
theorem ml_J1_9 : Cond.methodLink RJ1 9 yJ0_checkIndex_df160 ∈ lw_g := gm_2 (List.mem_of_getElem? (i := 209) rfl) rfl
theorem sm_J0_checkIndex_df160 : Cond.static yJ0_checkIndex_df160 ∈ lw_g := gm_2 (List.mem_of_getElem? (i := 210) rfl) rfl
theorem cd_J0_checkIndex_df160 : Cond.code yJ0_checkIndex_df160 cJ0_checkIndex_df160 2 none ∈ lw_g := gm_2 (List.mem_of_getElem? (i := 211) rfl) rfl
theorem fl_J0_1053 : Cond.fieldLink RJ0 1053 "jdk/internal/util/Preconditions" "SIOOBE_FORMATTER" "Ljava/util/function/BiFunction;" ∈ lw_g := gm_2 (List.mem_of_getElem? (i := 212) rfl) rfl
theorem ls_J3_SIOOBE_FORMATTER : Cond.laysStatic RJ3 "SIOOBE_FORMATTER" "Ljava/util/function/BiFunction;" ∈ lw_tbl := List.mem_append_right _ (List.mem_append_right _ (List.mem_append_left _ (List.mem_of_getElem? (i := 213) rfl)))
theorem ml_J0_1059 : Cond.methodLink RJ0 1059 yJ3_checkIndex_8e157 ∈ lw_g := gm_2 (List.mem_of_getElem? (i := 214) rfl) rfl
theorem sm_J3_checkIndex_8e157 : Cond.static yJ3_checkIndex_8e157 ∈ lw_g := gm_2 (List.mem_of_getElem? (i := 215) rfl) rfl
theorem cd_J3_checkIndex_8e157 : Cond.code yJ3_checkIndex_8e157 cJ3_checkIndex_8e157 3 (some .int) ∈ lw_g := gm_2 (List.mem_of_getElem? (i := 216) rfl) rfl
theorem ml_J0_498 : Cond.methodLink RJ0 498 yJ2_charAt_3b067 ∈ lw_g := gm_2 (List.mem_of_getElem? (i := 217) rfl) rfl
theorem sm_J2_charAt_3b067 : Cond.static yJ2_charAt_3b067 ∈ lw_g := gm_2 (List.mem_of_getElem? (i := 218) rfl) rfl
theorem cd_J2_charAt_3b067 : Cond.code yJ2_charAt_3b067 cJ2_charAt_3b067 2 (some .char) ∈ lw_g := gm_2 (List.mem_of_getElem? (i := 219) rfl) rfl
theorem ml_J2_67 : Cond.methodLink RJ2 67 yJ2_checkIndex_2214a ∈ lw_g := gm_2 (List.mem_of_getElem? (i := 220) rfl) rfl
theorem sm_J2_checkIndex_2214a : Cond.static yJ2_checkIndex_2214a ∈ lw_g := gm_2 (List.mem_of_getElem? (i := 221) rfl) rfl
theorem cd_J2_checkIndex_2214a : Cond.code yJ2_checkIndex_2214a cJ2_checkIndex_2214a 2 none ∈ lw_g := gm_2 (List.mem_of_getElem? (i := 222) rfl) rfl
theorem ml_J2_48 : Cond.methodLink RJ2 48 yJ2_length_9d52b ∈ lw_g := gm_2 (List.mem_of_getElem? (i := 223) rfl) rfl
theorem sm_J2_length_9d52b : Cond.static yJ2_length_9d52b ∈ lw_g := gm_2 (List.mem_of_getElem? (i := 224) rfl) rfl
theorem cd_J2_length_9d52b : Cond.code yJ2_length_9d52b cJ2_length_9d52b 1 (some .int) ∈ lw_g := gm_2 (List.mem_of_getElem? (i := 225) rfl) rfl
theorem ml_J2_414 : Cond.methodLink RJ2 414 yJ0_checkIndex_df160 ∈ lw_g := gm_2 (List.mem_of_getElem? (i := 226) rfl) rfl
theorem ml_J2_71 : Cond.methodLink RJ2 71 yJ2_getChar_3b067 ∈ lw_g := gm_2 (List.mem_of_getElem? (i := 227) rfl) rfl
theorem sm_J2_getChar_3b067 : Cond.static yJ2_getChar_3b067 ∈ lw_g := gm_2 (List.mem_of_getElem? (i := 228) rfl) rfl
theorem cd_J2_getChar_3b067 : Cond.code yJ2_getChar_3b067 cJ2_getChar_3b067 2 (some .char) ∈ lw_g := gm_2 (List.mem_of_getElem? (i := 229) rfl) rfl
theorem fl_J2_44 : Cond.fieldLink RJ2 44 "java/lang/StringUTF16" "$assertionsDisabled" "Z" ∈ lw_g := gm_2 (List.mem_of_getElem? (i := 230) rfl) rfl
theorem ls_J2__assertionsDisabled : Cond.laysStatic RJ2 "$assertionsDisabled" "Z" ∈ lw_tbl := List.mem_append_right _ (List.mem_append_right _ (List.mem_append_left _ (List.mem_of_getElem? (i := 231) rfl)))
theorem fl_J2_59 : Cond.fieldLink RJ2 59 "java/lang/StringUTF16" "HI_BYTE_SHIFT" "I" ∈ lw_g := gm_2 (List.mem_of_getElem? (i := 232) rfl) rfl
theorem ls_J2_HI_BYTE_SHIFT : Cond.laysStatic RJ2 "HI_BYTE_SHIFT" "I" ∈ lw_tbl := List.mem_append_right _ (List.mem_append_right _ (List.mem_append_left _ (List.mem_of_getElem? (i := 233) rfl)))
theorem fl_J2_63 : Cond.fieldLink RJ2 63 "java/lang/StringUTF16" "LO_BYTE_SHIFT" "I" ∈ lw_g := gm_2 (List.mem_of_getElem? (i := 234) rfl) rfl
theorem ls_J2_LO_BYTE_SHIFT : Cond.laysStatic RJ2 "LO_BYTE_SHIFT" "I" ∈ lw_tbl := List.mem_append_right _ (List.mem_append_right _ (List.mem_append_left _ (List.mem_of_getElem? (i := 235) rfl)))
theorem sr_X7_54 : Cond.stringRef RX7 54 "worth" ∈ lw_tbl := List.mem_append_right _ (List.mem_append_right _ (List.mem_append_left _ (List.mem_of_getElem? (i := 236) rfl)))
theorem sr_X7_56 : Cond.stringRef RX7 56 "quarrel" ∈ lw_tbl := List.mem_append_right _ (List.mem_append_right _ (List.mem_append_left _ (List.mem_of_getElem? (i := 237) rfl)))
theorem sr_X7_58 : Cond.stringRef RX7 58 "tear" ∈ lw_tbl := List.mem_append_right _ (List.mem_append_right _ (List.mem_append_left _ (List.mem_of_getElem? (i := 238) rfl)))
theorem ml_X7_42 : Cond.methodLink RX7 42 yX7_isDigit ∈ lw_g := gm_2 (List.mem_of_getElem? (i := 239) rfl) rfl
theorem sm_X7_isDigit : Cond.static yX7_isDigit ∈ lw_g := gm_3 (List.mem_of_getElem? (i := 0) rfl) rfl
theorem cd_X7_isDigit : Cond.code yX7_isDigit cX7_isDigit 1 (some .boolean) ∈ lw_g := gm_3 (List.mem_of_getElem? (i := 1) rfl) rfl
theorem ml_X7_45 : Cond.methodLink RX7 45 yX7_readNumber ∈ lw_g := gm_3 (List.mem_of_getElem? (i := 2) rfl) rfl
theorem im_X7_readNumber : Cond.instanceMethod yX7_readNumber ∈ lw_g := gm_3 (List.mem_of_getElem? (i := 4) rfl) rfl
theorem cd_X7_readNumber : Cond.code yX7_readNumber cX7_readNumber 3 none ∈ lw_g := gm_3 (List.mem_of_getElem? (i := 5) rfl) rfl
theorem ml_X6_57 : Cond.methodLink RX6 57 yX6_takesToken ∈ lw_g := gm_3 (List.mem_of_getElem? (i := 6) rfl) rfl
theorem im_X6_takesToken : Cond.instanceMethod yX6_takesToken ∈ lw_g := gm_3 (List.mem_of_getElem? (i := 8) rfl) rfl
theorem cd_X6_takesToken : Cond.code yX6_takesToken cX6_takesToken 2 (some .boolean) ∈ lw_g := gm_3 (List.mem_of_getElem? (i := 9) rfl) rfl
theorem ml_X6_61 : Cond.methodLink RX6 61 yX6_takesWord ∈ lw_g := gm_3 (List.mem_of_getElem? (i := 10) rfl) rfl
theorem im_X6_takesWord : Cond.instanceMethod yX6_takesWord ∈ lw_g := gm_3 (List.mem_of_getElem? (i := 12) rfl) rfl
theorem cd_X6_takesWord : Cond.code yX6_takesWord cX6_takesWord 1 (some .boolean) ∈ lw_g := gm_3 (List.mem_of_getElem? (i := 13) rfl) rfl
theorem ml_X6_70 : Cond.methodLink RX6 70 yX6_mayBegin ∈ lw_g := gm_3 (List.mem_of_getElem? (i := 14) rfl) rfl
theorem im_X6_mayBegin : Cond.instanceMethod yX6_mayBegin ∈ lw_g := gm_3 (List.mem_of_getElem? (i := 16) rfl) rfl
theorem cd_X6_mayBegin : Cond.code yX6_mayBegin cX6_mayBegin 2 (some .boolean) ∈ lw_g := gm_3 (List.mem_of_getElem? (i := 17) rfl) rfl
theorem ml_X6_78 : Cond.methodLink RX6 78 yX4_isFull ∈ lw_g := gm_3 (List.mem_of_getElem? (i := 18) rfl) rfl
theorem im_X4_isFull : Cond.instanceMethod yX4_isFull ∈ lw_g := gm_3 (List.mem_of_getElem? (i := 19) rfl) rfl
theorem se_X4_isFull : Cond.selects RX4 yX4_isFull yX4_isFull ∈ lw_g := gm_3 (List.mem_of_getElem? (i := 20) rfl) rfl
theorem cd_X4_isFull : Cond.code yX4_isFull cX4_isFull 1 (some .boolean) ∈ lw_g := gm_3 (List.mem_of_getElem? (i := 21) rfl) rfl
theorem ml_X6_64 : Cond.methodLink RX6 64 yX6_takesNumber ∈ lw_g := gm_3 (List.mem_of_getElem? (i := 22) rfl) rfl
theorem im_X6_takesNumber : Cond.instanceMethod yX6_takesNumber ∈ lw_g := gm_3 (List.mem_of_getElem? (i := 24) rfl) rfl
theorem cd_X6_takesNumber : Cond.code yX6_takesNumber cX6_takesNumber 2 (some .boolean) ∈ lw_g := gm_3 (List.mem_of_getElem? (i := 25) rfl) rfl
theorem ml_X6_86 : Cond.methodLink RX6 86 yX6_mostNumber ∈ lw_g := gm_3 (List.mem_of_getElem? (i := 26) rfl) rfl
theorem im_X6_mostNumber : Cond.instanceMethod yX6_mostNumber ∈ lw_g := gm_3 (List.mem_of_getElem? (i := 28) rfl) rfl
theorem cd_X6_mostNumber : Cond.code yX6_mostNumber cX6_mostNumber 2 (some .int) ∈ lw_g := gm_3 (List.mem_of_getElem? (i := 29) rfl) rfl
theorem ml_X6_67 : Cond.methodLink RX6 67 yX6_takesEnd ∈ lw_g := gm_3 (List.mem_of_getElem? (i := 30) rfl) rfl
theorem im_X6_takesEnd : Cond.instanceMethod yX6_takesEnd ∈ lw_g := gm_3 (List.mem_of_getElem? (i := 32) rfl) rfl
theorem cd_X6_takesEnd : Cond.code yX6_takesEnd cX6_takesEnd 1 (some .boolean) ∈ lw_g := gm_3 (List.mem_of_getElem? (i := 33) rfl) rfl
theorem ml_X6_96 : Cond.methodLink RX6 96 yX1_setWorth ∈ lw_g := gm_3 (List.mem_of_getElem? (i := 34) rfl) rfl
theorem im_X1_setWorth : Cond.instanceMethod yX1_setWorth ∈ lw_g := gm_3 (List.mem_of_getElem? (i := 35) rfl) rfl
theorem se_X1_setWorth : Cond.selects RX1 yX1_setWorth yX1_setWorth ∈ lw_g := gm_3 (List.mem_of_getElem? (i := 36) rfl) rfl
theorem cd_X1_setWorth : Cond.code yX1_setWorth cX1_setWorth 3 none ∈ lw_g := gm_3 (List.mem_of_getElem? (i := 37) rfl) rfl
theorem ml_X6_100 : Cond.methodLink RX6 100 yX4_add ∈ lw_g := gm_3 (List.mem_of_getElem? (i := 38) rfl) rfl
theorem im_X4_add : Cond.instanceMethod yX4_add ∈ lw_g := gm_3 (List.mem_of_getElem? (i := 39) rfl) rfl
theorem se_X4_add : Cond.selects RX4 yX4_add yX4_add ∈ lw_g := gm_3 (List.mem_of_getElem? (i := 40) rfl) rfl
theorem cd_X4_add : Cond.code yX4_add cX4_add 3 none ∈ lw_g := gm_3 (List.mem_of_getElem? (i := 41) rfl) rfl
theorem ml_X4_22 : Cond.methodLink RX4 22 yX4_isFull ∈ lw_g := gm_3 (List.mem_of_getElem? (i := 42) rfl) rfl
theorem ml_X8_97 : Cond.methodLink RX8 97 yX1_copyFrom ∈ lw_g := gm_3 (List.mem_of_getElem? (i := 43) rfl) rfl
theorem im_X1_copyFrom : Cond.instanceMethod yX1_copyFrom ∈ lw_g := gm_3 (List.mem_of_getElem? (i := 44) rfl) rfl
theorem se_X1_copyFrom : Cond.selects RX1 yX1_copyFrom yX1_copyFrom ∈ lw_g := gm_3 (List.mem_of_getElem? (i := 45) rfl) rfl
theorem cd_X1_copyFrom : Cond.code yX1_copyFrom cX1_copyFrom 2 none ∈ lw_g := gm_3 (List.mem_of_getElem? (i := 46) rfl) rfl
theorem ml_X1_38 : Cond.methodLink RX1 38 arraycopyName ∈ lw_g := gm_3 (List.mem_of_getElem? (i := 47) rfl) rfl
theorem ml_X1_44 : Cond.methodLink RX1 44 yX4_copyFrom ∈ lw_g := gm_3 (List.mem_of_getElem? (i := 48) rfl) rfl
theorem im_X4_copyFrom : Cond.instanceMethod yX4_copyFrom ∈ lw_g := gm_3 (List.mem_of_getElem? (i := 49) rfl) rfl
theorem se_X4_copyFrom : Cond.selects RX4 yX4_copyFrom yX4_copyFrom ∈ lw_g := gm_3 (List.mem_of_getElem? (i := 50) rfl) rfl
theorem cd_X4_copyFrom : Cond.code yX4_copyFrom cX4_copyFrom 2 none ∈ lw_g := gm_3 (List.mem_of_getElem? (i := 51) rfl) rfl
theorem ml_X4_26 : Cond.methodLink RX4 26 arraycopyName ∈ lw_g := gm_3 (List.mem_of_getElem? (i := 52) rfl) rfl
theorem arr_byte : Cond.arrayClass .byte ∈ lw_g := gm_3 (List.mem_of_getElem? (i := 53) rfl) rfl
theorem ml_L_29 : Cond.methodLink RL 29 yX8_cell ∈ lw_g := gm_3 (List.mem_of_getElem? (i := 54) rfl) rfl
theorem im_X8_cell : Cond.instanceMethod yX8_cell ∈ lw_g := gm_3 (List.mem_of_getElem? (i := 55) rfl) rfl
theorem se_X8_cell : Cond.selects RX8 yX8_cell yX8_cell ∈ lw_g := gm_3 (List.mem_of_getElem? (i := 56) rfl) rfl
theorem cd_X8_cell : Cond.code yX8_cell cX8_cell 3 (some .int) ∈ lw_g := gm_3 (List.mem_of_getElem? (i := 57) rfl) rfl
theorem ml_X8_104 : Cond.methodLink RX8 104 yX8_isCell ∈ lw_g := gm_3 (List.mem_of_getElem? (i := 58) rfl) rfl
theorem im_X8_isCell : Cond.instanceMethod yX8_isCell ∈ lw_g := gm_3 (List.mem_of_getElem? (i := 60) rfl) rfl
theorem cd_X8_isCell : Cond.code yX8_isCell cX8_isCell 2 (some .boolean) ∈ lw_g := gm_3 (List.mem_of_getElem? (i := 61) rfl) rfl
theorem ml_X8_124 : Cond.methodLink RX8 124 yX3_gainOf ∈ lw_g := gm_3 (List.mem_of_getElem? (i := 62) rfl) rfl
theorem im_X3_gainOf : Cond.instanceMethod yX3_gainOf ∈ lw_g := gm_3 (List.mem_of_getElem? (i := 63) rfl) rfl
theorem se_X3_gainOf : Cond.selects RX3 yX3_gainOf yX3_gainOf ∈ lw_g := gm_3 (List.mem_of_getElem? (i := 64) rfl) rfl
theorem cd_X3_gainOf : Cond.code yX3_gainOf cX3_gainOf 5 (some .int) ∈ lw_g := gm_3 (List.mem_of_getElem? (i := 65) rfl) rfl
theorem ml_X3_85 : Cond.methodLink RX3 85 yX3_touching ∈ lw_g := gm_3 (List.mem_of_getElem? (i := 66) rfl) rfl
theorem im_X3_touching : Cond.instanceMethod yX3_touching ∈ lw_g := gm_3 (List.mem_of_getElem? (i := 67) rfl) rfl
theorem se_X3_touching : Cond.selects RX3 yX3_touching yX3_touching ∈ lw_g := gm_3 (List.mem_of_getElem? (i := 68) rfl) rfl
theorem cd_X3_touching : Cond.code yX3_touching cX3_touching 4 (some .int) ∈ lw_g := gm_3 (List.mem_of_getElem? (i := 69) rfl) rfl
theorem ml_X3_82 : Cond.methodLink RX3 82 Lib.Math.abs.name ∈ lw_g := gm_3 (List.mem_of_getElem? (i := 70) rfl) rfl
theorem ml_L_34 : Cond.methodLink RL 34 yX8_at ∈ lw_g := gm_3 (List.mem_of_getElem? (i := 71) rfl) rfl
theorem im_X8_at : Cond.instanceMethod yX8_at ∈ lw_g := gm_3 (List.mem_of_getElem? (i := 72) rfl) rfl
theorem se_X8_at : Cond.selects RX8 yX8_at yX8_at ∈ lw_g := gm_3 (List.mem_of_getElem? (i := 73) rfl) rfl
theorem cd_X8_at : Cond.code yX8_at cX8_at 5 (some .int) ∈ lw_g := gm_3 (List.mem_of_getElem? (i := 74) rfl) rfl
theorem ml_L_39 : Cond.methodLink RL 39 yX8_fold ∈ lw_g := gm_3 (List.mem_of_getElem? (i := 75) rfl) rfl
theorem im_X8_fold : Cond.instanceMethod yX8_fold ∈ lw_g := gm_3 (List.mem_of_getElem? (i := 76) rfl) rfl
theorem se_X8_fold : Cond.selects RX8 yX8_fold yX8_fold ∈ lw_g := gm_3 (List.mem_of_getElem? (i := 77) rfl) rfl
theorem cd_X8_fold : Cond.code yX8_fold cX8_fold 6 (some .int) ∈ lw_g := gm_3 (List.mem_of_getElem? (i := 78) rfl) rfl
theorem ml_X8_131 : Cond.methodLink RX8 131 yX8_isBit ∈ lw_g := gm_3 (List.mem_of_getElem? (i := 79) rfl) rfl
theorem sm_X8_isBit : Cond.static yX8_isBit ∈ lw_g := gm_3 (List.mem_of_getElem? (i := 80) rfl) rfl
theorem cd_X8_isBit : Cond.code yX8_isBit cX8_isBit 1 (some .boolean) ∈ lw_g := gm_3 (List.mem_of_getElem? (i := 81) rfl) rfl
theorem ml_X8_134 : Cond.methodLink RX8 134 yX3_canBend ∈ lw_g := gm_3 (List.mem_of_getElem? (i := 82) rfl) rfl
theorem im_X3_canBend : Cond.instanceMethod yX3_canBend ∈ lw_g := gm_3 (List.mem_of_getElem? (i := 83) rfl) rfl
theorem se_X3_canBend : Cond.selects RX3 yX3_canBend yX3_canBend ∈ lw_g := gm_3 (List.mem_of_getElem? (i := 84) rfl) rfl
theorem cd_X3_canBend : Cond.code yX3_canBend cX3_canBend 3 (some .boolean) ∈ lw_g := gm_3 (List.mem_of_getElem? (i := 85) rfl) rfl
theorem ml_X8_140 : Cond.methodLink RX8 140 yX0_wouldTear ∈ lw_g := gm_3 (List.mem_of_getElem? (i := 86) rfl) rfl
theorem im_X0_wouldTear : Cond.instanceMethod yX0_wouldTear ∈ lw_g := gm_3 (List.mem_of_getElem? (i := 87) rfl) rfl
theorem se_X0_wouldTear : Cond.selects RX0 yX0_wouldTear yX0_wouldTear ∈ lw_g := gm_3 (List.mem_of_getElem? (i := 88) rfl) rfl
theorem cd_X0_wouldTear : Cond.code yX0_wouldTear cX0_wouldTear 5 (some .boolean) ∈ lw_g := gm_3 (List.mem_of_getElem? (i := 89) rfl) rfl
theorem ml_X8_144 : Cond.methodLink RX8 144 yX2_addFold ∈ lw_g := gm_3 (List.mem_of_getElem? (i := 90) rfl) rfl
theorem im_X2_addFold : Cond.instanceMethod yX2_addFold ∈ lw_g := gm_3 (List.mem_of_getElem? (i := 91) rfl) rfl
theorem se_X2_addFold : Cond.selects RX2 yX2_addFold yX2_addFold ∈ lw_g := gm_3 (List.mem_of_getElem? (i := 92) rfl) rfl
theorem cd_X2_addFold : Cond.code yX2_addFold cX2_addFold 2 none ∈ lw_g := gm_3 (List.mem_of_getElem? (i := 93) rfl) rfl
theorem ml_X8_150 : Cond.methodLink RX8 150 yX3_thickest ∈ lw_g := gm_3 (List.mem_of_getElem? (i := 94) rfl) rfl
theorem im_X3_thickest : Cond.instanceMethod yX3_thickest ∈ lw_g := gm_3 (List.mem_of_getElem? (i := 95) rfl) rfl
theorem se_X3_thickest : Cond.selects RX3 yX3_thickest yX3_thickest ∈ lw_g := gm_3 (List.mem_of_getElem? (i := 96) rfl) rfl
theorem cd_X3_thickest : Cond.code yX3_thickest cX3_thickest 3 (some .int) ∈ lw_g := gm_3 (List.mem_of_getElem? (i := 97) rfl) rfl
theorem ml_L_44 : Cond.methodLink RL 44 yX8_undo ∈ lw_g := gm_3 (List.mem_of_getElem? (i := 98) rfl) rfl
theorem im_X8_undo : Cond.instanceMethod yX8_undo ∈ lw_g := gm_3 (List.mem_of_getElem? (i := 99) rfl) rfl
theorem se_X8_undo : Cond.selects RX8 yX8_undo yX8_undo ∈ lw_g := gm_3 (List.mem_of_getElem? (i := 100) rfl) rfl
theorem cd_X8_undo : Cond.code yX8_undo cX8_undo 1 (some .int) ∈ lw_g := gm_3 (List.mem_of_getElem? (i := 101) rfl) rfl
theorem ml_L_48 : Cond.methodLink RL 48 yX8_day ∈ lw_g := gm_3 (List.mem_of_getElem? (i := 102) rfl) rfl
theorem im_X8_day : Cond.instanceMethod yX8_day ∈ lw_g := gm_3 (List.mem_of_getElem? (i := 103) rfl) rfl
theorem se_X8_day : Cond.selects RX8 yX8_day yX8_day ∈ lw_g := gm_3 (List.mem_of_getElem? (i := 104) rfl) rfl
theorem cd_X8_day : Cond.code yX8_day cX8_day 1 (some .int) ∈ lw_g := gm_3 (List.mem_of_getElem? (i := 105) rfl) rfl
theorem ml_X8_160 : Cond.methodLink RX8 160 yX2_nextDay ∈ lw_g := gm_3 (List.mem_of_getElem? (i := 106) rfl) rfl
theorem im_X2_nextDay : Cond.instanceMethod yX2_nextDay ∈ lw_g := gm_3 (List.mem_of_getElem? (i := 107) rfl) rfl
theorem se_X2_nextDay : Cond.selects RX2 yX2_nextDay yX2_nextDay ∈ lw_g := gm_3 (List.mem_of_getElem? (i := 108) rfl) rfl
theorem cd_X2_nextDay : Cond.code yX2_nextDay cX2_nextDay 2 none ∈ lw_g := gm_3 (List.mem_of_getElem? (i := 109) rfl) rfl
theorem ml_X2_34 : Cond.methodLink RX2 34 arraycopyName ∈ lw_g := gm_3 (List.mem_of_getElem? (i := 110) rfl) rfl
theorem ml_L_52 : Cond.methodLink RL 52 yX8_bent ∈ lw_g := gm_3 (List.mem_of_getElem? (i := 111) rfl) rfl
theorem im_X8_bent : Cond.instanceMethod yX8_bent ∈ lw_g := gm_3 (List.mem_of_getElem? (i := 112) rfl) rfl
theorem se_X8_bent : Cond.selects RX8 yX8_bent yX8_bent ∈ lw_g := gm_3 (List.mem_of_getElem? (i := 113) rfl) rfl
theorem cd_X8_bent : Cond.code yX8_bent cX8_bent 4 (some .int) ∈ lw_g := gm_3 (List.mem_of_getElem? (i := 114) rfl) rfl
theorem ml_X8_167 : Cond.methodLink RX8 167 yX0_find ∈ lw_g := gm_3 (List.mem_of_getElem? (i := 115) rfl) rfl
theorem im_X0_find : Cond.instanceMethod yX0_find ∈ lw_g := gm_3 (List.mem_of_getElem? (i := 116) rfl) rfl
theorem se_X0_find : Cond.selects RX0 yX0_find yX0_find ∈ lw_g := gm_3 (List.mem_of_getElem? (i := 117) rfl) rfl
theorem cd_X0_find : Cond.code yX0_find cX0_find 6 (some .int) ∈ lw_g := gm_3 (List.mem_of_getElem? (i := 118) rfl) rfl
theorem ml_X0_42 : Cond.methodLink RX0 42 Lib.Math.min.name ∈ lw_g := gm_3 (List.mem_of_getElem? (i := 119) rfl) rfl
theorem ml_X0_46 : Cond.methodLink RX0 46 Lib.Math.max.name ∈ lw_g := gm_3 (List.mem_of_getElem? (i := 120) rfl) rfl
theorem ml_L_56 : Cond.methodLink RL 56 yX8_touch ∈ lw_g := gm_3 (List.mem_of_getElem? (i := 121) rfl) rfl
theorem im_X8_touch : Cond.instanceMethod yX8_touch ∈ lw_g := gm_3 (List.mem_of_getElem? (i := 122) rfl) rfl
theorem se_X8_touch : Cond.selects RX8 yX8_touch yX8_touch ∈ lw_g := gm_3 (List.mem_of_getElem? (i := 123) rfl) rfl
theorem cd_X8_touch : Cond.code yX8_touch cX8_touch 3 (some .int) ∈ lw_g := gm_3 (List.mem_of_getElem? (i := 124) rfl) rfl
theorem ml_X8_174 : Cond.methodLink RX8 174 yX8_areTwoCells ∈ lw_g := gm_3 (List.mem_of_getElem? (i := 125) rfl) rfl
theorem im_X8_areTwoCells : Cond.instanceMethod yX8_areTwoCells ∈ lw_g := gm_3 (List.mem_of_getElem? (i := 127) rfl) rfl
theorem cd_X8_areTwoCells : Cond.code yX8_areTwoCells cX8_areTwoCells 3 (some .boolean) ∈ lw_g := gm_3 (List.mem_of_getElem? (i := 128) rfl) rfl
theorem ml_X8_178 : Cond.methodLink RX8 178 yX3_touching ∈ lw_g := gm_3 (List.mem_of_getElem? (i := 129) rfl) rfl
theorem ml_L_60 : Cond.methodLink RL 60 yX8_packet ∈ lw_g := gm_3 (List.mem_of_getElem? (i := 130) rfl) rfl
theorem im_X8_packet : Cond.instanceMethod yX8_packet ∈ lw_g := gm_3 (List.mem_of_getElem? (i := 131) rfl) rfl
theorem se_X8_packet : Cond.selects RX8 yX8_packet yX8_packet ∈ lw_g := gm_3 (List.mem_of_getElem? (i := 132) rfl) rfl
theorem cd_X8_packet : Cond.code yX8_packet cX8_packet 2 (some .int) ∈ lw_g := gm_3 (List.mem_of_getElem? (i := 133) rfl) rfl
theorem ml_X8_190 : Cond.methodLink RX8 190 yX3_countFought ∈ lw_g := gm_3 (List.mem_of_getElem? (i := 134) rfl) rfl
theorem im_X3_countFought : Cond.instanceMethod yX3_countFought ∈ lw_g := gm_3 (List.mem_of_getElem? (i := 135) rfl) rfl
theorem se_X3_countFought : Cond.selects RX3 yX3_countFought yX3_countFought ∈ lw_g := gm_3 (List.mem_of_getElem? (i := 136) rfl) rfl
theorem cd_X3_countFought : Cond.code yX3_countFought cX3_countFought 4 (some .int) ∈ lw_g := gm_3 (List.mem_of_getElem? (i := 137) rfl) rfl
theorem ml_X8_194 : Cond.methodLink RX8 194 yX3_countFrontPairs ∈ lw_g := gm_3 (List.mem_of_getElem? (i := 138) rfl) rfl
theorem im_X3_countFrontPairs : Cond.instanceMethod yX3_countFrontPairs ∈ lw_g := gm_3 (List.mem_of_getElem? (i := 139) rfl) rfl
theorem se_X3_countFrontPairs : Cond.selects RX3 yX3_countFrontPairs yX3_countFrontPairs ∈ lw_g := gm_3 (List.mem_of_getElem? (i := 140) rfl) rfl
theorem cd_X3_countFrontPairs : Cond.code yX3_countFrontPairs cX3_countFrontPairs 4 (some .int) ∈ lw_g := gm_3 (List.mem_of_getElem? (i := 141) rfl) rfl
theorem ml_L_65 : Cond.methodLink RL 65 yX8_reach ∈ lw_g := gm_3 (List.mem_of_getElem? (i := 142) rfl) rfl
theorem im_X8_reach : Cond.instanceMethod yX8_reach ∈ lw_g := gm_3 (List.mem_of_getElem? (i := 143) rfl) rfl
theorem se_X8_reach : Cond.selects RX8 yX8_reach yX8_reach ∈ lw_g := gm_3 (List.mem_of_getElem? (i := 144) rfl) rfl
theorem cd_X8_reach : Cond.code yX8_reach cX8_reach 4 (some .int) ∈ lw_g := gm_3 (List.mem_of_getElem? (i := 145) rfl) rfl
theorem ml_X8_197 : Cond.methodLink RX8 197 yX5_startFrom ∈ lw_g := gm_3 (List.mem_of_getElem? (i := 146) rfl) rfl
theorem im_X5_startFrom : Cond.instanceMethod yX5_startFrom ∈ lw_g := gm_3 (List.mem_of_getElem? (i := 147) rfl) rfl
theorem se_X5_startFrom : Cond.selects RX5 yX5_startFrom yX5_startFrom ∈ lw_g := gm_3 (List.mem_of_getElem? (i := 148) rfl) rfl
theorem cd_X5_startFrom : Cond.code yX5_startFrom cX5_startFrom 2 none ∈ lw_g := gm_3 (List.mem_of_getElem? (i := 149) rfl) rfl
theorem ml_X5_33 : Cond.methodLink RX5 33 yX3_copyFrom ∈ lw_g := gm_3 (List.mem_of_getElem? (i := 150) rfl) rfl
theorem ml_X8_201 : Cond.methodLink RX8 201 yX5_findMeeting ∈ lw_g := gm_3 (List.mem_of_getElem? (i := 151) rfl) rfl
theorem im_X5_findMeeting : Cond.instanceMethod yX5_findMeeting ∈ lw_g := gm_3 (List.mem_of_getElem? (i := 152) rfl) rfl
theorem se_X5_findMeeting : Cond.selects RX5 yX5_findMeeting yX5_findMeeting ∈ lw_g := gm_3 (List.mem_of_getElem? (i := 153) rfl) rfl
theorem cd_X5_findMeeting : Cond.code yX5_findMeeting cX5_findMeeting 6 (some .boolean) ∈ lw_g := gm_3 (List.mem_of_getElem? (i := 154) rfl) rfl
theorem ml_X5_37 : Cond.methodLink RX5 37 yX3_touching ∈ lw_g := gm_3 (List.mem_of_getElem? (i := 155) rfl) rfl
theorem fl_X5_41 : Cond.fieldLink RX5 41 "FoldedMap$Plans" "PLANS_OF" "[I" ∈ lw_g := gm_3 (List.mem_of_getElem? (i := 156) rfl) rfl
theorem ls_X5_PLANS_OF : Cond.laysStatic RX5 "PLANS_OF" "[I" ∈ lw_tbl := List.mem_append_right _ (List.mem_append_right _ (List.mem_append_right _ (List.mem_append_left _ (List.mem_of_getElem? (i := 157) rfl))))
theorem ml_X5_44 : Cond.methodLink RX5 44 yX5_lay ∈ lw_g := gm_3 (List.mem_of_getElem? (i := 158) rfl) rfl
theorem im_X5_lay : Cond.instanceMethod yX5_lay ∈ lw_g := gm_3 (List.mem_of_getElem? (i := 160) rfl) rfl
theorem cd_X5_lay : Cond.code yX5_lay cX5_lay 4 (some .boolean) ∈ lw_g := gm_3 (List.mem_of_getElem? (i := 161) rfl) rfl
theorem ml_X5_69 : Cond.methodLink RX5 69 yX5_layFold ∈ lw_g := gm_3 (List.mem_of_getElem? (i := 162) rfl) rfl
theorem im_X5_layFold : Cond.instanceMethod yX5_layFold ∈ lw_g := gm_3 (List.mem_of_getElem? (i := 164) rfl) rfl
theorem cd_X5_layFold : Cond.code yX5_layFold cX5_layFold 4 (some .boolean) ∈ lw_g := gm_3 (List.mem_of_getElem? (i := 165) rfl) rfl
theorem fl_X5_72 : Cond.fieldLink RX5 72 "FoldedMap$Plans" "CHOICE" "[I" ∈ lw_g := gm_3 (List.mem_of_getElem? (i := 166) rfl) rfl
theorem ls_X5_CHOICE : Cond.laysStatic RX5 "CHOICE" "[I" ∈ lw_tbl := List.mem_append_right _ (List.mem_append_right _ (List.mem_append_right _ (List.mem_append_left _ (List.mem_of_getElem? (i := 167) rfl))))
theorem ml_X5_75 : Cond.methodLink RX5 75 yX3_canBend ∈ lw_g := gm_3 (List.mem_of_getElem? (i := 168) rfl) rfl
theorem ml_X5_79 : Cond.methodLink RX5 79 yX3_bend ∈ lw_g := gm_3 (List.mem_of_getElem? (i := 169) rfl) rfl
theorem ml_X5_48 : Cond.methodLink RX5 48 yX3_meetingFold ∈ lw_g := gm_3 (List.mem_of_getElem? (i := 170) rfl) rfl
theorem im_X3_meetingFold : Cond.instanceMethod yX3_meetingFold ∈ lw_g := gm_3 (List.mem_of_getElem? (i := 171) rfl) rfl
theorem se_X3_meetingFold : Cond.selects RX3 yX3_meetingFold yX3_meetingFold ∈ lw_g := gm_3 (List.mem_of_getElem? (i := 172) rfl) rfl
theorem cd_X3_meetingFold : Cond.code yX3_meetingFold cX3_meetingFold 9 (some .int) ∈ lw_g := gm_3 (List.mem_of_getElem? (i := 173) rfl) rfl
theorem ml_X3_99 : Cond.methodLink RX3 99 yX3_isOutermost ∈ lw_g := gm_3 (List.mem_of_getElem? (i := 174) rfl) rfl
theorem im_X3_isOutermost : Cond.instanceMethod yX3_isOutermost ∈ lw_g := gm_3 (List.mem_of_getElem? (i := 176) rfl) rfl
theorem cd_X3_isOutermost : Cond.code yX3_isOutermost cX3_isOutermost 4 (some .boolean) ∈ lw_g := gm_3 (List.mem_of_getElem? (i := 177) rfl) rfl
theorem ml_X5_51 : Cond.methodLink RX5 51 yX5_noteFound ∈ lw_g := gm_3 (List.mem_of_getElem? (i := 178) rfl) rfl
theorem im_X5_noteFound : Cond.instanceMethod yX5_noteFound ∈ lw_g := gm_3 (List.mem_of_getElem? (i := 180) rfl) rfl
theorem cd_X5_noteFound : Cond.code yX5_noteFound cX5_noteFound 2 none ∈ lw_g := gm_3 (List.mem_of_getElem? (i := 181) rfl) rfl
theorem ml_X5_63 : Cond.methodLink RX5 63 arraycopyName ∈ lw_g := gm_3 (List.mem_of_getElem? (i := 182) rfl) rfl
theorem ml_X8_207 : Cond.methodLink RX8 207 yX5_foundFold ∈ lw_g := gm_3 (List.mem_of_getElem? (i := 183) rfl) rfl
theorem im_X5_foundFold : Cond.instanceMethod yX5_foundFold ∈ lw_g := gm_3 (List.mem_of_getElem? (i := 184) rfl) rfl
theorem se_X5_foundFold : Cond.selects RX5 yX5_foundFold yX5_foundFold ∈ lw_g := gm_3 (List.mem_of_getElem? (i := 185) rfl) rfl
theorem cd_X5_foundFold : Cond.code yX5_foundFold cX5_foundFold 2 (some .int) ∈ lw_g := gm_3 (List.mem_of_getElem? (i := 186) rfl) rfl
theorem ml_L_69 : Cond.methodLink RL 69 yX8_serves ∈ lw_g := gm_3 (List.mem_of_getElem? (i := 187) rfl) rfl
theorem im_X8_serves : Cond.instanceMethod yX8_serves ∈ lw_g := gm_3 (List.mem_of_getElem? (i := 188) rfl) rfl
theorem se_X8_serves : Cond.selects RX8 yX8_serves yX8_serves ∈ lw_g := gm_3 (List.mem_of_getElem? (i := 189) rfl) rfl
theorem cd_X8_serves : Cond.code yX8_serves cX8_serves 4 (some .int) ∈ lw_g := gm_3 (List.mem_of_getElem? (i := 190) rfl) rfl
theorem ml_X8_211 : Cond.methodLink RX8 211 yX5_findBestGain ∈ lw_g := gm_3 (List.mem_of_getElem? (i := 191) rfl) rfl
theorem im_X5_findBestGain : Cond.instanceMethod yX5_findBestGain ∈ lw_g := gm_3 (List.mem_of_getElem? (i := 192) rfl) rfl
theorem se_X5_findBestGain : Cond.selects RX5 yX5_findBestGain yX5_findBestGain ∈ lw_g := gm_3 (List.mem_of_getElem? (i := 193) rfl) rfl
theorem cd_X5_findBestGain : Cond.code yX5_findBestGain cX5_findBestGain 7 (some .int) ∈ lw_g := gm_3 (List.mem_of_getElem? (i := 194) rfl) rfl
theorem ml_X5_55 : Cond.methodLink RX5 55 yX3_gainOf ∈ lw_g := gm_3 (List.mem_of_getElem? (i := 195) rfl) rfl
theorem ml_L_73 : Cond.methodLink RL 73 yX8_saw ∈ lw_g := gm_3 (List.mem_of_getElem? (i := 196) rfl) rfl
theorem im_X8_saw : Cond.instanceMethod yX8_saw ∈ lw_g := gm_3 (List.mem_of_getElem? (i := 197) rfl) rfl
theorem se_X8_saw : Cond.selects RX8 yX8_saw yX8_saw ∈ lw_g := gm_3 (List.mem_of_getElem? (i := 198) rfl) rfl
theorem cd_X8_saw : Cond.code yX8_saw cX8_saw 3 (some .int) ∈ lw_g := gm_3 (List.mem_of_getElem? (i := 199) rfl) rfl
theorem ml_X8_214 : Cond.methodLink RX8 214 yX4_isFull ∈ lw_g := gm_3 (List.mem_of_getElem? (i := 200) rfl) rfl
theorem ml_X8_217 : Cond.methodLink RX8 217 yX4_add ∈ lw_g := gm_3 (List.mem_of_getElem? (i := 201) rfl) rfl
theorem ml_L_77 : Cond.methodLink RL 77 yX8_forget ∈ lw_g := gm_3 (List.mem_of_getElem? (i := 202) rfl) rfl
theorem im_X8_forget : Cond.instanceMethod yX8_forget ∈ lw_g := gm_3 (List.mem_of_getElem? (i := 203) rfl) rfl
theorem se_X8_forget : Cond.selects RX8 yX8_forget yX8_forget ∈ lw_g := gm_3 (List.mem_of_getElem? (i := 204) rfl) rfl
theorem cd_X8_forget : Cond.code yX8_forget cX8_forget 2 (some .int) ∈ lw_g := gm_3 (List.mem_of_getElem? (i := 205) rfl) rfl
theorem ml_L_81 : Cond.methodLink RL 81 yX8_fits ∈ lw_g := gm_3 (List.mem_of_getElem? (i := 206) rfl) rfl
theorem im_X8_fits : Cond.instanceMethod yX8_fits ∈ lw_g := gm_3 (List.mem_of_getElem? (i := 207) rfl) rfl
theorem se_X8_fits : Cond.selects RX8 yX8_fits yX8_fits ∈ lw_g := gm_3 (List.mem_of_getElem? (i := 208) rfl) rfl
theorem cd_X8_fits : Cond.code yX8_fits cX8_fits 2 (some .int) ∈ lw_g := gm_3 (List.mem_of_getElem? (i := 209) rfl) rfl
theorem ml_X8_224 : Cond.methodLink RX8 224 yX5_countFitting ∈ lw_g := gm_3 (List.mem_of_getElem? (i := 210) rfl) rfl
theorem im_X5_countFitting : Cond.instanceMethod yX5_countFitting ∈ lw_g := gm_3 (List.mem_of_getElem? (i := 211) rfl) rfl
theorem se_X5_countFitting : Cond.selects RX5 yX5_countFitting yX5_countFitting ∈ lw_g := gm_3 (List.mem_of_getElem? (i := 212) rfl) rfl
theorem cd_X5_countFitting : Cond.code yX5_countFitting cX5_countFitting 5 (some .int) ∈ lw_g := gm_3 (List.mem_of_getElem? (i := 213) rfl) rfl
theorem ml_X5_59 : Cond.methodLink RX5 59 yX3_allTouch ∈ lw_g := gm_3 (List.mem_of_getElem? (i := 214) rfl) rfl
theorem im_X3_allTouch : Cond.instanceMethod yX3_allTouch ∈ lw_g := gm_3 (List.mem_of_getElem? (i := 215) rfl) rfl
theorem se_X3_allTouch : Cond.selects RX3 yX3_allTouch yX3_allTouch ∈ lw_g := gm_3 (List.mem_of_getElem? (i := 216) rfl) rfl
theorem cd_X3_allTouch : Cond.code yX3_allTouch cX3_allTouch 3 (some .boolean) ∈ lw_g := gm_3 (List.mem_of_getElem? (i := 217) rfl) rfl
theorem ml_L_85 : Cond.methodLink RL 85 yX8_rate ∈ lw_g := gm_3 (List.mem_of_getElem? (i := 218) rfl) rfl
theorem im_X8_rate : Cond.instanceMethod yX8_rate ∈ lw_g := gm_3 (List.mem_of_getElem? (i := 219) rfl) rfl
theorem se_X8_rate : Cond.selects RX8 yX8_rate yX8_rate ∈ lw_g := gm_3 (List.mem_of_getElem? (i := 220) rfl) rfl
theorem cd_X8_rate : Cond.code yX8_rate cX8_rate 3 (some .int) ∈ lw_g := gm_3 (List.mem_of_getElem? (i := 221) rfl) rfl
theorem ki_X8_228 : Cond.constant RX8 228 (-1000000) ∈ lw_g := gm_3 (List.mem_of_getElem? (i := 222) rfl) rfl
theorem ml_X8_229 : Cond.methodLink RX8 229 yX8_rateAsWell ∈ lw_g := gm_3 (List.mem_of_getElem? (i := 223) rfl) rfl
theorem im_X8_rateAsWell : Cond.instanceMethod yX8_rateAsWell ∈ lw_g := gm_3 (List.mem_of_getElem? (i := 225) rfl) rfl
theorem cd_X8_rateAsWell : Cond.code yX8_rateAsWell cX8_rateAsWell 2 (some .int) ∈ lw_g := gm_3 (List.mem_of_getElem? (i := 226) rfl) rfl
theorem kl_X8_288 : Cond.constantLong RX8 288 (10) ∈ lw_g := gm_3 (List.mem_of_getElem? (i := 227) rfl) rfl
theorem ml_X8_244 : Cond.methodLink RX8 244 yX8_rateAsCell ∈ lw_g := gm_3 (List.mem_of_getElem? (i := 228) rfl) rfl
theorem im_X8_rateAsCell : Cond.instanceMethod yX8_rateAsCell ∈ lw_g := gm_3 (List.mem_of_getElem? (i := 230) rfl) rfl
theorem cd_X8_rateAsCell : Cond.code yX8_rateAsCell cX8_rateAsCell 2 (some .int) ∈ lw_g := gm_3 (List.mem_of_getElem? (i := 231) rfl) rfl
theorem ml_X8_232 : Cond.methodLink RX8 232 yX8_rateAsHermit ∈ lw_g := gm_3 (List.mem_of_getElem? (i := 232) rfl) rfl
theorem im_X8_rateAsHermit : Cond.instanceMethod yX8_rateAsHermit ∈ lw_g := gm_3 (List.mem_of_getElem? (i := 234) rfl) rfl
theorem cd_X8_rateAsHermit : Cond.code yX8_rateAsHermit cX8_rateAsHermit 2 (some .int) ∈ lw_g := gm_3 (List.mem_of_getElem? (i := 235) rfl) rfl
theorem kl_X8_290 : Cond.constantLong RX8 290 (100) ∈ lw_g := gm_3 (List.mem_of_getElem? (i := 236) rfl) rfl
theorem ml_X8_235 : Cond.methodLink RX8 235 yX8_rateAsLight ∈ lw_g := gm_3 (List.mem_of_getElem? (i := 237) rfl) rfl
theorem im_X8_rateAsLight : Cond.instanceMethod yX8_rateAsLight ∈ lw_g := gm_3 (List.mem_of_getElem? (i := 239) rfl) rfl
theorem cd_X8_rateAsLight : Cond.code yX8_rateAsLight cX8_rateAsLight 2 (some .int) ∈ lw_g := gm_4 (List.mem_of_getElem? (i := 0) rfl) rfl
theorem kl_X8_292 : Cond.constantLong RX8 292 (1000) ∈ lw_g := gm_4 (List.mem_of_getElem? (i := 1) rfl) rfl
theorem ml_X8_238 : Cond.methodLink RX8 238 yX8_rateAsFolder ∈ lw_g := gm_4 (List.mem_of_getElem? (i := 2) rfl) rfl
theorem im_X8_rateAsFolder : Cond.instanceMethod yX8_rateAsFolder ∈ lw_g := gm_4 (List.mem_of_getElem? (i := 4) rfl) rfl
theorem cd_X8_rateAsFolder : Cond.code yX8_rateAsFolder cX8_rateAsFolder 2 (some .int) ∈ lw_g := gm_4 (List.mem_of_getElem? (i := 5) rfl) rfl
theorem kl_X8_294 : Cond.constantLong RX8 294 (10000) ∈ lw_g := gm_4 (List.mem_of_getElem? (i := 6) rfl) rfl
theorem ml_X8_241 : Cond.methodLink RX8 241 yX8_rateAsDuke ∈ lw_g := gm_4 (List.mem_of_getElem? (i := 7) rfl) rfl
theorem im_X8_rateAsDuke : Cond.instanceMethod yX8_rateAsDuke ∈ lw_g := gm_4 (List.mem_of_getElem? (i := 9) rfl) rfl
theorem cd_X8_rateAsDuke : Cond.code yX8_rateAsDuke cX8_rateAsDuke 2 (some .int) ∈ lw_g := gm_4 (List.mem_of_getElem? (i := 10) rfl) rfl
theorem kl_X8_296 : Cond.constantLong RX8 296 (100000) ∈ lw_g := gm_4 (List.mem_of_getElem? (i := 11) rfl) rfl
theorem ml_L_89 : Cond.methodLink RL 89 yX8_keep ∈ lw_g := gm_4 (List.mem_of_getElem? (i := 12) rfl) rfl
theorem im_X8_keep : Cond.instanceMethod yX8_keep ∈ lw_g := gm_4 (List.mem_of_getElem? (i := 13) rfl) rfl
theorem se_X8_keep : Cond.selects RX8 yX8_keep yX8_keep ∈ lw_g := gm_4 (List.mem_of_getElem? (i := 14) rfl) rfl
theorem cd_X8_keep : Cond.code yX8_keep cX8_keep 2 (some .int) ∈ lw_g := gm_4 (List.mem_of_getElem? (i := 15) rfl) rfl
theorem ml_X8_247 : Cond.methodLink RX8 247 yX8_isImage ∈ lw_g := gm_4 (List.mem_of_getElem? (i := 16) rfl) rfl
theorem sm_X8_isImage : Cond.static yX8_isImage ∈ lw_g := gm_4 (List.mem_of_getElem? (i := 17) rfl) rfl
theorem cd_X8_isImage : Cond.code yX8_isImage cX8_isImage 1 (some .boolean) ∈ lw_g := gm_4 (List.mem_of_getElem? (i := 18) rfl) rfl
theorem ml_X8_250 : Cond.methodLink RX8 250 yX2_copyFrom ∈ lw_g := gm_4 (List.mem_of_getElem? (i := 19) rfl) rfl
theorem im_X2_copyFrom : Cond.instanceMethod yX2_copyFrom ∈ lw_g := gm_4 (List.mem_of_getElem? (i := 20) rfl) rfl
theorem se_X2_copyFrom : Cond.selects RX2 yX2_copyFrom yX2_copyFrom ∈ lw_g := gm_4 (List.mem_of_getElem? (i := 21) rfl) rfl
theorem cd_X2_copyFrom : Cond.code yX2_copyFrom cX2_copyFrom 2 none ∈ lw_g := gm_4 (List.mem_of_getElem? (i := 22) rfl) rfl
theorem ml_L_93 : Cond.methodLink RL 93 yX8_back ∈ lw_g := gm_4 (List.mem_of_getElem? (i := 23) rfl) rfl
theorem im_X8_back : Cond.instanceMethod yX8_back ∈ lw_g := gm_4 (List.mem_of_getElem? (i := 24) rfl) rfl
theorem se_X8_back : Cond.selects RX8 yX8_back yX8_back ∈ lw_g := gm_4 (List.mem_of_getElem? (i := 25) rfl) rfl
theorem cd_X8_back : Cond.code yX8_back cX8_back 2 (some .int) ∈ lw_g := gm_4 (List.mem_of_getElem? (i := 26) rfl) rfl
theorem ml_L_97 : Cond.methodLink RL 97 yX8_count ∈ lw_g := gm_4 (List.mem_of_getElem? (i := 27) rfl) rfl
theorem im_X8_count : Cond.instanceMethod yX8_count ∈ lw_g := gm_4 (List.mem_of_getElem? (i := 28) rfl) rfl
theorem se_X8_count : Cond.selects RX8 yX8_count yX8_count ∈ lw_g := gm_4 (List.mem_of_getElem? (i := 29) rfl) rfl
theorem cd_X8_count : Cond.code yX8_count cX8_count 2 (some .int) ∈ lw_g := gm_4 (List.mem_of_getElem? (i := 30) rfl) rfl
theorem ml_L_101 : Cond.methodLink RL 101 yX8_trace ∈ lw_g := gm_4 (List.mem_of_getElem? (i := 31) rfl) rfl
theorem im_X8_trace : Cond.instanceMethod yX8_trace ∈ lw_g := gm_4 (List.mem_of_getElem? (i := 32) rfl) rfl
theorem se_X8_trace : Cond.selects RX8 yX8_trace yX8_trace ∈ lw_g := gm_4 (List.mem_of_getElem? (i := 33) rfl) rfl
theorem cd_X8_trace : Cond.code yX8_trace cX8_trace 1 (some .long) ∈ lw_g := gm_4 (List.mem_of_getElem? (i := 34) rfl) rfl
theorem ck_L_10 : Cond.classLink RL 10 RX9 ∈ lw_g := gm_4 (List.mem_of_getElem? (i := 35) rfl) rfl
theorem ins_X9 : Cond.instantiable RX9 22 ∈ lw_g := gm_4 (List.mem_of_getElem? (i := 36) rfl) rfl
theorem ml_L_12 : Cond.methodLink RL 12 yX9_init ∈ lw_g := gm_4 (List.mem_of_getElem? (i := 37) rfl) rfl
theorem im_X9_init : Cond.instanceMethod yX9_init ∈ lw_g := gm_4 (List.mem_of_getElem? (i := 38) rfl) rfl
theorem cd_X9_init : Cond.code yX9_init cX9_init 2 none ∈ lw_g := gm_4 (List.mem_of_getElem? (i := 39) rfl) rfl
theorem ml_X9_1 : Cond.methodLink RX9 1 objectInit ∈ lw_g := gm_4 (List.mem_of_getElem? (i := 40) rfl) rfl
theorem ml_X9_47 : Cond.methodLink RX9 47 yX9_reads ∈ lw_g := gm_4 (List.mem_of_getElem? (i := 41) rfl) rfl
theorem im_X9_reads : Cond.instanceMethod yX9_reads ∈ lw_g := gm_4 (List.mem_of_getElem? (i := 43) rfl) rfl
theorem cd_X9_reads : Cond.code yX9_reads cX9_reads 2 (some .boolean) ∈ lw_g := gm_4 (List.mem_of_getElem? (i := 44) rfl) rfl
theorem ml_X9_55 : Cond.methodLink RX9 55 yX9_in ∈ lw_g := gm_4 (List.mem_of_getElem? (i := 45) rfl) rfl
theorem sm_X9_in : Cond.static yX9_in ∈ lw_g := gm_4 (List.mem_of_getElem? (i := 46) rfl) rfl
theorem cd_X9_in : Cond.code yX9_in cX9_in 3 (some .boolean) ∈ lw_g := gm_4 (List.mem_of_getElem? (i := 47) rfl) rfl
theorem ml_X9_98 : Cond.methodLink RX9 98 yX9_token ∈ lw_g := gm_4 (List.mem_of_getElem? (i := 48) rfl) rfl
theorem im_X9_token : Cond.instanceMethod yX9_token ∈ lw_g := gm_4 (List.mem_of_getElem? (i := 50) rfl) rfl
theorem cd_X9_token : Cond.code yX9_token cX9_token 1 none ∈ lw_g := gm_4 (List.mem_of_getElem? (i := 51) rfl) rfl
theorem ml_X9_72 : Cond.methodLink RX9 72 yX9_byteAt ∈ lw_g := gm_4 (List.mem_of_getElem? (i := 52) rfl) rfl
theorem im_X9_byteAt : Cond.instanceMethod yX9_byteAt ∈ lw_g := gm_4 (List.mem_of_getElem? (i := 54) rfl) rfl
theorem cd_X9_byteAt : Cond.code yX9_byteAt cX9_byteAt 2 (some .int) ∈ lw_g := gm_4 (List.mem_of_getElem? (i := 55) rfl) rfl
theorem ml_X9_79 : Cond.methodLink RX9 79 yX9_sortOf ∈ lw_g := gm_4 (List.mem_of_getElem? (i := 56) rfl) rfl
theorem sm_X9_sortOf : Cond.static yX9_sortOf ∈ lw_g := gm_4 (List.mem_of_getElem? (i := 57) rfl) rfl
theorem cd_X9_sortOf : Cond.code yX9_sortOf cX9_sortOf 1 (some .int) ∈ lw_g := gm_4 (List.mem_of_getElem? (i := 58) rfl) rfl
theorem ml_X9_120 : Cond.methodLink RX9 120 yX9_verb ∈ lw_g := gm_4 (List.mem_of_getElem? (i := 59) rfl) rfl
theorem im_X9_verb : Cond.instanceMethod yX9_verb ∈ lw_g := gm_4 (List.mem_of_getElem? (i := 61) rfl) rfl
theorem cd_X9_verb : Cond.code yX9_verb cX9_verb 4 (some .int) ∈ lw_g := gm_4 (List.mem_of_getElem? (i := 62) rfl) rfl
theorem kl_X9_88 : Cond.constantLong RX9 88 (256) ∈ lw_g := gm_4 (List.mem_of_getElem? (i := 63) rfl) rfl
theorem kl_X9_90 : Cond.constantLong RX9 90 (7168368) ∈ lw_g := gm_4 (List.mem_of_getElem? (i := 64) rfl) rfl
theorem kl_X9_92 : Cond.constantLong RX9 92 (512970880104) ∈ lw_g := gm_4 (List.mem_of_getElem? (i := 65) rfl) rfl
theorem kl_X9_94 : Cond.constantLong RX9 94 (31935733760681324) ∈ lw_g := gm_4 (List.mem_of_getElem? (i := 66) rfl) rfl
theorem kl_X9_96 : Cond.constantLong RX9 96 (1952801138) ∈ lw_g := gm_4 (List.mem_of_getElem? (i := 67) rfl) rfl
theorem ml_X9_123 : Cond.methodLink RX9 123 yX9_readsItem ∈ lw_g := gm_4 (List.mem_of_getElem? (i := 68) rfl) rfl
theorem im_X9_readsItem : Cond.instanceMethod yX9_readsItem ∈ lw_g := gm_4 (List.mem_of_getElem? (i := 70) rfl) rfl
theorem cd_X9_readsItem : Cond.code yX9_readsItem cX9_readsItem 2 (some .boolean) ∈ lw_g := gm_4 (List.mem_of_getElem? (i := 71) rfl) rfl
theorem ml_X9_108 : Cond.methodLink RX9 108 yX9_readsMap ∈ lw_g := gm_4 (List.mem_of_getElem? (i := 72) rfl) rfl
theorem im_X9_readsMap : Cond.instanceMethod yX9_readsMap ∈ lw_g := gm_4 (List.mem_of_getElem? (i := 74) rfl) rfl
theorem cd_X9_readsMap : Cond.code yX9_readsMap cX9_readsMap 3 (some .boolean) ∈ lw_g := gm_4 (List.mem_of_getElem? (i := 75) rfl) rfl
theorem ml_X9_101 : Cond.methodLink RX9 101 yX9_number ∈ lw_g := gm_4 (List.mem_of_getElem? (i := 76) rfl) rfl
theorem im_X9_number : Cond.instanceMethod yX9_number ∈ lw_g := gm_4 (List.mem_of_getElem? (i := 78) rfl) rfl
theorem cd_X9_number : Cond.code yX9_number cX9_number 5 (some .int) ∈ lw_g := gm_4 (List.mem_of_getElem? (i := 79) rfl) rfl
theorem ml_X9_111 : Cond.methodLink RX9 111 yX9_readsWorth ∈ lw_g := gm_4 (List.mem_of_getElem? (i := 80) rfl) rfl
theorem im_X9_readsWorth : Cond.instanceMethod yX9_readsWorth ∈ lw_g := gm_4 (List.mem_of_getElem? (i := 82) rfl) rfl
theorem cd_X9_readsWorth : Cond.code yX9_readsWorth cX9_readsWorth 3 (some .boolean) ∈ lw_g := gm_4 (List.mem_of_getElem? (i := 83) rfl) rfl
theorem ml_X9_105 : Cond.methodLink RX9 105 yX9_draftCells ∈ lw_g := gm_4 (List.mem_of_getElem? (i := 84) rfl) rfl
theorem im_X9_draftCells : Cond.instanceMethod yX9_draftCells ∈ lw_g := gm_4 (List.mem_of_getElem? (i := 86) rfl) rfl
theorem cd_X9_draftCells : Cond.code yX9_draftCells cX9_draftCells 1 (some .int) ∈ lw_g := gm_4 (List.mem_of_getElem? (i := 87) rfl) rfl
theorem ml_X9_114 : Cond.methodLink RX9 114 yX9_readsQuarrel ∈ lw_g := gm_4 (List.mem_of_getElem? (i := 88) rfl) rfl
theorem im_X9_readsQuarrel : Cond.instanceMethod yX9_readsQuarrel ∈ lw_g := gm_4 (List.mem_of_getElem? (i := 90) rfl) rfl
theorem cd_X9_readsQuarrel : Cond.code yX9_readsQuarrel cX9_readsQuarrel 4 (some .boolean) ∈ lw_g := gm_4 (List.mem_of_getElem? (i := 91) rfl) rfl
theorem ml_X9_117 : Cond.methodLink RX9 117 yX9_readsTear ∈ lw_g := gm_4 (List.mem_of_getElem? (i := 92) rfl) rfl
theorem im_X9_readsTear : Cond.instanceMethod yX9_readsTear ∈ lw_g := gm_4 (List.mem_of_getElem? (i := 94) rfl) rfl
theorem cd_X9_readsTear : Cond.code yX9_readsTear cX9_readsTear 2 (some .boolean) ∈ lw_g := gm_4 (List.mem_of_getElem? (i := 95) rfl) rfl
theorem fl_X9_197 : Cond.fieldLink RX9 197 (TX9 0).1 (TX9 0).2.1 (TX9 0).2.2.1 ∈ lw_g := gm_4 (List.mem_of_getElem? (i := 96) rfl) rfl
theorem fl_X9_7 : Cond.fieldLink RX9 7 (TX9 1).1 (TX9 1).2.1 (TX9 1).2.2.1 ∈ lw_g := gm_4 (List.mem_of_getElem? (i := 97) rfl) rfl
theorem fl_X9_63 : Cond.fieldLink RX9 63 (TX9 2).1 (TX9 2).2.1 (TX9 2).2.2.1 ∈ lw_g := gm_4 (List.mem_of_getElem? (i := 98) rfl) rfl
theorem fl_X9_13 : Cond.fieldLink RX9 13 (TX9 3).1 (TX9 3).2.1 (TX9 3).2.2.1 ∈ lw_g := gm_4 (List.mem_of_getElem? (i := 99) rfl) rfl
theorem fl_X9_16 : Cond.fieldLink RX9 16 (TX9 4).1 (TX9 4).2.1 (TX9 4).2.2.1 ∈ lw_g := gm_4 (List.mem_of_getElem? (i := 100) rfl) rfl
theorem fl_X9_19 : Cond.fieldLink RX9 19 (TX9 5).1 (TX9 5).2.1 (TX9 5).2.2.1 ∈ lw_g := gm_4 (List.mem_of_getElem? (i := 101) rfl) rfl
theorem fl_X9_22 : Cond.fieldLink RX9 22 (TX9 6).1 (TX9 6).2.1 (TX9 6).2.2.1 ∈ lw_g := gm_4 (List.mem_of_getElem? (i := 102) rfl) rfl
theorem fl_X9_25 : Cond.fieldLink RX9 25 (TX9 7).1 (TX9 7).2.1 (TX9 7).2.2.1 ∈ lw_g := gm_4 (List.mem_of_getElem? (i := 103) rfl) rfl
theorem fl_X9_29 : Cond.fieldLink RX9 29 (TX9 8).1 (TX9 8).2.1 (TX9 8).2.2.1 ∈ lw_g := gm_4 (List.mem_of_getElem? (i := 104) rfl) rfl
theorem fl_X9_32 : Cond.fieldLink RX9 32 (TX9 9).1 (TX9 9).2.1 (TX9 9).2.2.1 ∈ lw_g := gm_4 (List.mem_of_getElem? (i := 105) rfl) rfl
theorem fl_X9_126 : Cond.fieldLink RX9 126 (TX9 10).1 (TX9 10).2.1 (TX9 10).2.2.1 ∈ lw_g := gm_4 (List.mem_of_getElem? (i := 106) rfl) rfl
theorem fl_X9_69 : Cond.fieldLink RX9 69 (TX9 11).1 (TX9 11).2.1 (TX9 11).2.2.1 ∈ lw_g := gm_4 (List.mem_of_getElem? (i := 107) rfl) rfl
theorem fl_X9_82 : Cond.fieldLink RX9 82 (TX9 12).1 (TX9 12).2.1 (TX9 12).2.2.1 ∈ lw_g := gm_4 (List.mem_of_getElem? (i := 108) rfl) rfl
theorem fl_X9_76 : Cond.fieldLink RX9 76 (TX9 13).1 (TX9 13).2.1 (TX9 13).2.2.1 ∈ lw_g := gm_4 (List.mem_of_getElem? (i := 109) rfl) rfl
theorem fl_X9_85 : Cond.fieldLink RX9 85 (TX9 14).1 (TX9 14).2.1 (TX9 14).2.2.1 ∈ lw_g := gm_4 (List.mem_of_getElem? (i := 110) rfl) rfl
theorem fl_X9_35 : Cond.fieldLink RX9 35 (TX9 15).1 (TX9 15).2.1 (TX9 15).2.2.1 ∈ lw_g := gm_4 (List.mem_of_getElem? (i := 111) rfl) rfl
theorem fl_X9_38 : Cond.fieldLink RX9 38 (TX9 16).1 (TX9 16).2.1 (TX9 16).2.2.1 ∈ lw_g := gm_4 (List.mem_of_getElem? (i := 112) rfl) rfl
theorem fl_X9_41 : Cond.fieldLink RX9 41 (TX9 17).1 (TX9 17).2.1 (TX9 17).2.2.1 ∈ lw_g := gm_4 (List.mem_of_getElem? (i := 113) rfl) rfl
theorem fl_X9_44 : Cond.fieldLink RX9 44 (TX9 18).1 (TX9 18).2.1 (TX9 18).2.2.1 ∈ lw_g := gm_4 (List.mem_of_getElem? (i := 114) rfl) rfl
theorem fl_X9_180 : Cond.fieldLink RX9 180 (TX9 19).1 (TX9 19).2.1 (TX9 19).2.2.1 ∈ lw_g := gm_4 (List.mem_of_getElem? (i := 115) rfl) rfl
theorem fl_X9_183 : Cond.fieldLink RX9 183 (TX9 20).1 (TX9 20).2.1 (TX9 20).2.2.1 ∈ lw_g := gm_4 (List.mem_of_getElem? (i := 116) rfl) rfl
theorem fl_X9_186 : Cond.fieldLink RX9 186 (TX9 21).1 (TX9 21).2.1 (TX9 21).2.2.1 ∈ lw_g := gm_4 (List.mem_of_getElem? (i := 117) rfl) rfl
theorem arr_boolean : Cond.arrayClass .boolean ∈ lw_g := gm_4 (List.mem_of_getElem? (i := 163) rfl) rfl
theorem ml_L_19 : Cond.methodLink RL 19 yX9_type ∈ lw_g := gm_4 (List.mem_of_getElem? (i := 164) rfl) rfl
theorem im_X9_type : Cond.instanceMethod yX9_type ∈ lw_g := gm_4 (List.mem_of_getElem? (i := 165) rfl) rfl
theorem se_X9_type : Cond.selects RX9 yX9_type yX9_type ∈ lw_g := gm_4 (List.mem_of_getElem? (i := 166) rfl) rfl
theorem cd_X9_type : Cond.code yX9_type cX9_type 5 (some .int) ∈ lw_g := gm_4 (List.mem_of_getElem? (i := 167) rfl) rfl
theorem kl_X9_67 : Cond.constantLong RX9 67 (255) ∈ lw_g := gm_4 (List.mem_of_getElem? (i := 168) rfl) rfl
theorem ml_L_24 : Cond.methodLink RL 24 yX9_clear ∈ lw_g := gm_4 (List.mem_of_getElem? (i := 169) rfl) rfl
theorem im_X9_clear : Cond.instanceMethod yX9_clear ∈ lw_g := gm_4 (List.mem_of_getElem? (i := 170) rfl) rfl
theorem se_X9_clear : Cond.selects RX9 yX9_clear yX9_clear ∈ lw_g := gm_4 (List.mem_of_getElem? (i := 171) rfl) rfl
theorem cd_X9_clear : Cond.code yX9_clear cX9_clear 2 (some .int) ∈ lw_g := gm_4 (List.mem_of_getElem? (i := 172) rfl) rfl
theorem ml_L_28 : Cond.methodLink RL 28 yX9_map ∈ lw_g := gm_4 (List.mem_of_getElem? (i := 173) rfl) rfl
theorem im_X9_map : Cond.instanceMethod yX9_map ∈ lw_g := gm_4 (List.mem_of_getElem? (i := 174) rfl) rfl
theorem se_X9_map : Cond.selects RX9 yX9_map yX9_map ∈ lw_g := gm_4 (List.mem_of_getElem? (i := 175) rfl) rfl
theorem cd_X9_map : Cond.code yX9_map cX9_map 2 (some .int) ∈ lw_g := gm_4 (List.mem_of_getElem? (i := 176) rfl) rfl
theorem ml_L_33 : Cond.methodLink RL 33 yX9_cell ∈ lw_g := gm_4 (List.mem_of_getElem? (i := 177) rfl) rfl
theorem im_X9_cell : Cond.instanceMethod yX9_cell ∈ lw_g := gm_4 (List.mem_of_getElem? (i := 178) rfl) rfl
theorem se_X9_cell : Cond.selects RX9 yX9_cell yX9_cell ∈ lw_g := gm_4 (List.mem_of_getElem? (i := 179) rfl) rfl
theorem cd_X9_cell : Cond.code yX9_cell cX9_cell 3 (some .int) ∈ lw_g := gm_4 (List.mem_of_getElem? (i := 180) rfl) rfl
theorem ml_X9_59 : Cond.methodLink RX9 59 yX9_isCell ∈ lw_g := gm_4 (List.mem_of_getElem? (i := 181) rfl) rfl
theorem im_X9_isCell : Cond.instanceMethod yX9_isCell ∈ lw_g := gm_4 (List.mem_of_getElem? (i := 183) rfl) rfl
theorem cd_X9_isCell : Cond.code yX9_isCell cX9_isCell 2 (some .boolean) ∈ lw_g := gm_4 (List.mem_of_getElem? (i := 184) rfl) rfl
theorem ml_X9_51 : Cond.methodLink RX9 51 yX9_cells ∈ lw_g := gm_4 (List.mem_of_getElem? (i := 185) rfl) rfl
theorem im_X9_cells : Cond.instanceMethod yX9_cells ∈ lw_g := gm_4 (List.mem_of_getElem? (i := 187) rfl) rfl
theorem cd_X9_cells : Cond.code yX9_cells cX9_cells 1 (some .int) ∈ lw_g := gm_4 (List.mem_of_getElem? (i := 188) rfl) rfl
theorem ml_X9_148 : Cond.methodLink RX9 148 yX9_now ∈ lw_g := gm_4 (List.mem_of_getElem? (i := 189) rfl) rfl
theorem im_X9_now : Cond.instanceMethod yX9_now ∈ lw_g := gm_4 (List.mem_of_getElem? (i := 191) rfl) rfl
theorem cd_X9_now : Cond.code yX9_now cX9_now 3 none ∈ lw_g := gm_4 (List.mem_of_getElem? (i := 192) rfl) rfl
theorem ml_X9_133 : Cond.methodLink RX9 133 yX9_flat ∈ lw_g := gm_4 (List.mem_of_getElem? (i := 193) rfl) rfl
theorem im_X9_flat : Cond.instanceMethod yX9_flat ∈ lw_g := gm_4 (List.mem_of_getElem? (i := 195) rfl) rfl
theorem cd_X9_flat : Cond.code yX9_flat cX9_flat 2 none ∈ lw_g := gm_4 (List.mem_of_getElem? (i := 196) rfl) rfl
theorem ml_X9_136 : Cond.methodLink RX9 136 yX9_folds ∈ lw_g := gm_4 (List.mem_of_getElem? (i := 197) rfl) rfl
theorem im_X9_folds : Cond.instanceMethod yX9_folds ∈ lw_g := gm_4 (List.mem_of_getElem? (i := 199) rfl) rfl
theorem cd_X9_folds : Cond.code yX9_folds cX9_folds 15 (some .boolean) ∈ lw_g := gm_4 (List.mem_of_getElem? (i := 200) rfl) rfl
theorem ml_X9_129 : Cond.methodLink RX9 129 yX9_manyAt ∈ lw_g := gm_4 (List.mem_of_getElem? (i := 201) rfl) rfl
theorem im_X9_manyAt : Cond.instanceMethod yX9_manyAt ∈ lw_g := gm_4 (List.mem_of_getElem? (i := 203) rfl) rfl
theorem cd_X9_manyAt : Cond.code yX9_manyAt cX9_manyAt 8 (some .int) ∈ lw_g := gm_4 (List.mem_of_getElem? (i := 204) rfl) rfl
theorem ml_X9_140 : Cond.methodLink RX9 140 yX9_falls ∈ lw_g := gm_4 (List.mem_of_getElem? (i := 205) rfl) rfl
theorem im_X9_falls : Cond.instanceMethod yX9_falls ∈ lw_g := gm_4 (List.mem_of_getElem? (i := 207) rfl) rfl
theorem cd_X9_falls : Cond.code yX9_falls cX9_falls 3 none ∈ lw_g := gm_4 (List.mem_of_getElem? (i := 208) rfl) rfl
theorem ml_X9_151 : Cond.methodLink RX9 151 yX9_gain ∈ lw_g := gm_4 (List.mem_of_getElem? (i := 209) rfl) rfl
theorem im_X9_gain : Cond.instanceMethod yX9_gain ∈ lw_g := gm_4 (List.mem_of_getElem? (i := 211) rfl) rfl
theorem cd_X9_gain : Cond.code yX9_gain cX9_gain 5 (some .int) ∈ lw_g := gm_4 (List.mem_of_getElem? (i := 212) rfl) rfl
theorem ml_X9_144 : Cond.methodLink RX9 144 yX9_touches ∈ lw_g := gm_4 (List.mem_of_getElem? (i := 213) rfl) rfl
theorem im_X9_touches : Cond.instanceMethod yX9_touches ∈ lw_g := gm_4 (List.mem_of_getElem? (i := 215) rfl) rfl
theorem cd_X9_touches : Cond.code yX9_touches cX9_touches 10 (some .int) ∈ lw_g := gm_4 (List.mem_of_getElem? (i := 216) rfl) rfl
theorem ml_L_38 : Cond.methodLink RL 38 yX9_at ∈ lw_g := gm_4 (List.mem_of_getElem? (i := 217) rfl) rfl
theorem im_X9_at : Cond.instanceMethod yX9_at ∈ lw_g := gm_4 (List.mem_of_getElem? (i := 218) rfl) rfl
theorem se_X9_at : Cond.selects RX9 yX9_at yX9_at ∈ lw_g := gm_4 (List.mem_of_getElem? (i := 219) rfl) rfl
theorem cd_X9_at : Cond.code yX9_at cX9_at 6 (some .int) ∈ lw_g := gm_4 (List.mem_of_getElem? (i := 220) rfl) rfl
theorem ml_L_43 : Cond.methodLink RL 43 yX9_fold ∈ lw_g := gm_4 (List.mem_of_getElem? (i := 221) rfl) rfl
theorem im_X9_fold : Cond.instanceMethod yX9_fold ∈ lw_g := gm_4 (List.mem_of_getElem? (i := 222) rfl) rfl
theorem se_X9_fold : Cond.selects RX9 yX9_fold yX9_fold ∈ lw_g := gm_4 (List.mem_of_getElem? (i := 223) rfl) rfl
theorem cd_X9_fold : Cond.code yX9_fold cX9_fold 6 (some .int) ∈ lw_g := gm_4 (List.mem_of_getElem? (i := 224) rfl) rfl
theorem ml_X9_161 : Cond.methodLink RX9 161 yX9_bendsAll ∈ lw_g := gm_4 (List.mem_of_getElem? (i := 225) rfl) rfl
theorem im_X9_bendsAll : Cond.instanceMethod yX9_bendsAll ∈ lw_g := gm_4 (List.mem_of_getElem? (i := 227) rfl) rfl
theorem cd_X9_bendsAll : Cond.code yX9_bendsAll cX9_bendsAll 8 (some .int) ∈ lw_g := gm_4 (List.mem_of_getElem? (i := 228) rfl) rfl
theorem ml_X9_154 : Cond.methodLink RX9 154 yX9_neighbour ∈ lw_g := gm_4 (List.mem_of_getElem? (i := 229) rfl) rfl
theorem im_X9_neighbour : Cond.instanceMethod yX9_neighbour ∈ lw_g := gm_4 (List.mem_of_getElem? (i := 231) rfl) rfl
theorem cd_X9_neighbour : Cond.code yX9_neighbour cX9_neighbour 4 (some .int) ∈ lw_g := gm_4 (List.mem_of_getElem? (i := 232) rfl) rfl
theorem ml_X9_157 : Cond.methodLink RX9 157 yX9_bends ∈ lw_g := gm_4 (List.mem_of_getElem? (i := 233) rfl) rfl
theorem im_X9_bends : Cond.instanceMethod yX9_bends ∈ lw_g := gm_4 (List.mem_of_getElem? (i := 235) rfl) rfl
theorem cd_X9_bends : Cond.code yX9_bends cX9_bends 9 (some .boolean) ∈ lw_g := gm_4 (List.mem_of_getElem? (i := 236) rfl) rfl
theorem ml_X9_164 : Cond.methodLink RX9 164 yX9_thick ∈ lw_g := gm_4 (List.mem_of_getElem? (i := 237) rfl) rfl
theorem im_X9_thick : Cond.instanceMethod yX9_thick ∈ lw_g := gm_4 (List.mem_of_getElem? (i := 239) rfl) rfl
theorem cd_X9_thick : Cond.code yX9_thick cX9_thick 3 (some .int) ∈ lw_g := gm_5 (List.mem_of_getElem? (i := 0) rfl) rfl
theorem ml_L_47 : Cond.methodLink RL 47 yX9_undo ∈ lw_g := gm_5 (List.mem_of_getElem? (i := 1) rfl) rfl
theorem im_X9_undo : Cond.instanceMethod yX9_undo ∈ lw_g := gm_5 (List.mem_of_getElem? (i := 2) rfl) rfl
theorem se_X9_undo : Cond.selects RX9 yX9_undo yX9_undo ∈ lw_g := gm_5 (List.mem_of_getElem? (i := 3) rfl) rfl
theorem cd_X9_undo : Cond.code yX9_undo cX9_undo 1 (some .int) ∈ lw_g := gm_5 (List.mem_of_getElem? (i := 4) rfl) rfl
theorem ml_L_51 : Cond.methodLink RL 51 yX9_day ∈ lw_g := gm_5 (List.mem_of_getElem? (i := 5) rfl) rfl
theorem im_X9_day : Cond.instanceMethod yX9_day ∈ lw_g := gm_5 (List.mem_of_getElem? (i := 6) rfl) rfl
theorem se_X9_day : Cond.selects RX9 yX9_day yX9_day ∈ lw_g := gm_5 (List.mem_of_getElem? (i := 7) rfl) rfl
theorem cd_X9_day : Cond.code yX9_day cX9_day 1 (some .int) ∈ lw_g := gm_5 (List.mem_of_getElem? (i := 8) rfl) rfl
theorem ml_L_55 : Cond.methodLink RL 55 yX9_bent ∈ lw_g := gm_5 (List.mem_of_getElem? (i := 9) rfl) rfl
theorem im_X9_bent : Cond.instanceMethod yX9_bent ∈ lw_g := gm_5 (List.mem_of_getElem? (i := 10) rfl) rfl
theorem se_X9_bent : Cond.selects RX9 yX9_bent yX9_bent ∈ lw_g := gm_5 (List.mem_of_getElem? (i := 11) rfl) rfl
theorem cd_X9_bent : Cond.code yX9_bent cX9_bent 5 (some .int) ∈ lw_g := gm_5 (List.mem_of_getElem? (i := 12) rfl) rfl
theorem ml_X9_167 : Cond.methodLink RX9 167 yX9_areTwo ∈ lw_g := gm_5 (List.mem_of_getElem? (i := 13) rfl) rfl
theorem im_X9_areTwo : Cond.instanceMethod yX9_areTwo ∈ lw_g := gm_5 (List.mem_of_getElem? (i := 15) rfl) rfl
theorem cd_X9_areTwo : Cond.code yX9_areTwo cX9_areTwo 3 (some .boolean) ∈ lw_g := gm_5 (List.mem_of_getElem? (i := 16) rfl) rfl
theorem ml_L_59 : Cond.methodLink RL 59 yX9_touch ∈ lw_g := gm_5 (List.mem_of_getElem? (i := 17) rfl) rfl
theorem im_X9_touch : Cond.instanceMethod yX9_touch ∈ lw_g := gm_5 (List.mem_of_getElem? (i := 18) rfl) rfl
theorem se_X9_touch : Cond.selects RX9 yX9_touch yX9_touch ∈ lw_g := gm_5 (List.mem_of_getElem? (i := 19) rfl) rfl
theorem cd_X9_touch : Cond.code yX9_touch cX9_touch 3 (some .int) ∈ lw_g := gm_5 (List.mem_of_getElem? (i := 20) rfl) rfl
theorem ml_L_64 : Cond.methodLink RL 64 yX9_packet ∈ lw_g := gm_5 (List.mem_of_getElem? (i := 21) rfl) rfl
theorem im_X9_packet : Cond.instanceMethod yX9_packet ∈ lw_g := gm_5 (List.mem_of_getElem? (i := 22) rfl) rfl
theorem se_X9_packet : Cond.selects RX9 yX9_packet yX9_packet ∈ lw_g := gm_5 (List.mem_of_getElem? (i := 23) rfl) rfl
theorem cd_X9_packet : Cond.code yX9_packet cX9_packet 6 (some .int) ∈ lw_g := gm_5 (List.mem_of_getElem? (i := 24) rfl) rfl
theorem ml_L_68 : Cond.methodLink RL 68 yX9_reach ∈ lw_g := gm_5 (List.mem_of_getElem? (i := 25) rfl) rfl
theorem im_X9_reach : Cond.instanceMethod yX9_reach ∈ lw_g := gm_5 (List.mem_of_getElem? (i := 26) rfl) rfl
theorem se_X9_reach : Cond.selects RX9 yX9_reach yX9_reach ∈ lw_g := gm_5 (List.mem_of_getElem? (i := 27) rfl) rfl
theorem cd_X9_reach : Cond.code yX9_reach cX9_reach 6 (some .int) ∈ lw_g := gm_5 (List.mem_of_getElem? (i := 28) rfl) rfl
theorem ml_X9_174 : Cond.methodLink RX9 174 yX9_reaches ∈ lw_g := gm_5 (List.mem_of_getElem? (i := 29) rfl) rfl
theorem im_X9_reaches : Cond.instanceMethod yX9_reaches ∈ lw_g := gm_5 (List.mem_of_getElem? (i := 31) rfl) rfl
theorem cd_X9_reaches : Cond.code yX9_reaches cX9_reaches 6 (some .int) ∈ lw_g := gm_5 (List.mem_of_getElem? (i := 32) rfl) rfl
theorem ml_X9_170 : Cond.methodLink RX9 170 yX9_reachesOn ∈ lw_g := gm_5 (List.mem_of_getElem? (i := 33) rfl) rfl
theorem im_X9_reachesOn : Cond.instanceMethod yX9_reachesOn ∈ lw_g := gm_5 (List.mem_of_getElem? (i := 35) rfl) rfl
theorem cd_X9_reachesOn : Cond.code yX9_reachesOn cX9_reachesOn 8 (some .int) ∈ lw_g := gm_5 (List.mem_of_getElem? (i := 36) rfl) rfl
theorem ml_X9_177 : Cond.methodLink RX9 177 yX9_member ∈ lw_g := gm_5 (List.mem_of_getElem? (i := 37) rfl) rfl
theorem sm_X9_member : Cond.static yX9_member ∈ lw_g := gm_5 (List.mem_of_getElem? (i := 38) rfl) rfl
theorem cd_X9_member : Cond.code yX9_member cX9_member 5 (some .int) ∈ lw_g := gm_5 (List.mem_of_getElem? (i := 39) rfl) rfl
theorem ml_L_72 : Cond.methodLink RL 72 yX9_serves ∈ lw_g := gm_5 (List.mem_of_getElem? (i := 40) rfl) rfl
theorem im_X9_serves : Cond.instanceMethod yX9_serves ∈ lw_g := gm_5 (List.mem_of_getElem? (i := 41) rfl) rfl
theorem se_X9_serves : Cond.selects RX9 yX9_serves yX9_serves ∈ lw_g := gm_5 (List.mem_of_getElem? (i := 42) rfl) rfl
theorem cd_X9_serves : Cond.code yX9_serves cX9_serves 5 (some .int) ∈ lw_g := gm_5 (List.mem_of_getElem? (i := 43) rfl) rfl
theorem ml_X9_189 : Cond.methodLink RX9 189 yX9_tries ∈ lw_g := gm_5 (List.mem_of_getElem? (i := 44) rfl) rfl
theorem im_X9_tries : Cond.instanceMethod yX9_tries ∈ lw_g := gm_5 (List.mem_of_getElem? (i := 46) rfl) rfl
theorem cd_X9_tries : Cond.code yX9_tries cX9_tries 5 none ∈ lw_g := gm_5 (List.mem_of_getElem? (i := 47) rfl) rfl
theorem ml_L_76 : Cond.methodLink RL 76 yX9_saw ∈ lw_g := gm_5 (List.mem_of_getElem? (i := 48) rfl) rfl
theorem im_X9_saw : Cond.instanceMethod yX9_saw ∈ lw_g := gm_5 (List.mem_of_getElem? (i := 49) rfl) rfl
theorem se_X9_saw : Cond.selects RX9 yX9_saw yX9_saw ∈ lw_g := gm_5 (List.mem_of_getElem? (i := 50) rfl) rfl
theorem cd_X9_saw : Cond.code yX9_saw cX9_saw 3 (some .int) ∈ lw_g := gm_5 (List.mem_of_getElem? (i := 51) rfl) rfl
theorem ml_L_80 : Cond.methodLink RL 80 yX9_forget ∈ lw_g := gm_5 (List.mem_of_getElem? (i := 52) rfl) rfl
theorem im_X9_forget : Cond.instanceMethod yX9_forget ∈ lw_g := gm_5 (List.mem_of_getElem? (i := 53) rfl) rfl
theorem se_X9_forget : Cond.selects RX9 yX9_forget yX9_forget ∈ lw_g := gm_5 (List.mem_of_getElem? (i := 54) rfl) rfl
theorem cd_X9_forget : Cond.code yX9_forget cX9_forget 2 (some .int) ∈ lw_g := gm_5 (List.mem_of_getElem? (i := 55) rfl) rfl
theorem ml_L_84 : Cond.methodLink RL 84 yX9_fits ∈ lw_g := gm_5 (List.mem_of_getElem? (i := 56) rfl) rfl
theorem im_X9_fits : Cond.instanceMethod yX9_fits ∈ lw_g := gm_5 (List.mem_of_getElem? (i := 57) rfl) rfl
theorem se_X9_fits : Cond.selects RX9 yX9_fits yX9_fits ∈ lw_g := gm_5 (List.mem_of_getElem? (i := 58) rfl) rfl
theorem cd_X9_fits : Cond.code yX9_fits cX9_fits 6 (some .int) ∈ lw_g := gm_5 (List.mem_of_getElem? (i := 59) rfl) rfl
theorem ml_X9_193 : Cond.methodLink RX9 193 yX9_fitsAt ∈ lw_g := gm_5 (List.mem_of_getElem? (i := 60) rfl) rfl
theorem im_X9_fitsAt : Cond.instanceMethod yX9_fitsAt ∈ lw_g := gm_5 (List.mem_of_getElem? (i := 62) rfl) rfl
theorem cd_X9_fitsAt : Cond.code yX9_fitsAt cX9_fitsAt 4 (some .int) ∈ lw_g := gm_5 (List.mem_of_getElem? (i := 63) rfl) rfl
theorem ml_L_88 : Cond.methodLink RL 88 yX9_rate ∈ lw_g := gm_5 (List.mem_of_getElem? (i := 64) rfl) rfl
theorem im_X9_rate : Cond.instanceMethod yX9_rate ∈ lw_g := gm_5 (List.mem_of_getElem? (i := 65) rfl) rfl
theorem se_X9_rate : Cond.selects RX9 yX9_rate yX9_rate ∈ lw_g := gm_5 (List.mem_of_getElem? (i := 66) rfl) rfl
theorem cd_X9_rate : Cond.code yX9_rate cX9_rate 6 (some .int) ∈ lw_g := gm_5 (List.mem_of_getElem? (i := 67) rfl) rfl
theorem ki_X9_196 : Cond.constant RX9 196 (-1000000) ∈ lw_g := gm_5 (List.mem_of_getElem? (i := 68) rfl) rfl
theorem kl_X9_201 : Cond.constantLong RX9 201 (11) ∈ lw_g := gm_5 (List.mem_of_getElem? (i := 69) rfl) rfl
theorem kl_X9_203 : Cond.constantLong RX9 203 (101) ∈ lw_g := gm_5 (List.mem_of_getElem? (i := 70) rfl) rfl
theorem kl_X9_205 : Cond.constantLong RX9 205 (1011) ∈ lw_g := gm_5 (List.mem_of_getElem? (i := 71) rfl) rfl
theorem kl_X9_207 : Cond.constantLong RX9 207 (10101) ∈ lw_g := gm_5 (List.mem_of_getElem? (i := 72) rfl) rfl
theorem kl_X9_209 : Cond.constantLong RX9 209 (100001) ∈ lw_g := gm_5 (List.mem_of_getElem? (i := 73) rfl) rfl
theorem ml_L_92 : Cond.methodLink RL 92 yX9_keep ∈ lw_g := gm_5 (List.mem_of_getElem? (i := 74) rfl) rfl
theorem im_X9_keep : Cond.instanceMethod yX9_keep ∈ lw_g := gm_5 (List.mem_of_getElem? (i := 75) rfl) rfl
theorem se_X9_keep : Cond.selects RX9 yX9_keep yX9_keep ∈ lw_g := gm_5 (List.mem_of_getElem? (i := 76) rfl) rfl
theorem cd_X9_keep : Cond.code yX9_keep cX9_keep 3 (some .int) ∈ lw_g := gm_5 (List.mem_of_getElem? (i := 77) rfl) rfl
theorem ml_L_96 : Cond.methodLink RL 96 yX9_back ∈ lw_g := gm_5 (List.mem_of_getElem? (i := 78) rfl) rfl
theorem im_X9_back : Cond.instanceMethod yX9_back ∈ lw_g := gm_5 (List.mem_of_getElem? (i := 79) rfl) rfl
theorem se_X9_back : Cond.selects RX9 yX9_back yX9_back ∈ lw_g := gm_5 (List.mem_of_getElem? (i := 80) rfl) rfl
theorem cd_X9_back : Cond.code yX9_back cX9_back 3 (some .int) ∈ lw_g := gm_5 (List.mem_of_getElem? (i := 81) rfl) rfl
theorem ml_L_100 : Cond.methodLink RL 100 yX9_count ∈ lw_g := gm_5 (List.mem_of_getElem? (i := 82) rfl) rfl
theorem im_X9_count : Cond.instanceMethod yX9_count ∈ lw_g := gm_5 (List.mem_of_getElem? (i := 83) rfl) rfl
theorem se_X9_count : Cond.selects RX9 yX9_count yX9_count ∈ lw_g := gm_5 (List.mem_of_getElem? (i := 84) rfl) rfl
theorem cd_X9_count : Cond.code yX9_count cX9_count 3 (some .int) ∈ lw_g := gm_5 (List.mem_of_getElem? (i := 85) rfl) rfl
theorem ml_L_105 : Cond.methodLink RL 105 yX9_trace ∈ lw_g := gm_5 (List.mem_of_getElem? (i := 86) rfl) rfl
theorem im_X9_trace : Cond.instanceMethod yX9_trace ∈ lw_g := gm_5 (List.mem_of_getElem? (i := 87) rfl) rfl
theorem se_X9_trace : Cond.selects RX9 yX9_trace yX9_trace ∈ lw_g := gm_5 (List.mem_of_getElem? (i := 88) rfl) rfl
theorem cd_X9_trace : Cond.code yX9_trace cX9_trace 1 (some .long) ∈ lw_g := gm_5 (List.mem_of_getElem? (i := 89) rfl) rfl
theorem kl_L_13 : Cond.constantLong RL 13 (4294967295) ∈ lw_g := gm_5 (List.mem_of_getElem? (i := 90) rfl) rfl
theorem fl_J0_9 : Cond.fieldLink RJ0 9 "java/lang/String" "value" "[B" ∈ lw_g := gm_5 (List.mem_of_getElem? (i := 91) rfl) rfl
theorem fl_J0_15 : Cond.fieldLink RJ0 15 "java/lang/String" "coder" "B" ∈ lw_g := gm_5 (List.mem_of_getElem? (i := 92) rfl) rfl
theorem se_X8_beginAnew : Cond.selects RX8 yX8_beginAnew yX8_beginAnew ∈ lw_g := gp_1 (q := (yX8_beginAnew, 11)) (List.mem_of_getElem? (i := 0) rfl) rfl
theorem se_X8_foldAsNowTells : Cond.selects RX8 yX8_foldAsNowTells yX8_foldAsNowTells ∈ lw_g := gp_1 (q := (yX8_foldAsNowTells, 11)) (List.mem_of_getElem? (i := 1) rfl) rfl
theorem se_X8_bendBy : Cond.selects RX8 yX8_bendBy yX8_bendBy ∈ lw_g := gp_1 (q := (yX8_bendBy, 11)) (List.mem_of_getElem? (i := 2) rfl) rfl
theorem se_X3_countHeights : Cond.selects RX3 yX3_countHeights yX3_countHeights ∈ lw_g := gp_1 (q := (yX3_countHeights, 8)) (List.mem_of_getElem? (i := 3) rfl) rfl
theorem se_X3_shiftOf : Cond.selects RX3 yX3_shiftOf yX3_shiftOf ∈ lw_g := gp_1 (q := (yX3_shiftOf, 8)) (List.mem_of_getElem? (i := 4) rfl) rfl
theorem se_X3_heightAt : Cond.selects RX3 yX3_heightAt yX3_heightAt ∈ lw_g := gp_1 (q := (yX3_heightAt, 8)) (List.mem_of_getElem? (i := 5) rfl) rfl
theorem se_X3_shrink : Cond.selects RX3 yX3_shrink yX3_shrink ∈ lw_g := gp_1 (q := (yX3_shrink, 8)) (List.mem_of_getElem? (i := 6) rfl) rfl
theorem se_X7_byteAt : Cond.selects RX7 yX7_byteAt yX7_byteAt ∈ lw_g := gp_1 (q := (yX7_byteAt, 6)) (List.mem_of_getElem? (i := 7) rfl) rfl
theorem se_X7_readWord : Cond.selects RX7 yX7_readWord yX7_readWord ∈ lw_g := gp_1 (q := (yX7_readWord, 6)) (List.mem_of_getElem? (i := 8) rfl) rfl
theorem se_X7_isWord : Cond.selects RX7 yX7_isWord yX7_isWord ∈ lw_g := gp_1 (q := (yX7_isWord, 6)) (List.mem_of_getElem? (i := 9) rfl) rfl
theorem se_X7_readNumber : Cond.selects RX7 yX7_readNumber yX7_readNumber ∈ lw_g := gp_1 (q := (yX7_readNumber, 6)) (List.mem_of_getElem? (i := 10) rfl) rfl
theorem se_X6_takesToken : Cond.selects RX6 yX6_takesToken yX6_takesToken ∈ lw_g := gp_1 (q := (yX6_takesToken, 8)) (List.mem_of_getElem? (i := 11) rfl) rfl
theorem se_X6_takesWord : Cond.selects RX6 yX6_takesWord yX6_takesWord ∈ lw_g := gp_1 (q := (yX6_takesWord, 8)) (List.mem_of_getElem? (i := 12) rfl) rfl
theorem se_X6_mayBegin : Cond.selects RX6 yX6_mayBegin yX6_mayBegin ∈ lw_g := gp_1 (q := (yX6_mayBegin, 8)) (List.mem_of_getElem? (i := 13) rfl) rfl
theorem se_X6_takesNumber : Cond.selects RX6 yX6_takesNumber yX6_takesNumber ∈ lw_g := gp_1 (q := (yX6_takesNumber, 8)) (List.mem_of_getElem? (i := 14) rfl) rfl
theorem se_X6_mostNumber : Cond.selects RX6 yX6_mostNumber yX6_mostNumber ∈ lw_g := gp_1 (q := (yX6_mostNumber, 8)) (List.mem_of_getElem? (i := 15) rfl) rfl
theorem se_X6_takesEnd : Cond.selects RX6 yX6_takesEnd yX6_takesEnd ∈ lw_g := gp_2 (q := (yX6_takesEnd, 8)) (List.mem_of_getElem? (i := 0) rfl) rfl
theorem se_X8_isCell : Cond.selects RX8 yX8_isCell yX8_isCell ∈ lw_g := gp_2 (q := (yX8_isCell, 11)) (List.mem_of_getElem? (i := 1) rfl) rfl
theorem se_X8_areTwoCells : Cond.selects RX8 yX8_areTwoCells yX8_areTwoCells ∈ lw_g := gp_2 (q := (yX8_areTwoCells, 11)) (List.mem_of_getElem? (i := 2) rfl) rfl
theorem se_X5_lay : Cond.selects RX5 yX5_lay yX5_lay ∈ lw_g := gp_2 (q := (yX5_lay, 5)) (List.mem_of_getElem? (i := 3) rfl) rfl
theorem se_X5_layFold : Cond.selects RX5 yX5_layFold yX5_layFold ∈ lw_g := gp_2 (q := (yX5_layFold, 5)) (List.mem_of_getElem? (i := 4) rfl) rfl
theorem se_X3_isOutermost : Cond.selects RX3 yX3_isOutermost yX3_isOutermost ∈ lw_g := gp_2 (q := (yX3_isOutermost, 8)) (List.mem_of_getElem? (i := 5) rfl) rfl
theorem se_X5_noteFound : Cond.selects RX5 yX5_noteFound yX5_noteFound ∈ lw_g := gp_2 (q := (yX5_noteFound, 5)) (List.mem_of_getElem? (i := 6) rfl) rfl
theorem se_X8_rateAsWell : Cond.selects RX8 yX8_rateAsWell yX8_rateAsWell ∈ lw_g := gp_2 (q := (yX8_rateAsWell, 11)) (List.mem_of_getElem? (i := 7) rfl) rfl
theorem se_X8_rateAsCell : Cond.selects RX8 yX8_rateAsCell yX8_rateAsCell ∈ lw_g := gp_2 (q := (yX8_rateAsCell, 11)) (List.mem_of_getElem? (i := 8) rfl) rfl
theorem se_X8_rateAsHermit : Cond.selects RX8 yX8_rateAsHermit yX8_rateAsHermit ∈ lw_g := gp_2 (q := (yX8_rateAsHermit, 11)) (List.mem_of_getElem? (i := 9) rfl) rfl
theorem se_X8_rateAsLight : Cond.selects RX8 yX8_rateAsLight yX8_rateAsLight ∈ lw_g := gp_2 (q := (yX8_rateAsLight, 11)) (List.mem_of_getElem? (i := 10) rfl) rfl
theorem se_X8_rateAsFolder : Cond.selects RX8 yX8_rateAsFolder yX8_rateAsFolder ∈ lw_g := gp_2 (q := (yX8_rateAsFolder, 11)) (List.mem_of_getElem? (i := 11) rfl) rfl
theorem se_X8_rateAsDuke : Cond.selects RX8 yX8_rateAsDuke yX8_rateAsDuke ∈ lw_g := gp_2 (q := (yX8_rateAsDuke, 11)) (List.mem_of_getElem? (i := 12) rfl) rfl
theorem se_X9_reads : Cond.selects RX9 yX9_reads yX9_reads ∈ lw_g := gp_2 (q := (yX9_reads, 22)) (List.mem_of_getElem? (i := 13) rfl) rfl
theorem se_X9_token : Cond.selects RX9 yX9_token yX9_token ∈ lw_g := gp_2 (q := (yX9_token, 22)) (List.mem_of_getElem? (i := 14) rfl) rfl
theorem se_X9_byteAt : Cond.selects RX9 yX9_byteAt yX9_byteAt ∈ lw_g := gp_2 (q := (yX9_byteAt, 22)) (List.mem_of_getElem? (i := 15) rfl) rfl
theorem se_X9_verb : Cond.selects RX9 yX9_verb yX9_verb ∈ lw_g := gp_3 (q := (yX9_verb, 22)) (List.mem_of_getElem? (i := 0) rfl) rfl
theorem se_X9_readsItem : Cond.selects RX9 yX9_readsItem yX9_readsItem ∈ lw_g := gp_3 (q := (yX9_readsItem, 22)) (List.mem_of_getElem? (i := 1) rfl) rfl
theorem se_X9_readsMap : Cond.selects RX9 yX9_readsMap yX9_readsMap ∈ lw_g := gp_3 (q := (yX9_readsMap, 22)) (List.mem_of_getElem? (i := 2) rfl) rfl
theorem se_X9_number : Cond.selects RX9 yX9_number yX9_number ∈ lw_g := gp_3 (q := (yX9_number, 22)) (List.mem_of_getElem? (i := 3) rfl) rfl
theorem se_X9_readsWorth : Cond.selects RX9 yX9_readsWorth yX9_readsWorth ∈ lw_g := gp_3 (q := (yX9_readsWorth, 22)) (List.mem_of_getElem? (i := 4) rfl) rfl
theorem se_X9_draftCells : Cond.selects RX9 yX9_draftCells yX9_draftCells ∈ lw_g := gp_3 (q := (yX9_draftCells, 22)) (List.mem_of_getElem? (i := 5) rfl) rfl
theorem se_X9_readsQuarrel : Cond.selects RX9 yX9_readsQuarrel yX9_readsQuarrel ∈ lw_g := gp_3 (q := (yX9_readsQuarrel, 22)) (List.mem_of_getElem? (i := 6) rfl) rfl
theorem se_X9_readsTear : Cond.selects RX9 yX9_readsTear yX9_readsTear ∈ lw_g := gp_3 (q := (yX9_readsTear, 22)) (List.mem_of_getElem? (i := 7) rfl) rfl
theorem se_X9_isCell : Cond.selects RX9 yX9_isCell yX9_isCell ∈ lw_g := gp_3 (q := (yX9_isCell, 22)) (List.mem_of_getElem? (i := 8) rfl) rfl
theorem se_X9_cells : Cond.selects RX9 yX9_cells yX9_cells ∈ lw_g := gp_3 (q := (yX9_cells, 22)) (List.mem_of_getElem? (i := 9) rfl) rfl
theorem se_X9_now : Cond.selects RX9 yX9_now yX9_now ∈ lw_g := gp_3 (q := (yX9_now, 22)) (List.mem_of_getElem? (i := 10) rfl) rfl
theorem se_X9_flat : Cond.selects RX9 yX9_flat yX9_flat ∈ lw_g := gp_3 (q := (yX9_flat, 22)) (List.mem_of_getElem? (i := 11) rfl) rfl
theorem se_X9_folds : Cond.selects RX9 yX9_folds yX9_folds ∈ lw_g := gp_3 (q := (yX9_folds, 22)) (List.mem_of_getElem? (i := 12) rfl) rfl
theorem se_X9_manyAt : Cond.selects RX9 yX9_manyAt yX9_manyAt ∈ lw_g := gp_3 (q := (yX9_manyAt, 22)) (List.mem_of_getElem? (i := 13) rfl) rfl
theorem se_X9_falls : Cond.selects RX9 yX9_falls yX9_falls ∈ lw_g := gp_3 (q := (yX9_falls, 22)) (List.mem_of_getElem? (i := 14) rfl) rfl
theorem se_X9_gain : Cond.selects RX9 yX9_gain yX9_gain ∈ lw_g := gp_3 (q := (yX9_gain, 22)) (List.mem_of_getElem? (i := 15) rfl) rfl
theorem se_X9_touches : Cond.selects RX9 yX9_touches yX9_touches ∈ lw_g := gp_4 (q := (yX9_touches, 22)) (List.mem_of_getElem? (i := 0) rfl) rfl
theorem se_X9_bendsAll : Cond.selects RX9 yX9_bendsAll yX9_bendsAll ∈ lw_g := gp_4 (q := (yX9_bendsAll, 22)) (List.mem_of_getElem? (i := 1) rfl) rfl
theorem se_X9_neighbour : Cond.selects RX9 yX9_neighbour yX9_neighbour ∈ lw_g := gp_4 (q := (yX9_neighbour, 22)) (List.mem_of_getElem? (i := 2) rfl) rfl
theorem se_X9_bends : Cond.selects RX9 yX9_bends yX9_bends ∈ lw_g := gp_4 (q := (yX9_bends, 22)) (List.mem_of_getElem? (i := 3) rfl) rfl
theorem se_X9_thick : Cond.selects RX9 yX9_thick yX9_thick ∈ lw_g := gp_4 (q := (yX9_thick, 22)) (List.mem_of_getElem? (i := 4) rfl) rfl
theorem se_X9_areTwo : Cond.selects RX9 yX9_areTwo yX9_areTwo ∈ lw_g := gp_4 (q := (yX9_areTwo, 22)) (List.mem_of_getElem? (i := 5) rfl) rfl
theorem se_X9_reaches : Cond.selects RX9 yX9_reaches yX9_reaches ∈ lw_g := gp_4 (q := (yX9_reaches, 22)) (List.mem_of_getElem? (i := 6) rfl) rfl
theorem se_X9_reachesOn : Cond.selects RX9 yX9_reachesOn yX9_reachesOn ∈ lw_g := gp_4 (q := (yX9_reachesOn, 22)) (List.mem_of_getElem? (i := 7) rfl) rfl
theorem se_X9_tries : Cond.selects RX9 yX9_tries yX9_tries ∈ lw_g := gp_4 (q := (yX9_tries, 22)) (List.mem_of_getElem? (i := 8) rfl) rfl
theorem se_X9_fitsAt : Cond.selects RX9 yX9_fitsAt yX9_fitsAt ∈ lw_g := gp_4 (q := (yX9_fitsAt, 22)) (List.mem_of_getElem? (i := 9) rfl) rfl
theorem ly_X0_0 : u_lay RX0 TX0 0 ∈ lw_g := gm_1 (List.mem_of_getElem? (i := 200) rfl) rfl
theorem ly_X0_1 : u_lay RX0 TX0 1 ∈ lw_g := gm_1 (List.mem_of_getElem? (i := 202) rfl) rfl
theorem ly_X0_2 : u_lay RX0 TX0 2 ∈ lw_g := gm_1 (List.mem_of_getElem? (i := 204) rfl) rfl
theorem ly_X0_3 : u_lay RX0 TX0 3 ∈ lw_g := gm_1 (List.mem_of_getElem? (i := 206) rfl) rfl
theorem inc_X0 : ∀ w ∈ u_ws RX0 TX0 4, w ∈ lw_g := by
  intro w hw
  obtain ⟨k, hk, rfl⟩ := List.mem_map.mp hw
  have hk := List.mem_range.mp hk
  match k, hk with
  | 0, _ => exact ly_X0_0
  | 1, _ => exact ly_X0_1
  | 2, _ => exact ly_X0_2
  | 3, _ => exact ly_X0_3
  | k + 4, h => omega
theorem ly_X1_0 : u_lay RX1 TX1 0 ∈ lw_g := gm_1 (List.mem_of_getElem? (i := 106) rfl) rfl
theorem ly_X1_1 : u_lay RX1 TX1 1 ∈ lw_g := gm_1 (List.mem_of_getElem? (i := 108) rfl) rfl
theorem ly_X1_2 : u_lay RX1 TX1 2 ∈ lw_g := gm_1 (List.mem_of_getElem? (i := 110) rfl) rfl
theorem ly_X1_3 : u_lay RX1 TX1 3 ∈ lw_g := gm_1 (List.mem_of_getElem? (i := 112) rfl) rfl
theorem ly_X1_4 : u_lay RX1 TX1 4 ∈ lw_g := gm_1 (List.mem_of_getElem? (i := 114) rfl) rfl
theorem inc_X1 : ∀ w ∈ u_ws RX1 TX1 5, w ∈ lw_g := by
  intro w hw
  obtain ⟨k, hk, rfl⟩ := List.mem_map.mp hw
  have hk := List.mem_range.mp hk
  match k, hk with
  | 0, _ => exact ly_X1_0
  | 1, _ => exact ly_X1_1
  | 2, _ => exact ly_X1_2
  | 3, _ => exact ly_X1_3
  | 4, _ => exact ly_X1_4
  | k + 5, h => omega
theorem ly_X2_0 : u_lay RX2 TX2 0 ∈ lw_g := gm_1 (List.mem_of_getElem? (i := 225) rfl) rfl
theorem ly_X2_1 : u_lay RX2 TX2 1 ∈ lw_g := gm_1 (List.mem_of_getElem? (i := 227) rfl) rfl
theorem ly_X2_2 : u_lay RX2 TX2 2 ∈ lw_g := gm_1 (List.mem_of_getElem? (i := 229) rfl) rfl
theorem ly_X2_3 : u_lay RX2 TX2 3 ∈ lw_g := gm_1 (List.mem_of_getElem? (i := 231) rfl) rfl
theorem ly_X2_4 : u_lay RX2 TX2 4 ∈ lw_g := gm_1 (List.mem_of_getElem? (i := 233) rfl) rfl
theorem inc_X2 : ∀ w ∈ u_ws RX2 TX2 5, w ∈ lw_g := by
  intro w hw
  obtain ⟨k, hk, rfl⟩ := List.mem_map.mp hw
  have hk := List.mem_range.mp hk
  match k, hk with
  | 0, _ => exact ly_X2_0
  | 1, _ => exact ly_X2_1
  | 2, _ => exact ly_X2_2
  | 3, _ => exact ly_X2_3
  | 4, _ => exact ly_X2_4
  | k + 5, h => omega
theorem ly_X3_0 : u_lay RX3 TX3 0 ∈ lw_g := gm_1 (List.mem_of_getElem? (i := 171) rfl) rfl
theorem ly_X3_1 : u_lay RX3 TX3 1 ∈ lw_g := gm_1 (List.mem_of_getElem? (i := 173) rfl) rfl
theorem ly_X3_2 : u_lay RX3 TX3 2 ∈ lw_g := gm_1 (List.mem_of_getElem? (i := 175) rfl) rfl
theorem ly_X3_3 : u_lay RX3 TX3 3 ∈ lw_g := gm_1 (List.mem_of_getElem? (i := 177) rfl) rfl
theorem ly_X3_4 : u_lay RX3 TX3 4 ∈ lw_g := gm_1 (List.mem_of_getElem? (i := 179) rfl) rfl
theorem ly_X3_5 : u_lay RX3 TX3 5 ∈ lw_g := gm_1 (List.mem_of_getElem? (i := 181) rfl) rfl
theorem ly_X3_6 : u_lay RX3 TX3 6 ∈ lw_g := gm_1 (List.mem_of_getElem? (i := 183) rfl) rfl
theorem ly_X3_7 : u_lay RX3 TX3 7 ∈ lw_g := gm_1 (List.mem_of_getElem? (i := 185) rfl) rfl
theorem inc_X3 : ∀ w ∈ u_ws RX3 TX3 8, w ∈ lw_g := by
  intro w hw
  obtain ⟨k, hk, rfl⟩ := List.mem_map.mp hw
  have hk := List.mem_range.mp hk
  match k, hk with
  | 0, _ => exact ly_X3_0
  | 1, _ => exact ly_X3_1
  | 2, _ => exact ly_X3_2
  | 3, _ => exact ly_X3_3
  | 4, _ => exact ly_X3_4
  | 5, _ => exact ly_X3_5
  | 6, _ => exact ly_X3_6
  | 7, _ => exact ly_X3_7
  | k + 8, h => omega
theorem ly_X4_0 : u_lay RX4 TX4 0 ∈ lw_g := gm_1 (List.mem_of_getElem? (i := 81) rfl) rfl
theorem ly_X4_1 : u_lay RX4 TX4 1 ∈ lw_g := gm_1 (List.mem_of_getElem? (i := 83) rfl) rfl
theorem ly_X4_2 : u_lay RX4 TX4 2 ∈ lw_g := gm_1 (List.mem_of_getElem? (i := 85) rfl) rfl
theorem inc_X4 : ∀ w ∈ u_ws RX4 TX4 3, w ∈ lw_g := by
  intro w hw
  obtain ⟨k, hk, rfl⟩ := List.mem_map.mp hw
  have hk := List.mem_range.mp hk
  match k, hk with
  | 0, _ => exact ly_X4_0
  | 1, _ => exact ly_X4_1
  | 2, _ => exact ly_X4_2
  | k + 3, h => omega
theorem ly_X5_0 : u_lay RX5 TX5 0 ∈ lw_g := gm_2 (List.mem_of_getElem? (i := 14) rfl) rfl
theorem ly_X5_1 : u_lay RX5 TX5 1 ∈ lw_g := gm_2 (List.mem_of_getElem? (i := 16) rfl) rfl
theorem ly_X5_2 : u_lay RX5 TX5 2 ∈ lw_g := gm_2 (List.mem_of_getElem? (i := 18) rfl) rfl
theorem ly_X5_3 : u_lay RX5 TX5 3 ∈ lw_g := gm_2 (List.mem_of_getElem? (i := 20) rfl) rfl
theorem ly_X5_4 : u_lay RX5 TX5 4 ∈ lw_g := gm_2 (List.mem_of_getElem? (i := 22) rfl) rfl
theorem inc_X5 : ∀ w ∈ u_ws RX5 TX5 5, w ∈ lw_g := by
  intro w hw
  obtain ⟨k, hk, rfl⟩ := List.mem_map.mp hw
  have hk := List.mem_range.mp hk
  match k, hk with
  | 0, _ => exact ly_X5_0
  | 1, _ => exact ly_X5_1
  | 2, _ => exact ly_X5_2
  | 3, _ => exact ly_X5_3
  | 4, _ => exact ly_X5_4
  | k + 5, h => omega
theorem ly_X6_0 : u_lay RX6 TX6 0 ∈ lw_g := gm_1 (List.mem_of_getElem? (i := 128) rfl) rfl
theorem ly_X6_1 : u_lay RX6 TX6 1 ∈ lw_g := gm_1 (List.mem_of_getElem? (i := 130) rfl) rfl
theorem ly_X6_2 : u_lay RX6 TX6 2 ∈ lw_g := gm_1 (List.mem_of_getElem? (i := 132) rfl) rfl
theorem ly_X6_3 : u_lay RX6 TX6 3 ∈ lw_g := gm_1 (List.mem_of_getElem? (i := 134) rfl) rfl
theorem ly_X6_4 : u_lay RX6 TX6 4 ∈ lw_g := gm_1 (List.mem_of_getElem? (i := 136) rfl) rfl
theorem ly_X6_5 : u_lay RX6 TX6 5 ∈ lw_g := gm_1 (List.mem_of_getElem? (i := 138) rfl) rfl
theorem ly_X6_6 : u_lay RX6 TX6 6 ∈ lw_g := gm_1 (List.mem_of_getElem? (i := 140) rfl) rfl
theorem ly_X6_7 : u_lay RX6 TX6 7 ∈ lw_g := gm_1 (List.mem_of_getElem? (i := 142) rfl) rfl
theorem inc_X6 : ∀ w ∈ u_ws RX6 TX6 8, w ∈ lw_g := by
  intro w hw
  obtain ⟨k, hk, rfl⟩ := List.mem_map.mp hw
  have hk := List.mem_range.mp hk
  match k, hk with
  | 0, _ => exact ly_X6_0
  | 1, _ => exact ly_X6_1
  | 2, _ => exact ly_X6_2
  | 3, _ => exact ly_X6_3
  | 4, _ => exact ly_X6_4
  | 5, _ => exact ly_X6_5
  | 6, _ => exact ly_X6_6
  | 7, _ => exact ly_X6_7
  | k + 8, h => omega
theorem ly_X7_0 : u_lay RX7 TX7 0 ∈ lw_g := gm_1 (List.mem_of_getElem? (i := 47) rfl) rfl
theorem ly_X7_1 : u_lay RX7 TX7 1 ∈ lw_g := gm_1 (List.mem_of_getElem? (i := 49) rfl) rfl
theorem ly_X7_2 : u_lay RX7 TX7 2 ∈ lw_g := gm_1 (List.mem_of_getElem? (i := 51) rfl) rfl
theorem ly_X7_3 : u_lay RX7 TX7 3 ∈ lw_g := gm_1 (List.mem_of_getElem? (i := 53) rfl) rfl
theorem ly_X7_4 : u_lay RX7 TX7 4 ∈ lw_g := gm_1 (List.mem_of_getElem? (i := 55) rfl) rfl
theorem ly_X7_5 : u_lay RX7 TX7 5 ∈ lw_g := gm_1 (List.mem_of_getElem? (i := 57) rfl) rfl
theorem inc_X7 : ∀ w ∈ u_ws RX7 TX7 6, w ∈ lw_g := by
  intro w hw
  obtain ⟨k, hk, rfl⟩ := List.mem_map.mp hw
  have hk := List.mem_range.mp hk
  match k, hk with
  | 0, _ => exact ly_X7_0
  | 1, _ => exact ly_X7_1
  | 2, _ => exact ly_X7_2
  | 3, _ => exact ly_X7_3
  | 4, _ => exact ly_X7_4
  | 5, _ => exact ly_X7_5
  | k + 6, h => omega
theorem ly_X8_0 : u_lay RX8 TX8 0 ∈ lw_g := gm_2 (List.mem_of_getElem? (i := 120) rfl) rfl
theorem ly_X8_1 : u_lay RX8 TX8 1 ∈ lw_g := gm_2 (List.mem_of_getElem? (i := 122) rfl) rfl
theorem ly_X8_2 : u_lay RX8 TX8 2 ∈ lw_g := gm_2 (List.mem_of_getElem? (i := 124) rfl) rfl
theorem ly_X8_3 : u_lay RX8 TX8 3 ∈ lw_g := gm_2 (List.mem_of_getElem? (i := 126) rfl) rfl
theorem ly_X8_4 : u_lay RX8 TX8 4 ∈ lw_g := gm_2 (List.mem_of_getElem? (i := 128) rfl) rfl
theorem ly_X8_5 : u_lay RX8 TX8 5 ∈ lw_g := gm_2 (List.mem_of_getElem? (i := 130) rfl) rfl
theorem ly_X8_6 : u_lay RX8 TX8 6 ∈ lw_g := gm_2 (List.mem_of_getElem? (i := 132) rfl) rfl
theorem ly_X8_7 : u_lay RX8 TX8 7 ∈ lw_g := gm_2 (List.mem_of_getElem? (i := 134) rfl) rfl
theorem ly_X8_8 : u_lay RX8 TX8 8 ∈ lw_g := gm_2 (List.mem_of_getElem? (i := 136) rfl) rfl
theorem ly_X8_9 : u_lay RX8 TX8 9 ∈ lw_g := gm_2 (List.mem_of_getElem? (i := 138) rfl) rfl
theorem ly_X8_10 : u_lay RX8 TX8 10 ∈ lw_g := gm_2 (List.mem_of_getElem? (i := 140) rfl) rfl
theorem inc_X8 : ∀ w ∈ u_ws RX8 TX8 11, w ∈ lw_g := by
  intro w hw
  obtain ⟨k, hk, rfl⟩ := List.mem_map.mp hw
  have hk := List.mem_range.mp hk
  match k, hk with
  | 0, _ => exact ly_X8_0
  | 1, _ => exact ly_X8_1
  | 2, _ => exact ly_X8_2
  | 3, _ => exact ly_X8_3
  | 4, _ => exact ly_X8_4
  | 5, _ => exact ly_X8_5
  | 6, _ => exact ly_X8_6
  | 7, _ => exact ly_X8_7
  | 8, _ => exact ly_X8_8
  | 9, _ => exact ly_X8_9
  | 10, _ => exact ly_X8_10
  | k + 11, h => omega
theorem ly_X9_0 : u_lay RX9 TX9 0 ∈ lw_g := gm_4 (List.mem_of_getElem? (i := 118) rfl) rfl
theorem ly_X9_1 : u_lay RX9 TX9 1 ∈ lw_g := gm_4 (List.mem_of_getElem? (i := 120) rfl) rfl
theorem ly_X9_2 : u_lay RX9 TX9 2 ∈ lw_g := gm_4 (List.mem_of_getElem? (i := 122) rfl) rfl
theorem ly_X9_3 : u_lay RX9 TX9 3 ∈ lw_g := gm_4 (List.mem_of_getElem? (i := 124) rfl) rfl
theorem ly_X9_4 : u_lay RX9 TX9 4 ∈ lw_g := gm_4 (List.mem_of_getElem? (i := 126) rfl) rfl
theorem ly_X9_5 : u_lay RX9 TX9 5 ∈ lw_g := gm_4 (List.mem_of_getElem? (i := 128) rfl) rfl
theorem ly_X9_6 : u_lay RX9 TX9 6 ∈ lw_g := gm_4 (List.mem_of_getElem? (i := 130) rfl) rfl
theorem ly_X9_7 : u_lay RX9 TX9 7 ∈ lw_g := gm_4 (List.mem_of_getElem? (i := 132) rfl) rfl
theorem ly_X9_8 : u_lay RX9 TX9 8 ∈ lw_g := gm_4 (List.mem_of_getElem? (i := 134) rfl) rfl
theorem ly_X9_9 : u_lay RX9 TX9 9 ∈ lw_g := gm_4 (List.mem_of_getElem? (i := 136) rfl) rfl
theorem ly_X9_10 : u_lay RX9 TX9 10 ∈ lw_g := gm_4 (List.mem_of_getElem? (i := 138) rfl) rfl
theorem ly_X9_11 : u_lay RX9 TX9 11 ∈ lw_g := gm_4 (List.mem_of_getElem? (i := 140) rfl) rfl
theorem ly_X9_12 : u_lay RX9 TX9 12 ∈ lw_g := gm_4 (List.mem_of_getElem? (i := 142) rfl) rfl
theorem ly_X9_13 : u_lay RX9 TX9 13 ∈ lw_g := gm_4 (List.mem_of_getElem? (i := 144) rfl) rfl
theorem ly_X9_14 : u_lay RX9 TX9 14 ∈ lw_g := gm_4 (List.mem_of_getElem? (i := 146) rfl) rfl
theorem ly_X9_15 : u_lay RX9 TX9 15 ∈ lw_g := gm_4 (List.mem_of_getElem? (i := 148) rfl) rfl
theorem ly_X9_16 : u_lay RX9 TX9 16 ∈ lw_g := gm_4 (List.mem_of_getElem? (i := 150) rfl) rfl
theorem ly_X9_17 : u_lay RX9 TX9 17 ∈ lw_g := gm_4 (List.mem_of_getElem? (i := 152) rfl) rfl
theorem ly_X9_18 : u_lay RX9 TX9 18 ∈ lw_g := gm_4 (List.mem_of_getElem? (i := 154) rfl) rfl
theorem ly_X9_19 : u_lay RX9 TX9 19 ∈ lw_g := gm_4 (List.mem_of_getElem? (i := 156) rfl) rfl
theorem ly_X9_20 : u_lay RX9 TX9 20 ∈ lw_g := gm_4 (List.mem_of_getElem? (i := 158) rfl) rfl
theorem ly_X9_21 : u_lay RX9 TX9 21 ∈ lw_g := gm_4 (List.mem_of_getElem? (i := 160) rfl) rfl
theorem inc_X9 : ∀ w ∈ u_ws RX9 TX9 22, w ∈ lw_g := by
  intro w hw
  obtain ⟨k, hk, rfl⟩ := List.mem_map.mp hw
  have hk := List.mem_range.mp hk
  match k, hk with
  | 0, _ => exact ly_X9_0
  | 1, _ => exact ly_X9_1
  | 2, _ => exact ly_X9_2
  | 3, _ => exact ly_X9_3
  | 4, _ => exact ly_X9_4
  | 5, _ => exact ly_X9_5
  | 6, _ => exact ly_X9_6
  | 7, _ => exact ly_X9_7
  | 8, _ => exact ly_X9_8
  | 9, _ => exact ly_X9_9
  | 10, _ => exact ly_X9_10
  | 11, _ => exact ly_X9_11
  | 12, _ => exact ly_X9_12
  | 13, _ => exact ly_X9_13
  | 14, _ => exact ly_X9_14
  | 15, _ => exact ly_X9_15
  | 16, _ => exact ly_X9_16
  | 17, _ => exact ly_X9_17
  | 18, _ => exact ly_X9_18
  | 19, _ => exact ly_X9_19
  | 20, _ => exact ly_X9_20
  | 21, _ => exact ly_X9_21
  | k + 22, h => omega
