/-! The words of the tables that all methods share: one list for all. -/
def wb : List Cond := lw_tbl.filter goodWord
theorem wb_in {w : Cond} (h : w ∈ wb) : w ∈ lw_tbl := (List.mem_filter.mp h).1
theorem wb_good {w : Cond} (h : w ∈ wb) : goodWord w = true := (List.mem_filter.mp h).2
theorem wb_t (i : Nat) {w : Cond} (h : tables_1[i]? = some w) (g : goodWord w = true) : w ∈ wb := List.mem_filter.mpr ⟨List.mem_append_right _ (List.mem_of_getElem? h), g⟩
theorem wb_s (i : Nat) {w : Cond} (h : (k2_sels lw_privs)[i]? = some w) (g : goodWord w = true) : w ∈ wb := List.mem_filter.mpr ⟨List.mem_append_left _ (List.mem_of_getElem? h), g⟩
/-- any method's words: its own code, and the common list -/
theorem wb_G {c c' : Cond} (h : c' ∈ wb) : GoodIn (c :: wb) (c' :: wb) := by
  intro w hw
  rcases List.mem_cons.mp hw with e | e
  · rw [e]; exact ⟨List.mem_cons_of_mem _ h, good_of_word (wb_good h)⟩
  · exact ⟨List.mem_cons_of_mem _ e, good_of_word (wb_good e)⟩
theorem in_L : Cond.initialized R_L ∈ wb := wb_t 0 (by decide +kernel) (by decide +kernel)
theorem in_X : Cond.initialized R_X ∈ wb := wb_t 1 (by decide +kernel) (by decide +kernel)
theorem in_G : Cond.initialized R_G ∈ wb := wb_t 2 (by decide +kernel) (by decide +kernel)
theorem in_F : Cond.initialized R_F ∈ wb := wb_t 3 (by decide +kernel) (by decide +kernel)
theorem in_E : Cond.initialized R_E ∈ wb := wb_t 4 (by decide +kernel) (by decide +kernel)
theorem in_P : Cond.initialized R_P ∈ wb := wb_t 5 (by decide +kernel) (by decide +kernel)
theorem in_J : Cond.initialized R_J ∈ wb := wb_t 6 (by decide +kernel) (by decide +kernel)
theorem in_M : Cond.initialized R_M ∈ wb := wb_t 7 (by decide +kernel) (by decide +kernel)
theorem in_TH : Cond.initialized R_TH ∈ wb := wb_t 8 (by decide +kernel) (by decide +kernel)
theorem in_EX : Cond.initialized R_EX ∈ wb := wb_t 9 (by decide +kernel) (by decide +kernel)
theorem in_RE : Cond.initialized R_RE ∈ wb := wb_t 10 (by decide +kernel) (by decide +kernel)
theorem in_IA : Cond.initialized R_IA ∈ wb := wb_t 11 (by decide +kernel) (by decide +kernel)
theorem in_IO : Cond.initialized R_IO ∈ wb := wb_t 12 (by decide +kernel) (by decide +kernel)
theorem cl_L_8 : Cond.classLink R_L 8 R_X ∈ wb := wb_t 13 (by decide +kernel) (by decide +kernel)
theorem ia_X : Cond.instantiable R_X 4 ∈ wb := wb_t 14 (by decide +kernel) (by decide +kernel)
theorem ml_L_54 : Cond.methodLink R_L 54 y_X_init ∈ wb := wb_t 15 (by decide +kernel) (by decide +kernel)
theorem im_X_init : Cond.instanceMethod y_X_init ∈ wb := wb_t 16 (by decide +kernel) (by decide +kernel)
theorem co_X_init : Cond.code y_X_init b_X_init 2 none ∈ wb := wb_t 17 (by decide +kernel) (by decide +kernel)
theorem ml_X_1 : Cond.methodLink R_X 1 y_O_initV ∈ wb := wb_t 18 (by decide +kernel) (by decide +kernel)
theorem im_O_initV : Cond.instanceMethod y_O_initV ∈ wb := wb_t 19 (by decide +kernel) (by decide +kernel)
theorem co_O_initV : Cond.code y_O_initV b_O_initV 1 none ∈ wb := wb_t 20 (by decide +kernel) (by decide +kernel)
theorem cl_X_7 : Cond.classLink R_X 7 R_G ∈ wb := wb_t 21 (by decide +kernel) (by decide +kernel)
theorem ia_G : Cond.instantiable R_G 7 ∈ wb := wb_t 22 (by decide +kernel) (by decide +kernel)
theorem im_G_init : Cond.instanceMethod y_G_init ∈ wb := wb_t 24 (by decide +kernel) (by decide +kernel)
theorem co_G_init : Cond.code y_G_init b_G_init 1 none ∈ wb := wb_t 25 (by decide +kernel) (by decide +kernel)
theorem ml_G_3 : Cond.methodLink R_G 3 y_O_initV ∈ wb := wb_t 26 (by decide +kernel) (by decide +kernel)
theorem cl_G_9 : Cond.classLink R_G 9 R_F ∈ wb := wb_t 27 (by decide +kernel) (by decide +kernel)
theorem ia_F : Cond.instantiable R_F 3 ∈ wb := wb_t 28 (by decide +kernel) (by decide +kernel)
theorem im_F_init : Cond.instanceMethod y_F_init ∈ wb := wb_t 30 (by decide +kernel) (by decide +kernel)
theorem co_F_init : Cond.code y_F_init b_F_init 1 none ∈ wb := wb_t 31 (by decide +kernel) (by decide +kernel)
theorem ml_F_1 : Cond.methodLink R_F 1 y_O_initV ∈ wb := wb_t 32 (by decide +kernel) (by decide +kernel)
theorem fl_F_7 : Cond.fieldLink R_F 7 "FormComposer$Form" "a" "J" ∈ wb := wb_t 33 (by decide +kernel) (by decide +kernel)
theorem fl_F_13 : Cond.fieldLink R_F 13 "FormComposer$Form" "b" "J" ∈ wb := wb_t 36 (by decide +kernel) (by decide +kernel)
theorem fl_F_16 : Cond.fieldLink R_F 16 "FormComposer$Form" "c" "J" ∈ wb := wb_t 39 (by decide +kernel) (by decide +kernel)
theorem cl_G_27 : Cond.classLink R_G 27 R_E ∈ wb := wb_t 49 (by decide +kernel) (by decide +kernel)
theorem ia_E : Cond.instantiable R_E 3 ∈ wb := wb_t 50 (by decide +kernel) (by decide +kernel)
theorem im_E_init : Cond.instanceMethod y_E_init ∈ wb := wb_t 52 (by decide +kernel) (by decide +kernel)
theorem co_E_init : Cond.code y_E_init b_E_init 1 none ∈ wb := wb_t 53 (by decide +kernel) (by decide +kernel)
theorem ml_E_3 : Cond.methodLink R_E 3 y_O_initV ∈ wb := wb_t 54 (by decide +kernel) (by decide +kernel)
theorem fl_E_9 : Cond.fieldLink R_E 9 "FormComposer$Euclid" "common" "J" ∈ wb := wb_t 55 (by decide +kernel) (by decide +kernel)
theorem fl_E_15 : Cond.fieldLink R_E 15 "FormComposer$Euclid" "left" "J" ∈ wb := wb_t 57 (by decide +kernel) (by decide +kernel)
theorem fl_E_18 : Cond.fieldLink R_E 18 "FormComposer$Euclid" "right" "J" ∈ wb := wb_t 59 (by decide +kernel) (by decide +kernel)
theorem fl_G_12 : Cond.fieldLink R_G 12 "FormComposer$Group" "one" "LFormComposer$Form;" ∈ wb := wb_t 68 (by decide +kernel) (by decide +kernel)
theorem fl_G_18 : Cond.fieldLink R_G 18 "FormComposer$Group" "walker" "LFormComposer$Form;" ∈ wb := wb_t 70 (by decide +kernel) (by decide +kernel)
theorem fl_G_21 : Cond.fieldLink R_G 21 "FormComposer$Group" "start" "LFormComposer$Form;" ∈ wb := wb_t 71 (by decide +kernel) (by decide +kernel)
theorem fl_G_24 : Cond.fieldLink R_G 24 "FormComposer$Group" "base" "LFormComposer$Form;" ∈ wb := wb_t 72 (by decide +kernel) (by decide +kernel)
theorem fl_G_30 : Cond.fieldLink R_G 30 "FormComposer$Group" "euclid" "LFormComposer$Euclid;" ∈ wb := wb_t 73 (by decide +kernel) (by decide +kernel)
theorem fl_G_34 : Cond.fieldLink R_G 34 "FormComposer$Group" "discriminant" "I" ∈ wb := wb_t 74 (by decide +kernel) (by decide +kernel)
theorem fl_G_42 : Cond.fieldLink R_G 42 "FormComposer$Group" "root" "I" ∈ wb := wb_t 76 (by decide +kernel) (by decide +kernel)
theorem cl_X_16 : Cond.classLink R_X 16 R_P ∈ wb := wb_t 93 (by decide +kernel) (by decide +kernel)
theorem ia_P : Cond.instantiable R_P 2 ∈ wb := wb_t 94 (by decide +kernel) (by decide +kernel)
theorem im_P_init : Cond.instanceMethod y_P_init ∈ wb := wb_t 96 (by decide +kernel) (by decide +kernel)
theorem co_P_init : Cond.code y_P_init b_P_init 1 none ∈ wb := wb_t 97 (by decide +kernel) (by decide +kernel)
theorem ml_P_3 : Cond.methodLink R_P 3 y_O_initV ∈ wb := wb_t 98 (by decide +kernel) (by decide +kernel)
theorem fl_P_9 : Cond.fieldLink R_P 9 "FormComposer$OddPrimes" "found" "[I" ∈ wb := wb_t 99 (by decide +kernel) (by decide +kernel)
theorem fl_P_15 : Cond.fieldLink R_P 15 "FormComposer$OddPrimes" "size" "I" ∈ wb := wb_t 100 (by decide +kernel) (by decide +kernel)
theorem ac_int : Cond.arrayClass .int ∈ wb := wb_t 107 (by decide +kernel) (by decide +kernel)
theorem cl_X_23 : Cond.classLink R_X 23 R_F ∈ wb := wb_t 108 (by decide +kernel) (by decide +kernel)
theorem ml_X_34 : Cond.methodLink R_X 34 y_X_begin ∈ wb := wb_t 111 (by decide +kernel) (by decide +kernel)
theorem im_X_begin : Cond.instanceMethod y_X_begin ∈ wb := wb_t 113 (by decide +kernel) (by decide +kernel)
theorem co_X_begin : Cond.code y_X_begin b_X_begin 3 none ∈ wb := wb_t 114 (by decide +kernel) (by decide +kernel)
theorem im_G_settle : Cond.instanceMethod y_G_settle ∈ wb := wb_t 117 (by decide +kernel) (by decide +kernel)
theorem co_G_settle : Cond.code y_G_settle b_G_settle 2 none ∈ wb := wb_t 118 (by decide +kernel) (by decide +kernel)
theorem st_X_wholeRoot : Cond.static y_X_wholeRoot ∈ wb := wb_t 120 (by decide +kernel) (by decide +kernel)
theorem co_X_wholeRoot : Cond.code y_X_wholeRoot b_X_wholeRoot 2 (some .int) ∈ wb := wb_t 121 (by decide +kernel) (by decide +kernel)
theorem ml_G_45 : Cond.methodLink R_G 45 y_G_becomeFrom ∈ wb := wb_t 122 (by decide +kernel) (by decide +kernel)
theorem im_G_becomeFrom : Cond.instanceMethod y_G_becomeFrom ∈ wb := wb_t 124 (by decide +kernel) (by decide +kernel)
theorem co_G_becomeFrom : Cond.code y_G_becomeFrom b_G_becomeFrom 6 none ∈ wb := wb_t 125 (by decide +kernel) (by decide +kernel)
theorem kc_G_61 : Cond.constantLong R_G 61 (4) ∈ wb := wb_t 126 (by decide +kernel) (by decide +kernel)
theorem st_X_quotient : Cond.static y_X_quotient ∈ wb := wb_t 128 (by decide +kernel) (by decide +kernel)
theorem co_X_quotient : Cond.code y_X_quotient b_X_quotient 4 (some .long) ∈ wb := wb_t 129 (by decide +kernel) (by decide +kernel)
theorem im_F_become : Cond.instanceMethod y_F_become ∈ wb := wb_t 132 (by decide +kernel) (by decide +kernel)
theorem co_F_become : Cond.code y_F_become b_F_become 7 none ∈ wb := wb_t 133 (by decide +kernel) (by decide +kernel)
theorem ml_G_49 : Cond.methodLink R_G 49 y_G_reduce ∈ wb := wb_t 134 (by decide +kernel) (by decide +kernel)
theorem im_G_reduce : Cond.instanceMethod y_G_reduce ∈ wb := wb_t 136 (by decide +kernel) (by decide +kernel)
theorem co_G_reduce : Cond.code y_G_reduce b_G_reduce 3 none ∈ wb := wb_t 137 (by decide +kernel) (by decide +kernel)
theorem ml_G_83 : Cond.methodLink R_G 83 y_G_reduceBelow ∈ wb := wb_t 138 (by decide +kernel) (by decide +kernel)
theorem im_G_reduceBelow : Cond.instanceMethod y_G_reduceBelow ∈ wb := wb_t 140 (by decide +kernel) (by decide +kernel)
theorem co_G_reduceBelow : Cond.code y_G_reduceBelow b_G_reduceBelow 3 none ∈ wb := wb_t 141 (by decide +kernel) (by decide +kernel)
theorem kc_G_86 : Cond.constant R_G 86 (1000000) ∈ wb := wb_t 142 (by decide +kernel) (by decide +kernel)
theorem kc_G_100 : Cond.constantLong R_G 100 (2) ∈ wb := wb_t 143 (by decide +kernel) (by decide +kernel)
theorem st_X_remainder : Cond.static y_X_remainder ∈ wb := wb_t 145 (by decide +kernel) (by decide +kernel)
theorem co_X_remainder : Cond.code y_X_remainder b_X_remainder 4 (some .long) ∈ wb := wb_t 146 (by decide +kernel) (by decide +kernel)
theorem ml_X_163 : Cond.methodLink R_X 163 y_J_floorModJ ∈ wb := wb_t 147 (by decide +kernel) (by decide +kernel)
theorem st_J_floorModJ : Cond.static y_J_floorModJ ∈ wb := wb_t 148 (by decide +kernel) (by decide +kernel)
theorem co_J_floorModJ : Cond.code y_J_floorModJ b_J_floorModJ 6 (some .long) ∈ wb := wb_t 149 (by decide +kernel) (by decide +kernel)
theorem ml_G_87 : Cond.methodLink R_G 87 y_G_isReducedAbove ∈ wb := wb_t 150 (by decide +kernel) (by decide +kernel)
theorem im_G_isReducedAbove : Cond.instanceMethod y_G_isReducedAbove ∈ wb := wb_t 152 (by decide +kernel) (by decide +kernel)
theorem co_G_isReducedAbove : Cond.code y_G_isReducedAbove b_G_isReducedAbove 4 (some .boolean) ∈ wb := wb_t 153 (by decide +kernel) (by decide +kernel)
theorem ml_G_108 : Cond.methodLink R_G 108 y_J_absJ ∈ wb := wb_t 154 (by decide +kernel) (by decide +kernel)
theorem st_J_absJ : Cond.static y_J_absJ ∈ wb := wb_t 155 (by decide +kernel) (by decide +kernel)
theorem co_J_absJ : Cond.code y_J_absJ b_J_absJ 2 (some .long) ∈ wb := wb_t 156 (by decide +kernel) (by decide +kernel)
theorem ml_G_91 : Cond.methodLink R_G 91 y_G_step ∈ wb := wb_t 157 (by decide +kernel) (by decide +kernel)
theorem im_G_step : Cond.instanceMethod y_G_step ∈ wb := wb_t 159 (by decide +kernel) (by decide +kernel)
theorem co_G_step : Cond.code y_G_step b_G_step 6 none ∈ wb := wb_t 160 (by decide +kernel) (by decide +kernel)
theorem ml_G_114 : Cond.methodLink R_G 114 y_J_maxJ ∈ wb := wb_t 161 (by decide +kernel) (by decide +kernel)
theorem st_J_maxJ : Cond.static y_J_maxJ ∈ wb := wb_t 162 (by decide +kernel) (by decide +kernel)
theorem co_J_maxJ : Cond.code y_J_maxJ b_J_maxJ 4 (some .long) ∈ wb := wb_t 163 (by decide +kernel) (by decide +kernel)
theorem ml_G_53 : Cond.methodLink R_G 53 y_G_turnIntoName ∈ wb := wb_t 164 (by decide +kernel) (by decide +kernel)
theorem im_G_turnIntoName : Cond.instanceMethod y_G_turnIntoName ∈ wb := wb_t 166 (by decide +kernel) (by decide +kernel)
theorem co_G_turnIntoName : Cond.code y_G_turnIntoName b_G_turnIntoName 3 (some .int) ∈ wb := wb_t 167 (by decide +kernel) (by decide +kernel)
theorem im_F_copy : Cond.instanceMethod y_F_copy ∈ wb := wb_t 170 (by decide +kernel) (by decide +kernel)
theorem co_F_copy : Cond.code y_F_copy b_F_copy 2 none ∈ wb := wb_t 171 (by decide +kernel) (by decide +kernel)
theorem ml_F_19 : Cond.methodLink R_F 19 y_F_become ∈ wb := wb_t 172 (by decide +kernel) (by decide +kernel)
theorem im_F_matches : Cond.instanceMethod y_F_matches ∈ wb := wb_t 175 (by decide +kernel) (by decide +kernel)
theorem co_F_matches : Cond.code y_F_matches b_F_matches 2 (some .boolean) ∈ wb := wb_t 176 (by decide +kernel) (by decide +kernel)
theorem im_F_isBefore : Cond.instanceMethod y_F_isBefore ∈ wb := wb_t 179 (by decide +kernel) (by decide +kernel)
theorem co_F_isBefore : Cond.code y_F_isBefore b_F_isBefore 2 (some .boolean) ∈ wb := wb_t 180 (by decide +kernel) (by decide +kernel)
theorem im_P_find : Cond.instanceMethod y_P_find ∈ wb := wb_t 183 (by decide +kernel) (by decide +kernel)
theorem co_P_find : Cond.code y_P_find b_P_find 4 none ∈ wb := wb_t 184 (by decide +kernel) (by decide +kernel)
theorem ml_P_19 : Cond.methodLink R_P 19 y_J_absI ∈ wb := wb_t 185 (by decide +kernel) (by decide +kernel)
theorem st_J_absI : Cond.static y_J_absI ∈ wb := wb_t 186 (by decide +kernel) (by decide +kernel)
theorem co_J_absI : Cond.code y_J_absI b_J_absI 1 (some .int) ∈ wb := wb_t 187 (by decide +kernel) (by decide +kernel)
theorem ml_P_25 : Cond.methodLink R_P 25 y_P_without ∈ wb := wb_t 188 (by decide +kernel) (by decide +kernel)
theorem st_P_without : Cond.static y_P_without ∈ wb := wb_t 189 (by decide +kernel) (by decide +kernel)
theorem co_P_without : Cond.code y_P_without b_P_without 4 (some .int) ∈ wb := wb_t 190 (by decide +kernel) (by decide +kernel)
theorem kc_P_41 : Cond.constant R_P 41 (1000000) ∈ wb := wb_t 191 (by decide +kernel) (by decide +kernel)
theorem ml_P_33 : Cond.methodLink R_P 33 y_P_append ∈ wb := wb_t 194 (by decide +kernel) (by decide +kernel)
theorem im_P_append : Cond.instanceMethod y_P_append ∈ wb := wb_t 196 (by decide +kernel) (by decide +kernel)
theorem co_P_append : Cond.code y_P_append b_P_append 2 none ∈ wb := wb_t 197 (by decide +kernel) (by decide +kernel)
theorem fl_X_10 : Cond.fieldLink R_X 10 "FormComposer" "group" "LFormComposer$Group;" ∈ wb := wb_t 199 (by decide +kernel) (by decide +kernel)
theorem fl_X_19 : Cond.fieldLink R_X 19 "FormComposer" "primes" "LFormComposer$OddPrimes;" ∈ wb := wb_t 200 (by decide +kernel) (by decide +kernel)
theorem fl_X_30 : Cond.fieldLink R_X 30 "FormComposer" "registers" "[LFormComposer$Form;" ∈ wb := wb_t 201 (by decide +kernel) (by decide +kernel)
theorem fl_X_26 : Cond.fieldLink R_X 26 "FormComposer" "hand" "LFormComposer$Form;" ∈ wb := wb_t 202 (by decide +kernel) (by decide +kernel)
theorem ml_L_100 : Cond.methodLink R_L 100 y_X_count ∈ wb := wb_t 212 (by decide +kernel) (by decide +kernel)
theorem im_X_count : Cond.instanceMethod y_X_count ∈ wb := wb_t 213 (by decide +kernel) (by decide +kernel)
theorem se_X_count : Cond.selects R_X y_X_count y_X_count ∈ wb := wb_t 214 (by decide +kernel) (by decide +kernel)
theorem co_X_count : Cond.code y_X_count b_X_count 2 (some .int) ∈ wb := wb_t 215 (by decide +kernel) (by decide +kernel)
theorem ml_L_58 : Cond.methodLink R_L 58 y_L_take ∈ wb := wb_t 217 (by decide +kernel) (by decide +kernel)
theorem st_L_take : Cond.static y_L_take ∈ wb := wb_t 218 (by decide +kernel) (by decide +kernel)
theorem cl_L_13 : Cond.classLink R_L 13 R_IA ∈ wb := wb_t 220 (by decide +kernel) (by decide +kernel)
theorem ml_L_7 : Cond.methodLink R_L 7 y_X_take ∈ wb := wb_t 221 (by decide +kernel) (by decide +kernel)
theorem im_X_take : Cond.instanceMethod y_X_take ∈ wb := wb_t 222 (by decide +kernel) (by decide +kernel)
theorem se_X_take : Cond.selects R_X y_X_take y_X_take ∈ wb := wb_t 223 (by decide +kernel) (by decide +kernel)
theorem co_X_take : Cond.code y_X_take b_X_take 2 none ∈ wb := wb_t 224 (by decide +kernel) (by decide +kernel)
theorem ml_X_38 : Cond.methodLink R_X 38 y_X_isDiscriminant ∈ wb := wb_t 225 (by decide +kernel) (by decide +kernel)
theorem st_X_isDiscriminant : Cond.static y_X_isDiscriminant ∈ wb := wb_t 226 (by decide +kernel) (by decide +kernel)
theorem co_X_isDiscriminant : Cond.code y_X_isDiscriminant b_X_isDiscriminant 2 (some .boolean) ∈ wb := wb_t 227 (by decide +kernel) (by decide +kernel)
theorem kc_X_152 : Cond.constant R_X 152 (-1048576) ∈ wb := wb_t 228 (by decide +kernel) (by decide +kernel)
theorem kc_X_153 : Cond.constant R_X 153 (1048576) ∈ wb := wb_t 229 (by decide +kernel) (by decide +kernel)
theorem ml_X_154 : Cond.methodLink R_X 154 y_J_floorModI ∈ wb := wb_t 230 (by decide +kernel) (by decide +kernel)
theorem st_J_floorModI : Cond.static y_J_floorModI ∈ wb := wb_t 231 (by decide +kernel) (by decide +kernel)
theorem co_J_floorModI : Cond.code y_J_floorModI b_J_floorModI 3 (some .int) ∈ wb := wb_t 232 (by decide +kernel) (by decide +kernel)
theorem ml_X_160 : Cond.methodLink R_X 160 y_X_wholeRoot ∈ wb := wb_t 233 (by decide +kernel) (by decide +kernel)
theorem cl_X_42 : Cond.classLink R_X 42 R_IA ∈ wb := wb_t 234 (by decide +kernel) (by decide +kernel)
theorem ia_IA : Cond.instantiable R_IA 6 ∈ wb := wb_t 235 (by decide +kernel) (by decide +kernel)
theorem fl_TH_198 : Cond.fieldLink R_TH 198 "java/lang/Throwable" "backtrace" "Ljava/lang/Object;" ∈ wb := wb_t 255 (by decide +kernel) (by decide +kernel)
theorem im_TH_initV : Cond.instanceMethod y_TH_initV ∈ wb := wb_t 257 (by decide +kernel) (by decide +kernel)
theorem co_TH_initV : Cond.code y_TH_initV b_TH_initV 1 none ∈ wb := wb_t 258 (by decide +kernel) (by decide +kernel)
theorem ml_TH_1 : Cond.methodLink R_TH 1 y_O_initV ∈ wb := wb_t 259 (by decide +kernel) (by decide +kernel)
theorem fl_TH_13 : Cond.fieldLink R_TH 13 "java/lang/Throwable" "UNASSIGNED_STACK" "[Ljava/lang/StackTraceElement;" ∈ wb := wb_t 260 (by decide +kernel) (by decide +kernel)
theorem fl_TH_20 : Cond.fieldLink R_TH 20 "java/lang/Throwable" "SUPPRESSED_SENTINEL" "Ljava/util/List;" ∈ wb := wb_t 262 (by decide +kernel) (by decide +kernel)
theorem ml_TH_27 : Cond.methodLink R_TH 27 ⟨"java/lang/Throwable", "fillInStackTrace", "()Ljava/lang/Throwable;"⟩ ∈ wb := wb_t 264 (by decide +kernel) (by decide +kernel)
theorem im_TH_fillInStackTraceLjavalang : Cond.instanceMethod ⟨"java/lang/Throwable", "fillInStackTrace", "()Ljava/lang/Throwable;"⟩ ∈ wb := wb_t 265 (by decide +kernel) (by decide +kernel)
theorem ml_TH_202 : Cond.methodLink R_TH 202 ⟨"java/lang/Throwable", "fillInStackTrace", "(I)Ljava/lang/Throwable;"⟩ ∈ wb := wb_t 269 (by decide +kernel) (by decide +kernel)
theorem im_TH_fillInStackTraceILjavalan : Cond.instanceMethod ⟨"java/lang/Throwable", "fillInStackTrace", "(I)Ljava/lang/Throwable;"⟩ ∈ wb := wb_t 271 (by decide +kernel) (by decide +kernel)
theorem ia_TH : Cond.instantiable R_TH 6 ∈ wb := wb_t 272 (by decide +kernel) (by decide +kernel)
theorem ml_X_46 : Cond.methodLink R_X 46 y_IA_initLjavalang ∈ wb := wb_t 275 (by decide +kernel) (by decide +kernel)
theorem im_IA_initLjavalang : Cond.instanceMethod y_IA_initLjavalang ∈ wb := wb_t 276 (by decide +kernel) (by decide +kernel)
theorem co_IA_initLjavalang : Cond.code y_IA_initLjavalang b_IA_initLjavalang 2 none ∈ wb := wb_t 277 (by decide +kernel) (by decide +kernel)
theorem ml_IA_7 : Cond.methodLink R_IA 7 y_RE_initLjavalang ∈ wb := wb_t 278 (by decide +kernel) (by decide +kernel)
theorem im_RE_initLjavalang : Cond.instanceMethod y_RE_initLjavalang ∈ wb := wb_t 279 (by decide +kernel) (by decide +kernel)
theorem co_RE_initLjavalang : Cond.code y_RE_initLjavalang b_RE_initLjavalang 2 none ∈ wb := wb_t 280 (by decide +kernel) (by decide +kernel)
theorem ml_RE_7 : Cond.methodLink R_RE 7 y_EX_initLjavalang ∈ wb := wb_t 281 (by decide +kernel) (by decide +kernel)
theorem im_EX_initLjavalang : Cond.instanceMethod y_EX_initLjavalang ∈ wb := wb_t 282 (by decide +kernel) (by decide +kernel)
theorem co_EX_initLjavalang : Cond.code y_EX_initLjavalang b_EX_initLjavalang 2 none ∈ wb := wb_t 283 (by decide +kernel) (by decide +kernel)
theorem ml_EX_7 : Cond.methodLink R_EX 7 y_TH_initLjavalang ∈ wb := wb_t 284 (by decide +kernel) (by decide +kernel)
theorem im_TH_initLjavalang : Cond.instanceMethod y_TH_initLjavalang ∈ wb := wb_t 285 (by decide +kernel) (by decide +kernel)
theorem co_TH_initLjavalang : Cond.code y_TH_initLjavalang b_TH_initLjavalang 2 none ∈ wb := wb_t 286 (by decide +kernel) (by decide +kernel)
theorem fl_TH_31 : Cond.fieldLink R_TH 31 "java/lang/Throwable" "detailMessage" "Ljava/lang/String;" ∈ wb := wb_t 288 (by decide +kernel) (by decide +kernel)
theorem fl_TH_7 : Cond.fieldLink R_TH 7 "java/lang/Throwable" "cause" "Ljava/lang/Throwable;" ∈ wb := wb_t 289 (by decide +kernel) (by decide +kernel)
theorem fl_TH_17 : Cond.fieldLink R_TH 17 "java/lang/Throwable" "stackTrace" "[Ljava/lang/StackTraceElement;" ∈ wb := wb_t 290 (by decide +kernel) (by decide +kernel)
theorem fl_TH_24 : Cond.fieldLink R_TH 24 "java/lang/Throwable" "suppressedExceptions" "Ljava/util/List;" ∈ wb := wb_t 291 (by decide +kernel) (by decide +kernel)
theorem ac_byte : Cond.arrayClass .byte ∈ wb := wb_t 300 (by decide +kernel) (by decide +kernel)
theorem ml_L_68 : Cond.methodLink R_L 68 y_L_put ∈ wb := wb_t 301 (by decide +kernel) (by decide +kernel)
theorem st_L_put : Cond.static y_L_put ∈ wb := wb_t 302 (by decide +kernel) (by decide +kernel)
theorem cl_L_19 : Cond.classLink R_L 19 R_IO ∈ wb := wb_t 304 (by decide +kernel) (by decide +kernel)
theorem ml_L_15 : Cond.methodLink R_L 15 y_X_put ∈ wb := wb_t 305 (by decide +kernel) (by decide +kernel)
theorem im_X_put : Cond.instanceMethod y_X_put ∈ wb := wb_t 306 (by decide +kernel) (by decide +kernel)
theorem se_X_put : Cond.selects R_X y_X_put y_X_put ∈ wb := wb_t 307 (by decide +kernel) (by decide +kernel)
theorem co_X_put : Cond.code y_X_put b_X_put 6 none ∈ wb := wb_t 308 (by decide +kernel) (by decide +kernel)
theorem ml_X_49 : Cond.methodLink R_X 49 y_X_held ∈ wb := wb_t 309 (by decide +kernel) (by decide +kernel)
theorem im_X_held : Cond.instanceMethod y_X_held ∈ wb := wb_t 311 (by decide +kernel) (by decide +kernel)
theorem co_X_held : Cond.code y_X_held b_X_held 2 (some (.object "FormComposer$Form")) ∈ wb := wb_t 312 (by decide +kernel) (by decide +kernel)
theorem cl_X_94 : Cond.classLink R_X 94 R_IO ∈ wb := wb_t 313 (by decide +kernel) (by decide +kernel)
theorem ia_IO : Cond.instantiable R_IO 6 ∈ wb := wb_t 314 (by decide +kernel) (by decide +kernel)
theorem ml_X_98 : Cond.methodLink R_X 98 y_IO_initLjavalang ∈ wb := wb_t 323 (by decide +kernel) (by decide +kernel)
theorem im_IO_initLjavalang : Cond.instanceMethod y_IO_initLjavalang ∈ wb := wb_t 324 (by decide +kernel) (by decide +kernel)
theorem co_IO_initLjavalang : Cond.code y_IO_initLjavalang b_IO_initLjavalang 2 none ∈ wb := wb_t 325 (by decide +kernel) (by decide +kernel)
theorem ml_IO_7 : Cond.methodLink R_IO 7 y_RE_initLjavalang ∈ wb := wb_t 326 (by decide +kernel) (by decide +kernel)
theorem im_G_canTake : Cond.instanceMethod y_G_canTake ∈ wb := wb_t 331 (by decide +kernel) (by decide +kernel)
theorem co_G_canTake : Cond.code y_G_canTake b_G_canTake 7 (some .boolean) ∈ wb := wb_t 332 (by decide +kernel) (by decide +kernel)
theorem ml_G_57 : Cond.methodLink R_G 57 y_G_isCoefficient ∈ wb := wb_t 333 (by decide +kernel) (by decide +kernel)
theorem st_G_isCoefficient : Cond.static y_G_isCoefficient ∈ wb := wb_t 334 (by decide +kernel) (by decide +kernel)
theorem co_G_isCoefficient : Cond.code y_G_isCoefficient b_G_isCoefficient 2 (some .boolean) ∈ wb := wb_t 335 (by decide +kernel) (by decide +kernel)
theorem kc_G_71 : Cond.constantLong R_G 71 (-1073741824) ∈ wb := wb_t 336 (by decide +kernel) (by decide +kernel)
theorem kc_G_73 : Cond.constantLong R_G 73 (1073741824) ∈ wb := wb_t 337 (by decide +kernel) (by decide +kernel)
theorem im_E_solve : Cond.instanceMethod y_E_solve ∈ wb := wb_t 340 (by decide +kernel) (by decide +kernel)
theorem co_E_solve : Cond.code y_E_solve b_E_solve 20 none ∈ wb := wb_t 341 (by decide +kernel) (by decide +kernel)
theorem kc_E_21 : Cond.constant R_E 21 (1000000) ∈ wb := wb_t 342 (by decide +kernel) (by decide +kernel)
theorem ml_X_67 : Cond.methodLink R_X 67 y_X_storeName ∈ wb := wb_t 347 (by decide +kernel) (by decide +kernel)
theorem im_X_storeName : Cond.instanceMethod y_X_storeName ∈ wb := wb_t 349 (by decide +kernel) (by decide +kernel)
theorem co_X_storeName : Cond.code y_X_storeName b_X_storeName 2 none ∈ wb := wb_t 350 (by decide +kernel) (by decide +kernel)
theorem ml_L_72 : Cond.methodLink R_L 72 y_L_compose ∈ wb := wb_t 351 (by decide +kernel) (by decide +kernel)
theorem st_L_compose : Cond.static y_L_compose ∈ wb := wb_t 352 (by decide +kernel) (by decide +kernel)
theorem ml_L_21 : Cond.methodLink R_L 21 y_X_compose ∈ wb := wb_t 354 (by decide +kernel) (by decide +kernel)
theorem im_X_compose : Cond.instanceMethod y_X_compose ∈ wb := wb_t 355 (by decide +kernel) (by decide +kernel)
theorem se_X_compose : Cond.selects R_X y_X_compose y_X_compose ∈ wb := wb_t 356 (by decide +kernel) (by decide +kernel)
theorem co_X_compose : Cond.code y_X_compose b_X_compose 7 none ∈ wb := wb_t 357 (by decide +kernel) (by decide +kernel)
theorem im_G_multiply : Cond.instanceMethod y_G_multiply ∈ wb := wb_t 360 (by decide +kernel) (by decide +kernel)
theorem co_G_multiply : Cond.code y_G_multiply b_G_multiply 15 none ∈ wb := wb_t 361 (by decide +kernel) (by decide +kernel)
theorem ml_L_76 : Cond.methodLink R_L 76 y_L_invert ∈ wb := wb_t 362 (by decide +kernel) (by decide +kernel)
theorem st_L_invert : Cond.static y_L_invert ∈ wb := wb_t 363 (by decide +kernel) (by decide +kernel)
theorem ml_L_25 : Cond.methodLink R_L 25 y_X_invert ∈ wb := wb_t 365 (by decide +kernel) (by decide +kernel)
theorem im_X_invert : Cond.instanceMethod y_X_invert ∈ wb := wb_t 366 (by decide +kernel) (by decide +kernel)
theorem se_X_invert : Cond.selects R_X y_X_invert y_X_invert ∈ wb := wb_t 367 (by decide +kernel) (by decide +kernel)
theorem co_X_invert : Cond.code y_X_invert b_X_invert 4 none ∈ wb := wb_t 368 (by decide +kernel) (by decide +kernel)
theorem im_G_turn : Cond.instanceMethod y_G_turn ∈ wb := wb_t 371 (by decide +kernel) (by decide +kernel)
theorem co_G_turn : Cond.code y_G_turn b_G_turn 2 none ∈ wb := wb_t 372 (by decide +kernel) (by decide +kernel)
theorem ml_L_82 : Cond.methodLink R_L 82 y_L_power ∈ wb := wb_t 373 (by decide +kernel) (by decide +kernel)
theorem st_L_power : Cond.static y_L_power ∈ wb := wb_t 374 (by decide +kernel) (by decide +kernel)
theorem ml_L_29 : Cond.methodLink R_L 29 y_X_power ∈ wb := wb_t 376 (by decide +kernel) (by decide +kernel)
theorem im_X_power : Cond.instanceMethod y_X_power ∈ wb := wb_t 377 (by decide +kernel) (by decide +kernel)
theorem se_X_power : Cond.selects R_X y_X_power y_X_power ∈ wb := wb_t 378 (by decide +kernel) (by decide +kernel)
theorem co_X_power : Cond.code y_X_power b_X_power 6 none ∈ wb := wb_t 379 (by decide +kernel) (by decide +kernel)
theorem im_G_raise : Cond.instanceMethod y_G_raise ∈ wb := wb_t 382 (by decide +kernel) (by decide +kernel)
theorem co_G_raise : Cond.code y_G_raise b_G_raise 7 none ∈ wb := wb_t 383 (by decide +kernel) (by decide +kernel)
theorem ml_G_132 : Cond.methodLink R_G 132 y_G_turn ∈ wb := wb_t 384 (by decide +kernel) (by decide +kernel)
theorem ml_G_135 : Cond.methodLink R_G 135 y_G_multiply ∈ wb := wb_t 385 (by decide +kernel) (by decide +kernel)
theorem ml_L_86 : Cond.methodLink R_L 86 y_L_form ∈ wb := wb_t 386 (by decide +kernel) (by decide +kernel)
theorem st_L_form : Cond.static y_L_form ∈ wb := wb_t 387 (by decide +kernel) (by decide +kernel)
theorem ml_L_33 : Cond.methodLink R_L 33 y_X_form ∈ wb := wb_t 389 (by decide +kernel) (by decide +kernel)
theorem im_X_form : Cond.instanceMethod y_X_form ∈ wb := wb_t 390 (by decide +kernel) (by decide +kernel)
theorem se_X_form : Cond.selects R_X y_X_form y_X_form ∈ wb := wb_t 391 (by decide +kernel) (by decide +kernel)
theorem co_X_form : Cond.code y_X_form b_X_form 4 (some .int) ∈ wb := wb_t 392 (by decide +kernel) (by decide +kernel)
theorem ml_L_90 : Cond.methodLink R_L 90 y_L_same ∈ wb := wb_t 394 (by decide +kernel) (by decide +kernel)
theorem st_L_same : Cond.static y_L_same ∈ wb := wb_t 395 (by decide +kernel) (by decide +kernel)
theorem ml_L_37 : Cond.methodLink R_L 37 y_X_same ∈ wb := wb_t 397 (by decide +kernel) (by decide +kernel)
theorem im_X_same : Cond.instanceMethod y_X_same ∈ wb := wb_t 398 (by decide +kernel) (by decide +kernel)
theorem se_X_same : Cond.selects R_X y_X_same y_X_same ∈ wb := wb_t 399 (by decide +kernel) (by decide +kernel)
theorem co_X_same : Cond.code y_X_same b_X_same 4 (some .boolean) ∈ wb := wb_t 400 (by decide +kernel) (by decide +kernel)
theorem ml_L_93 : Cond.methodLink R_L 93 y_L_order ∈ wb := wb_t 402 (by decide +kernel) (by decide +kernel)
theorem st_L_order : Cond.static y_L_order ∈ wb := wb_t 403 (by decide +kernel) (by decide +kernel)
theorem ml_L_41 : Cond.methodLink R_L 41 y_X_order ∈ wb := wb_t 405 (by decide +kernel) (by decide +kernel)
theorem im_X_order : Cond.instanceMethod y_X_order ∈ wb := wb_t 406 (by decide +kernel) (by decide +kernel)
theorem se_X_order : Cond.selects R_X y_X_order y_X_order ∈ wb := wb_t 407 (by decide +kernel) (by decide +kernel)
theorem co_X_order : Cond.code y_X_order b_X_order 2 (some .int) ∈ wb := wb_t 408 (by decide +kernel) (by decide +kernel)
theorem im_G_orderOf : Cond.instanceMethod y_G_orderOf ∈ wb := wb_t 411 (by decide +kernel) (by decide +kernel)
theorem co_G_orderOf : Cond.code y_G_orderOf b_G_orderOf 3 (some .int) ∈ wb := wb_t 412 (by decide +kernel) (by decide +kernel)
theorem ml_L_97 : Cond.methodLink R_L 97 y_L_exponent ∈ wb := wb_t 413 (by decide +kernel) (by decide +kernel)
theorem st_L_exponent : Cond.static y_L_exponent ∈ wb := wb_t 414 (by decide +kernel) (by decide +kernel)
theorem ml_L_45 : Cond.methodLink R_L 45 y_X_exponent ∈ wb := wb_t 416 (by decide +kernel) (by decide +kernel)
theorem im_X_exponent : Cond.instanceMethod y_X_exponent ∈ wb := wb_t 417 (by decide +kernel) (by decide +kernel)
theorem se_X_exponent : Cond.selects R_X y_X_exponent y_X_exponent ∈ wb := wb_t 418 (by decide +kernel) (by decide +kernel)
theorem co_X_exponent : Cond.code y_X_exponent b_X_exponent 4 (some .int) ∈ wb := wb_t 419 (by decide +kernel) (by decide +kernel)
theorem im_G_exponentOf : Cond.instanceMethod y_G_exponentOf ∈ wb := wb_t 422 (by decide +kernel) (by decide +kernel)
theorem co_G_exponentOf : Cond.code y_G_exponentOf b_G_exponentOf 4 (some .int) ∈ wb := wb_t 423 (by decide +kernel) (by decide +kernel)
theorem ml_L_104 : Cond.methodLink R_L 104 y_L_prime ∈ wb := wb_t 424 (by decide +kernel) (by decide +kernel)
theorem st_L_prime : Cond.static y_L_prime ∈ wb := wb_t 425 (by decide +kernel) (by decide +kernel)
theorem ml_L_48 : Cond.methodLink R_L 48 y_X_prime ∈ wb := wb_t 427 (by decide +kernel) (by decide +kernel)
theorem im_X_prime : Cond.instanceMethod y_X_prime ∈ wb := wb_t 428 (by decide +kernel) (by decide +kernel)
theorem se_X_prime : Cond.selects R_X y_X_prime y_X_prime ∈ wb := wb_t 429 (by decide +kernel) (by decide +kernel)
theorem co_X_prime : Cond.code y_X_prime b_X_prime 2 (some .int) ∈ wb := wb_t 430 (by decide +kernel) (by decide +kernel)
theorem im_P_has : Cond.instanceMethod y_P_has ∈ wb := wb_t 433 (by decide +kernel) (by decide +kernel)
theorem co_P_has : Cond.code y_P_has b_P_has 2 (some .boolean) ∈ wb := wb_t 434 (by decide +kernel) (by decide +kernel)
theorem im_P_at : Cond.instanceMethod y_P_at ∈ wb := wb_t 438 (by decide +kernel) (by decide +kernel)
theorem co_P_at : Cond.code y_P_at b_P_at 2 (some .int) ∈ wb := wb_t 439 (by decide +kernel) (by decide +kernel)
theorem ml_P_37 : Cond.methodLink R_P 37 y_P_has ∈ wb := wb_t 440 (by decide +kernel) (by decide +kernel)
theorem ml_L_107 : Cond.methodLink R_L 107 y_L_character ∈ wb := wb_t 441 (by decide +kernel) (by decide +kernel)
theorem st_L_character : Cond.static y_L_character ∈ wb := wb_t 442 (by decide +kernel) (by decide +kernel)
theorem ml_L_51 : Cond.methodLink R_L 51 y_X_character ∈ wb := wb_t 444 (by decide +kernel) (by decide +kernel)
theorem im_X_character : Cond.instanceMethod y_X_character ∈ wb := wb_t 445 (by decide +kernel) (by decide +kernel)
theorem se_X_character : Cond.selects R_X y_X_character y_X_character ∈ wb := wb_t 446 (by decide +kernel) (by decide +kernel)
theorem co_X_character : Cond.code y_X_character b_X_character 7 (some .int) ∈ wb := wb_t 447 (by decide +kernel) (by decide +kernel)
theorem ml_X_133 : Cond.methodLink R_X 133 y_X_remainder ∈ wb := wb_t 448 (by decide +kernel) (by decide +kernel)
theorem ml_X_137 : Cond.methodLink R_X 137 y_X_isLikeSquare ∈ wb := wb_t 449 (by decide +kernel) (by decide +kernel)
theorem st_X_isLikeSquare : Cond.static y_X_isLikeSquare ∈ wb := wb_t 450 (by decide +kernel) (by decide +kernel)
theorem co_X_isLikeSquare : Cond.code y_X_isLikeSquare b_X_isLikeSquare 9 (some .boolean) ∈ wb := wb_t 451 (by decide +kernel) (by decide +kernel)
theorem cl_L_55 : Cond.classLink R_L 55 R_M ∈ wb := wb_t 452 (by decide +kernel) (by decide +kernel)
theorem ia_M : Cond.instantiable R_M 11 ∈ wb := wb_t 453 (by decide +kernel) (by decide +kernel)
theorem ml_L_57 : Cond.methodLink R_L 57 y_M_init ∈ wb := wb_t 454 (by decide +kernel) (by decide +kernel)
theorem im_M_init : Cond.instanceMethod y_M_init ∈ wb := wb_t 455 (by decide +kernel) (by decide +kernel)
theorem co_M_init : Cond.code y_M_init b_M_init 1 none ∈ wb := wb_t 456 (by decide +kernel) (by decide +kernel)
theorem ml_M_1 : Cond.methodLink R_M 1 y_O_initV ∈ wb := wb_t 457 (by decide +kernel) (by decide +kernel)
theorem kc_M_7 : Cond.constantLong R_M 7 (-4) ∈ wb := wb_t 458 (by decide +kernel) (by decide +kernel)
theorem kc_M_15 : Cond.constantLong R_M 15 (-1) ∈ wb := wb_t 459 (by decide +kernel) (by decide +kernel)
theorem ml_M_33 : Cond.methodLink R_M 33 y_M_begin ∈ wb := wb_t 460 (by decide +kernel) (by decide +kernel)
theorem im_M_begin : Cond.instanceMethod y_M_begin ∈ wb := wb_t 462 (by decide +kernel) (by decide +kernel)
theorem co_M_begin : Cond.code y_M_begin b_M_begin 7 none ∈ wb := wb_t 463 (by decide +kernel) (by decide +kernel)
theorem ml_M_45 : Cond.methodLink R_M 45 y_M_rootOf ∈ wb := wb_t 464 (by decide +kernel) (by decide +kernel)
theorem st_M_rootOf : Cond.static y_M_rootOf ∈ wb := wb_t 465 (by decide +kernel) (by decide +kernel)
theorem co_M_rootOf : Cond.code y_M_rootOf b_M_rootOf 4 (some .long) ∈ wb := wb_t 466 (by decide +kernel) (by decide +kernel)
theorem ml_M_41 : Cond.methodLink R_M 41 y_M_size ∈ wb := wb_t 467 (by decide +kernel) (by decide +kernel)
theorem st_M_size : Cond.static y_M_size ∈ wb := wb_t 468 (by decide +kernel) (by decide +kernel)
theorem co_M_size : Cond.code y_M_size b_M_size 2 (some .long) ∈ wb := wb_t 469 (by decide +kernel) (by decide +kernel)
theorem kc_M_51 : Cond.constantLong R_M 51 (3) ∈ wb := wb_t 470 (by decide +kernel) (by decide +kernel)
theorem kc_M_53 : Cond.constantLong R_M 53 (2) ∈ wb := wb_t 471 (by decide +kernel) (by decide +kernel)
theorem ml_M_55 : Cond.methodLink R_M 55 y_M_keepOne ∈ wb := wb_t 472 (by decide +kernel) (by decide +kernel)
theorem im_M_keepOne : Cond.instanceMethod y_M_keepOne ∈ wb := wb_t 474 (by decide +kernel) (by decide +kernel)
theorem co_M_keepOne : Cond.code y_M_keepOne b_M_keepOne 2 none ∈ wb := wb_t 475 (by decide +kernel) (by decide +kernel)
theorem ml_M_85 : Cond.methodLink R_M 85 y_M_one ∈ wb := wb_t 476 (by decide +kernel) (by decide +kernel)
theorem im_M_one : Cond.instanceMethod y_M_one ∈ wb := wb_t 478 (by decide +kernel) (by decide +kernel)
theorem co_M_one : Cond.code y_M_one b_M_one 1 none ∈ wb := wb_t 479 (by decide +kernel) (by decide +kernel)
theorem ml_M_69 : Cond.methodLink R_M 69 y_M_rest ∈ wb := wb_t 480 (by decide +kernel) (by decide +kernel)
theorem st_M_rest : Cond.static y_M_rest ∈ wb := wb_t 481 (by decide +kernel) (by decide +kernel)
theorem co_M_rest : Cond.code y_M_rest b_M_rest 6 (some .long) ∈ wb := wb_t 482 (by decide +kernel) (by decide +kernel)
theorem kc_M_67 : Cond.constantLong R_M 67 (4) ∈ wb := wb_t 483 (by decide +kernel) (by decide +kernel)
theorem ml_M_82 : Cond.methodLink R_M 82 y_M_toName ∈ wb := wb_t 484 (by decide +kernel) (by decide +kernel)
theorem im_M_toName : Cond.instanceMethod y_M_toName ∈ wb := wb_t 486 (by decide +kernel) (by decide +kernel)
theorem co_M_toName : Cond.code y_M_toName b_M_toName 10 none ∈ wb := wb_t 487 (by decide +kernel) (by decide +kernel)
theorem ml_M_91 : Cond.methodLink R_M 91 y_M_isReduced ∈ wb := wb_t 488 (by decide +kernel) (by decide +kernel)
theorem im_M_isReduced : Cond.instanceMethod y_M_isReduced ∈ wb := wb_t 490 (by decide +kernel) (by decide +kernel)
theorem co_M_isReduced : Cond.code y_M_isReduced b_M_isReduced 1 (some .boolean) ∈ wb := wb_t 491 (by decide +kernel) (by decide +kernel)
theorem ml_M_95 : Cond.methodLink R_M 95 y_M_step ∈ wb := wb_t 492 (by decide +kernel) (by decide +kernel)
theorem im_M_step : Cond.instanceMethod y_M_step ∈ wb := wb_t 494 (by decide +kernel) (by decide +kernel)
theorem co_M_step : Cond.code y_M_step b_M_step 9 none ∈ wb := wb_t 495 (by decide +kernel) (by decide +kernel)
theorem ml_M_88 : Cond.methodLink R_M 88 y_M_keep ∈ wb := wb_t 496 (by decide +kernel) (by decide +kernel)
theorem im_M_keep : Cond.instanceMethod y_M_keep ∈ wb := wb_t 498 (by decide +kernel) (by decide +kernel)
theorem co_M_keep : Cond.code y_M_keep b_M_keep 2 none ∈ wb := wb_t 499 (by decide +kernel) (by decide +kernel)
theorem fl_M_37 : Cond.fieldLink R_M 37 "FormComposerModel" "code" "I" ∈ wb := wb_t 500 (by decide +kernel) (by decide +kernel)
theorem fl_M_9 : Cond.fieldLink R_M 9 "FormComposerModel" "d" "J" ∈ wb := wb_t 501 (by decide +kernel) (by decide +kernel)
theorem fl_M_17 : Cond.fieldLink R_M 17 "FormComposerModel" "w" "J" ∈ wb := wb_t 502 (by decide +kernel) (by decide +kernel)
theorem fl_M_20 : Cond.fieldLink R_M 20 "FormComposerModel" "firsts" "[J" ∈ wb := wb_t 503 (by decide +kernel) (by decide +kernel)
theorem fl_M_24 : Cond.fieldLink R_M 24 "FormComposerModel" "middles" "[J" ∈ wb := wb_t 504 (by decide +kernel) (by decide +kernel)
theorem fl_M_27 : Cond.fieldLink R_M 27 "FormComposerModel" "lasts" "[J" ∈ wb := wb_t 505 (by decide +kernel) (by decide +kernel)
theorem fl_M_73 : Cond.fieldLink R_M 73 "FormComposerModel" "a" "J" ∈ wb := wb_t 506 (by decide +kernel) (by decide +kernel)
theorem fl_M_76 : Cond.fieldLink R_M 76 "FormComposerModel" "b" "J" ∈ wb := wb_t 507 (by decide +kernel) (by decide +kernel)
theorem fl_M_79 : Cond.fieldLink R_M 79 "FormComposerModel" "c" "J" ∈ wb := wb_t 508 (by decide +kernel) (by decide +kernel)
theorem fl_M_48 : Cond.fieldLink R_M 48 "FormComposerModel" "primes" "I" ∈ wb := wb_t 509 (by decide +kernel) (by decide +kernel)
theorem fl_M_30 : Cond.fieldLink R_M 30 "FormComposerModel" "prime" "[J" ∈ wb := wb_t 510 (by decide +kernel) (by decide +kernel)
theorem ac_long : Cond.arrayClass .long ∈ wb := wb_t 534 (by decide +kernel) (by decide +kernel)
theorem ml_L_64 : Cond.methodLink R_L 64 y_M_thrown ∈ wb := wb_t 535 (by decide +kernel) (by decide +kernel)
theorem im_M_thrown : Cond.instanceMethod y_M_thrown ∈ wb := wb_t 536 (by decide +kernel) (by decide +kernel)
theorem se_M_thrown : Cond.selects R_M y_M_thrown y_M_thrown ∈ wb := wb_t 537 (by decide +kernel) (by decide +kernel)
theorem co_M_thrown : Cond.code y_M_thrown b_M_thrown 1 (some .int) ∈ wb := wb_t 538 (by decide +kernel) (by decide +kernel)
theorem ml_L_63 : Cond.methodLink R_L 63 y_M_take ∈ wb := wb_t 539 (by decide +kernel) (by decide +kernel)
theorem im_M_take : Cond.instanceMethod y_M_take ∈ wb := wb_t 540 (by decide +kernel) (by decide +kernel)
theorem se_M_take : Cond.selects R_M y_M_take y_M_take ∈ wb := wb_t 541 (by decide +kernel) (by decide +kernel)
theorem co_M_take : Cond.code y_M_take b_M_take 4 none ∈ wb := wb_t 542 (by decide +kernel) (by decide +kernel)
theorem kc_M_59 : Cond.constantLong R_M 59 (-1048576) ∈ wb := wb_t 543 (by decide +kernel) (by decide +kernel)
theorem kc_M_61 : Cond.constantLong R_M 61 (1048576) ∈ wb := wb_t 544 (by decide +kernel) (by decide +kernel)
theorem ml_M_63 : Cond.methodLink R_M 63 y_M_in ∈ wb := wb_t 545 (by decide +kernel) (by decide +kernel)
theorem st_M_in : Cond.static y_M_in ∈ wb := wb_t 546 (by decide +kernel) (by decide +kernel)
theorem co_M_in : Cond.code y_M_in b_M_in 6 (some .boolean) ∈ wb := wb_t 547 (by decide +kernel) (by decide +kernel)
theorem ml_L_71 : Cond.methodLink R_L 71 y_M_put ∈ wb := wb_t 548 (by decide +kernel) (by decide +kernel)
theorem im_M_put : Cond.instanceMethod y_M_put ∈ wb := wb_t 549 (by decide +kernel) (by decide +kernel)
theorem se_M_put : Cond.selects R_M y_M_put y_M_put ∈ wb := wb_t 550 (by decide +kernel) (by decide +kernel)
theorem co_M_put : Cond.code y_M_put b_M_put 7 none ∈ wb := wb_t 551 (by decide +kernel) (by decide +kernel)
theorem kc_M_101 : Cond.constantLong R_M 101 (7) ∈ wb := wb_t 552 (by decide +kernel) (by decide +kernel)
theorem kc_M_103 : Cond.constantLong R_M 103 (-1073741824) ∈ wb := wb_t 553 (by decide +kernel) (by decide +kernel)
theorem kc_M_105 : Cond.constantLong R_M 105 (1073741824) ∈ wb := wb_t 554 (by decide +kernel) (by decide +kernel)
theorem ml_M_107 : Cond.methodLink R_M 107 y_M_common ∈ wb := wb_t 555 (by decide +kernel) (by decide +kernel)
theorem st_M_common : Cond.static y_M_common ∈ wb := wb_t 556 (by decide +kernel) (by decide +kernel)
theorem co_M_common : Cond.code y_M_common b_M_common 10 (some .long) ∈ wb := wb_t 557 (by decide +kernel) (by decide +kernel)
theorem ml_L_75 : Cond.methodLink R_L 75 y_M_compose ∈ wb := wb_t 558 (by decide +kernel) (by decide +kernel)
theorem im_M_compose : Cond.instanceMethod y_M_compose ∈ wb := wb_t 559 (by decide +kernel) (by decide +kernel)
theorem se_M_compose : Cond.selects R_M y_M_compose y_M_compose ∈ wb := wb_t 560 (by decide +kernel) (by decide +kernel)
theorem co_M_compose : Cond.code y_M_compose b_M_compose 4 none ∈ wb := wb_t 561 (by decide +kernel) (by decide +kernel)
theorem ml_M_122 : Cond.methodLink R_M 122 y_M_isRegister ∈ wb := wb_t 562 (by decide +kernel) (by decide +kernel)
theorem st_M_isRegister : Cond.static y_M_isRegister ∈ wb := wb_t 563 (by decide +kernel) (by decide +kernel)
theorem co_M_isRegister : Cond.code y_M_isRegister b_M_isRegister 1 (some .boolean) ∈ wb := wb_t 564 (by decide +kernel) (by decide +kernel)
theorem ml_M_98 : Cond.methodLink R_M 98 y_M_load ∈ wb := wb_t 565 (by decide +kernel) (by decide +kernel)
theorem im_M_load : Cond.instanceMethod y_M_load ∈ wb := wb_t 567 (by decide +kernel) (by decide +kernel)
theorem co_M_load : Cond.code y_M_load b_M_load 2 none ∈ wb := wb_t 568 (by decide +kernel) (by decide +kernel)
theorem ml_M_126 : Cond.methodLink R_M 126 y_M_times ∈ wb := wb_t 569 (by decide +kernel) (by decide +kernel)
theorem im_M_times : Cond.instanceMethod y_M_times ∈ wb := wb_t 571 (by decide +kernel) (by decide +kernel)
theorem co_M_times : Cond.code y_M_times b_M_times 16 none ∈ wb := wb_t 572 (by decide +kernel) (by decide +kernel)
theorem ml_M_116 : Cond.methodLink R_M 116 y_M_freeOf ∈ wb := wb_t 573 (by decide +kernel) (by decide +kernel)
theorem im_M_freeOf : Cond.instanceMethod y_M_freeOf ∈ wb := wb_t 575 (by decide +kernel) (by decide +kernel)
theorem co_M_freeOf : Cond.code y_M_freeOf b_M_freeOf 13 none ∈ wb := wb_t 576 (by decide +kernel) (by decide +kernel)
theorem ml_M_110 : Cond.methodLink R_M 110 y_M_slide ∈ wb := wb_t 577 (by decide +kernel) (by decide +kernel)
theorem im_M_slide : Cond.instanceMethod y_M_slide ∈ wb := wb_t 579 (by decide +kernel) (by decide +kernel)
theorem co_M_slide : Cond.code y_M_slide b_M_slide 3 none ∈ wb := wb_t 580 (by decide +kernel) (by decide +kernel)
theorem ml_M_113 : Cond.methodLink R_M 113 y_M_turn ∈ wb := wb_t 581 (by decide +kernel) (by decide +kernel)
theorem im_M_turn : Cond.instanceMethod y_M_turn ∈ wb := wb_t 583 (by decide +kernel) (by decide +kernel)
theorem co_M_turn : Cond.code y_M_turn b_M_turn 3 none ∈ wb := wb_t 584 (by decide +kernel) (by decide +kernel)
theorem ml_M_119 : Cond.methodLink R_M 119 y_M_inverse ∈ wb := wb_t 585 (by decide +kernel) (by decide +kernel)
theorem st_M_inverse : Cond.static y_M_inverse ∈ wb := wb_t 586 (by decide +kernel) (by decide +kernel)
theorem co_M_inverse : Cond.code y_M_inverse b_M_inverse 16 (some .long) ∈ wb := wb_t 587 (by decide +kernel) (by decide +kernel)
theorem ml_L_79 : Cond.methodLink R_L 79 y_M_invert ∈ wb := wb_t 588 (by decide +kernel) (by decide +kernel)
theorem im_M_invert : Cond.instanceMethod y_M_invert ∈ wb := wb_t 589 (by decide +kernel) (by decide +kernel)
theorem se_M_invert : Cond.selects R_M y_M_invert y_M_invert ∈ wb := wb_t 590 (by decide +kernel) (by decide +kernel)
theorem co_M_invert : Cond.code y_M_invert b_M_invert 3 none ∈ wb := wb_t 591 (by decide +kernel) (by decide +kernel)
theorem ml_L_85 : Cond.methodLink R_L 85 y_M_power ∈ wb := wb_t 592 (by decide +kernel) (by decide +kernel)
theorem im_M_power : Cond.instanceMethod y_M_power ∈ wb := wb_t 593 (by decide +kernel) (by decide +kernel)
theorem se_M_power : Cond.selects R_M y_M_power y_M_power ∈ wb := wb_t 594 (by decide +kernel) (by decide +kernel)
theorem co_M_power : Cond.code y_M_power b_M_power 7 none ∈ wb := wb_t 595 (by decide +kernel) (by decide +kernel)
theorem ml_M_132 : Cond.methodLink R_M 132 y_M_orderOf ∈ wb := wb_t 596 (by decide +kernel) (by decide +kernel)
theorem im_M_orderOf : Cond.instanceMethod y_M_orderOf ∈ wb := wb_t 598 (by decide +kernel) (by decide +kernel)
theorem co_M_orderOf : Cond.code y_M_orderOf b_M_orderOf 3 (some .int) ∈ wb := wb_t 599 (by decide +kernel) (by decide +kernel)
theorem ml_M_129 : Cond.methodLink R_M 129 y_M_isOne ∈ wb := wb_t 600 (by decide +kernel) (by decide +kernel)
theorem im_M_isOne : Cond.instanceMethod y_M_isOne ∈ wb := wb_t 602 (by decide +kernel) (by decide +kernel)
theorem co_M_isOne : Cond.code y_M_isOne b_M_isOne 8 (some .boolean) ∈ wb := wb_t 603 (by decide +kernel) (by decide +kernel)
theorem ml_L_89 : Cond.methodLink R_L 89 y_M_form ∈ wb := wb_t 604 (by decide +kernel) (by decide +kernel)
theorem im_M_form : Cond.instanceMethod y_M_form ∈ wb := wb_t 605 (by decide +kernel) (by decide +kernel)
theorem se_M_form : Cond.selects R_M y_M_form y_M_form ∈ wb := wb_t 606 (by decide +kernel) (by decide +kernel)
theorem co_M_form : Cond.code y_M_form b_M_form 3 (some .int) ∈ wb := wb_t 607 (by decide +kernel) (by decide +kernel)
theorem ml_L_92 : Cond.methodLink R_L 92 y_M_same ∈ wb := wb_t 608 (by decide +kernel) (by decide +kernel)
theorem im_M_same : Cond.instanceMethod y_M_same ∈ wb := wb_t 609 (by decide +kernel) (by decide +kernel)
theorem se_M_same : Cond.selects R_M y_M_same y_M_same ∈ wb := wb_t 610 (by decide +kernel) (by decide +kernel)
theorem co_M_same : Cond.code y_M_same b_M_same 3 (some .boolean) ∈ wb := wb_t 611 (by decide +kernel) (by decide +kernel)
theorem ml_M_136 : Cond.methodLink R_M 136 y_M_isAt ∈ wb := wb_t 612 (by decide +kernel) (by decide +kernel)
theorem im_M_isAt : Cond.instanceMethod y_M_isAt ∈ wb := wb_t 614 (by decide +kernel) (by decide +kernel)
theorem co_M_isAt : Cond.code y_M_isAt b_M_isAt 2 (some .boolean) ∈ wb := wb_t 615 (by decide +kernel) (by decide +kernel)
theorem ml_L_96 : Cond.methodLink R_L 96 y_M_order ∈ wb := wb_t 616 (by decide +kernel) (by decide +kernel)
theorem im_M_order : Cond.instanceMethod y_M_order ∈ wb := wb_t 617 (by decide +kernel) (by decide +kernel)
theorem se_M_order : Cond.selects R_M y_M_order y_M_order ∈ wb := wb_t 618 (by decide +kernel) (by decide +kernel)
theorem co_M_order : Cond.code y_M_order b_M_order 2 (some .int) ∈ wb := wb_t 619 (by decide +kernel) (by decide +kernel)
theorem ml_L_99 : Cond.methodLink R_L 99 y_M_exponent ∈ wb := wb_t 620 (by decide +kernel) (by decide +kernel)
theorem im_M_exponent : Cond.instanceMethod y_M_exponent ∈ wb := wb_t 621 (by decide +kernel) (by decide +kernel)
theorem se_M_exponent : Cond.selects R_M y_M_exponent y_M_exponent ∈ wb := wb_t 622 (by decide +kernel) (by decide +kernel)
theorem co_M_exponent : Cond.code y_M_exponent b_M_exponent 5 (some .int) ∈ wb := wb_t 623 (by decide +kernel) (by decide +kernel)
theorem ml_L_103 : Cond.methodLink R_L 103 y_M_count ∈ wb := wb_t 624 (by decide +kernel) (by decide +kernel)
theorem im_M_count : Cond.instanceMethod y_M_count ∈ wb := wb_t 625 (by decide +kernel) (by decide +kernel)
theorem se_M_count : Cond.selects R_M y_M_count y_M_count ∈ wb := wb_t 626 (by decide +kernel) (by decide +kernel)
theorem co_M_count : Cond.code y_M_count b_M_count 2 (some .int) ∈ wb := wb_t 627 (by decide +kernel) (by decide +kernel)
theorem ml_M_139 : Cond.methodLink R_M 139 y_M_formsOf ∈ wb := wb_t 628 (by decide +kernel) (by decide +kernel)
theorem im_M_formsOf : Cond.instanceMethod y_M_formsOf ∈ wb := wb_t 630 (by decide +kernel) (by decide +kernel)
theorem co_M_formsOf : Cond.code y_M_formsOf b_M_formsOf 3 (some .int) ∈ wb := wb_t 631 (by decide +kernel) (by decide +kernel)
theorem ml_L_106 : Cond.methodLink R_L 106 y_M_prime ∈ wb := wb_t 632 (by decide +kernel) (by decide +kernel)
theorem im_M_prime : Cond.instanceMethod y_M_prime ∈ wb := wb_t 633 (by decide +kernel) (by decide +kernel)
theorem se_M_prime : Cond.selects R_M y_M_prime y_M_prime ∈ wb := wb_t 634 (by decide +kernel) (by decide +kernel)
theorem co_M_prime : Cond.code y_M_prime b_M_prime 2 (some .int) ∈ wb := wb_t 635 (by decide +kernel) (by decide +kernel)
theorem ml_L_109 : Cond.methodLink R_L 109 y_M_character ∈ wb := wb_t 636 (by decide +kernel) (by decide +kernel)
theorem im_M_character : Cond.instanceMethod y_M_character ∈ wb := wb_t 637 (by decide +kernel) (by decide +kernel)
theorem se_M_character : Cond.selects R_M y_M_character y_M_character ∈ wb := wb_t 638 (by decide +kernel) (by decide +kernel)
theorem co_M_character : Cond.code y_M_character b_M_character 3 (some .int) ∈ wb := wb_t 639 (by decide +kernel) (by decide +kernel)
theorem ml_M_142 : Cond.methodLink R_M 142 y_M_isSquare ∈ wb := wb_t 640 (by decide +kernel) (by decide +kernel)
theorem st_M_isSquare : Cond.static y_M_isSquare ∈ wb := wb_t 641 (by decide +kernel) (by decide +kernel)
theorem co_M_isSquare : Cond.code y_M_isSquare b_M_isSquare 8 (some .boolean) ∈ wb := wb_t 642 (by decide +kernel) (by decide +kernel)
theorem kc_L_80 : Cond.constantLong R_L 80 (4294967295) ∈ wb := wb_t 643 (by decide +kernel) (by decide +kernel)
theorem se_X_begin : Cond.selects R_X y_X_begin y_X_begin ∈ wb := wb_s 0 (by decide +kernel) (by decide +kernel)
theorem se_G_settle : Cond.selects R_G y_G_settle y_G_settle ∈ wb := wb_s 1 (by decide +kernel) (by decide +kernel)
theorem se_G_becomeFrom : Cond.selects R_G y_G_becomeFrom y_G_becomeFrom ∈ wb := wb_s 2 (by decide +kernel) (by decide +kernel)
theorem se_F_become : Cond.selects R_F y_F_become y_F_become ∈ wb := wb_s 3 (by decide +kernel) (by decide +kernel)
theorem se_G_reduce : Cond.selects R_G y_G_reduce y_G_reduce ∈ wb := wb_s 4 (by decide +kernel) (by decide +kernel)
theorem se_G_reduceBelow : Cond.selects R_G y_G_reduceBelow y_G_reduceBelow ∈ wb := wb_s 5 (by decide +kernel) (by decide +kernel)
theorem se_G_isReducedAbove : Cond.selects R_G y_G_isReducedAbove y_G_isReducedAbove ∈ wb := wb_s 6 (by decide +kernel) (by decide +kernel)
theorem se_G_step : Cond.selects R_G y_G_step y_G_step ∈ wb := wb_s 7 (by decide +kernel) (by decide +kernel)
theorem se_G_turnIntoName : Cond.selects R_G y_G_turnIntoName y_G_turnIntoName ∈ wb := wb_s 8 (by decide +kernel) (by decide +kernel)
theorem se_F_copy : Cond.selects R_F y_F_copy y_F_copy ∈ wb := wb_s 9 (by decide +kernel) (by decide +kernel)
theorem se_F_matches : Cond.selects R_F y_F_matches y_F_matches ∈ wb := wb_s 10 (by decide +kernel) (by decide +kernel)
theorem se_F_isBefore : Cond.selects R_F y_F_isBefore y_F_isBefore ∈ wb := wb_s 11 (by decide +kernel) (by decide +kernel)
theorem se_P_find : Cond.selects R_P y_P_find y_P_find ∈ wb := wb_s 12 (by decide +kernel) (by decide +kernel)
theorem se_P_append : Cond.selects R_P y_P_append y_P_append ∈ wb := wb_s 13 (by decide +kernel) (by decide +kernel)
theorem se_X_held : Cond.selects R_X y_X_held y_X_held ∈ wb := wb_s 15 (by decide +kernel) (by decide +kernel)
theorem se_G_canTake : Cond.selects R_G y_G_canTake y_G_canTake ∈ wb := wb_s 16 (by decide +kernel) (by decide +kernel)
theorem se_E_solve : Cond.selects R_E y_E_solve y_E_solve ∈ wb := wb_s 17 (by decide +kernel) (by decide +kernel)
theorem se_X_storeName : Cond.selects R_X y_X_storeName y_X_storeName ∈ wb := wb_s 18 (by decide +kernel) (by decide +kernel)
theorem se_G_multiply : Cond.selects R_G y_G_multiply y_G_multiply ∈ wb := wb_s 19 (by decide +kernel) (by decide +kernel)
theorem se_G_turn : Cond.selects R_G y_G_turn y_G_turn ∈ wb := wb_s 20 (by decide +kernel) (by decide +kernel)
theorem se_G_raise : Cond.selects R_G y_G_raise y_G_raise ∈ wb := wb_s 21 (by decide +kernel) (by decide +kernel)
theorem se_G_orderOf : Cond.selects R_G y_G_orderOf y_G_orderOf ∈ wb := wb_s 22 (by decide +kernel) (by decide +kernel)
theorem se_G_exponentOf : Cond.selects R_G y_G_exponentOf y_G_exponentOf ∈ wb := wb_s 23 (by decide +kernel) (by decide +kernel)
theorem se_P_has : Cond.selects R_P y_P_has y_P_has ∈ wb := wb_s 24 (by decide +kernel) (by decide +kernel)
theorem se_P_at : Cond.selects R_P y_P_at y_P_at ∈ wb := wb_s 25 (by decide +kernel) (by decide +kernel)
theorem se_M_begin : Cond.selects R_M y_M_begin y_M_begin ∈ wb := wb_s 26 (by decide +kernel) (by decide +kernel)
theorem se_M_keepOne : Cond.selects R_M y_M_keepOne y_M_keepOne ∈ wb := wb_s 27 (by decide +kernel) (by decide +kernel)
theorem se_M_one : Cond.selects R_M y_M_one y_M_one ∈ wb := wb_s 28 (by decide +kernel) (by decide +kernel)
theorem se_M_toName : Cond.selects R_M y_M_toName y_M_toName ∈ wb := wb_s 29 (by decide +kernel) (by decide +kernel)
theorem se_M_isReduced : Cond.selects R_M y_M_isReduced y_M_isReduced ∈ wb := wb_s 30 (by decide +kernel) (by decide +kernel)
theorem se_M_step : Cond.selects R_M y_M_step y_M_step ∈ wb := wb_s 31 (by decide +kernel) (by decide +kernel)
theorem se_M_keep : Cond.selects R_M y_M_keep y_M_keep ∈ wb := wb_s 32 (by decide +kernel) (by decide +kernel)
theorem se_M_load : Cond.selects R_M y_M_load y_M_load ∈ wb := wb_s 33 (by decide +kernel) (by decide +kernel)
theorem se_M_times : Cond.selects R_M y_M_times y_M_times ∈ wb := wb_s 34 (by decide +kernel) (by decide +kernel)
theorem se_M_freeOf : Cond.selects R_M y_M_freeOf y_M_freeOf ∈ wb := wb_s 35 (by decide +kernel) (by decide +kernel)
theorem se_M_slide : Cond.selects R_M y_M_slide y_M_slide ∈ wb := wb_s 36 (by decide +kernel) (by decide +kernel)
theorem se_M_turn : Cond.selects R_M y_M_turn y_M_turn ∈ wb := wb_s 37 (by decide +kernel) (by decide +kernel)
theorem se_M_orderOf : Cond.selects R_M y_M_orderOf y_M_orderOf ∈ wb := wb_s 38 (by decide +kernel) (by decide +kernel)
theorem se_M_isOne : Cond.selects R_M y_M_isOne y_M_isOne ∈ wb := wb_s 39 (by decide +kernel) (by decide +kernel)
theorem se_M_isAt : Cond.selects R_M y_M_isAt y_M_isAt ∈ wb := wb_s 40 (by decide +kernel) (by decide +kernel)
theorem se_M_formsOf : Cond.selects R_M y_M_formsOf y_M_formsOf ∈ wb := wb_s 41 (by decide +kernel) (by decide +kernel)
theorem ly_E_0 : Cond.lays "FormComposer$Euclid" "FormComposer$Euclid" "common" "J" ∈ wb := wb_t 61 (by decide +kernel) (by decide +kernel)
theorem ly_E_1 : Cond.lays "FormComposer$Euclid" "FormComposer$Euclid" "left" "J" ∈ wb := wb_t 63 (by decide +kernel) (by decide +kernel)
theorem ly_E_2 : Cond.lays "FormComposer$Euclid" "FormComposer$Euclid" "right" "J" ∈ wb := wb_t 65 (by decide +kernel) (by decide +kernel)
theorem uw_E : ∀ w ∈ u_ws R_E T_E 3, w ∈ wb := by
  intro w hw
  have e : u_ws R_E T_E 3 = [Cond.lays "FormComposer$Euclid" "FormComposer$Euclid" "common" "J", Cond.lays "FormComposer$Euclid" "FormComposer$Euclid" "left" "J", Cond.lays "FormComposer$Euclid" "FormComposer$Euclid" "right" "J"] := by decide +kernel
  rw [e] at hw
  simp only [List.mem_cons, List.not_mem_nil, or_false] at hw
  rcases hw with rfl | rfl | rfl
  · exact ly_E_0
  · exact ly_E_1
  · exact ly_E_2
theorem ly_F_0 : Cond.lays "FormComposer$Form" "FormComposer$Form" "a" "J" ∈ wb := wb_t 42 (by decide +kernel) (by decide +kernel)
theorem ly_F_1 : Cond.lays "FormComposer$Form" "FormComposer$Form" "b" "J" ∈ wb := wb_t 44 (by decide +kernel) (by decide +kernel)
theorem ly_F_2 : Cond.lays "FormComposer$Form" "FormComposer$Form" "c" "J" ∈ wb := wb_t 46 (by decide +kernel) (by decide +kernel)
theorem uw_F : ∀ w ∈ u_ws R_F T_F 3, w ∈ wb := by
  intro w hw
  have e : u_ws R_F T_F 3 = [Cond.lays "FormComposer$Form" "FormComposer$Form" "a" "J", Cond.lays "FormComposer$Form" "FormComposer$Form" "b" "J", Cond.lays "FormComposer$Form" "FormComposer$Form" "c" "J"] := by decide +kernel
  rw [e] at hw
  simp only [List.mem_cons, List.not_mem_nil, or_false] at hw
  rcases hw with rfl | rfl | rfl
  · exact ly_F_0
  · exact ly_F_1
  · exact ly_F_2
theorem ly_G_0 : Cond.laysFinal "FormComposer$Group" "FormComposer$Group" "one" "LFormComposer$Form;" ∈ wb := wb_t 78 (by decide +kernel) (by decide +kernel)
theorem ly_G_1 : Cond.laysFinal "FormComposer$Group" "FormComposer$Group" "walker" "LFormComposer$Form;" ∈ wb := wb_t 80 (by decide +kernel) (by decide +kernel)
theorem ly_G_2 : Cond.laysFinal "FormComposer$Group" "FormComposer$Group" "start" "LFormComposer$Form;" ∈ wb := wb_t 82 (by decide +kernel) (by decide +kernel)
theorem ly_G_3 : Cond.laysFinal "FormComposer$Group" "FormComposer$Group" "base" "LFormComposer$Form;" ∈ wb := wb_t 84 (by decide +kernel) (by decide +kernel)
theorem ly_G_4 : Cond.laysFinal "FormComposer$Group" "FormComposer$Group" "euclid" "LFormComposer$Euclid;" ∈ wb := wb_t 86 (by decide +kernel) (by decide +kernel)
theorem ly_G_5 : Cond.lays "FormComposer$Group" "FormComposer$Group" "discriminant" "I" ∈ wb := wb_t 88 (by decide +kernel) (by decide +kernel)
theorem ly_G_6 : Cond.lays "FormComposer$Group" "FormComposer$Group" "root" "I" ∈ wb := wb_t 90 (by decide +kernel) (by decide +kernel)
theorem uw_G : ∀ w ∈ u_ws R_G T_G 7, w ∈ wb := by
  intro w hw
  have e : u_ws R_G T_G 7 = [Cond.laysFinal "FormComposer$Group" "FormComposer$Group" "one" "LFormComposer$Form;", Cond.laysFinal "FormComposer$Group" "FormComposer$Group" "walker" "LFormComposer$Form;", Cond.laysFinal "FormComposer$Group" "FormComposer$Group" "start" "LFormComposer$Form;", Cond.laysFinal "FormComposer$Group" "FormComposer$Group" "base" "LFormComposer$Form;", Cond.laysFinal "FormComposer$Group" "FormComposer$Group" "euclid" "LFormComposer$Euclid;", Cond.lays "FormComposer$Group" "FormComposer$Group" "discriminant" "I", Cond.lays "FormComposer$Group" "FormComposer$Group" "root" "I"] := by decide +kernel
  rw [e] at hw
  simp only [List.mem_cons, List.not_mem_nil, or_false] at hw
  rcases hw with rfl | rfl | rfl | rfl | rfl | rfl | rfl
  · exact ly_G_0
  · exact ly_G_1
  · exact ly_G_2
  · exact ly_G_3
  · exact ly_G_4
  · exact ly_G_5
  · exact ly_G_6
theorem ly_P_0 : Cond.laysFinal "FormComposer$OddPrimes" "FormComposer$OddPrimes" "found" "[I" ∈ wb := wb_t 102 (by decide +kernel) (by decide +kernel)
theorem ly_P_1 : Cond.lays "FormComposer$OddPrimes" "FormComposer$OddPrimes" "size" "I" ∈ wb := wb_t 104 (by decide +kernel) (by decide +kernel)
theorem uw_P : ∀ w ∈ u_ws R_P T_P 2, w ∈ wb := by
  intro w hw
  have e : u_ws R_P T_P 2 = [Cond.laysFinal "FormComposer$OddPrimes" "FormComposer$OddPrimes" "found" "[I", Cond.lays "FormComposer$OddPrimes" "FormComposer$OddPrimes" "size" "I"] := by decide +kernel
  rw [e] at hw
  simp only [List.mem_cons, List.not_mem_nil, or_false] at hw
  rcases hw with rfl | rfl
  · exact ly_P_0
  · exact ly_P_1
theorem ly_X_0 : Cond.laysFinal "FormComposer" "FormComposer" "group" "LFormComposer$Group;" ∈ wb := wb_t 203 (by decide +kernel) (by decide +kernel)
theorem ly_X_1 : Cond.laysFinal "FormComposer" "FormComposer" "primes" "LFormComposer$OddPrimes;" ∈ wb := wb_t 205 (by decide +kernel) (by decide +kernel)
theorem ly_X_2 : Cond.laysFinal "FormComposer" "FormComposer" "registers" "[LFormComposer$Form;" ∈ wb := wb_t 207 (by decide +kernel) (by decide +kernel)
theorem ly_X_3 : Cond.laysFinal "FormComposer" "FormComposer" "hand" "LFormComposer$Form;" ∈ wb := wb_t 209 (by decide +kernel) (by decide +kernel)
theorem uw_X : ∀ w ∈ u_ws R_X T_X 4, w ∈ wb := by
  intro w hw
  have e : u_ws R_X T_X 4 = [Cond.laysFinal "FormComposer" "FormComposer" "group" "LFormComposer$Group;", Cond.laysFinal "FormComposer" "FormComposer" "primes" "LFormComposer$OddPrimes;", Cond.laysFinal "FormComposer" "FormComposer" "registers" "[LFormComposer$Form;", Cond.laysFinal "FormComposer" "FormComposer" "hand" "LFormComposer$Form;"] := by decide +kernel
  rw [e] at hw
  simp only [List.mem_cons, List.not_mem_nil, or_false] at hw
  rcases hw with rfl | rfl | rfl | rfl
  · exact ly_X_0
  · exact ly_X_1
  · exact ly_X_2
  · exact ly_X_3
theorem ly_M_0 : Cond.lays "FormComposerModel" "FormComposerModel" "code" "I" ∈ wb := wb_t 511 (by decide +kernel) (by decide +kernel)
theorem ly_M_1 : Cond.lays "FormComposerModel" "FormComposerModel" "d" "J" ∈ wb := wb_t 513 (by decide +kernel) (by decide +kernel)
theorem ly_M_2 : Cond.lays "FormComposerModel" "FormComposerModel" "w" "J" ∈ wb := wb_t 515 (by decide +kernel) (by decide +kernel)
theorem ly_M_3 : Cond.laysFinal "FormComposerModel" "FormComposerModel" "firsts" "[J" ∈ wb := wb_t 517 (by decide +kernel) (by decide +kernel)
theorem ly_M_4 : Cond.laysFinal "FormComposerModel" "FormComposerModel" "middles" "[J" ∈ wb := wb_t 519 (by decide +kernel) (by decide +kernel)
theorem ly_M_5 : Cond.laysFinal "FormComposerModel" "FormComposerModel" "lasts" "[J" ∈ wb := wb_t 521 (by decide +kernel) (by decide +kernel)
theorem ly_M_6 : Cond.lays "FormComposerModel" "FormComposerModel" "a" "J" ∈ wb := wb_t 523 (by decide +kernel) (by decide +kernel)
theorem ly_M_7 : Cond.lays "FormComposerModel" "FormComposerModel" "b" "J" ∈ wb := wb_t 525 (by decide +kernel) (by decide +kernel)
theorem ly_M_8 : Cond.lays "FormComposerModel" "FormComposerModel" "c" "J" ∈ wb := wb_t 527 (by decide +kernel) (by decide +kernel)
theorem ly_M_9 : Cond.lays "FormComposerModel" "FormComposerModel" "primes" "I" ∈ wb := wb_t 529 (by decide +kernel) (by decide +kernel)
theorem ly_M_10 : Cond.laysFinal "FormComposerModel" "FormComposerModel" "prime" "[J" ∈ wb := wb_t 531 (by decide +kernel) (by decide +kernel)
theorem uw_M : ∀ w ∈ u_ws R_M T_M 11, w ∈ wb := by
  intro w hw
  have e : u_ws R_M T_M 11 = [Cond.lays "FormComposerModel" "FormComposerModel" "code" "I", Cond.lays "FormComposerModel" "FormComposerModel" "d" "J", Cond.lays "FormComposerModel" "FormComposerModel" "w" "J", Cond.laysFinal "FormComposerModel" "FormComposerModel" "firsts" "[J", Cond.laysFinal "FormComposerModel" "FormComposerModel" "middles" "[J", Cond.laysFinal "FormComposerModel" "FormComposerModel" "lasts" "[J", Cond.lays "FormComposerModel" "FormComposerModel" "a" "J", Cond.lays "FormComposerModel" "FormComposerModel" "b" "J", Cond.lays "FormComposerModel" "FormComposerModel" "c" "J", Cond.lays "FormComposerModel" "FormComposerModel" "primes" "I", Cond.laysFinal "FormComposerModel" "FormComposerModel" "prime" "[J"] := by decide +kernel
  rw [e] at hw
  simp only [List.mem_cons, List.not_mem_nil, or_false] at hw
  rcases hw with rfl | rfl | rfl | rfl | rfl | rfl | rfl | rfl | rfl | rfl | rfl
  · exact ly_M_0
  · exact ly_M_1
  · exact ly_M_2
  · exact ly_M_3
  · exact ly_M_4
  · exact ly_M_5
  · exact ly_M_6
  · exact ly_M_7
  · exact ly_M_8
  · exact ly_M_9
  · exact ly_M_10
/-! links to private members of nest mates -/
def nb : List Cond := [Cond.methodLinkNest R_X 9 y_G_init "FormComposer", Cond.methodLinkNest R_G 11 y_F_init "FormComposer", Cond.fieldLinkNest R_G 94 "FormComposer$Form" "a" "J" "FormComposer", Cond.fieldLinkNest R_X 84 "FormComposer$Form" "a" "J" "FormComposer", Cond.fieldLinkNest R_G 97 "FormComposer$Form" "b" "J" "FormComposer", Cond.fieldLinkNest R_X 88 "FormComposer$Form" "b" "J" "FormComposer", Cond.fieldLinkNest R_X 91 "FormComposer$Form" "c" "J" "FormComposer", Cond.fieldLinkNest R_G 105 "FormComposer$Form" "c" "J" "FormComposer", Cond.methodLinkNest R_G 29 y_E_init "FormComposer", Cond.fieldLinkNest R_G 67 "FormComposer$Euclid" "common" "J" "FormComposer", Cond.fieldLinkNest R_G 126 "FormComposer$Euclid" "left" "J" "FormComposer", Cond.fieldLinkNest R_G 129 "FormComposer$Euclid" "right" "J" "FormComposer", Cond.fieldLinkNest R_X 147 "FormComposer$Group" "one" "LFormComposer$Form;" "FormComposer", Cond.fieldLinkNest R_X 111 "FormComposer$Group" "discriminant" "I" "FormComposer", Cond.fieldLinkNest R_X 115 "FormComposer$Group" "root" "I" "FormComposer", Cond.methodLinkNest R_X 18 y_P_init "FormComposer", Cond.fieldLinkNest R_X 118 "FormComposer$OddPrimes" "size" "I" "FormComposer", Cond.methodLinkNest R_X 25 y_F_init "FormComposer", Cond.methodLinkNest R_X 141 y_G_settle "FormComposer", Cond.methodLinkNest R_G 38 y_X_wholeRoot "FormComposer", Cond.methodLinkNest R_G 75 y_X_quotient "FormComposer", Cond.methodLinkNest R_G 79 y_F_become "FormComposer", Cond.methodLinkNest R_G 102 y_X_remainder "FormComposer", Cond.methodLinkNest R_G 117 y_F_copy "FormComposer", Cond.methodLinkNest R_G 120 y_F_matches "FormComposer", Cond.methodLinkNest R_G 123 y_F_isBefore "FormComposer", Cond.methodLinkNest R_X 144 y_P_find "FormComposer", Cond.methodLinkNest R_P 29 y_X_remainder "FormComposer", Cond.methodLinkNest R_P 42 y_X_quotient "FormComposer", Cond.methodLinkNest R_X 70 y_F_copy "FormComposer", Cond.methodLinkNest R_X 121 y_G_turnIntoName "FormComposer", Cond.methodLinkNest R_X 53 y_G_canTake "FormComposer", Cond.methodLinkNest R_G 63 y_E_solve "FormComposer", Cond.methodLinkNest R_E 22 y_X_quotient "FormComposer", Cond.methodLinkNest R_X 59 y_F_become "FormComposer", Cond.methodLinkNest R_X 63 y_G_reduce "FormComposer", Cond.methodLinkNest R_X 73 y_G_multiply "FormComposer", Cond.methodLinkNest R_X 77 y_G_turn "FormComposer", Cond.methodLinkNest R_X 80 y_G_raise "FormComposer", Cond.methodLinkNest R_X 99 y_F_matches "FormComposer", Cond.methodLinkNest R_X 103 y_G_orderOf "FormComposer", Cond.methodLinkNest R_X 107 y_G_exponentOf "FormComposer", Cond.methodLinkNest R_X 124 y_P_has "FormComposer", Cond.methodLinkNest R_X 129 y_P_at "FormComposer"]
theorem nm_X_9 : Cond.methodLinkNest R_X 9 y_G_init "FormComposer" ∈ nb := List.mem_of_getElem? (i := 0) rfl
theorem nm_G_11 : Cond.methodLinkNest R_G 11 y_F_init "FormComposer" ∈ nb := List.mem_of_getElem? (i := 1) rfl
theorem nf_G_94 : Cond.fieldLinkNest R_G 94 "FormComposer$Form" "a" "J" "FormComposer" ∈ nb := List.mem_of_getElem? (i := 2) rfl
theorem nf_X_84 : Cond.fieldLinkNest R_X 84 "FormComposer$Form" "a" "J" "FormComposer" ∈ nb := List.mem_of_getElem? (i := 3) rfl
theorem nf_G_97 : Cond.fieldLinkNest R_G 97 "FormComposer$Form" "b" "J" "FormComposer" ∈ nb := List.mem_of_getElem? (i := 4) rfl
theorem nf_X_88 : Cond.fieldLinkNest R_X 88 "FormComposer$Form" "b" "J" "FormComposer" ∈ nb := List.mem_of_getElem? (i := 5) rfl
theorem nf_X_91 : Cond.fieldLinkNest R_X 91 "FormComposer$Form" "c" "J" "FormComposer" ∈ nb := List.mem_of_getElem? (i := 6) rfl
theorem nf_G_105 : Cond.fieldLinkNest R_G 105 "FormComposer$Form" "c" "J" "FormComposer" ∈ nb := List.mem_of_getElem? (i := 7) rfl
theorem nm_G_29 : Cond.methodLinkNest R_G 29 y_E_init "FormComposer" ∈ nb := List.mem_of_getElem? (i := 8) rfl
theorem nf_G_67 : Cond.fieldLinkNest R_G 67 "FormComposer$Euclid" "common" "J" "FormComposer" ∈ nb := List.mem_of_getElem? (i := 9) rfl
theorem nf_G_126 : Cond.fieldLinkNest R_G 126 "FormComposer$Euclid" "left" "J" "FormComposer" ∈ nb := List.mem_of_getElem? (i := 10) rfl
theorem nf_G_129 : Cond.fieldLinkNest R_G 129 "FormComposer$Euclid" "right" "J" "FormComposer" ∈ nb := List.mem_of_getElem? (i := 11) rfl
theorem nf_X_147 : Cond.fieldLinkNest R_X 147 "FormComposer$Group" "one" "LFormComposer$Form;" "FormComposer" ∈ nb := List.mem_of_getElem? (i := 12) rfl
theorem nf_X_111 : Cond.fieldLinkNest R_X 111 "FormComposer$Group" "discriminant" "I" "FormComposer" ∈ nb := List.mem_of_getElem? (i := 13) rfl
theorem nf_X_115 : Cond.fieldLinkNest R_X 115 "FormComposer$Group" "root" "I" "FormComposer" ∈ nb := List.mem_of_getElem? (i := 14) rfl
theorem nm_X_18 : Cond.methodLinkNest R_X 18 y_P_init "FormComposer" ∈ nb := List.mem_of_getElem? (i := 15) rfl
theorem nf_X_118 : Cond.fieldLinkNest R_X 118 "FormComposer$OddPrimes" "size" "I" "FormComposer" ∈ nb := List.mem_of_getElem? (i := 16) rfl
theorem nm_X_25 : Cond.methodLinkNest R_X 25 y_F_init "FormComposer" ∈ nb := List.mem_of_getElem? (i := 17) rfl
theorem nm_X_141 : Cond.methodLinkNest R_X 141 y_G_settle "FormComposer" ∈ nb := List.mem_of_getElem? (i := 18) rfl
theorem nm_G_38 : Cond.methodLinkNest R_G 38 y_X_wholeRoot "FormComposer" ∈ nb := List.mem_of_getElem? (i := 19) rfl
theorem nm_G_75 : Cond.methodLinkNest R_G 75 y_X_quotient "FormComposer" ∈ nb := List.mem_of_getElem? (i := 20) rfl
theorem nm_G_79 : Cond.methodLinkNest R_G 79 y_F_become "FormComposer" ∈ nb := List.mem_of_getElem? (i := 21) rfl
theorem nm_G_102 : Cond.methodLinkNest R_G 102 y_X_remainder "FormComposer" ∈ nb := List.mem_of_getElem? (i := 22) rfl
theorem nm_G_117 : Cond.methodLinkNest R_G 117 y_F_copy "FormComposer" ∈ nb := List.mem_of_getElem? (i := 23) rfl
theorem nm_G_120 : Cond.methodLinkNest R_G 120 y_F_matches "FormComposer" ∈ nb := List.mem_of_getElem? (i := 24) rfl
theorem nm_G_123 : Cond.methodLinkNest R_G 123 y_F_isBefore "FormComposer" ∈ nb := List.mem_of_getElem? (i := 25) rfl
theorem nm_X_144 : Cond.methodLinkNest R_X 144 y_P_find "FormComposer" ∈ nb := List.mem_of_getElem? (i := 26) rfl
theorem nm_P_29 : Cond.methodLinkNest R_P 29 y_X_remainder "FormComposer" ∈ nb := List.mem_of_getElem? (i := 27) rfl
theorem nm_P_42 : Cond.methodLinkNest R_P 42 y_X_quotient "FormComposer" ∈ nb := List.mem_of_getElem? (i := 28) rfl
theorem nm_X_70 : Cond.methodLinkNest R_X 70 y_F_copy "FormComposer" ∈ nb := List.mem_of_getElem? (i := 29) rfl
theorem nm_X_121 : Cond.methodLinkNest R_X 121 y_G_turnIntoName "FormComposer" ∈ nb := List.mem_of_getElem? (i := 30) rfl
theorem nm_X_53 : Cond.methodLinkNest R_X 53 y_G_canTake "FormComposer" ∈ nb := List.mem_of_getElem? (i := 31) rfl
theorem nm_G_63 : Cond.methodLinkNest R_G 63 y_E_solve "FormComposer" ∈ nb := List.mem_of_getElem? (i := 32) rfl
theorem nm_E_22 : Cond.methodLinkNest R_E 22 y_X_quotient "FormComposer" ∈ nb := List.mem_of_getElem? (i := 33) rfl
theorem nm_X_59 : Cond.methodLinkNest R_X 59 y_F_become "FormComposer" ∈ nb := List.mem_of_getElem? (i := 34) rfl
theorem nm_X_63 : Cond.methodLinkNest R_X 63 y_G_reduce "FormComposer" ∈ nb := List.mem_of_getElem? (i := 35) rfl
theorem nm_X_73 : Cond.methodLinkNest R_X 73 y_G_multiply "FormComposer" ∈ nb := List.mem_of_getElem? (i := 36) rfl
theorem nm_X_77 : Cond.methodLinkNest R_X 77 y_G_turn "FormComposer" ∈ nb := List.mem_of_getElem? (i := 37) rfl
theorem nm_X_80 : Cond.methodLinkNest R_X 80 y_G_raise "FormComposer" ∈ nb := List.mem_of_getElem? (i := 38) rfl
theorem nm_X_99 : Cond.methodLinkNest R_X 99 y_F_matches "FormComposer" ∈ nb := List.mem_of_getElem? (i := 39) rfl
theorem nm_X_103 : Cond.methodLinkNest R_X 103 y_G_orderOf "FormComposer" ∈ nb := List.mem_of_getElem? (i := 40) rfl
theorem nm_X_107 : Cond.methodLinkNest R_X 107 y_G_exponentOf "FormComposer" ∈ nb := List.mem_of_getElem? (i := 41) rfl
theorem nm_X_124 : Cond.methodLinkNest R_X 124 y_P_has "FormComposer" ∈ nb := List.mem_of_getElem? (i := 42) rfl
theorem nm_X_129 : Cond.methodLinkNest R_X 129 y_P_at "FormComposer" ∈ nb := List.mem_of_getElem? (i := 43) rfl
def nw (U : State) : Prop := ∀ w ∈ nb, va_Nw w U
theorem nb_t : ∀ w ∈ nb, w ∈ lw_tbl := by
  intro w hw
  unfold nb at hw
  simp only [List.mem_cons, List.not_mem_nil, or_false] at hw
  rcases hw with rfl | rfl | rfl | rfl | rfl | rfl | rfl | rfl | rfl | rfl | rfl | rfl | rfl | rfl | rfl | rfl | rfl | rfl | rfl | rfl | rfl | rfl | rfl | rfl | rfl | rfl | rfl | rfl | rfl | rfl | rfl | rfl | rfl | rfl | rfl | rfl | rfl | rfl | rfl | rfl | rfl | rfl | rfl | rfl
  · exact List.mem_append_right _ (List.mem_of_getElem? (i := 23) (by decide +kernel))
  · exact List.mem_append_right _ (List.mem_of_getElem? (i := 29) (by decide +kernel))
  · exact List.mem_append_right _ (List.mem_of_getElem? (i := 34) (by decide +kernel))
  · exact List.mem_append_right _ (List.mem_of_getElem? (i := 35) (by decide +kernel))
  · exact List.mem_append_right _ (List.mem_of_getElem? (i := 37) (by decide +kernel))
  · exact List.mem_append_right _ (List.mem_of_getElem? (i := 38) (by decide +kernel))
  · exact List.mem_append_right _ (List.mem_of_getElem? (i := 40) (by decide +kernel))
  · exact List.mem_append_right _ (List.mem_of_getElem? (i := 41) (by decide +kernel))
  · exact List.mem_append_right _ (List.mem_of_getElem? (i := 51) (by decide +kernel))
  · exact List.mem_append_right _ (List.mem_of_getElem? (i := 56) (by decide +kernel))
  · exact List.mem_append_right _ (List.mem_of_getElem? (i := 58) (by decide +kernel))
  · exact List.mem_append_right _ (List.mem_of_getElem? (i := 60) (by decide +kernel))
  · exact List.mem_append_right _ (List.mem_of_getElem? (i := 69) (by decide +kernel))
  · exact List.mem_append_right _ (List.mem_of_getElem? (i := 75) (by decide +kernel))
  · exact List.mem_append_right _ (List.mem_of_getElem? (i := 77) (by decide +kernel))
  · exact List.mem_append_right _ (List.mem_of_getElem? (i := 95) (by decide +kernel))
  · exact List.mem_append_right _ (List.mem_of_getElem? (i := 101) (by decide +kernel))
  · exact List.mem_append_right _ (List.mem_of_getElem? (i := 109) (by decide +kernel))
  · exact List.mem_append_right _ (List.mem_of_getElem? (i := 115) (by decide +kernel))
  · exact List.mem_append_right _ (List.mem_of_getElem? (i := 119) (by decide +kernel))
  · exact List.mem_append_right _ (List.mem_of_getElem? (i := 127) (by decide +kernel))
  · exact List.mem_append_right _ (List.mem_of_getElem? (i := 130) (by decide +kernel))
  · exact List.mem_append_right _ (List.mem_of_getElem? (i := 144) (by decide +kernel))
  · exact List.mem_append_right _ (List.mem_of_getElem? (i := 168) (by decide +kernel))
  · exact List.mem_append_right _ (List.mem_of_getElem? (i := 173) (by decide +kernel))
  · exact List.mem_append_right _ (List.mem_of_getElem? (i := 177) (by decide +kernel))
  · exact List.mem_append_right _ (List.mem_of_getElem? (i := 181) (by decide +kernel))
  · exact List.mem_append_right _ (List.mem_of_getElem? (i := 192) (by decide +kernel))
  · exact List.mem_append_right _ (List.mem_of_getElem? (i := 193) (by decide +kernel))
  · exact List.mem_append_right _ (List.mem_of_getElem? (i := 198) (by decide +kernel))
  · exact List.mem_append_right _ (List.mem_of_getElem? (i := 216) (by decide +kernel))
  · exact List.mem_append_right _ (List.mem_of_getElem? (i := 329) (by decide +kernel))
  · exact List.mem_append_right _ (List.mem_of_getElem? (i := 338) (by decide +kernel))
  · exact List.mem_append_right _ (List.mem_of_getElem? (i := 343) (by decide +kernel))
  · exact List.mem_append_right _ (List.mem_of_getElem? (i := 345) (by decide +kernel))
  · exact List.mem_append_right _ (List.mem_of_getElem? (i := 346) (by decide +kernel))
  · exact List.mem_append_right _ (List.mem_of_getElem? (i := 358) (by decide +kernel))
  · exact List.mem_append_right _ (List.mem_of_getElem? (i := 369) (by decide +kernel))
  · exact List.mem_append_right _ (List.mem_of_getElem? (i := 380) (by decide +kernel))
  · exact List.mem_append_right _ (List.mem_of_getElem? (i := 401) (by decide +kernel))
  · exact List.mem_append_right _ (List.mem_of_getElem? (i := 409) (by decide +kernel))
  · exact List.mem_append_right _ (List.mem_of_getElem? (i := 420) (by decide +kernel))
  · exact List.mem_append_right _ (List.mem_of_getElem? (i := 431) (by decide +kernel))
  · exact List.mem_append_right _ (List.mem_of_getElem? (i := 436) (by decide +kernel))
theorem nw.warm {s U : State} (hW : s.WarmedH U.vm) (h : nw s) : nw U := by
  intro w hw
  have hs := h w hw
  unfold nb at hw
  simp only [List.mem_cons, List.not_mem_nil, or_false] at hw
  rcases hw with rfl | rfl | rfl | rfl | rfl | rfl | rfl | rfl | rfl | rfl | rfl | rfl | rfl | rfl | rfl | rfl | rfl | rfl | rfl | rfl | rfl | rfl | rfl | rfl | rfl | rfl | rfl | rfl | rfl | rfl | rfl | rfl | rfl | rfl | rfl | rfl | rfl | rfl | rfl | rfl | rfl | rfl | rfl | rfl
  · exact va_Nw.warmM hW hs
  · exact va_Nw.warmM hW hs
  · exact va_Nw.warmF hW hs
  · exact va_Nw.warmF hW hs
  · exact va_Nw.warmF hW hs
  · exact va_Nw.warmF hW hs
  · exact va_Nw.warmF hW hs
  · exact va_Nw.warmF hW hs
  · exact va_Nw.warmM hW hs
  · exact va_Nw.warmF hW hs
  · exact va_Nw.warmF hW hs
  · exact va_Nw.warmF hW hs
  · exact va_Nw.warmF hW hs
  · exact va_Nw.warmF hW hs
  · exact va_Nw.warmF hW hs
  · exact va_Nw.warmM hW hs
  · exact va_Nw.warmF hW hs
  · exact va_Nw.warmM hW hs
  · exact va_Nw.warmM hW hs
  · exact va_Nw.warmM hW hs
  · exact va_Nw.warmM hW hs
  · exact va_Nw.warmM hW hs
  · exact va_Nw.warmM hW hs
  · exact va_Nw.warmM hW hs
  · exact va_Nw.warmM hW hs
  · exact va_Nw.warmM hW hs
  · exact va_Nw.warmM hW hs
  · exact va_Nw.warmM hW hs
  · exact va_Nw.warmM hW hs
  · exact va_Nw.warmM hW hs
  · exact va_Nw.warmM hW hs
  · exact va_Nw.warmM hW hs
  · exact va_Nw.warmM hW hs
  · exact va_Nw.warmM hW hs
  · exact va_Nw.warmM hW hs
  · exact va_Nw.warmM hW hs
  · exact va_Nw.warmM hW hs
  · exact va_Nw.warmM hW hs
  · exact va_Nw.warmM hW hs
  · exact va_Nw.warmM hW hs
  · exact va_Nw.warmM hW hs
  · exact va_Nw.warmM hW hs
  · exact va_Nw.warmM hW hs
  · exact va_Nw.warmM hW hs
theorem nb_tab : ∀ w ∈ nb, w.onTables = true := by decide +kernel
theorem nw.same {u U : State} (h : u.vm = U.vm) (k : nw u) : nw U := fun w hw => (k w hw).same (nb_tab w hw) h
