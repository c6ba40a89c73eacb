/-- the words of the tables that a call keeps -/
def TT : List Cond := lw_tbl.filter goodWord
theorem TT_self : GoodIn TT TT := fun w h => ⟨h, good_of_word (List.mem_filter.mp h).2⟩
theorem TT_in : GoodIn lw_tbl TT := fun w h => ⟨(List.mem_filter.mp h).1, good_of_word (List.mem_filter.mp h).2⟩
theorem TT_cons {w : Cond} (h : w ∈ TT) : GoodIn TT (w :: TT) := fun x hx => (List.mem_cons.mp hx).elim (fun e => by rw [e]; exact TT_self w h) (fun h => TT_self x h)
theorem TT_consL {w : Cond} (h : w ∈ TT) : GoodIn lw_tbl (w :: TT) := fun x hx => (List.mem_cons.mp hx).elim (fun e => by rw [e]; exact TT_in w h) (fun h => TT_in x h)
theorem tmb_1 {w : Cond} (h : w ∈ tables_1_1) (g : goodWord w = true) : w ∈ TT := List.mem_filter.mpr ⟨List.mem_append_right _ (show w ∈ tables_1 from List.mem_append_left _ h), g⟩
theorem tmb_2 {w : Cond} (h : w ∈ tables_1_2) (g : goodWord w = true) : w ∈ TT := List.mem_filter.mpr ⟨List.mem_append_right _ (show w ∈ tables_1 from List.mem_append_right _ (List.mem_append_left _ h)), g⟩
theorem tmb_3 {w : Cond} (h : w ∈ tables_1_3) (g : goodWord w = true) : w ∈ TT := List.mem_filter.mpr ⟨List.mem_append_right _ (show w ∈ tables_1 from List.mem_append_right _ (List.mem_append_right _ (List.mem_append_left _ h))), g⟩
theorem tmb_4 {w : Cond} (h : w ∈ tables_1_4) (g : goodWord w = true) : w ∈ TT := List.mem_filter.mpr ⟨List.mem_append_right _ (show w ∈ tables_1 from List.mem_append_right _ (List.mem_append_right _ (List.mem_append_right _ (List.mem_append_left _ h)))), g⟩
theorem tmb_5 {w : Cond} (h : w ∈ tables_1_5) (g : goodWord w = true) : w ∈ TT := List.mem_filter.mpr ⟨List.mem_append_right _ (show w ∈ tables_1 from List.mem_append_right _ (List.mem_append_right _ (List.mem_append_right _ (List.mem_append_right _ (List.mem_append_left _ h))))), g⟩
theorem tmb_6 {w : Cond} (h : w ∈ tables_1_6) (g : goodWord w = true) : w ∈ TT := List.mem_filter.mpr ⟨List.mem_append_right _ (show w ∈ tables_1 from List.mem_append_right _ (List.mem_append_right _ (List.mem_append_right _ (List.mem_append_right _ (List.mem_append_right _ (h)))))), g⟩
theorem tms_1 {q : MethodName × Nat} (h : q ∈ lw_privs_1) (g : goodWord (Cond.selects q.1.cls q.1 q.1) = true) : Cond.selects q.1.cls q.1 q.1 ∈ TT := List.mem_filter.mpr ⟨List.mem_append_left _ (List.mem_map.mpr ⟨q, show q ∈ lw_privs from List.mem_append_left _ h, rfl⟩), g⟩
theorem tms_2 {q : MethodName × Nat} (h : q ∈ lw_privs_2) (g : goodWord (Cond.selects q.1.cls q.1 q.1) = true) : Cond.selects q.1.cls q.1 q.1 ∈ TT := List.mem_filter.mpr ⟨List.mem_append_left _ (List.mem_map.mpr ⟨q, show q ∈ lw_privs from List.mem_append_right _ (List.mem_append_left _ h), rfl⟩), g⟩
theorem tms_3 {q : MethodName × Nat} (h : q ∈ lw_privs_3) (g : goodWord (Cond.selects q.1.cls q.1 q.1) = true) : Cond.selects q.1.cls q.1 q.1 ∈ TT := List.mem_filter.mpr ⟨List.mem_append_left _ (List.mem_map.mpr ⟨q, show q ∈ lw_privs from List.mem_append_right _ (List.mem_append_right _ (List.mem_append_left _ h)), rfl⟩), g⟩
theorem tms_4 {q : MethodName × Nat} (h : q ∈ lw_privs_4) (g : goodWord (Cond.selects q.1.cls q.1 q.1) = true) : Cond.selects q.1.cls q.1 q.1 ∈ TT := List.mem_filter.mpr ⟨List.mem_append_left _ (List.mem_map.mpr ⟨q, show q ∈ lw_privs from List.mem_append_right _ (List.mem_append_right _ (List.mem_append_right _ (List.mem_append_left _ h))), rfl⟩), g⟩
theorem tms_5 {q : MethodName × Nat} (h : q ∈ lw_privs_5) (g : goodWord (Cond.selects q.1.cls q.1 q.1) = true) : Cond.selects q.1.cls q.1 q.1 ∈ TT := List.mem_filter.mpr ⟨List.mem_append_left _ (List.mem_map.mpr ⟨q, show q ∈ lw_privs from List.mem_append_right _ (List.mem_append_right _ (List.mem_append_right _ (List.mem_append_right _ (h)))), rfl⟩), g⟩
theorem tw1_15 : Cond.classLink RL 7 RX4 ∈ TT := tmb_1 (List.mem_of_getElem? (i := 15) rfl) rfl
theorem tw1_16 : Cond.instantiable RX4 9 ∈ TT := tmb_1 (List.mem_of_getElem? (i := 16) rfl) rfl
theorem tw1_1 : Cond.initialized RX4 ∈ TT := tmb_1 (List.mem_of_getElem? (i := 1) rfl) rfl
theorem tw4_68 : Cond.classLink RL 10 RX5 ∈ TT := tmb_4 (List.mem_of_getElem? (i := 68) rfl) rfl
theorem tw4_69 : Cond.instantiable RX5 26 ∈ TT := tmb_4 (List.mem_of_getElem? (i := 69) rfl) rfl
theorem tw1_7 : Cond.initialized RX5 ∈ TT := tmb_1 (List.mem_of_getElem? (i := 7) rfl) rfl
theorem tw1_17 : Cond.methodLink RL 9 yX4_init ∈ TT := tmb_1 (List.mem_of_getElem? (i := 17) rfl) rfl
theorem tw1_18 : Cond.instanceMethod yX4_init ∈ TT := tmb_1 (List.mem_of_getElem? (i := 18) rfl) rfl
theorem tw1_19 : Cond.code yX4_init cX4_init 2 none ∈ TT := tmb_1 (List.mem_of_getElem? (i := 19) rfl) rfl
theorem tw1_20 : Cond.methodLink RX4 3 objectInit ∈ TT := tmb_1 (List.mem_of_getElem? (i := 20) rfl) rfl
theorem tw1_21 : Cond.instanceMethod objectInit ∈ TT := tmb_1 (List.mem_of_getElem? (i := 21) rfl) rfl
theorem tw1_22 : Cond.code objectInit ⟨#[0xb1]⟩ 1 none ∈ TT := tmb_1 (List.mem_of_getElem? (i := 22) rfl) rfl
theorem tw1_23 : Cond.classLink RX4 9 RX0 ∈ TT := tmb_1 (List.mem_of_getElem? (i := 23) rfl) rfl
theorem tw1_24 : Cond.instantiable RX0 14 ∈ TT := tmb_1 (List.mem_of_getElem? (i := 24) rfl) rfl
theorem tw1_2 : Cond.initialized RX0 ∈ TT := tmb_1 (List.mem_of_getElem? (i := 2) rfl) rfl
theorem tw1_166 : Cond.fieldLink RX4 12 "NavyOfCats" "navy" "LNavyOfCats$Navy;" ∈ TT := tmb_1 (List.mem_of_getElem? (i := 166) rfl) rfl
theorem tw1_167 : Cond.fieldLink RX4 16 "NavyOfCats" "kept" "LNavyOfCats$Navy;" ∈ TT := tmb_1 (List.mem_of_getElem? (i := 167) rfl) rfl
theorem tw1_99 : Cond.classLink RX4 19 RX3 ∈ TT := tmb_1 (List.mem_of_getElem? (i := 99) rfl) rfl
theorem tw1_100 : Cond.instantiable RX3 2 ∈ TT := tmb_1 (List.mem_of_getElem? (i := 100) rfl) rfl
theorem tw1_4 : Cond.initialized RX3 ∈ TT := tmb_1 (List.mem_of_getElem? (i := 4) rfl) rfl
theorem tw1_169 : Cond.fieldLink RX4 22 "NavyOfCats" "tape" "LNavyOfCats$Tape;" ∈ TT := tmb_1 (List.mem_of_getElem? (i := 169) rfl) rfl
theorem tw1_115 : Cond.classLink RX4 26 RX1 ∈ TT := tmb_1 (List.mem_of_getElem? (i := 115) rfl) rfl
theorem tw1_116 : Cond.instantiable RX1 8 ∈ TT := tmb_1 (List.mem_of_getElem? (i := 116) rfl) rfl
theorem tw1_5 : Cond.initialized RX1 ∈ TT := tmb_1 (List.mem_of_getElem? (i := 5) rfl) rfl
theorem tw1_170 : Cond.fieldLink RX4 29 "NavyOfCats" "reader" "LNavyOfCats$Reader;" ∈ TT := tmb_1 (List.mem_of_getElem? (i := 170) rfl) rfl
theorem tw1_146 : Cond.classLink RX4 33 RX2 ∈ TT := tmb_1 (List.mem_of_getElem? (i := 146) rfl) rfl
theorem tw1_171 : Cond.fieldLink RX4 35 "NavyOfCats" "sheets" "[LNavyOfCats$Sheet;" ∈ TT := tmb_1 (List.mem_of_getElem? (i := 171) rfl) rfl
theorem tw1_97 : Cond.arrayClass .int ∈ TT := tmb_1 (List.mem_of_getElem? (i := 97) rfl) rfl
theorem tw1_172 : Cond.fieldLink RX4 39 "NavyOfCats" "found" "[I" ∈ TT := tmb_1 (List.mem_of_getElem? (i := 172) rfl) rfl
theorem tw1_173 : Cond.fieldLink RX4 43 "NavyOfCats" "reads" "[I" ∈ TT := tmb_1 (List.mem_of_getElem? (i := 173) rfl) rfl
theorem tw1_174 : Cond.fieldLink RX4 46 "NavyOfCats" "places" "[I" ∈ TT := tmb_1 (List.mem_of_getElem? (i := 174) rfl) rfl
theorem tw1_148 : Cond.instantiable RX2 3 ∈ TT := tmb_1 (List.mem_of_getElem? (i := 148) rfl) rfl
theorem tw1_6 : Cond.initialized RX2 ∈ TT := tmb_1 (List.mem_of_getElem? (i := 6) rfl) rfl
theorem tw1_25 : Cond.methodLink RX4 11 yX0_init ∈ TT := tmb_1 (List.mem_of_getElem? (i := 25) rfl) rfl
theorem tw1_26 : Cond.instanceMethod yX0_init ∈ TT := tmb_1 (List.mem_of_getElem? (i := 26) rfl) rfl
theorem tw1_27 : Cond.code yX0_init cX0_init 1 none ∈ TT := tmb_1 (List.mem_of_getElem? (i := 27) rfl) rfl
theorem tw1_28 : Cond.methodLink RX0 3 objectInit ∈ TT := tmb_1 (List.mem_of_getElem? (i := 28) rfl) rfl
theorem tw1_35 : Cond.fieldLink RX0 9 "NavyOfCats$Navy" "kindOf" "[I" ∈ TT := tmb_1 (List.mem_of_getElem? (i := 35) rfl) rfl
theorem tw1_37 : Cond.fieldLink RX0 15 "NavyOfCats$Navy" "hungerOf" "[I" ∈ TT := tmb_1 (List.mem_of_getElem? (i := 37) rfl) rfl
theorem tw1_39 : Cond.fieldLink RX0 18 "NavyOfCats$Navy" "habitOf" "[I" ∈ TT := tmb_1 (List.mem_of_getElem? (i := 39) rfl) rfl
theorem tw1_41 : Cond.fieldLink RX0 21 "NavyOfCats$Navy" "cellOf" "[I" ∈ TT := tmb_1 (List.mem_of_getElem? (i := 41) rfl) rfl
theorem tw1_44 : Cond.fieldLink RX0 24 "NavyOfCats$Navy" "orderOf" "[I" ∈ TT := tmb_1 (List.mem_of_getElem? (i := 44) rfl) rfl
theorem tw1_47 : Cond.fieldLink RX0 27 "NavyOfCats$Navy" "aboardOf" "[I" ∈ TT := tmb_1 (List.mem_of_getElem? (i := 47) rfl) rfl
theorem tw1_98 : Cond.arrayClass .boolean ∈ TT := tmb_1 (List.mem_of_getElem? (i := 98) rfl) rfl
theorem tw1_50 : Cond.fieldLink RX0 30 "NavyOfCats$Navy" "isIsland" "[Z" ∈ TT := tmb_1 (List.mem_of_getElem? (i := 50) rfl) rfl
theorem tw1_59 : Cond.fieldLink RX0 34 "NavyOfCats$Navy" "stored" "I" ∈ TT := tmb_1 (List.mem_of_getElem? (i := 59) rfl) rfl
theorem tw1_64 : Cond.fieldLink RX0 38 "NavyOfCats$Navy" "z" "I" ∈ TT := tmb_1 (List.mem_of_getElem? (i := 64) rfl) rfl
theorem tw1_66 : Cond.fieldLink RX0 41 "NavyOfCats$Navy" "spots" "[I" ∈ TT := tmb_1 (List.mem_of_getElem? (i := 66) rfl) rfl
theorem tw1_29 : Cond.methodLink RX0 44 yJ7_fill_53178 ∈ TT := tmb_1 (List.mem_of_getElem? (i := 29) rfl) rfl
theorem tw1_30 : Cond.static yJ7_fill_53178 ∈ TT := tmb_1 (List.mem_of_getElem? (i := 30) rfl) rfl
theorem tw1_3 : Cond.initialized RJ7 ∈ TT := tmb_1 (List.mem_of_getElem? (i := 3) rfl) rfl
theorem tw1_31 : Cond.code yJ7_fill_53178 cJ7_fill_53178 4 none ∈ TT := tmb_1 (List.mem_of_getElem? (i := 31) rfl) rfl
theorem tw1_102 : Cond.instanceMethod yX3_init ∈ TT := tmb_1 (List.mem_of_getElem? (i := 102) rfl) rfl
theorem tw1_103 : Cond.code yX3_init cX3_init 1 none ∈ TT := tmb_1 (List.mem_of_getElem? (i := 103) rfl) rfl
theorem tw1_104 : Cond.methodLink RX3 3 objectInit ∈ TT := tmb_1 (List.mem_of_getElem? (i := 104) rfl) rfl
theorem tw1_105 : Cond.fieldLink RX3 9 "NavyOfCats$Tape" "bytes" "[I" ∈ TT := tmb_1 (List.mem_of_getElem? (i := 105) rfl) rfl
theorem tw1_118 : Cond.instanceMethod yX1_init ∈ TT := tmb_1 (List.mem_of_getElem? (i := 118) rfl) rfl
theorem tw1_119 : Cond.code yX1_init cX1_init 1 none ∈ TT := tmb_1 (List.mem_of_getElem? (i := 119) rfl) rfl
theorem tw1_120 : Cond.methodLink RX1 3 objectInit ∈ TT := tmb_1 (List.mem_of_getElem? (i := 120) rfl) rfl
theorem tw1_121 : Cond.fieldLink RX1 9 "NavyOfCats$Reader" "tokens" "[I" ∈ TT := tmb_1 (List.mem_of_getElem? (i := 121) rfl) rfl
theorem tw1_122 : Cond.fieldLink RX1 15 "NavyOfCats$Reader" "begins" "[I" ∈ TT := tmb_1 (List.mem_of_getElem? (i := 122) rfl) rfl
theorem tw1_123 : Cond.fieldLink RX1 18 "NavyOfCats$Reader" "numbers" "[I" ∈ TT := tmb_1 (List.mem_of_getElem? (i := 123) rfl) rfl
theorem tw1_150 : Cond.instanceMethod yX2_init ∈ TT := tmb_1 (List.mem_of_getElem? (i := 150) rfl) rfl
theorem tw1_151 : Cond.code yX2_init cX2_init 1 none ∈ TT := tmb_1 (List.mem_of_getElem? (i := 151) rfl) rfl
theorem tw1_152 : Cond.methodLink RX2 3 objectInit ∈ TT := tmb_1 (List.mem_of_getElem? (i := 152) rfl) rfl
theorem tw1_157 : Cond.fieldLink RX2 9 "NavyOfCats$Sheet" "numbers" "[I" ∈ TT := tmb_1 (List.mem_of_getElem? (i := 157) rfl) rfl
theorem tw4_70 : Cond.methodLink RL 12 yX5_init ∈ TT := tmb_4 (List.mem_of_getElem? (i := 70) rfl) rfl
theorem tw4_71 : Cond.instanceMethod yX5_init ∈ TT := tmb_4 (List.mem_of_getElem? (i := 71) rfl) rfl
theorem tw4_72 : Cond.code yX5_init cX5_init 2 none ∈ TT := tmb_4 (List.mem_of_getElem? (i := 72) rfl) rfl
theorem tw4_73 : Cond.methodLink RX5 1 objectInit ∈ TT := tmb_4 (List.mem_of_getElem? (i := 73) rfl) rfl
theorem tw4_83 : Cond.fieldLink RX5 9 "NavyOfCatsModel" "now" "[I" ∈ TT := tmb_4 (List.mem_of_getElem? (i := 83) rfl) rfl
theorem tw4_84 : Cond.fieldLink RX5 13 "NavyOfCatsModel" "kept" "[I" ∈ TT := tmb_4 (List.mem_of_getElem? (i := 84) rfl) rfl
theorem tw4_85 : Cond.fieldLink RX5 16 "NavyOfCatsModel" "aside" "[I" ∈ TT := tmb_4 (List.mem_of_getElem? (i := 85) rfl) rfl
theorem tw4_87 : Cond.fieldLink RX5 19 "NavyOfCatsModel" "found" "[I" ∈ TT := tmb_4 (List.mem_of_getElem? (i := 87) rfl) rfl
theorem tw4_88 : Cond.fieldLink RX5 22 "NavyOfCatsModel" "down" "[I" ∈ TT := tmb_4 (List.mem_of_getElem? (i := 88) rfl) rfl
theorem tw4_89 : Cond.fieldLink RX5 25 "NavyOfCatsModel" "right" "[I" ∈ TT := tmb_4 (List.mem_of_getElem? (i := 89) rfl) rfl
theorem tw4_93 : Cond.fieldLink RX5 28 "NavyOfCatsModel" "tape" "[I" ∈ TT := tmb_4 (List.mem_of_getElem? (i := 93) rfl) rfl
theorem tw4_74 : Cond.classLink RX5 31 RJ0 ∈ TT := tmb_4 (List.mem_of_getElem? (i := 74) rfl) rfl
theorem tw4_100 : Cond.fieldLink RX5 47 "NavyOfCatsModel" "kindNames" "[Ljava/lang/String;" ∈ TT := tmb_4 (List.mem_of_getElem? (i := 100) rfl) rfl
theorem tw4_101 : Cond.fieldLink RX5 51 "NavyOfCatsModel" "items" "[I" ∈ TT := tmb_4 (List.mem_of_getElem? (i := 101) rfl) rfl
theorem tw4_105 : Cond.fieldLink RX5 54 "NavyOfCatsModel" "widths" "[I" ∈ TT := tmb_4 (List.mem_of_getElem? (i := 105) rfl) rfl
theorem tw4_106 : Cond.fieldLink RX5 57 "NavyOfCatsModel" "sizes" "[I" ∈ TT := tmb_4 (List.mem_of_getElem? (i := 106) rfl) rfl
theorem tw4_107 : Cond.fieldLink RX5 60 "NavyOfCatsModel" "numbers" "[I" ∈ TT := tmb_4 (List.mem_of_getElem? (i := 107) rfl) rfl
theorem tw4_108 : Cond.fieldLink RX5 63 "NavyOfCatsModel" "moved" "[I" ∈ TT := tmb_4 (List.mem_of_getElem? (i := 108) rfl) rfl
theorem tw1_194 : Cond.methodLink RL 13 yX4_cat ∈ TT := tmb_1 (List.mem_of_getElem? (i := 194) rfl) rfl
theorem tw1_195 : Cond.instanceMethod yX4_cat ∈ TT := tmb_1 (List.mem_of_getElem? (i := 195) rfl) rfl
theorem tw1_196 : Cond.selects RX4 yX4_cat yX4_cat ∈ TT := tmb_1 (List.mem_of_getElem? (i := 196) rfl) rfl
theorem tw1_197 : Cond.code yX4_cat cX4_cat 2 (some .int) ∈ TT := tmb_1 (List.mem_of_getElem? (i := 197) rfl) rfl
theorem tw1_204 : Cond.constant RX4 54 (-1000001) ∈ TT := tmb_1 (List.mem_of_getElem? (i := 204) rfl) rfl
theorem tw1_33 : Cond.fieldLink RX4 59 "NavyOfCats$Navy" "cats" "I" ∈ TT := tmb_1 (List.mem_of_getElem? (i := 33) rfl) rfl
theorem tw1_209 : Cond.constant RX4 63 (-1000002) ∈ TT := tmb_1 (List.mem_of_getElem? (i := 209) rfl) rfl
theorem tw1_198 : Cond.methodLink RX4 50 yX4_isKind ∈ TT := tmb_1 (List.mem_of_getElem? (i := 198) rfl) rfl
theorem tw1_199 : Cond.static yX4_isKind ∈ TT := tmb_1 (List.mem_of_getElem? (i := 199) rfl) rfl
theorem tw1_200 : Cond.code yX4_isKind cX4_isKind 1 (some .boolean) ∈ TT := tmb_1 (List.mem_of_getElem? (i := 200) rfl) rfl
theorem tw1_201 : Cond.methodLink RX4 88 yX4_isWithin ∈ TT := tmb_1 (List.mem_of_getElem? (i := 201) rfl) rfl
theorem tw1_202 : Cond.static yX4_isWithin ∈ TT := tmb_1 (List.mem_of_getElem? (i := 202) rfl) rfl
theorem tw1_203 : Cond.code yX4_isWithin cX4_isWithin 3 (some .boolean) ∈ TT := tmb_1 (List.mem_of_getElem? (i := 203) rfl) rfl
theorem tw1_205 : Cond.methodLink RX4 55 yX4_finding ∈ TT := tmb_1 (List.mem_of_getElem? (i := 205) rfl) rfl
theorem tw1_207 : Cond.instanceMethod yX4_finding ∈ TT := tmb_1 (List.mem_of_getElem? (i := 207) rfl) rfl
theorem ts1_0 : Cond.selects RX4 yX4_finding yX4_finding ∈ TT := tms_1 (List.mem_of_getElem? (i := 0) rfl) rfl
theorem tw1_208 : Cond.code yX4_finding cX4_finding 3 (some .int) ∈ TT := tmb_1 (List.mem_of_getElem? (i := 208) rfl) rfl
theorem tw1_210 : Cond.methodLink RX4 64 yX0_addCat ∈ TT := tmb_1 (List.mem_of_getElem? (i := 210) rfl) rfl
theorem tw1_211 : Cond.instanceMethod yX0_addCat ∈ TT := tmb_1 (List.mem_of_getElem? (i := 211) rfl) rfl
theorem tw1_212 : Cond.selects RX0 yX0_addCat yX0_addCat ∈ TT := tmb_1 (List.mem_of_getElem? (i := 212) rfl) rfl
theorem tw1_213 : Cond.code yX0_addCat cX0_addCat 4 (some .int) ∈ TT := tmb_1 (List.mem_of_getElem? (i := 213) rfl) rfl
theorem tw1_32 : Cond.fieldLink RX0 50 "NavyOfCats$Navy" "cats" "I" ∈ TT := tmb_1 (List.mem_of_getElem? (i := 32) rfl) rfl
theorem tw4_162 : Cond.methodLink RL 17 yX5_cat ∈ TT := tmb_4 (List.mem_of_getElem? (i := 162) rfl) rfl
theorem tw4_163 : Cond.instanceMethod yX5_cat ∈ TT := tmb_4 (List.mem_of_getElem? (i := 163) rfl) rfl
theorem tw4_164 : Cond.selects RX5 yX5_cat yX5_cat ∈ TT := tmb_4 (List.mem_of_getElem? (i := 164) rfl) rfl
theorem tw4_165 : Cond.code yX5_cat cX5_cat 2 (some .int) ∈ TT := tmb_4 (List.mem_of_getElem? (i := 165) rfl) rfl
theorem tw4_172 : Cond.constant RX5 66 (-1000001) ∈ TT := tmb_4 (List.mem_of_getElem? (i := 172) rfl) rfl
theorem tw4_177 : Cond.constant RX5 90 (-1000002) ∈ TT := tmb_4 (List.mem_of_getElem? (i := 177) rfl) rfl
theorem tw4_166 : Cond.methodLink RX5 82 yX5_isKind ∈ TT := tmb_4 (List.mem_of_getElem? (i := 166) rfl) rfl
theorem tw4_167 : Cond.static yX5_isKind ∈ TT := tmb_4 (List.mem_of_getElem? (i := 167) rfl) rfl
theorem tw4_168 : Cond.code yX5_isKind cX5_isKind 1 (some .boolean) ∈ TT := tmb_4 (List.mem_of_getElem? (i := 168) rfl) rfl
theorem tw4_169 : Cond.methodLink RX5 71 yX5_within ∈ TT := tmb_4 (List.mem_of_getElem? (i := 169) rfl) rfl
theorem tw4_170 : Cond.static yX5_within ∈ TT := tmb_4 (List.mem_of_getElem? (i := 170) rfl) rfl
theorem tw4_171 : Cond.code yX5_within cX5_within 3 (some .boolean) ∈ TT := tmb_4 (List.mem_of_getElem? (i := 171) rfl) rfl
theorem tw4_173 : Cond.methodLink RX5 86 yX5_finding ∈ TT := tmb_4 (List.mem_of_getElem? (i := 173) rfl) rfl
theorem tw4_175 : Cond.instanceMethod yX5_finding ∈ TT := tmb_4 (List.mem_of_getElem? (i := 175) rfl) rfl
theorem ts1_15 : Cond.selects RX5 yX5_finding yX5_finding ∈ TT := tms_1 (List.mem_of_getElem? (i := 15) rfl) rfl
theorem tw4_176 : Cond.code yX5_finding cX5_finding 2 (some .int) ∈ TT := tmb_4 (List.mem_of_getElem? (i := 176) rfl) rfl
theorem tw4_178 : Cond.methodLink RX5 91 yX5_comes ∈ TT := tmb_4 (List.mem_of_getElem? (i := 178) rfl) rfl
theorem tw4_180 : Cond.instanceMethod yX5_comes ∈ TT := tmb_4 (List.mem_of_getElem? (i := 180) rfl) rfl
theorem ts2_0 : Cond.selects RX5 yX5_comes yX5_comes ∈ TT := tms_2 (List.mem_of_getElem? (i := 0) rfl) rfl
theorem tw4_181 : Cond.code yX5_comes cX5_comes 5 (some .int) ∈ TT := tmb_4 (List.mem_of_getElem? (i := 181) rfl) rfl
theorem tw4_182 : Cond.methodLink RX5 75 yX5_at ∈ TT := tmb_4 (List.mem_of_getElem? (i := 182) rfl) rfl
theorem tw4_183 : Cond.static yX5_at ∈ TT := tmb_4 (List.mem_of_getElem? (i := 183) rfl) rfl
theorem tw4_184 : Cond.code yX5_at cX5_at 2 (some .int) ∈ TT := tmb_4 (List.mem_of_getElem? (i := 184) rfl) rfl
theorem tw1_214 : Cond.methodLink RL 18 yX4_of ∈ TT := tmb_1 (List.mem_of_getElem? (i := 214) rfl) rfl
theorem tw1_215 : Cond.instanceMethod yX4_of ∈ TT := tmb_1 (List.mem_of_getElem? (i := 215) rfl) rfl
theorem tw1_216 : Cond.selects RX4 yX4_of yX4_of ∈ TT := tmb_1 (List.mem_of_getElem? (i := 216) rfl) rfl
theorem tw1_217 : Cond.code yX4_of cX4_of 3 (some .int) ∈ TT := tmb_1 (List.mem_of_getElem? (i := 217) rfl) rfl
theorem tw1_36 : Cond.fieldLink RX4 71 "NavyOfCats$Navy" "kindOf" "[I" ∈ TT := tmb_1 (List.mem_of_getElem? (i := 36) rfl) rfl
theorem tw1_38 : Cond.fieldLink RX4 74 "NavyOfCats$Navy" "hungerOf" "[I" ∈ TT := tmb_1 (List.mem_of_getElem? (i := 38) rfl) rfl
theorem tw1_40 : Cond.fieldLink RX4 77 "NavyOfCats$Navy" "habitOf" "[I" ∈ TT := tmb_1 (List.mem_of_getElem? (i := 40) rfl) rfl
theorem tw1_218 : Cond.methodLink RX4 68 yX4_isCat ∈ TT := tmb_1 (List.mem_of_getElem? (i := 218) rfl) rfl
theorem tw1_220 : Cond.instanceMethod yX4_isCat ∈ TT := tmb_1 (List.mem_of_getElem? (i := 220) rfl) rfl
theorem ts1_1 : Cond.selects RX4 yX4_isCat yX4_isCat ∈ TT := tms_1 (List.mem_of_getElem? (i := 1) rfl) rfl
theorem tw1_221 : Cond.code yX4_isCat cX4_isCat 2 (some .boolean) ∈ TT := tmb_1 (List.mem_of_getElem? (i := 221) rfl) rfl
theorem tw1_222 : Cond.methodLink RX4 80 yX0_errs ∈ TT := tmb_1 (List.mem_of_getElem? (i := 222) rfl) rfl
theorem tw1_223 : Cond.instanceMethod yX0_errs ∈ TT := tmb_1 (List.mem_of_getElem? (i := 223) rfl) rfl
theorem tw1_224 : Cond.selects RX0 yX0_errs yX0_errs ∈ TT := tmb_1 (List.mem_of_getElem? (i := 224) rfl) rfl
theorem tw1_225 : Cond.code yX0_errs cX0_errs 3 (some .int) ∈ TT := tmb_1 (List.mem_of_getElem? (i := 225) rfl) rfl
theorem tw1_226 : Cond.methodLink RX0 74 yX0_errsAs ∈ TT := tmb_1 (List.mem_of_getElem? (i := 226) rfl) rfl
theorem tw1_227 : Cond.instanceMethod yX0_errsAs ∈ TT := tmb_1 (List.mem_of_getElem? (i := 227) rfl) rfl
theorem tw1_228 : Cond.selects RX0 yX0_errsAs yX0_errsAs ∈ TT := tmb_1 (List.mem_of_getElem? (i := 228) rfl) rfl
theorem tw1_229 : Cond.code yX0_errsAs cX0_errsAs 11 (some .int) ∈ TT := tmb_1 (List.mem_of_getElem? (i := 229) rfl) rfl
theorem tw1_230 : Cond.methodLink RX0 68 Lib.Math.min.name ∈ TT := tmb_1 (List.mem_of_getElem? (i := 230) rfl) rfl
theorem tw1_231 : Cond.static Lib.Math.min.name ∈ TT := tmb_1 (List.mem_of_getElem? (i := 231) rfl) rfl
theorem tw1_8 : Cond.initialized "java/lang/Math" ∈ TT := tmb_1 (List.mem_of_getElem? (i := 8) rfl) rfl
theorem tw1_232 : Cond.code Lib.Math.min.name Lib.Math.min.code 2 (some .int) ∈ TT := tmb_1 (List.mem_of_getElem? (i := 232) rfl) rfl
theorem tw1_62 : Cond.fieldLink RX0 65 "NavyOfCats$Navy" "watch" "I" ∈ TT := tmb_1 (List.mem_of_getElem? (i := 62) rfl) rfl
theorem tw1_56 : Cond.fieldLink RX0 62 "NavyOfCats$Navy" "fishWatches" "I" ∈ TT := tmb_1 (List.mem_of_getElem? (i := 56) rfl) rfl
theorem tw4_185 : Cond.methodLink RL 22 yX5_of ∈ TT := tmb_4 (List.mem_of_getElem? (i := 185) rfl) rfl
theorem tw4_186 : Cond.instanceMethod yX5_of ∈ TT := tmb_4 (List.mem_of_getElem? (i := 186) rfl) rfl
theorem tw4_187 : Cond.selects RX5 yX5_of yX5_of ∈ TT := tmb_4 (List.mem_of_getElem? (i := 187) rfl) rfl
theorem tw4_188 : Cond.code yX5_of cX5_of 3 (some .int) ∈ TT := tmb_4 (List.mem_of_getElem? (i := 188) rfl) rfl
theorem tw4_189 : Cond.methodLink RX5 105 yX5_isCat ∈ TT := tmb_4 (List.mem_of_getElem? (i := 189) rfl) rfl
theorem tw4_191 : Cond.instanceMethod yX5_isCat ∈ TT := tmb_4 (List.mem_of_getElem? (i := 191) rfl) rfl
theorem ts2_1 : Cond.selects RX5 yX5_isCat yX5_isCat ∈ TT := tms_2 (List.mem_of_getElem? (i := 1) rfl) rfl
theorem tw4_192 : Cond.code yX5_isCat cX5_isCat 2 (some .boolean) ∈ TT := tmb_4 (List.mem_of_getElem? (i := 192) rfl) rfl
theorem tw4_193 : Cond.methodLink RX5 98 yX5_catIs ∈ TT := tmb_4 (List.mem_of_getElem? (i := 193) rfl) rfl
theorem tw4_195 : Cond.instanceMethod yX5_catIs ∈ TT := tmb_4 (List.mem_of_getElem? (i := 195) rfl) rfl
theorem ts2_2 : Cond.selects RX5 yX5_catIs yX5_catIs ∈ TT := tms_2 (List.mem_of_getElem? (i := 2) rfl) rfl
theorem tw4_196 : Cond.code yX5_catIs cX5_catIs 3 (some .int) ∈ TT := tmb_4 (List.mem_of_getElem? (i := 196) rfl) rfl
theorem tw4_197 : Cond.methodLink RX5 108 yX5_errs ∈ TT := tmb_4 (List.mem_of_getElem? (i := 197) rfl) rfl
theorem tw4_199 : Cond.instanceMethod yX5_errs ∈ TT := tmb_4 (List.mem_of_getElem? (i := 199) rfl) rfl
theorem ts2_3 : Cond.selects RX5 yX5_errs yX5_errs ∈ TT := tms_2 (List.mem_of_getElem? (i := 3) rfl) rfl
theorem tw4_200 : Cond.code yX5_errs cX5_errs 7 (some .int) ∈ TT := tmb_4 (List.mem_of_getElem? (i := 200) rfl) rfl
theorem tw4_201 : Cond.methodLink RX5 101 yX5_has ∈ TT := tmb_4 (List.mem_of_getElem? (i := 201) rfl) rfl
theorem tw4_202 : Cond.static yX5_has ∈ TT := tmb_4 (List.mem_of_getElem? (i := 202) rfl) rfl
theorem tw4_203 : Cond.code yX5_has cX5_has 2 (some .boolean) ∈ TT := tmb_4 (List.mem_of_getElem? (i := 203) rfl) rfl
theorem tw1_233 : Cond.methodLink RL 23 yX4_change ∈ TT := tmb_1 (List.mem_of_getElem? (i := 233) rfl) rfl
theorem tw1_234 : Cond.instanceMethod yX4_change ∈ TT := tmb_1 (List.mem_of_getElem? (i := 234) rfl) rfl
theorem tw1_235 : Cond.selects RX4 yX4_change yX4_change ∈ TT := tmb_1 (List.mem_of_getElem? (i := 235) rfl) rfl
theorem tw1_236 : Cond.code yX4_change cX4_change 4 (some .int) ∈ TT := tmb_1 (List.mem_of_getElem? (i := 236) rfl) rfl
theorem tw1_237 : Cond.methodLink RX4 84 yX4_put ∈ TT := tmb_1 (List.mem_of_getElem? (i := 237) rfl) rfl
theorem tw1_238 : Cond.static yX4_put ∈ TT := tmb_1 (List.mem_of_getElem? (i := 238) rfl) rfl
theorem tw1_239 : Cond.code yX4_put cX4_put 4 (some .int) ∈ TT := tmb_1 (List.mem_of_getElem? (i := 239) rfl) rfl
theorem tw4_204 : Cond.methodLink RL 27 yX5_change ∈ TT := tmb_4 (List.mem_of_getElem? (i := 204) rfl) rfl
theorem tw4_205 : Cond.instanceMethod yX5_change ∈ TT := tmb_4 (List.mem_of_getElem? (i := 205) rfl) rfl
theorem tw4_206 : Cond.selects RX5 yX5_change yX5_change ∈ TT := tmb_4 (List.mem_of_getElem? (i := 206) rfl) rfl
theorem tw4_207 : Cond.code yX5_change cX5_change 5 (some .int) ∈ TT := tmb_4 (List.mem_of_getElem? (i := 207) rfl) rfl
theorem tw4_208 : Cond.methodLink RX5 111 yX5_become ∈ TT := tmb_4 (List.mem_of_getElem? (i := 208) rfl) rfl
theorem tw4_210 : Cond.instanceMethod yX5_become ∈ TT := tmb_4 (List.mem_of_getElem? (i := 210) rfl) rfl
theorem ts2_4 : Cond.selects RX5 yX5_become yX5_become ∈ TT := tms_2 (List.mem_of_getElem? (i := 4) rfl) rfl
theorem tw4_211 : Cond.code yX5_become cX5_become 4 (some .int) ∈ TT := tmb_4 (List.mem_of_getElem? (i := 211) rfl) rfl
theorem tw2_0 : Cond.methodLink RL 28 yX4_ship ∈ TT := tmb_2 (List.mem_of_getElem? (i := 0) rfl) rfl
theorem tw2_1 : Cond.instanceMethod yX4_ship ∈ TT := tmb_2 (List.mem_of_getElem? (i := 1) rfl) rfl
theorem tw2_2 : Cond.selects RX4 yX4_ship yX4_ship ∈ TT := tmb_2 (List.mem_of_getElem? (i := 2) rfl) rfl
theorem tw2_3 : Cond.code yX4_ship cX4_ship 3 (some .int) ∈ TT := tmb_2 (List.mem_of_getElem? (i := 3) rfl) rfl
theorem tw1_42 : Cond.fieldLink RX4 95 "NavyOfCats$Navy" "cellOf" "[I" ∈ TT := tmb_1 (List.mem_of_getElem? (i := 42) rfl) rfl
theorem tw1_45 : Cond.fieldLink RX4 98 "NavyOfCats$Navy" "orderOf" "[I" ∈ TT := tmb_1 (List.mem_of_getElem? (i := 45) rfl) rfl
theorem tw1_48 : Cond.fieldLink RX4 101 "NavyOfCats$Navy" "aboardOf" "[I" ∈ TT := tmb_1 (List.mem_of_getElem? (i := 48) rfl) rfl
theorem tw2_4 : Cond.methodLink RX4 92 yX4_isShip ∈ TT := tmb_2 (List.mem_of_getElem? (i := 4) rfl) rfl
theorem tw2_5 : Cond.static yX4_isShip ∈ TT := tmb_2 (List.mem_of_getElem? (i := 5) rfl) rfl
theorem tw2_6 : Cond.code yX4_isShip cX4_isShip 1 (some .boolean) ∈ TT := tmb_2 (List.mem_of_getElem? (i := 6) rfl) rfl
theorem tw2_7 : Cond.methodLink RX4 104 yX0_meanOf ∈ TT := tmb_2 (List.mem_of_getElem? (i := 7) rfl) rfl
theorem tw2_8 : Cond.instanceMethod yX0_meanOf ∈ TT := tmb_2 (List.mem_of_getElem? (i := 8) rfl) rfl
theorem tw2_9 : Cond.selects RX0 yX0_meanOf yX0_meanOf ∈ TT := tmb_2 (List.mem_of_getElem? (i := 9) rfl) rfl
theorem tw2_10 : Cond.code yX0_meanOf cX0_meanOf 6 (some .int) ∈ TT := tmb_2 (List.mem_of_getElem? (i := 10) rfl) rfl
theorem tw2_12 : Cond.static yX4_isIn ∈ TT := tmb_2 (List.mem_of_getElem? (i := 12) rfl) rfl
theorem tw2_13 : Cond.code yX4_isIn cX4_isIn 2 (some .boolean) ∈ TT := tmb_2 (List.mem_of_getElem? (i := 13) rfl) rfl
theorem tw2_14 : Cond.methodLink RX4 107 yX4_course ∈ TT := tmb_2 (List.mem_of_getElem? (i := 14) rfl) rfl
theorem tw2_15 : Cond.static yX4_course ∈ TT := tmb_2 (List.mem_of_getElem? (i := 15) rfl) rfl
theorem tw2_16 : Cond.code yX4_course cX4_course 2 (some .int) ∈ TT := tmb_2 (List.mem_of_getElem? (i := 16) rfl) rfl
theorem tw2_17 : Cond.methodLink RX4 306 yJ9_floorMod_7cf53 ∈ TT := tmb_2 (List.mem_of_getElem? (i := 17) rfl) rfl
theorem tw2_18 : Cond.static yJ9_floorMod_7cf53 ∈ TT := tmb_2 (List.mem_of_getElem? (i := 18) rfl) rfl
theorem tw2_19 : Cond.code yJ9_floorMod_7cf53 cJ9_floorMod_7cf53 3 (some .int) ∈ TT := tmb_2 (List.mem_of_getElem? (i := 19) rfl) rfl
theorem tw2_20 : Cond.methodLink RX4 110 yX0_nextOf ∈ TT := tmb_2 (List.mem_of_getElem? (i := 20) rfl) rfl
theorem tw2_21 : Cond.instanceMethod yX0_nextOf ∈ TT := tmb_2 (List.mem_of_getElem? (i := 21) rfl) rfl
theorem tw2_22 : Cond.selects RX0 yX0_nextOf yX0_nextOf ∈ TT := tmb_2 (List.mem_of_getElem? (i := 22) rfl) rfl
theorem tw2_23 : Cond.code yX0_nextOf cX0_nextOf 4 (some .int) ∈ TT := tmb_2 (List.mem_of_getElem? (i := 23) rfl) rfl
theorem tw1_53 : Cond.fieldLink RX0 59 "NavyOfCats$Navy" "windNow" "I" ∈ TT := tmb_1 (List.mem_of_getElem? (i := 53) rfl) rfl
theorem tw2_24 : Cond.methodLink RX0 82 yX0_meanOf ∈ TT := tmb_2 (List.mem_of_getElem? (i := 24) rfl) rfl
theorem tw2_26 : Cond.methodLink RX0 88 yX0_nextBy ∈ TT := tmb_2 (List.mem_of_getElem? (i := 26) rfl) rfl
theorem tw2_27 : Cond.instanceMethod yX0_nextBy ∈ TT := tmb_2 (List.mem_of_getElem? (i := 27) rfl) rfl
theorem tw2_28 : Cond.selects RX0 yX0_nextBy yX0_nextBy ∈ TT := tmb_2 (List.mem_of_getElem? (i := 28) rfl) rfl
theorem tw2_29 : Cond.code yX0_nextBy cX0_nextBy 5 (some .int) ∈ TT := tmb_2 (List.mem_of_getElem? (i := 29) rfl) rfl
theorem tw2_31 : Cond.static yX4_heading ∈ TT := tmb_2 (List.mem_of_getElem? (i := 31) rfl) rfl
theorem tw2_32 : Cond.code yX4_heading cX4_heading 1 (some .int) ∈ TT := tmb_2 (List.mem_of_getElem? (i := 32) rfl) rfl
theorem tw2_34 : Cond.static yX4_beside ∈ TT := tmb_2 (List.mem_of_getElem? (i := 34) rfl) rfl
theorem tw2_35 : Cond.code yX4_beside cX4_beside 4 (some .int) ∈ TT := tmb_2 (List.mem_of_getElem? (i := 35) rfl) rfl
theorem tw2_36 : Cond.fieldLink RX4 309 "NavyOfCats" "ROWS_ON" "[I" ∈ TT := tmb_2 (List.mem_of_getElem? (i := 36) rfl) rfl
theorem tw2_38 : Cond.fieldLink RX4 312 "NavyOfCats" "COLUMNS_ON" "[I" ∈ TT := tmb_2 (List.mem_of_getElem? (i := 38) rfl) rfl
theorem tw2_40 : Cond.methodLink RX4 113 yX0_isLanded ∈ TT := tmb_2 (List.mem_of_getElem? (i := 40) rfl) rfl
theorem tw2_41 : Cond.instanceMethod yX0_isLanded ∈ TT := tmb_2 (List.mem_of_getElem? (i := 41) rfl) rfl
theorem tw2_42 : Cond.selects RX0 yX0_isLanded yX0_isLanded ∈ TT := tmb_2 (List.mem_of_getElem? (i := 42) rfl) rfl
theorem tw2_43 : Cond.code yX0_isLanded cX0_isLanded 2 (some .boolean) ∈ TT := tmb_2 (List.mem_of_getElem? (i := 43) rfl) rfl
theorem tw4_212 : Cond.methodLink RL 31 yX5_ship ∈ TT := tmb_4 (List.mem_of_getElem? (i := 212) rfl) rfl
theorem tw4_213 : Cond.instanceMethod yX5_ship ∈ TT := tmb_4 (List.mem_of_getElem? (i := 213) rfl) rfl
theorem tw4_214 : Cond.selects RX5 yX5_ship yX5_ship ∈ TT := tmb_4 (List.mem_of_getElem? (i := 214) rfl) rfl
theorem tw4_215 : Cond.code yX5_ship cX5_ship 3 (some .int) ∈ TT := tmb_4 (List.mem_of_getElem? (i := 215) rfl) rfl
theorem tw4_216 : Cond.methodLink RX5 138 yX5_isShip ∈ TT := tmb_4 (List.mem_of_getElem? (i := 216) rfl) rfl
theorem tw4_217 : Cond.static yX5_isShip ∈ TT := tmb_4 (List.mem_of_getElem? (i := 217) rfl) rfl
theorem tw4_218 : Cond.code yX5_isShip cX5_isShip 1 (some .boolean) ∈ TT := tmb_4 (List.mem_of_getElem? (i := 218) rfl) rfl
theorem tw4_219 : Cond.methodLink RX5 123 yX5_reads ∈ TT := tmb_4 (List.mem_of_getElem? (i := 219) rfl) rfl
theorem tw4_221 : Cond.instanceMethod yX5_reads ∈ TT := tmb_4 (List.mem_of_getElem? (i := 221) rfl) rfl
theorem ts2_5 : Cond.selects RX5 yX5_reads yX5_reads ∈ TT := tms_2 (List.mem_of_getElem? (i := 5) rfl) rfl
theorem tw4_222 : Cond.code yX5_reads cX5_reads 2 (some .int) ∈ TT := tmb_4 (List.mem_of_getElem? (i := 222) rfl) rfl
theorem tw4_223 : Cond.methodLink RX5 117 yX5_shipIs ∈ TT := tmb_4 (List.mem_of_getElem? (i := 223) rfl) rfl
theorem tw4_225 : Cond.instanceMethod yX5_shipIs ∈ TT := tmb_4 (List.mem_of_getElem? (i := 225) rfl) rfl
theorem ts2_6 : Cond.selects RX5 yX5_shipIs yX5_shipIs ∈ TT := tms_2 (List.mem_of_getElem? (i := 6) rfl) rfl
theorem tw4_226 : Cond.code yX5_shipIs cX5_shipIs 3 (some .int) ∈ TT := tmb_4 (List.mem_of_getElem? (i := 226) rfl) rfl
theorem tw4_227 : Cond.methodLink RX5 79 yX5_atShip ∈ TT := tmb_4 (List.mem_of_getElem? (i := 227) rfl) rfl
theorem tw4_228 : Cond.static yX5_atShip ∈ TT := tmb_4 (List.mem_of_getElem? (i := 228) rfl) rfl
theorem tw4_229 : Cond.code yX5_atShip cX5_atShip 2 (some .int) ∈ TT := tmb_4 (List.mem_of_getElem? (i := 229) rfl) rfl
theorem tw4_230 : Cond.methodLink RX5 120 yX5_meanOf ∈ TT := tmb_4 (List.mem_of_getElem? (i := 230) rfl) rfl
theorem tw4_232 : Cond.instanceMethod yX5_meanOf ∈ TT := tmb_4 (List.mem_of_getElem? (i := 232) rfl) rfl
theorem ts2_7 : Cond.selects RX5 yX5_meanOf yX5_meanOf ∈ TT := tms_2 (List.mem_of_getElem? (i := 7) rfl) rfl
theorem tw4_233 : Cond.code yX5_meanOf cX5_meanOf 4 (some .int) ∈ TT := tmb_4 (List.mem_of_getElem? (i := 233) rfl) rfl
theorem tw4_234 : Cond.methodLink RX5 114 yX5_bits ∈ TT := tmb_4 (List.mem_of_getElem? (i := 234) rfl) rfl
theorem tw4_235 : Cond.static yX5_bits ∈ TT := tmb_4 (List.mem_of_getElem? (i := 235) rfl) rfl
theorem tw4_236 : Cond.code yX5_bits cX5_bits 3 (some .int) ∈ TT := tmb_4 (List.mem_of_getElem? (i := 236) rfl) rfl
theorem tw4_237 : Cond.methodLink RX5 129 yX5_course ∈ TT := tmb_4 (List.mem_of_getElem? (i := 237) rfl) rfl
theorem tw4_239 : Cond.instanceMethod yX5_course ∈ TT := tmb_4 (List.mem_of_getElem? (i := 239) rfl) rfl
theorem ts2_8 : Cond.selects RX5 yX5_course yX5_course ∈ TT := tms_2 (List.mem_of_getElem? (i := 8) rfl) rfl
theorem tw5_0 : Cond.code yX5_course cX5_course 3 (some .int) ∈ TT := tmb_5 (List.mem_of_getElem? (i := 0) rfl) rfl
theorem tw5_1 : Cond.methodLink RX5 141 yX5_goesTo ∈ TT := tmb_5 (List.mem_of_getElem? (i := 1) rfl) rfl
theorem tw5_3 : Cond.instanceMethod yX5_goesTo ∈ TT := tmb_5 (List.mem_of_getElem? (i := 3) rfl) rfl
theorem ts2_9 : Cond.selects RX5 yX5_goesTo yX5_goesTo ∈ TT := tms_2 (List.mem_of_getElem? (i := 9) rfl) rfl
theorem tw5_4 : Cond.code yX5_goesTo cX5_goesTo 4 (some .int) ∈ TT := tmb_5 (List.mem_of_getElem? (i := 4) rfl) rfl
theorem tw5_5 : Cond.methodLink RX5 132 yX5_isLanded ∈ TT := tmb_5 (List.mem_of_getElem? (i := 5) rfl) rfl
theorem tw5_7 : Cond.instanceMethod yX5_isLanded ∈ TT := tmb_5 (List.mem_of_getElem? (i := 7) rfl) rfl
theorem ts2_10 : Cond.selects RX5 yX5_isLanded yX5_isLanded ∈ TT := tms_2 (List.mem_of_getElem? (i := 10) rfl) rfl
theorem tw5_8 : Cond.code yX5_isLanded cX5_isLanded 2 (some .boolean) ∈ TT := tmb_5 (List.mem_of_getElem? (i := 8) rfl) rfl
theorem tw5_9 : Cond.methodLink RX5 126 yX5_isIsland ∈ TT := tmb_5 (List.mem_of_getElem? (i := 9) rfl) rfl
theorem tw5_11 : Cond.instanceMethod yX5_isIsland ∈ TT := tmb_5 (List.mem_of_getElem? (i := 11) rfl) rfl
theorem ts2_11 : Cond.selects RX5 yX5_isIsland yX5_isIsland ∈ TT := tms_2 (List.mem_of_getElem? (i := 11) rfl) rfl
theorem tw5_12 : Cond.code yX5_isIsland cX5_isIsland 2 (some .boolean) ∈ TT := tmb_5 (List.mem_of_getElem? (i := 12) rfl) rfl
theorem tw5_13 : Cond.methodLink RX5 135 yX5_beside ∈ TT := tmb_5 (List.mem_of_getElem? (i := 13) rfl) rfl
theorem tw5_15 : Cond.instanceMethod yX5_beside ∈ TT := tmb_5 (List.mem_of_getElem? (i := 15) rfl) rfl
theorem ts2_12 : Cond.selects RX5 yX5_beside yX5_beside ∈ TT := tms_2 (List.mem_of_getElem? (i := 12) rfl) rfl
theorem tw5_16 : Cond.code yX5_beside cX5_beside 5 (some .int) ∈ TT := tmb_5 (List.mem_of_getElem? (i := 16) rfl) rfl
theorem tw2_44 : Cond.methodLink RL 32 yX4_steer ∈ TT := tmb_2 (List.mem_of_getElem? (i := 44) rfl) rfl
theorem tw2_45 : Cond.instanceMethod yX4_steer ∈ TT := tmb_2 (List.mem_of_getElem? (i := 45) rfl) rfl
theorem tw2_46 : Cond.selects RX4 yX4_steer yX4_steer ∈ TT := tmb_2 (List.mem_of_getElem? (i := 46) rfl) rfl
theorem tw2_47 : Cond.code yX4_steer cX4_steer 4 (some .int) ∈ TT := tmb_2 (List.mem_of_getElem? (i := 47) rfl) rfl
theorem tw2_48 : Cond.methodLink RX4 116 yX4_isCell ∈ TT := tmb_2 (List.mem_of_getElem? (i := 48) rfl) rfl
theorem tw2_49 : Cond.static yX4_isCell ∈ TT := tmb_2 (List.mem_of_getElem? (i := 49) rfl) rfl
theorem tw2_50 : Cond.code yX4_isCell cX4_isCell 1 (some .boolean) ∈ TT := tmb_2 (List.mem_of_getElem? (i := 50) rfl) rfl
theorem tw2_51 : Cond.methodLink RX4 119 yX4_isSetOfCats ∈ TT := tmb_2 (List.mem_of_getElem? (i := 51) rfl) rfl
theorem tw2_53 : Cond.instanceMethod yX4_isSetOfCats ∈ TT := tmb_2 (List.mem_of_getElem? (i := 53) rfl) rfl
theorem ts1_2 : Cond.selects RX4 yX4_isSetOfCats yX4_isSetOfCats ∈ TT := tms_1 (List.mem_of_getElem? (i := 2) rfl) rfl
theorem tw2_54 : Cond.code yX4_isSetOfCats cX4_isSetOfCats 2 (some .boolean) ∈ TT := tmb_2 (List.mem_of_getElem? (i := 54) rfl) rfl
theorem tw5_17 : Cond.methodLink RL 35 yX5_steer ∈ TT := tmb_5 (List.mem_of_getElem? (i := 17) rfl) rfl
theorem tw5_18 : Cond.instanceMethod yX5_steer ∈ TT := tmb_5 (List.mem_of_getElem? (i := 18) rfl) rfl
theorem tw5_19 : Cond.selects RX5 yX5_steer yX5_steer ∈ TT := tmb_5 (List.mem_of_getElem? (i := 19) rfl) rfl
theorem tw5_20 : Cond.code yX5_steer cX5_steer 5 (some .int) ∈ TT := tmb_5 (List.mem_of_getElem? (i := 20) rfl) rfl
theorem tw5_21 : Cond.methodLink RX5 144 yX5_isCell ∈ TT := tmb_5 (List.mem_of_getElem? (i := 21) rfl) rfl
theorem tw5_22 : Cond.static yX5_isCell ∈ TT := tmb_5 (List.mem_of_getElem? (i := 22) rfl) rfl
theorem tw5_23 : Cond.code yX5_isCell cX5_isCell 1 (some .boolean) ∈ TT := tmb_5 (List.mem_of_getElem? (i := 23) rfl) rfl
theorem tw5_24 : Cond.methodLink RX5 147 yX5_areCats ∈ TT := tmb_5 (List.mem_of_getElem? (i := 24) rfl) rfl
theorem tw5_26 : Cond.instanceMethod yX5_areCats ∈ TT := tmb_5 (List.mem_of_getElem? (i := 26) rfl) rfl
theorem ts2_13 : Cond.selects RX5 yX5_areCats yX5_areCats ∈ TT := tms_2 (List.mem_of_getElem? (i := 13) rfl) rfl
theorem tw5_27 : Cond.code yX5_areCats cX5_areCats 2 (some .boolean) ∈ TT := tmb_5 (List.mem_of_getElem? (i := 27) rfl) rfl
theorem tw2_55 : Cond.methodLink RL 36 yX4_island ∈ TT := tmb_2 (List.mem_of_getElem? (i := 55) rfl) rfl
theorem tw2_56 : Cond.instanceMethod yX4_island ∈ TT := tmb_2 (List.mem_of_getElem? (i := 56) rfl) rfl
theorem tw2_57 : Cond.selects RX4 yX4_island yX4_island ∈ TT := tmb_2 (List.mem_of_getElem? (i := 57) rfl) rfl
theorem tw2_58 : Cond.code yX4_island cX4_island 4 (some .int) ∈ TT := tmb_2 (List.mem_of_getElem? (i := 58) rfl) rfl
theorem tw1_51 : Cond.fieldLink RX4 122 "NavyOfCats$Navy" "isIsland" "[Z" ∈ TT := tmb_1 (List.mem_of_getElem? (i := 51) rfl) rfl
theorem tw5_28 : Cond.methodLink RL 39 yX5_island ∈ TT := tmb_5 (List.mem_of_getElem? (i := 28) rfl) rfl
theorem tw5_29 : Cond.instanceMethod yX5_island ∈ TT := tmb_5 (List.mem_of_getElem? (i := 29) rfl) rfl
theorem tw5_30 : Cond.selects RX5 yX5_island yX5_island ∈ TT := tmb_5 (List.mem_of_getElem? (i := 30) rfl) rfl
theorem tw5_31 : Cond.code yX5_island cX5_island 3 (some .int) ∈ TT := tmb_5 (List.mem_of_getElem? (i := 31) rfl) rfl
theorem tw2_59 : Cond.methodLink RL 40 yX4_wind ∈ TT := tmb_2 (List.mem_of_getElem? (i := 59) rfl) rfl
theorem tw2_60 : Cond.instanceMethod yX4_wind ∈ TT := tmb_2 (List.mem_of_getElem? (i := 60) rfl) rfl
theorem tw2_61 : Cond.selects RX4 yX4_wind yX4_wind ∈ TT := tmb_2 (List.mem_of_getElem? (i := 61) rfl) rfl
theorem tw2_62 : Cond.code yX4_wind cX4_wind 3 (some .int) ∈ TT := tmb_2 (List.mem_of_getElem? (i := 62) rfl) rfl
theorem tw1_54 : Cond.fieldLink RX4 126 "NavyOfCats$Navy" "windNow" "I" ∈ TT := tmb_1 (List.mem_of_getElem? (i := 54) rfl) rfl
theorem tw5_32 : Cond.methodLink RL 43 yX5_wind ∈ TT := tmb_5 (List.mem_of_getElem? (i := 32) rfl) rfl
theorem tw5_33 : Cond.instanceMethod yX5_wind ∈ TT := tmb_5 (List.mem_of_getElem? (i := 33) rfl) rfl
theorem tw5_34 : Cond.selects RX5 yX5_wind yX5_wind ∈ TT := tmb_5 (List.mem_of_getElem? (i := 34) rfl) rfl
theorem tw5_35 : Cond.code yX5_wind cX5_wind 2 (some .int) ∈ TT := tmb_5 (List.mem_of_getElem? (i := 35) rfl) rfl
theorem tw2_63 : Cond.methodLink RL 44 yX4_fish ∈ TT := tmb_2 (List.mem_of_getElem? (i := 63) rfl) rfl
theorem tw2_64 : Cond.instanceMethod yX4_fish ∈ TT := tmb_2 (List.mem_of_getElem? (i := 64) rfl) rfl
theorem tw2_65 : Cond.selects RX4 yX4_fish yX4_fish ∈ TT := tmb_2 (List.mem_of_getElem? (i := 65) rfl) rfl
theorem tw2_66 : Cond.code yX4_fish cX4_fish 3 (some .int) ∈ TT := tmb_2 (List.mem_of_getElem? (i := 66) rfl) rfl
theorem tw2_67 : Cond.constant RX4 129 (65535) ∈ TT := tmb_2 (List.mem_of_getElem? (i := 67) rfl) rfl
theorem tw1_57 : Cond.fieldLink RX4 130 "NavyOfCats$Navy" "fishWatches" "I" ∈ TT := tmb_1 (List.mem_of_getElem? (i := 57) rfl) rfl
theorem tw5_36 : Cond.methodLink RL 47 yX5_fish ∈ TT := tmb_5 (List.mem_of_getElem? (i := 36) rfl) rfl
theorem tw5_37 : Cond.instanceMethod yX5_fish ∈ TT := tmb_5 (List.mem_of_getElem? (i := 37) rfl) rfl
theorem tw5_38 : Cond.selects RX5 yX5_fish yX5_fish ∈ TT := tmb_5 (List.mem_of_getElem? (i := 38) rfl) rfl
theorem tw5_39 : Cond.code yX5_fish cX5_fish 2 (some .int) ∈ TT := tmb_5 (List.mem_of_getElem? (i := 39) rfl) rfl
theorem tw5_40 : Cond.constant RX5 150 (65535) ∈ TT := tmb_5 (List.mem_of_getElem? (i := 40) rfl) rfl
theorem tw2_68 : Cond.methodLink RL 48 yX4_store ∈ TT := tmb_2 (List.mem_of_getElem? (i := 68) rfl) rfl
theorem tw2_69 : Cond.instanceMethod yX4_store ∈ TT := tmb_2 (List.mem_of_getElem? (i := 69) rfl) rfl
theorem tw2_70 : Cond.selects RX4 yX4_store yX4_store ∈ TT := tmb_2 (List.mem_of_getElem? (i := 70) rfl) rfl
theorem tw2_71 : Cond.code yX4_store cX4_store 3 (some .int) ∈ TT := tmb_2 (List.mem_of_getElem? (i := 71) rfl) rfl
theorem tw1_61 : Cond.fieldLink RX4 133 "NavyOfCats$Navy" "stored" "I" ∈ TT := tmb_1 (List.mem_of_getElem? (i := 61) rfl) rfl
theorem tw5_41 : Cond.methodLink RL 51 yX5_store ∈ TT := tmb_5 (List.mem_of_getElem? (i := 41) rfl) rfl
theorem tw5_42 : Cond.instanceMethod yX5_store ∈ TT := tmb_5 (List.mem_of_getElem? (i := 42) rfl) rfl
theorem tw5_43 : Cond.selects RX5 yX5_store yX5_store ∈ TT := tmb_5 (List.mem_of_getElem? (i := 43) rfl) rfl
theorem tw5_44 : Cond.code yX5_store cX5_store 2 (some .int) ∈ TT := tmb_5 (List.mem_of_getElem? (i := 44) rfl) rfl
theorem tw2_72 : Cond.methodLink RL 52 yX4_go ∈ TT := tmb_2 (List.mem_of_getElem? (i := 72) rfl) rfl
theorem tw2_73 : Cond.instanceMethod yX4_go ∈ TT := tmb_2 (List.mem_of_getElem? (i := 73) rfl) rfl
theorem tw2_74 : Cond.selects RX4 yX4_go yX4_go ∈ TT := tmb_2 (List.mem_of_getElem? (i := 74) rfl) rfl
theorem tw2_75 : Cond.code yX4_go cX4_go 3 (some .int) ∈ TT := tmb_2 (List.mem_of_getElem? (i := 75) rfl) rfl
theorem tw1_63 : Cond.fieldLink RX4 136 "NavyOfCats$Navy" "watch" "I" ∈ TT := tmb_1 (List.mem_of_getElem? (i := 63) rfl) rfl
theorem tw2_76 : Cond.constant RX4 139 (99999) ∈ TT := tmb_2 (List.mem_of_getElem? (i := 76) rfl) rfl
theorem tw2_77 : Cond.constant RX4 140 (-1000005) ∈ TT := tmb_2 (List.mem_of_getElem? (i := 77) rfl) rfl
theorem tw2_78 : Cond.methodLink RX4 141 yX0_passWatch ∈ TT := tmb_2 (List.mem_of_getElem? (i := 78) rfl) rfl
theorem tw2_79 : Cond.instanceMethod yX0_passWatch ∈ TT := tmb_2 (List.mem_of_getElem? (i := 79) rfl) rfl
theorem tw2_80 : Cond.selects RX0 yX0_passWatch yX0_passWatch ∈ TT := tmb_2 (List.mem_of_getElem? (i := 80) rfl) rfl
theorem tw2_81 : Cond.code yX0_passWatch cX0_passWatch 2 none ∈ TT := tmb_2 (List.mem_of_getElem? (i := 81) rfl) rfl
theorem tw2_82 : Cond.methodLink RX0 99 yX0_nextOf ∈ TT := tmb_2 (List.mem_of_getElem? (i := 82) rfl) rfl
theorem tw2_83 : Cond.methodLink RX4 144 yX0_landedShips ∈ TT := tmb_2 (List.mem_of_getElem? (i := 83) rfl) rfl
theorem tw2_84 : Cond.instanceMethod yX0_landedShips ∈ TT := tmb_2 (List.mem_of_getElem? (i := 84) rfl) rfl
theorem tw2_85 : Cond.selects RX0 yX0_landedShips yX0_landedShips ∈ TT := tmb_2 (List.mem_of_getElem? (i := 85) rfl) rfl
theorem tw2_86 : Cond.code yX0_landedShips cX0_landedShips 3 (some .int) ∈ TT := tmb_2 (List.mem_of_getElem? (i := 86) rfl) rfl
theorem tw2_87 : Cond.methodLink RX0 102 yX0_isLanded ∈ TT := tmb_2 (List.mem_of_getElem? (i := 87) rfl) rfl
theorem tw2_88 : Cond.methodLink RX4 148 yJ6_bitCount_0f7a4 ∈ TT := tmb_2 (List.mem_of_getElem? (i := 88) rfl) rfl
theorem tw2_89 : Cond.static yJ6_bitCount_0f7a4 ∈ TT := tmb_2 (List.mem_of_getElem? (i := 89) rfl) rfl
theorem tw1_9 : Cond.initialized RJ6 ∈ TT := tmb_1 (List.mem_of_getElem? (i := 9) rfl) rfl
theorem tw2_90 : Cond.code yJ6_bitCount_0f7a4 cJ6_bitCount_0f7a4 1 (some .int) ∈ TT := tmb_2 (List.mem_of_getElem? (i := 90) rfl) rfl
theorem tw2_91 : Cond.constant RJ6 265 (1431655765) ∈ TT := tmb_2 (List.mem_of_getElem? (i := 91) rfl) rfl
theorem tw2_92 : Cond.constant RJ6 266 (858993459) ∈ TT := tmb_2 (List.mem_of_getElem? (i := 92) rfl) rfl
theorem tw2_93 : Cond.constant RJ6 267 (252645135) ∈ TT := tmb_2 (List.mem_of_getElem? (i := 93) rfl) rfl
theorem tw5_45 : Cond.methodLink RL 55 yX5_go ∈ TT := tmb_5 (List.mem_of_getElem? (i := 45) rfl) rfl
theorem tw5_46 : Cond.instanceMethod yX5_go ∈ TT := tmb_5 (List.mem_of_getElem? (i := 46) rfl) rfl
theorem tw5_47 : Cond.selects RX5 yX5_go yX5_go ∈ TT := tmb_5 (List.mem_of_getElem? (i := 47) rfl) rfl
theorem tw5_48 : Cond.code yX5_go cX5_go 2 (some .int) ∈ TT := tmb_5 (List.mem_of_getElem? (i := 48) rfl) rfl
theorem tw5_49 : Cond.constant RX5 159 (99999) ∈ TT := tmb_5 (List.mem_of_getElem? (i := 49) rfl) rfl
theorem tw5_50 : Cond.constant RX5 160 (-1000005) ∈ TT := tmb_5 (List.mem_of_getElem? (i := 50) rfl) rfl
theorem tw5_51 : Cond.methodLink RX5 161 yX5_watches ∈ TT := tmb_5 (List.mem_of_getElem? (i := 51) rfl) rfl
theorem tw5_53 : Cond.instanceMethod yX5_watches ∈ TT := tmb_5 (List.mem_of_getElem? (i := 53) rfl) rfl
theorem ts2_14 : Cond.selects RX5 yX5_watches yX5_watches ∈ TT := tms_2 (List.mem_of_getElem? (i := 14) rfl) rfl
theorem tw5_54 : Cond.code yX5_watches cX5_watches 3 none ∈ TT := tmb_5 (List.mem_of_getElem? (i := 54) rfl) rfl
theorem tw5_55 : Cond.methodLink RX5 156 yX5_watch ∈ TT := tmb_5 (List.mem_of_getElem? (i := 55) rfl) rfl
theorem tw5_57 : Cond.instanceMethod yX5_watch ∈ TT := tmb_5 (List.mem_of_getElem? (i := 57) rfl) rfl
theorem ts2_15 : Cond.selects RX5 yX5_watch yX5_watch ∈ TT := tms_2 (List.mem_of_getElem? (i := 15) rfl) rfl
theorem tw5_58 : Cond.code yX5_watch cX5_watch 2 none ∈ TT := tmb_5 (List.mem_of_getElem? (i := 58) rfl) rfl
theorem tw5_59 : Cond.methodLink RX5 151 Lib.Math.min.name ∈ TT := tmb_5 (List.mem_of_getElem? (i := 59) rfl) rfl
theorem tw5_60 : Cond.methodLink RX5 165 yX5_landed ∈ TT := tmb_5 (List.mem_of_getElem? (i := 60) rfl) rfl
theorem tw5_62 : Cond.instanceMethod yX5_landed ∈ TT := tmb_5 (List.mem_of_getElem? (i := 62) rfl) rfl
theorem ts3_0 : Cond.selects RX5 yX5_landed yX5_landed ∈ TT := tms_3 (List.mem_of_getElem? (i := 0) rfl) rfl
theorem tw5_63 : Cond.code yX5_landed cX5_landed 3 (some .int) ∈ TT := tmb_5 (List.mem_of_getElem? (i := 63) rfl) rfl
theorem tw2_94 : Cond.methodLink RL 56 yX4_feeds ∈ TT := tmb_2 (List.mem_of_getElem? (i := 94) rfl) rfl
theorem tw2_95 : Cond.instanceMethod yX4_feeds ∈ TT := tmb_2 (List.mem_of_getElem? (i := 95) rfl) rfl
theorem tw2_96 : Cond.selects RX4 yX4_feeds yX4_feeds ∈ TT := tmb_2 (List.mem_of_getElem? (i := 96) rfl) rfl
theorem tw2_97 : Cond.code yX4_feeds cX4_feeds 4 (some .int) ∈ TT := tmb_2 (List.mem_of_getElem? (i := 97) rfl) rfl
theorem tw2_98 : Cond.methodLink RX4 153 yX4_isIn ∈ TT := tmb_2 (List.mem_of_getElem? (i := 98) rfl) rfl
theorem tw5_64 : Cond.methodLink RL 59 yX5_feeds ∈ TT := tmb_5 (List.mem_of_getElem? (i := 64) rfl) rfl
theorem tw5_65 : Cond.instanceMethod yX5_feeds ∈ TT := tmb_5 (List.mem_of_getElem? (i := 65) rfl) rfl
theorem tw5_66 : Cond.selects RX5 yX5_feeds yX5_feeds ∈ TT := tmb_5 (List.mem_of_getElem? (i := 66) rfl) rfl
theorem tw5_67 : Cond.code yX5_feeds cX5_feeds 3 (some .int) ∈ TT := tmb_5 (List.mem_of_getElem? (i := 67) rfl) rfl
theorem tw2_99 : Cond.methodLink RL 60 yX4_now ∈ TT := tmb_2 (List.mem_of_getElem? (i := 99) rfl) rfl
theorem tw2_100 : Cond.instanceMethod yX4_now ∈ TT := tmb_2 (List.mem_of_getElem? (i := 100) rfl) rfl
theorem tw2_101 : Cond.selects RX4 yX4_now yX4_now ∈ TT := tmb_2 (List.mem_of_getElem? (i := 101) rfl) rfl
theorem tw2_102 : Cond.code yX4_now cX4_now 2 (some .int) ∈ TT := tmb_2 (List.mem_of_getElem? (i := 102) rfl) rfl
theorem tw2_103 : Cond.methodLink RX4 157 yX0_greatestHunger ∈ TT := tmb_2 (List.mem_of_getElem? (i := 103) rfl) rfl
theorem tw2_104 : Cond.instanceMethod yX0_greatestHunger ∈ TT := tmb_2 (List.mem_of_getElem? (i := 104) rfl) rfl
theorem tw2_105 : Cond.selects RX0 yX0_greatestHunger yX0_greatestHunger ∈ TT := tmb_2 (List.mem_of_getElem? (i := 105) rfl) rfl
theorem tw2_106 : Cond.code yX0_greatestHunger cX0_greatestHunger 3 (some .int) ∈ TT := tmb_2 (List.mem_of_getElem? (i := 106) rfl) rfl
theorem tw2_107 : Cond.methodLink RX0 114 Lib.Math.max.name ∈ TT := tmb_2 (List.mem_of_getElem? (i := 107) rfl) rfl
theorem tw2_108 : Cond.static Lib.Math.max.name ∈ TT := tmb_2 (List.mem_of_getElem? (i := 108) rfl) rfl
theorem tw2_109 : Cond.code Lib.Math.max.name Lib.Math.max.code 2 (some .int) ∈ TT := tmb_2 (List.mem_of_getElem? (i := 109) rfl) rfl
theorem tw2_110 : Cond.methodLink RX4 160 yX0_islands ∈ TT := tmb_2 (List.mem_of_getElem? (i := 110) rfl) rfl
theorem tw2_111 : Cond.instanceMethod yX0_islands ∈ TT := tmb_2 (List.mem_of_getElem? (i := 111) rfl) rfl
theorem tw2_112 : Cond.selects RX0 yX0_islands yX0_islands ∈ TT := tmb_2 (List.mem_of_getElem? (i := 112) rfl) rfl
theorem tw2_113 : Cond.code yX0_islands cX0_islands 3 (some .int) ∈ TT := tmb_2 (List.mem_of_getElem? (i := 113) rfl) rfl
theorem tw5_68 : Cond.methodLink RL 63 yX5_now ∈ TT := tmb_5 (List.mem_of_getElem? (i := 68) rfl) rfl
theorem tw5_69 : Cond.instanceMethod yX5_now ∈ TT := tmb_5 (List.mem_of_getElem? (i := 69) rfl) rfl
theorem tw5_70 : Cond.selects RX5 yX5_now yX5_now ∈ TT := tmb_5 (List.mem_of_getElem? (i := 70) rfl) rfl
theorem tw5_71 : Cond.code yX5_now cX5_now 2 (some .int) ∈ TT := tmb_5 (List.mem_of_getElem? (i := 71) rfl) rfl
theorem tw5_72 : Cond.methodLink RX5 172 yX5_hungriest ∈ TT := tmb_5 (List.mem_of_getElem? (i := 72) rfl) rfl
theorem tw5_74 : Cond.instanceMethod yX5_hungriest ∈ TT := tmb_5 (List.mem_of_getElem? (i := 74) rfl) rfl
theorem ts3_1 : Cond.selects RX5 yX5_hungriest yX5_hungriest ∈ TT := tms_3 (List.mem_of_getElem? (i := 1) rfl) rfl
theorem tw5_75 : Cond.code yX5_hungriest cX5_hungriest 3 (some .int) ∈ TT := tmb_5 (List.mem_of_getElem? (i := 75) rfl) rfl
theorem tw5_76 : Cond.methodLink RX5 169 Lib.Math.max.name ∈ TT := tmb_5 (List.mem_of_getElem? (i := 76) rfl) rfl
theorem tw5_77 : Cond.methodLink RX5 175 yX5_islands ∈ TT := tmb_5 (List.mem_of_getElem? (i := 77) rfl) rfl
theorem tw5_79 : Cond.instanceMethod yX5_islands ∈ TT := tmb_5 (List.mem_of_getElem? (i := 79) rfl) rfl
theorem ts3_2 : Cond.selects RX5 yX5_islands yX5_islands ∈ TT := tms_3 (List.mem_of_getElem? (i := 2) rfl) rfl
theorem tw5_80 : Cond.code yX5_islands cX5_islands 3 (some .int) ∈ TT := tmb_5 (List.mem_of_getElem? (i := 80) rfl) rfl
theorem tw2_114 : Cond.methodLink RL 64 yX4_ahead ∈ TT := tmb_2 (List.mem_of_getElem? (i := 114) rfl) rfl
theorem tw2_115 : Cond.instanceMethod yX4_ahead ∈ TT := tmb_2 (List.mem_of_getElem? (i := 115) rfl) rfl
theorem tw2_116 : Cond.selects RX4 yX4_ahead yX4_ahead ∈ TT := tmb_2 (List.mem_of_getElem? (i := 116) rfl) rfl
theorem tw2_117 : Cond.code yX4_ahead cX4_ahead 3 (some .int) ∈ TT := tmb_2 (List.mem_of_getElem? (i := 117) rfl) rfl
theorem tw2_118 : Cond.methodLink RX4 163 yX0_cellBehind ∈ TT := tmb_2 (List.mem_of_getElem? (i := 118) rfl) rfl
theorem tw2_119 : Cond.instanceMethod yX0_cellBehind ∈ TT := tmb_2 (List.mem_of_getElem? (i := 119) rfl) rfl
theorem tw2_120 : Cond.selects RX0 yX0_cellBehind yX0_cellBehind ∈ TT := tmb_2 (List.mem_of_getElem? (i := 120) rfl) rfl
theorem tw2_121 : Cond.code yX0_cellBehind cX0_cellBehind 5 (some .int) ∈ TT := tmb_2 (List.mem_of_getElem? (i := 121) rfl) rfl
theorem tw5_81 : Cond.methodLink RL 67 yX5_ahead ∈ TT := tmb_5 (List.mem_of_getElem? (i := 81) rfl) rfl
theorem tw5_82 : Cond.instanceMethod yX5_ahead ∈ TT := tmb_5 (List.mem_of_getElem? (i := 82) rfl) rfl
theorem tw5_83 : Cond.selects RX5 yX5_ahead yX5_ahead ∈ TT := tmb_5 (List.mem_of_getElem? (i := 83) rfl) rfl
theorem tw5_84 : Cond.code yX5_ahead cX5_ahead 3 (some .int) ∈ TT := tmb_5 (List.mem_of_getElem? (i := 84) rfl) rfl
theorem tw5_85 : Cond.methodLink RX5 181 yX5_aheadOf ∈ TT := tmb_5 (List.mem_of_getElem? (i := 85) rfl) rfl
theorem tw5_87 : Cond.instanceMethod yX5_aheadOf ∈ TT := tmb_5 (List.mem_of_getElem? (i := 87) rfl) rfl
theorem ts3_3 : Cond.selects RX5 yX5_aheadOf yX5_aheadOf ∈ TT := tms_3 (List.mem_of_getElem? (i := 3) rfl) rfl
theorem tw5_88 : Cond.code yX5_aheadOf cX5_aheadOf 3 (some .int) ∈ TT := tmb_5 (List.mem_of_getElem? (i := 88) rfl) rfl
theorem tw5_89 : Cond.methodLink RX5 67 yX5_copyRow ∈ TT := tmb_5 (List.mem_of_getElem? (i := 89) rfl) rfl
theorem tw5_90 : Cond.static yX5_copyRow ∈ TT := tmb_5 (List.mem_of_getElem? (i := 90) rfl) rfl
theorem tw5_91 : Cond.code yX5_copyRow cX5_copyRow 3 none ∈ TT := tmb_5 (List.mem_of_getElem? (i := 91) rfl) rfl
theorem tw5_92 : Cond.methodLink RX5 178 yX5_putBack ∈ TT := tmb_5 (List.mem_of_getElem? (i := 92) rfl) rfl
theorem tw5_94 : Cond.instanceMethod yX5_putBack ∈ TT := tmb_5 (List.mem_of_getElem? (i := 94) rfl) rfl
theorem ts3_4 : Cond.selects RX5 yX5_putBack yX5_putBack ∈ TT := tms_3 (List.mem_of_getElem? (i := 4) rfl) rfl
theorem tw5_95 : Cond.code yX5_putBack cX5_putBack 2 (some .int) ∈ TT := tmb_5 (List.mem_of_getElem? (i := 95) rfl) rfl
theorem tw2_122 : Cond.methodLink RL 68 yX4_lands ∈ TT := tmb_2 (List.mem_of_getElem? (i := 122) rfl) rfl
theorem tw2_123 : Cond.instanceMethod yX4_lands ∈ TT := tmb_2 (List.mem_of_getElem? (i := 123) rfl) rfl
theorem tw2_124 : Cond.selects RX4 yX4_lands yX4_lands ∈ TT := tmb_2 (List.mem_of_getElem? (i := 124) rfl) rfl
theorem tw2_125 : Cond.code yX4_lands cX4_lands 4 (some .int) ∈ TT := tmb_2 (List.mem_of_getElem? (i := 125) rfl) rfl
theorem tw2_126 : Cond.constant RX4 166 (-1000004) ∈ TT := tmb_2 (List.mem_of_getElem? (i := 126) rfl) rfl
theorem tw5_96 : Cond.methodLink RL 71 yX5_lands ∈ TT := tmb_5 (List.mem_of_getElem? (i := 96) rfl) rfl
theorem tw5_97 : Cond.instanceMethod yX5_lands ∈ TT := tmb_5 (List.mem_of_getElem? (i := 97) rfl) rfl
theorem tw5_98 : Cond.selects RX5 yX5_lands yX5_lands ∈ TT := tmb_5 (List.mem_of_getElem? (i := 98) rfl) rfl
theorem tw5_99 : Cond.code yX5_lands cX5_lands 2 (some .int) ∈ TT := tmb_5 (List.mem_of_getElem? (i := 99) rfl) rfl
theorem tw5_100 : Cond.methodLink RX5 186 yX5_landsIn ∈ TT := tmb_5 (List.mem_of_getElem? (i := 100) rfl) rfl
theorem tw5_102 : Cond.instanceMethod yX5_landsIn ∈ TT := tmb_5 (List.mem_of_getElem? (i := 102) rfl) rfl
theorem ts3_5 : Cond.selects RX5 yX5_landsIn yX5_landsIn ∈ TT := tms_3 (List.mem_of_getElem? (i := 5) rfl) rfl
theorem tw5_103 : Cond.code yX5_landsIn cX5_landsIn 4 (some .int) ∈ TT := tmb_5 (List.mem_of_getElem? (i := 103) rfl) rfl
theorem tw5_104 : Cond.constant RX5 184 (1000000) ∈ TT := tmb_5 (List.mem_of_getElem? (i := 104) rfl) rfl
theorem tw5_105 : Cond.methodLink RX5 189 yX5_told ∈ TT := tmb_5 (List.mem_of_getElem? (i := 105) rfl) rfl
theorem tw5_107 : Cond.instanceMethod yX5_told ∈ TT := tmb_5 (List.mem_of_getElem? (i := 107) rfl) rfl
theorem ts3_6 : Cond.selects RX5 yX5_told yX5_told ∈ TT := tms_3 (List.mem_of_getElem? (i := 6) rfl) rfl
theorem tw5_108 : Cond.code yX5_told cX5_told 2 (some .int) ∈ TT := tmb_5 (List.mem_of_getElem? (i := 108) rfl) rfl
theorem tw5_109 : Cond.constant RX5 185 (-1000004) ∈ TT := tmb_5 (List.mem_of_getElem? (i := 109) rfl) rfl
theorem tw2_127 : Cond.methodLink RL 72 yX4_meets ∈ TT := tmb_2 (List.mem_of_getElem? (i := 127) rfl) rfl
theorem tw2_128 : Cond.instanceMethod yX4_meets ∈ TT := tmb_2 (List.mem_of_getElem? (i := 128) rfl) rfl
theorem tw2_129 : Cond.selects RX4 yX4_meets yX4_meets ∈ TT := tmb_2 (List.mem_of_getElem? (i := 129) rfl) rfl
theorem tw2_130 : Cond.code yX4_meets cX4_meets 6 (some .int) ∈ TT := tmb_2 (List.mem_of_getElem? (i := 130) rfl) rfl
theorem tw5_110 : Cond.methodLink RL 75 yX5_meets ∈ TT := tmb_5 (List.mem_of_getElem? (i := 110) rfl) rfl
theorem tw5_111 : Cond.instanceMethod yX5_meets ∈ TT := tmb_5 (List.mem_of_getElem? (i := 111) rfl) rfl
theorem tw5_112 : Cond.selects RX5 yX5_meets yX5_meets ∈ TT := tmb_5 (List.mem_of_getElem? (i := 112) rfl) rfl
theorem tw5_113 : Cond.code yX5_meets cX5_meets 5 (some .int) ∈ TT := tmb_5 (List.mem_of_getElem? (i := 113) rfl) rfl
theorem tw2_131 : Cond.methodLink RL 76 yX4_still ∈ TT := tmb_2 (List.mem_of_getElem? (i := 131) rfl) rfl
theorem tw2_132 : Cond.instanceMethod yX4_still ∈ TT := tmb_2 (List.mem_of_getElem? (i := 132) rfl) rfl
theorem tw2_133 : Cond.selects RX4 yX4_still yX4_still ∈ TT := tmb_2 (List.mem_of_getElem? (i := 133) rfl) rfl
theorem tw2_134 : Cond.code yX4_still cX4_still 2 (some .int) ∈ TT := tmb_2 (List.mem_of_getElem? (i := 134) rfl) rfl
theorem tw2_135 : Cond.methodLink RX4 167 arraycopyName ∈ TT := tmb_2 (List.mem_of_getElem? (i := 135) rfl) rfl
theorem tw2_137 : Cond.native arraycopyName ∈ TT := tmb_2 (List.mem_of_getElem? (i := 137) rfl) rfl
theorem tw2_136 : Cond.static arraycopyName ∈ TT := tmb_2 (List.mem_of_getElem? (i := 136) rfl) rfl
theorem tw1_10 : Cond.initialized "java/lang/System" ∈ TT := tmb_1 (List.mem_of_getElem? (i := 10) rfl) rfl
theorem tw2_138 : Cond.methodLink RX4 173 yX4_movesPlaces ∈ TT := tmb_2 (List.mem_of_getElem? (i := 138) rfl) rfl
theorem tw2_140 : Cond.instanceMethod yX4_movesPlaces ∈ TT := tmb_2 (List.mem_of_getElem? (i := 140) rfl) rfl
theorem ts1_3 : Cond.selects RX4 yX4_movesPlaces yX4_movesPlaces ∈ TT := tms_1 (List.mem_of_getElem? (i := 3) rfl) rfl
theorem tw2_141 : Cond.code yX4_movesPlaces cX4_movesPlaces 5 (some .boolean) ∈ TT := tmb_2 (List.mem_of_getElem? (i := 141) rfl) rfl
theorem tw5_114 : Cond.methodLink RL 80 yX5_still ∈ TT := tmb_5 (List.mem_of_getElem? (i := 114) rfl) rfl
theorem tw5_115 : Cond.instanceMethod yX5_still ∈ TT := tmb_5 (List.mem_of_getElem? (i := 115) rfl) rfl
theorem tw5_116 : Cond.selects RX5 yX5_still yX5_still ∈ TT := tmb_5 (List.mem_of_getElem? (i := 116) rfl) rfl
theorem tw5_117 : Cond.code yX5_still cX5_still 2 (some .int) ∈ TT := tmb_5 (List.mem_of_getElem? (i := 117) rfl) rfl
theorem tw5_118 : Cond.methodLink RX5 192 yX5_isStill ∈ TT := tmb_5 (List.mem_of_getElem? (i := 118) rfl) rfl
theorem tw5_120 : Cond.instanceMethod yX5_isStill ∈ TT := tmb_5 (List.mem_of_getElem? (i := 120) rfl) rfl
theorem ts3_7 : Cond.selects RX5 yX5_isStill yX5_isStill ∈ TT := tms_3 (List.mem_of_getElem? (i := 7) rfl) rfl
theorem tw5_121 : Cond.code yX5_isStill cX5_isStill 3 (some .boolean) ∈ TT := tmb_5 (List.mem_of_getElem? (i := 121) rfl) rfl
theorem tw2_142 : Cond.methodLink RL 81 yX4_sits ∈ TT := tmb_2 (List.mem_of_getElem? (i := 142) rfl) rfl
theorem tw2_143 : Cond.instanceMethod yX4_sits ∈ TT := tmb_2 (List.mem_of_getElem? (i := 143) rfl) rfl
theorem tw2_144 : Cond.selects RX4 yX4_sits yX4_sits ∈ TT := tmb_2 (List.mem_of_getElem? (i := 144) rfl) rfl
theorem tw2_145 : Cond.code yX4_sits cX4_sits 3 (some .int) ∈ TT := tmb_2 (List.mem_of_getElem? (i := 145) rfl) rfl
theorem tw5_122 : Cond.methodLink RL 84 yX5_sits ∈ TT := tmb_5 (List.mem_of_getElem? (i := 122) rfl) rfl
theorem tw5_123 : Cond.instanceMethod yX5_sits ∈ TT := tmb_5 (List.mem_of_getElem? (i := 123) rfl) rfl
theorem tw5_124 : Cond.selects RX5 yX5_sits yX5_sits ∈ TT := tmb_5 (List.mem_of_getElem? (i := 124) rfl) rfl
theorem tw5_125 : Cond.code yX5_sits cX5_sits 3 (some .int) ∈ TT := tmb_5 (List.mem_of_getElem? (i := 125) rfl) rfl
theorem tw5_126 : Cond.methodLink RX5 196 yX5_satBehind ∈ TT := tmb_5 (List.mem_of_getElem? (i := 126) rfl) rfl
theorem tw5_128 : Cond.instanceMethod yX5_satBehind ∈ TT := tmb_5 (List.mem_of_getElem? (i := 128) rfl) rfl
theorem ts3_8 : Cond.selects RX5 yX5_satBehind yX5_satBehind ∈ TT := tms_3 (List.mem_of_getElem? (i := 8) rfl) rfl
theorem tw5_129 : Cond.code yX5_satBehind cX5_satBehind 3 (some .int) ∈ TT := tmb_5 (List.mem_of_getElem? (i := 129) rfl) rfl
theorem tw2_146 : Cond.methodLink RL 85 yX4_order ∈ TT := tmb_2 (List.mem_of_getElem? (i := 146) rfl) rfl
theorem tw2_147 : Cond.instanceMethod yX4_order ∈ TT := tmb_2 (List.mem_of_getElem? (i := 147) rfl) rfl
theorem tw2_148 : Cond.selects RX4 yX4_order yX4_order ∈ TT := tmb_2 (List.mem_of_getElem? (i := 148) rfl) rfl
theorem tw2_149 : Cond.code yX4_order cX4_order 3 (some .int) ∈ TT := tmb_2 (List.mem_of_getElem? (i := 149) rfl) rfl
theorem tw2_150 : Cond.methodLink RX4 176 yX4_quickestOrder ∈ TT := tmb_2 (List.mem_of_getElem? (i := 150) rfl) rfl
theorem tw2_152 : Cond.instanceMethod yX4_quickestOrder ∈ TT := tmb_2 (List.mem_of_getElem? (i := 152) rfl) rfl
theorem ts1_4 : Cond.selects RX4 yX4_quickestOrder yX4_quickestOrder ∈ TT := tms_1 (List.mem_of_getElem? (i := 4) rfl) rfl
theorem tw2_153 : Cond.code yX4_quickestOrder cX4_quickestOrder 6 (some .int) ∈ TT := tmb_2 (List.mem_of_getElem? (i := 153) rfl) rfl
theorem tw2_154 : Cond.methodLink RX4 182 yX4_readAhead ∈ TT := tmb_2 (List.mem_of_getElem? (i := 154) rfl) rfl
theorem tw2_156 : Cond.instanceMethod yX4_readAhead ∈ TT := tmb_2 (List.mem_of_getElem? (i := 156) rfl) rfl
theorem ts1_5 : Cond.selects RX4 yX4_readAhead yX4_readAhead ∈ TT := tms_1 (List.mem_of_getElem? (i := 5) rfl) rfl
theorem tw2_157 : Cond.code yX4_readAhead cX4_readAhead 4 none ∈ TT := tmb_2 (List.mem_of_getElem? (i := 157) rfl) rfl
theorem tw2_158 : Cond.methodLink RX4 179 yX4_landsBehind ∈ TT := tmb_2 (List.mem_of_getElem? (i := 158) rfl) rfl
theorem tw2_160 : Cond.instanceMethod yX4_landsBehind ∈ TT := tmb_2 (List.mem_of_getElem? (i := 160) rfl) rfl
theorem ts1_6 : Cond.selects RX4 yX4_landsBehind yX4_landsBehind ∈ TT := tms_1 (List.mem_of_getElem? (i := 6) rfl) rfl
theorem tw2_161 : Cond.code yX4_landsBehind cX4_landsBehind 6 (some .int) ∈ TT := tmb_2 (List.mem_of_getElem? (i := 161) rfl) rfl
theorem tw2_162 : Cond.methodLink RX4 195 yX0_nextBy ∈ TT := tmb_2 (List.mem_of_getElem? (i := 162) rfl) rfl
theorem tw5_130 : Cond.methodLink RL 88 yX5_order ∈ TT := tmb_5 (List.mem_of_getElem? (i := 130) rfl) rfl
theorem tw5_131 : Cond.instanceMethod yX5_order ∈ TT := tmb_5 (List.mem_of_getElem? (i := 131) rfl) rfl
theorem tw5_132 : Cond.selects RX5 yX5_order yX5_order ∈ TT := tmb_5 (List.mem_of_getElem? (i := 132) rfl) rfl
theorem tw5_133 : Cond.code yX5_order cX5_order 2 (some .int) ∈ TT := tmb_5 (List.mem_of_getElem? (i := 133) rfl) rfl
theorem tw5_134 : Cond.methodLink RX5 206 yX5_bestOrder ∈ TT := tmb_5 (List.mem_of_getElem? (i := 134) rfl) rfl
theorem tw5_136 : Cond.instanceMethod yX5_bestOrder ∈ TT := tmb_5 (List.mem_of_getElem? (i := 136) rfl) rfl
theorem ts3_9 : Cond.selects RX5 yX5_bestOrder yX5_bestOrder ∈ TT := tms_3 (List.mem_of_getElem? (i := 9) rfl) rfl
theorem tw5_137 : Cond.code yX5_bestOrder cX5_bestOrder 2 (some .int) ∈ TT := tmb_5 (List.mem_of_getElem? (i := 137) rfl) rfl
theorem tw5_138 : Cond.methodLink RX5 203 yX5_soonestWith ∈ TT := tmb_5 (List.mem_of_getElem? (i := 138) rfl) rfl
theorem tw5_140 : Cond.instanceMethod yX5_soonestWith ∈ TT := tmb_5 (List.mem_of_getElem? (i := 140) rfl) rfl
theorem ts3_10 : Cond.selects RX5 yX5_soonestWith yX5_soonestWith ∈ TT := tms_3 (List.mem_of_getElem? (i := 10) rfl) rfl
theorem tw5_141 : Cond.code yX5_soonestWith cX5_soonestWith 8 (some .int) ∈ TT := tmb_5 (List.mem_of_getElem? (i := 141) rfl) rfl
theorem tw4_90 : Cond.fieldLink RX5 199 "NavyOfCatsModel" "soonestFound" "I" ∈ TT := tmb_4 (List.mem_of_getElem? (i := 90) rfl) rfl
theorem tw5_142 : Cond.methodLink RX5 209 yX5_orNone ∈ TT := tmb_5 (List.mem_of_getElem? (i := 142) rfl) rfl
theorem tw5_144 : Cond.instanceMethod yX5_orNone ∈ TT := tmb_5 (List.mem_of_getElem? (i := 144) rfl) rfl
theorem ts3_11 : Cond.selects RX5 yX5_orNone yX5_orNone ∈ TT := tms_3 (List.mem_of_getElem? (i := 11) rfl) rfl
theorem tw5_145 : Cond.code yX5_orNone cX5_orNone 2 (some .int) ∈ TT := tmb_5 (List.mem_of_getElem? (i := 145) rfl) rfl
theorem tw2_163 : Cond.methodLink RL 89 yX4_soonest ∈ TT := tmb_2 (List.mem_of_getElem? (i := 163) rfl) rfl
theorem tw2_164 : Cond.instanceMethod yX4_soonest ∈ TT := tmb_2 (List.mem_of_getElem? (i := 164) rfl) rfl
theorem tw2_165 : Cond.selects RX4 yX4_soonest yX4_soonest ∈ TT := tmb_2 (List.mem_of_getElem? (i := 165) rfl) rfl
theorem tw2_166 : Cond.code yX4_soonest cX4_soonest 3 (some .int) ∈ TT := tmb_2 (List.mem_of_getElem? (i := 166) rfl) rfl
theorem tw5_146 : Cond.methodLink RL 92 yX5_soonest ∈ TT := tmb_5 (List.mem_of_getElem? (i := 146) rfl) rfl
theorem tw5_147 : Cond.instanceMethod yX5_soonest ∈ TT := tmb_5 (List.mem_of_getElem? (i := 147) rfl) rfl
theorem tw5_148 : Cond.selects RX5 yX5_soonest yX5_soonest ∈ TT := tmb_5 (List.mem_of_getElem? (i := 148) rfl) rfl
theorem tw5_149 : Cond.code yX5_soonest cX5_soonest 2 (some .int) ∈ TT := tmb_5 (List.mem_of_getElem? (i := 149) rfl) rfl
theorem tw2_167 : Cond.methodLink RL 93 yX4_orders ∈ TT := tmb_2 (List.mem_of_getElem? (i := 167) rfl) rfl
theorem tw2_168 : Cond.instanceMethod yX4_orders ∈ TT := tmb_2 (List.mem_of_getElem? (i := 168) rfl) rfl
theorem tw2_169 : Cond.selects RX4 yX4_orders yX4_orders ∈ TT := tmb_2 (List.mem_of_getElem? (i := 169) rfl) rfl
theorem tw2_170 : Cond.code yX4_orders cX4_orders 6 (some .long) ∈ TT := tmb_2 (List.mem_of_getElem? (i := 170) rfl) rfl
theorem tw2_171 : Cond.methodLink RX4 186 yX4_endsAt ∈ TT := tmb_2 (List.mem_of_getElem? (i := 171) rfl) rfl
theorem tw2_173 : Cond.instanceMethod yX4_endsAt ∈ TT := tmb_2 (List.mem_of_getElem? (i := 173) rfl) rfl
theorem ts1_7 : Cond.selects RX4 yX4_endsAt yX4_endsAt ∈ TT := tms_1 (List.mem_of_getElem? (i := 7) rfl) rfl
theorem tw2_174 : Cond.code yX4_endsAt cX4_endsAt 5 (some .int) ∈ TT := tmb_2 (List.mem_of_getElem? (i := 174) rfl) rfl
theorem tw5_150 : Cond.methodLink RL 97 yX5_orders ∈ TT := tmb_5 (List.mem_of_getElem? (i := 150) rfl) rfl
theorem tw5_151 : Cond.instanceMethod yX5_orders ∈ TT := tmb_5 (List.mem_of_getElem? (i := 151) rfl) rfl
theorem tw5_152 : Cond.selects RX5 yX5_orders yX5_orders ∈ TT := tmb_5 (List.mem_of_getElem? (i := 152) rfl) rfl
theorem tw5_153 : Cond.code yX5_orders cX5_orders 7 (some .long) ∈ TT := tmb_5 (List.mem_of_getElem? (i := 153) rfl) rfl
theorem tw2_175 : Cond.methodLink RL 98 yX4_surest ∈ TT := tmb_2 (List.mem_of_getElem? (i := 175) rfl) rfl
theorem tw2_176 : Cond.instanceMethod yX4_surest ∈ TT := tmb_2 (List.mem_of_getElem? (i := 176) rfl) rfl
theorem tw2_177 : Cond.selects RX4 yX4_surest yX4_surest ∈ TT := tmb_2 (List.mem_of_getElem? (i := 177) rfl) rfl
theorem tw2_178 : Cond.code yX4_surest cX4_surest 2 (some .int) ∈ TT := tmb_2 (List.mem_of_getElem? (i := 178) rfl) rfl
theorem tw2_179 : Cond.methodLink RX4 189 yX4_surestOrder ∈ TT := tmb_2 (List.mem_of_getElem? (i := 179) rfl) rfl
theorem tw2_181 : Cond.instanceMethod yX4_surestOrder ∈ TT := tmb_2 (List.mem_of_getElem? (i := 181) rfl) rfl
theorem ts1_8 : Cond.selects RX4 yX4_surestOrder yX4_surestOrder ∈ TT := tms_1 (List.mem_of_getElem? (i := 8) rfl) rfl
theorem tw2_182 : Cond.code yX4_surestOrder cX4_surestOrder 6 (some .int) ∈ TT := tmb_2 (List.mem_of_getElem? (i := 182) rfl) rfl
theorem tw2_183 : Cond.methodLink RX4 192 yX4_windsThatLand ∈ TT := tmb_2 (List.mem_of_getElem? (i := 183) rfl) rfl
theorem tw2_185 : Cond.instanceMethod yX4_windsThatLand ∈ TT := tmb_2 (List.mem_of_getElem? (i := 185) rfl) rfl
theorem ts1_9 : Cond.selects RX4 yX4_windsThatLand yX4_windsThatLand ∈ TT := tms_1 (List.mem_of_getElem? (i := 9) rfl) rfl
theorem tw2_186 : Cond.code yX4_windsThatLand cX4_windsThatLand 5 (some .int) ∈ TT := tmb_2 (List.mem_of_getElem? (i := 186) rfl) rfl
theorem tw5_154 : Cond.methodLink RL 101 yX5_surest ∈ TT := tmb_5 (List.mem_of_getElem? (i := 154) rfl) rfl
theorem tw5_155 : Cond.instanceMethod yX5_surest ∈ TT := tmb_5 (List.mem_of_getElem? (i := 155) rfl) rfl
theorem tw5_156 : Cond.selects RX5 yX5_surest yX5_surest ∈ TT := tmb_5 (List.mem_of_getElem? (i := 156) rfl) rfl
theorem tw5_157 : Cond.code yX5_surest cX5_surest 2 (some .int) ∈ TT := tmb_5 (List.mem_of_getElem? (i := 157) rfl) rfl
theorem tw5_158 : Cond.methodLink RX5 215 yX5_findSurest ∈ TT := tmb_5 (List.mem_of_getElem? (i := 158) rfl) rfl
theorem tw5_160 : Cond.instanceMethod yX5_findSurest ∈ TT := tmb_5 (List.mem_of_getElem? (i := 160) rfl) rfl
theorem ts3_12 : Cond.selects RX5 yX5_findSurest yX5_findSurest ∈ TT := tms_3 (List.mem_of_getElem? (i := 12) rfl) rfl
theorem tw5_161 : Cond.code yX5_findSurest cX5_findSurest 8 (some .int) ∈ TT := tmb_5 (List.mem_of_getElem? (i := 161) rfl) rfl
theorem tw4_91 : Cond.fieldLink RX5 212 "NavyOfCatsModel" "windsFound" "I" ∈ TT := tmb_4 (List.mem_of_getElem? (i := 91) rfl) rfl
theorem tw2_187 : Cond.methodLink RL 102 yX4_winds ∈ TT := tmb_2 (List.mem_of_getElem? (i := 187) rfl) rfl
theorem tw2_188 : Cond.instanceMethod yX4_winds ∈ TT := tmb_2 (List.mem_of_getElem? (i := 188) rfl) rfl
theorem tw2_189 : Cond.selects RX4 yX4_winds yX4_winds ∈ TT := tmb_2 (List.mem_of_getElem? (i := 189) rfl) rfl
theorem tw2_190 : Cond.code yX4_winds cX4_winds 2 (some .int) ∈ TT := tmb_2 (List.mem_of_getElem? (i := 190) rfl) rfl
theorem tw5_162 : Cond.methodLink RL 105 yX5_winds ∈ TT := tmb_5 (List.mem_of_getElem? (i := 162) rfl) rfl
theorem tw5_163 : Cond.instanceMethod yX5_winds ∈ TT := tmb_5 (List.mem_of_getElem? (i := 163) rfl) rfl
theorem tw5_164 : Cond.selects RX5 yX5_winds yX5_winds ∈ TT := tmb_5 (List.mem_of_getElem? (i := 164) rfl) rfl
theorem tw5_165 : Cond.code yX5_winds cX5_winds 2 (some .int) ∈ TT := tmb_5 (List.mem_of_getElem? (i := 165) rfl) rfl
theorem tw2_191 : Cond.methodLink RL 106 yX4_windFor ∈ TT := tmb_2 (List.mem_of_getElem? (i := 191) rfl) rfl
theorem tw2_192 : Cond.instanceMethod yX4_windFor ∈ TT := tmb_2 (List.mem_of_getElem? (i := 192) rfl) rfl
theorem tw2_193 : Cond.selects RX4 yX4_windFor yX4_windFor ∈ TT := tmb_2 (List.mem_of_getElem? (i := 193) rfl) rfl
theorem tw2_194 : Cond.code yX4_windFor cX4_windFor 6 (some .int) ∈ TT := tmb_2 (List.mem_of_getElem? (i := 194) rfl) rfl
theorem tw5_166 : Cond.methodLink RL 109 yX5_windFor ∈ TT := tmb_5 (List.mem_of_getElem? (i := 166) rfl) rfl
theorem tw5_167 : Cond.instanceMethod yX5_windFor ∈ TT := tmb_5 (List.mem_of_getElem? (i := 167) rfl) rfl
theorem tw5_168 : Cond.selects RX5 yX5_windFor yX5_windFor ∈ TT := tmb_5 (List.mem_of_getElem? (i := 168) rfl) rfl
theorem tw5_169 : Cond.code yX5_windFor cX5_windFor 2 (some .int) ∈ TT := tmb_5 (List.mem_of_getElem? (i := 169) rfl) rfl
theorem tw2_195 : Cond.methodLink RL 110 yX4_crew ∈ TT := tmb_2 (List.mem_of_getElem? (i := 195) rfl) rfl
theorem tw2_196 : Cond.instanceMethod yX4_crew ∈ TT := tmb_2 (List.mem_of_getElem? (i := 196) rfl) rfl
theorem tw2_197 : Cond.selects RX4 yX4_crew yX4_crew ∈ TT := tmb_2 (List.mem_of_getElem? (i := 197) rfl) rfl
theorem tw2_198 : Cond.code yX4_crew cX4_crew 2 (some .int) ∈ TT := tmb_2 (List.mem_of_getElem? (i := 198) rfl) rfl
theorem tw2_199 : Cond.methodLink RX4 198 yX4_bestCrew ∈ TT := tmb_2 (List.mem_of_getElem? (i := 199) rfl) rfl
theorem tw2_201 : Cond.instanceMethod yX4_bestCrew ∈ TT := tmb_2 (List.mem_of_getElem? (i := 201) rfl) rfl
theorem ts1_10 : Cond.selects RX4 yX4_bestCrew yX4_bestCrew ∈ TT := tms_1 (List.mem_of_getElem? (i := 10) rfl) rfl
theorem tw2_202 : Cond.code yX4_bestCrew cX4_bestCrew 6 (some .int) ∈ TT := tmb_2 (List.mem_of_getElem? (i := 202) rfl) rfl
theorem tw2_203 : Cond.methodLink RX4 201 Lib.Math.abs.name ∈ TT := tmb_2 (List.mem_of_getElem? (i := 203) rfl) rfl
theorem tw2_204 : Cond.static Lib.Math.abs.name ∈ TT := tmb_2 (List.mem_of_getElem? (i := 204) rfl) rfl
theorem tw2_205 : Cond.code Lib.Math.abs.name Lib.Math.abs.code 1 (some .int) ∈ TT := tmb_2 (List.mem_of_getElem? (i := 205) rfl) rfl
theorem tw5_170 : Cond.methodLink RL 113 yX5_crew ∈ TT := tmb_5 (List.mem_of_getElem? (i := 170) rfl) rfl
theorem tw5_171 : Cond.instanceMethod yX5_crew ∈ TT := tmb_5 (List.mem_of_getElem? (i := 171) rfl) rfl
theorem tw5_172 : Cond.selects RX5 yX5_crew yX5_crew ∈ TT := tmb_5 (List.mem_of_getElem? (i := 172) rfl) rfl
theorem tw5_173 : Cond.code yX5_crew cX5_crew 2 (some .int) ∈ TT := tmb_5 (List.mem_of_getElem? (i := 173) rfl) rfl
theorem tw5_174 : Cond.methodLink RX5 221 yX5_findCrew ∈ TT := tmb_5 (List.mem_of_getElem? (i := 174) rfl) rfl
theorem tw5_176 : Cond.instanceMethod yX5_findCrew ∈ TT := tmb_5 (List.mem_of_getElem? (i := 176) rfl) rfl
theorem ts3_13 : Cond.selects RX5 yX5_findCrew yX5_findCrew ∈ TT := tms_3 (List.mem_of_getElem? (i := 13) rfl) rfl
theorem tw5_177 : Cond.code yX5_findCrew cX5_findCrew 5 (some .int) ∈ TT := tmb_5 (List.mem_of_getElem? (i := 177) rfl) rfl
theorem tw5_178 : Cond.methodLink RX5 218 Lib.Math.abs.name ∈ TT := tmb_5 (List.mem_of_getElem? (i := 178) rfl) rfl
theorem tw2_206 : Cond.methodLink RL 114 yX4_mean ∈ TT := tmb_2 (List.mem_of_getElem? (i := 206) rfl) rfl
theorem tw2_207 : Cond.instanceMethod yX4_mean ∈ TT := tmb_2 (List.mem_of_getElem? (i := 207) rfl) rfl
theorem tw2_208 : Cond.selects RX4 yX4_mean yX4_mean ∈ TT := tmb_2 (List.mem_of_getElem? (i := 208) rfl) rfl
theorem tw2_209 : Cond.code yX4_mean cX4_mean 2 (some .int) ∈ TT := tmb_2 (List.mem_of_getElem? (i := 209) rfl) rfl
theorem tw5_179 : Cond.methodLink RL 117 yX5_mean ∈ TT := tmb_5 (List.mem_of_getElem? (i := 179) rfl) rfl
theorem tw5_180 : Cond.instanceMethod yX5_mean ∈ TT := tmb_5 (List.mem_of_getElem? (i := 180) rfl) rfl
theorem tw5_181 : Cond.selects RX5 yX5_mean yX5_mean ∈ TT := tmb_5 (List.mem_of_getElem? (i := 181) rfl) rfl
theorem tw5_182 : Cond.code yX5_mean cX5_mean 3 (some .int) ∈ TT := tmb_5 (List.mem_of_getElem? (i := 182) rfl) rfl
theorem tw2_210 : Cond.methodLink RL 118 yX4_better ∈ TT := tmb_2 (List.mem_of_getElem? (i := 210) rfl) rfl
theorem tw2_211 : Cond.instanceMethod yX4_better ∈ TT := tmb_2 (List.mem_of_getElem? (i := 211) rfl) rfl
theorem tw2_212 : Cond.selects RX4 yX4_better yX4_better ∈ TT := tmb_2 (List.mem_of_getElem? (i := 212) rfl) rfl
theorem tw2_213 : Cond.code yX4_better cX4_better 6 (some .int) ∈ TT := tmb_2 (List.mem_of_getElem? (i := 213) rfl) rfl
theorem tw5_183 : Cond.methodLink RL 121 yX5_better ∈ TT := tmb_5 (List.mem_of_getElem? (i := 183) rfl) rfl
theorem tw5_184 : Cond.instanceMethod yX5_better ∈ TT := tmb_5 (List.mem_of_getElem? (i := 184) rfl) rfl
theorem tw5_185 : Cond.selects RX5 yX5_better yX5_better ∈ TT := tmb_5 (List.mem_of_getElem? (i := 185) rfl) rfl
theorem tw5_186 : Cond.code yX5_better cX5_better 7 (some .int) ∈ TT := tmb_5 (List.mem_of_getElem? (i := 186) rfl) rfl
theorem tw2_214 : Cond.methodLink RL 122 yX4_spy ∈ TT := tmb_2 (List.mem_of_getElem? (i := 214) rfl) rfl
theorem tw2_215 : Cond.instanceMethod yX4_spy ∈ TT := tmb_2 (List.mem_of_getElem? (i := 215) rfl) rfl
theorem tw2_216 : Cond.selects RX4 yX4_spy yX4_spy ∈ TT := tmb_2 (List.mem_of_getElem? (i := 216) rfl) rfl
theorem tw2_217 : Cond.code yX4_spy cX4_spy 10 (some .int) ∈ TT := tmb_2 (List.mem_of_getElem? (i := 217) rfl) rfl
theorem tw2_218 : Cond.methodLink RX4 206 yX4_distance ∈ TT := tmb_2 (List.mem_of_getElem? (i := 218) rfl) rfl
theorem tw2_219 : Cond.static yX4_distance ∈ TT := tmb_2 (List.mem_of_getElem? (i := 219) rfl) rfl
theorem tw2_220 : Cond.code yX4_distance cX4_distance 2 (some .int) ∈ TT := tmb_2 (List.mem_of_getElem? (i := 220) rfl) rfl
theorem tw5_187 : Cond.methodLink RL 125 yX5_spy ∈ TT := tmb_5 (List.mem_of_getElem? (i := 187) rfl) rfl
theorem tw5_188 : Cond.instanceMethod yX5_spy ∈ TT := tmb_5 (List.mem_of_getElem? (i := 188) rfl) rfl
theorem tw5_189 : Cond.selects RX5 yX5_spy yX5_spy ∈ TT := tmb_5 (List.mem_of_getElem? (i := 189) rfl) rfl
theorem tw5_190 : Cond.code yX5_spy cX5_spy 10 (some .int) ∈ TT := tmb_5 (List.mem_of_getElem? (i := 190) rfl) rfl
theorem tw5_191 : Cond.methodLink RX5 224 yX5_apart ∈ TT := tmb_5 (List.mem_of_getElem? (i := 191) rfl) rfl
theorem tw5_192 : Cond.static yX5_apart ∈ TT := tmb_5 (List.mem_of_getElem? (i := 192) rfl) rfl
theorem tw5_193 : Cond.code yX5_apart cX5_apart 2 (some .int) ∈ TT := tmb_5 (List.mem_of_getElem? (i := 193) rfl) rfl
theorem tw2_221 : Cond.methodLink RL 126 yX4_uses ∈ TT := tmb_2 (List.mem_of_getElem? (i := 221) rfl) rfl
theorem tw2_222 : Cond.instanceMethod yX4_uses ∈ TT := tmb_2 (List.mem_of_getElem? (i := 222) rfl) rfl
theorem tw2_223 : Cond.selects RX4 yX4_uses yX4_uses ∈ TT := tmb_2 (List.mem_of_getElem? (i := 223) rfl) rfl
theorem tw2_224 : Cond.code yX4_uses cX4_uses 3 (some .int) ∈ TT := tmb_2 (List.mem_of_getElem? (i := 224) rfl) rfl
theorem tw2_225 : Cond.methodLink RX4 209 yX0_fedIn ∈ TT := tmb_2 (List.mem_of_getElem? (i := 225) rfl) rfl
theorem tw2_226 : Cond.instanceMethod yX0_fedIn ∈ TT := tmb_2 (List.mem_of_getElem? (i := 226) rfl) rfl
theorem tw2_227 : Cond.selects RX0 yX0_fedIn yX0_fedIn ∈ TT := tmb_2 (List.mem_of_getElem? (i := 227) rfl) rfl
theorem tw2_228 : Cond.code yX0_fedIn cX0_fedIn 6 (some .int) ∈ TT := tmb_2 (List.mem_of_getElem? (i := 228) rfl) rfl
theorem tw5_194 : Cond.methodLink RL 129 yX5_uses ∈ TT := tmb_5 (List.mem_of_getElem? (i := 194) rfl) rfl
theorem tw5_195 : Cond.instanceMethod yX5_uses ∈ TT := tmb_5 (List.mem_of_getElem? (i := 195) rfl) rfl
theorem tw5_196 : Cond.selects RX5 yX5_uses yX5_uses ∈ TT := tmb_5 (List.mem_of_getElem? (i := 196) rfl) rfl
theorem tw5_197 : Cond.code yX5_uses cX5_uses 3 (some .int) ∈ TT := tmb_5 (List.mem_of_getElem? (i := 197) rfl) rfl
theorem tw5_198 : Cond.methodLink RX5 227 yX5_usedIn ∈ TT := tmb_5 (List.mem_of_getElem? (i := 198) rfl) rfl
theorem tw5_200 : Cond.instanceMethod yX5_usedIn ∈ TT := tmb_5 (List.mem_of_getElem? (i := 200) rfl) rfl
theorem ts3_14 : Cond.selects RX5 yX5_usedIn yX5_usedIn ∈ TT := tms_3 (List.mem_of_getElem? (i := 14) rfl) rfl
theorem tw5_201 : Cond.code yX5_usedIn cX5_usedIn 6 (some .int) ∈ TT := tmb_5 (List.mem_of_getElem? (i := 201) rfl) rfl
theorem tw2_229 : Cond.methodLink RL 130 yX4_hunger ∈ TT := tmb_2 (List.mem_of_getElem? (i := 229) rfl) rfl
theorem tw2_230 : Cond.instanceMethod yX4_hunger ∈ TT := tmb_2 (List.mem_of_getElem? (i := 230) rfl) rfl
theorem tw2_231 : Cond.selects RX4 yX4_hunger yX4_hunger ∈ TT := tmb_2 (List.mem_of_getElem? (i := 231) rfl) rfl
theorem tw2_232 : Cond.code yX4_hunger cX4_hunger 3 (some .int) ∈ TT := tmb_2 (List.mem_of_getElem? (i := 232) rfl) rfl
theorem tw5_202 : Cond.methodLink RL 133 yX5_hunger ∈ TT := tmb_5 (List.mem_of_getElem? (i := 202) rfl) rfl
theorem tw5_203 : Cond.instanceMethod yX5_hunger ∈ TT := tmb_5 (List.mem_of_getElem? (i := 203) rfl) rfl
theorem tw5_204 : Cond.selects RX5 yX5_hunger yX5_hunger ∈ TT := tmb_5 (List.mem_of_getElem? (i := 204) rfl) rfl
theorem tw5_205 : Cond.code yX5_hunger cX5_hunger 3 (some .int) ∈ TT := tmb_5 (List.mem_of_getElem? (i := 205) rfl) rfl
theorem tw2_233 : Cond.methodLink RL 134 yX4_kinds ∈ TT := tmb_2 (List.mem_of_getElem? (i := 233) rfl) rfl
theorem tw2_234 : Cond.instanceMethod yX4_kinds ∈ TT := tmb_2 (List.mem_of_getElem? (i := 234) rfl) rfl
theorem tw2_235 : Cond.selects RX4 yX4_kinds yX4_kinds ∈ TT := tmb_2 (List.mem_of_getElem? (i := 235) rfl) rfl
theorem tw2_236 : Cond.code yX4_kinds cX4_kinds 6 (some .int) ∈ TT := tmb_2 (List.mem_of_getElem? (i := 236) rfl) rfl
theorem tw2_237 : Cond.methodLink RX4 212 yX4_wrongLog ∈ TT := tmb_2 (List.mem_of_getElem? (i := 237) rfl) rfl
theorem tw2_239 : Cond.instanceMethod yX4_wrongLog ∈ TT := tmb_2 (List.mem_of_getElem? (i := 239) rfl) rfl
theorem ts1_11 : Cond.selects RX4 yX4_wrongLog yX4_wrongLog ∈ TT := tms_1 (List.mem_of_getElem? (i := 11) rfl) rfl
theorem tw3_0 : Cond.code yX4_wrongLog cX4_wrongLog 4 (some .int) ∈ TT := tmb_3 (List.mem_of_getElem? (i := 0) rfl) rfl
theorem tw3_1 : Cond.methodLink RX4 227 yX4_wrongSheet ∈ TT := tmb_3 (List.mem_of_getElem? (i := 1) rfl) rfl
theorem tw3_3 : Cond.instanceMethod yX4_wrongSheet ∈ TT := tmb_3 (List.mem_of_getElem? (i := 3) rfl) rfl
theorem ts1_12 : Cond.selects RX4 yX4_wrongSheet yX4_wrongSheet ∈ TT := tms_1 (List.mem_of_getElem? (i := 12) rfl) rfl
theorem tw3_4 : Cond.code yX4_wrongSheet cX4_wrongSheet 2 (some .int) ∈ TT := tmb_3 (List.mem_of_getElem? (i := 4) rfl) rfl
theorem tw3_12 : Cond.constant RX4 267 (-1000006) ∈ TT := tmb_3 (List.mem_of_getElem? (i := 12) rfl) rfl
theorem tw3_5 : Cond.methodLink RX4 272 yX4_isSheet ∈ TT := tmb_3 (List.mem_of_getElem? (i := 5) rfl) rfl
theorem tw3_6 : Cond.static yX4_isSheet ∈ TT := tmb_3 (List.mem_of_getElem? (i := 6) rfl) rfl
theorem tw3_7 : Cond.code yX4_isSheet cX4_isSheet 1 (some .boolean) ∈ TT := tmb_3 (List.mem_of_getElem? (i := 7) rfl) rfl
theorem tw3_8 : Cond.methodLink RX4 282 yX2_isMissing ∈ TT := tmb_3 (List.mem_of_getElem? (i := 8) rfl) rfl
theorem tw3_9 : Cond.instanceMethod yX2_isMissing ∈ TT := tmb_3 (List.mem_of_getElem? (i := 9) rfl) rfl
theorem tw3_10 : Cond.selects RX2 yX2_isMissing yX2_isMissing ∈ TT := tmb_3 (List.mem_of_getElem? (i := 10) rfl) rfl
theorem tw3_11 : Cond.code yX2_isMissing cX2_isMissing 1 (some .boolean) ∈ TT := tmb_3 (List.mem_of_getElem? (i := 11) rfl) rfl
theorem tw1_153 : Cond.fieldLink RX2 15 "NavyOfCats$Sheet" "bits" "I" ∈ TT := tmb_1 (List.mem_of_getElem? (i := 153) rfl) rfl
theorem tw3_13 : Cond.methodLink RX4 216 yX4_sitsAsTold ∈ TT := tmb_3 (List.mem_of_getElem? (i := 13) rfl) rfl
theorem tw3_15 : Cond.instanceMethod yX4_sitsAsTold ∈ TT := tmb_3 (List.mem_of_getElem? (i := 15) rfl) rfl
theorem ts1_13 : Cond.selects RX4 yX4_sitsAsTold yX4_sitsAsTold ∈ TT := tms_1 (List.mem_of_getElem? (i := 13) rfl) rfl
theorem tw3_16 : Cond.code yX4_sitsAsTold cX4_sitsAsTold 6 (some .boolean) ∈ TT := tmb_3 (List.mem_of_getElem? (i := 16) rfl) rfl
theorem tw1_156 : Cond.fieldLink RX4 220 "NavyOfCats$Sheet" "size" "I" ∈ TT := tmb_1 (List.mem_of_getElem? (i := 156) rfl) rfl
theorem tw1_158 : Cond.fieldLink RX4 230 "NavyOfCats$Sheet" "numbers" "[I" ∈ TT := tmb_1 (List.mem_of_getElem? (i := 158) rfl) rfl
theorem tw3_17 : Cond.methodLink RX4 233 yX0_errsAs ∈ TT := tmb_3 (List.mem_of_getElem? (i := 17) rfl) rfl
theorem tw5_206 : Cond.methodLink RL 137 yX5_kinds ∈ TT := tmb_5 (List.mem_of_getElem? (i := 206) rfl) rfl
theorem tw5_207 : Cond.instanceMethod yX5_kinds ∈ TT := tmb_5 (List.mem_of_getElem? (i := 207) rfl) rfl
theorem tw5_208 : Cond.selects RX5 yX5_kinds yX5_kinds ∈ TT := tmb_5 (List.mem_of_getElem? (i := 208) rfl) rfl
theorem tw5_209 : Cond.code yX5_kinds cX5_kinds 3 (some .int) ∈ TT := tmb_5 (List.mem_of_getElem? (i := 209) rfl) rfl
theorem tw5_210 : Cond.methodLink RX5 237 yX5_lacks ∈ TT := tmb_5 (List.mem_of_getElem? (i := 210) rfl) rfl
theorem tw5_212 : Cond.instanceMethod yX5_lacks ∈ TT := tmb_5 (List.mem_of_getElem? (i := 212) rfl) rfl
theorem ts3_15 : Cond.selects RX5 yX5_lacks yX5_lacks ∈ TT := tms_3 (List.mem_of_getElem? (i := 15) rfl) rfl
theorem tw5_213 : Cond.code yX5_lacks cX5_lacks 2 (some .int) ∈ TT := tmb_5 (List.mem_of_getElem? (i := 213) rfl) rfl
theorem tw5_217 : Cond.constant RX5 236 (-1000006) ∈ TT := tmb_5 (List.mem_of_getElem? (i := 217) rfl) rfl
theorem tw5_214 : Cond.methodLink RX5 233 yX5_isSheet ∈ TT := tmb_5 (List.mem_of_getElem? (i := 214) rfl) rfl
theorem tw5_215 : Cond.static yX5_isSheet ∈ TT := tmb_5 (List.mem_of_getElem? (i := 215) rfl) rfl
theorem tw5_216 : Cond.code yX5_isSheet cX5_isSheet 1 (some .boolean) ∈ TT := tmb_5 (List.mem_of_getElem? (i := 216) rfl) rfl
theorem tw5_218 : Cond.methodLink RX5 240 yX5_fitting ∈ TT := tmb_5 (List.mem_of_getElem? (i := 218) rfl) rfl
theorem tw5_220 : Cond.instanceMethod yX5_fitting ∈ TT := tmb_5 (List.mem_of_getElem? (i := 220) rfl) rfl
theorem ts4_0 : Cond.selects RX5 yX5_fitting yX5_fitting ∈ TT := tms_4 (List.mem_of_getElem? (i := 0) rfl) rfl
theorem tw5_221 : Cond.code yX5_fitting cX5_fitting 10 (some .long) ∈ TT := tmb_5 (List.mem_of_getElem? (i := 221) rfl) rfl
theorem tw5_222 : Cond.methodLink RX5 230 yX5_satSo ∈ TT := tmb_5 (List.mem_of_getElem? (i := 222) rfl) rfl
theorem tw5_224 : Cond.instanceMethod yX5_satSo ∈ TT := tmb_5 (List.mem_of_getElem? (i := 224) rfl) rfl
theorem ts4_1 : Cond.selects RX5 yX5_satSo yX5_satSo ∈ TT := tms_4 (List.mem_of_getElem? (i := 1) rfl) rfl
theorem tw5_225 : Cond.code yX5_satSo cX5_satSo 5 (some .boolean) ∈ TT := tmb_5 (List.mem_of_getElem? (i := 225) rfl) rfl
theorem tw3_18 : Cond.methodLink RL 138 yX4_habits ∈ TT := tmb_3 (List.mem_of_getElem? (i := 18) rfl) rfl
theorem tw3_19 : Cond.instanceMethod yX4_habits ∈ TT := tmb_3 (List.mem_of_getElem? (i := 19) rfl) rfl
theorem tw3_20 : Cond.selects RX4 yX4_habits yX4_habits ∈ TT := tmb_3 (List.mem_of_getElem? (i := 20) rfl) rfl
theorem tw3_21 : Cond.code yX4_habits cX4_habits 6 (some .int) ∈ TT := tmb_3 (List.mem_of_getElem? (i := 21) rfl) rfl
theorem tw5_226 : Cond.methodLink RL 141 yX5_habits ∈ TT := tmb_5 (List.mem_of_getElem? (i := 226) rfl) rfl
theorem tw5_227 : Cond.instanceMethod yX5_habits ∈ TT := tmb_5 (List.mem_of_getElem? (i := 227) rfl) rfl
theorem tw5_228 : Cond.selects RX5 yX5_habits yX5_habits ∈ TT := tmb_5 (List.mem_of_getElem? (i := 228) rfl) rfl
theorem tw5_229 : Cond.code yX5_habits cX5_habits 6 (some .int) ∈ TT := tmb_5 (List.mem_of_getElem? (i := 229) rfl) rfl
theorem tw3_22 : Cond.methodLink RL 142 yX4_begun ∈ TT := tmb_3 (List.mem_of_getElem? (i := 22) rfl) rfl
theorem tw3_23 : Cond.instanceMethod yX4_begun ∈ TT := tmb_3 (List.mem_of_getElem? (i := 23) rfl) rfl
theorem tw3_24 : Cond.selects RX4 yX4_begun yX4_begun ∈ TT := tmb_3 (List.mem_of_getElem? (i := 24) rfl) rfl
theorem tw3_25 : Cond.code yX4_begun cX4_begun 6 (some .int) ∈ TT := tmb_3 (List.mem_of_getElem? (i := 25) rfl) rfl
theorem tw3_26 : Cond.methodLink RX4 223 yX4_goesAsTold ∈ TT := tmb_3 (List.mem_of_getElem? (i := 26) rfl) rfl
theorem tw3_28 : Cond.instanceMethod yX4_goesAsTold ∈ TT := tmb_3 (List.mem_of_getElem? (i := 28) rfl) rfl
theorem ts1_14 : Cond.selects RX4 yX4_goesAsTold yX4_goesAsTold ∈ TT := tms_1 (List.mem_of_getElem? (i := 14) rfl) rfl
theorem tw3_29 : Cond.code yX4_goesAsTold cX4_goesAsTold 7 (some .boolean) ∈ TT := tmb_3 (List.mem_of_getElem? (i := 29) rfl) rfl
theorem tw5_230 : Cond.methodLink RL 145 yX5_begun ∈ TT := tmb_5 (List.mem_of_getElem? (i := 230) rfl) rfl
theorem tw5_231 : Cond.instanceMethod yX5_begun ∈ TT := tmb_5 (List.mem_of_getElem? (i := 231) rfl) rfl
theorem tw5_232 : Cond.selects RX5 yX5_begun yX5_begun ∈ TT := tmb_5 (List.mem_of_getElem? (i := 232) rfl) rfl
theorem tw5_233 : Cond.code yX5_begun cX5_begun 3 (some .int) ∈ TT := tmb_5 (List.mem_of_getElem? (i := 233) rfl) rfl
theorem tw4_92 : Cond.fieldLink RX5 244 "NavyOfCatsModel" "begunFound" "I" ∈ TT := tmb_4 (List.mem_of_getElem? (i := 92) rfl) rfl
theorem tw5_234 : Cond.methodLink RX5 250 yX5_findBegun ∈ TT := tmb_5 (List.mem_of_getElem? (i := 234) rfl) rfl
theorem tw5_236 : Cond.instanceMethod yX5_findBegun ∈ TT := tmb_5 (List.mem_of_getElem? (i := 236) rfl) rfl
theorem ts4_2 : Cond.selects RX5 yX5_findBegun yX5_findBegun ∈ TT := tms_4 (List.mem_of_getElem? (i := 2) rfl) rfl
theorem tw5_237 : Cond.code yX5_findBegun cX5_findBegun 7 (some .int) ∈ TT := tmb_5 (List.mem_of_getElem? (i := 237) rfl) rfl
theorem tw5_238 : Cond.methodLink RX5 247 yX5_wentSo ∈ TT := tmb_5 (List.mem_of_getElem? (i := 238) rfl) rfl
theorem tw6_0 : Cond.instanceMethod yX5_wentSo ∈ TT := tmb_6 (List.mem_of_getElem? (i := 0) rfl) rfl
theorem ts4_3 : Cond.selects RX5 yX5_wentSo yX5_wentSo ∈ TT := tms_4 (List.mem_of_getElem? (i := 3) rfl) rfl
theorem tw6_1 : Cond.code yX5_wentSo cX5_wentSo 6 (some .boolean) ∈ TT := tmb_6 (List.mem_of_getElem? (i := 1) rfl) rfl
theorem tw3_30 : Cond.methodLink RL 146 yX4_from ∈ TT := tmb_3 (List.mem_of_getElem? (i := 30) rfl) rfl
theorem tw3_31 : Cond.instanceMethod yX4_from ∈ TT := tmb_3 (List.mem_of_getElem? (i := 31) rfl) rfl
theorem tw3_32 : Cond.selects RX4 yX4_from yX4_from ∈ TT := tmb_3 (List.mem_of_getElem? (i := 32) rfl) rfl
theorem tw3_33 : Cond.code yX4_from cX4_from 5 (some .int) ∈ TT := tmb_3 (List.mem_of_getElem? (i := 33) rfl) rfl
theorem tw6_2 : Cond.methodLink RL 149 yX5_from ∈ TT := tmb_6 (List.mem_of_getElem? (i := 2) rfl) rfl
theorem tw6_3 : Cond.instanceMethod yX5_from ∈ TT := tmb_6 (List.mem_of_getElem? (i := 3) rfl) rfl
theorem tw6_4 : Cond.selects RX5 yX5_from yX5_from ∈ TT := tmb_6 (List.mem_of_getElem? (i := 4) rfl) rfl
theorem tw6_5 : Cond.code yX5_from cX5_from 3 (some .int) ∈ TT := tmb_6 (List.mem_of_getElem? (i := 5) rfl) rfl
theorem tw3_34 : Cond.methodLink RL 150 yX4_storms ∈ TT := tmb_3 (List.mem_of_getElem? (i := 34) rfl) rfl
theorem tw3_35 : Cond.instanceMethod yX4_storms ∈ TT := tmb_3 (List.mem_of_getElem? (i := 35) rfl) rfl
theorem tw3_36 : Cond.selects RX4 yX4_storms yX4_storms ∈ TT := tmb_3 (List.mem_of_getElem? (i := 36) rfl) rfl
theorem tw3_37 : Cond.code yX4_storms cX4_storms 3 (some .int) ∈ TT := tmb_3 (List.mem_of_getElem? (i := 37) rfl) rfl
theorem tw3_38 : Cond.methodLink RX4 237 yX0_passStorm ∈ TT := tmb_3 (List.mem_of_getElem? (i := 38) rfl) rfl
theorem tw3_39 : Cond.instanceMethod yX0_passStorm ∈ TT := tmb_3 (List.mem_of_getElem? (i := 39) rfl) rfl
theorem tw3_40 : Cond.selects RX0 yX0_passStorm yX0_passStorm ∈ TT := tmb_3 (List.mem_of_getElem? (i := 40) rfl) rfl
theorem tw3_41 : Cond.code yX0_passStorm cX0_passStorm 2 none ∈ TT := tmb_3 (List.mem_of_getElem? (i := 41) rfl) rfl
theorem tw3_42 : Cond.methodLink RX0 106 yX0_draw ∈ TT := tmb_3 (List.mem_of_getElem? (i := 42) rfl) rfl
theorem tw3_43 : Cond.instanceMethod yX0_draw ∈ TT := tmb_3 (List.mem_of_getElem? (i := 43) rfl) rfl
theorem tw3_44 : Cond.selects RX0 yX0_draw yX0_draw ∈ TT := tmb_3 (List.mem_of_getElem? (i := 44) rfl) rfl
theorem tw3_45 : Cond.code yX0_draw cX0_draw 1 (some .int) ∈ TT := tmb_3 (List.mem_of_getElem? (i := 45) rfl) rfl
theorem tw3_46 : Cond.constant RX0 113 (1103515245) ∈ TT := tmb_3 (List.mem_of_getElem? (i := 46) rfl) rfl
theorem tw3_47 : Cond.methodLink RX0 110 yX0_passWatch ∈ TT := tmb_3 (List.mem_of_getElem? (i := 47) rfl) rfl
theorem tw6_6 : Cond.methodLink RL 153 yX5_storms ∈ TT := tmb_6 (List.mem_of_getElem? (i := 6) rfl) rfl
theorem tw6_7 : Cond.instanceMethod yX5_storms ∈ TT := tmb_6 (List.mem_of_getElem? (i := 7) rfl) rfl
theorem tw6_8 : Cond.selects RX5 yX5_storms yX5_storms ∈ TT := tmb_6 (List.mem_of_getElem? (i := 8) rfl) rfl
theorem tw6_9 : Cond.code yX5_storms cX5_storms 4 (some .int) ∈ TT := tmb_6 (List.mem_of_getElem? (i := 9) rfl) rfl
theorem tw6_10 : Cond.methodLink RX5 254 yX5_drawn ∈ TT := tmb_6 (List.mem_of_getElem? (i := 10) rfl) rfl
theorem tw6_12 : Cond.instanceMethod yX5_drawn ∈ TT := tmb_6 (List.mem_of_getElem? (i := 12) rfl) rfl
theorem ts4_4 : Cond.selects RX5 yX5_drawn yX5_drawn ∈ TT := tms_4 (List.mem_of_getElem? (i := 4) rfl) rfl
theorem tw6_13 : Cond.code yX5_drawn cX5_drawn 2 (some .int) ∈ TT := tmb_6 (List.mem_of_getElem? (i := 13) rfl) rfl
theorem tw6_14 : Cond.constant RX5 253 (1103515245) ∈ TT := tmb_6 (List.mem_of_getElem? (i := 14) rfl) rfl
theorem tw3_48 : Cond.methodLink RL 154 yX4_odds ∈ TT := tmb_3 (List.mem_of_getElem? (i := 48) rfl) rfl
theorem tw3_49 : Cond.instanceMethod yX4_odds ∈ TT := tmb_3 (List.mem_of_getElem? (i := 49) rfl) rfl
theorem tw3_50 : Cond.selects RX4 yX4_odds yX4_odds ∈ TT := tmb_3 (List.mem_of_getElem? (i := 50) rfl) rfl
theorem tw3_51 : Cond.code yX4_odds cX4_odds 6 (some .int) ∈ TT := tmb_3 (List.mem_of_getElem? (i := 51) rfl) rfl
theorem tw3_52 : Cond.methodLink RX4 240 yX0_drivesThatLand ∈ TT := tmb_3 (List.mem_of_getElem? (i := 52) rfl) rfl
theorem tw3_53 : Cond.instanceMethod yX0_drivesThatLand ∈ TT := tmb_3 (List.mem_of_getElem? (i := 53) rfl) rfl
theorem tw3_54 : Cond.selects RX0 yX0_drivesThatLand yX0_drivesThatLand ∈ TT := tmb_3 (List.mem_of_getElem? (i := 54) rfl) rfl
theorem tw3_55 : Cond.code yX0_drivesThatLand cX0_drivesThatLand 4 (some .int) ∈ TT := tmb_3 (List.mem_of_getElem? (i := 55) rfl) rfl
theorem tw6_15 : Cond.methodLink RL 157 yX5_odds ∈ TT := tmb_6 (List.mem_of_getElem? (i := 15) rfl) rfl
theorem tw6_16 : Cond.instanceMethod yX5_odds ∈ TT := tmb_6 (List.mem_of_getElem? (i := 16) rfl) rfl
theorem tw6_17 : Cond.selects RX5 yX5_odds yX5_odds ∈ TT := tmb_6 (List.mem_of_getElem? (i := 17) rfl) rfl
theorem tw6_18 : Cond.code yX5_odds cX5_odds 5 (some .int) ∈ TT := tmb_6 (List.mem_of_getElem? (i := 18) rfl) rfl
theorem tw3_56 : Cond.methodLink RL 158 yX4_drives ∈ TT := tmb_3 (List.mem_of_getElem? (i := 56) rfl) rfl
theorem tw3_57 : Cond.instanceMethod yX4_drives ∈ TT := tmb_3 (List.mem_of_getElem? (i := 57) rfl) rfl
theorem tw3_58 : Cond.selects RX4 yX4_drives yX4_drives ∈ TT := tmb_3 (List.mem_of_getElem? (i := 58) rfl) rfl
theorem tw3_59 : Cond.code yX4_drives cX4_drives 2 (some .long) ∈ TT := tmb_3 (List.mem_of_getElem? (i := 59) rfl) rfl
theorem tw6_19 : Cond.methodLink RL 162 yX5_drives ∈ TT := tmb_6 (List.mem_of_getElem? (i := 19) rfl) rfl
theorem tw6_20 : Cond.instanceMethod yX5_drives ∈ TT := tmb_6 (List.mem_of_getElem? (i := 20) rfl) rfl
theorem tw6_21 : Cond.selects RX5 yX5_drives yX5_drives ∈ TT := tmb_6 (List.mem_of_getElem? (i := 21) rfl) rfl
theorem tw6_22 : Cond.code yX5_drives cX5_drives 2 (some .long) ∈ TT := tmb_6 (List.mem_of_getElem? (i := 22) rfl) rfl
theorem tw3_60 : Cond.methodLink RL 163 yX4_seed ∈ TT := tmb_3 (List.mem_of_getElem? (i := 60) rfl) rfl
theorem tw3_61 : Cond.instanceMethod yX4_seed ∈ TT := tmb_3 (List.mem_of_getElem? (i := 61) rfl) rfl
theorem tw3_62 : Cond.selects RX4 yX4_seed yX4_seed ∈ TT := tmb_3 (List.mem_of_getElem? (i := 62) rfl) rfl
theorem tw3_63 : Cond.code yX4_seed cX4_seed 3 (some .int) ∈ TT := tmb_3 (List.mem_of_getElem? (i := 63) rfl) rfl
theorem tw1_65 : Cond.fieldLink RX4 243 "NavyOfCats$Navy" "z" "I" ∈ TT := tmb_1 (List.mem_of_getElem? (i := 65) rfl) rfl
theorem tw6_23 : Cond.methodLink RL 166 yX5_seed ∈ TT := tmb_6 (List.mem_of_getElem? (i := 23) rfl) rfl
theorem tw6_24 : Cond.instanceMethod yX5_seed ∈ TT := tmb_6 (List.mem_of_getElem? (i := 24) rfl) rfl
theorem tw6_25 : Cond.selects RX5 yX5_seed yX5_seed ∈ TT := tmb_6 (List.mem_of_getElem? (i := 25) rfl) rfl
theorem tw6_26 : Cond.code yX5_seed cX5_seed 2 (some .int) ∈ TT := tmb_6 (List.mem_of_getElem? (i := 26) rfl) rfl
theorem tw3_64 : Cond.methodLink RL 167 yX4_feed ∈ TT := tmb_3 (List.mem_of_getElem? (i := 64) rfl) rfl
theorem tw3_65 : Cond.instanceMethod yX4_feed ∈ TT := tmb_3 (List.mem_of_getElem? (i := 65) rfl) rfl
theorem tw3_66 : Cond.selects RX4 yX4_feed yX4_feed ∈ TT := tmb_3 (List.mem_of_getElem? (i := 66) rfl) rfl
theorem tw3_67 : Cond.code yX4_feed cX4_feed 4 (some .int) ∈ TT := tmb_3 (List.mem_of_getElem? (i := 67) rfl) rfl
theorem tw1_109 : Cond.fieldLink RX4 246 "NavyOfCats$Tape" "length" "I" ∈ TT := tmb_1 (List.mem_of_getElem? (i := 109) rfl) rfl
theorem tw3_68 : Cond.methodLink RX4 249 yX3_add ∈ TT := tmb_3 (List.mem_of_getElem? (i := 68) rfl) rfl
theorem tw3_69 : Cond.instanceMethod yX3_add ∈ TT := tmb_3 (List.mem_of_getElem? (i := 69) rfl) rfl
theorem tw3_70 : Cond.selects RX3 yX3_add yX3_add ∈ TT := tmb_3 (List.mem_of_getElem? (i := 70) rfl) rfl
theorem tw3_71 : Cond.code yX3_add cX3_add 2 none ∈ TT := tmb_3 (List.mem_of_getElem? (i := 71) rfl) rfl
theorem tw1_107 : Cond.fieldLink RX3 15 "NavyOfCats$Tape" "length" "I" ∈ TT := tmb_1 (List.mem_of_getElem? (i := 107) rfl) rfl
theorem tw6_27 : Cond.methodLink RL 170 yX5_feed ∈ TT := tmb_6 (List.mem_of_getElem? (i := 27) rfl) rfl
theorem tw6_28 : Cond.instanceMethod yX5_feed ∈ TT := tmb_6 (List.mem_of_getElem? (i := 28) rfl) rfl
theorem tw6_29 : Cond.selects RX5 yX5_feed yX5_feed ∈ TT := tmb_6 (List.mem_of_getElem? (i := 29) rfl) rfl
theorem tw6_30 : Cond.code yX5_feed cX5_feed 4 (some .int) ∈ TT := tmb_6 (List.mem_of_getElem? (i := 30) rfl) rfl
theorem tw4_94 : Cond.fieldLink RX5 257 "NavyOfCatsModel" "taped" "I" ∈ TT := tmb_4 (List.mem_of_getElem? (i := 94) rfl) rfl
theorem tw3_72 : Cond.methodLink RL 171 yX4_wipe ∈ TT := tmb_3 (List.mem_of_getElem? (i := 72) rfl) rfl
theorem tw3_73 : Cond.instanceMethod yX4_wipe ∈ TT := tmb_3 (List.mem_of_getElem? (i := 73) rfl) rfl
theorem tw3_74 : Cond.selects RX4 yX4_wipe yX4_wipe ∈ TT := tmb_3 (List.mem_of_getElem? (i := 74) rfl) rfl
theorem tw3_75 : Cond.code yX4_wipe cX4_wipe 2 (some .int) ∈ TT := tmb_3 (List.mem_of_getElem? (i := 75) rfl) rfl
theorem tw6_31 : Cond.methodLink RL 174 yX5_wipe ∈ TT := tmb_6 (List.mem_of_getElem? (i := 31) rfl) rfl
theorem tw6_32 : Cond.instanceMethod yX5_wipe ∈ TT := tmb_6 (List.mem_of_getElem? (i := 32) rfl) rfl
theorem tw6_33 : Cond.selects RX5 yX5_wipe yX5_wipe ∈ TT := tmb_6 (List.mem_of_getElem? (i := 33) rfl) rfl
theorem tw6_34 : Cond.code yX5_wipe cX5_wipe 2 (some .int) ∈ TT := tmb_6 (List.mem_of_getElem? (i := 34) rfl) rfl
theorem tw3_76 : Cond.methodLink RL 175 yX4_text ∈ TT := tmb_3 (List.mem_of_getElem? (i := 76) rfl) rfl
theorem tw3_77 : Cond.instanceMethod yX4_text ∈ TT := tmb_3 (List.mem_of_getElem? (i := 77) rfl) rfl
theorem tw3_78 : Cond.selects RX4 yX4_text yX4_text ∈ TT := tmb_3 (List.mem_of_getElem? (i := 78) rfl) rfl
theorem tw3_79 : Cond.code yX4_text cX4_text 2 (some .int) ∈ TT := tmb_3 (List.mem_of_getElem? (i := 79) rfl) rfl
theorem tw3_80 : Cond.methodLink RX4 253 yX1_scan ∈ TT := tmb_3 (List.mem_of_getElem? (i := 80) rfl) rfl
theorem tw3_81 : Cond.instanceMethod yX1_scan ∈ TT := tmb_3 (List.mem_of_getElem? (i := 81) rfl) rfl
theorem tw3_82 : Cond.selects RX1 yX1_scan yX1_scan ∈ TT := tmb_3 (List.mem_of_getElem? (i := 82) rfl) rfl
theorem tw3_83 : Cond.code yX1_scan cX1_scan 4 none ∈ TT := tmb_3 (List.mem_of_getElem? (i := 83) rfl) rfl
theorem tw1_124 : Cond.fieldLink RX1 21 "NavyOfCats$Reader" "last" "I" ∈ TT := tmb_1 (List.mem_of_getElem? (i := 124) rfl) rfl
theorem tw1_108 : Cond.fieldLink RX1 25 "NavyOfCats$Tape" "length" "I" ∈ TT := tmb_1 (List.mem_of_getElem? (i := 108) rfl) rfl
theorem tw1_106 : Cond.fieldLink RX1 30 "NavyOfCats$Tape" "bytes" "[I" ∈ TT := tmb_1 (List.mem_of_getElem? (i := 106) rfl) rfl
theorem tw3_84 : Cond.methodLink RX1 33 yX1_takeToken ∈ TT := tmb_3 (List.mem_of_getElem? (i := 84) rfl) rfl
theorem tw3_85 : Cond.instanceMethod yX1_takeToken ∈ TT := tmb_3 (List.mem_of_getElem? (i := 85) rfl) rfl
theorem tw3_86 : Cond.selects RX1 yX1_takeToken yX1_takeToken ∈ TT := tmb_3 (List.mem_of_getElem? (i := 86) rfl) rfl
theorem tw3_87 : Cond.code yX1_takeToken cX1_takeToken 4 (some .int) ∈ TT := tmb_3 (List.mem_of_getElem? (i := 87) rfl) rfl
theorem tw3_88 : Cond.methodLink RX1 37 yX3_runEnd ∈ TT := tmb_3 (List.mem_of_getElem? (i := 88) rfl) rfl
theorem tw3_89 : Cond.instanceMethod yX3_runEnd ∈ TT := tmb_3 (List.mem_of_getElem? (i := 89) rfl) rfl
theorem tw3_90 : Cond.selects RX3 yX3_runEnd yX3_runEnd ∈ TT := tmb_3 (List.mem_of_getElem? (i := 90) rfl) rfl
theorem tw3_91 : Cond.code yX3_runEnd cX3_runEnd 5 (some .int) ∈ TT := tmb_3 (List.mem_of_getElem? (i := 91) rfl) rfl
theorem tw3_93 : Cond.methodLink RX1 41 yX1_wordAt ∈ TT := tmb_3 (List.mem_of_getElem? (i := 93) rfl) rfl
theorem tw3_94 : Cond.static yX1_wordAt ∈ TT := tmb_3 (List.mem_of_getElem? (i := 94) rfl) rfl
theorem tw3_95 : Cond.code yX1_wordAt cX1_wordAt 4 (some .int) ∈ TT := tmb_3 (List.mem_of_getElem? (i := 95) rfl) rfl
theorem tw3_96 : Cond.methodLink RX1 53 yX1_spelled ∈ TT := tmb_3 (List.mem_of_getElem? (i := 96) rfl) rfl
theorem tw3_97 : Cond.static yX1_spelled ∈ TT := tmb_3 (List.mem_of_getElem? (i := 97) rfl) rfl
theorem tw3_98 : Cond.code yX1_spelled cX1_spelled 1 (some (.object "java/lang/String")) ∈ TT := tmb_3 (List.mem_of_getElem? (i := 98) rfl) rfl
theorem tw3_117 : Cond.methodLink RX1 57 yX3_isWordAt ∈ TT := tmb_3 (List.mem_of_getElem? (i := 117) rfl) rfl
theorem tw3_118 : Cond.instanceMethod yX3_isWordAt ∈ TT := tmb_3 (List.mem_of_getElem? (i := 118) rfl) rfl
theorem tw3_119 : Cond.selects RX3 yX3_isWordAt yX3_isWordAt ∈ TT := tmb_3 (List.mem_of_getElem? (i := 119) rfl) rfl
theorem tw3_120 : Cond.code yX3_isWordAt cX3_isWordAt 5 (some .boolean) ∈ TT := tmb_3 (List.mem_of_getElem? (i := 120) rfl) rfl
theorem tw3_121 : Cond.methodLink RX3 30 yJ0_length_8abf5 ∈ TT := tmb_3 (List.mem_of_getElem? (i := 121) rfl) rfl
theorem tw3_122 : Cond.instanceMethod yJ0_length_8abf5 ∈ TT := tmb_3 (List.mem_of_getElem? (i := 122) rfl) rfl
theorem tw3_123 : Cond.selects RJ0 yJ0_length_8abf5 yJ0_length_8abf5 ∈ TT := tmb_3 (List.mem_of_getElem? (i := 123) rfl) rfl
theorem tw1_11 : Cond.initialized RJ0 ∈ TT := tmb_1 (List.mem_of_getElem? (i := 11) rfl) rfl
theorem tw3_124 : Cond.code yJ0_length_8abf5 cJ0_length_8abf5 1 (some .int) ∈ TT := tmb_3 (List.mem_of_getElem? (i := 124) rfl) rfl
theorem tw6_166 : Cond.fieldLink RJ0 9 "java/lang/String" "value" "[B" ∈ TT := tmb_6 (List.mem_of_getElem? (i := 166) rfl) rfl
theorem tw3_125 : Cond.methodLink RJ0 335 yJ0_coder_7d493 ∈ TT := tmb_3 (List.mem_of_getElem? (i := 125) rfl) rfl
theorem tw3_126 : Cond.instanceMethod yJ0_coder_7d493 ∈ TT := tmb_3 (List.mem_of_getElem? (i := 126) rfl) rfl
theorem tw3_127 : Cond.selects RJ0 yJ0_coder_7d493 yJ0_coder_7d493 ∈ TT := tmb_3 (List.mem_of_getElem? (i := 127) rfl) rfl
theorem tw3_128 : Cond.code yJ0_coder_7d493 cJ0_coder_7d493 1 (some .byte) ∈ TT := tmb_3 (List.mem_of_getElem? (i := 128) rfl) rfl
theorem tw3_129 : Cond.fieldLink RJ0 38 "java/lang/String" "COMPACT_STRINGS" "Z" ∈ TT := tmb_3 (List.mem_of_getElem? (i := 129) rfl) rfl
theorem tw6_167 : Cond.fieldLink RJ0 15 "java/lang/String" "coder" "B" ∈ TT := tmb_6 (List.mem_of_getElem? (i := 167) rfl) rfl
theorem tw3_131 : Cond.methodLink RX3 35 yJ0_charAt_5068e ∈ TT := tmb_3 (List.mem_of_getElem? (i := 131) rfl) rfl
theorem tw3_132 : Cond.instanceMethod yJ0_charAt_5068e ∈ TT := tmb_3 (List.mem_of_getElem? (i := 132) rfl) rfl
theorem tw3_133 : Cond.selects RJ0 yJ0_charAt_5068e yJ0_charAt_5068e ∈ TT := tmb_3 (List.mem_of_getElem? (i := 133) rfl) rfl
theorem tw3_134 : Cond.code yJ0_charAt_5068e cJ0_charAt_5068e 2 (some .char) ∈ TT := tmb_3 (List.mem_of_getElem? (i := 134) rfl) rfl
theorem tw3_135 : Cond.methodLink RJ0 492 yJ0_isLatin1_aae02 ∈ TT := tmb_3 (List.mem_of_getElem? (i := 135) rfl) rfl
theorem tw3_136 : Cond.instanceMethod yJ0_isLatin1_aae02 ∈ TT := tmb_3 (List.mem_of_getElem? (i := 136) rfl) rfl
theorem tw3_137 : Cond.selects RJ0 yJ0_isLatin1_aae02 yJ0_isLatin1_aae02 ∈ TT := tmb_3 (List.mem_of_getElem? (i := 137) rfl) rfl
theorem tw3_138 : Cond.code yJ0_isLatin1_aae02 cJ0_isLatin1_aae02 1 (some .boolean) ∈ TT := tmb_3 (List.mem_of_getElem? (i := 138) rfl) rfl
theorem tw3_139 : Cond.methodLink RJ0 495 yJ1_charAt_3b067 ∈ TT := tmb_3 (List.mem_of_getElem? (i := 139) rfl) rfl
theorem tw3_140 : Cond.static yJ1_charAt_3b067 ∈ TT := tmb_3 (List.mem_of_getElem? (i := 140) rfl) rfl
theorem tw1_12 : Cond.initialized RJ1 ∈ TT := tmb_1 (List.mem_of_getElem? (i := 12) rfl) rfl
theorem tw3_141 : Cond.code yJ1_charAt_3b067 cJ1_charAt_3b067 2 (some .char) ∈ TT := tmb_3 (List.mem_of_getElem? (i := 141) rfl) rfl
theorem tw3_142 : Cond.methodLink RJ1 9 yJ0_checkIndex_df160 ∈ TT := tmb_3 (List.mem_of_getElem? (i := 142) rfl) rfl
theorem tw3_143 : Cond.static yJ0_checkIndex_df160 ∈ TT := tmb_3 (List.mem_of_getElem? (i := 143) rfl) rfl
theorem tw3_144 : Cond.code yJ0_checkIndex_df160 cJ0_checkIndex_df160 2 none ∈ TT := tmb_3 (List.mem_of_getElem? (i := 144) rfl) rfl
theorem tw3_145 : Cond.fieldLink RJ0 1053 "jdk/internal/util/Preconditions" "SIOOBE_FORMATTER" "Ljava/util/function/BiFunction;" ∈ TT := tmb_3 (List.mem_of_getElem? (i := 145) rfl) rfl
theorem tw3_147 : Cond.methodLink RJ0 1059 yJ3_checkIndex_8e157 ∈ TT := tmb_3 (List.mem_of_getElem? (i := 147) rfl) rfl
theorem tw3_148 : Cond.static yJ3_checkIndex_8e157 ∈ TT := tmb_3 (List.mem_of_getElem? (i := 148) rfl) rfl
theorem tw1_13 : Cond.initialized RJ3 ∈ TT := tmb_1 (List.mem_of_getElem? (i := 13) rfl) rfl
theorem tw3_149 : Cond.code yJ3_checkIndex_8e157 cJ3_checkIndex_8e157 3 (some .int) ∈ TT := tmb_3 (List.mem_of_getElem? (i := 149) rfl) rfl
theorem tw3_150 : Cond.methodLink RJ0 498 yJ2_charAt_3b067 ∈ TT := tmb_3 (List.mem_of_getElem? (i := 150) rfl) rfl
theorem tw3_151 : Cond.static yJ2_charAt_3b067 ∈ TT := tmb_3 (List.mem_of_getElem? (i := 151) rfl) rfl
theorem tw1_14 : Cond.initialized RJ2 ∈ TT := tmb_1 (List.mem_of_getElem? (i := 14) rfl) rfl
theorem tw3_152 : Cond.code yJ2_charAt_3b067 cJ2_charAt_3b067 2 (some .char) ∈ TT := tmb_3 (List.mem_of_getElem? (i := 152) rfl) rfl
theorem tw3_153 : Cond.methodLink RJ2 67 yJ2_checkIndex_2214a ∈ TT := tmb_3 (List.mem_of_getElem? (i := 153) rfl) rfl
theorem tw3_154 : Cond.static yJ2_checkIndex_2214a ∈ TT := tmb_3 (List.mem_of_getElem? (i := 154) rfl) rfl
theorem tw3_155 : Cond.code yJ2_checkIndex_2214a cJ2_checkIndex_2214a 2 none ∈ TT := tmb_3 (List.mem_of_getElem? (i := 155) rfl) rfl
theorem tw3_156 : Cond.methodLink RJ2 48 yJ2_length_9d52b ∈ TT := tmb_3 (List.mem_of_getElem? (i := 156) rfl) rfl
theorem tw3_157 : Cond.static yJ2_length_9d52b ∈ TT := tmb_3 (List.mem_of_getElem? (i := 157) rfl) rfl
theorem tw3_158 : Cond.code yJ2_length_9d52b cJ2_length_9d52b 1 (some .int) ∈ TT := tmb_3 (List.mem_of_getElem? (i := 158) rfl) rfl
theorem tw3_159 : Cond.methodLink RJ2 414 yJ0_checkIndex_df160 ∈ TT := tmb_3 (List.mem_of_getElem? (i := 159) rfl) rfl
theorem tw3_160 : Cond.methodLink RJ2 71 yJ2_getChar_3b067 ∈ TT := tmb_3 (List.mem_of_getElem? (i := 160) rfl) rfl
theorem tw3_161 : Cond.static yJ2_getChar_3b067 ∈ TT := tmb_3 (List.mem_of_getElem? (i := 161) rfl) rfl
theorem tw3_162 : Cond.code yJ2_getChar_3b067 cJ2_getChar_3b067 2 (some .char) ∈ TT := tmb_3 (List.mem_of_getElem? (i := 162) rfl) rfl
theorem tw3_163 : Cond.fieldLink RJ2 44 "java/lang/StringUTF16" "$assertionsDisabled" "Z" ∈ TT := tmb_3 (List.mem_of_getElem? (i := 163) rfl) rfl
theorem tw3_165 : Cond.fieldLink RJ2 59 "java/lang/StringUTF16" "HI_BYTE_SHIFT" "I" ∈ TT := tmb_3 (List.mem_of_getElem? (i := 165) rfl) rfl
theorem tw3_167 : Cond.fieldLink RJ2 63 "java/lang/StringUTF16" "LO_BYTE_SHIFT" "I" ∈ TT := tmb_3 (List.mem_of_getElem? (i := 167) rfl) rfl
theorem tw3_169 : Cond.methodLink RX1 45 yX3_numberAt ∈ TT := tmb_3 (List.mem_of_getElem? (i := 169) rfl) rfl
theorem tw3_170 : Cond.instanceMethod yX3_numberAt ∈ TT := tmb_3 (List.mem_of_getElem? (i := 170) rfl) rfl
theorem tw3_171 : Cond.selects RX3 yX3_numberAt yX3_numberAt ∈ TT := tmb_3 (List.mem_of_getElem? (i := 171) rfl) rfl
theorem tw3_172 : Cond.code yX3_numberAt cX3_numberAt 5 (some .int) ∈ TT := tmb_3 (List.mem_of_getElem? (i := 172) rfl) rfl
theorem tw3_173 : Cond.constant RX3 23 (100000) ∈ TT := tmb_3 (List.mem_of_getElem? (i := 173) rfl) rfl
theorem tw3_174 : Cond.methodLink RX3 24 Lib.Math.min.name ∈ TT := tmb_3 (List.mem_of_getElem? (i := 174) rfl) rfl
theorem tw3_175 : Cond.methodLink RX1 49 yX1_signOf ∈ TT := tmb_3 (List.mem_of_getElem? (i := 175) rfl) rfl
theorem tw3_176 : Cond.static yX1_signOf ∈ TT := tmb_3 (List.mem_of_getElem? (i := 176) rfl) rfl
theorem tw3_177 : Cond.code yX1_signOf cX1_signOf 1 (some .int) ∈ TT := tmb_3 (List.mem_of_getElem? (i := 177) rfl) rfl
theorem tw3_178 : Cond.methodLink RX4 257 yX1_read ∈ TT := tmb_3 (List.mem_of_getElem? (i := 178) rfl) rfl
theorem tw3_179 : Cond.instanceMethod yX1_read ∈ TT := tmb_3 (List.mem_of_getElem? (i := 179) rfl) rfl
theorem tw3_180 : Cond.selects RX1 yX1_read yX1_read ∈ TT := tmb_3 (List.mem_of_getElem? (i := 180) rfl) rfl
theorem tw3_181 : Cond.code yX1_read cX1_read 4 (some .int) ∈ TT := tmb_3 (List.mem_of_getElem? (i := 181) rfl) rfl
theorem tw1_126 : Cond.fieldLink RX1 97 "NavyOfCats$Reader" "acts" "Z" ∈ TT := tmb_1 (List.mem_of_getElem? (i := 126) rfl) rfl
theorem tw1_127 : Cond.fieldLink RX1 101 "NavyOfCats$Reader" "isFaulty" "Z" ∈ TT := tmb_1 (List.mem_of_getElem? (i := 127) rfl) rfl
theorem tw1_34 : Cond.fieldLink RX1 104 "NavyOfCats$Navy" "cats" "I" ∈ TT := tmb_1 (List.mem_of_getElem? (i := 34) rfl) rfl
theorem tw1_128 : Cond.fieldLink RX1 109 "NavyOfCats$Reader" "cats" "I" ∈ TT := tmb_1 (List.mem_of_getElem? (i := 128) rfl) rfl
theorem tw1_125 : Cond.fieldLink RX1 110 "NavyOfCats$Reader" "place" "I" ∈ TT := tmb_1 (List.mem_of_getElem? (i := 125) rfl) rfl
theorem tw3_182 : Cond.methodLink RX1 113 yX1_readItem ∈ TT := tmb_3 (List.mem_of_getElem? (i := 182) rfl) rfl
theorem tw3_183 : Cond.instanceMethod yX1_readItem ∈ TT := tmb_3 (List.mem_of_getElem? (i := 183) rfl) rfl
theorem tw3_184 : Cond.selects RX1 yX1_readItem yX1_readItem ∈ TT := tmb_3 (List.mem_of_getElem? (i := 184) rfl) rfl
theorem tw3_185 : Cond.code yX1_readItem cX1_readItem 3 none ∈ TT := tmb_3 (List.mem_of_getElem? (i := 185) rfl) rfl
theorem tw1_55 : Cond.fieldLink RX1 134 "NavyOfCats$Navy" "windNow" "I" ∈ TT := tmb_1 (List.mem_of_getElem? (i := 55) rfl) rfl
theorem tw1_58 : Cond.fieldLink RX1 140 "NavyOfCats$Navy" "fishWatches" "I" ∈ TT := tmb_1 (List.mem_of_getElem? (i := 58) rfl) rfl
theorem tw3_222 : Cond.constant RX1 143 (65535) ∈ TT := tmb_3 (List.mem_of_getElem? (i := 222) rfl) rfl
theorem tw1_60 : Cond.fieldLink RX1 144 "NavyOfCats$Navy" "stored" "I" ∈ TT := tmb_1 (List.mem_of_getElem? (i := 60) rfl) rfl
theorem tw3_187 : Cond.methodLink RX1 124 yX1_readCat ∈ TT := tmb_3 (List.mem_of_getElem? (i := 187) rfl) rfl
theorem tw3_188 : Cond.instanceMethod yX1_readCat ∈ TT := tmb_3 (List.mem_of_getElem? (i := 188) rfl) rfl
theorem tw3_189 : Cond.selects RX1 yX1_readCat yX1_readCat ∈ TT := tmb_3 (List.mem_of_getElem? (i := 189) rfl) rfl
theorem tw3_190 : Cond.code yX1_readCat cX1_readCat 5 none ∈ TT := tmb_3 (List.mem_of_getElem? (i := 190) rfl) rfl
theorem tw3_191 : Cond.methodLink RX1 117 yX1_advance ∈ TT := tmb_3 (List.mem_of_getElem? (i := 191) rfl) rfl
theorem tw3_192 : Cond.instanceMethod yX1_advance ∈ TT := tmb_3 (List.mem_of_getElem? (i := 192) rfl) rfl
theorem tw3_193 : Cond.selects RX1 yX1_advance yX1_advance ∈ TT := tmb_3 (List.mem_of_getElem? (i := 193) rfl) rfl
theorem tw3_194 : Cond.code yX1_advance cX1_advance 1 none ∈ TT := tmb_3 (List.mem_of_getElem? (i := 194) rfl) rfl
theorem tw3_195 : Cond.methodLink RX1 147 yX1_readPart ∈ TT := tmb_3 (List.mem_of_getElem? (i := 195) rfl) rfl
theorem tw3_196 : Cond.instanceMethod yX1_readPart ∈ TT := tmb_3 (List.mem_of_getElem? (i := 196) rfl) rfl
theorem tw3_197 : Cond.selects RX1 yX1_readPart yX1_readPart ∈ TT := tmb_3 (List.mem_of_getElem? (i := 197) rfl) rfl
theorem tw3_198 : Cond.code yX1_readPart cX1_readPart 3 (some .int) ∈ TT := tmb_3 (List.mem_of_getElem? (i := 198) rfl) rfl
theorem tw3_199 : Cond.methodLink RX1 158 yX1_takeNumber ∈ TT := tmb_3 (List.mem_of_getElem? (i := 199) rfl) rfl
theorem tw3_200 : Cond.instanceMethod yX1_takeNumber ∈ TT := tmb_3 (List.mem_of_getElem? (i := 200) rfl) rfl
theorem tw3_201 : Cond.selects RX1 yX1_takeNumber yX1_takeNumber ∈ TT := tmb_3 (List.mem_of_getElem? (i := 201) rfl) rfl
theorem tw3_202 : Cond.code yX1_takeNumber cX1_takeNumber 3 (some .int) ∈ TT := tmb_3 (List.mem_of_getElem? (i := 202) rfl) rfl
theorem tw3_203 : Cond.methodLink RX1 150 yX1_readHabit ∈ TT := tmb_3 (List.mem_of_getElem? (i := 203) rfl) rfl
theorem tw3_204 : Cond.instanceMethod yX1_readHabit ∈ TT := tmb_3 (List.mem_of_getElem? (i := 204) rfl) rfl
theorem tw3_205 : Cond.selects RX1 yX1_readHabit yX1_readHabit ∈ TT := tmb_3 (List.mem_of_getElem? (i := 205) rfl) rfl
theorem tw3_206 : Cond.code yX1_readHabit cX1_readHabit 3 (some .int) ∈ TT := tmb_3 (List.mem_of_getElem? (i := 206) rfl) rfl
theorem tw3_207 : Cond.methodLink RX1 154 yX0_addCat ∈ TT := tmb_3 (List.mem_of_getElem? (i := 207) rfl) rfl
theorem tw3_208 : Cond.methodLink RX1 128 yX1_readIsland ∈ TT := tmb_3 (List.mem_of_getElem? (i := 208) rfl) rfl
theorem tw3_209 : Cond.instanceMethod yX1_readIsland ∈ TT := tmb_3 (List.mem_of_getElem? (i := 209) rfl) rfl
theorem tw3_210 : Cond.selects RX1 yX1_readIsland yX1_readIsland ∈ TT := tmb_3 (List.mem_of_getElem? (i := 210) rfl) rfl
theorem tw3_211 : Cond.code yX1_readIsland cX1_readIsland 3 none ∈ TT := tmb_3 (List.mem_of_getElem? (i := 211) rfl) rfl
theorem tw1_52 : Cond.fieldLink RX1 164 "NavyOfCats$Navy" "isIsland" "[Z" ∈ TT := tmb_1 (List.mem_of_getElem? (i := 52) rfl) rfl
theorem tw3_213 : Cond.methodLink RX1 131 yX1_readShip ∈ TT := tmb_3 (List.mem_of_getElem? (i := 213) rfl) rfl
theorem tw3_214 : Cond.instanceMethod yX1_readShip ∈ TT := tmb_3 (List.mem_of_getElem? (i := 214) rfl) rfl
theorem tw3_215 : Cond.selects RX1 yX1_readShip yX1_readShip ∈ TT := tmb_3 (List.mem_of_getElem? (i := 215) rfl) rfl
theorem tw3_216 : Cond.code yX1_readShip cX1_readShip 6 none ∈ TT := tmb_3 (List.mem_of_getElem? (i := 216) rfl) rfl
theorem tw1_43 : Cond.fieldLink RX1 171 "NavyOfCats$Navy" "cellOf" "[I" ∈ TT := tmb_1 (List.mem_of_getElem? (i := 43) rfl) rfl
theorem tw1_46 : Cond.fieldLink RX1 174 "NavyOfCats$Navy" "orderOf" "[I" ∈ TT := tmb_1 (List.mem_of_getElem? (i := 46) rfl) rfl
theorem tw1_49 : Cond.fieldLink RX1 177 "NavyOfCats$Navy" "aboardOf" "[I" ∈ TT := tmb_1 (List.mem_of_getElem? (i := 49) rfl) rfl
theorem tw3_218 : Cond.methodLink RX1 137 yX1_readSetting ∈ TT := tmb_3 (List.mem_of_getElem? (i := 218) rfl) rfl
theorem tw3_219 : Cond.instanceMethod yX1_readSetting ∈ TT := tmb_3 (List.mem_of_getElem? (i := 219) rfl) rfl
theorem tw3_220 : Cond.selects RX1 yX1_readSetting yX1_readSetting ∈ TT := tmb_3 (List.mem_of_getElem? (i := 220) rfl) rfl
theorem tw3_221 : Cond.code yX1_readSetting cX1_readSetting 4 (some .int) ∈ TT := tmb_3 (List.mem_of_getElem? (i := 221) rfl) rfl
theorem tw6_35 : Cond.methodLink RL 178 yX5_text ∈ TT := tmb_6 (List.mem_of_getElem? (i := 35) rfl) rfl
theorem tw6_36 : Cond.instanceMethod yX5_text ∈ TT := tmb_6 (List.mem_of_getElem? (i := 36) rfl) rfl
theorem tw6_37 : Cond.selects RX5 yX5_text yX5_text ∈ TT := tmb_6 (List.mem_of_getElem? (i := 37) rfl) rfl
theorem tw6_38 : Cond.code yX5_text cX5_text 3 (some .int) ∈ TT := tmb_6 (List.mem_of_getElem? (i := 38) rfl) rfl
theorem tw4_96 : Cond.fieldLink RX5 260 "NavyOfCatsModel" "ends" "I" ∈ TT := tmb_4 (List.mem_of_getElem? (i := 96) rfl) rfl
theorem tw4_99 : Cond.fieldLink RX5 283 "NavyOfCatsModel" "isWrong" "Z" ∈ TT := tmb_4 (List.mem_of_getElem? (i := 99) rfl) rfl
theorem tw4_102 : Cond.fieldLink RX5 294 "NavyOfCatsModel" "itemMany" "I" ∈ TT := tmb_4 (List.mem_of_getElem? (i := 102) rfl) rfl
theorem tw4_103 : Cond.fieldLink RX5 327 "NavyOfCatsModel" "done" "I" ∈ TT := tmb_4 (List.mem_of_getElem? (i := 103) rfl) rfl
theorem tw4_104 : Cond.fieldLink RX5 321 "NavyOfCatsModel" "catThen" "I" ∈ TT := tmb_4 (List.mem_of_getElem? (i := 104) rfl) rfl
theorem tw4_97 : Cond.fieldLink RX5 272 "NavyOfCatsModel" "sort" "I" ∈ TT := tmb_4 (List.mem_of_getElem? (i := 97) rfl) rfl
theorem tw4_95 : Cond.fieldLink RX5 263 "NavyOfCatsModel" "begins" "I" ∈ TT := tmb_4 (List.mem_of_getElem? (i := 95) rfl) rfl
theorem tw6_39 : Cond.methodLink RX5 287 yX5_next ∈ TT := tmb_6 (List.mem_of_getElem? (i := 39) rfl) rfl
theorem tw6_41 : Cond.instanceMethod yX5_next ∈ TT := tmb_6 (List.mem_of_getElem? (i := 41) rfl) rfl
theorem ts4_5 : Cond.selects RX5 yX5_next yX5_next ∈ TT := tms_4 (List.mem_of_getElem? (i := 5) rfl) rfl
theorem tw6_42 : Cond.code yX5_next cX5_next 2 none ∈ TT := tmb_6 (List.mem_of_getElem? (i := 42) rfl) rfl
theorem tw4_98 : Cond.fieldLink RX5 269 "NavyOfCatsModel" "value" "I" ∈ TT := tmb_4 (List.mem_of_getElem? (i := 98) rfl) rfl
theorem tw6_47 : Cond.constant RX5 275 (100000) ∈ TT := tmb_6 (List.mem_of_getElem? (i := 47) rfl) rfl
theorem tw6_43 : Cond.methodLink RX5 266 yX5_byteAt ∈ TT := tmb_6 (List.mem_of_getElem? (i := 43) rfl) rfl
theorem tw6_45 : Cond.instanceMethod yX5_byteAt ∈ TT := tmb_6 (List.mem_of_getElem? (i := 45) rfl) rfl
theorem ts4_6 : Cond.selects RX5 yX5_byteAt yX5_byteAt ∈ TT := tms_4 (List.mem_of_getElem? (i := 6) rfl) rfl
theorem tw6_46 : Cond.code yX5_byteAt cX5_byteAt 2 (some .int) ∈ TT := tmb_6 (List.mem_of_getElem? (i := 46) rfl) rfl
theorem tw6_48 : Cond.methodLink RX5 348 yX5_readItem ∈ TT := tmb_6 (List.mem_of_getElem? (i := 48) rfl) rfl
theorem tw6_50 : Cond.instanceMethod yX5_readItem ∈ TT := tmb_6 (List.mem_of_getElem? (i := 50) rfl) rfl
theorem ts4_7 : Cond.selects RX5 yX5_readItem yX5_readItem ∈ TT := tms_4 (List.mem_of_getElem? (i := 7) rfl) rfl
theorem tw6_51 : Cond.code yX5_readItem cX5_readItem 3 none ∈ TT := tmb_6 (List.mem_of_getElem? (i := 51) rfl) rfl
theorem tw6_52 : Cond.methodLink RX5 324 yX5_kindTold ∈ TT := tmb_6 (List.mem_of_getElem? (i := 52) rfl) rfl
theorem tw6_54 : Cond.instanceMethod yX5_kindTold ∈ TT := tmb_6 (List.mem_of_getElem? (i := 54) rfl) rfl
theorem ts4_8 : Cond.selects RX5 yX5_kindTold yX5_kindTold ∈ TT := tms_4 (List.mem_of_getElem? (i := 8) rfl) rfl
theorem tw6_55 : Cond.code yX5_kindTold cX5_kindTold 3 (some .int) ∈ TT := tmb_6 (List.mem_of_getElem? (i := 55) rfl) rfl
theorem tw6_56 : Cond.methodLink RX5 297 yX5_isWord ∈ TT := tmb_6 (List.mem_of_getElem? (i := 56) rfl) rfl
theorem tw6_58 : Cond.instanceMethod yX5_isWord ∈ TT := tmb_6 (List.mem_of_getElem? (i := 58) rfl) rfl
theorem ts4_9 : Cond.selects RX5 yX5_isWord yX5_isWord ∈ TT := tms_4 (List.mem_of_getElem? (i := 9) rfl) rfl
theorem tw6_59 : Cond.code yX5_isWord cX5_isWord 4 (some .boolean) ∈ TT := tmb_6 (List.mem_of_getElem? (i := 59) rfl) rfl
theorem tw6_60 : Cond.methodLink RX5 276 yJ0_length_8abf5 ∈ TT := tmb_6 (List.mem_of_getElem? (i := 60) rfl) rfl
theorem tw6_61 : Cond.methodLink RX5 279 yJ0_charAt_5068e ∈ TT := tmb_6 (List.mem_of_getElem? (i := 61) rfl) rfl
theorem tw6_62 : Cond.methodLink RX5 290 yX5_must ∈ TT := tmb_6 (List.mem_of_getElem? (i := 62) rfl) rfl
theorem tw6_64 : Cond.instanceMethod yX5_must ∈ TT := tmb_6 (List.mem_of_getElem? (i := 64) rfl) rfl
theorem ts4_10 : Cond.selects RX5 yX5_must yX5_must ∈ TT := tms_4 (List.mem_of_getElem? (i := 10) rfl) rfl
theorem tw6_65 : Cond.code yX5_must cX5_must 2 none ∈ TT := tmb_6 (List.mem_of_getElem? (i := 65) rfl) rfl
theorem tw6_67 : Cond.methodLink RX5 303 yX5_isNext ∈ TT := tmb_6 (List.mem_of_getElem? (i := 67) rfl) rfl
theorem tw6_69 : Cond.instanceMethod yX5_isNext ∈ TT := tmb_6 (List.mem_of_getElem? (i := 69) rfl) rfl
theorem ts4_11 : Cond.selects RX5 yX5_isNext yX5_isNext ∈ TT := tms_4 (List.mem_of_getElem? (i := 11) rfl) rfl
theorem tw6_70 : Cond.code yX5_isNext cX5_isNext 3 (some .boolean) ∈ TT := tmb_6 (List.mem_of_getElem? (i := 70) rfl) rfl
theorem tw6_71 : Cond.methodLink RX5 309 yX5_number ∈ TT := tmb_6 (List.mem_of_getElem? (i := 71) rfl) rfl
theorem tw6_73 : Cond.instanceMethod yX5_number ∈ TT := tmb_6 (List.mem_of_getElem? (i := 73) rfl) rfl
theorem ts4_12 : Cond.selects RX5 yX5_number yX5_number ∈ TT := tms_4 (List.mem_of_getElem? (i := 12) rfl) rfl
theorem tw6_74 : Cond.code yX5_number cX5_number 4 (some .int) ∈ TT := tmb_6 (List.mem_of_getElem? (i := 74) rfl) rfl
theorem tw6_75 : Cond.methodLink RX5 332 yX5_habitTold ∈ TT := tmb_6 (List.mem_of_getElem? (i := 75) rfl) rfl
theorem tw6_77 : Cond.instanceMethod yX5_habitTold ∈ TT := tmb_6 (List.mem_of_getElem? (i := 77) rfl) rfl
theorem ts4_13 : Cond.selects RX5 yX5_habitTold yX5_habitTold ∈ TT := tms_4 (List.mem_of_getElem? (i := 13) rfl) rfl
theorem tw6_78 : Cond.code yX5_habitTold cX5_habitTold 1 (some .int) ∈ TT := tmb_6 (List.mem_of_getElem? (i := 78) rfl) rfl
theorem tw6_80 : Cond.methodLink RX5 306 yX5_isMinus ∈ TT := tmb_6 (List.mem_of_getElem? (i := 80) rfl) rfl
theorem tw6_82 : Cond.instanceMethod yX5_isMinus ∈ TT := tmb_6 (List.mem_of_getElem? (i := 82) rfl) rfl
theorem ts4_14 : Cond.selects RX5 yX5_isMinus yX5_isMinus ∈ TT := tms_4 (List.mem_of_getElem? (i := 14) rfl) rfl
theorem tw6_83 : Cond.code yX5_isMinus cX5_isMinus 2 (some .boolean) ∈ TT := tmb_6 (List.mem_of_getElem? (i := 83) rfl) rfl
theorem tw6_84 : Cond.methodLink RX5 313 yX5_item ∈ TT := tmb_6 (List.mem_of_getElem? (i := 84) rfl) rfl
theorem tw6_86 : Cond.instanceMethod yX5_item ∈ TT := tmb_6 (List.mem_of_getElem? (i := 86) rfl) rfl
theorem ts4_15 : Cond.selects RX5 yX5_item yX5_item ∈ TT := tms_4 (List.mem_of_getElem? (i := 15) rfl) rfl
theorem tw6_87 : Cond.code yX5_item cX5_item 5 none ∈ TT := tmb_6 (List.mem_of_getElem? (i := 87) rfl) rfl
theorem tw6_90 : Cond.methodLink RX5 339 yX5_shipTold ∈ TT := tmb_6 (List.mem_of_getElem? (i := 90) rfl) rfl
theorem tw6_92 : Cond.instanceMethod yX5_shipTold ∈ TT := tmb_6 (List.mem_of_getElem? (i := 92) rfl) rfl
theorem ts5_0 : Cond.selects RX5 yX5_shipTold yX5_shipTold ∈ TT := tms_5 (List.mem_of_getElem? (i := 0) rfl) rfl
theorem tw6_93 : Cond.code yX5_shipTold cX5_shipTold 2 none ∈ TT := tmb_6 (List.mem_of_getElem? (i := 93) rfl) rfl
theorem tw6_100 : Cond.methodLink RX5 351 yX5_isSo ∈ TT := tmb_6 (List.mem_of_getElem? (i := 100) rfl) rfl
theorem tw6_102 : Cond.instanceMethod yX5_isSo ∈ TT := tmb_6 (List.mem_of_getElem? (i := 102) rfl) rfl
theorem ts5_1 : Cond.selects RX5 yX5_isSo yX5_isSo ∈ TT := tms_5 (List.mem_of_getElem? (i := 1) rfl) rfl
theorem tw6_103 : Cond.code yX5_isSo cX5_isSo 4 (some .int) ∈ TT := tmb_6 (List.mem_of_getElem? (i := 103) rfl) rfl
theorem tw3_224 : Cond.methodLink RL 179 yX4_hold ∈ TT := tmb_3 (List.mem_of_getElem? (i := 224) rfl) rfl
theorem tw3_225 : Cond.instanceMethod yX4_hold ∈ TT := tmb_3 (List.mem_of_getElem? (i := 225) rfl) rfl
theorem tw3_226 : Cond.selects RX4 yX4_hold yX4_hold ∈ TT := tmb_3 (List.mem_of_getElem? (i := 226) rfl) rfl
theorem tw3_227 : Cond.code yX4_hold cX4_hold 3 (some .int) ∈ TT := tmb_3 (List.mem_of_getElem? (i := 227) rfl) rfl
theorem tw1_67 : Cond.fieldLink RX4 264 "NavyOfCats$Navy" "spots" "[I" ∈ TT := tmb_1 (List.mem_of_getElem? (i := 67) rfl) rfl
theorem tw3_228 : Cond.methodLink RX4 261 yX4_isSpot ∈ TT := tmb_3 (List.mem_of_getElem? (i := 228) rfl) rfl
theorem tw3_229 : Cond.static yX4_isSpot ∈ TT := tmb_3 (List.mem_of_getElem? (i := 229) rfl) rfl
theorem tw3_230 : Cond.code yX4_isSpot cX4_isSpot 1 (some .boolean) ∈ TT := tmb_3 (List.mem_of_getElem? (i := 230) rfl) rfl
theorem tw6_104 : Cond.methodLink RL 182 yX5_hold ∈ TT := tmb_6 (List.mem_of_getElem? (i := 104) rfl) rfl
theorem tw6_105 : Cond.instanceMethod yX5_hold ∈ TT := tmb_6 (List.mem_of_getElem? (i := 105) rfl) rfl
theorem tw6_106 : Cond.selects RX5 yX5_hold yX5_hold ∈ TT := tmb_6 (List.mem_of_getElem? (i := 106) rfl) rfl
theorem tw6_107 : Cond.code yX5_hold cX5_hold 3 (some .int) ∈ TT := tmb_6 (List.mem_of_getElem? (i := 107) rfl) rfl
theorem tw6_108 : Cond.methodLink RX5 354 yX5_isSpot ∈ TT := tmb_6 (List.mem_of_getElem? (i := 108) rfl) rfl
theorem tw6_109 : Cond.static yX5_isSpot ∈ TT := tmb_6 (List.mem_of_getElem? (i := 109) rfl) rfl
theorem tw6_110 : Cond.code yX5_isSpot cX5_isSpot 1 (some .boolean) ∈ TT := tmb_6 (List.mem_of_getElem? (i := 110) rfl) rfl
theorem tw3_231 : Cond.methodLink RL 183 yX4_as ∈ TT := tmb_3 (List.mem_of_getElem? (i := 231) rfl) rfl
theorem tw3_232 : Cond.instanceMethod yX4_as ∈ TT := tmb_3 (List.mem_of_getElem? (i := 232) rfl) rfl
theorem tw3_233 : Cond.selects RX4 yX4_as yX4_as ∈ TT := tmb_3 (List.mem_of_getElem? (i := 233) rfl) rfl
theorem tw3_234 : Cond.code yX4_as cX4_as 4 (some .int) ∈ TT := tmb_3 (List.mem_of_getElem? (i := 234) rfl) rfl
theorem tw4_0 : Cond.constant RX4 271 (-1000003) ∈ TT := tmb_4 (List.mem_of_getElem? (i := 0) rfl) rfl
theorem tw3_235 : Cond.methodLink RX4 268 yX4_isOrUnder ∈ TT := tmb_3 (List.mem_of_getElem? (i := 235) rfl) rfl
theorem tw3_236 : Cond.static yX4_isOrUnder ∈ TT := tmb_3 (List.mem_of_getElem? (i := 236) rfl) rfl
theorem tw3_237 : Cond.code yX4_isOrUnder cX4_isOrUnder 4 (some .boolean) ∈ TT := tmb_3 (List.mem_of_getElem? (i := 237) rfl) rfl
theorem tw3_238 : Cond.fieldLink RX4 315 "NavyOfCats" "KIND_ABOVE" "[I" ∈ TT := tmb_3 (List.mem_of_getElem? (i := 238) rfl) rfl
theorem tw6_111 : Cond.methodLink RL 186 yX5_as ∈ TT := tmb_6 (List.mem_of_getElem? (i := 111) rfl) rfl
theorem tw6_112 : Cond.instanceMethod yX5_as ∈ TT := tmb_6 (List.mem_of_getElem? (i := 112) rfl) rfl
theorem tw6_113 : Cond.selects RX5 yX5_as yX5_as ∈ TT := tmb_6 (List.mem_of_getElem? (i := 113) rfl) rfl
theorem tw6_114 : Cond.code yX5_as cX5_as 4 (some .int) ∈ TT := tmb_6 (List.mem_of_getElem? (i := 114) rfl) rfl
theorem tw6_121 : Cond.constant RX5 360 (-1000003) ∈ TT := tmb_6 (List.mem_of_getElem? (i := 121) rfl) rfl
theorem tw6_115 : Cond.methodLink RX5 357 yX5_isUnder ∈ TT := tmb_6 (List.mem_of_getElem? (i := 115) rfl) rfl
theorem tw6_116 : Cond.static yX5_isUnder ∈ TT := tmb_6 (List.mem_of_getElem? (i := 116) rfl) rfl
theorem tw6_117 : Cond.code yX5_isUnder cX5_isUnder 3 (some .boolean) ∈ TT := tmb_6 (List.mem_of_getElem? (i := 117) rfl) rfl
theorem tw6_118 : Cond.methodLink RX5 95 yX5_above ∈ TT := tmb_6 (List.mem_of_getElem? (i := 118) rfl) rfl
theorem tw6_119 : Cond.static yX5_above ∈ TT := tmb_6 (List.mem_of_getElem? (i := 119) rfl) rfl
theorem tw6_120 : Cond.code yX5_above cX5_above 1 (some .int) ∈ TT := tmb_6 (List.mem_of_getElem? (i := 120) rfl) rfl
theorem tw4_1 : Cond.methodLink RL 187 yX4_sheet ∈ TT := tmb_4 (List.mem_of_getElem? (i := 1) rfl) rfl
theorem tw4_2 : Cond.instanceMethod yX4_sheet ∈ TT := tmb_4 (List.mem_of_getElem? (i := 2) rfl) rfl
theorem tw4_3 : Cond.selects RX4 yX4_sheet yX4_sheet ∈ TT := tmb_4 (List.mem_of_getElem? (i := 3) rfl) rfl
theorem tw4_4 : Cond.code yX4_sheet cX4_sheet 4 (some .int) ∈ TT := tmb_4 (List.mem_of_getElem? (i := 4) rfl) rfl
theorem tw4_5 : Cond.constant RX4 275 (-1000007) ∈ TT := tmb_4 (List.mem_of_getElem? (i := 5) rfl) rfl
theorem tw4_6 : Cond.methodLink RX4 276 yX2_begin ∈ TT := tmb_4 (List.mem_of_getElem? (i := 6) rfl) rfl
theorem tw4_7 : Cond.instanceMethod yX2_begin ∈ TT := tmb_4 (List.mem_of_getElem? (i := 7) rfl) rfl
theorem tw4_8 : Cond.selects RX2 yX2_begin yX2_begin ∈ TT := tmb_4 (List.mem_of_getElem? (i := 8) rfl) rfl
theorem tw4_9 : Cond.code yX2_begin cX2_begin 3 none ∈ TT := tmb_4 (List.mem_of_getElem? (i := 9) rfl) rfl
theorem tw1_155 : Cond.fieldLink RX2 19 "NavyOfCats$Sheet" "size" "I" ∈ TT := tmb_1 (List.mem_of_getElem? (i := 155) rfl) rfl
theorem tw4_10 : Cond.methodLink RX2 22 yJ7_fill_53178 ∈ TT := tmb_4 (List.mem_of_getElem? (i := 10) rfl) rfl
theorem tw6_122 : Cond.methodLink RL 190 yX5_sheet ∈ TT := tmb_6 (List.mem_of_getElem? (i := 122) rfl) rfl
theorem tw6_123 : Cond.instanceMethod yX5_sheet ∈ TT := tmb_6 (List.mem_of_getElem? (i := 123) rfl) rfl
theorem tw6_124 : Cond.selects RX5 yX5_sheet yX5_sheet ∈ TT := tmb_6 (List.mem_of_getElem? (i := 124) rfl) rfl
theorem tw6_125 : Cond.code yX5_sheet cX5_sheet 5 (some .int) ∈ TT := tmb_6 (List.mem_of_getElem? (i := 125) rfl) rfl
theorem tw6_126 : Cond.constant RX5 361 (-1000007) ∈ TT := tmb_6 (List.mem_of_getElem? (i := 126) rfl) rfl
theorem tw4_11 : Cond.methodLink RL 191 yX4_write ∈ TT := tmb_4 (List.mem_of_getElem? (i := 11) rfl) rfl
theorem tw4_12 : Cond.instanceMethod yX4_write ∈ TT := tmb_4 (List.mem_of_getElem? (i := 12) rfl) rfl
theorem tw4_13 : Cond.selects RX4 yX4_write yX4_write ∈ TT := tmb_4 (List.mem_of_getElem? (i := 13) rfl) rfl
theorem tw4_14 : Cond.code yX4_write cX4_write 5 (some .int) ∈ TT := tmb_4 (List.mem_of_getElem? (i := 14) rfl) rfl
theorem tw4_15 : Cond.methodLink RX4 279 yX2_lowest ∈ TT := tmb_4 (List.mem_of_getElem? (i := 15) rfl) rfl
theorem tw4_16 : Cond.instanceMethod yX2_lowest ∈ TT := tmb_4 (List.mem_of_getElem? (i := 16) rfl) rfl
theorem tw4_17 : Cond.selects RX2 yX2_lowest yX2_lowest ∈ TT := tmb_4 (List.mem_of_getElem? (i := 17) rfl) rfl
theorem tw4_18 : Cond.code yX2_lowest cX2_lowest 2 (some .int) ∈ TT := tmb_4 (List.mem_of_getElem? (i := 18) rfl) rfl
theorem tw6_127 : Cond.methodLink RL 194 yX5_write ∈ TT := tmb_6 (List.mem_of_getElem? (i := 127) rfl) rfl
theorem tw6_128 : Cond.instanceMethod yX5_write ∈ TT := tmb_6 (List.mem_of_getElem? (i := 128) rfl) rfl
theorem tw6_129 : Cond.selects RX5 yX5_write yX5_write ∈ TT := tmb_6 (List.mem_of_getElem? (i := 129) rfl) rfl
theorem tw6_130 : Cond.code yX5_write cX5_write 4 (some .int) ∈ TT := tmb_6 (List.mem_of_getElem? (i := 130) rfl) rfl
theorem tw6_131 : Cond.methodLink RX5 362 yX5_cutTo ∈ TT := tmb_6 (List.mem_of_getElem? (i := 131) rfl) rfl
theorem tw6_132 : Cond.static yX5_cutTo ∈ TT := tmb_6 (List.mem_of_getElem? (i := 132) rfl) rfl
theorem tw6_133 : Cond.code yX5_cutTo cX5_cutTo 2 (some .int) ∈ TT := tmb_6 (List.mem_of_getElem? (i := 133) rfl) rfl
theorem tw4_19 : Cond.methodLink RL 195 yX4_copy ∈ TT := tmb_4 (List.mem_of_getElem? (i := 19) rfl) rfl
theorem tw4_20 : Cond.instanceMethod yX4_copy ∈ TT := tmb_4 (List.mem_of_getElem? (i := 20) rfl) rfl
theorem tw4_21 : Cond.selects RX4 yX4_copy yX4_copy ∈ TT := tmb_4 (List.mem_of_getElem? (i := 21) rfl) rfl
theorem tw4_22 : Cond.code yX4_copy cX4_copy 8 (some .int) ∈ TT := tmb_4 (List.mem_of_getElem? (i := 22) rfl) rfl
theorem tw1_154 : Cond.fieldLink RX4 286 "NavyOfCats$Sheet" "bits" "I" ∈ TT := tmb_1 (List.mem_of_getElem? (i := 154) rfl) rfl
theorem tw4_23 : Cond.methodLink RX4 289 yX2_has ∈ TT := tmb_4 (List.mem_of_getElem? (i := 23) rfl) rfl
theorem tw4_24 : Cond.instanceMethod yX2_has ∈ TT := tmb_4 (List.mem_of_getElem? (i := 24) rfl) rfl
theorem tw4_25 : Cond.selects RX2 yX2_has yX2_has ∈ TT := tmb_4 (List.mem_of_getElem? (i := 25) rfl) rfl
theorem tw4_26 : Cond.code yX2_has cX2_has 3 (some .boolean) ∈ TT := tmb_4 (List.mem_of_getElem? (i := 26) rfl) rfl
theorem tw6_134 : Cond.methodLink RL 199 yX5_copy ∈ TT := tmb_6 (List.mem_of_getElem? (i := 134) rfl) rfl
theorem tw6_135 : Cond.instanceMethod yX5_copy ∈ TT := tmb_6 (List.mem_of_getElem? (i := 135) rfl) rfl
theorem tw6_136 : Cond.selects RX5 yX5_copy yX5_copy ∈ TT := tmb_6 (List.mem_of_getElem? (i := 136) rfl) rfl
theorem tw6_137 : Cond.code yX5_copy cX5_copy 7 (some .int) ∈ TT := tmb_6 (List.mem_of_getElem? (i := 137) rfl) rfl
theorem tw4_27 : Cond.methodLink RL 200 yX4_load ∈ TT := tmb_4 (List.mem_of_getElem? (i := 27) rfl) rfl
theorem tw4_28 : Cond.instanceMethod yX4_load ∈ TT := tmb_4 (List.mem_of_getElem? (i := 28) rfl) rfl
theorem tw4_29 : Cond.selects RX4 yX4_load yX4_load ∈ TT := tmb_4 (List.mem_of_getElem? (i := 29) rfl) rfl
theorem tw4_30 : Cond.code yX4_load cX4_load 6 (some .int) ∈ TT := tmb_4 (List.mem_of_getElem? (i := 30) rfl) rfl
theorem tw6_138 : Cond.methodLink RL 203 yX5_load ∈ TT := tmb_6 (List.mem_of_getElem? (i := 138) rfl) rfl
theorem tw6_139 : Cond.instanceMethod yX5_load ∈ TT := tmb_6 (List.mem_of_getElem? (i := 139) rfl) rfl
theorem tw6_140 : Cond.selects RX5 yX5_load yX5_load ∈ TT := tmb_6 (List.mem_of_getElem? (i := 140) rfl) rfl
theorem tw6_141 : Cond.code yX5_load cX5_load 3 (some .int) ∈ TT := tmb_6 (List.mem_of_getElem? (i := 141) rfl) rfl
theorem tw4_31 : Cond.methodLink RL 204 yX4_judge ∈ TT := tmb_4 (List.mem_of_getElem? (i := 31) rfl) rfl
theorem tw4_32 : Cond.instanceMethod yX4_judge ∈ TT := tmb_4 (List.mem_of_getElem? (i := 32) rfl) rfl
theorem tw4_33 : Cond.selects RX4 yX4_judge yX4_judge ∈ TT := tmb_4 (List.mem_of_getElem? (i := 33) rfl) rfl
theorem tw4_34 : Cond.code yX4_judge cX4_judge 5 (some .int) ∈ TT := tmb_4 (List.mem_of_getElem? (i := 34) rfl) rfl
theorem tw6_142 : Cond.methodLink RL 207 yX5_judge ∈ TT := tmb_6 (List.mem_of_getElem? (i := 142) rfl) rfl
theorem tw6_143 : Cond.instanceMethod yX5_judge ∈ TT := tmb_6 (List.mem_of_getElem? (i := 143) rfl) rfl
theorem tw6_144 : Cond.selects RX5 yX5_judge yX5_judge ∈ TT := tmb_6 (List.mem_of_getElem? (i := 144) rfl) rfl
theorem tw6_145 : Cond.code yX5_judge cX5_judge 3 (some .int) ∈ TT := tmb_6 (List.mem_of_getElem? (i := 145) rfl) rfl
theorem tw4_35 : Cond.methodLink RL 208 yX4_image ∈ TT := tmb_4 (List.mem_of_getElem? (i := 35) rfl) rfl
theorem tw4_36 : Cond.instanceMethod yX4_image ∈ TT := tmb_4 (List.mem_of_getElem? (i := 36) rfl) rfl
theorem tw4_37 : Cond.selects RX4 yX4_image yX4_image ∈ TT := tmb_4 (List.mem_of_getElem? (i := 37) rfl) rfl
theorem tw4_38 : Cond.code yX4_image cX4_image 1 (some .int) ∈ TT := tmb_4 (List.mem_of_getElem? (i := 38) rfl) rfl
theorem tw1_168 : Cond.fieldLink RX4 296 "NavyOfCats" "isKept" "Z" ∈ TT := tmb_1 (List.mem_of_getElem? (i := 168) rfl) rfl
theorem tw4_39 : Cond.methodLink RX4 292 yX0_become ∈ TT := tmb_4 (List.mem_of_getElem? (i := 39) rfl) rfl
theorem tw4_40 : Cond.instanceMethod yX0_become ∈ TT := tmb_4 (List.mem_of_getElem? (i := 40) rfl) rfl
theorem tw4_41 : Cond.selects RX0 yX0_become yX0_become ∈ TT := tmb_4 (List.mem_of_getElem? (i := 41) rfl) rfl
theorem tw4_42 : Cond.code yX0_become cX0_become 3 none ∈ TT := tmb_4 (List.mem_of_getElem? (i := 42) rfl) rfl
theorem tw4_43 : Cond.methodLink RX0 53 arraycopyName ∈ TT := tmb_4 (List.mem_of_getElem? (i := 43) rfl) rfl
theorem tw6_146 : Cond.methodLink RL 211 yX5_image ∈ TT := tmb_6 (List.mem_of_getElem? (i := 146) rfl) rfl
theorem tw6_147 : Cond.instanceMethod yX5_image ∈ TT := tmb_6 (List.mem_of_getElem? (i := 147) rfl) rfl
theorem tw6_148 : Cond.selects RX5 yX5_image yX5_image ∈ TT := tmb_6 (List.mem_of_getElem? (i := 148) rfl) rfl
theorem tw6_149 : Cond.code yX5_image cX5_image 1 (some .int) ∈ TT := tmb_6 (List.mem_of_getElem? (i := 149) rfl) rfl
theorem tw4_86 : Cond.fieldLink RX5 365 "NavyOfCatsModel" "isKept" "Z" ∈ TT := tmb_4 (List.mem_of_getElem? (i := 86) rfl) rfl
theorem tw4_44 : Cond.methodLink RL 212 yX4_undo ∈ TT := tmb_4 (List.mem_of_getElem? (i := 44) rfl) rfl
theorem tw4_45 : Cond.instanceMethod yX4_undo ∈ TT := tmb_4 (List.mem_of_getElem? (i := 45) rfl) rfl
theorem tw4_46 : Cond.selects RX4 yX4_undo yX4_undo ∈ TT := tmb_4 (List.mem_of_getElem? (i := 46) rfl) rfl
theorem tw4_47 : Cond.code yX4_undo cX4_undo 1 (some .int) ∈ TT := tmb_4 (List.mem_of_getElem? (i := 47) rfl) rfl
theorem tw6_150 : Cond.methodLink RL 215 yX5_undo ∈ TT := tmb_6 (List.mem_of_getElem? (i := 150) rfl) rfl
theorem tw6_151 : Cond.instanceMethod yX5_undo ∈ TT := tmb_6 (List.mem_of_getElem? (i := 151) rfl) rfl
theorem tw6_152 : Cond.selects RX5 yX5_undo yX5_undo ∈ TT := tmb_6 (List.mem_of_getElem? (i := 152) rfl) rfl
theorem tw6_153 : Cond.code yX5_undo cX5_undo 1 (some .int) ∈ TT := tmb_6 (List.mem_of_getElem? (i := 153) rfl) rfl
theorem tw4_48 : Cond.methodLink RL 216 yX4_tear ∈ TT := tmb_4 (List.mem_of_getElem? (i := 48) rfl) rfl
theorem tw4_49 : Cond.instanceMethod yX4_tear ∈ TT := tmb_4 (List.mem_of_getElem? (i := 49) rfl) rfl
theorem tw4_50 : Cond.selects RX4 yX4_tear yX4_tear ∈ TT := tmb_4 (List.mem_of_getElem? (i := 50) rfl) rfl
theorem tw4_51 : Cond.code yX4_tear cX4_tear 2 (some .int) ∈ TT := tmb_4 (List.mem_of_getElem? (i := 51) rfl) rfl
theorem tw6_154 : Cond.methodLink RL 219 yX5_tear ∈ TT := tmb_6 (List.mem_of_getElem? (i := 154) rfl) rfl
theorem tw6_155 : Cond.instanceMethod yX5_tear ∈ TT := tmb_6 (List.mem_of_getElem? (i := 155) rfl) rfl
theorem tw6_156 : Cond.selects RX5 yX5_tear yX5_tear ∈ TT := tmb_6 (List.mem_of_getElem? (i := 156) rfl) rfl
theorem tw6_157 : Cond.code yX5_tear cX5_tear 2 (some .int) ∈ TT := tmb_6 (List.mem_of_getElem? (i := 157) rfl) rfl
theorem tw4_52 : Cond.methodLink RL 220 yX4_count ∈ TT := tmb_4 (List.mem_of_getElem? (i := 52) rfl) rfl
theorem tw4_53 : Cond.instanceMethod yX4_count ∈ TT := tmb_4 (List.mem_of_getElem? (i := 53) rfl) rfl
theorem tw4_54 : Cond.selects RX4 yX4_count yX4_count ∈ TT := tmb_4 (List.mem_of_getElem? (i := 54) rfl) rfl
theorem tw4_55 : Cond.code yX4_count cX4_count 2 (some .int) ∈ TT := tmb_4 (List.mem_of_getElem? (i := 55) rfl) rfl
theorem tw4_56 : Cond.methodLink RX4 300 yX0_hungerOfAll ∈ TT := tmb_4 (List.mem_of_getElem? (i := 56) rfl) rfl
theorem tw4_57 : Cond.instanceMethod yX0_hungerOfAll ∈ TT := tmb_4 (List.mem_of_getElem? (i := 57) rfl) rfl
theorem tw4_58 : Cond.selects RX0 yX0_hungerOfAll yX0_hungerOfAll ∈ TT := tmb_4 (List.mem_of_getElem? (i := 58) rfl) rfl
theorem tw4_59 : Cond.code yX0_hungerOfAll cX0_hungerOfAll 3 (some .int) ∈ TT := tmb_4 (List.mem_of_getElem? (i := 59) rfl) rfl
theorem tw4_60 : Cond.methodLink RX4 303 yX0_spotsHeld ∈ TT := tmb_4 (List.mem_of_getElem? (i := 60) rfl) rfl
theorem tw4_61 : Cond.instanceMethod yX0_spotsHeld ∈ TT := tmb_4 (List.mem_of_getElem? (i := 61) rfl) rfl
theorem tw4_62 : Cond.selects RX0 yX0_spotsHeld yX0_spotsHeld ∈ TT := tmb_4 (List.mem_of_getElem? (i := 62) rfl) rfl
theorem tw4_63 : Cond.code yX0_spotsHeld cX0_spotsHeld 3 (some .int) ∈ TT := tmb_4 (List.mem_of_getElem? (i := 63) rfl) rfl
theorem tw6_158 : Cond.methodLink RL 223 yX5_count ∈ TT := tmb_6 (List.mem_of_getElem? (i := 158) rfl) rfl
theorem tw6_159 : Cond.instanceMethod yX5_count ∈ TT := tmb_6 (List.mem_of_getElem? (i := 159) rfl) rfl
theorem tw6_160 : Cond.selects RX5 yX5_count yX5_count ∈ TT := tmb_6 (List.mem_of_getElem? (i := 160) rfl) rfl
theorem tw6_161 : Cond.code yX5_count cX5_count 4 (some .int) ∈ TT := tmb_6 (List.mem_of_getElem? (i := 161) rfl) rfl
theorem tw4_64 : Cond.methodLink RL 224 yX4_status ∈ TT := tmb_4 (List.mem_of_getElem? (i := 64) rfl) rfl
theorem tw4_65 : Cond.instanceMethod yX4_status ∈ TT := tmb_4 (List.mem_of_getElem? (i := 65) rfl) rfl
theorem tw4_66 : Cond.selects RX4 yX4_status yX4_status ∈ TT := tmb_4 (List.mem_of_getElem? (i := 66) rfl) rfl
theorem tw4_67 : Cond.code yX4_status cX4_status 4 (some .int) ∈ TT := tmb_4 (List.mem_of_getElem? (i := 67) rfl) rfl
theorem tw6_162 : Cond.methodLink RL 227 yX5_status ∈ TT := tmb_6 (List.mem_of_getElem? (i := 162) rfl) rfl
theorem tw6_163 : Cond.instanceMethod yX5_status ∈ TT := tmb_6 (List.mem_of_getElem? (i := 163) rfl) rfl
theorem tw6_164 : Cond.selects RX5 yX5_status yX5_status ∈ TT := tmb_6 (List.mem_of_getElem? (i := 164) rfl) rfl
theorem tw6_165 : Cond.code yX5_status cX5_status 2 (some .int) ∈ TT := tmb_6 (List.mem_of_getElem? (i := 165) rfl) rfl
theorem tfX0_0 : u_lay RX0 TX0 0 ∈ TT := tmb_1 (List.mem_of_getElem? (i := 68) rfl) rfl
theorem tfX0_1 : u_lay RX0 TX0 1 ∈ TT := tmb_1 (List.mem_of_getElem? (i := 70) rfl) rfl
theorem tfX0_2 : u_lay RX0 TX0 2 ∈ TT := tmb_1 (List.mem_of_getElem? (i := 72) rfl) rfl
theorem tfX0_3 : u_lay RX0 TX0 3 ∈ TT := tmb_1 (List.mem_of_getElem? (i := 74) rfl) rfl
theorem tfX0_4 : u_lay RX0 TX0 4 ∈ TT := tmb_1 (List.mem_of_getElem? (i := 76) rfl) rfl
theorem tfX0_5 : u_lay RX0 TX0 5 ∈ TT := tmb_1 (List.mem_of_getElem? (i := 78) rfl) rfl
theorem tfX0_6 : u_lay RX0 TX0 6 ∈ TT := tmb_1 (List.mem_of_getElem? (i := 80) rfl) rfl
theorem tfX0_7 : u_lay RX0 TX0 7 ∈ TT := tmb_1 (List.mem_of_getElem? (i := 82) rfl) rfl
theorem tfX0_8 : u_lay RX0 TX0 8 ∈ TT := tmb_1 (List.mem_of_getElem? (i := 84) rfl) rfl
theorem tfX0_9 : u_lay RX0 TX0 9 ∈ TT := tmb_1 (List.mem_of_getElem? (i := 86) rfl) rfl
theorem tfX0_10 : u_lay RX0 TX0 10 ∈ TT := tmb_1 (List.mem_of_getElem? (i := 88) rfl) rfl
theorem tfX0_11 : u_lay RX0 TX0 11 ∈ TT := tmb_1 (List.mem_of_getElem? (i := 90) rfl) rfl
theorem tfX0_12 : u_lay RX0 TX0 12 ∈ TT := tmb_1 (List.mem_of_getElem? (i := 92) rfl) rfl
theorem tfX0_13 : u_lay RX0 TX0 13 ∈ TT := tmb_1 (List.mem_of_getElem? (i := 94) rfl) rfl
theorem inTX0 : ∀ w ∈ wsX00, w ∈ TT := by
  intro w h
  obtain ⟨k, hk, rfl⟩ := List.mem_map.mp h
  have hk := List.mem_range.mp hk
  match k, hk with
  | 0, _ => exact tfX0_0
  | 1, _ => exact tfX0_1
  | 2, _ => exact tfX0_2
  | 3, _ => exact tfX0_3
  | 4, _ => exact tfX0_4
  | 5, _ => exact tfX0_5
  | 6, _ => exact tfX0_6
  | 7, _ => exact tfX0_7
  | 8, _ => exact tfX0_8
  | 9, _ => exact tfX0_9
  | 10, _ => exact tfX0_10
  | 11, _ => exact tfX0_11
  | 12, _ => exact tfX0_12
  | 13, _ => exact tfX0_13
  | k + 14, hk => exact absurd hk (by omega)
theorem tfX1_0 : u_lay RX1 TX1 0 ∈ TT := tmb_1 (List.mem_of_getElem? (i := 129) rfl) rfl
theorem tfX1_1 : u_lay RX1 TX1 1 ∈ TT := tmb_1 (List.mem_of_getElem? (i := 131) rfl) rfl
theorem tfX1_2 : u_lay RX1 TX1 2 ∈ TT := tmb_1 (List.mem_of_getElem? (i := 133) rfl) rfl
theorem tfX1_3 : u_lay RX1 TX1 3 ∈ TT := tmb_1 (List.mem_of_getElem? (i := 135) rfl) rfl
theorem tfX1_4 : u_lay RX1 TX1 4 ∈ TT := tmb_1 (List.mem_of_getElem? (i := 137) rfl) rfl
theorem tfX1_5 : u_lay RX1 TX1 5 ∈ TT := tmb_1 (List.mem_of_getElem? (i := 139) rfl) rfl
theorem tfX1_6 : u_lay RX1 TX1 6 ∈ TT := tmb_1 (List.mem_of_getElem? (i := 141) rfl) rfl
theorem tfX1_7 : u_lay RX1 TX1 7 ∈ TT := tmb_1 (List.mem_of_getElem? (i := 143) rfl) rfl
theorem inTX1 : ∀ w ∈ wsX10, w ∈ TT := by
  intro w h
  obtain ⟨k, hk, rfl⟩ := List.mem_map.mp h
  have hk := List.mem_range.mp hk
  match k, hk with
  | 0, _ => exact tfX1_0
  | 1, _ => exact tfX1_1
  | 2, _ => exact tfX1_2
  | 3, _ => exact tfX1_3
  | 4, _ => exact tfX1_4
  | 5, _ => exact tfX1_5
  | 6, _ => exact tfX1_6
  | 7, _ => exact tfX1_7
  | k + 8, hk => exact absurd hk (by omega)
theorem tfX2_0 : u_lay RX2 TX2 0 ∈ TT := tmb_1 (List.mem_of_getElem? (i := 159) rfl) rfl
theorem tfX2_1 : u_lay RX2 TX2 1 ∈ TT := tmb_1 (List.mem_of_getElem? (i := 161) rfl) rfl
theorem tfX2_2 : u_lay RX2 TX2 2 ∈ TT := tmb_1 (List.mem_of_getElem? (i := 163) rfl) rfl
theorem inTX2 : ∀ w ∈ wsX20, w ∈ TT := by
  intro w h
  obtain ⟨k, hk, rfl⟩ := List.mem_map.mp h
  have hk := List.mem_range.mp hk
  match k, hk with
  | 0, _ => exact tfX2_0
  | 1, _ => exact tfX2_1
  | 2, _ => exact tfX2_2
  | k + 3, hk => exact absurd hk (by omega)
theorem tfX3_0 : u_lay RX3 TX3 0 ∈ TT := tmb_1 (List.mem_of_getElem? (i := 110) rfl) rfl
theorem tfX3_1 : u_lay RX3 TX3 1 ∈ TT := tmb_1 (List.mem_of_getElem? (i := 112) rfl) rfl
theorem inTX3 : ∀ w ∈ wsX30, w ∈ TT := by
  intro w h
  obtain ⟨k, hk, rfl⟩ := List.mem_map.mp h
  have hk := List.mem_range.mp hk
  match k, hk with
  | 0, _ => exact tfX3_0
  | 1, _ => exact tfX3_1
  | k + 2, hk => exact absurd hk (by omega)
theorem tfX4_0 : u_lay RX4 TX4 0 ∈ TT := tmb_1 (List.mem_of_getElem? (i := 175) rfl) rfl
theorem tfX4_1 : u_lay RX4 TX4 1 ∈ TT := tmb_1 (List.mem_of_getElem? (i := 177) rfl) rfl
theorem tfX4_2 : u_lay RX4 TX4 2 ∈ TT := tmb_1 (List.mem_of_getElem? (i := 179) rfl) rfl
theorem tfX4_3 : u_lay RX4 TX4 3 ∈ TT := tmb_1 (List.mem_of_getElem? (i := 181) rfl) rfl
theorem tfX4_4 : u_lay RX4 TX4 4 ∈ TT := tmb_1 (List.mem_of_getElem? (i := 183) rfl) rfl
theorem tfX4_5 : u_lay RX4 TX4 5 ∈ TT := tmb_1 (List.mem_of_getElem? (i := 185) rfl) rfl
theorem tfX4_6 : u_lay RX4 TX4 6 ∈ TT := tmb_1 (List.mem_of_getElem? (i := 187) rfl) rfl
theorem tfX4_7 : u_lay RX4 TX4 7 ∈ TT := tmb_1 (List.mem_of_getElem? (i := 189) rfl) rfl
theorem tfX4_8 : u_lay RX4 TX4 8 ∈ TT := tmb_1 (List.mem_of_getElem? (i := 191) rfl) rfl
theorem inTX4 : ∀ w ∈ wsX40, w ∈ TT := by
  intro w h
  obtain ⟨k, hk, rfl⟩ := List.mem_map.mp h
  have hk := List.mem_range.mp hk
  match k, hk with
  | 0, _ => exact tfX4_0
  | 1, _ => exact tfX4_1
  | 2, _ => exact tfX4_2
  | 3, _ => exact tfX4_3
  | 4, _ => exact tfX4_4
  | 5, _ => exact tfX4_5
  | 6, _ => exact tfX4_6
  | 7, _ => exact tfX4_7
  | 8, _ => exact tfX4_8
  | k + 9, hk => exact absurd hk (by omega)
theorem tfX5_0 : u_lay RX5 TX5 0 ∈ TT := tmb_4 (List.mem_of_getElem? (i := 109) rfl) rfl
theorem tfX5_1 : u_lay RX5 TX5 1 ∈ TT := tmb_4 (List.mem_of_getElem? (i := 111) rfl) rfl
theorem tfX5_2 : u_lay RX5 TX5 2 ∈ TT := tmb_4 (List.mem_of_getElem? (i := 113) rfl) rfl
theorem tfX5_3 : u_lay RX5 TX5 3 ∈ TT := tmb_4 (List.mem_of_getElem? (i := 115) rfl) rfl
theorem tfX5_4 : u_lay RX5 TX5 4 ∈ TT := tmb_4 (List.mem_of_getElem? (i := 117) rfl) rfl
theorem tfX5_5 : u_lay RX5 TX5 5 ∈ TT := tmb_4 (List.mem_of_getElem? (i := 119) rfl) rfl
theorem tfX5_6 : u_lay RX5 TX5 6 ∈ TT := tmb_4 (List.mem_of_getElem? (i := 121) rfl) rfl
theorem tfX5_7 : u_lay RX5 TX5 7 ∈ TT := tmb_4 (List.mem_of_getElem? (i := 123) rfl) rfl
theorem tfX5_8 : u_lay RX5 TX5 8 ∈ TT := tmb_4 (List.mem_of_getElem? (i := 125) rfl) rfl
theorem tfX5_9 : u_lay RX5 TX5 9 ∈ TT := tmb_4 (List.mem_of_getElem? (i := 127) rfl) rfl
theorem tfX5_10 : u_lay RX5 TX5 10 ∈ TT := tmb_4 (List.mem_of_getElem? (i := 129) rfl) rfl
theorem tfX5_11 : u_lay RX5 TX5 11 ∈ TT := tmb_4 (List.mem_of_getElem? (i := 131) rfl) rfl
theorem tfX5_12 : u_lay RX5 TX5 12 ∈ TT := tmb_4 (List.mem_of_getElem? (i := 133) rfl) rfl
theorem tfX5_13 : u_lay RX5 TX5 13 ∈ TT := tmb_4 (List.mem_of_getElem? (i := 135) rfl) rfl
theorem tfX5_14 : u_lay RX5 TX5 14 ∈ TT := tmb_4 (List.mem_of_getElem? (i := 137) rfl) rfl
theorem tfX5_15 : u_lay RX5 TX5 15 ∈ TT := tmb_4 (List.mem_of_getElem? (i := 139) rfl) rfl
theorem tfX5_16 : u_lay RX5 TX5 16 ∈ TT := tmb_4 (List.mem_of_getElem? (i := 141) rfl) rfl
theorem tfX5_17 : u_lay RX5 TX5 17 ∈ TT := tmb_4 (List.mem_of_getElem? (i := 143) rfl) rfl
theorem tfX5_18 : u_lay RX5 TX5 18 ∈ TT := tmb_4 (List.mem_of_getElem? (i := 145) rfl) rfl
theorem tfX5_19 : u_lay RX5 TX5 19 ∈ TT := tmb_4 (List.mem_of_getElem? (i := 147) rfl) rfl
theorem tfX5_20 : u_lay RX5 TX5 20 ∈ TT := tmb_4 (List.mem_of_getElem? (i := 149) rfl) rfl
theorem tfX5_21 : u_lay RX5 TX5 21 ∈ TT := tmb_4 (List.mem_of_getElem? (i := 151) rfl) rfl
theorem tfX5_22 : u_lay RX5 TX5 22 ∈ TT := tmb_4 (List.mem_of_getElem? (i := 153) rfl) rfl
theorem tfX5_23 : u_lay RX5 TX5 23 ∈ TT := tmb_4 (List.mem_of_getElem? (i := 155) rfl) rfl
theorem tfX5_24 : u_lay RX5 TX5 24 ∈ TT := tmb_4 (List.mem_of_getElem? (i := 157) rfl) rfl
theorem tfX5_25 : u_lay RX5 TX5 25 ∈ TT := tmb_4 (List.mem_of_getElem? (i := 159) rfl) rfl
theorem inTX5 : ∀ w ∈ wsX50, w ∈ TT := by
  intro w h
  obtain ⟨k, hk, rfl⟩ := List.mem_map.mp h
  have hk := List.mem_range.mp hk
  match k, hk with
  | 0, _ => exact tfX5_0
  | 1, _ => exact tfX5_1
  | 2, _ => exact tfX5_2
  | 3, _ => exact tfX5_3
  | 4, _ => exact tfX5_4
  | 5, _ => exact tfX5_5
  | 6, _ => exact tfX5_6
  | 7, _ => exact tfX5_7
  | 8, _ => exact tfX5_8
  | 9, _ => exact tfX5_9
  | 10, _ => exact tfX5_10
  | 11, _ => exact tfX5_11
  | 12, _ => exact tfX5_12
  | 13, _ => exact tfX5_13
  | 14, _ => exact tfX5_14
  | 15, _ => exact tfX5_15
  | 16, _ => exact tfX5_16
  | 17, _ => exact tfX5_17
  | 18, _ => exact tfX5_18
  | 19, _ => exact tfX5_19
  | 20, _ => exact tfX5_20
  | 21, _ => exact tfX5_21
  | 22, _ => exact tfX5_22
  | 23, _ => exact tfX5_23
  | 24, _ => exact tfX5_24
  | 25, _ => exact tfX5_25
  | k + 26, hk => exact absurd hk (by omega)
