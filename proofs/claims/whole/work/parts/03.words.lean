def GT : List Cond := lw_tbl.filter goodWord
theorem GT_of {w : Cond} (h : w ∈ lw_tbl) (hg : goodWord w = true) : w ∈ GT := List.mem_filter.mpr ⟨h, hg⟩
theorem GT_lw : ∀ w ∈ GT, w ∈ lw_tbl := fun _ h => (List.mem_filter.mp h).1
theorem GT_good : ∀ w ∈ GT, ((w.onTables && w.keeps) = true ∨ ∃ ty, w = .arrayClass ty) := fun _ h => good_of_word (List.mem_filter.mp h).2
theorem tb1 {w : Cond} (i : Nat) (e : tables_1_1[i]? = some w) (hg : goodWord w = true) : w ∈ GT := by
  have h := List.mem_of_getElem? e
  exact GT_of (List.mem_append_right _ (List.mem_append_left _ h)) hg
theorem tb2 {w : Cond} (i : Nat) (e : tables_1_2[i]? = some w) (hg : goodWord w = true) : w ∈ GT := by
  have h := List.mem_of_getElem? e
  exact GT_of (List.mem_append_right _ (List.mem_append_right _ (List.mem_append_left _ h))) hg
theorem tb3 {w : Cond} (i : Nat) (e : tables_1_3[i]? = some w) (hg : goodWord w = true) : w ∈ GT := by
  have h := List.mem_of_getElem? e
  exact GT_of (List.mem_append_right _ (List.mem_append_right _ (List.mem_append_right _ (List.mem_append_left _ h)))) hg
theorem tb4 {w : Cond} (i : Nat) (e : tables_1_4[i]? = some w) (hg : goodWord w = true) : w ∈ GT := by
  have h := List.mem_of_getElem? e
  exact GT_of (List.mem_append_right _ (List.mem_append_right _ (List.mem_append_right _ (List.mem_append_right _ (List.mem_append_left _ h))))) hg
theorem tb5 {w : Cond} (i : Nat) (e : tables_1_5[i]? = some w) (hg : goodWord w = true) : w ∈ GT := by
  have h := List.mem_of_getElem? e
  exact GT_of (List.mem_append_right _ (List.mem_append_right _ (List.mem_append_right _ (List.mem_append_right _ (List.mem_append_right _ h))))) hg
theorem tbp {q : MethodName × Nat} (h : q ∈ lw_privs) (hg : goodWord (Cond.selects q.1.cls q.1 q.1) = true) : Cond.selects q.1.cls q.1 q.1 ∈ GT := GT_of (List.mem_append_left _ (List.mem_map.mpr ⟨q, h, rfl⟩)) hg
set_option maxRecDepth 100000 in
theorem gt1_200 : Cond.methodLink RX9 65 yX9_isBelow ∈ GT := tb1 200 rfl rfl
set_option maxRecDepth 100000 in
theorem gt1_201 : Cond.static yX9_isBelow ∈ GT := tb1 201 rfl rfl
set_option maxRecDepth 100000 in
theorem gt1_1 : Cond.initialized RX9 ∈ GT := tb1 1 rfl rfl
set_option maxRecDepth 100000 in
theorem gt1_202 : Cond.code yX9_isBelow cX9_isBelow 2 (some .boolean) ∈ GT := tb1 202 rfl rfl
set_option maxRecDepth 100000 in
theorem gt1_151 : Cond.fieldLink RX9 57 "ResumableCoder" "forms" "[LResumableCoder$Form;" ∈ GT := tb1 151 rfl rfl
set_option maxRecDepth 100000 in
theorem gt1_155 : Cond.fieldLink RX9 61 "ResumableCoder" "form" "LResumableCoder$Form;" ∈ GT := tb1 155 rfl rfl
set_option maxRecDepth 100000 in
theorem gt1_157 : Cond.fieldLink RX9 69 "ResumableCoder" "encoding" "Z" ∈ GT := tb1 157 rfl rfl
set_option maxRecDepth 100000 in
theorem gt1_158 : Cond.fieldLink RX9 73 "ResumableCoder" "badAction" "I" ∈ GT := tb1 158 rfl rfl
set_option maxRecDepth 100000 in
theorem gt1_159 : Cond.fieldLink RX9 76 "ResumableCoder" "unknownAction" "I" ∈ GT := tb1 159 rfl rfl
set_option maxRecDepth 100000 in
theorem gt1_152 : Cond.fieldLink RX9 21 "ResumableCoder" "input" "LResumableCoder$Units;" ∈ GT := tb1 152 rfl rfl
set_option maxRecDepth 100000 in
theorem gt1_52 : Cond.fieldLink RX5 13 "ResumableCoder$Units" "size" "I" ∈ GT := tb1 52 rfl rfl
set_option maxRecDepth 100000 in
theorem gt1_203 : Cond.methodLink RX9 79 yX5_clear ∈ GT := tb1 203 rfl rfl
set_option maxRecDepth 100000 in
theorem gt1_204 : Cond.instanceMethod yX5_clear ∈ GT := tb1 204 rfl rfl
set_option maxRecDepth 100000 in
theorem gt1_205 : Cond.selects RX5 yX5_clear yX5_clear ∈ GT := tb1 205 rfl rfl
set_option maxRecDepth 100000 in
theorem gt1_5 : Cond.initialized RX5 ∈ GT := tb1 5 rfl rfl
set_option maxRecDepth 100000 in
theorem gt1_206 : Cond.code yX5_clear cX5_clear 1 none ∈ GT := tb1 206 rfl rfl
set_option maxRecDepth 100000 in
theorem gt1_153 : Cond.fieldLink RX9 25 "ResumableCoder" "output" "LResumableCoder$Units;" ∈ GT := tb1 153 rfl rfl
set_option maxRecDepth 100000 in
theorem gt1_161 : Cond.fieldLink RX9 82 "ResumableCoder" "takenCount" "I" ∈ GT := tb1 161 rfl rfl
set_option maxRecDepth 100000 in
theorem gt1_162 : Cond.fieldLink RX9 85 "ResumableCoder" "putCount" "I" ∈ GT := tb1 162 rfl rfl
set_option maxRecDepth 100000 in
theorem gt1_163 : Cond.fieldLink RX9 88 "ResumableCoder" "faultCount" "I" ∈ GT := tb1 163 rfl rfl
set_option maxRecDepth 100000 in
theorem gt1_156 : Cond.fieldLink RX9 35 "ResumableCoder" "phase" "I" ∈ GT := tb1 156 rfl rfl
set_option maxRecDepth 100000 in
theorem gt1_164 : Cond.fieldLink RX9 99 "ResumableCoder" "reported" "I" ∈ GT := tb1 164 rfl rfl
set_option maxRecDepth 100000 in
theorem gt1_100 : Cond.fieldLink RX6 7 "ResumableCoder$Utf16" "first" "Z" ∈ GT := tb1 100 rfl rfl
set_option maxRecDepth 100000 in
theorem gt1_99 : Cond.fieldLink RX6 16 "ResumableCoder$Utf16" "little" "Z" ∈ GT := tb1 99 rfl rfl
set_option maxRecDepth 100000 in
theorem gt1_101 : Cond.fieldLink RX6 19 "ResumableCoder$Utf16" "highLast" "Z" ∈ GT := tb1 101 rfl rfl
set_option maxRecDepth 100000 in
theorem gt1_102 : Cond.fieldLink RX6 22 "ResumableCoder$Utf16" "nextHighLast" "Z" ∈ GT := tb1 102 rfl rfl
set_option maxRecDepth 100000 in
theorem gt1_143 : Cond.fieldLink RX7 10 "ResumableCoder$Utf7" "now" "LResumableCoder$Shift;" ∈ GT := tb1 143 rfl rfl
set_option maxRecDepth 100000 in
theorem gt1_126 : Cond.fieldLink RX3 7 "ResumableCoder$Shift" "shifted" "Z" ∈ GT := tb1 126 rfl rfl
set_option maxRecDepth 100000 in
theorem gt1_128 : Cond.fieldLink RX3 13 "ResumableCoder$Shift" "justBegun" "Z" ∈ GT := tb1 128 rfl rfl
set_option maxRecDepth 100000 in
theorem gt1_130 : Cond.fieldLink RX3 16 "ResumableCoder$Shift" "bits" "I" ∈ GT := tb1 130 rfl rfl
set_option maxRecDepth 100000 in
theorem gt1_132 : Cond.fieldLink RX3 20 "ResumableCoder$Shift" "kept" "I" ∈ GT := tb1 132 rfl rfl
set_option maxRecDepth 100000 in
theorem gt1_221 : Cond.methodLink RX7 19 yX3_becomePlain ∈ GT := tb1 221 rfl rfl
set_option maxRecDepth 100000 in
theorem gt1_222 : Cond.instanceMethod yX3_becomePlain ∈ GT := tb1 222 rfl rfl
set_option maxRecDepth 100000 in
theorem gt1_223 : Cond.selects RX3 yX3_becomePlain yX3_becomePlain ∈ GT := tb1 223 rfl rfl
set_option maxRecDepth 100000 in
theorem gt1_10 : Cond.initialized RX3 ∈ GT := tb1 10 rfl rfl
set_option maxRecDepth 100000 in
theorem gt1_224 : Cond.code yX3_becomePlain cX3_becomePlain 1 none ∈ GT := tb1 224 rfl rfl
set_option maxRecDepth 100000 in
theorem gt1_211 : Cond.methodLink RX9 130 yX0_begin ∈ GT := tb1 211 rfl rfl
set_option maxRecDepth 100000 in
theorem gt1_213 : Cond.sameMethod "ResumableCoder$Form" "ResumableCoder$Form" "begin" "()V" ∈ GT := tb1 213 rfl rfl
set_option maxRecDepth 100000 in
theorem gt1_225 : Cond.selects RX8 yX0_begin yX0_begin ∈ GT := tb1 225 rfl rfl
set_option maxRecDepth 100000 in
theorem gt1_212 : Cond.instanceMethod yX0_begin ∈ GT := tb1 212 rfl rfl
set_option maxRecDepth 100000 in
theorem gt1_2 : Cond.initialized RX0 ∈ GT := tb1 2 rfl rfl
set_option maxRecDepth 100000 in
theorem gt1_226 : Cond.code yX0_begin cX0_begin 1 none ∈ GT := tb1 226 rfl rfl
set_option maxRecDepth 100000 in
theorem gt1_215 : Cond.selects RX6 yX0_begin yX6_begin ∈ GT := tb1 215 rfl rfl
set_option maxRecDepth 100000 in
theorem gt1_216 : Cond.instanceMethod yX6_begin ∈ GT := tb1 216 rfl rfl
set_option maxRecDepth 100000 in
theorem gt1_8 : Cond.initialized RX6 ∈ GT := tb1 8 rfl rfl
set_option maxRecDepth 100000 in
theorem gt1_217 : Cond.code yX6_begin cX6_begin 1 none ∈ GT := tb1 217 rfl rfl
set_option maxRecDepth 100000 in
theorem gt1_218 : Cond.selects RX7 yX0_begin yX7_begin ∈ GT := tb1 218 rfl rfl
set_option maxRecDepth 100000 in
theorem gt1_219 : Cond.instanceMethod yX7_begin ∈ GT := tb1 219 rfl rfl
set_option maxRecDepth 100000 in
theorem gt1_9 : Cond.initialized RX7 ∈ GT := tb1 9 rfl rfl
set_option maxRecDepth 100000 in
theorem gt1_220 : Cond.code yX7_begin cX7_begin 1 none ∈ GT := tb1 220 rfl rfl
set_option maxRecDepth 100000 in
theorem gt1_214 : Cond.selects RX2 yX0_begin yX0_begin ∈ GT := tb1 214 rfl rfl
set_option maxRecDepth 100000 in
theorem gt1_207 : Cond.methodLink RX9 91 yX9_startAfresh ∈ GT := tb1 207 rfl rfl
set_option maxRecDepth 100000 in
theorem gt1_209 : Cond.instanceMethod yX9_startAfresh ∈ GT := tb1 209 rfl rfl
set_option maxRecDepth 100000 in
theorem gtp0 : Cond.selects RX9 yX9_startAfresh yX9_startAfresh ∈ GT := tbp (q := (yX9_startAfresh, 15)) (List.mem_of_getElem? (i := 0) rfl) rfl
set_option maxRecDepth 100000 in
theorem gt1_210 : Cond.code yX9_startAfresh cX9_startAfresh 1 none ∈ GT := tb1 210 rfl rfl
set_option maxRecDepth 100000 in
theorem gt1_231 : Cond.constant RX9 94 (65536) ∈ GT := tb1 231 rfl rfl
set_option maxRecDepth 100000 in
theorem gt1_150 : Cond.fieldLink RX9 12 "ResumableCoder" "page" "LResumableCoder$Page;" ∈ GT := tb1 150 rfl rfl
set_option maxRecDepth 100000 in
theorem gt1_40 : Cond.fieldLink RX2 11 "ResumableCoder$Page" "characters" "[I" ∈ GT := tb1 40 rfl rfl
set_option maxRecDepth 100000 in
theorem gt1_232 : Cond.methodLink RX9 95 yX2_assign ∈ GT := tb1 232 rfl rfl
set_option maxRecDepth 100000 in
theorem gt1_233 : Cond.instanceMethod yX2_assign ∈ GT := tb1 233 rfl rfl
set_option maxRecDepth 100000 in
theorem gt1_234 : Cond.selects RX2 yX2_assign yX2_assign ∈ GT := tb1 234 rfl rfl
set_option maxRecDepth 100000 in
theorem gt1_3 : Cond.initialized RX2 ∈ GT := tb1 3 rfl rfl
set_option maxRecDepth 100000 in
theorem gt1_235 : Cond.code yX2_assign cX2_assign 3 none ∈ GT := tb1 235 rfl rfl
set_option maxRecDepth 100000 in
theorem gt2_0 : Cond.methodLink RX9 102 yX5_count ∈ GT := tb2 0 rfl rfl
set_option maxRecDepth 100000 in
theorem gt2_1 : Cond.instanceMethod yX5_count ∈ GT := tb2 1 rfl rfl
set_option maxRecDepth 100000 in
theorem gt2_2 : Cond.selects RX5 yX5_count yX5_count ∈ GT := tb2 2 rfl rfl
set_option maxRecDepth 100000 in
theorem gt2_3 : Cond.code yX5_count cX5_count 1 (some .int) ∈ GT := tb2 3 rfl rfl
set_option maxRecDepth 100000 in
theorem gt1_51 : Cond.fieldLink RX5 7 "ResumableCoder$Units" "row" "[I" ∈ GT := tb1 51 rfl rfl
set_option maxRecDepth 100000 in
theorem gt2_4 : Cond.methodLink RX9 106 yX5_add ∈ GT := tb2 4 rfl rfl
set_option maxRecDepth 100000 in
theorem gt2_5 : Cond.instanceMethod yX5_add ∈ GT := tb2 5 rfl rfl
set_option maxRecDepth 100000 in
theorem gt2_6 : Cond.selects RX5 yX5_add yX5_add ∈ GT := tb2 6 rfl rfl
set_option maxRecDepth 100000 in
theorem gt2_7 : Cond.code yX5_add cX5_add 2 none ∈ GT := tb2 7 rfl rfl
set_option maxRecDepth 100000 in
theorem gt1_160 : Cond.fieldLink RX9 39 "ResumableCoder" "roomNow" "I" ∈ GT := tb1 160 rfl rfl
set_option maxRecDepth 100000 in
theorem gt1_154 : Cond.fieldLink RX9 31 "ResumableCoder" "move" "LResumableCoder$Move;" ∈ GT := tb1 154 rfl rfl
set_option maxRecDepth 100000 in
theorem gt3_5 : Cond.methodLink RX8 13 yX5_at ∈ GT := tb3 5 rfl rfl
set_option maxRecDepth 100000 in
theorem gt2_39 : Cond.instanceMethod yX5_at ∈ GT := tb2 39 rfl rfl
set_option maxRecDepth 100000 in
theorem gt2_40 : Cond.selects RX5 yX5_at yX5_at ∈ GT := tb2 40 rfl rfl
set_option maxRecDepth 100000 in
theorem gt2_41 : Cond.code yX5_at cX5_at 2 (some .int) ∈ GT := tb2 41 rfl rfl
set_option maxRecDepth 100000 in
theorem gt1_88 : Cond.fieldLink RX8 7 "ResumableCoder$Utf8" "modified" "Z" ∈ GT := tb1 88 rfl rfl
set_option maxRecDepth 100000 in
theorem gt3_75 : Cond.methodLink RX8 47 yX8_lengthBehind ∈ GT := tb3 75 rfl rfl
set_option maxRecDepth 100000 in
theorem gt3_77 : Cond.instanceMethod yX8_lengthBehind ∈ GT := tb3 77 rfl rfl
set_option maxRecDepth 100000 in
theorem gtp15 : Cond.selects RX8 yX8_lengthBehind yX8_lengthBehind ∈ GT := tbp (q := (yX8_lengthBehind, 1)) (List.mem_of_getElem? (i := 15) rfl) rfl
set_option maxRecDepth 100000 in
theorem gt1_7 : Cond.initialized RX8 ∈ GT := tb1 7 rfl rfl
set_option maxRecDepth 100000 in
theorem gt3_78 : Cond.code yX8_lengthBehind cX8_lengthBehind 2 (some .int) ∈ GT := tb3 78 rfl rfl
set_option maxRecDepth 100000 in
theorem gt3_83 : Cond.methodLink RX8 60 yX5_count ∈ GT := tb3 83 rfl rfl
set_option maxRecDepth 100000 in
theorem gt3_84 : Cond.methodLink RX8 84 Lib.Math.min.name ∈ GT := tb3 84 rfl rfl
set_option maxRecDepth 100000 in
theorem gt2_144 : Cond.static Lib.Math.min.name ∈ GT := tb2 144 rfl rfl
set_option maxRecDepth 100000 in
theorem gt1_15 : Cond.initialized RJ9 ∈ GT := tb1 15 rfl rfl
set_option maxRecDepth 100000 in
theorem gt2_145 : Cond.code Lib.Math.min.name Lib.Math.min.code 2 (some .int) ∈ GT := tb2 145 rfl rfl
set_option maxRecDepth 100000 in
theorem gt3_89 : Cond.methodLink RX8 91 yX8_leastSecond ∈ GT := tb3 89 rfl rfl
set_option maxRecDepth 100000 in
theorem gt3_90 : Cond.static yX8_leastSecond ∈ GT := tb3 90 rfl rfl
set_option maxRecDepth 100000 in
theorem gt3_91 : Cond.code yX8_leastSecond cX8_leastSecond 1 (some .int) ∈ GT := tb3 91 rfl rfl
set_option maxRecDepth 100000 in
theorem gt3_92 : Cond.methodLink RX8 94 yX8_greatestSecond ∈ GT := tb3 92 rfl rfl
set_option maxRecDepth 100000 in
theorem gt3_94 : Cond.instanceMethod yX8_greatestSecond ∈ GT := tb3 94 rfl rfl
set_option maxRecDepth 100000 in
theorem gtp18 : Cond.selects RX8 yX8_greatestSecond yX8_greatestSecond ∈ GT := tbp (q := (yX8_greatestSecond, 1)) (List.mem_of_getElem? (i := 18) rfl) rfl
set_option maxRecDepth 100000 in
theorem gt3_95 : Cond.code yX8_greatestSecond cX8_greatestSecond 2 (some .int) ∈ GT := tb3 95 rfl rfl
set_option maxRecDepth 100000 in
theorem gt3_85 : Cond.methodLink RX8 87 yX8_isNext ∈ GT := tb3 85 rfl rfl
set_option maxRecDepth 100000 in
theorem gt3_87 : Cond.instanceMethod yX8_isNext ∈ GT := tb3 87 rfl rfl
set_option maxRecDepth 100000 in
theorem gtp17 : Cond.selects RX8 yX8_isNext yX8_isNext ∈ GT := tbp (q := (yX8_isNext, 1)) (List.mem_of_getElem? (i := 17) rfl) rfl
set_option maxRecDepth 100000 in
theorem gt3_88 : Cond.code yX8_isNext cX8_isNext 4 (some .boolean) ∈ GT := tb3 88 rfl rfl
set_option maxRecDepth 100000 in
theorem gt3_79 : Cond.methodLink RX8 50 yX8_countFitting ∈ GT := tb3 79 rfl rfl
set_option maxRecDepth 100000 in
theorem gt3_81 : Cond.instanceMethod yX8_countFitting ∈ GT := tb3 81 rfl rfl
set_option maxRecDepth 100000 in
theorem gtp16 : Cond.selects RX8 yX8_countFitting yX8_countFitting ∈ GT := tbp (q := (yX8_countFitting, 1)) (List.mem_of_getElem? (i := 16) rfl) rfl
set_option maxRecDepth 100000 in
theorem gt3_82 : Cond.code yX8_countFitting cX8_countFitting 5 (some .int) ∈ GT := tb3 82 rfl rfl
set_option maxRecDepth 100000 in
theorem gt3_104 : Cond.methodLink RX8 67 Lib.Math.max.name ∈ GT := tb3 104 rfl rfl
set_option maxRecDepth 100000 in
theorem gt2_141 : Cond.static Lib.Math.max.name ∈ GT := tb2 141 rfl rfl
set_option maxRecDepth 100000 in
theorem gt2_142 : Cond.code Lib.Math.max.name Lib.Math.max.code 2 (some .int) ∈ GT := tb2 142 rfl rfl
set_option maxRecDepth 100000 in
theorem gt1_65 : Cond.fieldLink RX1 21 "ResumableCoder$Move" "kind" "I" ∈ GT := tb1 65 rfl rfl
set_option maxRecDepth 100000 in
theorem gt1_67 : Cond.fieldLink RX1 24 "ResumableCoder$Move" "takes" "I" ∈ GT := tb1 67 rfl rfl
set_option maxRecDepth 100000 in
theorem gt1_69 : Cond.fieldLink RX1 17 "ResumableCoder$Move" "puts" "I" ∈ GT := tb1 69 rfl rfl
set_option maxRecDepth 100000 in
theorem gt2_28 : Cond.methodLink RX1 13 yX1_set ∈ GT := tb2 28 rfl rfl
set_option maxRecDepth 100000 in
theorem gt2_30 : Cond.instanceMethod yX1_set ∈ GT := tb2 30 rfl rfl
set_option maxRecDepth 100000 in
theorem gtp3 : Cond.selects RX1 yX1_set yX1_set ∈ GT := tbp (q := (yX1_set, 4)) (List.mem_of_getElem? (i := 3) rfl) rfl
set_option maxRecDepth 100000 in
theorem gt1_6 : Cond.initialized RX1 ∈ GT := tb1 6 rfl rfl
set_option maxRecDepth 100000 in
theorem gt2_31 : Cond.code yX1_set cX1_set 3 none ∈ GT := tb2 31 rfl rfl
set_option maxRecDepth 100000 in
theorem gt3_105 : Cond.methodLink RX8 72 yX1_setBad ∈ GT := tb3 105 rfl rfl
set_option maxRecDepth 100000 in
theorem gt2_80 : Cond.instanceMethod yX1_setBad ∈ GT := tb2 80 rfl rfl
set_option maxRecDepth 100000 in
theorem gt2_81 : Cond.selects RX1 yX1_setBad yX1_setBad ∈ GT := tb2 81 rfl rfl
set_option maxRecDepth 100000 in
theorem gt2_82 : Cond.code yX1_setBad cX1_setBad 2 none ∈ GT := tb2 82 rfl rfl
set_option maxRecDepth 100000 in
theorem gt3_103 : Cond.methodLink RX8 64 yX1_setNeed ∈ GT := tb3 103 rfl rfl
set_option maxRecDepth 100000 in
theorem gt2_25 : Cond.instanceMethod yX1_setNeed ∈ GT := tb2 25 rfl rfl
set_option maxRecDepth 100000 in
theorem gt2_26 : Cond.selects RX1 yX1_setNeed yX1_setNeed ∈ GT := tb2 26 rfl rfl
set_option maxRecDepth 100000 in
theorem gt2_27 : Cond.code yX1_setNeed cX1_setNeed 1 none ∈ GT := tb2 27 rfl rfl
set_option maxRecDepth 100000 in
theorem gt3_7 : Cond.methodLink RX8 25 yX1_setStep ∈ GT := tb3 7 rfl rfl
set_option maxRecDepth 100000 in
theorem gt2_47 : Cond.instanceMethod yX1_setStep ∈ GT := tb2 47 rfl rfl
set_option maxRecDepth 100000 in
theorem gt2_48 : Cond.selects RX1 yX1_setStep yX1_setStep ∈ GT := tb2 48 rfl rfl
set_option maxRecDepth 100000 in
theorem gt2_49 : Cond.code yX1_setStep cX1_setStep 2 none ∈ GT := tb2 49 rfl rfl
set_option maxRecDepth 100000 in
theorem gt3_96 : Cond.methodLink RX8 54 yX8_codePointOf ∈ GT := tb3 96 rfl rfl
set_option maxRecDepth 100000 in
theorem gt3_97 : Cond.static yX8_codePointOf ∈ GT := tb3 97 rfl rfl
set_option maxRecDepth 100000 in
theorem gt3_98 : Cond.code yX8_codePointOf cX8_codePointOf 5 (some .int) ∈ GT := tb3 98 rfl rfl
set_option maxRecDepth 100000 in
theorem gt3_22 : Cond.constant RX4 19 (65536) ∈ GT := tb3 22 rfl rfl
set_option maxRecDepth 100000 in
theorem gt2_60 : Cond.constant RX4 9 (55296) ∈ GT := tb2 60 rfl rfl
set_option maxRecDepth 100000 in
theorem gt1_64 : Cond.fieldLink RX1 9 "ResumableCoder$Move" "units" "[I" ∈ GT := tb1 64 rfl rfl
set_option maxRecDepth 100000 in
theorem gt3_102 : Cond.methodLink RX4 20 yX1_add ∈ GT := tb3 102 rfl rfl
set_option maxRecDepth 100000 in
theorem gt2_51 : Cond.instanceMethod yX1_add ∈ GT := tb2 51 rfl rfl
set_option maxRecDepth 100000 in
theorem gt2_52 : Cond.selects RX1 yX1_add yX1_add ∈ GT := tb2 52 rfl rfl
set_option maxRecDepth 100000 in
theorem gt2_53 : Cond.code yX1_add cX1_add 2 none ∈ GT := tb2 53 rfl rfl
set_option maxRecDepth 100000 in
theorem gt2_61 : Cond.constant RX4 10 (56320) ∈ GT := tb2 61 rfl rfl
set_option maxRecDepth 100000 in
theorem gt3_99 : Cond.methodLink RX8 57 yX4_addCharacters ∈ GT := tb3 99 rfl rfl
set_option maxRecDepth 100000 in
theorem gt3_100 : Cond.static yX4_addCharacters ∈ GT := tb3 100 rfl rfl
set_option maxRecDepth 100000 in
theorem gt1_12 : Cond.initialized RX4 ∈ GT := tb1 12 rfl rfl
set_option maxRecDepth 100000 in
theorem gt3_101 : Cond.code yX4_addCharacters cX4_addCharacters 2 none ∈ GT := tb3 101 rfl rfl
set_option maxRecDepth 100000 in
theorem gt3_37 : Cond.methodLink RX6 58 yX5_count ∈ GT := tb3 37 rfl rfl
set_option maxRecDepth 100000 in
theorem gt1_98 : Cond.fieldLink RX6 13 "ResumableCoder$Utf16" "marked" "Z" ∈ GT := tb1 98 rfl rfl
set_option maxRecDepth 100000 in
theorem gt2_86 : Cond.methodLink RX6 25 yX5_at ∈ GT := tb2 86 rfl rfl
set_option maxRecDepth 100000 in
theorem gt3_46 : Cond.methodLink RX6 71 yX6_characterAt ∈ GT := tb3 46 rfl rfl
set_option maxRecDepth 100000 in
theorem gt3_48 : Cond.instanceMethod yX6_characterAt ∈ GT := tb3 48 rfl rfl
set_option maxRecDepth 100000 in
theorem gtp11 : Cond.selects RX6 yX6_characterAt yX6_characterAt ∈ GT := tbp (q := (yX6_characterAt, 5)) (List.mem_of_getElem? (i := 11) rfl) rfl
set_option maxRecDepth 100000 in
theorem gt3_49 : Cond.code yX6_characterAt cX6_characterAt 5 (some .int) ∈ GT := tb3 49 rfl rfl
set_option maxRecDepth 100000 in
theorem gt2_65 : Cond.constant RX4 11 (57343) ∈ GT := tb2 65 rfl rfl
set_option maxRecDepth 100000 in
theorem gt2_89 : Cond.methodLink RX6 40 yX4_isEither ∈ GT := tb2 89 rfl rfl
set_option maxRecDepth 100000 in
theorem gt2_71 : Cond.static yX4_isEither ∈ GT := tb2 71 rfl rfl
set_option maxRecDepth 100000 in
theorem gt2_72 : Cond.code yX4_isEither cX4_isEither 1 (some .boolean) ∈ GT := tb2 72 rfl rfl
set_option maxRecDepth 100000 in
theorem gt3_50 : Cond.methodLink RX6 75 yX4_isLow ∈ GT := tb3 50 rfl rfl
set_option maxRecDepth 100000 in
theorem gt2_63 : Cond.static yX4_isLow ∈ GT := tb2 63 rfl rfl
set_option maxRecDepth 100000 in
theorem gt2_64 : Cond.code yX4_isLow cX4_isLow 1 (some .boolean) ∈ GT := tb2 64 rfl rfl
set_option maxRecDepth 100000 in
theorem gt3_51 : Cond.methodLink RX6 78 yX1_setBad ∈ GT := tb3 51 rfl rfl
set_option maxRecDepth 100000 in
theorem gt2_87 : Cond.methodLink RX6 31 yX1_setStep ∈ GT := tb2 87 rfl rfl
set_option maxRecDepth 100000 in
theorem gt2_88 : Cond.methodLink RX6 37 yX1_add ∈ GT := tb2 88 rfl rfl
set_option maxRecDepth 100000 in
theorem gt3_38 : Cond.methodLink RX6 62 yX1_setNeed ∈ GT := tb3 38 rfl rfl
set_option maxRecDepth 100000 in
theorem gt3_42 : Cond.methodLink RX6 68 yX6_decodeCharacter ∈ GT := tb3 42 rfl rfl
set_option maxRecDepth 100000 in
theorem gt3_44 : Cond.instanceMethod yX6_decodeCharacter ∈ GT := tb3 44 rfl rfl
set_option maxRecDepth 100000 in
theorem gtp10 : Cond.selects RX6 yX6_decodeCharacter yX6_decodeCharacter ∈ GT := tbp (q := (yX6_decodeCharacter, 5)) (List.mem_of_getElem? (i := 10) rfl) rfl
set_option maxRecDepth 100000 in
theorem gt3_45 : Cond.code yX6_decodeCharacter cX6_decodeCharacter 4 none ∈ GT := tb3 45 rfl rfl
set_option maxRecDepth 100000 in
theorem gt3_39 : Cond.methodLink RX6 65 yX6_isMark ∈ GT := tb3 39 rfl rfl
set_option maxRecDepth 100000 in
theorem gt3_40 : Cond.static yX6_isMark ∈ GT := tb3 40 rfl rfl
set_option maxRecDepth 100000 in
theorem gt3_41 : Cond.code yX6_isMark cX6_isMark 2 (some .boolean) ∈ GT := tb3 41 rfl rfl
set_option maxRecDepth 100000 in
theorem gt2_99 : Cond.methodLink RX7 26 yX5_at ∈ GT := tb2 99 rfl rfl
set_option maxRecDepth 100000 in
theorem gt1_144 : Cond.fieldLink RX7 16 "ResumableCoder$Utf7" "next" "LResumableCoder$Shift;" ∈ GT := tb1 144 rfl rfl
set_option maxRecDepth 100000 in
theorem gt2_100 : Cond.methodLink RX7 22 yX3_copy ∈ GT := tb2 100 rfl rfl
set_option maxRecDepth 100000 in
theorem gt2_101 : Cond.instanceMethod yX3_copy ∈ GT := tb2 101 rfl rfl
set_option maxRecDepth 100000 in
theorem gt2_102 : Cond.selects RX3 yX3_copy yX3_copy ∈ GT := tb2 102 rfl rfl
set_option maxRecDepth 100000 in
theorem gt2_103 : Cond.code yX3_copy cX3_copy 2 none ∈ GT := tb2 103 rfl rfl
set_option maxRecDepth 100000 in
theorem gt2_124 : Cond.fieldLink RJ0 38 "java/lang/String" "COMPACT_STRINGS" "Z" ∈ GT := tb2 124 rfl rfl
set_option maxRecDepth 100000 in
theorem gt5_58 : Cond.fieldLink RJ0 15 "java/lang/String" "coder" "B" ∈ GT := tb5 58 rfl rfl
set_option maxRecDepth 100000 in
theorem gt2_120 : Cond.methodLink RJ0 492 yJ0_isLatin1_aae02 ∈ GT := tb2 120 rfl rfl
set_option maxRecDepth 100000 in
theorem gt2_121 : Cond.instanceMethod yJ0_isLatin1_aae02 ∈ GT := tb2 121 rfl rfl
set_option maxRecDepth 100000 in
theorem gt2_122 : Cond.selects RJ0 yJ0_isLatin1_aae02 yJ0_isLatin1_aae02 ∈ GT := tb2 122 rfl rfl
set_option maxRecDepth 100000 in
theorem gt1_13 : Cond.initialized RJ0 ∈ GT := tb1 13 rfl rfl
set_option maxRecDepth 100000 in
theorem gt2_123 : Cond.code yJ0_isLatin1_aae02 cJ0_isLatin1_aae02 1 (some .boolean) ∈ GT := tb2 123 rfl rfl
set_option maxRecDepth 100000 in
theorem gt5_59 : Cond.fieldLink RJ0 9 "java/lang/String" "value" "[B" ∈ GT := tb5 59 rfl rfl
set_option maxRecDepth 100000 in
theorem gt2_130 : Cond.methodLink RJ0 335 yJ0_coder_7d493 ∈ GT := tb2 130 rfl rfl
set_option maxRecDepth 100000 in
theorem gt2_131 : Cond.instanceMethod yJ0_coder_7d493 ∈ GT := tb2 131 rfl rfl
set_option maxRecDepth 100000 in
theorem gt2_132 : Cond.selects RJ0 yJ0_coder_7d493 yJ0_coder_7d493 ∈ GT := tb2 132 rfl rfl
set_option maxRecDepth 100000 in
theorem gt2_133 : Cond.code yJ0_coder_7d493 cJ0_coder_7d493 1 (some .byte) ∈ GT := tb2 133 rfl rfl
set_option maxRecDepth 100000 in
theorem gt2_126 : Cond.methodLink RJ0 505 yJ0_length_8abf5 ∈ GT := tb2 126 rfl rfl
set_option maxRecDepth 100000 in
theorem gt2_127 : Cond.instanceMethod yJ0_length_8abf5 ∈ GT := tb2 127 rfl rfl
set_option maxRecDepth 100000 in
theorem gt2_128 : Cond.selects RJ0 yJ0_length_8abf5 yJ0_length_8abf5 ∈ GT := tb2 128 rfl rfl
set_option maxRecDepth 100000 in
theorem gt2_129 : Cond.code yJ0_length_8abf5 cJ0_length_8abf5 1 (some .int) ∈ GT := tb2 129 rfl rfl
set_option maxRecDepth 100000 in
theorem gt2_137 : Cond.methodLink RJ1 88 yJ1_canEncode_9a6ad ∈ GT := tb2 137 rfl rfl
set_option maxRecDepth 100000 in
theorem gt2_138 : Cond.static yJ1_canEncode_9a6ad ∈ GT := tb2 138 rfl rfl
set_option maxRecDepth 100000 in
theorem gt1_14 : Cond.initialized RJ1 ∈ GT := tb1 14 rfl rfl
set_option maxRecDepth 100000 in
theorem gt2_139 : Cond.code yJ1_canEncode_9a6ad cJ1_canEncode_9a6ad 1 (some .boolean) ∈ GT := tb2 139 rfl rfl
set_option maxRecDepth 100000 in
theorem gt2_140 : Cond.methodLink RJ1 92 Lib.Math.max.name ∈ GT := tb2 140 rfl rfl
set_option maxRecDepth 100000 in
theorem gt2_143 : Cond.methodLink RJ1 38 Lib.Math.min.name ∈ GT := tb2 143 rfl rfl
set_option maxRecDepth 100000 in
theorem gt2_146 : Cond.methodLink RJ1 95 yJ1_indexOfChar_4cfef ∈ GT := tb2 146 rfl rfl
set_option maxRecDepth 100000 in
theorem gt2_147 : Cond.static yJ1_indexOfChar_4cfef ∈ GT := tb2 147 rfl rfl
set_option maxRecDepth 100000 in
theorem gt2_148 : Cond.code yJ1_indexOfChar_4cfef cJ1_indexOfChar_4cfef 6 (some .int) ∈ GT := tb2 148 rfl rfl
set_option maxRecDepth 100000 in
theorem gt2_134 : Cond.methodLink RJ0 637 yJ1_indexOf_4cfef ∈ GT := tb2 134 rfl rfl
set_option maxRecDepth 100000 in
theorem gt2_135 : Cond.static yJ1_indexOf_4cfef ∈ GT := tb2 135 rfl rfl
set_option maxRecDepth 100000 in
theorem gt2_136 : Cond.code yJ1_indexOf_4cfef cJ1_indexOf_4cfef 4 (some .int) ∈ GT := tb2 136 rfl rfl
set_option maxRecDepth 100000 in
theorem gt2_116 : Cond.methodLink RJ0 633 yJ0_indexOf_7cf53 ∈ GT := tb2 116 rfl rfl
set_option maxRecDepth 100000 in
theorem gt2_117 : Cond.instanceMethod yJ0_indexOf_7cf53 ∈ GT := tb2 117 rfl rfl
set_option maxRecDepth 100000 in
theorem gt2_118 : Cond.selects RJ0 yJ0_indexOf_7cf53 yJ0_indexOf_7cf53 ∈ GT := tb2 118 rfl rfl
set_option maxRecDepth 100000 in
theorem gt2_119 : Cond.code yJ0_indexOf_7cf53 cJ0_indexOf_7cf53 3 (some .int) ∈ GT := tb2 119 rfl rfl
set_option maxRecDepth 100000 in
theorem gt2_112 : Cond.methodLink RX7 106 yJ0_indexOf_0f7a4 ∈ GT := tb2 112 rfl rfl
set_option maxRecDepth 100000 in
theorem gt2_113 : Cond.instanceMethod yJ0_indexOf_0f7a4 ∈ GT := tb2 113 rfl rfl
set_option maxRecDepth 100000 in
theorem gt2_114 : Cond.selects RJ0 yJ0_indexOf_0f7a4 yJ0_indexOf_0f7a4 ∈ GT := tb2 114 rfl rfl
set_option maxRecDepth 100000 in
theorem gt2_115 : Cond.code yJ0_indexOf_0f7a4 cJ0_indexOf_0f7a4 2 (some .int) ∈ GT := tb2 115 rfl rfl
set_option maxRecDepth 100000 in
theorem gt2_108 : Cond.methodLink RX7 88 yX7_valueOf ∈ GT := tb2 108 rfl rfl
set_option maxRecDepth 100000 in
theorem gt2_109 : Cond.static yX7_valueOf ∈ GT := tb2 109 rfl rfl
set_option maxRecDepth 100000 in
theorem gt2_110 : Cond.code yX7_valueOf cX7_valueOf 1 (some .int) ∈ GT := tb2 110 rfl rfl
set_option maxRecDepth 100000 in
theorem gt3_68 : Cond.methodLink RX7 97 yX3_holdsRemains ∈ GT := tb3 68 rfl rfl
set_option maxRecDepth 100000 in
theorem gt3_69 : Cond.instanceMethod yX3_holdsRemains ∈ GT := tb3 69 rfl rfl
set_option maxRecDepth 100000 in
theorem gt3_70 : Cond.selects RX3 yX3_holdsRemains yX3_holdsRemains ∈ GT := tb3 70 rfl rfl
set_option maxRecDepth 100000 in
theorem gt3_71 : Cond.code yX3_holdsRemains cX3_holdsRemains 1 (some .boolean) ∈ GT := tb3 71 rfl rfl
set_option maxRecDepth 100000 in
theorem gt3_55 : Cond.methodLink RX7 82 yX1_setBad ∈ GT := tb3 55 rfl rfl
set_option maxRecDepth 100000 in
theorem gt2_104 : Cond.methodLink RX7 32 yX1_setStep ∈ GT := tb2 104 rfl rfl
set_option maxRecDepth 100000 in
theorem gt2_223 : Cond.methodLink RX7 50 yX1_add ∈ GT := tb2 223 rfl rfl
set_option maxRecDepth 100000 in
theorem gt3_64 : Cond.methodLink RX7 94 yX7_decodeEnd ∈ GT := tb3 64 rfl rfl
set_option maxRecDepth 100000 in
theorem gt3_66 : Cond.instanceMethod yX7_decodeEnd ∈ GT := tb3 66 rfl rfl
set_option maxRecDepth 100000 in
theorem gtp14 : Cond.selects RX7 yX7_decodeEnd yX7_decodeEnd ∈ GT := tbp (q := (yX7_decodeEnd, 2)) (List.mem_of_getElem? (i := 14) rfl) rfl
set_option maxRecDepth 100000 in
theorem gt3_67 : Cond.code yX7_decodeEnd cX7_decodeEnd 4 none ∈ GT := tb3 67 rfl rfl
set_option maxRecDepth 100000 in
theorem gt2_233 : Cond.methodLink RX7 60 yX3_keep ∈ GT := tb2 233 rfl rfl
set_option maxRecDepth 100000 in
theorem gt2_234 : Cond.instanceMethod yX3_keep ∈ GT := tb2 234 rfl rfl
set_option maxRecDepth 100000 in
theorem gt2_235 : Cond.selects RX3 yX3_keep yX3_keep ∈ GT := tb2 235 rfl rfl
set_option maxRecDepth 100000 in
theorem gt2_236 : Cond.code yX3_keep cX3_keep 3 none ∈ GT := tb2 236 rfl rfl
set_option maxRecDepth 100000 in
theorem gt3_1 : Cond.methodLink RX3 26 Lib.Math.max.name ∈ GT := tb3 1 rfl rfl
set_option maxRecDepth 100000 in
theorem gt2_237 : Cond.methodLink RX7 70 yX3_removeFirst ∈ GT := tb2 237 rfl rfl
set_option maxRecDepth 100000 in
theorem gt2_238 : Cond.instanceMethod yX3_removeFirst ∈ GT := tb2 238 rfl rfl
set_option maxRecDepth 100000 in
theorem gt2_239 : Cond.selects RX3 yX3_removeFirst yX3_removeFirst ∈ GT := tb2 239 rfl rfl
set_option maxRecDepth 100000 in
theorem gt3_0 : Cond.code yX3_removeFirst cX3_removeFirst 3 (some .int) ∈ GT := tb3 0 rfl rfl
set_option maxRecDepth 100000 in
theorem gt3_60 : Cond.methodLink RX7 91 yX7_decodeSign ∈ GT := tb3 60 rfl rfl
set_option maxRecDepth 100000 in
theorem gt3_62 : Cond.instanceMethod yX7_decodeSign ∈ GT := tb3 62 rfl rfl
set_option maxRecDepth 100000 in
theorem gtp13 : Cond.selects RX7 yX7_decodeSign yX7_decodeSign ∈ GT := tbp (q := (yX7_decodeSign, 2)) (List.mem_of_getElem? (i := 13) rfl) rfl
set_option maxRecDepth 100000 in
theorem gt3_63 : Cond.code yX7_decodeSign cX7_decodeSign 3 none ∈ GT := tb3 63 rfl rfl
set_option maxRecDepth 100000 in
theorem gt2_232 : Cond.methodLink RX3 23 yX3_becomePlain ∈ GT := tb2 232 rfl rfl
set_option maxRecDepth 100000 in
theorem gt2_228 : Cond.methodLink RX7 57 yX3_becomeShifted ∈ GT := tb2 228 rfl rfl
set_option maxRecDepth 100000 in
theorem gt2_229 : Cond.instanceMethod yX3_becomeShifted ∈ GT := tb2 229 rfl rfl
set_option maxRecDepth 100000 in
theorem gt2_230 : Cond.selects RX3 yX3_becomeShifted yX3_becomeShifted ∈ GT := tb2 230 rfl rfl
set_option maxRecDepth 100000 in
theorem gt2_231 : Cond.code yX3_becomeShifted cX3_becomeShifted 1 none ∈ GT := tb2 231 rfl rfl
set_option maxRecDepth 100000 in
theorem gt3_56 : Cond.methodLink RX7 85 yX7_decodePlain ∈ GT := tb3 56 rfl rfl
set_option maxRecDepth 100000 in
theorem gt3_58 : Cond.instanceMethod yX7_decodePlain ∈ GT := tb3 58 rfl rfl
set_option maxRecDepth 100000 in
theorem gtp12 : Cond.selects RX7 yX7_decodePlain yX7_decodePlain ∈ GT := tbp (q := (yX7_decodePlain, 2)) (List.mem_of_getElem? (i := 12) rfl) rfl
set_option maxRecDepth 100000 in
theorem gt3_59 : Cond.code yX7_decodePlain cX7_decodePlain 3 none ∈ GT := tb3 59 rfl rfl
set_option maxRecDepth 100000 in
theorem gt2_38 : Cond.methodLink RX2 21 yX5_at ∈ GT := tb2 38 rfl rfl
set_option maxRecDepth 100000 in
theorem gt3_30 : Cond.methodLink RX2 56 yX2_characterOf ∈ GT := tb3 30 rfl rfl
set_option maxRecDepth 100000 in
theorem gt3_32 : Cond.instanceMethod yX2_characterOf ∈ GT := tb3 32 rfl rfl
set_option maxRecDepth 100000 in
theorem gtp9 : Cond.selects RX2 yX2_characterOf yX2_characterOf ∈ GT := tbp (q := (yX2_characterOf, 1)) (List.mem_of_getElem? (i := 9) rfl) rfl
set_option maxRecDepth 100000 in
theorem gt3_33 : Cond.code yX2_characterOf cX2_characterOf 2 (some .int) ∈ GT := tb3 33 rfl rfl
set_option maxRecDepth 100000 in
theorem gt2_66 : Cond.methodLink RX2 45 yX1_setUnknown ∈ GT := tb2 66 rfl rfl
set_option maxRecDepth 100000 in
theorem gt2_67 : Cond.instanceMethod yX1_setUnknown ∈ GT := tb2 67 rfl rfl
set_option maxRecDepth 100000 in
theorem gt2_68 : Cond.selects RX1 yX1_setUnknown yX1_setUnknown ∈ GT := tb2 68 rfl rfl
set_option maxRecDepth 100000 in
theorem gt2_69 : Cond.code yX1_setUnknown cX1_setUnknown 2 none ∈ GT := tb2 69 rfl rfl
set_option maxRecDepth 100000 in
theorem gt2_46 : Cond.methodLink RX2 30 yX1_setStep ∈ GT := tb2 46 rfl rfl
set_option maxRecDepth 100000 in
theorem gt2_50 : Cond.methodLink RX2 36 yX1_add ∈ GT := tb2 50 rfl rfl
set_option maxRecDepth 100000 in
theorem gt3_24 : Cond.methodLink RX9 152 ⟨"ResumableCoder$Form", "decode", "(LResumableCoder$Units;LResumableCoder$Move;)V"⟩ ∈ GT := tb3 24 rfl rfl
set_option maxRecDepth 100000 in
theorem gt3_26 : Cond.sameMethod "ResumableCoder$Form" "ResumableCoder$Form" "decode" "(LResumableCoder$Units;LResumableCoder$Move;)V" ∈ GT := tb3 26 rfl rfl
set_option maxRecDepth 100000 in
theorem gt3_72 : Cond.selects RX8 ⟨"ResumableCoder$Form", "decode", "(LResumableCoder$Units;LResumableCoder$Move;)V"⟩ yX8_decode ∈ GT := tb3 72 rfl rfl
set_option maxRecDepth 100000 in
theorem gt3_73 : Cond.instanceMethod yX8_decode ∈ GT := tb3 73 rfl rfl
set_option maxRecDepth 100000 in
theorem gt3_74 : Cond.code yX8_decode cX8_decode 5 none ∈ GT := tb3 74 rfl rfl
set_option maxRecDepth 100000 in
theorem gt3_34 : Cond.selects RX6 ⟨"ResumableCoder$Form", "decode", "(LResumableCoder$Units;LResumableCoder$Move;)V"⟩ yX6_decode ∈ GT := tb3 34 rfl rfl
set_option maxRecDepth 100000 in
theorem gt3_35 : Cond.instanceMethod yX6_decode ∈ GT := tb3 35 rfl rfl
set_option maxRecDepth 100000 in
theorem gt3_36 : Cond.code yX6_decode cX6_decode 3 none ∈ GT := tb3 36 rfl rfl
set_option maxRecDepth 100000 in
theorem gt3_52 : Cond.selects RX7 ⟨"ResumableCoder$Form", "decode", "(LResumableCoder$Units;LResumableCoder$Move;)V"⟩ yX7_decode ∈ GT := tb3 52 rfl rfl
set_option maxRecDepth 100000 in
theorem gt3_53 : Cond.instanceMethod yX7_decode ∈ GT := tb3 53 rfl rfl
set_option maxRecDepth 100000 in
theorem gt3_54 : Cond.code yX7_decode cX7_decode 4 none ∈ GT := tb3 54 rfl rfl
set_option maxRecDepth 100000 in
theorem gt3_27 : Cond.selects RX2 ⟨"ResumableCoder$Form", "decode", "(LResumableCoder$Units;LResumableCoder$Move;)V"⟩ yX2_decode ∈ GT := tb3 27 rfl rfl
set_option maxRecDepth 100000 in
theorem gt3_28 : Cond.instanceMethod yX2_decode ∈ GT := tb3 28 rfl rfl
set_option maxRecDepth 100000 in
theorem gt3_29 : Cond.code yX2_decode cX2_decode 4 none ∈ GT := tb3 29 rfl rfl
set_option maxRecDepth 100000 in
theorem gt3_16 : Cond.constant RX8 82 (65536) ∈ GT := tb3 16 rfl rfl
set_option maxRecDepth 100000 in
theorem gt3_17 : Cond.constant RX8 83 (262144) ∈ GT := tb3 17 rfl rfl
set_option maxRecDepth 100000 in
theorem gt3_12 : Cond.methodLink RX8 75 yX1_add ∈ GT := tb3 12 rfl rfl
set_option maxRecDepth 100000 in
theorem gt3_13 : Cond.methodLink RX8 78 yX8_addLast ∈ GT := tb3 13 rfl rfl
set_option maxRecDepth 100000 in
theorem gt3_14 : Cond.static yX8_addLast ∈ GT := tb3 14 rfl rfl
set_option maxRecDepth 100000 in
theorem gt3_15 : Cond.code yX8_addLast cX8_addLast 4 none ∈ GT := tb3 15 rfl rfl
set_option maxRecDepth 100000 in
theorem gt3_8 : Cond.methodLink RX8 31 yX8_addEncoding ∈ GT := tb3 8 rfl rfl
set_option maxRecDepth 100000 in
theorem gt3_10 : Cond.instanceMethod yX8_addEncoding ∈ GT := tb3 10 rfl rfl
set_option maxRecDepth 100000 in
theorem gtp8 : Cond.selects RX8 yX8_addEncoding yX8_addEncoding ∈ GT := tbp (q := (yX8_addEncoding, 1)) (List.mem_of_getElem? (i := 8) rfl) rfl
set_option maxRecDepth 100000 in
theorem gt3_11 : Cond.code yX8_addEncoding cX8_addEncoding 3 none ∈ GT := tb3 11 rfl rfl
set_option maxRecDepth 100000 in
theorem gt3_6 : Cond.methodLink RX8 19 yX4_isEither ∈ GT := tb3 6 rfl rfl
set_option maxRecDepth 100000 in
theorem gt2_57 : Cond.methodLink RX4 12 yX4_isHigh ∈ GT := tb2 57 rfl rfl
set_option maxRecDepth 100000 in
theorem gt2_58 : Cond.static yX4_isHigh ∈ GT := tb2 58 rfl rfl
set_option maxRecDepth 100000 in
theorem gt2_59 : Cond.code yX4_isHigh cX4_isHigh 1 (some .boolean) ∈ GT := tb2 59 rfl rfl
set_option maxRecDepth 100000 in
theorem gt2_62 : Cond.methodLink RX4 16 yX4_isLow ∈ GT := tb2 62 rfl rfl
set_option maxRecDepth 100000 in
theorem gt3_18 : Cond.methodLink RX8 35 yX4_isPair ∈ GT := tb3 18 rfl rfl
set_option maxRecDepth 100000 in
theorem gt2_55 : Cond.static yX4_isPair ∈ GT := tb2 55 rfl rfl
set_option maxRecDepth 100000 in
theorem gt2_56 : Cond.code yX4_isPair cX4_isPair 2 (some .boolean) ∈ GT := tb2 56 rfl rfl
set_option maxRecDepth 100000 in
theorem gt2_76 : Cond.methodLink RX4 26 yX5_count ∈ GT := tb2 76 rfl rfl
set_option maxRecDepth 100000 in
theorem gt2_79 : Cond.methodLink RX4 39 yX1_setBad ∈ GT := tb2 79 rfl rfl
set_option maxRecDepth 100000 in
theorem gt2_77 : Cond.methodLink RX4 32 yX5_at ∈ GT := tb2 77 rfl rfl
set_option maxRecDepth 100000 in
theorem gt2_78 : Cond.methodLink RX4 36 yX1_setNeed ∈ GT := tb2 78 rfl rfl
set_option maxRecDepth 100000 in
theorem gt3_23 : Cond.methodLink RX8 43 yX4_setForUnpaired ∈ GT := tb3 23 rfl rfl
set_option maxRecDepth 100000 in
theorem gt2_74 : Cond.static yX4_setForUnpaired ∈ GT := tb2 74 rfl rfl
set_option maxRecDepth 100000 in
theorem gt2_75 : Cond.code yX4_setForUnpaired cX4_setForUnpaired 2 none ∈ GT := tb2 75 rfl rfl
set_option maxRecDepth 100000 in
theorem gt3_19 : Cond.methodLink RX8 39 yX4_codePoint ∈ GT := tb3 19 rfl rfl
set_option maxRecDepth 100000 in
theorem gt3_20 : Cond.static yX4_codePoint ∈ GT := tb3 20 rfl rfl
set_option maxRecDepth 100000 in
theorem gt3_21 : Cond.code yX4_codePoint cX4_codePoint 2 (some .int) ∈ GT := tb3 21 rfl rfl
set_option maxRecDepth 100000 in
theorem gt2_94 : Cond.methodLink RX6 50 yX4_isPair ∈ GT := tb2 94 rfl rfl
set_option maxRecDepth 100000 in
theorem gt2_95 : Cond.methodLink RX6 54 yX4_setForUnpaired ∈ GT := tb2 95 rfl rfl
set_option maxRecDepth 100000 in
theorem gt2_90 : Cond.methodLink RX6 46 yX6_addBytes ∈ GT := tb2 90 rfl rfl
set_option maxRecDepth 100000 in
theorem gt2_92 : Cond.instanceMethod yX6_addBytes ∈ GT := tb2 92 rfl rfl
set_option maxRecDepth 100000 in
theorem gtp5 : Cond.selects RX6 yX6_addBytes yX6_addBytes ∈ GT := tbp (q := (yX6_addBytes, 5)) (List.mem_of_getElem? (i := 5) rfl) rfl
set_option maxRecDepth 100000 in
theorem gt2_93 : Cond.code yX6_addBytes cX6_addBytes 3 none ∈ GT := tb2 93 rfl rfl
set_option maxRecDepth 100000 in
theorem gt2_105 : Cond.methodLink RX7 38 yX7_isDirect ∈ GT := tb2 105 rfl rfl
set_option maxRecDepth 100000 in
theorem gt2_106 : Cond.static yX7_isDirect ∈ GT := tb2 106 rfl rfl
set_option maxRecDepth 100000 in
theorem gt2_107 : Cond.code yX7_isDirect cX7_isDirect 2 (some .boolean) ∈ GT := tb2 107 rfl rfl
set_option maxRecDepth 100000 in
theorem gt2_167 : Cond.fieldLink RJ0 1053 "jdk/internal/util/Preconditions" "SIOOBE_FORMATTER" "Ljava/util/function/BiFunction;" ∈ GT := tb2 167 rfl rfl
set_option maxRecDepth 100000 in
theorem gt2_213 : Cond.methodLink RJ0 1059 yJ3_checkIndex_8e157 ∈ GT := tb2 213 rfl rfl
set_option maxRecDepth 100000 in
theorem gt2_214 : Cond.static yJ3_checkIndex_8e157 ∈ GT := tb2 214 rfl rfl
set_option maxRecDepth 100000 in
theorem gt1_17 : Cond.initialized RJ3 ∈ GT := tb1 17 rfl rfl
set_option maxRecDepth 100000 in
theorem gt2_215 : Cond.code yJ3_checkIndex_8e157 cJ3_checkIndex_8e157 3 (some .int) ∈ GT := tb2 215 rfl rfl
set_option maxRecDepth 100000 in
theorem gt2_210 : Cond.methodLink RJ1 9 yJ0_checkIndex_df160 ∈ GT := tb2 210 rfl rfl
set_option maxRecDepth 100000 in
theorem gt2_211 : Cond.static yJ0_checkIndex_df160 ∈ GT := tb2 211 rfl rfl
set_option maxRecDepth 100000 in
theorem gt2_212 : Cond.code yJ0_checkIndex_df160 cJ0_checkIndex_df160 2 none ∈ GT := tb2 212 rfl rfl
set_option maxRecDepth 100000 in
theorem gt2_207 : Cond.methodLink RJ0 495 yJ1_charAt_3b067 ∈ GT := tb2 207 rfl rfl
set_option maxRecDepth 100000 in
theorem gt2_208 : Cond.static yJ1_charAt_3b067 ∈ GT := tb2 208 rfl rfl
set_option maxRecDepth 100000 in
theorem gt2_209 : Cond.code yJ1_charAt_3b067 cJ1_charAt_3b067 2 (some .char) ∈ GT := tb2 209 rfl rfl
set_option maxRecDepth 100000 in
theorem gt2_203 : Cond.methodLink RX7 73 yJ0_charAt_5068e ∈ GT := tb2 203 rfl rfl
set_option maxRecDepth 100000 in
theorem gt2_204 : Cond.instanceMethod yJ0_charAt_5068e ∈ GT := tb2 204 rfl rfl
set_option maxRecDepth 100000 in
theorem gt2_205 : Cond.selects RJ0 yJ0_charAt_5068e yJ0_charAt_5068e ∈ GT := tb2 205 rfl rfl
set_option maxRecDepth 100000 in
theorem gt2_206 : Cond.code yJ0_charAt_5068e cJ0_charAt_5068e 2 (some .char) ∈ GT := tb2 206 rfl rfl
set_option maxRecDepth 100000 in
theorem gt2_224 : Cond.methodLink RX7 53 yX7_encodeShifted ∈ GT := tb2 224 rfl rfl
set_option maxRecDepth 100000 in
theorem gt2_226 : Cond.instanceMethod yX7_encodeShifted ∈ GT := tb2 226 rfl rfl
set_option maxRecDepth 100000 in
theorem gtp7 : Cond.selects RX7 yX7_encodeShifted yX7_encodeShifted ∈ GT := tbp (q := (yX7_encodeShifted, 2)) (List.mem_of_getElem? (i := 7) rfl) rfl
set_option maxRecDepth 100000 in
theorem gt2_227 : Cond.code yX7_encodeShifted cX7_encodeShifted 4 none ∈ GT := tb2 227 rfl rfl
set_option maxRecDepth 100000 in
theorem gt2_199 : Cond.methodLink RX7 46 yX7_leaveShift ∈ GT := tb2 199 rfl rfl
set_option maxRecDepth 100000 in
theorem gt2_201 : Cond.instanceMethod yX7_leaveShift ∈ GT := tb2 201 rfl rfl
set_option maxRecDepth 100000 in
theorem gtp6 : Cond.selects RX7 yX7_leaveShift yX7_leaveShift ∈ GT := tbp (q := (yX7_leaveShift, 2)) (List.mem_of_getElem? (i := 6) rfl) rfl
set_option maxRecDepth 100000 in
theorem gt2_202 : Cond.code yX7_leaveShift cX7_leaveShift 2 none ∈ GT := tb2 202 rfl rfl
set_option maxRecDepth 100000 in
theorem gt2_42 : Cond.methodLink RX2 27 yX2_leastByteOf ∈ GT := tb2 42 rfl rfl
set_option maxRecDepth 100000 in
theorem gt2_44 : Cond.instanceMethod yX2_leastByteOf ∈ GT := tb2 44 rfl rfl
set_option maxRecDepth 100000 in
theorem gtp4 : Cond.selects RX2 yX2_leastByteOf yX2_leastByteOf ∈ GT := tbp (q := (yX2_leastByteOf, 1)) (List.mem_of_getElem? (i := 4) rfl) rfl
set_option maxRecDepth 100000 in
theorem gt2_45 : Cond.code yX2_leastByteOf cX2_leastByteOf 3 (some .int) ∈ GT := tb2 45 rfl rfl
set_option maxRecDepth 100000 in
theorem gt2_54 : Cond.methodLink RX2 39 yX4_isPair ∈ GT := tb2 54 rfl rfl
set_option maxRecDepth 100000 in
theorem gt2_70 : Cond.methodLink RX2 48 yX4_isEither ∈ GT := tb2 70 rfl rfl
set_option maxRecDepth 100000 in
theorem gt2_73 : Cond.methodLink RX2 52 yX4_setForUnpaired ∈ GT := tb2 73 rfl rfl
set_option maxRecDepth 100000 in
theorem gt2_32 : Cond.methodLink RX9 148 ⟨"ResumableCoder$Form", "encode", "(LResumableCoder$Units;LResumableCoder$Move;)V"⟩ ∈ GT := tb2 32 rfl rfl
set_option maxRecDepth 100000 in
theorem gt2_34 : Cond.sameMethod "ResumableCoder$Form" "ResumableCoder$Form" "encode" "(LResumableCoder$Units;LResumableCoder$Move;)V" ∈ GT := tb2 34 rfl rfl
set_option maxRecDepth 100000 in
theorem gt3_2 : Cond.selects RX8 ⟨"ResumableCoder$Form", "encode", "(LResumableCoder$Units;LResumableCoder$Move;)V"⟩ yX8_encode ∈ GT := tb3 2 rfl rfl
set_option maxRecDepth 100000 in
theorem gt3_3 : Cond.instanceMethod yX8_encode ∈ GT := tb3 3 rfl rfl
set_option maxRecDepth 100000 in
theorem gt3_4 : Cond.code yX8_encode cX8_encode 4 none ∈ GT := tb3 4 rfl rfl
set_option maxRecDepth 100000 in
theorem gt2_83 : Cond.selects RX6 ⟨"ResumableCoder$Form", "encode", "(LResumableCoder$Units;LResumableCoder$Move;)V"⟩ yX6_encode ∈ GT := tb2 83 rfl rfl
set_option maxRecDepth 100000 in
theorem gt2_84 : Cond.instanceMethod yX6_encode ∈ GT := tb2 84 rfl rfl
set_option maxRecDepth 100000 in
theorem gt2_85 : Cond.code yX6_encode cX6_encode 4 none ∈ GT := tb2 85 rfl rfl
set_option maxRecDepth 100000 in
theorem gt2_96 : Cond.selects RX7 ⟨"ResumableCoder$Form", "encode", "(LResumableCoder$Units;LResumableCoder$Move;)V"⟩ yX7_encode ∈ GT := tb2 96 rfl rfl
set_option maxRecDepth 100000 in
theorem gt2_97 : Cond.instanceMethod yX7_encode ∈ GT := tb2 97 rfl rfl
set_option maxRecDepth 100000 in
theorem gt2_98 : Cond.code yX7_encode cX7_encode 4 none ∈ GT := tb2 98 rfl rfl
set_option maxRecDepth 100000 in
theorem gt2_35 : Cond.selects RX2 ⟨"ResumableCoder$Form", "encode", "(LResumableCoder$Units;LResumableCoder$Move;)V"⟩ yX2_encode ∈ GT := tb2 35 rfl rfl
set_option maxRecDepth 100000 in
theorem gt2_36 : Cond.instanceMethod yX2_encode ∈ GT := tb2 36 rfl rfl
set_option maxRecDepth 100000 in
theorem gt2_37 : Cond.code yX2_encode cX2_encode 5 none ∈ GT := tb2 37 rfl rfl
set_option maxRecDepth 100000 in
theorem gt2_24 : Cond.methodLink RX9 145 yX1_setNeed ∈ GT := tb2 24 rfl rfl
set_option maxRecDepth 100000 in
theorem gt2_20 : Cond.methodLink RX9 133 yX9_look ∈ GT := tb2 20 rfl rfl
set_option maxRecDepth 100000 in
theorem gt2_22 : Cond.instanceMethod yX9_look ∈ GT := tb2 22 rfl rfl
set_option maxRecDepth 100000 in
theorem gtp2 : Cond.selects RX9 yX9_look yX9_look ∈ GT := tbp (q := (yX9_look, 15)) (List.mem_of_getElem? (i := 2) rfl) rfl
set_option maxRecDepth 100000 in
theorem gt2_23 : Cond.code yX9_look cX9_look 1 none ∈ GT := tb2 23 rfl rfl
set_option maxRecDepth 100000 in
theorem gt3_123 : Cond.methodLink RX5 17 Lib.Math.min.name ∈ GT := tb3 123 rfl rfl
set_option maxRecDepth 100000 in
theorem gt3_124 : Cond.methodLink RX5 23 Lib.Math.max.name ∈ GT := tb3 124 rfl rfl
set_option maxRecDepth 100000 in
theorem gt3_125 : Cond.methodLink RX5 26 arraycopyName ∈ GT := tb3 125 rfl rfl
set_option maxRecDepth 100000 in
theorem gt3_127 : Cond.native arraycopyName ∈ GT := tb3 127 rfl rfl
set_option maxRecDepth 100000 in
theorem gt3_126 : Cond.static arraycopyName ∈ GT := tb3 126 rfl rfl
set_option maxRecDepth 100000 in
theorem gt1_19 : Cond.initialized RJ10 ∈ GT := tb1 19 rfl rfl
set_option maxRecDepth 100000 in
theorem gt3_119 : Cond.methodLink RX9 127 yX5_drop ∈ GT := tb3 119 rfl rfl
set_option maxRecDepth 100000 in
theorem gt3_120 : Cond.instanceMethod yX5_drop ∈ GT := tb3 120 rfl rfl
set_option maxRecDepth 100000 in
theorem gt3_121 : Cond.selects RX5 yX5_drop yX5_drop ∈ GT := tb3 121 rfl rfl
set_option maxRecDepth 100000 in
theorem gt3_122 : Cond.code yX5_drop cX5_drop 3 none ∈ GT := tb3 122 rfl rfl
set_option maxRecDepth 100000 in
theorem gt3_115 : Cond.methodLink RX9 162 yX9_takeUnits ∈ GT := tb3 115 rfl rfl
set_option maxRecDepth 100000 in
theorem gt3_117 : Cond.instanceMethod yX9_takeUnits ∈ GT := tb3 117 rfl rfl
set_option maxRecDepth 100000 in
theorem gtp21 : Cond.selects RX9 yX9_takeUnits yX9_takeUnits ∈ GT := tbp (q := (yX9_takeUnits, 15)) (List.mem_of_getElem? (i := 21) rfl) rfl
set_option maxRecDepth 100000 in
theorem gt3_118 : Cond.code yX9_takeUnits cX9_takeUnits 2 none ∈ GT := tb3 118 rfl rfl
set_option maxRecDepth 100000 in
theorem gt3_173 : Cond.methodLink RX9 185 yX0_passedOver ∈ GT := tb3 173 rfl rfl
set_option maxRecDepth 100000 in
theorem gt3_175 : Cond.sameMethod "ResumableCoder$Form" "ResumableCoder$Form" "passedOver" "()V" ∈ GT := tb3 175 rfl rfl
set_option maxRecDepth 100000 in
theorem gt3_183 : Cond.selects RX8 yX0_passedOver yX0_passedOver ∈ GT := tb3 183 rfl rfl
set_option maxRecDepth 100000 in
theorem gt3_174 : Cond.instanceMethod yX0_passedOver ∈ GT := tb3 174 rfl rfl
set_option maxRecDepth 100000 in
theorem gt3_184 : Cond.code yX0_passedOver cX0_passedOver 1 none ∈ GT := tb3 184 rfl rfl
set_option maxRecDepth 100000 in
theorem gt3_177 : Cond.selects RX6 yX0_passedOver yX6_passedOver ∈ GT := tb3 177 rfl rfl
set_option maxRecDepth 100000 in
theorem gt3_178 : Cond.instanceMethod yX6_passedOver ∈ GT := tb3 178 rfl rfl
set_option maxRecDepth 100000 in
theorem gt3_179 : Cond.code yX6_passedOver cX6_passedOver 1 none ∈ GT := tb3 179 rfl rfl
set_option maxRecDepth 100000 in
theorem gt3_180 : Cond.selects RX7 yX0_passedOver yX7_passedOver ∈ GT := tb3 180 rfl rfl
set_option maxRecDepth 100000 in
theorem gt3_181 : Cond.instanceMethod yX7_passedOver ∈ GT := tb3 181 rfl rfl
set_option maxRecDepth 100000 in
theorem gt3_182 : Cond.code yX7_passedOver cX7_passedOver 1 none ∈ GT := tb3 182 rfl rfl
set_option maxRecDepth 100000 in
theorem gt3_176 : Cond.selects RX2 yX0_passedOver yX0_passedOver ∈ GT := tb3 176 rfl rfl
set_option maxRecDepth 100000 in
theorem gt3_169 : Cond.methodLink RX9 120 yX9_passOver ∈ GT := tb3 169 rfl rfl
set_option maxRecDepth 100000 in
theorem gt3_171 : Cond.instanceMethod yX9_passOver ∈ GT := tb3 171 rfl rfl
set_option maxRecDepth 100000 in
theorem gtp25 : Cond.selects RX9 yX9_passOver yX9_passOver ∈ GT := tbp (q := (yX9_passOver, 15)) (List.mem_of_getElem? (i := 25) rfl) rfl
set_option maxRecDepth 100000 in
theorem gt3_172 : Cond.code yX9_passOver cX9_passOver 2 none ∈ GT := tb3 172 rfl rfl
set_option maxRecDepth 100000 in
theorem gt3_167 : Cond.constant RX9 177 (65533) ∈ GT := tb3 167 rfl rfl
set_option maxRecDepth 100000 in
theorem gt3_168 : Cond.methodLink RX9 178 yX1_add ∈ GT := tb3 168 rfl rfl
set_option maxRecDepth 100000 in
theorem gt3_166 : Cond.methodLink RX0 7 yX1_add ∈ GT := tb3 166 rfl rfl
set_option maxRecDepth 100000 in
theorem gt3_156 : Cond.methodLink RX9 174 yX0_addReplacement ∈ GT := tb3 156 rfl rfl
set_option maxRecDepth 100000 in
theorem gt3_158 : Cond.sameMethod "ResumableCoder$Form" "ResumableCoder$Form" "addReplacement" "(LResumableCoder$Move;)V" ∈ GT := tb3 158 rfl rfl
set_option maxRecDepth 100000 in
theorem gt3_164 : Cond.selects RX8 yX0_addReplacement yX0_addReplacement ∈ GT := tb3 164 rfl rfl
set_option maxRecDepth 100000 in
theorem gt3_157 : Cond.instanceMethod yX0_addReplacement ∈ GT := tb3 157 rfl rfl
set_option maxRecDepth 100000 in
theorem gt3_165 : Cond.code yX0_addReplacement cX0_addReplacement 2 none ∈ GT := tb3 165 rfl rfl
set_option maxRecDepth 100000 in
theorem gt3_160 : Cond.selects RX6 yX0_addReplacement yX6_addReplacement ∈ GT := tb3 160 rfl rfl
set_option maxRecDepth 100000 in
theorem gt3_161 : Cond.instanceMethod yX6_addReplacement ∈ GT := tb3 161 rfl rfl
set_option maxRecDepth 100000 in
theorem gt3_162 : Cond.code yX6_addReplacement cX6_addReplacement 2 none ∈ GT := tb3 162 rfl rfl
set_option maxRecDepth 100000 in
theorem gt3_163 : Cond.selects RX7 yX0_addReplacement yX0_addReplacement ∈ GT := tb3 163 rfl rfl
set_option maxRecDepth 100000 in
theorem gt3_159 : Cond.selects RX2 yX0_addReplacement yX0_addReplacement ∈ GT := tb3 159 rfl rfl
set_option maxRecDepth 100000 in
theorem gt3_152 : Cond.methodLink RX9 171 yX9_addReplacement ∈ GT := tb3 152 rfl rfl
set_option maxRecDepth 100000 in
theorem gt3_154 : Cond.instanceMethod yX9_addReplacement ∈ GT := tb3 154 rfl rfl
set_option maxRecDepth 100000 in
theorem gtp24 : Cond.selects RX9 yX9_addReplacement yX9_addReplacement ∈ GT := tbp (q := (yX9_addReplacement, 15)) (List.mem_of_getElem? (i := 24) rfl) rfl
set_option maxRecDepth 100000 in
theorem gt3_155 : Cond.code yX9_addReplacement cX9_addReplacement 1 none ∈ GT := tb3 155 rfl rfl
set_option maxRecDepth 100000 in
theorem gt3_111 : Cond.methodLink RX9 155 yX9_fits ∈ GT := tb3 111 rfl rfl
set_option maxRecDepth 100000 in
theorem gt3_113 : Cond.instanceMethod yX9_fits ∈ GT := tb3 113 rfl rfl
set_option maxRecDepth 100000 in
theorem gtp20 : Cond.selects RX9 yX9_fits yX9_fits ∈ GT := tbp (q := (yX9_fits, 15)) (List.mem_of_getElem? (i := 20) rfl) rfl
set_option maxRecDepth 100000 in
theorem gt3_114 : Cond.code yX9_fits cX9_fits 1 (some .boolean) ∈ GT := tb3 114 rfl rfl
set_option maxRecDepth 100000 in
theorem gt3_132 : Cond.methodLink RX9 182 yX1_unitAt ∈ GT := tb3 132 rfl rfl
set_option maxRecDepth 100000 in
theorem gt3_133 : Cond.instanceMethod yX1_unitAt ∈ GT := tb3 133 rfl rfl
set_option maxRecDepth 100000 in
theorem gt3_134 : Cond.selects RX1 yX1_unitAt yX1_unitAt ∈ GT := tb3 134 rfl rfl
set_option maxRecDepth 100000 in
theorem gt3_135 : Cond.code yX1_unitAt cX1_unitAt 2 (some .int) ∈ GT := tb3 135 rfl rfl
set_option maxRecDepth 100000 in
theorem gt3_128 : Cond.methodLink RX9 165 yX9_putUnits ∈ GT := tb3 128 rfl rfl
set_option maxRecDepth 100000 in
theorem gt3_130 : Cond.instanceMethod yX9_putUnits ∈ GT := tb3 130 rfl rfl
set_option maxRecDepth 100000 in
theorem gtp22 : Cond.selects RX9 yX9_putUnits yX9_putUnits ∈ GT := tbp (q := (yX9_putUnits, 15)) (List.mem_of_getElem? (i := 22) rfl) rfl
set_option maxRecDepth 100000 in
theorem gt3_131 : Cond.code yX9_putUnits cX9_putUnits 2 none ∈ GT := tb3 131 rfl rfl
set_option maxRecDepth 100000 in
theorem gt3_148 : Cond.methodLink RX9 142 yX9_meetFault ∈ GT := tb3 148 rfl rfl
set_option maxRecDepth 100000 in
theorem gt3_150 : Cond.instanceMethod yX9_meetFault ∈ GT := tb3 150 rfl rfl
set_option maxRecDepth 100000 in
theorem gtp23 : Cond.selects RX9 yX9_meetFault yX9_meetFault ∈ GT := tbp (q := (yX9_meetFault, 15)) (List.mem_of_getElem? (i := 23) rfl) rfl
set_option maxRecDepth 100000 in
theorem gt3_151 : Cond.code yX9_meetFault cX9_meetFault 3 (some .int) ∈ GT := tb3 151 rfl rfl
set_option maxRecDepth 100000 in
theorem gt3_136 : Cond.methodLink RX9 168 yX0_stepMade ∈ GT := tb3 136 rfl rfl
set_option maxRecDepth 100000 in
theorem gt3_138 : Cond.sameMethod "ResumableCoder$Form" "ResumableCoder$Form" "stepMade" "()V" ∈ GT := tb3 138 rfl rfl
set_option maxRecDepth 100000 in
theorem gt3_146 : Cond.selects RX8 yX0_stepMade yX0_stepMade ∈ GT := tb3 146 rfl rfl
set_option maxRecDepth 100000 in
theorem gt3_137 : Cond.instanceMethod yX0_stepMade ∈ GT := tb3 137 rfl rfl
set_option maxRecDepth 100000 in
theorem gt3_147 : Cond.code yX0_stepMade cX0_stepMade 1 none ∈ GT := tb3 147 rfl rfl
set_option maxRecDepth 100000 in
theorem gt3_140 : Cond.selects RX6 yX0_stepMade yX6_stepMade ∈ GT := tb3 140 rfl rfl
set_option maxRecDepth 100000 in
theorem gt3_141 : Cond.instanceMethod yX6_stepMade ∈ GT := tb3 141 rfl rfl
set_option maxRecDepth 100000 in
theorem gt3_142 : Cond.code yX6_stepMade cX6_stepMade 1 none ∈ GT := tb3 142 rfl rfl
set_option maxRecDepth 100000 in
theorem gt3_143 : Cond.selects RX7 yX0_stepMade yX7_stepMade ∈ GT := tb3 143 rfl rfl
set_option maxRecDepth 100000 in
theorem gt3_144 : Cond.instanceMethod yX7_stepMade ∈ GT := tb3 144 rfl rfl
set_option maxRecDepth 100000 in
theorem gt3_145 : Cond.code yX7_stepMade cX7_stepMade 1 none ∈ GT := tb3 145 rfl rfl
set_option maxRecDepth 100000 in
theorem gt3_139 : Cond.selects RX2 yX0_stepMade yX0_stepMade ∈ GT := tb3 139 rfl rfl
set_option maxRecDepth 100000 in
theorem gt3_107 : Cond.methodLink RX9 117 yX9_makeStep ∈ GT := tb3 107 rfl rfl
set_option maxRecDepth 100000 in
theorem gt3_109 : Cond.instanceMethod yX9_makeStep ∈ GT := tb3 109 rfl rfl
set_option maxRecDepth 100000 in
theorem gtp19 : Cond.selects RX9 yX9_makeStep yX9_makeStep ∈ GT := tbp (q := (yX9_makeStep, 15)) (List.mem_of_getElem? (i := 19) rfl) rfl
set_option maxRecDepth 100000 in
theorem gt3_110 : Cond.code yX9_makeStep cX9_makeStep 1 (some .int) ∈ GT := tb3 110 rfl rfl
set_option maxRecDepth 100000 in
theorem gt3_106 : Cond.methodLink RX9 139 yX1_setBad ∈ GT := tb3 106 rfl rfl
set_option maxRecDepth 100000 in
theorem gt2_16 : Cond.methodLink RX9 109 yX9_makeMoves ∈ GT := tb2 16 rfl rfl
set_option maxRecDepth 100000 in
theorem gt2_18 : Cond.instanceMethod yX9_makeMoves ∈ GT := tb2 18 rfl rfl
set_option maxRecDepth 100000 in
theorem gtp1 : Cond.selects RX9 yX9_makeMoves yX9_makeMoves ∈ GT := tbp (q := (yX9_makeMoves, 15)) (List.mem_of_getElem? (i := 1) rfl) rfl
set_option maxRecDepth 100000 in
theorem gt2_19 : Cond.code yX9_makeMoves cX9_makeMoves 4 (some .int) ∈ GT := tb2 19 rfl rfl
set_option maxRecDepth 100000 in
theorem gt3_190 : Cond.methodLink RX9 113 yX0_finish ∈ GT := tb3 190 rfl rfl
set_option maxRecDepth 100000 in
theorem gt3_192 : Cond.sameMethod "ResumableCoder$Form" "ResumableCoder$Form" "finish" "(LResumableCoder$Move;)Z" ∈ GT := tb3 192 rfl rfl
set_option maxRecDepth 100000 in
theorem gt3_198 : Cond.selects RX8 yX0_finish yX0_finish ∈ GT := tb3 198 rfl rfl
set_option maxRecDepth 100000 in
theorem gt3_191 : Cond.instanceMethod yX0_finish ∈ GT := tb3 191 rfl rfl
set_option maxRecDepth 100000 in
theorem gt3_199 : Cond.code yX0_finish cX0_finish 2 (some .boolean) ∈ GT := tb3 199 rfl rfl
set_option maxRecDepth 100000 in
theorem gt3_194 : Cond.selects RX6 yX0_finish yX0_finish ∈ GT := tb3 194 rfl rfl
set_option maxRecDepth 100000 in
theorem gt3_195 : Cond.selects RX7 yX0_finish yX7_finish ∈ GT := tb3 195 rfl rfl
set_option maxRecDepth 100000 in
theorem gt3_196 : Cond.instanceMethod yX7_finish ∈ GT := tb3 196 rfl rfl
set_option maxRecDepth 100000 in
theorem gt3_197 : Cond.code yX7_finish cX7_finish 2 (some .boolean) ∈ GT := tb3 197 rfl rfl
set_option maxRecDepth 100000 in
theorem gt3_193 : Cond.selects RX2 yX0_finish yX0_finish ∈ GT := tb3 193 rfl rfl
set_option maxRecDepth 100000 in
theorem gt3_212 : Cond.methodLink RX9 123 yX5_at ∈ GT := tb3 212 rfl rfl
set_option maxRecDepth 100000 in
theorem gt4_3 : Cond.fieldLink RX10 26 "ResumableCoderModel" "there" "Z" ∈ GT := tb4 3 rfl rfl
set_option maxRecDepth 100000 in
theorem gt4_4 : Cond.fieldLink RX10 30 "ResumableCoderModel" "set" "I" ∈ GT := tb4 4 rfl rfl
set_option maxRecDepth 100000 in
theorem gt4_5 : Cond.fieldLink RX10 33 "ResumableCoderModel" "encodes" "Z" ∈ GT := tb4 5 rfl rfl
set_option maxRecDepth 100000 in
theorem gt4_6 : Cond.fieldLink RX10 36 "ResumableCoderModel" "badAction" "I" ∈ GT := tb4 6 rfl rfl
set_option maxRecDepth 100000 in
theorem gt4_7 : Cond.fieldLink RX10 39 "ResumableCoderModel" "unknownAction" "I" ∈ GT := tb4 7 rfl rfl
set_option maxRecDepth 100000 in
theorem gt4_12 : Cond.fieldLink RX10 42 "ResumableCoderModel" "waits" "I" ∈ GT := tb4 12 rfl rfl
set_option maxRecDepth 100000 in
theorem gt4_14 : Cond.fieldLink RX10 45 "ResumableCoderModel" "readies" "I" ∈ GT := tb4 14 rfl rfl
set_option maxRecDepth 100000 in
theorem gt4_15 : Cond.fieldLink RX10 48 "ResumableCoderModel" "takenAll" "I" ∈ GT := tb4 15 rfl rfl
set_option maxRecDepth 100000 in
theorem gt4_16 : Cond.fieldLink RX10 51 "ResumableCoderModel" "putAll" "I" ∈ GT := tb4 16 rfl rfl
set_option maxRecDepth 100000 in
theorem gt4_17 : Cond.fieldLink RX10 54 "ResumableCoderModel" "met" "I" ∈ GT := tb4 17 rfl rfl
set_option maxRecDepth 100000 in
theorem gt4_10 : Cond.fieldLink RX10 60 "ResumableCoderModel" "state" "I" ∈ GT := tb4 10 rfl rfl
set_option maxRecDepth 100000 in
theorem gt4_18 : Cond.fieldLink RX10 63 "ResumableCoderModel" "took" "Z" ∈ GT := tb4 18 rfl rfl
set_option maxRecDepth 100000 in
theorem gt4_19 : Cond.fieldLink RX10 66 "ResumableCoderModel" "gave" "Z" ∈ GT := tb4 19 rfl rfl
set_option maxRecDepth 100000 in
theorem gt4_20 : Cond.fieldLink RX10 69 "ResumableCoderModel" "swapped" "Z" ∈ GT := tb4 20 rfl rfl
set_option maxRecDepth 100000 in
theorem gt4_21 : Cond.fieldLink RX10 72 "ResumableCoderModel" "shifted" "Z" ∈ GT := tb4 21 rfl rfl
set_option maxRecDepth 100000 in
theorem gt4_22 : Cond.fieldLink RX10 75 "ResumableCoderModel" "begun" "Z" ∈ GT := tb4 22 rfl rfl
set_option maxRecDepth 100000 in
theorem gt4_23 : Cond.fieldLink RX10 78 "ResumableCoderModel" "bits" "I" ∈ GT := tb4 23 rfl rfl
set_option maxRecDepth 100000 in
theorem gt4_24 : Cond.fieldLink RX10 81 "ResumableCoderModel" "kept" "I" ∈ GT := tb4 24 rfl rfl
set_option maxRecDepth 100000 in
theorem gt4_25 : Cond.fieldLink RX10 84 "ResumableCoderModel" "pending" "I" ∈ GT := tb4 25 rfl rfl
set_option maxRecDepth 100000 in
theorem gt4_104 : Cond.methodLink RX10 57 yX10_renew ∈ GT := tb4 104 rfl rfl
set_option maxRecDepth 100000 in
theorem gt4_106 : Cond.instanceMethod yX10_renew ∈ GT := tb4 106 rfl rfl
set_option maxRecDepth 100000 in
theorem gtp26 : Cond.selects RX10 yX10_renew yX10_renew ∈ GT := tbp (q := (yX10_renew, 32)) (List.mem_of_getElem? (i := 26) rfl) rfl
set_option maxRecDepth 100000 in
theorem gt1_11 : Cond.initialized RX10 ∈ GT := tb1 11 rfl rfl
set_option maxRecDepth 100000 in
theorem gt4_107 : Cond.code yX10_renew cX10_renew 1 none ∈ GT := tb4 107 rfl rfl
set_option maxRecDepth 100000 in
theorem gt4_112 : Cond.constant RX10 87 (65535) ∈ GT := tb4 112 rfl rfl
set_option maxRecDepth 100000 in
theorem gt4_8 : Cond.fieldLink RX10 7 "ResumableCoderModel" "page" "[I" ∈ GT := tb4 8 rfl rfl
set_option maxRecDepth 100000 in
theorem gt4_11 : Cond.fieldLink RX10 17 "ResumableCoderModel" "wait" "[I" ∈ GT := tb4 11 rfl rfl
set_option maxRecDepth 100000 in
theorem gt4_9 : Cond.fieldLink RX10 13 "ResumableCoderModel" "room" "I" ∈ GT := tb4 9 rfl rfl
set_option maxRecDepth 100000 in
theorem gt4_13 : Cond.fieldLink RX10 20 "ResumableCoderModel" "ready" "[I" ∈ GT := tb4 13 rfl rfl
set_option maxRecDepth 100000 in
theorem gt4_180 : Cond.constant RX10 88 (55296) ∈ GT := tb4 180 rfl rfl
set_option maxRecDepth 100000 in
theorem gt4_181 : Cond.constant RX10 89 (56319) ∈ GT := tb4 181 rfl rfl
set_option maxRecDepth 100000 in
theorem gt4_185 : Cond.constant RX10 90 (56320) ∈ GT := tb4 185 rfl rfl
set_option maxRecDepth 100000 in
theorem gt4_186 : Cond.constant RX10 91 (57343) ∈ GT := tb4 186 rfl rfl
set_option maxRecDepth 100000 in
theorem gt4_28 : Cond.fieldLink RX10 23 "ResumableCoderModel" "out" "[I" ∈ GT := tb4 28 rfl rfl
set_option maxRecDepth 100000 in
theorem gt4_29 : Cond.fieldLink RX10 92 "ResumableCoderModel" "outs" "I" ∈ GT := tb4 29 rfl rfl
set_option maxRecDepth 100000 in
theorem gt4_27 : Cond.fieldLink RX10 95 "ResumableCoderModel" "n" "I" ∈ GT := tb4 27 rfl rfl
set_option maxRecDepth 100000 in
theorem gt4_30 : Cond.fieldLink RX10 98 "ResumableCoderModel" "nextShifted" "Z" ∈ GT := tb4 30 rfl rfl
set_option maxRecDepth 100000 in
theorem gt4_31 : Cond.fieldLink RX10 101 "ResumableCoderModel" "nextBegun" "Z" ∈ GT := tb4 31 rfl rfl
set_option maxRecDepth 100000 in
theorem gt4_32 : Cond.fieldLink RX10 104 "ResumableCoderModel" "nextBits" "I" ∈ GT := tb4 32 rfl rfl
set_option maxRecDepth 100000 in
theorem gt4_33 : Cond.fieldLink RX10 107 "ResumableCoderModel" "nextKept" "I" ∈ GT := tb4 33 rfl rfl
set_option maxRecDepth 100000 in
theorem gt4_34 : Cond.fieldLink RX10 110 "ResumableCoderModel" "nextSwapped" "Z" ∈ GT := tb4 34 rfl rfl
set_option maxRecDepth 100000 in
theorem gt4_192 : Cond.methodLink RX10 139 yX10_result ∈ GT := tb4 192 rfl rfl
set_option maxRecDepth 100000 in
theorem gt4_194 : Cond.instanceMethod yX10_result ∈ GT := tb4 194 rfl rfl
set_option maxRecDepth 100000 in
theorem gtp32 : Cond.selects RX10 yX10_result yX10_result ∈ GT := tbp (q := (yX10_result, 32)) (List.mem_of_getElem? (i := 32) rfl) rfl
set_option maxRecDepth 100000 in
theorem gt4_195 : Cond.code yX10_result cX10_result 2 none ∈ GT := tb4 195 rfl rfl
set_option maxRecDepth 100000 in
theorem gt4_196 : Cond.methodLink RX10 153 yX10_step ∈ GT := tb4 196 rfl rfl
set_option maxRecDepth 100000 in
theorem gt4_198 : Cond.instanceMethod yX10_step ∈ GT := tb4 198 rfl rfl
set_option maxRecDepth 100000 in
theorem gtp33 : Cond.selects RX10 yX10_step yX10_step ∈ GT := tbp (q := (yX10_step, 32)) (List.mem_of_getElem? (i := 33) rfl) rfl
set_option maxRecDepth 100000 in
theorem gt4_199 : Cond.code yX10_step cX10_step 2 (some .int) ∈ GT := tb4 199 rfl rfl
set_option maxRecDepth 100000 in
theorem gt4_200 : Cond.methodLink RX10 157 yX10_fault ∈ GT := tb4 200 rfl rfl
set_option maxRecDepth 100000 in
theorem gt4_202 : Cond.instanceMethod yX10_fault ∈ GT := tb4 202 rfl rfl
set_option maxRecDepth 100000 in
theorem gtp34 : Cond.selects RX10 yX10_fault yX10_fault ∈ GT := tbp (q := (yX10_fault, 32)) (List.mem_of_getElem? (i := 34) rfl) rfl
set_option maxRecDepth 100000 in
theorem gt4_203 : Cond.code yX10_fault cX10_fault 3 (some .int) ∈ GT := tb4 203 rfl rfl
set_option maxRecDepth 100000 in
theorem gt5_25 : Cond.methodLink RX10 135 yX10_decodePage ∈ GT := tb5 25 rfl rfl
set_option maxRecDepth 100000 in
theorem gt5_27 : Cond.instanceMethod yX10_decodePage ∈ GT := tb5 27 rfl rfl
set_option maxRecDepth 100000 in
theorem gtp47 : Cond.selects RX10 yX10_decodePage yX10_decodePage ∈ GT := tbp (q := (yX10_decodePage, 32)) (List.mem_of_getElem? (i := 47) rfl) rfl
set_option maxRecDepth 100000 in
theorem gt5_28 : Cond.code yX10_decodePage cX10_decodePage 3 (some .int) ∈ GT := tb5 28 rfl rfl
set_option maxRecDepth 100000 in
theorem gt4_177 : Cond.methodLink RX10 143 yX10_high ∈ GT := tb4 177 rfl rfl
set_option maxRecDepth 100000 in
theorem gt4_178 : Cond.static yX10_high ∈ GT := tb4 178 rfl rfl
set_option maxRecDepth 100000 in
theorem gt4_179 : Cond.code yX10_high cX10_high 1 (some .boolean) ∈ GT := tb4 179 rfl rfl
set_option maxRecDepth 100000 in
theorem gt4_182 : Cond.methodLink RX10 147 yX10_low ∈ GT := tb4 182 rfl rfl
set_option maxRecDepth 100000 in
theorem gt4_183 : Cond.static yX10_low ∈ GT := tb4 183 rfl rfl
set_option maxRecDepth 100000 in
theorem gt4_184 : Cond.code yX10_low cX10_low 1 (some .boolean) ∈ GT := tb4 184 rfl rfl
set_option maxRecDepth 100000 in
theorem gt5_21 : Cond.methodLink RX10 132 yX10_encodePage ∈ GT := tb5 21 rfl rfl
set_option maxRecDepth 100000 in
theorem gt5_23 : Cond.instanceMethod yX10_encodePage ∈ GT := tb5 23 rfl rfl
set_option maxRecDepth 100000 in
theorem gtp46 : Cond.selects RX10 yX10_encodePage yX10_encodePage ∈ GT := tbp (q := (yX10_encodePage, 32)) (List.mem_of_getElem? (i := 46) rfl) rfl
set_option maxRecDepth 100000 in
theorem gt5_24 : Cond.code yX10_encodePage cX10_encodePage 4 (some .int) ∈ GT := tb5 24 rfl rfl
set_option maxRecDepth 100000 in
theorem gt5_11 : Cond.methodLink RX10 182 yX10_sign ∈ GT := tb5 11 rfl rfl
set_option maxRecDepth 100000 in
theorem gt5_12 : Cond.static yX10_sign ∈ GT := tb5 12 rfl rfl
set_option maxRecDepth 100000 in
theorem gt5_13 : Cond.code yX10_sign cX10_sign 1 (some .int) ∈ GT := tb5 13 rfl rfl
set_option maxRecDepth 100000 in
theorem gt5_18 : Cond.methodLink RX10 191 yX10_six ∈ GT := tb5 18 rfl rfl
set_option maxRecDepth 100000 in
theorem gt5_19 : Cond.static yX10_six ∈ GT := tb5 19 rfl rfl
set_option maxRecDepth 100000 in
theorem gt5_20 : Cond.code yX10_six cX10_six 3 (some .int) ∈ GT := tb5 20 rfl rfl
set_option maxRecDepth 100000 in
theorem gt5_14 : Cond.methodLink RX10 129 yX10_decodeSeven ∈ GT := tb5 14 rfl rfl
set_option maxRecDepth 100000 in
theorem gt5_16 : Cond.instanceMethod yX10_decodeSeven ∈ GT := tb5 16 rfl rfl
set_option maxRecDepth 100000 in
theorem gtp45 : Cond.selects RX10 yX10_decodeSeven yX10_decodeSeven ∈ GT := tbp (q := (yX10_decodeSeven, 32)) (List.mem_of_getElem? (i := 45) rfl) rfl
set_option maxRecDepth 100000 in
theorem gt5_17 : Cond.code yX10_decodeSeven cX10_decodeSeven 4 (some .int) ∈ GT := tb5 17 rfl rfl
set_option maxRecDepth 100000 in
theorem gt5_4 : Cond.methodLink RX10 185 yX10_direct ∈ GT := tb5 4 rfl rfl
set_option maxRecDepth 100000 in
theorem gt5_5 : Cond.static yX10_direct ∈ GT := tb5 5 rfl rfl
set_option maxRecDepth 100000 in
theorem gt5_6 : Cond.code yX10_direct cX10_direct 2 (some .boolean) ∈ GT := tb5 6 rfl rfl
set_option maxRecDepth 100000 in
theorem gt4_191 : Cond.constant RX10 138 (65536) ∈ GT := tb4 191 rfl rfl
set_option maxRecDepth 100000 in
theorem gt5_7 : Cond.methodLink RX10 188 yX10_unshift ∈ GT := tb5 7 rfl rfl
set_option maxRecDepth 100000 in
theorem gt5_9 : Cond.instanceMethod yX10_unshift ∈ GT := tb5 9 rfl rfl
set_option maxRecDepth 100000 in
theorem gtp44 : Cond.selects RX10 yX10_unshift yX10_unshift ∈ GT := tbp (q := (yX10_unshift, 32)) (List.mem_of_getElem? (i := 44) rfl) rfl
set_option maxRecDepth 100000 in
theorem gt5_10 : Cond.code yX10_unshift cX10_unshift 1 none ∈ GT := tb5 10 rfl rfl
set_option maxRecDepth 100000 in
theorem gt5_0 : Cond.methodLink RX10 126 yX10_encodeSeven ∈ GT := tb5 0 rfl rfl
set_option maxRecDepth 100000 in
theorem gt5_2 : Cond.instanceMethod yX10_encodeSeven ∈ GT := tb5 2 rfl rfl
set_option maxRecDepth 100000 in
theorem gtp43 : Cond.selects RX10 yX10_encodeSeven yX10_encodeSeven ∈ GT := tbp (q := (yX10_encodeSeven, 32)) (List.mem_of_getElem? (i := 43) rfl) rfl
set_option maxRecDepth 100000 in
theorem gt5_3 : Cond.code yX10_encodeSeven cX10_encodeSeven 2 (some .int) ∈ GT := tb5 3 rfl rfl
set_option maxRecDepth 100000 in
theorem gt4_236 : Cond.methodLink RX10 179 yX10_character ∈ GT := tb4 236 rfl rfl
set_option maxRecDepth 100000 in
theorem gt4_238 : Cond.instanceMethod yX10_character ∈ GT := tb4 238 rfl rfl
set_option maxRecDepth 100000 in
theorem gtp42 : Cond.selects RX10 yX10_character yX10_character ∈ GT := tbp (q := (yX10_character, 32)) (List.mem_of_getElem? (i := 42) rfl) rfl
set_option maxRecDepth 100000 in
theorem gt4_239 : Cond.code yX10_character cX10_character 2 (some .int) ∈ GT := tb4 239 rfl rfl
set_option maxRecDepth 100000 in
theorem gt4_232 : Cond.methodLink RX10 123 yX10_decodeSixteen ∈ GT := tb4 232 rfl rfl
set_option maxRecDepth 100000 in
theorem gt4_234 : Cond.instanceMethod yX10_decodeSixteen ∈ GT := tb4 234 rfl rfl
set_option maxRecDepth 100000 in
theorem gtp41 : Cond.selects RX10 yX10_decodeSixteen yX10_decodeSixteen ∈ GT := tbp (q := (yX10_decodeSixteen, 32)) (List.mem_of_getElem? (i := 41) rfl) rfl
set_option maxRecDepth 100000 in
theorem gt4_235 : Cond.code yX10_decodeSixteen cX10_decodeSixteen 3 (some .int) ∈ GT := tb4 235 rfl rfl
set_option maxRecDepth 100000 in
theorem gt4_228 : Cond.methodLink RX10 175 yX10_putSixteen ∈ GT := tb4 228 rfl rfl
set_option maxRecDepth 100000 in
theorem gt4_230 : Cond.instanceMethod yX10_putSixteen ∈ GT := tb4 230 rfl rfl
set_option maxRecDepth 100000 in
theorem gtp40 : Cond.selects RX10 yX10_putSixteen yX10_putSixteen ∈ GT := tbp (q := (yX10_putSixteen, 32)) (List.mem_of_getElem? (i := 40) rfl) rfl
set_option maxRecDepth 100000 in
theorem gt4_231 : Cond.code yX10_putSixteen cX10_putSixteen 3 none ∈ GT := tb4 231 rfl rfl
set_option maxRecDepth 100000 in
theorem gt4_224 : Cond.methodLink RX10 120 yX10_encodeSixteen ∈ GT := tb4 224 rfl rfl
set_option maxRecDepth 100000 in
theorem gt4_226 : Cond.instanceMethod yX10_encodeSixteen ∈ GT := tb4 226 rfl rfl
set_option maxRecDepth 100000 in
theorem gtp39 : Cond.selects RX10 yX10_encodeSixteen yX10_encodeSixteen ∈ GT := tbp (q := (yX10_encodeSixteen, 32)) (List.mem_of_getElem? (i := 39) rfl) rfl
set_option maxRecDepth 100000 in
theorem gt4_227 : Cond.code yX10_encodeSixteen cX10_encodeSixteen 2 (some .int) ∈ GT := tb4 227 rfl rfl
set_option maxRecDepth 100000 in
theorem gt4_208 : Cond.methodLink RX10 162 yX10_lengthOf ∈ GT := tb4 208 rfl rfl
set_option maxRecDepth 100000 in
theorem gt4_209 : Cond.static yX10_lengthOf ∈ GT := tb4 209 rfl rfl
set_option maxRecDepth 100000 in
theorem gt4_210 : Cond.code yX10_lengthOf cX10_lengthOf 1 (some .int) ∈ GT := tb4 210 rfl rfl
set_option maxRecDepth 100000 in
theorem gt4_215 : Cond.methodLink RX10 165 yX10_least ∈ GT := tb4 215 rfl rfl
set_option maxRecDepth 100000 in
theorem gt4_217 : Cond.instanceMethod yX10_least ∈ GT := tb4 217 rfl rfl
set_option maxRecDepth 100000 in
theorem gtp37 : Cond.selects RX10 yX10_least yX10_least ∈ GT := tbp (q := (yX10_least, 32)) (List.mem_of_getElem? (i := 37) rfl) rfl
set_option maxRecDepth 100000 in
theorem gt4_218 : Cond.code yX10_least cX10_least 5 (some .int) ∈ GT := tb4 218 rfl rfl
set_option maxRecDepth 100000 in
theorem gt4_223 : Cond.constant RX10 161 (1114111) ∈ GT := tb4 223 rfl rfl
set_option maxRecDepth 100000 in
theorem gt4_219 : Cond.methodLink RX10 168 yX10_some ∈ GT := tb4 219 rfl rfl
set_option maxRecDepth 100000 in
theorem gt4_221 : Cond.instanceMethod yX10_some ∈ GT := tb4 221 rfl rfl
set_option maxRecDepth 100000 in
theorem gtp38 : Cond.selects RX10 yX10_some yX10_some ∈ GT := tbp (q := (yX10_some, 32)) (List.mem_of_getElem? (i := 38) rfl) rfl
set_option maxRecDepth 100000 in
theorem gt4_222 : Cond.code yX10_some cX10_some 4 (some .boolean) ∈ GT := tb4 222 rfl rfl
set_option maxRecDepth 100000 in
theorem gt4_211 : Cond.methodLink RX10 172 yX10_begins ∈ GT := tb4 211 rfl rfl
set_option maxRecDepth 100000 in
theorem gt4_213 : Cond.instanceMethod yX10_begins ∈ GT := tb4 213 rfl rfl
set_option maxRecDepth 100000 in
theorem gtp36 : Cond.selects RX10 yX10_begins yX10_begins ∈ GT := tbp (q := (yX10_begins, 32)) (List.mem_of_getElem? (i := 36) rfl) rfl
set_option maxRecDepth 100000 in
theorem gt4_214 : Cond.code yX10_begins cX10_begins 4 (some .boolean) ∈ GT := tb4 214 rfl rfl
set_option maxRecDepth 100000 in
theorem gt4_204 : Cond.methodLink RX10 117 yX10_decodeEight ∈ GT := tb4 204 rfl rfl
set_option maxRecDepth 100000 in
theorem gt4_206 : Cond.instanceMethod yX10_decodeEight ∈ GT := tb4 206 rfl rfl
set_option maxRecDepth 100000 in
theorem gtp35 : Cond.selects RX10 yX10_decodeEight yX10_decodeEight ∈ GT := tbp (q := (yX10_decodeEight, 32)) (List.mem_of_getElem? (i := 35) rfl) rfl
set_option maxRecDepth 100000 in
theorem gt4_207 : Cond.code yX10_decodeEight cX10_decodeEight 3 (some .int) ∈ GT := tb4 207 rfl rfl
set_option maxRecDepth 100000 in
theorem gt4_187 : Cond.methodLink RX10 150 yX10_putEight ∈ GT := tb4 187 rfl rfl
set_option maxRecDepth 100000 in
theorem gt4_189 : Cond.instanceMethod yX10_putEight ∈ GT := tb4 189 rfl rfl
set_option maxRecDepth 100000 in
theorem gtp31 : Cond.selects RX10 yX10_putEight yX10_putEight ∈ GT := tbp (q := (yX10_putEight, 32)) (List.mem_of_getElem? (i := 31) rfl) rfl
set_option maxRecDepth 100000 in
theorem gt4_190 : Cond.code yX10_putEight cX10_putEight 4 none ∈ GT := tb4 190 rfl rfl
set_option maxRecDepth 100000 in
theorem gt4_173 : Cond.methodLink RX10 113 yX10_encodeEight ∈ GT := tb4 173 rfl rfl
set_option maxRecDepth 100000 in
theorem gt4_175 : Cond.instanceMethod yX10_encodeEight ∈ GT := tb4 175 rfl rfl
set_option maxRecDepth 100000 in
theorem gtp30 : Cond.selects RX10 yX10_encodeEight yX10_encodeEight ∈ GT := tbp (q := (yX10_encodeEight, 32)) (List.mem_of_getElem? (i := 30) rfl) rfl
set_option maxRecDepth 100000 in
theorem gt4_176 : Cond.code yX10_encodeEight cX10_encodeEight 2 (some .int) ∈ GT := tb4 176 rfl rfl
set_option maxRecDepth 100000 in
theorem gt4_161 : Cond.methodLink RX10 194 yX10_take ∈ GT := tb4 161 rfl rfl
set_option maxRecDepth 100000 in
theorem gt4_163 : Cond.instanceMethod yX10_take ∈ GT := tb4 163 rfl rfl
set_option maxRecDepth 100000 in
theorem gtp28 : Cond.selects RX10 yX10_take yX10_take ∈ GT := tbp (q := (yX10_take, 32)) (List.mem_of_getElem? (i := 28) rfl) rfl
set_option maxRecDepth 100000 in
theorem gt4_164 : Cond.code yX10_take cX10_take 3 none ∈ GT := tb4 164 rfl rfl
set_option maxRecDepth 100000 in
theorem gt4_26 : Cond.fieldLink RX10 197 "ResumableCoderModel" "pendingBad" "Z" ∈ GT := tb4 26 rfl rfl
set_option maxRecDepth 100000 in
theorem gt4_157 : Cond.methodLink RX10 200 yX10_passOver ∈ GT := tb4 157 rfl rfl
set_option maxRecDepth 100000 in
theorem gt4_159 : Cond.instanceMethod yX10_passOver ∈ GT := tb4 159 rfl rfl
set_option maxRecDepth 100000 in
theorem gtp27 : Cond.selects RX10 yX10_passOver yX10_passOver ∈ GT := tbp (q := (yX10_passOver, 32)) (List.mem_of_getElem? (i := 27) rfl) rfl
set_option maxRecDepth 100000 in
theorem gt4_160 : Cond.code yX10_passOver cX10_passOver 3 none ∈ GT := tb4 160 rfl rfl
set_option maxRecDepth 100000 in
theorem gt5_49 : Cond.constant RX10 203 (65533) ∈ GT := tb5 49 rfl rfl
set_option maxRecDepth 100000 in
theorem gt4_169 : Cond.methodLink RX10 204 yX10_look ∈ GT := tb4 169 rfl rfl
set_option maxRecDepth 100000 in
theorem gt4_171 : Cond.instanceMethod yX10_look ∈ GT := tb4 171 rfl rfl
set_option maxRecDepth 100000 in
theorem gtp29 : Cond.selects RX10 yX10_look yX10_look ∈ GT := tbp (q := (yX10_look, 32)) (List.mem_of_getElem? (i := 29) rfl) rfl
set_option maxRecDepth 100000 in
theorem gt4_172 : Cond.code yX10_look cX10_look 1 (some .int) ∈ GT := tb4 172 rfl rfl
set_option maxRecDepth 100000 in
theorem gt5_45 : Cond.methodLink RX10 220 yX10_replacement ∈ GT := tb5 45 rfl rfl
set_option maxRecDepth 100000 in
theorem gt5_47 : Cond.instanceMethod yX10_replacement ∈ GT := tb5 47 rfl rfl
set_option maxRecDepth 100000 in
theorem gtp52 : Cond.selects RX10 yX10_replacement yX10_replacement ∈ GT := tbp (q := (yX10_replacement, 32)) (List.mem_of_getElem? (i := 52) rfl) rfl
set_option maxRecDepth 100000 in
theorem gt5_48 : Cond.code yX10_replacement cX10_replacement 1 none ∈ GT := tb5 48 rfl rfl
set_option maxRecDepth 100000 in
theorem gt5_29 : Cond.methodLink RX10 207 yX10_fits ∈ GT := tb5 29 rfl rfl
set_option maxRecDepth 100000 in
theorem gt5_31 : Cond.instanceMethod yX10_fits ∈ GT := tb5 31 rfl rfl
set_option maxRecDepth 100000 in
theorem gtp48 : Cond.selects RX10 yX10_fits yX10_fits ∈ GT := tbp (q := (yX10_fits, 32)) (List.mem_of_getElem? (i := 48) rfl) rfl
set_option maxRecDepth 100000 in
theorem gt5_32 : Cond.code yX10_fits cX10_fits 2 (some .boolean) ∈ GT := tb5 32 rfl rfl
set_option maxRecDepth 100000 in
theorem gt5_33 : Cond.methodLink RX10 210 yX10_putOut ∈ GT := tb5 33 rfl rfl
set_option maxRecDepth 100000 in
theorem gt5_35 : Cond.instanceMethod yX10_putOut ∈ GT := tb5 35 rfl rfl
set_option maxRecDepth 100000 in
theorem gtp49 : Cond.selects RX10 yX10_putOut yX10_putOut ∈ GT := tbp (q := (yX10_putOut, 32)) (List.mem_of_getElem? (i := 49) rfl) rfl
set_option maxRecDepth 100000 in
theorem gt5_36 : Cond.code yX10_putOut cX10_putOut 2 none ∈ GT := tb5 36 rfl rfl
set_option maxRecDepth 100000 in
theorem gt5_41 : Cond.methodLink RX10 216 yX10_meet ∈ GT := tb5 41 rfl rfl
set_option maxRecDepth 100000 in
theorem gt5_43 : Cond.instanceMethod yX10_meet ∈ GT := tb5 43 rfl rfl
set_option maxRecDepth 100000 in
theorem gtp51 : Cond.selects RX10 yX10_meet yX10_meet ∈ GT := tbp (q := (yX10_meet, 32)) (List.mem_of_getElem? (i := 51) rfl) rfl
set_option maxRecDepth 100000 in
theorem gt5_44 : Cond.code yX10_meet cX10_meet 3 (some .int) ∈ GT := tb5 44 rfl rfl
set_option maxRecDepth 100000 in
theorem gt5_37 : Cond.methodLink RX10 213 yX10_become ∈ GT := tb5 37 rfl rfl
set_option maxRecDepth 100000 in
theorem gt5_39 : Cond.instanceMethod yX10_become ∈ GT := tb5 39 rfl rfl
set_option maxRecDepth 100000 in
theorem gtp50 : Cond.selects RX10 yX10_become yX10_become ∈ GT := tbp (q := (yX10_become, 32)) (List.mem_of_getElem? (i := 50) rfl) rfl
set_option maxRecDepth 100000 in
theorem gt5_40 : Cond.code yX10_become cX10_become 1 none ∈ GT := tb5 40 rfl rfl
set_option maxRecDepth 100000 in
theorem gt1_36 : Cond.methodLink RX0 1 objectInit ∈ GT := tb1 36 rfl rfl
set_option maxRecDepth 100000 in
theorem gt1_26 : Cond.instanceMethod objectInit ∈ GT := tb1 26 rfl rfl
set_option maxRecDepth 100000 in
theorem gt1_27 : Cond.code objectInit ⟨#[0xb1]⟩ 1 none ∈ GT := tb1 27 rfl rfl
set_option maxRecDepth 100000 in
theorem gt1_125 : Cond.methodLink RX3 1 objectInit ∈ GT := tb1 125 rfl rfl
set_option maxRecDepth 100000 in
theorem gt1_50 : Cond.methodLink RX5 1 objectInit ∈ GT := tb1 50 rfl rfl
set_option maxRecDepth 100000 in
theorem gt1_44 : Cond.arrayClass .int ∈ GT := tb1 44 rfl rfl
set_option maxRecDepth 100000 in
theorem gt1_63 : Cond.methodLink RX1 1 objectInit ∈ GT := tb1 63 rfl rfl
set_option maxRecDepth 100000 in
theorem gt1_34 : Cond.instanceMethod yX0_init ∈ GT := tb1 34 rfl rfl
set_option maxRecDepth 100000 in
theorem gt1_35 : Cond.code yX0_init cX0_init 1 none ∈ GT := tb1 35 rfl rfl
set_option maxRecDepth 100000 in
theorem gt1_120 : Cond.classLink RX7 7 RX3 ∈ GT := tb1 120 rfl rfl
set_option maxRecDepth 100000 in
theorem gt1_121 : Cond.instantiable RX3 4 ∈ GT := tb1 121 rfl rfl
set_option maxRecDepth 100000 in
theorem gt1_123 : Cond.instanceMethod yX3_init ∈ GT := tb1 123 rfl rfl
set_option maxRecDepth 100000 in
theorem gt1_124 : Cond.code yX3_init cX3_init 1 none ∈ GT := tb1 124 rfl rfl
set_option maxRecDepth 100000 in
theorem gt1_37 : Cond.methodLink RX2 15 yJ7_fill_53178 ∈ GT := tb1 37 rfl rfl
set_option maxRecDepth 100000 in
theorem gt1_38 : Cond.static yJ7_fill_53178 ∈ GT := tb1 38 rfl rfl
set_option maxRecDepth 100000 in
theorem gt1_4 : Cond.initialized RJ7 ∈ GT := tb1 4 rfl rfl
set_option maxRecDepth 100000 in
theorem gt1_39 : Cond.code yJ7_fill_53178 cJ7_fill_53178 4 none ∈ GT := tb1 39 rfl rfl
set_option maxRecDepth 100000 in
theorem gt1_25 : Cond.methodLink RX9 3 objectInit ∈ GT := tb1 25 rfl rfl
set_option maxRecDepth 100000 in
theorem gt1_28 : Cond.classLink RX9 9 RX2 ∈ GT := tb1 28 rfl rfl
set_option maxRecDepth 100000 in
theorem gt1_29 : Cond.instantiable RX2 1 ∈ GT := tb1 29 rfl rfl
set_option maxRecDepth 100000 in
theorem gt1_30 : Cond.methodLink RX9 11 yX2_init ∈ GT := tb1 30 rfl rfl
set_option maxRecDepth 100000 in
theorem gt1_31 : Cond.instanceMethod yX2_init ∈ GT := tb1 31 rfl rfl
set_option maxRecDepth 100000 in
theorem gt1_32 : Cond.code yX2_init cX2_init 1 none ∈ GT := tb1 32 rfl rfl
set_option maxRecDepth 100000 in
theorem gt1_45 : Cond.classLink RX9 16 RX5 ∈ GT := tb1 45 rfl rfl
set_option maxRecDepth 100000 in
theorem gt1_46 : Cond.instantiable RX5 2 ∈ GT := tb1 46 rfl rfl
set_option maxRecDepth 100000 in
theorem gt1_47 : Cond.methodLink RX9 18 yX5_init ∈ GT := tb1 47 rfl rfl
set_option maxRecDepth 100000 in
theorem gt1_48 : Cond.instanceMethod yX5_init ∈ GT := tb1 48 rfl rfl
set_option maxRecDepth 100000 in
theorem gt1_49 : Cond.code yX5_init cX5_init 2 none ∈ GT := tb1 49 rfl rfl
set_option maxRecDepth 100000 in
theorem gt1_58 : Cond.classLink RX9 28 RX1 ∈ GT := tb1 58 rfl rfl
set_option maxRecDepth 100000 in
theorem gt1_59 : Cond.instantiable RX1 4 ∈ GT := tb1 59 rfl rfl
set_option maxRecDepth 100000 in
theorem gt1_61 : Cond.instanceMethod yX1_init ∈ GT := tb1 61 rfl rfl
set_option maxRecDepth 100000 in
theorem gt1_62 : Cond.code yX1_init cX1_init 1 none ∈ GT := tb1 62 rfl rfl
set_option maxRecDepth 100000 in
theorem gt1_80 : Cond.classLink RX9 42 RX0 ∈ GT := tb1 80 rfl rfl
set_option maxRecDepth 100000 in
theorem gt1_82 : Cond.classLink RX9 44 RX8 ∈ GT := tb1 82 rfl rfl
set_option maxRecDepth 100000 in
theorem gt1_83 : Cond.instantiable RX8 1 ∈ GT := tb1 83 rfl rfl
set_option maxRecDepth 100000 in
theorem gt1_84 : Cond.methodLink RX9 46 yX8_init ∈ GT := tb1 84 rfl rfl
set_option maxRecDepth 100000 in
theorem gt1_85 : Cond.instanceMethod yX8_init ∈ GT := tb1 85 rfl rfl
set_option maxRecDepth 100000 in
theorem gt1_86 : Cond.code yX8_init cX8_init 2 none ∈ GT := tb1 86 rfl rfl
set_option maxRecDepth 100000 in
theorem gt1_92 : Cond.classLink RX9 49 RX6 ∈ GT := tb1 92 rfl rfl
set_option maxRecDepth 100000 in
theorem gt1_93 : Cond.instantiable RX6 5 ∈ GT := tb1 93 rfl rfl
set_option maxRecDepth 100000 in
theorem gt1_94 : Cond.methodLink RX9 51 yX6_init ∈ GT := tb1 94 rfl rfl
set_option maxRecDepth 100000 in
theorem gt1_95 : Cond.instanceMethod yX6_init ∈ GT := tb1 95 rfl rfl
set_option maxRecDepth 100000 in
theorem gt1_96 : Cond.code yX6_init cX6_init 3 none ∈ GT := tb1 96 rfl rfl
set_option maxRecDepth 100000 in
theorem gt1_114 : Cond.classLink RX9 54 RX7 ∈ GT := tb1 114 rfl rfl
set_option maxRecDepth 100000 in
theorem gt1_115 : Cond.instantiable RX7 2 ∈ GT := tb1 115 rfl rfl
set_option maxRecDepth 100000 in
theorem gt1_117 : Cond.instanceMethod yX7_init ∈ GT := tb1 117 rfl rfl
set_option maxRecDepth 100000 in
theorem gt1_118 : Cond.code yX7_init cX7_init 1 none ∈ GT := tb1 118 rfl rfl
set_option maxRecDepth 100000 in
theorem gt4_2 : Cond.methodLink RX10 1 objectInit ∈ GT := tb4 2 rfl rfl
set_option maxRecDepth 100000 in
theorem gt1_196 : Cond.methodLink RL 13 yX9_open ∈ GT := tb1 196 rfl rfl
set_option maxRecDepth 100000 in
theorem gt1_197 : Cond.instanceMethod yX9_open ∈ GT := tb1 197 rfl rfl
set_option maxRecDepth 100000 in
theorem gt1_198 : Cond.selects RX9 yX9_open yX9_open ∈ GT := tb1 198 rfl rfl
set_option maxRecDepth 100000 in
theorem gt1_199 : Cond.code yX9_open cX9_open 5 (some .boolean) ∈ GT := tb1 199 rfl rfl
set_option maxRecDepth 100000 in
theorem gt4_100 : Cond.methodLink RL 17 yX10_open ∈ GT := tb4 100 rfl rfl
set_option maxRecDepth 100000 in
theorem gt4_101 : Cond.instanceMethod yX10_open ∈ GT := tb4 101 rfl rfl
set_option maxRecDepth 100000 in
theorem gt4_102 : Cond.selects RX10 yX10_open yX10_open ∈ GT := tb4 102 rfl rfl
set_option maxRecDepth 100000 in
theorem gt4_103 : Cond.code yX10_open cX10_open 5 (some .boolean) ∈ GT := tb4 103 rfl rfl
set_option maxRecDepth 100000 in
theorem gt1_227 : Cond.methodLink RL 18 yX9_map ∈ GT := tb1 227 rfl rfl
set_option maxRecDepth 100000 in
theorem gt1_228 : Cond.instanceMethod yX9_map ∈ GT := tb1 228 rfl rfl
set_option maxRecDepth 100000 in
theorem gt1_229 : Cond.selects RX9 yX9_map yX9_map ∈ GT := tb1 229 rfl rfl
set_option maxRecDepth 100000 in
theorem gt1_230 : Cond.code yX9_map cX9_map 3 (some .boolean) ∈ GT := tb1 230 rfl rfl
set_option maxRecDepth 100000 in
theorem gt4_108 : Cond.methodLink RL 22 yX10_map ∈ GT := tb4 108 rfl rfl
set_option maxRecDepth 100000 in
theorem gt4_109 : Cond.instanceMethod yX10_map ∈ GT := tb4 109 rfl rfl
set_option maxRecDepth 100000 in
theorem gt4_110 : Cond.selects RX10 yX10_map yX10_map ∈ GT := tb4 110 rfl rfl
set_option maxRecDepth 100000 in
theorem gt4_111 : Cond.code yX10_map cX10_map 3 (some .boolean) ∈ GT := tb4 111 rfl rfl
set_option maxRecDepth 100000 in
theorem gt1_236 : Cond.methodLink RL 23 yX9_give ∈ GT := tb1 236 rfl rfl
set_option maxRecDepth 100000 in
theorem gt1_237 : Cond.instanceMethod yX9_give ∈ GT := tb1 237 rfl rfl
set_option maxRecDepth 100000 in
theorem gt1_238 : Cond.selects RX9 yX9_give yX9_give ∈ GT := tb1 238 rfl rfl
set_option maxRecDepth 100000 in
theorem gt1_239 : Cond.code yX9_give cX9_give 2 (some .boolean) ∈ GT := tb1 239 rfl rfl
set_option maxRecDepth 100000 in
theorem gt4_113 : Cond.methodLink RL 27 yX10_give ∈ GT := tb4 113 rfl rfl
set_option maxRecDepth 100000 in
theorem gt4_114 : Cond.instanceMethod yX10_give ∈ GT := tb4 114 rfl rfl
set_option maxRecDepth 100000 in
theorem gt4_115 : Cond.selects RX10 yX10_give yX10_give ∈ GT := tb4 115 rfl rfl
set_option maxRecDepth 100000 in
theorem gt4_116 : Cond.code yX10_give cX10_give 2 (some .boolean) ∈ GT := tb4 116 rfl rfl
set_option maxRecDepth 100000 in
theorem gt2_8 : Cond.methodLink RL 28 yX9_room ∈ GT := tb2 8 rfl rfl
set_option maxRecDepth 100000 in
theorem gt2_9 : Cond.instanceMethod yX9_room ∈ GT := tb2 9 rfl rfl
set_option maxRecDepth 100000 in
theorem gt2_10 : Cond.selects RX9 yX9_room yX9_room ∈ GT := tb2 10 rfl rfl
set_option maxRecDepth 100000 in
theorem gt2_11 : Cond.code yX9_room cX9_room 2 (some .boolean) ∈ GT := tb2 11 rfl rfl
set_option maxRecDepth 100000 in
theorem gt4_117 : Cond.methodLink RL 31 yX10_room ∈ GT := tb4 117 rfl rfl
set_option maxRecDepth 100000 in
theorem gt4_118 : Cond.instanceMethod yX10_room ∈ GT := tb4 118 rfl rfl
set_option maxRecDepth 100000 in
theorem gt4_119 : Cond.selects RX10 yX10_room yX10_room ∈ GT := tb4 119 rfl rfl
set_option maxRecDepth 100000 in
theorem gt4_120 : Cond.code yX10_room cX10_room 2 (some .boolean) ∈ GT := tb4 120 rfl rfl
set_option maxRecDepth 100000 in
theorem gt2_12 : Cond.methodLink RL 32 yX9_code ∈ GT := tb2 12 rfl rfl
set_option maxRecDepth 100000 in
theorem gt2_13 : Cond.instanceMethod yX9_code ∈ GT := tb2 13 rfl rfl
set_option maxRecDepth 100000 in
theorem gt2_14 : Cond.selects RX9 yX9_code yX9_code ∈ GT := tb2 14 rfl rfl
set_option maxRecDepth 100000 in
theorem gt2_15 : Cond.code yX9_code cX9_code 2 (some .int) ∈ GT := tb2 15 rfl rfl
set_option maxRecDepth 100000 in
theorem gt4_165 : Cond.methodLink RL 36 yX10_code ∈ GT := tb4 165 rfl rfl
set_option maxRecDepth 100000 in
theorem gt4_166 : Cond.instanceMethod yX10_code ∈ GT := tb4 166 rfl rfl
set_option maxRecDepth 100000 in
theorem gt4_167 : Cond.selects RX10 yX10_code yX10_code ∈ GT := tb4 167 rfl rfl
set_option maxRecDepth 100000 in
theorem gt4_168 : Cond.code yX10_code cX10_code 5 (some .int) ∈ GT := tb4 168 rfl rfl
set_option maxRecDepth 100000 in
theorem gt3_186 : Cond.methodLink RL 37 yX9_flush ∈ GT := tb3 186 rfl rfl
set_option maxRecDepth 100000 in
theorem gt3_187 : Cond.instanceMethod yX9_flush ∈ GT := tb3 187 rfl rfl
set_option maxRecDepth 100000 in
theorem gt3_188 : Cond.selects RX9 yX9_flush yX9_flush ∈ GT := tb3 188 rfl rfl
set_option maxRecDepth 100000 in
theorem gt3_189 : Cond.code yX9_flush cX9_flush 1 (some .int) ∈ GT := tb3 189 rfl rfl
set_option maxRecDepth 100000 in
theorem gt5_50 : Cond.methodLink RL 41 yX10_flush ∈ GT := tb5 50 rfl rfl
set_option maxRecDepth 100000 in
theorem gt5_51 : Cond.instanceMethod yX10_flush ∈ GT := tb5 51 rfl rfl
set_option maxRecDepth 100000 in
theorem gt5_52 : Cond.selects RX10 yX10_flush yX10_flush ∈ GT := tb5 52 rfl rfl
set_option maxRecDepth 100000 in
theorem gt5_53 : Cond.code yX10_flush cX10_flush 1 (some .int) ∈ GT := tb5 53 rfl rfl
set_option maxRecDepth 100000 in
theorem gt3_200 : Cond.methodLink RL 42 yX9_reset ∈ GT := tb3 200 rfl rfl
set_option maxRecDepth 100000 in
theorem gt3_201 : Cond.instanceMethod yX9_reset ∈ GT := tb3 201 rfl rfl
set_option maxRecDepth 100000 in
theorem gt3_202 : Cond.selects RX9 yX9_reset yX9_reset ∈ GT := tb3 202 rfl rfl
set_option maxRecDepth 100000 in
theorem gt3_203 : Cond.code yX9_reset cX9_reset 1 (some .boolean) ∈ GT := tb3 203 rfl rfl
set_option maxRecDepth 100000 in
theorem gt4_121 : Cond.methodLink RL 46 yX10_reset ∈ GT := tb4 121 rfl rfl
set_option maxRecDepth 100000 in
theorem gt4_122 : Cond.instanceMethod yX10_reset ∈ GT := tb4 122 rfl rfl
set_option maxRecDepth 100000 in
theorem gt4_123 : Cond.selects RX10 yX10_reset yX10_reset ∈ GT := tb4 123 rfl rfl
set_option maxRecDepth 100000 in
theorem gt4_124 : Cond.code yX10_reset cX10_reset 1 (some .boolean) ∈ GT := tb4 124 rfl rfl
set_option maxRecDepth 100000 in
theorem gt3_204 : Cond.methodLink RL 47 yX9_pass ∈ GT := tb3 204 rfl rfl
set_option maxRecDepth 100000 in
theorem gt3_205 : Cond.instanceMethod yX9_pass ∈ GT := tb3 205 rfl rfl
set_option maxRecDepth 100000 in
theorem gt3_206 : Cond.selects RX9 yX9_pass yX9_pass ∈ GT := tb3 206 rfl rfl
set_option maxRecDepth 100000 in
theorem gt3_207 : Cond.code yX9_pass cX9_pass 1 (some .boolean) ∈ GT := tb3 207 rfl rfl
set_option maxRecDepth 100000 in
theorem gt4_153 : Cond.methodLink RL 50 yX10_pass ∈ GT := tb4 153 rfl rfl
set_option maxRecDepth 100000 in
theorem gt4_154 : Cond.instanceMethod yX10_pass ∈ GT := tb4 154 rfl rfl
set_option maxRecDepth 100000 in
theorem gt4_155 : Cond.selects RX10 yX10_pass yX10_pass ∈ GT := tb4 155 rfl rfl
set_option maxRecDepth 100000 in
theorem gt4_156 : Cond.code yX10_pass cX10_pass 1 (some .boolean) ∈ GT := tb4 156 rfl rfl
set_option maxRecDepth 100000 in
theorem gt3_208 : Cond.methodLink RL 51 yX9_fetch ∈ GT := tb3 208 rfl rfl
set_option maxRecDepth 100000 in
theorem gt3_209 : Cond.instanceMethod yX9_fetch ∈ GT := tb3 209 rfl rfl
set_option maxRecDepth 100000 in
theorem gt3_210 : Cond.selects RX9 yX9_fetch yX9_fetch ∈ GT := tb3 210 rfl rfl
set_option maxRecDepth 100000 in
theorem gt3_211 : Cond.code yX9_fetch cX9_fetch 2 (some .int) ∈ GT := tb3 211 rfl rfl
set_option maxRecDepth 100000 in
theorem gt4_125 : Cond.methodLink RL 54 yX10_fetch ∈ GT := tb4 125 rfl rfl
set_option maxRecDepth 100000 in
theorem gt4_126 : Cond.instanceMethod yX10_fetch ∈ GT := tb4 126 rfl rfl
set_option maxRecDepth 100000 in
theorem gt4_127 : Cond.selects RX10 yX10_fetch yX10_fetch ∈ GT := tb4 127 rfl rfl
set_option maxRecDepth 100000 in
theorem gt4_128 : Cond.code yX10_fetch cX10_fetch 3 (some .int) ∈ GT := tb4 128 rfl rfl
set_option maxRecDepth 100000 in
theorem gt3_213 : Cond.methodLink RL 55 yX9_state ∈ GT := tb3 213 rfl rfl
set_option maxRecDepth 100000 in
theorem gt3_214 : Cond.instanceMethod yX9_state ∈ GT := tb3 214 rfl rfl
set_option maxRecDepth 100000 in
theorem gt3_215 : Cond.selects RX9 yX9_state yX9_state ∈ GT := tb3 215 rfl rfl
set_option maxRecDepth 100000 in
theorem gt3_216 : Cond.code yX9_state cX9_state 1 (some .int) ∈ GT := tb3 216 rfl rfl
set_option maxRecDepth 100000 in
theorem gt4_129 : Cond.methodLink RL 58 yX10_state ∈ GT := tb4 129 rfl rfl
set_option maxRecDepth 100000 in
theorem gt4_130 : Cond.instanceMethod yX10_state ∈ GT := tb4 130 rfl rfl
set_option maxRecDepth 100000 in
theorem gt4_131 : Cond.selects RX10 yX10_state yX10_state ∈ GT := tb4 131 rfl rfl
set_option maxRecDepth 100000 in
theorem gt4_132 : Cond.code yX10_state cX10_state 1 (some .int) ∈ GT := tb4 132 rfl rfl
set_option maxRecDepth 100000 in
theorem gt3_217 : Cond.methodLink RL 59 yX9_waiting ∈ GT := tb3 217 rfl rfl
set_option maxRecDepth 100000 in
theorem gt3_218 : Cond.instanceMethod yX9_waiting ∈ GT := tb3 218 rfl rfl
set_option maxRecDepth 100000 in
theorem gt3_219 : Cond.selects RX9 yX9_waiting yX9_waiting ∈ GT := tb3 219 rfl rfl
set_option maxRecDepth 100000 in
theorem gt3_220 : Cond.code yX9_waiting cX9_waiting 1 (some .int) ∈ GT := tb3 220 rfl rfl
set_option maxRecDepth 100000 in
theorem gt4_133 : Cond.methodLink RL 62 yX10_waiting ∈ GT := tb4 133 rfl rfl
set_option maxRecDepth 100000 in
theorem gt4_134 : Cond.instanceMethod yX10_waiting ∈ GT := tb4 134 rfl rfl
set_option maxRecDepth 100000 in
theorem gt4_135 : Cond.selects RX10 yX10_waiting yX10_waiting ∈ GT := tb4 135 rfl rfl
set_option maxRecDepth 100000 in
theorem gt4_136 : Cond.code yX10_waiting cX10_waiting 1 (some .int) ∈ GT := tb4 136 rfl rfl
set_option maxRecDepth 100000 in
theorem gt3_221 : Cond.methodLink RL 63 yX9_ready ∈ GT := tb3 221 rfl rfl
set_option maxRecDepth 100000 in
theorem gt3_222 : Cond.instanceMethod yX9_ready ∈ GT := tb3 222 rfl rfl
set_option maxRecDepth 100000 in
theorem gt3_223 : Cond.selects RX9 yX9_ready yX9_ready ∈ GT := tb3 223 rfl rfl
set_option maxRecDepth 100000 in
theorem gt3_224 : Cond.code yX9_ready cX9_ready 1 (some .int) ∈ GT := tb3 224 rfl rfl
set_option maxRecDepth 100000 in
theorem gt4_137 : Cond.methodLink RL 66 yX10_ready ∈ GT := tb4 137 rfl rfl
set_option maxRecDepth 100000 in
theorem gt4_138 : Cond.instanceMethod yX10_ready ∈ GT := tb4 138 rfl rfl
set_option maxRecDepth 100000 in
theorem gt4_139 : Cond.selects RX10 yX10_ready yX10_ready ∈ GT := tb4 139 rfl rfl
set_option maxRecDepth 100000 in
theorem gt4_140 : Cond.code yX10_ready cX10_ready 1 (some .int) ∈ GT := tb4 140 rfl rfl
set_option maxRecDepth 100000 in
theorem gt3_225 : Cond.methodLink RL 67 yX9_taken ∈ GT := tb3 225 rfl rfl
set_option maxRecDepth 100000 in
theorem gt3_226 : Cond.instanceMethod yX9_taken ∈ GT := tb3 226 rfl rfl
set_option maxRecDepth 100000 in
theorem gt3_227 : Cond.selects RX9 yX9_taken yX9_taken ∈ GT := tb3 227 rfl rfl
set_option maxRecDepth 100000 in
theorem gt3_228 : Cond.code yX9_taken cX9_taken 1 (some .int) ∈ GT := tb3 228 rfl rfl
set_option maxRecDepth 100000 in
theorem gt4_141 : Cond.methodLink RL 70 yX10_taken ∈ GT := tb4 141 rfl rfl
set_option maxRecDepth 100000 in
theorem gt4_142 : Cond.instanceMethod yX10_taken ∈ GT := tb4 142 rfl rfl
set_option maxRecDepth 100000 in
theorem gt4_143 : Cond.selects RX10 yX10_taken yX10_taken ∈ GT := tb4 143 rfl rfl
set_option maxRecDepth 100000 in
theorem gt4_144 : Cond.code yX10_taken cX10_taken 1 (some .int) ∈ GT := tb4 144 rfl rfl
set_option maxRecDepth 100000 in
theorem gt3_229 : Cond.methodLink RL 71 yX9_put ∈ GT := tb3 229 rfl rfl
set_option maxRecDepth 100000 in
theorem gt3_230 : Cond.instanceMethod yX9_put ∈ GT := tb3 230 rfl rfl
set_option maxRecDepth 100000 in
theorem gt3_231 : Cond.selects RX9 yX9_put yX9_put ∈ GT := tb3 231 rfl rfl
set_option maxRecDepth 100000 in
theorem gt3_232 : Cond.code yX9_put cX9_put 1 (some .int) ∈ GT := tb3 232 rfl rfl
set_option maxRecDepth 100000 in
theorem gt4_145 : Cond.methodLink RL 74 yX10_put ∈ GT := tb4 145 rfl rfl
set_option maxRecDepth 100000 in
theorem gt4_146 : Cond.instanceMethod yX10_put ∈ GT := tb4 146 rfl rfl
set_option maxRecDepth 100000 in
theorem gt4_147 : Cond.selects RX10 yX10_put yX10_put ∈ GT := tb4 147 rfl rfl
set_option maxRecDepth 100000 in
theorem gt4_148 : Cond.code yX10_put cX10_put 1 (some .int) ∈ GT := tb4 148 rfl rfl
set_option maxRecDepth 100000 in
theorem gt3_233 : Cond.methodLink RL 75 yX9_faults ∈ GT := tb3 233 rfl rfl
set_option maxRecDepth 100000 in
theorem gt3_234 : Cond.instanceMethod yX9_faults ∈ GT := tb3 234 rfl rfl
set_option maxRecDepth 100000 in
theorem gt3_235 : Cond.selects RX9 yX9_faults yX9_faults ∈ GT := tb3 235 rfl rfl
set_option maxRecDepth 100000 in
theorem gt3_236 : Cond.code yX9_faults cX9_faults 1 (some .int) ∈ GT := tb3 236 rfl rfl
set_option maxRecDepth 100000 in
theorem gt4_149 : Cond.methodLink RL 78 yX10_faults ∈ GT := tb4 149 rfl rfl
set_option maxRecDepth 100000 in
theorem gt4_150 : Cond.instanceMethod yX10_faults ∈ GT := tb4 150 rfl rfl
set_option maxRecDepth 100000 in
theorem gt4_151 : Cond.selects RX10 yX10_faults yX10_faults ∈ GT := tb4 151 rfl rfl
set_option maxRecDepth 100000 in
theorem gt4_152 : Cond.code yX10_faults cX10_faults 1 (some .int) ∈ GT := tb4 152 rfl rfl
set_option maxRecDepth 100000 in
theorem gt1_21 : Cond.instantiable RX9 15 ∈ GT := tb1 21 rfl rfl
set_option maxRecDepth 100000 in
theorem gt3_238 : Cond.instantiable RX10 32 ∈ GT := tb3 238 rfl rfl
set_option maxRecDepth 100000 in
theorem gt1_20 : Cond.classLink RL 7 RX9 ∈ GT := tb1 20 rfl rfl
set_option maxRecDepth 100000 in
theorem gt1_22 : Cond.methodLink RL 9 yX9_init ∈ GT := tb1 22 rfl rfl
set_option maxRecDepth 100000 in
theorem gt1_23 : Cond.instanceMethod yX9_init ∈ GT := tb1 23 rfl rfl
set_option maxRecDepth 100000 in
theorem gt1_24 : Cond.code yX9_init cX9_init 1 none ∈ GT := tb1 24 rfl rfl
set_option maxRecDepth 100000 in
theorem gt3_237 : Cond.classLink RL 10 RX10 ∈ GT := tb3 237 rfl rfl
set_option maxRecDepth 100000 in
theorem gt3_239 : Cond.methodLink RL 12 yX10_init ∈ GT := tb3 239 rfl rfl
set_option maxRecDepth 100000 in
theorem gt4_0 : Cond.instanceMethod yX10_init ∈ GT := tb4 0 rfl rfl
set_option maxRecDepth 100000 in
theorem gt4_1 : Cond.code yX10_init cX10_init 2 none ∈ GT := tb4 1 rfl rfl
set_option maxRecDepth 100000 in
theorem gLX1_0 : u_lay RX1 TX1 0 ∈ GT := tb1 71 rfl rfl
set_option maxRecDepth 100000 in
theorem gLX1_1 : u_lay RX1 TX1 1 ∈ GT := tb1 73 rfl rfl
set_option maxRecDepth 100000 in
theorem gLX1_2 : u_lay RX1 TX1 2 ∈ GT := tb1 75 rfl rfl
set_option maxRecDepth 100000 in
theorem gLX1_3 : u_lay RX1 TX1 3 ∈ GT := tb1 77 rfl rfl
theorem inX1 : ∀ x ∈ u_ws RX1 TX1 4, x ∈ GT := by
  intro x hx
  obtain ⟨k, hk, rfl⟩ := List.mem_map.mp hx
  have hk := List.mem_range.mp hk
  match k, hk with
  | 0, _ => exact gLX1_0
  | 1, _ => exact gLX1_1
  | 2, _ => exact gLX1_2
  | 3, _ => exact gLX1_3
  | k + 4, hk => exact absurd hk (by omega)
set_option maxRecDepth 100000 in
theorem gLX2_0 : u_lay RX2 TX2 0 ∈ GT := tb1 41 rfl rfl
theorem inX2 : ∀ x ∈ u_ws RX2 TX2 1, x ∈ GT := by
  intro x hx
  obtain ⟨k, hk, rfl⟩ := List.mem_map.mp hx
  have hk := List.mem_range.mp hk
  match k, hk with
  | 0, _ => exact gLX2_0
  | k + 1, hk => exact absurd hk (by omega)
set_option maxRecDepth 100000 in
theorem gLX3_0 : u_lay RX3 TX3 0 ∈ GT := tb1 134 rfl rfl
set_option maxRecDepth 100000 in
theorem gLX3_1 : u_lay RX3 TX3 1 ∈ GT := tb1 136 rfl rfl
set_option maxRecDepth 100000 in
theorem gLX3_2 : u_lay RX3 TX3 2 ∈ GT := tb1 138 rfl rfl
set_option maxRecDepth 100000 in
theorem gLX3_3 : u_lay RX3 TX3 3 ∈ GT := tb1 140 rfl rfl
theorem inX3 : ∀ x ∈ u_ws RX3 TX3 4, x ∈ GT := by
  intro x hx
  obtain ⟨k, hk, rfl⟩ := List.mem_map.mp hx
  have hk := List.mem_range.mp hk
  match k, hk with
  | 0, _ => exact gLX3_0
  | 1, _ => exact gLX3_1
  | 2, _ => exact gLX3_2
  | 3, _ => exact gLX3_3
  | k + 4, hk => exact absurd hk (by omega)
set_option maxRecDepth 100000 in
theorem gLX5_0 : u_lay RX5 TX5 0 ∈ GT := tb1 53 rfl rfl
set_option maxRecDepth 100000 in
theorem gLX5_1 : u_lay RX5 TX5 1 ∈ GT := tb1 55 rfl rfl
theorem inX5 : ∀ x ∈ u_ws RX5 TX5 2, x ∈ GT := by
  intro x hx
  obtain ⟨k, hk, rfl⟩ := List.mem_map.mp hx
  have hk := List.mem_range.mp hk
  match k, hk with
  | 0, _ => exact gLX5_0
  | 1, _ => exact gLX5_1
  | k + 2, hk => exact absurd hk (by omega)
set_option maxRecDepth 100000 in
theorem gLX6_0 : u_lay RX6 TX6 0 ∈ GT := tb1 103 rfl rfl
set_option maxRecDepth 100000 in
theorem gLX6_1 : u_lay RX6 TX6 1 ∈ GT := tb1 105 rfl rfl
set_option maxRecDepth 100000 in
theorem gLX6_2 : u_lay RX6 TX6 2 ∈ GT := tb1 107 rfl rfl
set_option maxRecDepth 100000 in
theorem gLX6_3 : u_lay RX6 TX6 3 ∈ GT := tb1 109 rfl rfl
set_option maxRecDepth 100000 in
theorem gLX6_4 : u_lay RX6 TX6 4 ∈ GT := tb1 111 rfl rfl
theorem inX6 : ∀ x ∈ u_ws RX6 TX6 5, x ∈ GT := by
  intro x hx
  obtain ⟨k, hk, rfl⟩ := List.mem_map.mp hx
  have hk := List.mem_range.mp hk
  match k, hk with
  | 0, _ => exact gLX6_0
  | 1, _ => exact gLX6_1
  | 2, _ => exact gLX6_2
  | 3, _ => exact gLX6_3
  | 4, _ => exact gLX6_4
  | k + 5, hk => exact absurd hk (by omega)
set_option maxRecDepth 100000 in
theorem gLX7_0 : u_lay RX7 TX7 0 ∈ GT := tb1 145 rfl rfl
set_option maxRecDepth 100000 in
theorem gLX7_1 : u_lay RX7 TX7 1 ∈ GT := tb1 147 rfl rfl
theorem inX7 : ∀ x ∈ u_ws RX7 TX7 2, x ∈ GT := by
  intro x hx
  obtain ⟨k, hk, rfl⟩ := List.mem_map.mp hx
  have hk := List.mem_range.mp hk
  match k, hk with
  | 0, _ => exact gLX7_0
  | 1, _ => exact gLX7_1
  | k + 2, hk => exact absurd hk (by omega)
set_option maxRecDepth 100000 in
theorem gLX8_0 : u_lay RX8 TX8 0 ∈ GT := tb1 89 rfl rfl
theorem inX8 : ∀ x ∈ u_ws RX8 TX8 1, x ∈ GT := by
  intro x hx
  obtain ⟨k, hk, rfl⟩ := List.mem_map.mp hx
  have hk := List.mem_range.mp hk
  match k, hk with
  | 0, _ => exact gLX8_0
  | k + 1, hk => exact absurd hk (by omega)
set_option maxRecDepth 100000 in
theorem gLX9_0 : u_lay RX9 TX9 0 ∈ GT := tb1 165 rfl rfl
set_option maxRecDepth 100000 in
theorem gLX9_1 : u_lay RX9 TX9 1 ∈ GT := tb1 167 rfl rfl
set_option maxRecDepth 100000 in
theorem gLX9_2 : u_lay RX9 TX9 2 ∈ GT := tb1 169 rfl rfl
set_option maxRecDepth 100000 in
theorem gLX9_3 : u_lay RX9 TX9 3 ∈ GT := tb1 171 rfl rfl
set_option maxRecDepth 100000 in
theorem gLX9_4 : u_lay RX9 TX9 4 ∈ GT := tb1 173 rfl rfl
set_option maxRecDepth 100000 in
theorem gLX9_5 : u_lay RX9 TX9 5 ∈ GT := tb1 175 rfl rfl
set_option maxRecDepth 100000 in
theorem gLX9_6 : u_lay RX9 TX9 6 ∈ GT := tb1 177 rfl rfl
set_option maxRecDepth 100000 in
theorem gLX9_7 : u_lay RX9 TX9 7 ∈ GT := tb1 179 rfl rfl
set_option maxRecDepth 100000 in
theorem gLX9_8 : u_lay RX9 TX9 8 ∈ GT := tb1 181 rfl rfl
set_option maxRecDepth 100000 in
theorem gLX9_9 : u_lay RX9 TX9 9 ∈ GT := tb1 183 rfl rfl
set_option maxRecDepth 100000 in
theorem gLX9_10 : u_lay RX9 TX9 10 ∈ GT := tb1 185 rfl rfl
set_option maxRecDepth 100000 in
theorem gLX9_11 : u_lay RX9 TX9 11 ∈ GT := tb1 187 rfl rfl
set_option maxRecDepth 100000 in
theorem gLX9_12 : u_lay RX9 TX9 12 ∈ GT := tb1 189 rfl rfl
set_option maxRecDepth 100000 in
theorem gLX9_13 : u_lay RX9 TX9 13 ∈ GT := tb1 191 rfl rfl
set_option maxRecDepth 100000 in
theorem gLX9_14 : u_lay RX9 TX9 14 ∈ GT := tb1 193 rfl rfl
theorem inX9 : ∀ x ∈ u_ws RX9 TX9 15, x ∈ GT := by
  intro x hx
  obtain ⟨k, hk, rfl⟩ := List.mem_map.mp hx
  have hk := List.mem_range.mp hk
  match k, hk with
  | 0, _ => exact gLX9_0
  | 1, _ => exact gLX9_1
  | 2, _ => exact gLX9_2
  | 3, _ => exact gLX9_3
  | 4, _ => exact gLX9_4
  | 5, _ => exact gLX9_5
  | 6, _ => exact gLX9_6
  | 7, _ => exact gLX9_7
  | 8, _ => exact gLX9_8
  | 9, _ => exact gLX9_9
  | 10, _ => exact gLX9_10
  | 11, _ => exact gLX9_11
  | 12, _ => exact gLX9_12
  | 13, _ => exact gLX9_13
  | 14, _ => exact gLX9_14
  | k + 15, hk => exact absurd hk (by omega)
set_option maxRecDepth 100000 in
theorem gLX10_0 : u_lay RX10 TX10 0 ∈ GT := tb4 35 rfl rfl
set_option maxRecDepth 100000 in
theorem gLX10_1 : u_lay RX10 TX10 1 ∈ GT := tb4 37 rfl rfl
set_option maxRecDepth 100000 in
theorem gLX10_2 : u_lay RX10 TX10 2 ∈ GT := tb4 39 rfl rfl
set_option maxRecDepth 100000 in
theorem gLX10_3 : u_lay RX10 TX10 3 ∈ GT := tb4 41 rfl rfl
set_option maxRecDepth 100000 in
theorem gLX10_4 : u_lay RX10 TX10 4 ∈ GT := tb4 43 rfl rfl
set_option maxRecDepth 100000 in
theorem gLX10_5 : u_lay RX10 TX10 5 ∈ GT := tb4 45 rfl rfl
set_option maxRecDepth 100000 in
theorem gLX10_6 : u_lay RX10 TX10 6 ∈ GT := tb4 47 rfl rfl
set_option maxRecDepth 100000 in
theorem gLX10_7 : u_lay RX10 TX10 7 ∈ GT := tb4 49 rfl rfl
set_option maxRecDepth 100000 in
theorem gLX10_8 : u_lay RX10 TX10 8 ∈ GT := tb4 51 rfl rfl
set_option maxRecDepth 100000 in
theorem gLX10_9 : u_lay RX10 TX10 9 ∈ GT := tb4 53 rfl rfl
set_option maxRecDepth 100000 in
theorem gLX10_10 : u_lay RX10 TX10 10 ∈ GT := tb4 55 rfl rfl
set_option maxRecDepth 100000 in
theorem gLX10_11 : u_lay RX10 TX10 11 ∈ GT := tb4 57 rfl rfl
set_option maxRecDepth 100000 in
theorem gLX10_12 : u_lay RX10 TX10 12 ∈ GT := tb4 59 rfl rfl
set_option maxRecDepth 100000 in
theorem gLX10_13 : u_lay RX10 TX10 13 ∈ GT := tb4 61 rfl rfl
set_option maxRecDepth 100000 in
theorem gLX10_14 : u_lay RX10 TX10 14 ∈ GT := tb4 63 rfl rfl
set_option maxRecDepth 100000 in
theorem gLX10_15 : u_lay RX10 TX10 15 ∈ GT := tb4 65 rfl rfl
set_option maxRecDepth 100000 in
theorem gLX10_16 : u_lay RX10 TX10 16 ∈ GT := tb4 67 rfl rfl
set_option maxRecDepth 100000 in
theorem gLX10_17 : u_lay RX10 TX10 17 ∈ GT := tb4 69 rfl rfl
set_option maxRecDepth 100000 in
theorem gLX10_18 : u_lay RX10 TX10 18 ∈ GT := tb4 71 rfl rfl
set_option maxRecDepth 100000 in
theorem gLX10_19 : u_lay RX10 TX10 19 ∈ GT := tb4 73 rfl rfl
set_option maxRecDepth 100000 in
theorem gLX10_20 : u_lay RX10 TX10 20 ∈ GT := tb4 75 rfl rfl
set_option maxRecDepth 100000 in
theorem gLX10_21 : u_lay RX10 TX10 21 ∈ GT := tb4 77 rfl rfl
set_option maxRecDepth 100000 in
theorem gLX10_22 : u_lay RX10 TX10 22 ∈ GT := tb4 79 rfl rfl
set_option maxRecDepth 100000 in
theorem gLX10_23 : u_lay RX10 TX10 23 ∈ GT := tb4 81 rfl rfl
set_option maxRecDepth 100000 in
theorem gLX10_24 : u_lay RX10 TX10 24 ∈ GT := tb4 83 rfl rfl
set_option maxRecDepth 100000 in
theorem gLX10_25 : u_lay RX10 TX10 25 ∈ GT := tb4 85 rfl rfl
set_option maxRecDepth 100000 in
theorem gLX10_26 : u_lay RX10 TX10 26 ∈ GT := tb4 87 rfl rfl
set_option maxRecDepth 100000 in
theorem gLX10_27 : u_lay RX10 TX10 27 ∈ GT := tb4 89 rfl rfl
set_option maxRecDepth 100000 in
theorem gLX10_28 : u_lay RX10 TX10 28 ∈ GT := tb4 91 rfl rfl
set_option maxRecDepth 100000 in
theorem gLX10_29 : u_lay RX10 TX10 29 ∈ GT := tb4 93 rfl rfl
set_option maxRecDepth 100000 in
theorem gLX10_30 : u_lay RX10 TX10 30 ∈ GT := tb4 95 rfl rfl
set_option maxRecDepth 100000 in
theorem gLX10_31 : u_lay RX10 TX10 31 ∈ GT := tb4 97 rfl rfl
theorem inX10 : ∀ x ∈ u_ws RX10 TX10 32, x ∈ GT := by
  intro x hx
  obtain ⟨k, hk, rfl⟩ := List.mem_map.mp hx
  have hk := List.mem_range.mp hk
  match k, hk with
  | 0, _ => exact gLX10_0
  | 1, _ => exact gLX10_1
  | 2, _ => exact gLX10_2
  | 3, _ => exact gLX10_3
  | 4, _ => exact gLX10_4
  | 5, _ => exact gLX10_5
  | 6, _ => exact gLX10_6
  | 7, _ => exact gLX10_7
  | 8, _ => exact gLX10_8
  | 9, _ => exact gLX10_9
  | 10, _ => exact gLX10_10
  | 11, _ => exact gLX10_11
  | 12, _ => exact gLX10_12
  | 13, _ => exact gLX10_13
  | 14, _ => exact gLX10_14
  | 15, _ => exact gLX10_15
  | 16, _ => exact gLX10_16
  | 17, _ => exact gLX10_17
  | 18, _ => exact gLX10_18
  | 19, _ => exact gLX10_19
  | 20, _ => exact gLX10_20
  | 21, _ => exact gLX10_21
  | 22, _ => exact gLX10_22
  | 23, _ => exact gLX10_23
  | 24, _ => exact gLX10_24
  | 25, _ => exact gLX10_25
  | 26, _ => exact gLX10_26
  | 27, _ => exact gLX10_27
  | 28, _ => exact gLX10_28
  | 29, _ => exact gLX10_29
  | 30, _ => exact gLX10_30
  | 31, _ => exact gLX10_31
  | k + 32, hk => exact absurd hk (by omega)
