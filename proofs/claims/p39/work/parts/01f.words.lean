/-- the tables' words that stay true  -/
def LW : List Cond := lw_tbl.filter goodWord
theorem LW_of {w : Cond} (h : w ∈ lw_tbl) (hg : goodWord w = true) : w ∈ LW := List.mem_filter.mpr ⟨h, hg⟩
theorem LW_tbl {w : Cond} (h : w ∈ LW) : w ∈ lw_tbl := (List.mem_filter.mp h).1
theorem LW_good : GoodIn LW LW := fun w h => ⟨h, good_of_word (List.mem_filter.mp h).2⟩
abbrev wL (y : MethodName) (c : ByteArray) (n : Nat) (r : Option FieldType) : List Cond := Cond.code y c n r :: LW
theorem wsX00_tbl : ∀ w ∈ wsX00, w ∈ lw_tbl := fun w h => (goodIn_of (big := lw_tbl) wsX00 (by decide +kernel) w h).1
theorem in_wsX00 : ∀ w ∈ wsX00, w ∈ LW := fun w h => LW_of (wsX00_tbl w h) (List.all_eq_true.mp (show wsX00.all goodWord = true by decide +kernel) w h)
theorem wsX10_tbl : ∀ w ∈ wsX10, w ∈ lw_tbl := fun w h => (goodIn_of (big := lw_tbl) wsX10 (by decide +kernel) w h).1
theorem in_wsX10 : ∀ w ∈ wsX10, w ∈ LW := fun w h => LW_of (wsX10_tbl w h) (List.all_eq_true.mp (show wsX10.all goodWord = true by decide +kernel) w h)
theorem wsX20_tbl : ∀ w ∈ wsX20, w ∈ lw_tbl := fun w h => (goodIn_of (big := lw_tbl) wsX20 (by decide +kernel) w h).1
theorem in_wsX20 : ∀ w ∈ wsX20, w ∈ LW := fun w h => LW_of (wsX20_tbl w h) (List.all_eq_true.mp (show wsX20.all goodWord = true by decide +kernel) w h)
theorem q1 : Cond.selects RX0 yX0_letFlow yX0_letFlow ∈ LW := LW_of (List.mem_of_getElem? (i := 1) (by decide +kernel)) rfl
theorem q2 : Cond.selects RX0 yX0_countWetHours yX0_countWetHours ∈ LW := LW_of (List.mem_of_getElem? (i := 2) (by decide +kernel)) rfl
theorem q3 : Cond.selects RX1 yX1_requireField yX1_requireField ∈ LW := LW_of (List.mem_of_getElem? (i := 3) (by decide +kernel)) rfl
theorem q4 : Cond.selects RX1 yX1_requireDrain yX1_requireDrain ∈ LW := LW_of (List.mem_of_getElem? (i := 4) (by decide +kernel)) rfl
theorem q5 : Cond.selects RX1 yX1_mixFields yX1_mixFields ∈ LW := LW_of (List.mem_of_getElem? (i := 5) (by decide +kernel)) rfl
theorem q6 : Cond.selects RX1 yX1_mixDrains yX1_mixDrains ∈ LW := LW_of (List.mem_of_getElem? (i := 6) (by decide +kernel)) rfl
theorem q7 : Cond.selects RX1 yX1_addDrain yX1_addDrain ∈ LW := LW_of (List.mem_of_getElem? (i := 7) (by decide +kernel)) rfl
theorem q8 : Cond.initialized RL ∈ LW := LW_of (List.mem_of_getElem? (i := 8) (by decide +kernel)) rfl
theorem q9 : Cond.initialized RX1 ∈ LW := LW_of (List.mem_of_getElem? (i := 9) (by decide +kernel)) rfl
theorem q10 : Cond.initialized RX0 ∈ LW := LW_of (List.mem_of_getElem? (i := 10) (by decide +kernel)) rfl
theorem q11 : Cond.initialized RX2 ∈ LW := LW_of (List.mem_of_getElem? (i := 11) (by decide +kernel)) rfl
theorem q12 : Cond.initialized "java/lang/Throwable" ∈ LW := LW_of (List.mem_of_getElem? (i := 12) (by decide +kernel)) rfl
theorem q13 : Cond.initialized "java/lang/Exception" ∈ LW := LW_of (List.mem_of_getElem? (i := 13) (by decide +kernel)) rfl
theorem q14 : Cond.initialized "java/lang/RuntimeException" ∈ LW := LW_of (List.mem_of_getElem? (i := 14) (by decide +kernel)) rfl
theorem q15 : Cond.initialized "java/lang/IllegalArgumentException" ∈ LW := LW_of (List.mem_of_getElem? (i := 15) (by decide +kernel)) rfl
theorem q16 : Cond.initialized "java/lang/IllegalStateException" ∈ LW := LW_of (List.mem_of_getElem? (i := 16) (by decide +kernel)) rfl
theorem q17 : Cond.initialized "java/lang/IndexOutOfBoundsException" ∈ LW := LW_of (List.mem_of_getElem? (i := 17) (by decide +kernel)) rfl
theorem q18 : Cond.initialized "java/lang/Math" ∈ LW := LW_of (List.mem_of_getElem? (i := 18) (by decide +kernel)) rfl
theorem q19 : Cond.initialized RJ6 ∈ LW := LW_of (List.mem_of_getElem? (i := 19) (by decide +kernel)) rfl
theorem q20 : Cond.classLink RL 29 RX1 ∈ LW := LW_of (List.mem_of_getElem? (i := 20) (by decide +kernel)) rfl
theorem q21 : Cond.instantiable RX1 2 ∈ LW := LW_of (List.mem_of_getElem? (i := 21) (by decide +kernel)) rfl
theorem q22 : Cond.methodLink RL 69 yX1_init ∈ LW := LW_of (List.mem_of_getElem? (i := 22) (by decide +kernel)) rfl
theorem q23 : Cond.instanceMethod yX1_init ∈ LW := LW_of (List.mem_of_getElem? (i := 23) (by decide +kernel)) rfl
theorem q24 : Cond.code yX1_init cX1_init 1 none ∈ LW := LW_of (List.mem_of_getElem? (i := 24) (by decide +kernel)) rfl
theorem q25 : Cond.methodLink RX1 1 objectInit ∈ LW := LW_of (List.mem_of_getElem? (i := 25) (by decide +kernel)) rfl
theorem q26 : Cond.instanceMethod objectInit ∈ LW := LW_of (List.mem_of_getElem? (i := 26) (by decide +kernel)) rfl
theorem q27 : Cond.code objectInit ⟨#[0xb1]⟩ 1 none ∈ LW := LW_of (List.mem_of_getElem? (i := 27) (by decide +kernel)) rfl
theorem q28 : Cond.classLink RX1 7 RX0 ∈ LW := LW_of (List.mem_of_getElem? (i := 28) (by decide +kernel)) rfl
theorem q29 : Cond.instantiable RX0 16 ∈ LW := LW_of (List.mem_of_getElem? (i := 29) (by decide +kernel)) rfl
theorem q31 : Cond.instanceMethod yX0_init ∈ LW := LW_of (List.mem_of_getElem? (i := 31) (by decide +kernel)) rfl
theorem q32 : Cond.code yX0_init cX0_init 1 none ∈ LW := LW_of (List.mem_of_getElem? (i := 32) (by decide +kernel)) rfl
theorem q33 : Cond.methodLink RX0 3 objectInit ∈ LW := LW_of (List.mem_of_getElem? (i := 33) (by decide +kernel)) rfl
theorem q34 : Cond.fieldLink RX0 9 "MarshDrains$Marsh" "floors" "[I" ∈ LW := LW_of (List.mem_of_getElem? (i := 34) (by decide +kernel)) rfl
theorem q35 : Cond.fieldLink RX0 15 "MarshDrains$Marsh" "worths" "[I" ∈ LW := LW_of (List.mem_of_getElem? (i := 35) (by decide +kernel)) rfl
theorem q36 : Cond.fieldLink RX0 18 "MarshDrains$Marsh" "waters" "[I" ∈ LW := LW_of (List.mem_of_getElem? (i := 36) (by decide +kernel)) rfl
theorem q38 : Cond.fieldLink RX0 21 "MarshDrains$Marsh" "wetHours" "[I" ∈ LW := LW_of (List.mem_of_getElem? (i := 38) (by decide +kernel)) rfl
theorem q40 : Cond.fieldLink RX0 24 "MarshDrains$Marsh" "ruined" "[Z" ∈ LW := LW_of (List.mem_of_getElem? (i := 40) (by decide +kernel)) rfl
theorem q42 : Cond.fieldLink RX0 28 "MarshDrains$Marsh" "froms" "[I" ∈ LW := LW_of (List.mem_of_getElem? (i := 42) (by decide +kernel)) rfl
theorem q44 : Cond.fieldLink RX0 31 "MarshDrains$Marsh" "tos" "[I" ∈ LW := LW_of (List.mem_of_getElem? (i := 44) (by decide +kernel)) rfl
theorem q46 : Cond.fieldLink RX0 34 "MarshDrains$Marsh" "carries" "[I" ∈ LW := LW_of (List.mem_of_getElem? (i := 46) (by decide +kernel)) rfl
theorem q47 : Cond.fieldLink RX0 37 "MarshDrains$Marsh" "carried" "[I" ∈ LW := LW_of (List.mem_of_getElem? (i := 47) (by decide +kernel)) rfl
theorem q49 : Cond.fieldLink RX0 40 "MarshDrains$Marsh" "pumps" "[Z" ∈ LW := LW_of (List.mem_of_getElem? (i := 49) (by decide +kernel)) rfl
theorem q51 : Cond.fieldLink RX0 43 "MarshDrains$Marsh" "opens" "[Z" ∈ LW := LW_of (List.mem_of_getElem? (i := 51) (by decide +kernel)) rfl
theorem q53 : Cond.fieldLink RX0 46 "MarshDrains$Marsh" "fieldCount" "I" ∈ LW := LW_of (List.mem_of_getElem? (i := 53) (by decide +kernel)) rfl
theorem q55 : Cond.fieldLink RX0 50 "MarshDrains$Marsh" "drainCount" "I" ∈ LW := LW_of (List.mem_of_getElem? (i := 55) (by decide +kernel)) rfl
theorem q58 : Cond.fieldLink RX0 63 "MarshDrains$Marsh" "rainfall" "I" ∈ LW := LW_of (List.mem_of_getElem? (i := 58) (by decide +kernel)) rfl
theorem q60 : Cond.fieldLink RX0 83 "MarshDrains$Marsh" "toSea" "I" ∈ LW := LW_of (List.mem_of_getElem? (i := 60) (by decide +kernel)) rfl
theorem q62 : Cond.fieldLink RX0 77 "MarshDrains$Marsh" "clock" "I" ∈ LW := LW_of (List.mem_of_getElem? (i := 62) (by decide +kernel)) rfl
theorem q96 : Cond.arrayClass .int ∈ LW := LW_of (List.mem_of_getElem? (i := 96) (by decide +kernel)) rfl
theorem q97 : Cond.arrayClass .boolean ∈ LW := LW_of (List.mem_of_getElem? (i := 97) (by decide +kernel)) rfl
theorem q98 : Cond.fieldLink RX1 10 "MarshDrains" "now" "LMarshDrains$Marsh;" ∈ LW := LW_of (List.mem_of_getElem? (i := 98) (by decide +kernel)) rfl
theorem q99 : Cond.fieldLink RX1 16 "MarshDrains" "trial" "LMarshDrains$Marsh;" ∈ LW := LW_of (List.mem_of_getElem? (i := 99) (by decide +kernel)) rfl
theorem q105 : Cond.methodLink RL 55 yX1_pass ∈ LW := LW_of (List.mem_of_getElem? (i := 105) (by decide +kernel)) rfl
theorem q106 : Cond.instanceMethod yX1_pass ∈ LW := LW_of (List.mem_of_getElem? (i := 106) (by decide +kernel)) rfl
theorem q107 : Cond.selects RX1 yX1_pass yX1_pass ∈ LW := LW_of (List.mem_of_getElem? (i := 107) (by decide +kernel)) rfl
theorem q108 : Cond.code yX1_pass cX1_pass 3 (some .int) ∈ LW := LW_of (List.mem_of_getElem? (i := 108) (by decide +kernel)) rfl
theorem q109 : Cond.methodLink RX1 19 yX1_requireWithin ∈ LW := LW_of (List.mem_of_getElem? (i := 109) (by decide +kernel)) rfl
theorem q110 : Cond.static yX1_requireWithin ∈ LW := LW_of (List.mem_of_getElem? (i := 110) (by decide +kernel)) rfl
theorem q111 : Cond.code yX1_requireWithin cX1_requireWithin 3 none ∈ LW := LW_of (List.mem_of_getElem? (i := 111) (by decide +kernel)) rfl
theorem q112 : Cond.classLink RX1 219 "java/lang/IllegalArgumentException" ∈ LW := LW_of (List.mem_of_getElem? (i := 112) (by decide +kernel)) rfl
theorem q113 : Cond.instantiable "java/lang/IllegalArgumentException" 6 ∈ LW := LW_of (List.mem_of_getElem? (i := 113) (by decide +kernel)) rfl
theorem q133 : Cond.fieldLink "java/lang/Throwable" 198 "java/lang/Throwable" "backtrace" "Ljava/lang/Object;" ∈ LW := LW_of (List.mem_of_getElem? (i := 133) (by decide +kernel)) rfl
theorem q137 : Cond.methodLink "java/lang/Throwable" 1 objectInit ∈ LW := LW_of (List.mem_of_getElem? (i := 137) (by decide +kernel)) rfl
theorem q138 : Cond.fieldLink "java/lang/Throwable" 13 "java/lang/Throwable" "UNASSIGNED_STACK" "[Ljava/lang/StackTraceElement;" ∈ LW := LW_of (List.mem_of_getElem? (i := 138) (by decide +kernel)) rfl
theorem q140 : Cond.fieldLink "java/lang/Throwable" 20 "java/lang/Throwable" "SUPPRESSED_SENTINEL" "Ljava/util/List;" ∈ LW := LW_of (List.mem_of_getElem? (i := 140) (by decide +kernel)) rfl
theorem q151 : Cond.instantiable "java/lang/Throwable" 6 ∈ LW := LW_of (List.mem_of_getElem? (i := 151) (by decide +kernel)) rfl
theorem q167 : Cond.fieldLink "java/lang/Throwable" 31 "java/lang/Throwable" "detailMessage" "Ljava/lang/String;" ∈ LW := LW_of (List.mem_of_getElem? (i := 167) (by decide +kernel)) rfl
theorem q168 : Cond.fieldLink "java/lang/Throwable" 7 "java/lang/Throwable" "cause" "Ljava/lang/Throwable;" ∈ LW := LW_of (List.mem_of_getElem? (i := 168) (by decide +kernel)) rfl
theorem q169 : Cond.fieldLink "java/lang/Throwable" 17 "java/lang/Throwable" "stackTrace" "[Ljava/lang/StackTraceElement;" ∈ LW := LW_of (List.mem_of_getElem? (i := 169) (by decide +kernel)) rfl
theorem q170 : Cond.fieldLink "java/lang/Throwable" 24 "java/lang/Throwable" "suppressedExceptions" "Ljava/util/List;" ∈ LW := LW_of (List.mem_of_getElem? (i := 170) (by decide +kernel)) rfl
theorem q180 : Cond.methodLink RX1 64 yX0_countRuined ∈ LW := LW_of (List.mem_of_getElem? (i := 180) (by decide +kernel)) rfl
theorem q181 : Cond.instanceMethod yX0_countRuined ∈ LW := LW_of (List.mem_of_getElem? (i := 181) (by decide +kernel)) rfl
theorem q182 : Cond.selects RX0 yX0_countRuined yX0_countRuined ∈ LW := LW_of (List.mem_of_getElem? (i := 182) (by decide +kernel)) rfl
theorem q183 : Cond.code yX0_countRuined cX0_countRuined 3 (some .int) ∈ LW := LW_of (List.mem_of_getElem? (i := 183) (by decide +kernel)) rfl
theorem q184 : Cond.methodLink RX1 68 yX0_passHours ∈ LW := LW_of (List.mem_of_getElem? (i := 184) (by decide +kernel)) rfl
theorem q185 : Cond.instanceMethod yX0_passHours ∈ LW := LW_of (List.mem_of_getElem? (i := 185) (by decide +kernel)) rfl
theorem q186 : Cond.selects RX0 yX0_passHours yX0_passHours ∈ LW := LW_of (List.mem_of_getElem? (i := 186) (by decide +kernel)) rfl
theorem q187 : Cond.code yX0_passHours cX0_passHours 3 none ∈ LW := LW_of (List.mem_of_getElem? (i := 187) (by decide +kernel)) rfl
theorem q188 : Cond.methodLink RX0 60 yX0_passHour ∈ LW := LW_of (List.mem_of_getElem? (i := 188) (by decide +kernel)) rfl
theorem q189 : Cond.instanceMethod yX0_passHour ∈ LW := LW_of (List.mem_of_getElem? (i := 189) (by decide +kernel)) rfl
theorem q190 : Cond.selects RX0 yX0_passHour yX0_passHour ∈ LW := LW_of (List.mem_of_getElem? (i := 190) (by decide +kernel)) rfl
theorem q191 : Cond.code yX0_passHour cX0_passHour 2 none ∈ LW := LW_of (List.mem_of_getElem? (i := 191) (by decide +kernel)) rfl
theorem q192 : Cond.methodLink RX0 66 yX0_flowNow ∈ LW := LW_of (List.mem_of_getElem? (i := 192) (by decide +kernel)) rfl
theorem q193 : Cond.instanceMethod yX0_flowNow ∈ LW := LW_of (List.mem_of_getElem? (i := 193) (by decide +kernel)) rfl
theorem q194 : Cond.selects RX0 yX0_flowNow yX0_flowNow ∈ LW := LW_of (List.mem_of_getElem? (i := 194) (by decide +kernel)) rfl
theorem q195 : Cond.code yX0_flowNow cX0_flowNow 5 (some .int) ∈ LW := LW_of (List.mem_of_getElem? (i := 195) (by decide +kernel)) rfl
theorem q196 : Cond.methodLink RX0 53 yX0_hasDrain ∈ LW := LW_of (List.mem_of_getElem? (i := 196) (by decide +kernel)) rfl
theorem q197 : Cond.instanceMethod yX0_hasDrain ∈ LW := LW_of (List.mem_of_getElem? (i := 197) (by decide +kernel)) rfl
theorem q198 : Cond.selects RX0 yX0_hasDrain yX0_hasDrain ∈ LW := LW_of (List.mem_of_getElem? (i := 198) (by decide +kernel)) rfl
theorem q199 : Cond.code yX0_hasDrain cX0_hasDrain 2 (some .boolean) ∈ LW := LW_of (List.mem_of_getElem? (i := 199) (by decide +kernel)) rfl
theorem q200 : Cond.methodLink RX0 57 yX0_hasField ∈ LW := LW_of (List.mem_of_getElem? (i := 200) (by decide +kernel)) rfl
theorem q201 : Cond.instanceMethod yX0_hasField ∈ LW := LW_of (List.mem_of_getElem? (i := 201) (by decide +kernel)) rfl
theorem q202 : Cond.selects RX0 yX0_hasField yX0_hasField ∈ LW := LW_of (List.mem_of_getElem? (i := 202) (by decide +kernel)) rfl
theorem q203 : Cond.code yX0_hasField cX0_hasField 2 (some .boolean) ∈ LW := LW_of (List.mem_of_getElem? (i := 203) (by decide +kernel)) rfl
theorem q204 : Cond.methodLink RX0 91 Lib.Math.min.name ∈ LW := LW_of (List.mem_of_getElem? (i := 204) (by decide +kernel)) rfl
theorem q205 : Cond.static Lib.Math.min.name ∈ LW := LW_of (List.mem_of_getElem? (i := 205) (by decide +kernel)) rfl
theorem q206 : Cond.code Lib.Math.min.name Lib.Math.min.code 2 (some .int) ∈ LW := LW_of (List.mem_of_getElem? (i := 206) (by decide +kernel)) rfl
theorem q207 : Cond.methodLink RX0 70 yX0_letFlow ∈ LW := LW_of (List.mem_of_getElem? (i := 207) (by decide +kernel)) rfl
theorem q209 : Cond.instanceMethod yX0_letFlow ∈ LW := LW_of (List.mem_of_getElem? (i := 209) (by decide +kernel)) rfl
theorem q210 : Cond.code yX0_letFlow cX0_letFlow 3 none ∈ LW := LW_of (List.mem_of_getElem? (i := 210) (by decide +kernel)) rfl
theorem q211 : Cond.methodLink RX0 80 yX0_letWaterIn ∈ LW := LW_of (List.mem_of_getElem? (i := 211) (by decide +kernel)) rfl
theorem q212 : Cond.instanceMethod yX0_letWaterIn ∈ LW := LW_of (List.mem_of_getElem? (i := 212) (by decide +kernel)) rfl
theorem q213 : Cond.selects RX0 yX0_letWaterIn yX0_letWaterIn ∈ LW := LW_of (List.mem_of_getElem? (i := 213) (by decide +kernel)) rfl
theorem q214 : Cond.code yX0_letWaterIn cX0_letWaterIn 3 none ∈ LW := LW_of (List.mem_of_getElem? (i := 214) (by decide +kernel)) rfl
theorem q215 : Cond.methodLink RX0 86 Lib.Math.abs.name ∈ LW := LW_of (List.mem_of_getElem? (i := 215) (by decide +kernel)) rfl
theorem q216 : Cond.static Lib.Math.abs.name ∈ LW := LW_of (List.mem_of_getElem? (i := 216) (by decide +kernel)) rfl
theorem q217 : Cond.code Lib.Math.abs.name Lib.Math.abs.code 1 (some .int) ∈ LW := LW_of (List.mem_of_getElem? (i := 217) (by decide +kernel)) rfl
theorem q218 : Cond.methodLink RX0 74 yX0_countWetHours ∈ LW := LW_of (List.mem_of_getElem? (i := 218) (by decide +kernel)) rfl
theorem q220 : Cond.instanceMethod yX0_countWetHours ∈ LW := LW_of (List.mem_of_getElem? (i := 220) (by decide +kernel)) rfl
theorem q221 : Cond.code yX0_countWetHours cX0_countWetHours 2 none ∈ LW := LW_of (List.mem_of_getElem? (i := 221) (by decide +kernel)) rfl
theorem q222 : Cond.methodLink RX0 95 yX0_isWet ∈ LW := LW_of (List.mem_of_getElem? (i := 222) (by decide +kernel)) rfl
theorem q223 : Cond.instanceMethod yX0_isWet ∈ LW := LW_of (List.mem_of_getElem? (i := 223) (by decide +kernel)) rfl
theorem q224 : Cond.selects RX0 yX0_isWet yX0_isWet ∈ LW := LW_of (List.mem_of_getElem? (i := 224) (by decide +kernel)) rfl
theorem q225 : Cond.code yX0_isWet cX0_isWet 2 (some .boolean) ∈ LW := LW_of (List.mem_of_getElem? (i := 225) (by decide +kernel)) rfl
theorem q226 : Cond.methodLink RL 78 yX1_fields ∈ LW := LW_of (List.mem_of_getElem? (i := 226) (by decide +kernel)) rfl
theorem q227 : Cond.instanceMethod yX1_fields ∈ LW := LW_of (List.mem_of_getElem? (i := 227) (by decide +kernel)) rfl
theorem q228 : Cond.selects RX1 yX1_fields yX1_fields ∈ LW := LW_of (List.mem_of_getElem? (i := 228) (by decide +kernel)) rfl
theorem q229 : Cond.code yX1_fields cX1_fields 1 (some .int) ∈ LW := LW_of (List.mem_of_getElem? (i := 229) (by decide +kernel)) rfl
theorem q230 : Cond.methodLink RL 105 yX1_drains ∈ LW := LW_of (List.mem_of_getElem? (i := 230) (by decide +kernel)) rfl
theorem q231 : Cond.instanceMethod yX1_drains ∈ LW := LW_of (List.mem_of_getElem? (i := 231) (by decide +kernel)) rfl
theorem q232 : Cond.selects RX1 yX1_drains yX1_drains ∈ LW := LW_of (List.mem_of_getElem? (i := 232) (by decide +kernel)) rfl
theorem q233 : Cond.code yX1_drains cX1_drains 1 (some .int) ∈ LW := LW_of (List.mem_of_getElem? (i := 233) (by decide +kernel)) rfl
theorem q234 : Cond.methodLink RL 153 yX1_rain ∈ LW := LW_of (List.mem_of_getElem? (i := 234) (by decide +kernel)) rfl
theorem q235 : Cond.instanceMethod yX1_rain ∈ LW := LW_of (List.mem_of_getElem? (i := 235) (by decide +kernel)) rfl
theorem q236 : Cond.selects RX1 yX1_rain yX1_rain ∈ LW := LW_of (List.mem_of_getElem? (i := 236) (by decide +kernel)) rfl
theorem q237 : Cond.code yX1_rain cX1_rain 1 (some .int) ∈ LW := LW_of (List.mem_of_getElem? (i := 237) (by decide +kernel)) rfl
theorem q238 : Cond.methodLink RL 150 yX1_water ∈ LW := LW_of (List.mem_of_getElem? (i := 238) (by decide +kernel)) rfl
theorem q239 : Cond.instanceMethod yX1_water ∈ LW := LW_of (List.mem_of_getElem? (i := 239) (by decide +kernel)) rfl
theorem q240 : Cond.selects RX1 yX1_water yX1_water ∈ LW := LW_of (List.mem_of_getElem? (i := 240) (by decide +kernel)) rfl
theorem q241 : Cond.code yX1_water cX1_water 3 (some .int) ∈ LW := LW_of (List.mem_of_getElem? (i := 241) (by decide +kernel)) rfl
theorem q242 : Cond.methodLink RL 124 yX1_drained ∈ LW := LW_of (List.mem_of_getElem? (i := 242) (by decide +kernel)) rfl
theorem q243 : Cond.instanceMethod yX1_drained ∈ LW := LW_of (List.mem_of_getElem? (i := 243) (by decide +kernel)) rfl
theorem q244 : Cond.selects RX1 yX1_drained yX1_drained ∈ LW := LW_of (List.mem_of_getElem? (i := 244) (by decide +kernel)) rfl
theorem q245 : Cond.code yX1_drained cX1_drained 1 (some .int) ∈ LW := LW_of (List.mem_of_getElem? (i := 245) (by decide +kernel)) rfl
theorem q246 : Cond.methodLink RL 121 yX1_loss ∈ LW := LW_of (List.mem_of_getElem? (i := 246) (by decide +kernel)) rfl
theorem q247 : Cond.instanceMethod yX1_loss ∈ LW := LW_of (List.mem_of_getElem? (i := 247) (by decide +kernel)) rfl
theorem q248 : Cond.selects RX1 yX1_loss yX1_loss ∈ LW := LW_of (List.mem_of_getElem? (i := 248) (by decide +kernel)) rfl
theorem q249 : Cond.code yX1_loss cX1_loss 1 (some .int) ∈ LW := LW_of (List.mem_of_getElem? (i := 249) (by decide +kernel)) rfl
theorem q250 : Cond.methodLink RX1 87 yX0_lostWorth ∈ LW := LW_of (List.mem_of_getElem? (i := 250) (by decide +kernel)) rfl
theorem q251 : Cond.instanceMethod yX0_lostWorth ∈ LW := LW_of (List.mem_of_getElem? (i := 251) (by decide +kernel)) rfl
theorem q252 : Cond.selects RX0 yX0_lostWorth yX0_lostWorth ∈ LW := LW_of (List.mem_of_getElem? (i := 252) (by decide +kernel)) rfl
theorem q253 : Cond.code yX0_lostWorth cX0_lostWorth 3 (some .int) ∈ LW := LW_of (List.mem_of_getElem? (i := 253) (by decide +kernel)) rfl
theorem q254 : Cond.methodLink RL 84 yX1_waterOn ∈ LW := LW_of (List.mem_of_getElem? (i := 254) (by decide +kernel)) rfl
theorem q255 : Cond.instanceMethod yX1_waterOn ∈ LW := LW_of (List.mem_of_getElem? (i := 255) (by decide +kernel)) rfl
theorem q256 : Cond.selects RX1 yX1_waterOn yX1_waterOn ∈ LW := LW_of (List.mem_of_getElem? (i := 256) (by decide +kernel)) rfl
theorem q257 : Cond.code yX1_waterOn cX1_waterOn 2 (some .int) ∈ LW := LW_of (List.mem_of_getElem? (i := 257) (by decide +kernel)) rfl
theorem q258 : Cond.methodLink RX1 34 yX1_requireField ∈ LW := LW_of (List.mem_of_getElem? (i := 258) (by decide +kernel)) rfl
theorem q260 : Cond.instanceMethod yX1_requireField ∈ LW := LW_of (List.mem_of_getElem? (i := 260) (by decide +kernel)) rfl
theorem q261 : Cond.code yX1_requireField cX1_requireField 2 none ∈ LW := LW_of (List.mem_of_getElem? (i := 261) (by decide +kernel)) rfl
theorem q262 : Cond.methodLink RX1 229 yX0_hasField ∈ LW := LW_of (List.mem_of_getElem? (i := 262) (by decide +kernel)) rfl
theorem q263 : Cond.classLink RX1 232 "java/lang/IndexOutOfBoundsException" ∈ LW := LW_of (List.mem_of_getElem? (i := 263) (by decide +kernel)) rfl
theorem q264 : Cond.instantiable "java/lang/IndexOutOfBoundsException" 6 ∈ LW := LW_of (List.mem_of_getElem? (i := 264) (by decide +kernel)) rfl
theorem q279 : Cond.methodLink RL 87 yX1_levelOf ∈ LW := LW_of (List.mem_of_getElem? (i := 279) (by decide +kernel)) rfl
theorem q280 : Cond.instanceMethod yX1_levelOf ∈ LW := LW_of (List.mem_of_getElem? (i := 280) (by decide +kernel)) rfl
theorem q281 : Cond.selects RX1 yX1_levelOf yX1_levelOf ∈ LW := LW_of (List.mem_of_getElem? (i := 281) (by decide +kernel)) rfl
theorem q282 : Cond.code yX1_levelOf cX1_levelOf 2 (some .int) ∈ LW := LW_of (List.mem_of_getElem? (i := 282) (by decide +kernel)) rfl
theorem q283 : Cond.methodLink RX1 90 yX0_levelAt ∈ LW := LW_of (List.mem_of_getElem? (i := 283) (by decide +kernel)) rfl
theorem q284 : Cond.instanceMethod yX0_levelAt ∈ LW := LW_of (List.mem_of_getElem? (i := 284) (by decide +kernel)) rfl
theorem q285 : Cond.selects RX0 yX0_levelAt yX0_levelAt ∈ LW := LW_of (List.mem_of_getElem? (i := 285) (by decide +kernel)) rfl
theorem q286 : Cond.code yX0_levelAt cX0_levelAt 2 (some .int) ∈ LW := LW_of (List.mem_of_getElem? (i := 286) (by decide +kernel)) rfl
theorem q287 : Cond.methodLink RL 93 yX1_wetFor ∈ LW := LW_of (List.mem_of_getElem? (i := 287) (by decide +kernel)) rfl
theorem q288 : Cond.instanceMethod yX1_wetFor ∈ LW := LW_of (List.mem_of_getElem? (i := 288) (by decide +kernel)) rfl
theorem q289 : Cond.selects RX1 yX1_wetFor yX1_wetFor ∈ LW := LW_of (List.mem_of_getElem? (i := 289) (by decide +kernel)) rfl
theorem q290 : Cond.code yX1_wetFor cX1_wetFor 2 (some .int) ∈ LW := LW_of (List.mem_of_getElem? (i := 290) (by decide +kernel)) rfl
theorem q291 : Cond.methodLink RL 81 yX1_isRuined ∈ LW := LW_of (List.mem_of_getElem? (i := 291) (by decide +kernel)) rfl
theorem q292 : Cond.instanceMethod yX1_isRuined ∈ LW := LW_of (List.mem_of_getElem? (i := 292) (by decide +kernel)) rfl
theorem q293 : Cond.selects RX1 yX1_isRuined yX1_isRuined ∈ LW := LW_of (List.mem_of_getElem? (i := 293) (by decide +kernel)) rfl
theorem q294 : Cond.code yX1_isRuined cX1_isRuined 2 (some .boolean) ∈ LW := LW_of (List.mem_of_getElem? (i := 294) (by decide +kernel)) rfl
theorem q295 : Cond.methodLink RL 102 yX1_drainsAt ∈ LW := LW_of (List.mem_of_getElem? (i := 295) (by decide +kernel)) rfl
theorem q296 : Cond.instanceMethod yX1_drainsAt ∈ LW := LW_of (List.mem_of_getElem? (i := 296) (by decide +kernel)) rfl
theorem q297 : Cond.selects RX1 yX1_drainsAt yX1_drainsAt ∈ LW := LW_of (List.mem_of_getElem? (i := 297) (by decide +kernel)) rfl
theorem q298 : Cond.code yX1_drainsAt cX1_drainsAt 4 (some .int) ∈ LW := LW_of (List.mem_of_getElem? (i := 298) (by decide +kernel)) rfl
theorem q299 : Cond.methodLink RL 99 yX1_reaches ∈ LW := LW_of (List.mem_of_getElem? (i := 299) (by decide +kernel)) rfl
theorem q300 : Cond.instanceMethod yX1_reaches ∈ LW := LW_of (List.mem_of_getElem? (i := 300) (by decide +kernel)) rfl
theorem q301 : Cond.selects RX1 yX1_reaches yX1_reaches ∈ LW := LW_of (List.mem_of_getElem? (i := 301) (by decide +kernel)) rfl
theorem q302 : Cond.code yX1_reaches cX1_reaches 4 (some .int) ∈ LW := LW_of (List.mem_of_getElem? (i := 302) (by decide +kernel)) rfl
theorem q303 : Cond.methodLink RX1 106 yX0_spreadByDrains ∈ LW := LW_of (List.mem_of_getElem? (i := 303) (by decide +kernel)) rfl
theorem q304 : Cond.instanceMethod yX0_spreadByDrains ∈ LW := LW_of (List.mem_of_getElem? (i := 304) (by decide +kernel)) rfl
theorem q305 : Cond.selects RX0 yX0_spreadByDrains yX0_spreadByDrains ∈ LW := LW_of (List.mem_of_getElem? (i := 305) (by decide +kernel)) rfl
theorem q306 : Cond.code yX0_spreadByDrains cX0_spreadByDrains 6 (some .int) ∈ LW := LW_of (List.mem_of_getElem? (i := 306) (by decide +kernel)) rfl
theorem q307 : Cond.methodLink RX1 109 yJ6_bitCount_0f7a4 ∈ LW := LW_of (List.mem_of_getElem? (i := 307) (by decide +kernel)) rfl
theorem q308 : Cond.static yJ6_bitCount_0f7a4 ∈ LW := LW_of (List.mem_of_getElem? (i := 308) (by decide +kernel)) rfl
theorem q309 : Cond.code yJ6_bitCount_0f7a4 cJ6_bitCount_0f7a4 1 (some .int) ∈ LW := LW_of (List.mem_of_getElem? (i := 309) (by decide +kernel)) rfl
theorem q310 : Cond.constant RJ6 265 1431655765 ∈ LW := LW_of (List.mem_of_getElem? (i := 310) (by decide +kernel)) rfl
theorem q311 : Cond.constant RJ6 266 858993459 ∈ LW := LW_of (List.mem_of_getElem? (i := 311) (by decide +kernel)) rfl
theorem q312 : Cond.constant RJ6 267 252645135 ∈ LW := LW_of (List.mem_of_getElem? (i := 312) (by decide +kernel)) rfl
theorem q313 : Cond.methodLink RL 90 yX1_highest ∈ LW := LW_of (List.mem_of_getElem? (i := 313) (by decide +kernel)) rfl
theorem q314 : Cond.instanceMethod yX1_highest ∈ LW := LW_of (List.mem_of_getElem? (i := 314) (by decide +kernel)) rfl
theorem q315 : Cond.selects RX1 yX1_highest yX1_highest ∈ LW := LW_of (List.mem_of_getElem? (i := 315) (by decide +kernel)) rfl
theorem q316 : Cond.code yX1_highest cX1_highest 5 (some .int) ∈ LW := LW_of (List.mem_of_getElem? (i := 316) (by decide +kernel)) rfl
theorem q317 : Cond.methodLink RL 113 yX1_isOpen ∈ LW := LW_of (List.mem_of_getElem? (i := 317) (by decide +kernel)) rfl
theorem q318 : Cond.instanceMethod yX1_isOpen ∈ LW := LW_of (List.mem_of_getElem? (i := 318) (by decide +kernel)) rfl
theorem q319 : Cond.selects RX1 yX1_isOpen yX1_isOpen ∈ LW := LW_of (List.mem_of_getElem? (i := 319) (by decide +kernel)) rfl
theorem q320 : Cond.code yX1_isOpen cX1_isOpen 2 (some .boolean) ∈ LW := LW_of (List.mem_of_getElem? (i := 320) (by decide +kernel)) rfl
theorem q321 : Cond.methodLink RX1 42 yX1_requireDrain ∈ LW := LW_of (List.mem_of_getElem? (i := 321) (by decide +kernel)) rfl
theorem q323 : Cond.instanceMethod yX1_requireDrain ∈ LW := LW_of (List.mem_of_getElem? (i := 323) (by decide +kernel)) rfl
theorem q324 : Cond.code yX1_requireDrain cX1_requireDrain 2 none ∈ LW := LW_of (List.mem_of_getElem? (i := 324) (by decide +kernel)) rfl
theorem q325 : Cond.methodLink RX1 237 yX0_hasDrain ∈ LW := LW_of (List.mem_of_getElem? (i := 325) (by decide +kernel)) rfl
theorem q327 : Cond.methodLink RL 110 yX1_carriedBy ∈ LW := LW_of (List.mem_of_getElem? (i := 327) (by decide +kernel)) rfl
theorem q328 : Cond.instanceMethod yX1_carriedBy ∈ LW := LW_of (List.mem_of_getElem? (i := 328) (by decide +kernel)) rfl
theorem q329 : Cond.selects RX1 yX1_carriedBy yX1_carriedBy ∈ LW := LW_of (List.mem_of_getElem? (i := 329) (by decide +kernel)) rfl
theorem q330 : Cond.code yX1_carriedBy cX1_carriedBy 2 (some .int) ∈ LW := LW_of (List.mem_of_getElem? (i := 330) (by decide +kernel)) rfl
theorem q331 : Cond.methodLink RL 107 yX1_wouldCarry ∈ LW := LW_of (List.mem_of_getElem? (i := 331) (by decide +kernel)) rfl
theorem q332 : Cond.instanceMethod yX1_wouldCarry ∈ LW := LW_of (List.mem_of_getElem? (i := 332) (by decide +kernel)) rfl
theorem q333 : Cond.selects RX1 yX1_wouldCarry yX1_wouldCarry ∈ LW := LW_of (List.mem_of_getElem? (i := 333) (by decide +kernel)) rfl
theorem q334 : Cond.code yX1_wouldCarry cX1_wouldCarry 2 (some .int) ∈ LW := LW_of (List.mem_of_getElem? (i := 334) (by decide +kernel)) rfl
theorem q335 : Cond.methodLink RX1 120 yX0_flowNow ∈ LW := LW_of (List.mem_of_getElem? (i := 335) (by decide +kernel)) rfl
theorem q336 : Cond.methodLink RX1 123 Lib.Math.abs.name ∈ LW := LW_of (List.mem_of_getElem? (i := 336) (by decide +kernel)) rfl
theorem q337 : Cond.methodLink RL 96 yX1_hoursUntilRuined ∈ LW := LW_of (List.mem_of_getElem? (i := 337) (by decide +kernel)) rfl
theorem q338 : Cond.instanceMethod yX1_hoursUntilRuined ∈ LW := LW_of (List.mem_of_getElem? (i := 338) (by decide +kernel)) rfl
theorem q339 : Cond.selects RX1 yX1_hoursUntilRuined yX1_hoursUntilRuined ∈ LW := LW_of (List.mem_of_getElem? (i := 339) (by decide +kernel)) rfl
theorem q340 : Cond.code yX1_hoursUntilRuined cX1_hoursUntilRuined 3 (some .int) ∈ LW := LW_of (List.mem_of_getElem? (i := 340) (by decide +kernel)) rfl
theorem q341 : Cond.methodLink RX1 128 yX0_becomeLike ∈ LW := LW_of (List.mem_of_getElem? (i := 341) (by decide +kernel)) rfl
theorem q342 : Cond.instanceMethod yX0_becomeLike ∈ LW := LW_of (List.mem_of_getElem? (i := 342) (by decide +kernel)) rfl
theorem q343 : Cond.selects RX0 yX0_becomeLike yX0_becomeLike ∈ LW := LW_of (List.mem_of_getElem? (i := 343) (by decide +kernel)) rfl
theorem q344 : Cond.code yX0_becomeLike cX0_becomeLike 3 none ∈ LW := LW_of (List.mem_of_getElem? (i := 344) (by decide +kernel)) rfl
theorem q345 : Cond.methodLink RX1 132 yX0_passHour ∈ LW := LW_of (List.mem_of_getElem? (i := 345) (by decide +kernel)) rfl
theorem q346 : Cond.methodLink RL 127 yX1_lossIn ∈ LW := LW_of (List.mem_of_getElem? (i := 346) (by decide +kernel)) rfl
theorem q347 : Cond.instanceMethod yX1_lossIn ∈ LW := LW_of (List.mem_of_getElem? (i := 347) (by decide +kernel)) rfl
theorem q348 : Cond.selects RX1 yX1_lossIn yX1_lossIn ∈ LW := LW_of (List.mem_of_getElem? (i := 348) (by decide +kernel)) rfl
theorem q349 : Cond.code yX1_lossIn cX1_lossIn 2 (some .int) ∈ LW := LW_of (List.mem_of_getElem? (i := 349) (by decide +kernel)) rfl
theorem q350 : Cond.methodLink RL 147 yX1_waterIn ∈ LW := LW_of (List.mem_of_getElem? (i := 350) (by decide +kernel)) rfl
