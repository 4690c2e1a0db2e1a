/-- the tables' words that stay true  -/
def LW : List Cond := lw_tbl.filter goodWord
theorem LW_of {w : Cond} (h : w ∈ lw_tbl) (hg : goodWord w = true) : w ∈ LW := List.mem_filter.mpr ⟨h, hg⟩
theorem LW_tbl {w : Cond} (h : w ∈ LW) : w ∈ lw_tbl := (List.mem_filter.mp h).1
theorem LW_good : GoodIn LW LW := fun w h => ⟨h, good_of_word (List.mem_filter.mp h).2⟩
abbrev wL (y : MethodName) (c : ByteArray) (n : Nat) (r : Option FieldType) : List Cond := Cond.code y c n r :: LW
theorem wsX00_tbl : ∀ w ∈ wsX00, w ∈ lw_tbl := fun w h => (goodIn_of (big := lw_tbl) wsX00 (by decide +kernel) w h).1
theorem in_wsX00 : ∀ w ∈ wsX00, w ∈ LW := fun w h => LW_of (wsX00_tbl w h) (List.all_eq_true.mp (show wsX00.all goodWord = true by decide +kernel) w h)
theorem wsX10_tbl : ∀ w ∈ wsX10, w ∈ lw_tbl := fun w h => (goodIn_of (big := lw_tbl) wsX10 (by decide +kernel) w h).1
theorem in_wsX10 : ∀ w ∈ wsX10, w ∈ LW := fun w h => LW_of (wsX10_tbl w h) (List.all_eq_true.mp (show wsX10.all goodWord = true by decide +kernel) w h)
theorem wsX20_tbl : ∀ w ∈ wsX20, w ∈ lw_tbl := fun w h => (goodIn_of (big := lw_tbl) wsX20 (by decide +kernel) w h).1
theorem in_wsX20 : ∀ w ∈ wsX20, w ∈ LW := fun w h => LW_of (wsX20_tbl w h) (List.all_eq_true.mp (show wsX20.all goodWord = true by decide +kernel) w h)
theorem q1 : Cond.selects RX0 yX0_letFlow yX0_letFlow ∈ LW := LW_of (List.mem_of_getElem? (i := 1) (by decide +kernel)) rfl
theorem q2 : Cond.selects RX0 yX0_countWetHours yX0_countWetHours ∈ LW := LW_of (List.mem_of_getElem? (i := 2) (by decide +kernel)) rfl
theorem q3 : Cond.selects RX1 yX1_requireField yX1_requireField ∈ LW := LW_of (List.mem_of_getElem? (i := 3) (by decide +kernel)) rfl
theorem q4 : Cond.selects RX1 yX1_requireDrain yX1_requireDrain ∈ LW := LW_of (List.mem_of_getElem? (i := 4) (by decide +kernel)) rfl
theorem q5 : Cond.selects RX1 yX1_mixFields yX1_mixFields ∈ LW := LW_of (List.mem_of_getElem? (i := 5) (by decide +kernel)) rfl
theorem q6 : Cond.selects RX1 yX1_mixDrains yX1_mixDrains ∈ LW := LW_of (List.mem_of_getElem? (i := 6) (by decide +kernel)) rfl
theorem q7 : Cond.selects RX1 yX1_addDrain yX1_addDrain ∈ LW := LW_of (List.mem_of_getElem? (i := 7) (by decide +kernel)) rfl
theorem q8 : Cond.initialized RL ∈ LW := LW_of (List.mem_of_getElem? (i := 8) (by decide +kernel)) rfl
theorem q9 : Cond.initialized RX1 ∈ LW := LW_of (List.mem_of_getElem? (i := 9) (by decide +kernel)) rfl
theorem q10 : Cond.initialized RX0 ∈ LW := LW_of (List.mem_of_getElem? (i := 10) (by decide +kernel)) rfl
theorem q11 : Cond.initialized RX2 ∈ LW := LW_of (List.mem_of_getElem? (i := 11) (by decide +kernel)) rfl
theorem q12 : Cond.initialized "java/lang/Throwable" ∈ LW := LW_of (List.mem_of_getElem? (i := 12) (by decide +kernel)) rfl
theorem q13 : Cond.initialized "java/lang/Exception" ∈ LW := LW_of (List.mem_of_getElem? (i := 13) (by decide +kernel)) rfl
theorem q14 : Cond.initialized "java/lang/RuntimeException" ∈ LW := LW_of (List.mem_of_getElem? (i := 14) (by decide +kernel)) rfl
theorem q15 : Cond.initialized "java/lang/IllegalArgumentException" ∈ LW := LW_of (List.mem_of_getElem? (i := 15) (by decide +kernel)) rfl
theorem q16 : Cond.initialized "java/lang/IllegalStateException" ∈ LW := LW_of (List.mem_of_getElem? (i := 16) (by decide +kernel)) rfl
theorem q17 : Cond.initialized "java/lang/IndexOutOfBoundsException" ∈ LW := LW_of (List.mem_of_getElem? (i := 17) (by decide +kernel)) rfl
theorem q18 : Cond.initialized "java/lang/Math" ∈ LW := LW_of (List.mem_of_getElem? (i := 18) (by decide +kernel)) rfl
theorem q19 : Cond.initialized RJ6 ∈ LW := LW_of (List.mem_of_getElem? (i := 19) (by decide +kernel)) rfl
theorem q20 : Cond.classLink RL 29 RX1 ∈ LW := LW_of (List.mem_of_getElem? (i := 20) (by decide +kernel)) rfl
theorem q21 : Cond.instantiable RX1 2 ∈ LW := LW_of (List.mem_of_getElem? (i := 21) (by decide +kernel)) rfl
theorem q22 : Cond.methodLink RL 69 yX1_init ∈ LW := LW_of (List.mem_of_getElem? (i := 22) (by decide +kernel)) rfl
theorem q23 : Cond.instanceMethod yX1_init ∈ LW := LW_of (List.mem_of_getElem? (i := 23) (by decide +kernel)) rfl
theorem q24 : Cond.code yX1_init cX1_init 1 none ∈ LW := LW_of (List.mem_of_getElem? (i := 24) (by decide +kernel)) rfl
theorem q25 : Cond.methodLink RX1 1 objectInit ∈ LW := LW_of (List.mem_of_getElem? (i := 25) (by decide +kernel)) rfl
theorem q26 : Cond.instanceMethod objectInit ∈ LW := LW_of (List.mem_of_getElem? (i := 26) (by decide +kernel)) rfl
theorem q27 : Cond.code objectInit ⟨#[0xb1]⟩ 1 none ∈ LW := LW_of (List.mem_of_getElem? (i := 27) (by decide +kernel)) rfl
theorem q28 : Cond.classLink RX1 7 RX0 ∈ LW := LW_of (List.mem_of_getElem? (i := 28) (by decide +kernel)) rfl
theorem q29 : Cond.instantiable RX0 16 ∈ LW := LW_of (List.mem_of_getElem? (i := 29) (by decide +kernel)) rfl
theorem q31 : Cond.instanceMethod yX0_init ∈ LW := LW_of (List.mem_of_getElem? (i := 31) (by decide +kernel)) rfl
theorem q32 : Cond.code yX0_init cX0_init 1 none ∈ LW := LW_of (List.mem_of_getElem? (i := 32) (by decide +kernel)) rfl
theorem q33 : Cond.methodLink RX0 3 objectInit ∈ LW := LW_of (List.mem_of_getElem? (i := 33) (by decide +kernel)) rfl
theorem q34 : Cond.fieldLink RX0 9 "MarshDrains$Marsh" "floors" "[I" ∈ LW := LW_of (List.mem_of_getElem? (i := 34) (by decide +kernel)) rfl
theorem q35 : Cond.fieldLink RX0 15 "MarshDrains$Marsh" "worths" "[I" ∈ LW := LW_of (List.mem_of_getElem? (i := 35) (by decide +kernel)) rfl
theorem q36 : Cond.fieldLink RX0 18 "MarshDrains$Marsh" "waters" "[I" ∈ LW := LW_of (List.mem_of_getElem? (i := 36) (by decide +kernel)) rfl
theorem q38 : Cond.fieldLink RX0 21 "MarshDrains$Marsh" "wetHours" "[I" ∈ LW := LW_of (List.mem_of_getElem? (i := 38) (by decide +kernel)) rfl
theorem q40 : Cond.fieldLink RX0 24 "MarshDrains$Marsh" "ruined" "[Z" ∈ LW := LW_of (List.mem_of_getElem? (i := 40) (by decide +kernel)) rfl
theorem q42 : Cond.fieldLink RX0 28 "MarshDrains$Marsh" "froms" "[I" ∈ LW := LW_of (List.mem_of_getElem? (i := 42) (by decide +kernel)) rfl
theorem q44 : Cond.fieldLink RX0 31 "MarshDrains$Marsh" "tos" "[I" ∈ LW := LW_of (List.mem_of_getElem? (i := 44) (by decide +kernel)) rfl
theorem q46 : Cond.fieldLink RX0 34 "MarshDrains$Marsh" "carries" "[I" ∈ LW := LW_of (List.mem_of_getElem? (i := 46) (by decide +kernel)) rfl
theorem q47 : Cond.fieldLink RX0 37 "MarshDrains$Marsh" "carried" "[I" ∈ LW := LW_of (List.mem_of_getElem? (i := 47) (by decide +kernel)) rfl
theorem q49 : Cond.fieldLink RX0 40 "MarshDrains$Marsh" "pumps" "[Z" ∈ LW := LW_of (List.mem_of_getElem? (i := 49) (by decide +kernel)) rfl
theorem q51 : Cond.fieldLink RX0 43 "MarshDrains$Marsh" "opens" "[Z" ∈ LW := LW_of (List.mem_of_getElem? (i := 51) (by decide +kernel)) rfl
theorem q53 : Cond.fieldLink RX0 46 "MarshDrains$Marsh" "fieldCount" "I" ∈ LW := LW_of (List.mem_of_getElem? (i := 53) (by decide +kernel)) rfl
theorem q55 : Cond.fieldLink RX0 50 "MarshDrains$Marsh" "drainCount" "I" ∈ LW := LW_of (List.mem_of_getElem? (i := 55) (by decide +kernel)) rfl
theorem q58 : Cond.fieldLink RX0 63 "MarshDrains$Marsh" "rainfall" "I" ∈ LW := LW_of (List.mem_of_getElem? (i := 58) (by decide +kernel)) rfl
theorem q60 : Cond.fieldLink RX0 83 "MarshDrains$Marsh" "toSea" "I" ∈ LW := LW_of (List.mem_of_getElem? (i := 60) (by decide +kernel)) rfl
theorem q62 : Cond.fieldLink RX0 77 "MarshDrains$Marsh" "clock" "I" ∈ LW := LW_of (List.mem_of_getElem? (i := 62) (by decide +kernel)) rfl
theorem q96 : Cond.arrayClass .int ∈ LW := LW_of (List.mem_of_getElem? (i := 96) (by decide +kernel)) rfl
theorem q97 : Cond.arrayClass .boolean ∈ LW := LW_of (List.mem_of_getElem? (i := 97) (by decide +kernel)) rfl
theorem q98 : Cond.fieldLink RX1 10 "MarshDrains" "now" "LMarshDrains$Marsh;" ∈ LW := LW_of (List.mem_of_getElem? (i := 98) (by decide +kernel)) rfl
theorem q99 : Cond.fieldLink RX1 16 "MarshDrains" "trial" "LMarshDrains$Marsh;" ∈ LW := LW_of (List.mem_of_getElem? (i := 99) (by decide +kernel)) rfl
theorem q105 : Cond.methodLink RL 55 yX1_pass ∈ LW := LW_of (List.mem_of_getElem? (i := 105) (by decide +kernel)) rfl
theorem q106 : Cond.instanceMethod yX1_pass ∈ LW := LW_of (List.mem_of_getElem? (i := 106) (by decide +kernel)) rfl
theorem q107 : Cond.selects RX1 yX1_pass yX1_pass ∈ LW := LW_of (List.mem_of_getElem? (i := 107) (by decide +kernel)) rfl
theorem q108 : Cond.code yX1_pass cX1_pass 3 (some .int) ∈ LW := LW_of (List.mem_of_getElem? (i := 108) (by decide +kernel)) rfl
theorem q109 : Cond.methodLink RX1 19 yX1_requireWithin ∈ LW := LW_of (List.mem_of_getElem? (i := 109) (by decide +kernel)) rfl
theorem q110 : Cond.static yX1_requireWithin ∈ LW := LW_of (List.mem_of_getElem? (i := 110) (by decide +kernel)) rfl
theorem q111 : Cond.code yX1_requireWithin cX1_requireWithin 3 none ∈ LW := LW_of (List.mem_of_getElem? (i := 111) (by decide +kernel)) rfl
theorem q112 : Cond.classLink RX1 219 "java/lang/IllegalArgumentException" ∈ LW := LW_of (List.mem_of_getElem? (i := 112) (by decide +kernel)) rfl
theorem q113 : Cond.instantiable "java/lang/IllegalArgumentException" 6 ∈ LW := LW_of (List.mem_of_getElem? (i := 113) (by decide +kernel)) rfl
theorem q133 : Cond.fieldLink "java/lang/Throwable" 198 "java/lang/Throwable" "backtrace" "Ljava/lang/Object;" ∈ LW := LW_of (List.mem_of_getElem? (i := 133) (by decide +kernel)) rfl
theorem q137 : Cond.methodLink "java/lang/Throwable" 1 objectInit ∈ LW := LW_of (List.mem_of_getElem? (i := 137) (by decide +kernel)) rfl
theorem q138 : Cond.fieldLink "java/lang/Throwable" 13 "java/lang/Throwable" "UNASSIGNED_STACK" "[Ljava/lang/StackTraceElement;" ∈ LW := LW_of (List.mem_of_getElem? (i := 138) (by decide +kernel)) rfl
theorem q140 : Cond.fieldLink "java/lang/Throwable" 20 "java/lang/Throwable" "SUPPRESSED_SENTINEL" "Ljava/util/List;" ∈ LW := LW_of (List.mem_of_getElem? (i := 140) (by decide +kernel)) rfl
theorem q151 : Cond.instantiable "java/lang/Throwable" 6 ∈ LW := LW_of (List.mem_of_getElem? (i := 151) (by decide +kernel)) rfl
theorem q167 : Cond.fieldLink "java/lang/Throwable" 31 "java/lang/Throwable" "detailMessage" "Ljava/lang/String;" ∈ LW := LW_of (List.mem_of_getElem? (i := 167) (by decide +kernel)) rfl
theorem q168 : Cond.fieldLink "java/lang/Throwable" 7 "java/lang/Throwable" "cause" "Ljava/lang/Throwable;" ∈ LW := LW_of (List.mem_of_getElem? (i := 168) (by decide +kernel)) rfl
theorem q169 : Cond.fieldLink "java/lang/Throwable" 17 "java/lang/Throwable" "stackTrace" "[Ljava/lang/StackTraceElement;" ∈ LW := LW_of (List.mem_of_getElem? (i := 169) (by decide +kernel)) rfl
theorem q170 : Cond.fieldLink "java/lang/Throwable" 24 "java/lang/Throwable" "suppressedExceptions" "Ljava/util/List;" ∈ LW := LW_of (List.mem_of_getElem? (i := 170) (by decide +kernel)) rfl
theorem q180 : Cond.methodLink RX1 64 yX0_countRuined ∈ LW := LW_of (List.mem_of_getElem? (i := 180) (by decide +kernel)) rfl
theorem q181 : Cond.instanceMethod yX0_countRuined ∈ LW := LW_of (List.mem_of_getElem? (i := 181) (by decide +kernel)) rfl
theorem q182 : Cond.selects RX0 yX0_countRuined yX0_countRuined ∈ LW := LW_of (List.mem_of_getElem? (i := 182) (by decide +kernel)) rfl
theorem q183 : Cond.code yX0_countRuined cX0_countRuined 3 (some .int) ∈ LW := LW_of (List.mem_of_getElem? (i := 183) (by decide +kernel)) rfl
theorem q184 : Cond.methodLink RX1 68 yX0_passHours ∈ LW := LW_of (List.mem_of_getElem? (i := 184) (by decide +kernel)) rfl
theorem q185 : Cond.instanceMethod yX0_passHours ∈ LW := LW_of (List.mem_of_getElem? (i := 185) (by decide +kernel)) rfl
theorem q186 : Cond.selects RX0 yX0_passHours yX0_passHours ∈ LW := LW_of (List.mem_of_getElem? (i := 186) (by decide +kernel)) rfl
theorem q187 : Cond.code yX0_passHours cX0_passHours 3 none ∈ LW := LW_of (List.mem_of_getElem? (i := 187) (by decide +kernel)) rfl
theorem q188 : Cond.methodLink RX0 60 yX0_passHour ∈ LW := LW_of (List.mem_of_getElem? (i := 188) (by decide +kernel)) rfl
theorem q189 : Cond.instanceMethod yX0_passHour ∈ LW := LW_of (List.mem_of_getElem? (i := 189) (by decide +kernel)) rfl
theorem q190 : Cond.selects RX0 yX0_passHour yX0_passHour ∈ LW := LW_of (List.mem_of_getElem? (i := 190) (by decide +kernel)) rfl
theorem q191 : Cond.code yX0_passHour cX0_passHour 2 none ∈ LW := LW_of (List.mem_of_getElem? (i := 191) (by decide +kernel)) rfl
theorem q192 : Cond.methodLink RX0 66 yX0_flowNow ∈ LW := LW_of (List.mem_of_getElem? (i := 192) (by decide +kernel)) rfl
theorem q193 : Cond.instanceMethod yX0_flowNow ∈ LW := LW_of (List.mem_of_getElem? (i := 193) (by decide +kernel)) rfl
theorem q194 : Cond.selects RX0 yX0_flowNow yX0_flowNow ∈ LW := LW_of (List.mem_of_getElem? (i := 194) (by decide +kernel)) rfl
theorem q195 : Cond.code yX0_flowNow cX0_flowNow 5 (some .int) ∈ LW := LW_of (List.mem_of_getElem? (i := 195) (by decide +kernel)) rfl
theorem q196 : Cond.methodLink RX0 53 yX0_hasDrain ∈ LW := LW_of (List.mem_of_getElem? (i := 196) (by decide +kernel)) rfl
theorem q197 : Cond.instanceMethod yX0_hasDrain ∈ LW := LW_of (List.mem_of_getElem? (i := 197) (by decide +kernel)) rfl
theorem q198 : Cond.selects RX0 yX0_hasDrain yX0_hasDrain ∈ LW := LW_of (List.mem_of_getElem? (i := 198) (by decide +kernel)) rfl
theorem q199 : Cond.code yX0_hasDrain cX0_hasDrain 2 (some .boolean) ∈ LW := LW_of (List.mem_of_getElem? (i := 199) (by decide +kernel)) rfl
theorem q200 : Cond.methodLink RX0 57 yX0_hasField ∈ LW := LW_of (List.mem_of_getElem? (i := 200) (by decide +kernel)) rfl
theorem q201 : Cond.instanceMethod yX0_hasField ∈ LW := LW_of (List.mem_of_getElem? (i := 201) (by decide +kernel)) rfl
theorem q202 : Cond.selects RX0 yX0_hasField yX0_hasField ∈ LW := LW_of (List.mem_of_getElem? (i := 202) (by decide +kernel)) rfl
theorem q203 : Cond.code yX0_hasField cX0_hasField 2 (some .boolean) ∈ LW := LW_of (List.mem_of_getElem? (i := 203) (by decide +kernel)) rfl
theorem q204 : Cond.methodLink RX0 91 Lib.Math.min.name ∈ LW := LW_of (List.mem_of_getElem? (i := 204) (by decide +kernel)) rfl
theorem q205 : Cond.static Lib.Math.min.name ∈ LW := LW_of (List.mem_of_getElem? (i := 205) (by decide +kernel)) rfl
theorem q206 : Cond.code Lib.Math.min.name Lib.Math.min.code 2 (some .int) ∈ LW := LW_of (List.mem_of_getElem? (i := 206) (by decide +kernel)) rfl
theorem q207 : Cond.methodLink RX0 70 yX0_letFlow ∈ LW := LW_of (List.mem_of_getElem? (i := 207) (by decide +kernel)) rfl
theorem q209 : Cond.instanceMethod yX0_letFlow ∈ LW := LW_of (List.mem_of_getElem? (i := 209) (by decide +kernel)) rfl
theorem q210 : Cond.code yX0_letFlow cX0_letFlow 3 none ∈ LW := LW_of (List.mem_of_getElem? (i := 210) (by decide +kernel)) rfl
theorem q211 : Cond.methodLink RX0 80 yX0_letWaterIn ∈ LW := LW_of (List.mem_of_getElem? (i := 211) (by decide +kernel)) rfl
theorem q212 : Cond.instanceMethod yX0_letWaterIn ∈ LW := LW_of (List.mem_of_getElem? (i := 212) (by decide +kernel)) rfl
theorem q213 : Cond.selects RX0 yX0_letWaterIn yX0_letWaterIn ∈ LW := LW_of (List.mem_of_getElem? (i := 213) (by decide +kernel)) rfl
theorem q214 : Cond.code yX0_letWaterIn cX0_letWaterIn 3 none ∈ LW := LW_of (List.mem_of_getElem? (i := 214) (by decide +kernel)) rfl
theorem q215 : Cond.methodLink RX0 86 Lib.Math.abs.name ∈ LW := LW_of (List.mem_of_getElem? (i := 215) (by decide +kernel)) rfl
theorem q216 : Cond.static Lib.Math.abs.name ∈ LW := LW_of (List.mem_of_getElem? (i := 216) (by decide +kernel)) rfl
theorem q217 : Cond.code Lib.Math.abs.name Lib.Math.abs.code 1 (some .int) ∈ LW := LW_of (List.mem_of_getElem? (i := 217) (by decide +kernel)) rfl
theorem q218 : Cond.methodLink RX0 74 yX0_countWetHours ∈ LW := LW_of (List.mem_of_getElem? (i := 218) (by decide +kernel)) rfl
theorem q220 : Cond.instanceMethod yX0_countWetHours ∈ LW := LW_of (List.mem_of_getElem? (i := 220) (by decide +kernel)) rfl
theorem q221 : Cond.code yX0_countWetHours cX0_countWetHours 2 none ∈ LW := LW_of (List.mem_of_getElem? (i := 221) (by decide +kernel)) rfl
theorem q222 : Cond.methodLink RX0 95 yX0_isWet ∈ LW := LW_of (List.mem_of_getElem? (i := 222) (by decide +kernel)) rfl
theorem q223 : Cond.instanceMethod yX0_isWet ∈ LW := LW_of (List.mem_of_getElem? (i := 223) (by decide +kernel)) rfl
theorem q224 : Cond.selects RX0 yX0_isWet yX0_isWet ∈ LW := LW_of (List.mem_of_getElem? (i := 224) (by decide +kernel)) rfl
theorem q225 : Cond.code yX0_isWet cX0_isWet 2 (some .boolean) ∈ LW := LW_of (List.mem_of_getElem? (i := 225) (by decide +kernel)) rfl
theorem q226 : Cond.methodLink RL 78 yX1_fields ∈ LW := LW_of (List.mem_of_getElem? (i := 226) (by decide +kernel)) rfl
theorem q227 : Cond.instanceMethod yX1_fields ∈ LW := LW_of (List.mem_of_getElem? (i := 227) (by decide +kernel)) rfl
theorem q228 : Cond.selects RX1 yX1_fields yX1_fields ∈ LW := LW_of (List.mem_of_getElem? (i := 228) (by decide +kernel)) rfl
theorem q229 : Cond.code yX1_fields cX1_fields 1 (some .int) ∈ LW := LW_of (List.mem_of_getElem? (i := 229) (by decide +kernel)) rfl
theorem q230 : Cond.methodLink RL 105 yX1_drains ∈ LW := LW_of (List.mem_of_getElem? (i := 230) (by decide +kernel)) rfl
theorem q231 : Cond.instanceMethod yX1_drains ∈ LW := LW_of (List.mem_of_getElem? (i := 231) (by decide +kernel)) rfl
theorem q232 : Cond.selects RX1 yX1_drains yX1_drains ∈ LW := LW_of (List.mem_of_getElem? (i := 232) (by decide +kernel)) rfl
theorem q233 : Cond.code yX1_drains cX1_drains 1 (some .int) ∈ LW := LW_of (List.mem_of_getElem? (i := 233) (by decide +kernel)) rfl
theorem q234 : Cond.methodLink RL 153 yX1_rain ∈ LW := LW_of (List.mem_of_getElem? (i := 234) (by decide +kernel)) rfl
theorem q235 : Cond.instanceMethod yX1_rain ∈ LW := LW_of (List.mem_of_getElem? (i := 235) (by decide +kernel)) rfl
theorem q236 : Cond.selects RX1 yX1_rain yX1_rain ∈ LW := LW_of (List.mem_of_getElem? (i := 236) (by decide +kernel)) rfl
theorem q237 : Cond.code yX1_rain cX1_rain 1 (some .int) ∈ LW := LW_of (List.mem_of_getElem? (i := 237) (by decide +kernel)) rfl
theorem q238 : Cond.methodLink RL 150 yX1_water ∈ LW := LW_of (List.mem_of_getElem? (i := 238) (by decide +kernel)) rfl
theorem q239 : Cond.instanceMethod yX1_water ∈ LW := LW_of (List.mem_of_getElem? (i := 239) (by decide +kernel)) rfl
theorem q240 : Cond.selects RX1 yX1_water yX1_water ∈ LW := LW_of (List.mem_of_getElem? (i := 240) (by decide +kernel)) rfl
theorem q241 : Cond.code yX1_water cX1_water 3 (some .int) ∈ LW := LW_of (List.mem_of_getElem? (i := 241) (by decide +kernel)) rfl
theorem q242 : Cond.methodLink RL 124 yX1_drained ∈ LW := LW_of (List.mem_of_getElem? (i := 242) (by decide +kernel)) rfl
theorem q243 : Cond.instanceMethod yX1_drained ∈ LW := LW_of (List.mem_of_getElem? (i := 243) (by decide +kernel)) rfl
theorem q244 : Cond.selects RX1 yX1_drained yX1_drained ∈ LW := LW_of (List.mem_of_getElem? (i := 244) (by decide +kernel)) rfl
theorem q245 : Cond.code yX1_drained cX1_drained 1 (some .int) ∈ LW := LW_of (List.mem_of_getElem? (i := 245) (by decide +kernel)) rfl
theorem q246 : Cond.methodLink RL 121 yX1_loss ∈ LW := LW_of (List.mem_of_getElem? (i := 246) (by decide +kernel)) rfl
theorem q247 : Cond.instanceMethod yX1_loss ∈ LW := LW_of (List.mem_of_getElem? (i := 247) (by decide +kernel)) rfl
theorem q248 : Cond.selects RX1 yX1_loss yX1_loss ∈ LW := LW_of (List.mem_of_getElem? (i := 248) (by decide +kernel)) rfl
theorem q249 : Cond.code yX1_loss cX1_loss 1 (some .int) ∈ LW := LW_of (List.mem_of_getElem? (i := 249) (by decide +kernel)) rfl
theorem q250 : Cond.methodLink RX1 87 yX0_lostWorth ∈ LW := LW_of (List.mem_of_getElem? (i := 250) (by decide +kernel)) rfl
theorem q251 : Cond.instanceMethod yX0_lostWorth ∈ LW := LW_of (List.mem_of_getElem? (i := 251) (by decide +kernel)) rfl
theorem q252 : Cond.selects RX0 yX0_lostWorth yX0_lostWorth ∈ LW := LW_of (List.mem_of_getElem? (i := 252) (by decide +kernel)) rfl
theorem q253 : Cond.code yX0_lostWorth cX0_lostWorth 3 (some .int) ∈ LW := LW_of (List.mem_of_getElem? (i := 253) (by decide +kernel)) rfl
theorem q254 : Cond.methodLink RL 84 yX1_waterOn ∈ LW := LW_of (List.mem_of_getElem? (i := 254) (by decide +kernel)) rfl
theorem q255 : Cond.instanceMethod yX1_waterOn ∈ LW := LW_of (List.mem_of_getElem? (i := 255) (by decide +kernel)) rfl
theorem q256 : Cond.selects RX1 yX1_waterOn yX1_waterOn ∈ LW := LW_of (List.mem_of_getElem? (i := 256) (by decide +kernel)) rfl
theorem q257 : Cond.code yX1_waterOn cX1_waterOn 2 (some .int) ∈ LW := LW_of (List.mem_of_getElem? (i := 257) (by decide +kernel)) rfl
theorem q258 : Cond.methodLink RX1 34 yX1_requireField ∈ LW := LW_of (List.mem_of_getElem? (i := 258) (by decide +kernel)) rfl
theorem q260 : Cond.instanceMethod yX1_requireField ∈ LW := LW_of (List.mem_of_getElem? (i := 260) (by decide +kernel)) rfl
theorem q261 : Cond.code yX1_requireField cX1_requireField 2 none ∈ LW := LW_of (List.mem_of_getElem? (i := 261) (by decide +kernel)) rfl
theorem q262 : Cond.methodLink RX1 229 yX0_hasField ∈ LW := LW_of (List.mem_of_getElem? (i := 262) (by decide +kernel)) rfl
theorem q263 : Cond.classLink RX1 232 "java/lang/IndexOutOfBoundsException" ∈ LW := LW_of (List.mem_of_getElem? (i := 263) (by decide +kernel)) rfl
theorem q264 : Cond.instantiable "java/lang/IndexOutOfBoundsException" 6 ∈ LW := LW_of (List.mem_of_getElem? (i := 264) (by decide +kernel)) rfl
theorem q279 : Cond.methodLink RL 87 yX1_levelOf ∈ LW := LW_of (List.mem_of_getElem? (i := 279) (by decide +kernel)) rfl
theorem q280 : Cond.instanceMethod yX1_levelOf ∈ LW := LW_of (List.mem_of_getElem? (i := 280) (by decide +kernel)) rfl
theorem q281 : Cond.selects RX1 yX1_levelOf yX1_levelOf ∈ LW := LW_of (List.mem_of_getElem? (i := 281) (by decide +kernel)) rfl
theorem q282 : Cond.code yX1_levelOf cX1_levelOf 2 (some .int) ∈ LW := LW_of (List.mem_of_getElem? (i := 282) (by decide +kernel)) rfl
theorem q283 : Cond.methodLink RX1 90 yX0_levelAt ∈ LW := LW_of (List.mem_of_getElem? (i := 283) (by decide +kernel)) rfl
theorem q284 : Cond.instanceMethod yX0_levelAt ∈ LW := LW_of (List.mem_of_getElem? (i := 284) (by decide +kernel)) rfl
theorem q285 : Cond.selects RX0 yX0_levelAt yX0_levelAt ∈ LW := LW_of (List.mem_of_getElem? (i := 285) (by decide +kernel)) rfl
theorem q286 : Cond.code yX0_levelAt cX0_levelAt 2 (some .int) ∈ LW := LW_of (List.mem_of_getElem? (i := 286) (by decide +kernel)) rfl
theorem q287 : Cond.methodLink RL 93 yX1_wetFor ∈ LW := LW_of (List.mem_of_getElem? (i := 287) (by decide +kernel)) rfl
theorem q288 : Cond.instanceMethod yX1_wetFor ∈ LW := LW_of (List.mem_of_getElem? (i := 288) (by decide +kernel)) rfl
theorem q289 : Cond.selects RX1 yX1_wetFor yX1_wetFor ∈ LW := LW_of (List.mem_of_getElem? (i := 289) (by decide +kernel)) rfl
theorem q290 : Cond.code yX1_wetFor cX1_wetFor 2 (some .int) ∈ LW := LW_of (List.mem_of_getElem? (i := 290) (by decide +kernel)) rfl
theorem q291 : Cond.methodLink RL 81 yX1_isRuined ∈ LW := LW_of (List.mem_of_getElem? (i := 291) (by decide +kernel)) rfl
theorem q292 : Cond.instanceMethod yX1_isRuined ∈ LW := LW_of (List.mem_of_getElem? (i := 292) (by decide +kernel)) rfl
theorem q293 : Cond.selects RX1 yX1_isRuined yX1_isRuined ∈ LW := LW_of (List.mem_of_getElem? (i := 293) (by decide +kernel)) rfl
theorem q294 : Cond.code yX1_isRuined cX1_isRuined 2 (some .boolean) ∈ LW := LW_of (List.mem_of_getElem? (i := 294) (by decide +kernel)) rfl
theorem q295 : Cond.methodLink RL 102 yX1_drainsAt ∈ LW := LW_of (List.mem_of_getElem? (i := 295) (by decide +kernel)) rfl
theorem q296 : Cond.instanceMethod yX1_drainsAt ∈ LW := LW_of (List.mem_of_getElem? (i := 296) (by decide +kernel)) rfl
theorem q297 : Cond.selects RX1 yX1_drainsAt yX1_drainsAt ∈ LW := LW_of (List.mem_of_getElem? (i := 297) (by decide +kernel)) rfl
theorem q298 : Cond.code yX1_drainsAt cX1_drainsAt 4 (some .int) ∈ LW := LW_of (List.mem_of_getElem? (i := 298) (by decide +kernel)) rfl
theorem q299 : Cond.methodLink RL 99 yX1_reaches ∈ LW := LW_of (List.mem_of_getElem? (i := 299) (by decide +kernel)) rfl
theorem q300 : Cond.instanceMethod yX1_reaches ∈ LW := LW_of (List.mem_of_getElem? (i := 300) (by decide +kernel)) rfl
theorem q301 : Cond.selects RX1 yX1_reaches yX1_reaches ∈ LW := LW_of (List.mem_of_getElem? (i := 301) (by decide +kernel)) rfl
theorem q302 : Cond.code yX1_reaches cX1_reaches 4 (some .int) ∈ LW := LW_of (List.mem_of_getElem? (i := 302) (by decide +kernel)) rfl
theorem q303 : Cond.methodLink RX1 106 yX0_spreadByDrains ∈ LW := LW_of (List.mem_of_getElem? (i := 303) (by decide +kernel)) rfl
theorem q304 : Cond.instanceMethod yX0_spreadByDrains ∈ LW := LW_of (List.mem_of_getElem? (i := 304) (by decide +kernel)) rfl
theorem q305 : Cond.selects RX0 yX0_spreadByDrains yX0_spreadByDrains ∈ LW := LW_of (List.mem_of_getElem? (i := 305) (by decide +kernel)) rfl
theorem q306 : Cond.code yX0_spreadByDrains cX0_spreadByDrains 6 (some .int) ∈ LW := LW_of (List.mem_of_getElem? (i := 306) (by decide +kernel)) rfl
theorem q307 : Cond.methodLink RX1 109 yJ6_bitCount_0f7a4 ∈ LW := LW_of (List.mem_of_getElem? (i := 307) (by decide +kernel)) rfl
theorem q308 : Cond.static yJ6_bitCount_0f7a4 ∈ LW := LW_of (List.mem_of_getElem? (i := 308) (by decide +kernel)) rfl
theorem q309 : Cond.code yJ6_bitCount_0f7a4 cJ6_bitCount_0f7a4 1 (some .int) ∈ LW := LW_of (List.mem_of_getElem? (i := 309) (by decide +kernel)) rfl
theorem q310 : Cond.constant RJ6 265 1431655765 ∈ LW := LW_of (List.mem_of_getElem? (i := 310) (by decide +kernel)) rfl
theorem q311 : Cond.constant RJ6 266 858993459 ∈ LW := LW_of (List.mem_of_getElem? (i := 311) (by decide +kernel)) rfl
theorem q312 : Cond.constant RJ6 267 252645135 ∈ LW := LW_of (List.mem_of_getElem? (i := 312) (by decide +kernel)) rfl
theorem q313 : Cond.methodLink RL 90 yX1_highest ∈ LW := LW_of (List.mem_of_getElem? (i := 313) (by decide +kernel)) rfl
theorem q314 : Cond.instanceMethod yX1_highest ∈ LW := LW_of (List.mem_of_getElem? (i := 314) (by decide +kernel)) rfl
theorem q315 : Cond.selects RX1 yX1_highest yX1_highest ∈ LW := LW_of (List.mem_of_getElem? (i := 315) (by decide +kernel)) rfl
theorem q316 : Cond.code yX1_highest cX1_highest 5 (some .int) ∈ LW := LW_of (List.mem_of_getElem? (i := 316) (by decide +kernel)) rfl
theorem q317 : Cond.methodLink RL 113 yX1_isOpen ∈ LW := LW_of (List.mem_of_getElem? (i := 317) (by decide +kernel)) rfl
theorem q318 : Cond.instanceMethod yX1_isOpen ∈ LW := LW_of (List.mem_of_getElem? (i := 318) (by decide +kernel)) rfl
theorem q319 : Cond.selects RX1 yX1_isOpen yX1_isOpen ∈ LW := LW_of (List.mem_of_getElem? (i := 319) (by decide +kernel)) rfl
theorem q320 : Cond.code yX1_isOpen cX1_isOpen 2 (some .boolean) ∈ LW := LW_of (List.mem_of_getElem? (i := 320) (by decide +kernel)) rfl
theorem q321 : Cond.methodLink RX1 42 yX1_requireDrain ∈ LW := LW_of (List.mem_of_getElem? (i := 321) (by decide +kernel)) rfl
theorem q323 : Cond.instanceMethod yX1_requireDrain ∈ LW := LW_of (List.mem_of_getElem? (i := 323) (by decide +kernel)) rfl
theorem q324 : Cond.code yX1_requireDrain cX1_requireDrain 2 none ∈ LW := LW_of (List.mem_of_getElem? (i := 324) (by decide +kernel)) rfl
theorem q325 : Cond.methodLink RX1 237 yX0_hasDrain ∈ LW := LW_of (List.mem_of_getElem? (i := 325) (by decide +kernel)) rfl
theorem q327 : Cond.methodLink RL 110 yX1_carriedBy ∈ LW := LW_of (List.mem_of_getElem? (i := 327) (by decide +kernel)) rfl
theorem q328 : Cond.instanceMethod yX1_carriedBy ∈ LW := LW_of (List.mem_of_getElem? (i := 328) (by decide +kernel)) rfl
theorem q329 : Cond.selects RX1 yX1_carriedBy yX1_carriedBy ∈ LW := LW_of (List.mem_of_getElem? (i := 329) (by decide +kernel)) rfl
theorem q330 : Cond.code yX1_carriedBy cX1_carriedBy 2 (some .int) ∈ LW := LW_of (List.mem_of_getElem? (i := 330) (by decide +kernel)) rfl
theorem q331 : Cond.methodLink RL 107 yX1_wouldCarry ∈ LW := LW_of (List.mem_of_getElem? (i := 331) (by decide +kernel)) rfl
theorem q332 : Cond.instanceMethod yX1_wouldCarry ∈ LW := LW_of (List.mem_of_getElem? (i := 332) (by decide +kernel)) rfl
theorem q333 : Cond.selects RX1 yX1_wouldCarry yX1_wouldCarry ∈ LW := LW_of (List.mem_of_getElem? (i := 333) (by decide +kernel)) rfl
theorem q334 : Cond.code yX1_wouldCarry cX1_wouldCarry 2 (some .int) ∈ LW := LW_of (List.mem_of_getElem? (i := 334) (by decide +kernel)) rfl
theorem q335 : Cond.methodLink RX1 120 yX0_flowNow ∈ LW := LW_of (List.mem_of_getElem? (i := 335) (by decide +kernel)) rfl
theorem q336 : Cond.methodLink RX1 123 Lib.Math.abs.name ∈ LW := LW_of (List.mem_of_getElem? (i := 336) (by decide +kernel)) rfl
theorem q337 : Cond.methodLink RL 96 yX1_hoursUntilRuined ∈ LW := LW_of (List.mem_of_getElem? (i := 337) (by decide +kernel)) rfl
theorem q338 : Cond.instanceMethod yX1_hoursUntilRuined ∈ LW := LW_of (List.mem_of_getElem? (i := 338) (by decide +kernel)) rfl
theorem q339 : Cond.selects RX1 yX1_hoursUntilRuined yX1_hoursUntilRuined ∈ LW := LW_of (List.mem_of_getElem? (i := 339) (by decide +kernel)) rfl
theorem q340 : Cond.code yX1_hoursUntilRuined cX1_hoursUntilRuined 3 (some .int) ∈ LW := LW_of (List.mem_of_getElem? (i := 340) (by decide +kernel)) rfl
theorem q341 : Cond.methodLink RX1 128 yX0_becomeLike ∈ LW := LW_of (List.mem_of_getElem? (i := 341) (by decide +kernel)) rfl
theorem q342 : Cond.instanceMethod yX0_becomeLike ∈ LW := LW_of (List.mem_of_getElem? (i := 342) (by decide +kernel)) rfl
theorem q343 : Cond.selects RX0 yX0_becomeLike yX0_becomeLike ∈ LW := LW_of (List.mem_of_getElem? (i := 343) (by decide +kernel)) rfl
theorem q344 : Cond.code yX0_becomeLike cX0_becomeLike 3 none ∈ LW := LW_of (List.mem_of_getElem? (i := 344) (by decide +kernel)) rfl
theorem q345 : Cond.methodLink RX1 132 yX0_passHour ∈ LW := LW_of (List.mem_of_getElem? (i := 345) (by decide +kernel)) rfl
theorem q346 : Cond.methodLink RL 127 yX1_lossIn ∈ LW := LW_of (List.mem_of_getElem? (i := 346) (by decide +kernel)) rfl
theorem q347 : Cond.instanceMethod yX1_lossIn ∈ LW := LW_of (List.mem_of_getElem? (i := 347) (by decide +kernel)) rfl
theorem q348 : Cond.selects RX1 yX1_lossIn yX1_lossIn ∈ LW := LW_of (List.mem_of_getElem? (i := 348) (by decide +kernel)) rfl
theorem q349 : Cond.code yX1_lossIn cX1_lossIn 2 (some .int) ∈ LW := LW_of (List.mem_of_getElem? (i := 349) (by decide +kernel)) rfl
theorem q350 : Cond.methodLink RL 147 yX1_waterIn ∈ LW := LW_of (List.mem_of_getElem? (i := 350) (by decide +kernel)) rfl
theorem q351 : Cond.instanceMethod yX1_waterIn ∈ LW := LW_of (List.mem_of_getElem? (i := 351) (by decide +kernel)) rfl
theorem q352 : Cond.selects RX1 yX1_waterIn yX1_waterIn ∈ LW := LW_of (List.mem_of_getElem? (i := 352) (by decide +kernel)) rfl
theorem q353 : Cond.code yX1_waterIn cX1_waterIn 3 (some .int) ∈ LW := LW_of (List.mem_of_getElem? (i := 353) (by decide +kernel)) rfl
theorem q354 : Cond.methodLink RL 130 yX1_bestToTurn ∈ LW := LW_of (List.mem_of_getElem? (i := 354) (by decide +kernel)) rfl
theorem q355 : Cond.instanceMethod yX1_bestToTurn ∈ LW := LW_of (List.mem_of_getElem? (i := 355) (by decide +kernel)) rfl
theorem q356 : Cond.selects RX1 yX1_bestToTurn yX1_bestToTurn ∈ LW := LW_of (List.mem_of_getElem? (i := 356) (by decide +kernel)) rfl
theorem q357 : Cond.code yX1_bestToTurn cX1_bestToTurn 5 (some .int) ∈ LW := LW_of (List.mem_of_getElem? (i := 357) (by decide +kernel)) rfl
theorem q358 : Cond.methodLink RX1 45 yX0_turnDrain ∈ LW := LW_of (List.mem_of_getElem? (i := 358) (by decide +kernel)) rfl
theorem q359 : Cond.instanceMethod yX0_turnDrain ∈ LW := LW_of (List.mem_of_getElem? (i := 359) (by decide +kernel)) rfl
theorem q360 : Cond.selects RX0 yX0_turnDrain yX0_turnDrain ∈ LW := LW_of (List.mem_of_getElem? (i := 360) (by decide +kernel)) rfl
theorem q361 : Cond.code yX0_turnDrain cX0_turnDrain 2 none ∈ LW := LW_of (List.mem_of_getElem? (i := 361) (by decide +kernel)) rfl
theorem q362 : Cond.methodLink RL 138 yX1_bestToFlood ∈ LW := LW_of (List.mem_of_getElem? (i := 362) (by decide +kernel)) rfl
theorem q363 : Cond.instanceMethod yX1_bestToFlood ∈ LW := LW_of (List.mem_of_getElem? (i := 363) (by decide +kernel)) rfl
theorem q364 : Cond.selects RX1 yX1_bestToFlood yX1_bestToFlood ∈ LW := LW_of (List.mem_of_getElem? (i := 364) (by decide +kernel)) rfl
theorem q365 : Cond.code yX1_bestToFlood cX1_bestToFlood 6 (some .int) ∈ LW := LW_of (List.mem_of_getElem? (i := 365) (by decide +kernel)) rfl
theorem q366 : Cond.methodLink RX1 56 yX0_letWaterIn ∈ LW := LW_of (List.mem_of_getElem? (i := 366) (by decide +kernel)) rfl
theorem q367 : Cond.methodLink RL 141 yX1_rainBorne ∈ LW := LW_of (List.mem_of_getElem? (i := 367) (by decide +kernel)) rfl
theorem q368 : Cond.instanceMethod yX1_rainBorne ∈ LW := LW_of (List.mem_of_getElem? (i := 368) (by decide +kernel)) rfl
theorem q369 : Cond.selects RX1 yX1_rainBorne yX1_rainBorne ∈ LW := LW_of (List.mem_of_getElem? (i := 369) (by decide +kernel)) rfl
theorem q370 : Cond.code yX1_rainBorne cX1_rainBorne 3 (some .int) ∈ LW := LW_of (List.mem_of_getElem? (i := 370) (by decide +kernel)) rfl
theorem q371 : Cond.methodLink RL 74 yX1_digest ∈ LW := LW_of (List.mem_of_getElem? (i := 371) (by decide +kernel)) rfl
theorem q372 : Cond.instanceMethod yX1_digest ∈ LW := LW_of (List.mem_of_getElem? (i := 372) (by decide +kernel)) rfl
theorem q373 : Cond.selects RX1 yX1_digest yX1_digest ∈ LW := LW_of (List.mem_of_getElem? (i := 373) (by decide +kernel)) rfl
theorem q374 : Cond.code yX1_digest cX1_digest 3 (some .long) ∈ LW := LW_of (List.mem_of_getElem? (i := 374) (by decide +kernel)) rfl
theorem q375 : Cond.constantLong RX1 138 2341 ∈ LW := LW_of (List.mem_of_getElem? (i := 375) (by decide +kernel)) rfl
theorem q376 : Cond.methodLink RX1 140 yX1_hour ∈ LW := LW_of (List.mem_of_getElem? (i := 376) (by decide +kernel)) rfl
theorem q377 : Cond.instanceMethod yX1_hour ∈ LW := LW_of (List.mem_of_getElem? (i := 377) (by decide +kernel)) rfl
theorem q378 : Cond.selects RX1 yX1_hour yX1_hour ∈ LW := LW_of (List.mem_of_getElem? (i := 378) (by decide +kernel)) rfl
theorem q379 : Cond.code yX1_hour cX1_hour 1 (some .int) ∈ LW := LW_of (List.mem_of_getElem? (i := 379) (by decide +kernel)) rfl
theorem q380 : Cond.methodLink RX1 143 yX1_mix ∈ LW := LW_of (List.mem_of_getElem? (i := 380) (by decide +kernel)) rfl
theorem q381 : Cond.static yX1_mix ∈ LW := LW_of (List.mem_of_getElem? (i := 381) (by decide +kernel)) rfl
theorem q382 : Cond.code yX1_mix cX1_mix 3 (some .long) ∈ LW := LW_of (List.mem_of_getElem? (i := 382) (by decide +kernel)) rfl
theorem q383 : Cond.constantLong RX1 217 31 ∈ LW := LW_of (List.mem_of_getElem? (i := 383) (by decide +kernel)) rfl
theorem q384 : Cond.methodLink RX1 147 yX1_fields ∈ LW := LW_of (List.mem_of_getElem? (i := 384) (by decide +kernel)) rfl
theorem q385 : Cond.methodLink RX1 150 yX1_drains ∈ LW := LW_of (List.mem_of_getElem? (i := 385) (by decide +kernel)) rfl
theorem q386 : Cond.methodLink RX1 153 yX1_rain ∈ LW := LW_of (List.mem_of_getElem? (i := 386) (by decide +kernel)) rfl
theorem q387 : Cond.methodLink RX1 135 yX1_water ∈ LW := LW_of (List.mem_of_getElem? (i := 387) (by decide +kernel)) rfl
theorem q388 : Cond.methodLink RX1 156 yX1_drained ∈ LW := LW_of (List.mem_of_getElem? (i := 388) (by decide +kernel)) rfl
theorem q389 : Cond.methodLink RX1 159 yX1_wetFields ∈ LW := LW_of (List.mem_of_getElem? (i := 389) (by decide +kernel)) rfl
theorem q390 : Cond.instanceMethod yX1_wetFields ∈ LW := LW_of (List.mem_of_getElem? (i := 390) (by decide +kernel)) rfl
theorem q391 : Cond.selects RX1 yX1_wetFields yX1_wetFields ∈ LW := LW_of (List.mem_of_getElem? (i := 391) (by decide +kernel)) rfl
theorem q392 : Cond.code yX1_wetFields cX1_wetFields 3 (some .int) ∈ LW := LW_of (List.mem_of_getElem? (i := 392) (by decide +kernel)) rfl
theorem q393 : Cond.methodLink RX1 83 yX0_isWet ∈ LW := LW_of (List.mem_of_getElem? (i := 393) (by decide +kernel)) rfl
theorem q394 : Cond.methodLink RX1 162 yX1_loss ∈ LW := LW_of (List.mem_of_getElem? (i := 394) (by decide +kernel)) rfl
theorem q395 : Cond.methodLink RX1 165 yX1_highest ∈ LW := LW_of (List.mem_of_getElem? (i := 395) (by decide +kernel)) rfl
theorem q396 : Cond.methodLink RX1 168 yX1_busiest ∈ LW := LW_of (List.mem_of_getElem? (i := 396) (by decide +kernel)) rfl
theorem q397 : Cond.instanceMethod yX1_busiest ∈ LW := LW_of (List.mem_of_getElem? (i := 397) (by decide +kernel)) rfl
theorem q398 : Cond.selects RX1 yX1_busiest yX1_busiest ∈ LW := LW_of (List.mem_of_getElem? (i := 398) (by decide +kernel)) rfl
theorem q399 : Cond.code yX1_busiest cX1_busiest 5 (some .int) ∈ LW := LW_of (List.mem_of_getElem? (i := 399) (by decide +kernel)) rfl
theorem q400 : Cond.methodLink RX1 171 yX1_lossIn ∈ LW := LW_of (List.mem_of_getElem? (i := 400) (by decide +kernel)) rfl
theorem q401 : Cond.methodLink RX1 174 yX1_bestToTurn ∈ LW := LW_of (List.mem_of_getElem? (i := 401) (by decide +kernel)) rfl
theorem q402 : Cond.methodLink RX1 177 yX1_bestToFlood ∈ LW := LW_of (List.mem_of_getElem? (i := 402) (by decide +kernel)) rfl
theorem q403 : Cond.methodLink RX1 180 yX1_rainBorne ∈ LW := LW_of (List.mem_of_getElem? (i := 403) (by decide +kernel)) rfl
theorem q404 : Cond.methodLink RX1 183 yX1_mixFields ∈ LW := LW_of (List.mem_of_getElem? (i := 404) (by decide +kernel)) rfl
theorem q406 : Cond.instanceMethod yX1_mixFields ∈ LW := LW_of (List.mem_of_getElem? (i := 406) (by decide +kernel)) rfl
theorem q407 : Cond.code yX1_mixFields cX1_mixFields 6 (some .long) ∈ LW := LW_of (List.mem_of_getElem? (i := 407) (by decide +kernel)) rfl
theorem q408 : Cond.methodLink RX1 190 yX1_waterOn ∈ LW := LW_of (List.mem_of_getElem? (i := 408) (by decide +kernel)) rfl
theorem q409 : Cond.methodLink RX1 193 yX1_wetFor ∈ LW := LW_of (List.mem_of_getElem? (i := 409) (by decide +kernel)) rfl
theorem q410 : Cond.methodLink RX1 196 yX1_isRuined ∈ LW := LW_of (List.mem_of_getElem? (i := 410) (by decide +kernel)) rfl
theorem q411 : Cond.methodLink RX1 199 yX1_drainsAt ∈ LW := LW_of (List.mem_of_getElem? (i := 411) (by decide +kernel)) rfl
theorem q412 : Cond.methodLink RX1 202 yX1_reaches ∈ LW := LW_of (List.mem_of_getElem? (i := 412) (by decide +kernel)) rfl
theorem q413 : Cond.methodLink RX1 205 yX1_hoursUntilRuined ∈ LW := LW_of (List.mem_of_getElem? (i := 413) (by decide +kernel)) rfl
theorem q414 : Cond.methodLink RX1 187 yX1_mixDrains ∈ LW := LW_of (List.mem_of_getElem? (i := 414) (by decide +kernel)) rfl
theorem q416 : Cond.instanceMethod yX1_mixDrains ∈ LW := LW_of (List.mem_of_getElem? (i := 416) (by decide +kernel)) rfl
theorem q417 : Cond.code yX1_mixDrains cX1_mixDrains 6 (some .long) ∈ LW := LW_of (List.mem_of_getElem? (i := 417) (by decide +kernel)) rfl
theorem q418 : Cond.methodLink RX1 208 yX1_isOpen ∈ LW := LW_of (List.mem_of_getElem? (i := 418) (by decide +kernel)) rfl
theorem q419 : Cond.methodLink RX1 211 yX1_carriedBy ∈ LW := LW_of (List.mem_of_getElem? (i := 419) (by decide +kernel)) rfl
theorem q420 : Cond.methodLink RX1 214 yX1_wouldCarry ∈ LW := LW_of (List.mem_of_getElem? (i := 420) (by decide +kernel)) rfl
theorem q421 : Cond.methodLink RL 133 yX2_copy ∈ LW := LW_of (List.mem_of_getElem? (i := 421) (by decide +kernel)) rfl
theorem q422 : Cond.instanceMethod yX2_copy ∈ LW := LW_of (List.mem_of_getElem? (i := 422) (by decide +kernel)) rfl
theorem q423 : Cond.selects RX2 yX2_copy yX2_copy ∈ LW := LW_of (List.mem_of_getElem? (i := 423) (by decide +kernel)) rfl
theorem q425 : Cond.classLink RX2 10 RX2 ∈ LW := LW_of (List.mem_of_getElem? (i := 425) (by decide +kernel)) rfl
theorem q426 : Cond.instantiable RX2 5 ∈ LW := LW_of (List.mem_of_getElem? (i := 426) (by decide +kernel)) rfl
theorem q427 : Cond.methodLink RX2 18 yX2_init ∈ LW := LW_of (List.mem_of_getElem? (i := 427) (by decide +kernel)) rfl
theorem q428 : Cond.instanceMethod yX2_init ∈ LW := LW_of (List.mem_of_getElem? (i := 428) (by decide +kernel)) rfl
theorem q429 : Cond.code yX2_init cX2_init 1 none ∈ LW := LW_of (List.mem_of_getElem? (i := 429) (by decide +kernel)) rfl
theorem q430 : Cond.methodLink RX2 1 objectInit ∈ LW := LW_of (List.mem_of_getElem? (i := 430) (by decide +kernel)) rfl
theorem q431 : Cond.classLink RX2 7 "[I" ∈ LW := LW_of (List.mem_of_getElem? (i := 431) (by decide +kernel)) rfl
theorem q433 : Cond.fieldLink RX2 9 "MarshDrainsLaw$Sim" "fields" "[[I" ∈ LW := LW_of (List.mem_of_getElem? (i := 433) (by decide +kernel)) rfl
theorem q434 : Cond.fieldLink RL 9 "MarshDrainsLaw$Sim" "fields" "[[I" ∈ LW := LW_of (List.mem_of_getElem? (i := 434) (by decide +kernel)) rfl
theorem q435 : Cond.fieldLink RX2 15 "MarshDrainsLaw$Sim" "drains" "[[I" ∈ LW := LW_of (List.mem_of_getElem? (i := 435) (by decide +kernel)) rfl
theorem q436 : Cond.fieldLink RL 15 "MarshDrainsLaw$Sim" "drains" "[[I" ∈ LW := LW_of (List.mem_of_getElem? (i := 436) (by decide +kernel)) rfl
theorem q437 : Cond.fieldLink RX2 23 "MarshDrainsLaw$Sim" "rain" "I" ∈ LW := LW_of (List.mem_of_getElem? (i := 437) (by decide +kernel)) rfl
theorem q438 : Cond.fieldLink RL 44 "MarshDrainsLaw$Sim" "rain" "I" ∈ LW := LW_of (List.mem_of_getElem? (i := 438) (by decide +kernel)) rfl
theorem q439 : Cond.fieldLink RX2 27 "MarshDrainsLaw$Sim" "hour" "I" ∈ LW := LW_of (List.mem_of_getElem? (i := 439) (by decide +kernel)) rfl
theorem q440 : Cond.fieldLink RX2 30 "MarshDrainsLaw$Sim" "sea" "I" ∈ LW := LW_of (List.mem_of_getElem? (i := 440) (by decide +kernel)) rfl
theorem q452 : Cond.methodLink RX2 19 yX2_with ∈ LW := LW_of (List.mem_of_getElem? (i := 452) (by decide +kernel)) rfl
theorem q453 : Cond.static yX2_with ∈ LW := LW_of (List.mem_of_getElem? (i := 453) (by decide +kernel)) rfl
theorem q455 : Cond.methodLink RL 155 yX2_pass ∈ LW := LW_of (List.mem_of_getElem? (i := 455) (by decide +kernel)) rfl
theorem q456 : Cond.instanceMethod yX2_pass ∈ LW := LW_of (List.mem_of_getElem? (i := 456) (by decide +kernel)) rfl
theorem q457 : Cond.selects RX2 yX2_pass yX2_pass ∈ LW := LW_of (List.mem_of_getElem? (i := 457) (by decide +kernel)) rfl
theorem q458 : Cond.code yX2_pass cX2_pass 6 (some .int) ∈ LW := LW_of (List.mem_of_getElem? (i := 458) (by decide +kernel)) rfl
theorem q459 : Cond.methodLink RX2 51 yX2_carry ∈ LW := LW_of (List.mem_of_getElem? (i := 459) (by decide +kernel)) rfl
theorem q460 : Cond.instanceMethod yX2_carry ∈ LW := LW_of (List.mem_of_getElem? (i := 460) (by decide +kernel)) rfl
theorem q461 : Cond.selects RX2 yX2_carry yX2_carry ∈ LW := LW_of (List.mem_of_getElem? (i := 461) (by decide +kernel)) rfl
theorem q462 : Cond.code yX2_carry cX2_carry 4 none ∈ LW := LW_of (List.mem_of_getElem? (i := 462) (by decide +kernel)) rfl
theorem q463 : Cond.methodLink RX2 47 yX2_amount ∈ LW := LW_of (List.mem_of_getElem? (i := 463) (by decide +kernel)) rfl
theorem q464 : Cond.instanceMethod yX2_amount ∈ LW := LW_of (List.mem_of_getElem? (i := 464) (by decide +kernel)) rfl
theorem q465 : Cond.selects RX2 yX2_amount yX2_amount ∈ LW := LW_of (List.mem_of_getElem? (i := 465) (by decide +kernel)) rfl
theorem q466 : Cond.code yX2_amount cX2_amount 6 (some .int) ∈ LW := LW_of (List.mem_of_getElem? (i := 466) (by decide +kernel)) rfl
theorem q467 : Cond.methodLink RX2 37 yX2_isBack ∈ LW := LW_of (List.mem_of_getElem? (i := 467) (by decide +kernel)) rfl
theorem q468 : Cond.instanceMethod yX2_isBack ∈ LW := LW_of (List.mem_of_getElem? (i := 468) (by decide +kernel)) rfl
theorem q469 : Cond.selects RX2 yX2_isBack yX2_isBack ∈ LW := LW_of (List.mem_of_getElem? (i := 469) (by decide +kernel)) rfl
theorem q470 : Cond.code yX2_isBack cX2_isBack 2 (some .boolean) ∈ LW := LW_of (List.mem_of_getElem? (i := 470) (by decide +kernel)) rfl
theorem q471 : Cond.methodLink RX2 33 yX2_level ∈ LW := LW_of (List.mem_of_getElem? (i := 471) (by decide +kernel)) rfl
theorem q472 : Cond.instanceMethod yX2_level ∈ LW := LW_of (List.mem_of_getElem? (i := 472) (by decide +kernel)) rfl
theorem q473 : Cond.selects RX2 yX2_level yX2_level ∈ LW := LW_of (List.mem_of_getElem? (i := 473) (by decide +kernel)) rfl
theorem q474 : Cond.code yX2_level cX2_level 2 (some .int) ∈ LW := LW_of (List.mem_of_getElem? (i := 474) (by decide +kernel)) rfl
theorem q475 : Cond.methodLink RX2 41 Lib.Math.min.name ∈ LW := LW_of (List.mem_of_getElem? (i := 475) (by decide +kernel)) rfl
theorem q476 : Cond.methodLink RL 137 yX2_lossIn ∈ LW := LW_of (List.mem_of_getElem? (i := 476) (by decide +kernel)) rfl
theorem q477 : Cond.instanceMethod yX2_lossIn ∈ LW := LW_of (List.mem_of_getElem? (i := 477) (by decide +kernel)) rfl
theorem q478 : Cond.selects RX2 yX2_lossIn yX2_lossIn ∈ LW := LW_of (List.mem_of_getElem? (i := 478) (by decide +kernel)) rfl
theorem q479 : Cond.code yX2_lossIn cX2_lossIn 3 (some .int) ∈ LW := LW_of (List.mem_of_getElem? (i := 479) (by decide +kernel)) rfl
theorem q480 : Cond.methodLink RX2 59 yX2_copy ∈ LW := LW_of (List.mem_of_getElem? (i := 480) (by decide +kernel)) rfl
theorem q481 : Cond.methodLink RX2 63 yX2_pass_ ∈ LW := LW_of (List.mem_of_getElem? (i := 481) (by decide +kernel)) rfl
theorem q482 : Cond.instanceMethod yX2_pass_ ∈ LW := LW_of (List.mem_of_getElem? (i := 482) (by decide +kernel)) rfl
theorem q483 : Cond.selects RX2 yX2_pass_ yX2_pass_ ∈ LW := LW_of (List.mem_of_getElem? (i := 483) (by decide +kernel)) rfl
theorem q484 : Cond.code yX2_pass_ cX2_pass_ 4 (some .int) ∈ LW := LW_of (List.mem_of_getElem? (i := 484) (by decide +kernel)) rfl
theorem q485 : Cond.methodLink RX2 55 yX2_pass ∈ LW := LW_of (List.mem_of_getElem? (i := 485) (by decide +kernel)) rfl
theorem q486 : Cond.methodLink RX2 65 yX2_loss ∈ LW := LW_of (List.mem_of_getElem? (i := 486) (by decide +kernel)) rfl
theorem q487 : Cond.instanceMethod yX2_loss ∈ LW := LW_of (List.mem_of_getElem? (i := 487) (by decide +kernel)) rfl
theorem q488 : Cond.selects RX2 yX2_loss yX2_loss ∈ LW := LW_of (List.mem_of_getElem? (i := 488) (by decide +kernel)) rfl
theorem q489 : Cond.code yX2_loss cX2_loss 6 (some .int) ∈ LW := LW_of (List.mem_of_getElem? (i := 489) (by decide +kernel)) rfl
theorem q490 : Cond.methodLink RL 157 yX2_isSame ∈ LW := LW_of (List.mem_of_getElem? (i := 490) (by decide +kernel)) rfl
theorem q491 : Cond.instanceMethod yX2_isSame ∈ LW := LW_of (List.mem_of_getElem? (i := 491) (by decide +kernel)) rfl
theorem q492 : Cond.selects RX2 yX2_isSame yX2_isSame ∈ LW := LW_of (List.mem_of_getElem? (i := 492) (by decide +kernel)) rfl
theorem q493 : Cond.code yX2_isSame cX2_isSame 14 (some .boolean) ∈ LW := LW_of (List.mem_of_getElem? (i := 493) (by decide +kernel)) rfl
theorem q494 : Cond.methodLink RX2 68 yX1_waterOn ∈ LW := LW_of (List.mem_of_getElem? (i := 494) (by decide +kernel)) rfl
theorem q495 : Cond.methodLink RX2 73 yX1_levelOf ∈ LW := LW_of (List.mem_of_getElem? (i := 495) (by decide +kernel)) rfl
theorem q496 : Cond.methodLink RX2 76 yX1_wetFor ∈ LW := LW_of (List.mem_of_getElem? (i := 496) (by decide +kernel)) rfl
theorem q497 : Cond.methodLink RX2 79 yX1_isRuined ∈ LW := LW_of (List.mem_of_getElem? (i := 497) (by decide +kernel)) rfl
theorem q498 : Cond.methodLink RX2 83 yX1_drainsAt ∈ LW := LW_of (List.mem_of_getElem? (i := 498) (by decide +kernel)) rfl
theorem q499 : Cond.methodLink RX2 86 yX1_reaches ∈ LW := LW_of (List.mem_of_getElem? (i := 499) (by decide +kernel)) rfl
theorem q500 : Cond.methodLink RX2 89 yX2_reaches ∈ LW := LW_of (List.mem_of_getElem? (i := 500) (by decide +kernel)) rfl
theorem q501 : Cond.instanceMethod yX2_reaches ∈ LW := LW_of (List.mem_of_getElem? (i := 501) (by decide +kernel)) rfl
theorem q502 : Cond.selects RX2 yX2_reaches yX2_reaches ∈ LW := LW_of (List.mem_of_getElem? (i := 502) (by decide +kernel)) rfl
theorem q503 : Cond.code yX2_reaches cX2_reaches 10 (some .int) ∈ LW := LW_of (List.mem_of_getElem? (i := 503) (by decide +kernel)) rfl
theorem q504 : Cond.methodLink RX2 90 yX1_isPump ∈ LW := LW_of (List.mem_of_getElem? (i := 504) (by decide +kernel)) rfl
theorem q505 : Cond.instanceMethod yX1_isPump ∈ LW := LW_of (List.mem_of_getElem? (i := 505) (by decide +kernel)) rfl
theorem q506 : Cond.selects RX1 yX1_isPump yX1_isPump ∈ LW := LW_of (List.mem_of_getElem? (i := 506) (by decide +kernel)) rfl
theorem q507 : Cond.code yX1_isPump cX1_isPump 2 (some .boolean) ∈ LW := LW_of (List.mem_of_getElem? (i := 507) (by decide +kernel)) rfl
theorem q508 : Cond.methodLink RX2 93 yX1_isOpen ∈ LW := LW_of (List.mem_of_getElem? (i := 508) (by decide +kernel)) rfl
theorem q509 : Cond.methodLink RX2 96 yX1_carriedBy ∈ LW := LW_of (List.mem_of_getElem? (i := 509) (by decide +kernel)) rfl
theorem q510 : Cond.methodLink RX2 99 yX1_wouldCarry ∈ LW := LW_of (List.mem_of_getElem? (i := 510) (by decide +kernel)) rfl
theorem q511 : Cond.methodLink RX2 102 yX1_hour ∈ LW := LW_of (List.mem_of_getElem? (i := 511) (by decide +kernel)) rfl
theorem q512 : Cond.methodLink RX2 104 yX1_fields ∈ LW := LW_of (List.mem_of_getElem? (i := 512) (by decide +kernel)) rfl
theorem q513 : Cond.methodLink RX2 106 yX1_drains ∈ LW := LW_of (List.mem_of_getElem? (i := 513) (by decide +kernel)) rfl
theorem q514 : Cond.methodLink RX2 108 yX1_rain ∈ LW := LW_of (List.mem_of_getElem? (i := 514) (by decide +kernel)) rfl
theorem q515 : Cond.methodLink RX2 110 yX1_water ∈ LW := LW_of (List.mem_of_getElem? (i := 515) (by decide +kernel)) rfl
theorem q516 : Cond.methodLink RX2 113 yX1_drained ∈ LW := LW_of (List.mem_of_getElem? (i := 516) (by decide +kernel)) rfl
theorem q517 : Cond.methodLink RX2 116 yX1_wetFields ∈ LW := LW_of (List.mem_of_getElem? (i := 517) (by decide +kernel)) rfl
theorem q518 : Cond.methodLink RX2 119 yX1_ruinedFields ∈ LW := LW_of (List.mem_of_getElem? (i := 518) (by decide +kernel)) rfl
theorem q519 : Cond.instanceMethod yX1_ruinedFields ∈ LW := LW_of (List.mem_of_getElem? (i := 519) (by decide +kernel)) rfl
theorem q520 : Cond.selects RX1 yX1_ruinedFields yX1_ruinedFields ∈ LW := LW_of (List.mem_of_getElem? (i := 520) (by decide +kernel)) rfl
theorem q521 : Cond.code yX1_ruinedFields cX1_ruinedFields 1 (some .int) ∈ LW := LW_of (List.mem_of_getElem? (i := 521) (by decide +kernel)) rfl
theorem q522 : Cond.methodLink RX2 122 yX1_loss ∈ LW := LW_of (List.mem_of_getElem? (i := 522) (by decide +kernel)) rfl
theorem q523 : Cond.methodLink RX2 123 yX1_highest ∈ LW := LW_of (List.mem_of_getElem? (i := 523) (by decide +kernel)) rfl
theorem q524 : Cond.methodLink RX2 126 yX1_busiest ∈ LW := LW_of (List.mem_of_getElem? (i := 524) (by decide +kernel)) rfl
theorem q525 : Cond.methodLink RX2 129 yX1_meanWater ∈ LW := LW_of (List.mem_of_getElem? (i := 525) (by decide +kernel)) rfl
theorem q526 : Cond.instanceMethod yX1_meanWater ∈ LW := LW_of (List.mem_of_getElem? (i := 526) (by decide +kernel)) rfl
theorem q527 : Cond.selects RX1 yX1_meanWater yX1_meanWater ∈ LW := LW_of (List.mem_of_getElem? (i := 527) (by decide +kernel)) rfl
theorem q528 : Cond.code yX1_meanWater cX1_meanWater 2 (some .double) ∈ LW := LW_of (List.mem_of_getElem? (i := 528) (by decide +kernel)) rfl
theorem q529 : Cond.methodLink RL 18 yL_below ∈ LW := LW_of (List.mem_of_getElem? (i := 529) (by decide +kernel)) rfl
theorem q530 : Cond.static yL_below ∈ LW := LW_of (List.mem_of_getElem? (i := 530) (by decide +kernel)) rfl
theorem q531 : Cond.code yL_below cL_below 2 (some .int) ∈ LW := LW_of (List.mem_of_getElem? (i := 531) (by decide +kernel)) rfl
theorem q532 : Cond.constant RL 7 2147483647 ∈ LW := LW_of (List.mem_of_getElem? (i := 532) (by decide +kernel)) rfl
theorem q533 : Cond.methodLink RL 60 yL_cell ∈ LW := LW_of (List.mem_of_getElem? (i := 533) (by decide +kernel)) rfl
theorem q534 : Cond.static yL_cell ∈ LW := LW_of (List.mem_of_getElem? (i := 534) (by decide +kernel)) rfl
theorem q535 : Cond.code yL_cell cL_cell 2 (some .int) ∈ LW := LW_of (List.mem_of_getElem? (i := 535) (by decide +kernel)) rfl
theorem q536 : Cond.constant RL 8 790386105 ∈ LW := LW_of (List.mem_of_getElem? (i := 536) (by decide +kernel)) rfl
theorem q537 : Cond.methodLink RL 65 yL_act ∈ LW := LW_of (List.mem_of_getElem? (i := 537) (by decide +kernel)) rfl
theorem q538 : Cond.static yL_act ∈ LW := LW_of (List.mem_of_getElem? (i := 538) (by decide +kernel)) rfl
theorem q539 : Cond.code yL_act cL_act 10 (some .boolean) ∈ LW := LW_of (List.mem_of_getElem? (i := 539) (by decide +kernel)) rfl
theorem q540 : Cond.methodLink RL 24 yX2_with ∈ LW := LW_of (List.mem_of_getElem? (i := 540) (by decide +kernel)) rfl
theorem q541 : Cond.methodLink RL 28 yX1_addField ∈ LW := LW_of (List.mem_of_getElem? (i := 541) (by decide +kernel)) rfl
theorem q542 : Cond.instanceMethod yX1_addField ∈ LW := LW_of (List.mem_of_getElem? (i := 542) (by decide +kernel)) rfl
theorem q543 : Cond.selects RX1 yX1_addField yX1_addField ∈ LW := LW_of (List.mem_of_getElem? (i := 543) (by decide +kernel)) rfl
theorem q544 : Cond.code yX1_addField cX1_addField 4 (some .int) ∈ LW := LW_of (List.mem_of_getElem? (i := 544) (by decide +kernel)) rfl
theorem q545 : Cond.methodLink RX1 23 yX0_putField ∈ LW := LW_of (List.mem_of_getElem? (i := 545) (by decide +kernel)) rfl
theorem q546 : Cond.instanceMethod yX0_putField ∈ LW := LW_of (List.mem_of_getElem? (i := 546) (by decide +kernel)) rfl
theorem q547 : Cond.selects RX0 yX0_putField yX0_putField ∈ LW := LW_of (List.mem_of_getElem? (i := 547) (by decide +kernel)) rfl
theorem q548 : Cond.code yX0_putField cX0_putField 4 (some .int) ∈ LW := LW_of (List.mem_of_getElem? (i := 548) (by decide +kernel)) rfl
theorem q549 : Cond.classLink RX1 27 "java/lang/IllegalStateException" ∈ LW := LW_of (List.mem_of_getElem? (i := 549) (by decide +kernel)) rfl
theorem q550 : Cond.instantiable "java/lang/IllegalStateException" 6 ∈ LW := LW_of (List.mem_of_getElem? (i := 550) (by decide +kernel)) rfl
theorem q565 : Cond.methodLink RL 33 yX1_addDitch ∈ LW := LW_of (List.mem_of_getElem? (i := 565) (by decide +kernel)) rfl
theorem q566 : Cond.instanceMethod yX1_addDitch ∈ LW := LW_of (List.mem_of_getElem? (i := 566) (by decide +kernel)) rfl
theorem q567 : Cond.selects RX1 yX1_addDitch yX1_addDitch ∈ LW := LW_of (List.mem_of_getElem? (i := 567) (by decide +kernel)) rfl
theorem q568 : Cond.code yX1_addDitch cX1_addDitch 4 (some .int) ∈ LW := LW_of (List.mem_of_getElem? (i := 568) (by decide +kernel)) rfl
theorem q569 : Cond.methodLink RX1 38 yX1_addDrain ∈ LW := LW_of (List.mem_of_getElem? (i := 569) (by decide +kernel)) rfl
theorem q571 : Cond.instanceMethod yX1_addDrain ∈ LW := LW_of (List.mem_of_getElem? (i := 571) (by decide +kernel)) rfl
theorem q572 : Cond.code yX1_addDrain cX1_addDrain 6 (some .int) ∈ LW := LW_of (List.mem_of_getElem? (i := 572) (by decide +kernel)) rfl
theorem q574 : Cond.methodLink RX1 224 yX0_putDrain ∈ LW := LW_of (List.mem_of_getElem? (i := 574) (by decide +kernel)) rfl
theorem q575 : Cond.instanceMethod yX0_putDrain ∈ LW := LW_of (List.mem_of_getElem? (i := 575) (by decide +kernel)) rfl
theorem q576 : Cond.selects RX0 yX0_putDrain yX0_putDrain ∈ LW := LW_of (List.mem_of_getElem? (i := 576) (by decide +kernel)) rfl
theorem q577 : Cond.code yX0_putDrain cX0_putDrain 6 (some .int) ∈ LW := LW_of (List.mem_of_getElem? (i := 577) (by decide +kernel)) rfl
theorem q579 : Cond.methodLink RL 37 yX1_addPump ∈ LW := LW_of (List.mem_of_getElem? (i := 579) (by decide +kernel)) rfl
theorem q580 : Cond.instanceMethod yX1_addPump ∈ LW := LW_of (List.mem_of_getElem? (i := 580) (by decide +kernel)) rfl
theorem q581 : Cond.selects RX1 yX1_addPump yX1_addPump ∈ LW := LW_of (List.mem_of_getElem? (i := 581) (by decide +kernel)) rfl
theorem q582 : Cond.code yX1_addPump cX1_addPump 4 (some .int) ∈ LW := LW_of (List.mem_of_getElem? (i := 582) (by decide +kernel)) rfl
theorem q583 : Cond.methodLink RL 40 yX1_turn ∈ LW := LW_of (List.mem_of_getElem? (i := 583) (by decide +kernel)) rfl
theorem q584 : Cond.instanceMethod yX1_turn ∈ LW := LW_of (List.mem_of_getElem? (i := 584) (by decide +kernel)) rfl
theorem q585 : Cond.selects RX1 yX1_turn yX1_turn ∈ LW := LW_of (List.mem_of_getElem? (i := 585) (by decide +kernel)) rfl
theorem q586 : Cond.code yX1_turn cX1_turn 2 (some .boolean) ∈ LW := LW_of (List.mem_of_getElem? (i := 586) (by decide +kernel)) rfl
theorem q587 : Cond.methodLink RL 48 yX1_setRain ∈ LW := LW_of (List.mem_of_getElem? (i := 587) (by decide +kernel)) rfl
theorem q588 : Cond.instanceMethod yX1_setRain ∈ LW := LW_of (List.mem_of_getElem? (i := 588) (by decide +kernel)) rfl
theorem q589 : Cond.selects RX1 yX1_setRain yX1_setRain ∈ LW := LW_of (List.mem_of_getElem? (i := 589) (by decide +kernel)) rfl
theorem q590 : Cond.code yX1_setRain cX1_setRain 3 (some .int) ∈ LW := LW_of (List.mem_of_getElem? (i := 590) (by decide +kernel)) rfl
theorem q591 : Cond.methodLink RL 52 yX1_flood ∈ LW := LW_of (List.mem_of_getElem? (i := 591) (by decide +kernel)) rfl
theorem q592 : Cond.instanceMethod yX1_flood ∈ LW := LW_of (List.mem_of_getElem? (i := 592) (by decide +kernel)) rfl
theorem q593 : Cond.selects RX1 yX1_flood yX1_flood ∈ LW := LW_of (List.mem_of_getElem? (i := 593) (by decide +kernel)) rfl
theorem q594 : Cond.code yX1_flood cX1_flood 3 (some .int) ∈ LW := LW_of (List.mem_of_getElem? (i := 594) (by decide +kernel)) rfl
theorem q595 : Cond.methodLink RL 58 yX2_pass_ ∈ LW := LW_of (List.mem_of_getElem? (i := 595) (by decide +kernel)) rfl
theorem q596 : Cond.methodLink RL 70 yL_build ∈ LW := LW_of (List.mem_of_getElem? (i := 596) (by decide +kernel)) rfl
theorem q597 : Cond.static yL_build ∈ LW := LW_of (List.mem_of_getElem? (i := 597) (by decide +kernel)) rfl
theorem q599 : Cond.classLink RL 10 RX2 ∈ LW := LW_of (List.mem_of_getElem? (i := 599) (by decide +kernel)) rfl
theorem q601 : Cond.constant RL 64 16777215 ∈ LW := LW_of (List.mem_of_getElem? (i := 601) (by decide +kernel)) rfl
theorem q602 : Cond.methodLink RL 116 Lib.Math.abs.name ∈ LW := LW_of (List.mem_of_getElem? (i := 602) (by decide +kernel)) rfl
theorem q603 : Cond.methodLink RL 144 Lib.Math.max.name ∈ LW := LW_of (List.mem_of_getElem? (i := 603) (by decide +kernel)) rfl
theorem q604 : Cond.static Lib.Math.max.name ∈ LW := LW_of (List.mem_of_getElem? (i := 604) (by decide +kernel)) rfl
theorem q605 : Cond.code Lib.Math.max.name Lib.Math.max.code 2 (some .int) ∈ LW := LW_of (List.mem_of_getElem? (i := 605) (by decide +kernel)) rfl
