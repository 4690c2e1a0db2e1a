/-- the tables' words that stay true  -/
def LW : List Cond := lw_tbl.filter goodWord
theorem LW_of {w : Cond} (h : w ∈ lw_tbl) (hg : goodWord w = true) : w ∈ LW := List.mem_filter.mpr ⟨h, hg⟩
theorem LW_tbl {w : Cond} (h : w ∈ LW) : w ∈ lw_tbl := (List.mem_filter.mp h).1
theorem LW_good : GoodIn LW LW := fun w h => ⟨h, good_of_word (List.mem_filter.mp h).2⟩
abbrev wL (y : MethodName) (c : ByteArray) (n : Nat) (r : Option FieldType) : List Cond := Cond.code y c n r :: LW
theorem wsX00_tbl : ∀ w ∈ wsX00, w ∈ lw_tbl := fun w h => (goodIn_of (big := lw_tbl) wsX00 (by decide +kernel) w h).1
theorem in_wsX00 : ∀ w ∈ wsX00, w ∈ LW := fun w h => LW_of (wsX00_tbl w h) (List.all_eq_true.mp (show wsX00.all goodWord = true by decide +kernel) w h)
theorem wsX10_tbl : ∀ w ∈ wsX10, w ∈ lw_tbl := fun w h => (goodIn_of (big := lw_tbl) wsX10 (by decide +kernel) w h).1
theorem in_wsX10 : ∀ w ∈ wsX10, w ∈ LW := fun w h => LW_of (wsX10_tbl w h) (List.all_eq_true.mp (show wsX10.all goodWord = true by decide +kernel) w h)
theorem wsX20_tbl : ∀ w ∈ wsX20, w ∈ lw_tbl := fun w h => (goodIn_of (big := lw_tbl) wsX20 (by decide +kernel) w h).1
theorem in_wsX20 : ∀ w ∈ wsX20, w ∈ LW := fun w h => LW_of (wsX20_tbl w h) (List.all_eq_true.mp (show wsX20.all goodWord = true by decide +kernel) w h)
theorem q0 : Cond.selects RX0 yX0_letFlow yX0_letFlow ∈ LW := LW_of (List.mem_of_getElem? (i := 0) (by decide +kernel)) rfl
theorem q1 : Cond.selects RX0 yX0_countWetHours yX0_countWetHours ∈ LW := LW_of (List.mem_of_getElem? (i := 1) (by decide +kernel)) rfl
theorem q3 : Cond.selects RX1 yX1_mixFields yX1_mixFields ∈ LW := LW_of (List.mem_of_getElem? (i := 3) (by decide +kernel)) rfl
theorem q4 : Cond.selects RX1 yX1_requireField yX1_requireField ∈ LW := LW_of (List.mem_of_getElem? (i := 4) (by decide +kernel)) rfl
theorem q5 : Cond.selects RX1 yX1_mixDrains yX1_mixDrains ∈ LW := LW_of (List.mem_of_getElem? (i := 5) (by decide +kernel)) rfl
theorem q6 : Cond.selects RX1 yX1_requireDrain yX1_requireDrain ∈ LW := LW_of (List.mem_of_getElem? (i := 6) (by decide +kernel)) rfl
theorem q7 : Cond.selects RX1 yX1_addDrain yX1_addDrain ∈ LW := LW_of (List.mem_of_getElem? (i := 7) (by decide +kernel)) rfl
theorem q8 : Cond.selects RX2 yX2_no yX2_no ∈ LW := LW_of (List.mem_of_getElem? (i := 8) (by decide +kernel)) rfl
theorem q9 : Cond.selects RX2 yX2_isField yX2_isField ∈ LW := LW_of (List.mem_of_getElem? (i := 9) (by decide +kernel)) rfl
theorem q10 : Cond.selects RX2 yX2_add yX2_add ∈ LW := LW_of (List.mem_of_getElem? (i := 10) (by decide +kernel)) rfl
theorem q11 : Cond.selects RX2 yX2_isDrain yX2_isDrain ∈ LW := LW_of (List.mem_of_getElem? (i := 11) (by decide +kernel)) rfl
theorem q12 : Cond.selects RX2 yX2_isNot yX2_isNot ∈ LW := LW_of (List.mem_of_getElem? (i := 12) (by decide +kernel)) rfl
theorem q13 : Cond.selects RX2 yX2_water yX2_water ∈ LW := LW_of (List.mem_of_getElem? (i := 13) (by decide +kernel)) rfl
theorem q14 : Cond.selects RX2 yX2_ruined yX2_ruined ∈ LW := LW_of (List.mem_of_getElem? (i := 14) (by decide +kernel)) rfl
theorem q15 : Cond.selects RX2 yX2_hoursOn yX2_hoursOn ∈ LW := LW_of (List.mem_of_getElem? (i := 15) (by decide +kernel)) rfl
theorem q16 : Cond.selects RX2 yX2_hourOn yX2_hourOn ∈ LW := LW_of (List.mem_of_getElem? (i := 16) (by decide +kernel)) rfl
theorem q17 : Cond.selects RX2 yX2_carry yX2_carry ∈ LW := LW_of (List.mem_of_getElem? (i := 17) (by decide +kernel)) rfl
theorem q18 : Cond.selects RX2 yX2_flow yX2_flow ∈ LW := LW_of (List.mem_of_getElem? (i := 18) (by decide +kernel)) rfl
theorem q19 : Cond.selects RX2 yX2_level yX2_level ∈ LW := LW_of (List.mem_of_getElem? (i := 19) (by decide +kernel)) rfl
theorem q20 : Cond.selects RX2 yX2_ok yX2_ok ∈ LW := LW_of (List.mem_of_getElem? (i := 20) (by decide +kernel)) rfl
theorem q21 : Cond.selects RX2 yX2_allWater yX2_allWater ∈ LW := LW_of (List.mem_of_getElem? (i := 21) (by decide +kernel)) rfl
theorem q22 : Cond.selects RX2 yX2_wet yX2_wet ∈ LW := LW_of (List.mem_of_getElem? (i := 22) (by decide +kernel)) rfl
theorem q23 : Cond.selects RX2 yX2_lost yX2_lost ∈ LW := LW_of (List.mem_of_getElem? (i := 23) (by decide +kernel)) rfl
theorem q24 : Cond.selects RX2 yX2_of yX2_of ∈ LW := LW_of (List.mem_of_getElem? (i := 24) (by decide +kernel)) rfl
theorem q25 : Cond.selects RX2 yX2_openAt yX2_openAt ∈ LW := LW_of (List.mem_of_getElem? (i := 25) (by decide +kernel)) rfl
theorem q26 : Cond.selects RX2 yX2_spread yX2_spread ∈ LW := LW_of (List.mem_of_getElem? (i := 26) (by decide +kernel)) rfl
theorem q27 : Cond.selects RX2 yX2_spreads yX2_spreads ∈ LW := LW_of (List.mem_of_getElem? (i := 27) (by decide +kernel)) rfl
theorem q28 : Cond.selects RX2 yX2_high yX2_high ∈ LW := LW_of (List.mem_of_getElem? (i := 28) (by decide +kernel)) rfl
theorem q29 : Cond.selects RX2 yX2_busy yX2_busy ∈ LW := LW_of (List.mem_of_getElem? (i := 29) (by decide +kernel)) rfl
theorem q30 : Cond.selects RX2 yX2_until yX2_until ∈ LW := LW_of (List.mem_of_getElem? (i := 30) (by decide +kernel)) rfl
theorem q31 : Cond.selects RX2 yX2_keep yX2_keep ∈ LW := LW_of (List.mem_of_getElem? (i := 31) (by decide +kernel)) rfl
theorem q32 : Cond.selects RX2 yX2_bringBack yX2_bringBack ∈ LW := LW_of (List.mem_of_getElem? (i := 32) (by decide +kernel)) rfl
theorem q33 : Cond.selects RX2 yX2_lostBehind yX2_lostBehind ∈ LW := LW_of (List.mem_of_getElem? (i := 33) (by decide +kernel)) rfl
theorem q34 : Cond.selects RX2 yX2_turned yX2_turned ∈ LW := LW_of (List.mem_of_getElem? (i := 34) (by decide +kernel)) rfl
theorem q35 : Cond.selects RX2 yX2_flooded yX2_flooded ∈ LW := LW_of (List.mem_of_getElem? (i := 35) (by decide +kernel)) rfl
theorem q36 : Cond.selects RX2 yX2_borne yX2_borne ∈ LW := LW_of (List.mem_of_getElem? (i := 36) (by decide +kernel)) rfl
theorem q37 : Cond.initialized RL ∈ LW := LW_of (List.mem_of_getElem? (i := 37) (by decide +kernel)) rfl
theorem q38 : Cond.initialized RX1 ∈ LW := LW_of (List.mem_of_getElem? (i := 38) (by decide +kernel)) rfl
theorem q39 : Cond.initialized RX0 ∈ LW := LW_of (List.mem_of_getElem? (i := 39) (by decide +kernel)) rfl
theorem q40 : Cond.initialized RX2 ∈ LW := LW_of (List.mem_of_getElem? (i := 40) (by decide +kernel)) rfl
theorem q41 : Cond.initialized "java/lang/Throwable" ∈ LW := LW_of (List.mem_of_getElem? (i := 41) (by decide +kernel)) rfl
theorem q42 : Cond.initialized "java/lang/Exception" ∈ LW := LW_of (List.mem_of_getElem? (i := 42) (by decide +kernel)) rfl
theorem q43 : Cond.initialized "java/lang/RuntimeException" ∈ LW := LW_of (List.mem_of_getElem? (i := 43) (by decide +kernel)) rfl
theorem q44 : Cond.initialized "java/lang/IllegalArgumentException" ∈ LW := LW_of (List.mem_of_getElem? (i := 44) (by decide +kernel)) rfl
theorem q45 : Cond.initialized "java/lang/IllegalStateException" ∈ LW := LW_of (List.mem_of_getElem? (i := 45) (by decide +kernel)) rfl
theorem q46 : Cond.initialized "java/lang/IndexOutOfBoundsException" ∈ LW := LW_of (List.mem_of_getElem? (i := 46) (by decide +kernel)) rfl
theorem q47 : Cond.initialized "java/lang/Math" ∈ LW := LW_of (List.mem_of_getElem? (i := 47) (by decide +kernel)) rfl
theorem q48 : Cond.initialized RJ6 ∈ LW := LW_of (List.mem_of_getElem? (i := 48) (by decide +kernel)) rfl
theorem q49 : Cond.initialized "java/lang/System" ∈ LW := LW_of (List.mem_of_getElem? (i := 49) (by decide +kernel)) rfl
theorem q50 : Cond.classLink RL 8 RX1 ∈ LW := LW_of (List.mem_of_getElem? (i := 50) (by decide +kernel)) rfl
theorem q51 : Cond.instantiable RX1 2 ∈ LW := LW_of (List.mem_of_getElem? (i := 51) (by decide +kernel)) rfl
theorem q52 : Cond.methodLink RL 82 yX1_init ∈ LW := LW_of (List.mem_of_getElem? (i := 52) (by decide +kernel)) rfl
theorem q53 : Cond.instanceMethod yX1_init ∈ LW := LW_of (List.mem_of_getElem? (i := 53) (by decide +kernel)) rfl
theorem q54 : Cond.code yX1_init cX1_init 1 none ∈ LW := LW_of (List.mem_of_getElem? (i := 54) (by decide +kernel)) rfl
theorem q55 : Cond.methodLink RX1 1 objectInit ∈ LW := LW_of (List.mem_of_getElem? (i := 55) (by decide +kernel)) rfl
theorem q56 : Cond.instanceMethod objectInit ∈ LW := LW_of (List.mem_of_getElem? (i := 56) (by decide +kernel)) rfl
theorem q57 : Cond.code objectInit ⟨#[0xb1]⟩ 1 none ∈ LW := LW_of (List.mem_of_getElem? (i := 57) (by decide +kernel)) rfl
theorem q58 : Cond.classLink RX1 7 RX0 ∈ LW := LW_of (List.mem_of_getElem? (i := 58) (by decide +kernel)) rfl
theorem q59 : Cond.instantiable RX0 16 ∈ LW := LW_of (List.mem_of_getElem? (i := 59) (by decide +kernel)) rfl
theorem q61 : Cond.instanceMethod yX0_init ∈ LW := LW_of (List.mem_of_getElem? (i := 61) (by decide +kernel)) rfl
theorem q62 : Cond.code yX0_init cX0_init 1 none ∈ LW := LW_of (List.mem_of_getElem? (i := 62) (by decide +kernel)) rfl
theorem q63 : Cond.methodLink RX0 3 objectInit ∈ LW := LW_of (List.mem_of_getElem? (i := 63) (by decide +kernel)) rfl
theorem q64 : Cond.fieldLink RX0 9 "MarshDrains$Marsh" "floors" "[I" ∈ LW := LW_of (List.mem_of_getElem? (i := 64) (by decide +kernel)) rfl
theorem q65 : Cond.fieldLink RX0 15 "MarshDrains$Marsh" "worths" "[I" ∈ LW := LW_of (List.mem_of_getElem? (i := 65) (by decide +kernel)) rfl
theorem q66 : Cond.fieldLink RX0 18 "MarshDrains$Marsh" "waters" "[I" ∈ LW := LW_of (List.mem_of_getElem? (i := 66) (by decide +kernel)) rfl
theorem q68 : Cond.fieldLink RX0 21 "MarshDrains$Marsh" "wetHours" "[I" ∈ LW := LW_of (List.mem_of_getElem? (i := 68) (by decide +kernel)) rfl
theorem q70 : Cond.fieldLink RX0 24 "MarshDrains$Marsh" "ruined" "[Z" ∈ LW := LW_of (List.mem_of_getElem? (i := 70) (by decide +kernel)) rfl
theorem q72 : Cond.fieldLink RX0 28 "MarshDrains$Marsh" "froms" "[I" ∈ LW := LW_of (List.mem_of_getElem? (i := 72) (by decide +kernel)) rfl
theorem q74 : Cond.fieldLink RX0 31 "MarshDrains$Marsh" "tos" "[I" ∈ LW := LW_of (List.mem_of_getElem? (i := 74) (by decide +kernel)) rfl
theorem q76 : Cond.fieldLink RX0 34 "MarshDrains$Marsh" "carries" "[I" ∈ LW := LW_of (List.mem_of_getElem? (i := 76) (by decide +kernel)) rfl
theorem q77 : Cond.fieldLink RX0 37 "MarshDrains$Marsh" "carried" "[I" ∈ LW := LW_of (List.mem_of_getElem? (i := 77) (by decide +kernel)) rfl
theorem q79 : Cond.fieldLink RX0 40 "MarshDrains$Marsh" "pumps" "[Z" ∈ LW := LW_of (List.mem_of_getElem? (i := 79) (by decide +kernel)) rfl
theorem q81 : Cond.fieldLink RX0 43 "MarshDrains$Marsh" "opens" "[Z" ∈ LW := LW_of (List.mem_of_getElem? (i := 81) (by decide +kernel)) rfl
theorem q83 : Cond.fieldLink RX0 46 "MarshDrains$Marsh" "fieldCount" "I" ∈ LW := LW_of (List.mem_of_getElem? (i := 83) (by decide +kernel)) rfl
theorem q85 : Cond.fieldLink RX0 50 "MarshDrains$Marsh" "drainCount" "I" ∈ LW := LW_of (List.mem_of_getElem? (i := 85) (by decide +kernel)) rfl
theorem q88 : Cond.fieldLink RX0 63 "MarshDrains$Marsh" "rainfall" "I" ∈ LW := LW_of (List.mem_of_getElem? (i := 88) (by decide +kernel)) rfl
theorem q90 : Cond.fieldLink RX0 83 "MarshDrains$Marsh" "toSea" "I" ∈ LW := LW_of (List.mem_of_getElem? (i := 90) (by decide +kernel)) rfl
theorem q92 : Cond.fieldLink RX0 77 "MarshDrains$Marsh" "clock" "I" ∈ LW := LW_of (List.mem_of_getElem? (i := 92) (by decide +kernel)) rfl
theorem q126 : Cond.arrayClass .int ∈ LW := LW_of (List.mem_of_getElem? (i := 126) (by decide +kernel)) rfl
theorem q127 : Cond.arrayClass .boolean ∈ LW := LW_of (List.mem_of_getElem? (i := 127) (by decide +kernel)) rfl
theorem q128 : Cond.fieldLink RX1 10 "MarshDrains" "now" "LMarshDrains$Marsh;" ∈ LW := LW_of (List.mem_of_getElem? (i := 128) (by decide +kernel)) rfl
theorem q129 : Cond.fieldLink RX1 16 "MarshDrains" "trial" "LMarshDrains$Marsh;" ∈ LW := LW_of (List.mem_of_getElem? (i := 129) (by decide +kernel)) rfl
theorem q135 : Cond.methodLink RL 116 yX1_hour ∈ LW := LW_of (List.mem_of_getElem? (i := 135) (by decide +kernel)) rfl
theorem q136 : Cond.instanceMethod yX1_hour ∈ LW := LW_of (List.mem_of_getElem? (i := 136) (by decide +kernel)) rfl
theorem q137 : Cond.selects RX1 yX1_hour yX1_hour ∈ LW := LW_of (List.mem_of_getElem? (i := 137) (by decide +kernel)) rfl
theorem q138 : Cond.code yX1_hour cX1_hour 1 (some .int) ∈ LW := LW_of (List.mem_of_getElem? (i := 138) (by decide +kernel)) rfl
theorem q139 : Cond.methodLink RL 120 yX1_fields ∈ LW := LW_of (List.mem_of_getElem? (i := 139) (by decide +kernel)) rfl
theorem q140 : Cond.instanceMethod yX1_fields ∈ LW := LW_of (List.mem_of_getElem? (i := 140) (by decide +kernel)) rfl
theorem q141 : Cond.selects RX1 yX1_fields yX1_fields ∈ LW := LW_of (List.mem_of_getElem? (i := 141) (by decide +kernel)) rfl
theorem q142 : Cond.code yX1_fields cX1_fields 1 (some .int) ∈ LW := LW_of (List.mem_of_getElem? (i := 142) (by decide +kernel)) rfl
theorem q143 : Cond.methodLink RL 124 yX1_drains ∈ LW := LW_of (List.mem_of_getElem? (i := 143) (by decide +kernel)) rfl
theorem q144 : Cond.instanceMethod yX1_drains ∈ LW := LW_of (List.mem_of_getElem? (i := 144) (by decide +kernel)) rfl
theorem q145 : Cond.selects RX1 yX1_drains yX1_drains ∈ LW := LW_of (List.mem_of_getElem? (i := 145) (by decide +kernel)) rfl
theorem q146 : Cond.code yX1_drains cX1_drains 1 (some .int) ∈ LW := LW_of (List.mem_of_getElem? (i := 146) (by decide +kernel)) rfl
theorem q147 : Cond.methodLink RL 128 yX1_rain ∈ LW := LW_of (List.mem_of_getElem? (i := 147) (by decide +kernel)) rfl
theorem q148 : Cond.instanceMethod yX1_rain ∈ LW := LW_of (List.mem_of_getElem? (i := 148) (by decide +kernel)) rfl
theorem q149 : Cond.selects RX1 yX1_rain yX1_rain ∈ LW := LW_of (List.mem_of_getElem? (i := 149) (by decide +kernel)) rfl
theorem q150 : Cond.code yX1_rain cX1_rain 1 (some .int) ∈ LW := LW_of (List.mem_of_getElem? (i := 150) (by decide +kernel)) rfl
theorem q151 : Cond.methodLink RL 132 yX1_water ∈ LW := LW_of (List.mem_of_getElem? (i := 151) (by decide +kernel)) rfl
theorem q152 : Cond.instanceMethod yX1_water ∈ LW := LW_of (List.mem_of_getElem? (i := 152) (by decide +kernel)) rfl
theorem q153 : Cond.selects RX1 yX1_water yX1_water ∈ LW := LW_of (List.mem_of_getElem? (i := 153) (by decide +kernel)) rfl
theorem q154 : Cond.code yX1_water cX1_water 3 (some .int) ∈ LW := LW_of (List.mem_of_getElem? (i := 154) (by decide +kernel)) rfl
theorem q155 : Cond.methodLink RL 136 yX1_drained ∈ LW := LW_of (List.mem_of_getElem? (i := 155) (by decide +kernel)) rfl
theorem q156 : Cond.instanceMethod yX1_drained ∈ LW := LW_of (List.mem_of_getElem? (i := 156) (by decide +kernel)) rfl
theorem q157 : Cond.selects RX1 yX1_drained yX1_drained ∈ LW := LW_of (List.mem_of_getElem? (i := 157) (by decide +kernel)) rfl
theorem q158 : Cond.code yX1_drained cX1_drained 1 (some .int) ∈ LW := LW_of (List.mem_of_getElem? (i := 158) (by decide +kernel)) rfl
theorem q159 : Cond.methodLink RL 140 yX1_wetFields ∈ LW := LW_of (List.mem_of_getElem? (i := 159) (by decide +kernel)) rfl
theorem q160 : Cond.instanceMethod yX1_wetFields ∈ LW := LW_of (List.mem_of_getElem? (i := 160) (by decide +kernel)) rfl
theorem q161 : Cond.selects RX1 yX1_wetFields yX1_wetFields ∈ LW := LW_of (List.mem_of_getElem? (i := 161) (by decide +kernel)) rfl
theorem q162 : Cond.code yX1_wetFields cX1_wetFields 3 (some .int) ∈ LW := LW_of (List.mem_of_getElem? (i := 162) (by decide +kernel)) rfl
theorem q163 : Cond.methodLink RX1 83 yX0_isWet ∈ LW := LW_of (List.mem_of_getElem? (i := 163) (by decide +kernel)) rfl
theorem q164 : Cond.instanceMethod yX0_isWet ∈ LW := LW_of (List.mem_of_getElem? (i := 164) (by decide +kernel)) rfl
theorem q165 : Cond.selects RX0 yX0_isWet yX0_isWet ∈ LW := LW_of (List.mem_of_getElem? (i := 165) (by decide +kernel)) rfl
theorem q166 : Cond.code yX0_isWet cX0_isWet 2 (some .boolean) ∈ LW := LW_of (List.mem_of_getElem? (i := 166) (by decide +kernel)) rfl
theorem q167 : Cond.methodLink RX0 57 yX0_hasField ∈ LW := LW_of (List.mem_of_getElem? (i := 167) (by decide +kernel)) rfl
theorem q168 : Cond.instanceMethod yX0_hasField ∈ LW := LW_of (List.mem_of_getElem? (i := 168) (by decide +kernel)) rfl
theorem q169 : Cond.selects RX0 yX0_hasField yX0_hasField ∈ LW := LW_of (List.mem_of_getElem? (i := 169) (by decide +kernel)) rfl
theorem q170 : Cond.code yX0_hasField cX0_hasField 2 (some .boolean) ∈ LW := LW_of (List.mem_of_getElem? (i := 170) (by decide +kernel)) rfl
theorem q171 : Cond.methodLink RL 144 yX1_ruinedFields ∈ LW := LW_of (List.mem_of_getElem? (i := 171) (by decide +kernel)) rfl
theorem q172 : Cond.instanceMethod yX1_ruinedFields ∈ LW := LW_of (List.mem_of_getElem? (i := 172) (by decide +kernel)) rfl
theorem q173 : Cond.selects RX1 yX1_ruinedFields yX1_ruinedFields ∈ LW := LW_of (List.mem_of_getElem? (i := 173) (by decide +kernel)) rfl
theorem q174 : Cond.code yX1_ruinedFields cX1_ruinedFields 1 (some .int) ∈ LW := LW_of (List.mem_of_getElem? (i := 174) (by decide +kernel)) rfl
theorem q175 : Cond.methodLink RX1 64 yX0_countRuined ∈ LW := LW_of (List.mem_of_getElem? (i := 175) (by decide +kernel)) rfl
theorem q176 : Cond.instanceMethod yX0_countRuined ∈ LW := LW_of (List.mem_of_getElem? (i := 176) (by decide +kernel)) rfl
theorem q177 : Cond.selects RX0 yX0_countRuined yX0_countRuined ∈ LW := LW_of (List.mem_of_getElem? (i := 177) (by decide +kernel)) rfl
theorem q178 : Cond.code yX0_countRuined cX0_countRuined 3 (some .int) ∈ LW := LW_of (List.mem_of_getElem? (i := 178) (by decide +kernel)) rfl
theorem q179 : Cond.methodLink RL 148 yX1_loss ∈ LW := LW_of (List.mem_of_getElem? (i := 179) (by decide +kernel)) rfl
theorem q180 : Cond.instanceMethod yX1_loss ∈ LW := LW_of (List.mem_of_getElem? (i := 180) (by decide +kernel)) rfl
theorem q181 : Cond.selects RX1 yX1_loss yX1_loss ∈ LW := LW_of (List.mem_of_getElem? (i := 181) (by decide +kernel)) rfl
theorem q182 : Cond.code yX1_loss cX1_loss 1 (some .int) ∈ LW := LW_of (List.mem_of_getElem? (i := 182) (by decide +kernel)) rfl
theorem q183 : Cond.methodLink RX1 87 yX0_lostWorth ∈ LW := LW_of (List.mem_of_getElem? (i := 183) (by decide +kernel)) rfl
theorem q184 : Cond.instanceMethod yX0_lostWorth ∈ LW := LW_of (List.mem_of_getElem? (i := 184) (by decide +kernel)) rfl
theorem q185 : Cond.selects RX0 yX0_lostWorth yX0_lostWorth ∈ LW := LW_of (List.mem_of_getElem? (i := 185) (by decide +kernel)) rfl
theorem q186 : Cond.code yX0_lostWorth cX0_lostWorth 3 (some .int) ∈ LW := LW_of (List.mem_of_getElem? (i := 186) (by decide +kernel)) rfl
theorem q187 : Cond.methodLink RL 170 yX1_highest ∈ LW := LW_of (List.mem_of_getElem? (i := 187) (by decide +kernel)) rfl
theorem q188 : Cond.instanceMethod yX1_highest ∈ LW := LW_of (List.mem_of_getElem? (i := 188) (by decide +kernel)) rfl
theorem q189 : Cond.selects RX1 yX1_highest yX1_highest ∈ LW := LW_of (List.mem_of_getElem? (i := 189) (by decide +kernel)) rfl
theorem q190 : Cond.code yX1_highest cX1_highest 5 (some .int) ∈ LW := LW_of (List.mem_of_getElem? (i := 190) (by decide +kernel)) rfl
theorem q191 : Cond.methodLink RX1 90 yX0_levelAt ∈ LW := LW_of (List.mem_of_getElem? (i := 191) (by decide +kernel)) rfl
theorem q192 : Cond.instanceMethod yX0_levelAt ∈ LW := LW_of (List.mem_of_getElem? (i := 192) (by decide +kernel)) rfl
theorem q193 : Cond.selects RX0 yX0_levelAt yX0_levelAt ∈ LW := LW_of (List.mem_of_getElem? (i := 193) (by decide +kernel)) rfl
theorem q194 : Cond.code yX0_levelAt cX0_levelAt 2 (some .int) ∈ LW := LW_of (List.mem_of_getElem? (i := 194) (by decide +kernel)) rfl
theorem q195 : Cond.methodLink RL 186 yX1_busiest ∈ LW := LW_of (List.mem_of_getElem? (i := 195) (by decide +kernel)) rfl
theorem q196 : Cond.instanceMethod yX1_busiest ∈ LW := LW_of (List.mem_of_getElem? (i := 196) (by decide +kernel)) rfl
theorem q197 : Cond.selects RX1 yX1_busiest yX1_busiest ∈ LW := LW_of (List.mem_of_getElem? (i := 197) (by decide +kernel)) rfl
theorem q198 : Cond.code yX1_busiest cX1_busiest 5 (some .int) ∈ LW := LW_of (List.mem_of_getElem? (i := 198) (by decide +kernel)) rfl
theorem q199 : Cond.methodLink RL 199 yX1_bestToTurn ∈ LW := LW_of (List.mem_of_getElem? (i := 199) (by decide +kernel)) rfl
theorem q200 : Cond.instanceMethod yX1_bestToTurn ∈ LW := LW_of (List.mem_of_getElem? (i := 200) (by decide +kernel)) rfl
theorem q201 : Cond.selects RX1 yX1_bestToTurn yX1_bestToTurn ∈ LW := LW_of (List.mem_of_getElem? (i := 201) (by decide +kernel)) rfl
theorem q202 : Cond.code yX1_bestToTurn cX1_bestToTurn 5 (some .int) ∈ LW := LW_of (List.mem_of_getElem? (i := 202) (by decide +kernel)) rfl
theorem q203 : Cond.methodLink RX1 128 yX0_becomeLike ∈ LW := LW_of (List.mem_of_getElem? (i := 203) (by decide +kernel)) rfl
theorem q204 : Cond.instanceMethod yX0_becomeLike ∈ LW := LW_of (List.mem_of_getElem? (i := 204) (by decide +kernel)) rfl
theorem q205 : Cond.selects RX0 yX0_becomeLike yX0_becomeLike ∈ LW := LW_of (List.mem_of_getElem? (i := 205) (by decide +kernel)) rfl
theorem q206 : Cond.code yX0_becomeLike cX0_becomeLike 3 none ∈ LW := LW_of (List.mem_of_getElem? (i := 206) (by decide +kernel)) rfl
theorem q207 : Cond.methodLink RX1 68 yX0_passHours ∈ LW := LW_of (List.mem_of_getElem? (i := 207) (by decide +kernel)) rfl
theorem q208 : Cond.instanceMethod yX0_passHours ∈ LW := LW_of (List.mem_of_getElem? (i := 208) (by decide +kernel)) rfl
theorem q209 : Cond.selects RX0 yX0_passHours yX0_passHours ∈ LW := LW_of (List.mem_of_getElem? (i := 209) (by decide +kernel)) rfl
theorem q210 : Cond.code yX0_passHours cX0_passHours 3 none ∈ LW := LW_of (List.mem_of_getElem? (i := 210) (by decide +kernel)) rfl
theorem q211 : Cond.methodLink RX0 60 yX0_passHour ∈ LW := LW_of (List.mem_of_getElem? (i := 211) (by decide +kernel)) rfl
theorem q212 : Cond.instanceMethod yX0_passHour ∈ LW := LW_of (List.mem_of_getElem? (i := 212) (by decide +kernel)) rfl
theorem q213 : Cond.selects RX0 yX0_passHour yX0_passHour ∈ LW := LW_of (List.mem_of_getElem? (i := 213) (by decide +kernel)) rfl
theorem q214 : Cond.code yX0_passHour cX0_passHour 2 none ∈ LW := LW_of (List.mem_of_getElem? (i := 214) (by decide +kernel)) rfl
theorem q215 : Cond.methodLink RX0 66 yX0_flowNow ∈ LW := LW_of (List.mem_of_getElem? (i := 215) (by decide +kernel)) rfl
theorem q216 : Cond.instanceMethod yX0_flowNow ∈ LW := LW_of (List.mem_of_getElem? (i := 216) (by decide +kernel)) rfl
theorem q217 : Cond.selects RX0 yX0_flowNow yX0_flowNow ∈ LW := LW_of (List.mem_of_getElem? (i := 217) (by decide +kernel)) rfl
theorem q218 : Cond.code yX0_flowNow cX0_flowNow 5 (some .int) ∈ LW := LW_of (List.mem_of_getElem? (i := 218) (by decide +kernel)) rfl
theorem q219 : Cond.methodLink RX0 53 yX0_hasDrain ∈ LW := LW_of (List.mem_of_getElem? (i := 219) (by decide +kernel)) rfl
theorem q220 : Cond.instanceMethod yX0_hasDrain ∈ LW := LW_of (List.mem_of_getElem? (i := 220) (by decide +kernel)) rfl
theorem q221 : Cond.selects RX0 yX0_hasDrain yX0_hasDrain ∈ LW := LW_of (List.mem_of_getElem? (i := 221) (by decide +kernel)) rfl
theorem q222 : Cond.code yX0_hasDrain cX0_hasDrain 2 (some .boolean) ∈ LW := LW_of (List.mem_of_getElem? (i := 222) (by decide +kernel)) rfl
theorem q223 : Cond.methodLink RX0 91 Lib.Math.min.name ∈ LW := LW_of (List.mem_of_getElem? (i := 223) (by decide +kernel)) rfl
theorem q224 : Cond.static Lib.Math.min.name ∈ LW := LW_of (List.mem_of_getElem? (i := 224) (by decide +kernel)) rfl
theorem q225 : Cond.code Lib.Math.min.name Lib.Math.min.code 2 (some .int) ∈ LW := LW_of (List.mem_of_getElem? (i := 225) (by decide +kernel)) rfl
theorem q226 : Cond.methodLink RX0 70 yX0_letFlow ∈ LW := LW_of (List.mem_of_getElem? (i := 226) (by decide +kernel)) rfl
theorem q228 : Cond.instanceMethod yX0_letFlow ∈ LW := LW_of (List.mem_of_getElem? (i := 228) (by decide +kernel)) rfl
theorem q229 : Cond.code yX0_letFlow cX0_letFlow 3 none ∈ LW := LW_of (List.mem_of_getElem? (i := 229) (by decide +kernel)) rfl
theorem q230 : Cond.methodLink RX0 80 yX0_letWaterIn ∈ LW := LW_of (List.mem_of_getElem? (i := 230) (by decide +kernel)) rfl
theorem q231 : Cond.instanceMethod yX0_letWaterIn ∈ LW := LW_of (List.mem_of_getElem? (i := 231) (by decide +kernel)) rfl
theorem q232 : Cond.selects RX0 yX0_letWaterIn yX0_letWaterIn ∈ LW := LW_of (List.mem_of_getElem? (i := 232) (by decide +kernel)) rfl
theorem q233 : Cond.code yX0_letWaterIn cX0_letWaterIn 3 none ∈ LW := LW_of (List.mem_of_getElem? (i := 233) (by decide +kernel)) rfl
theorem q234 : Cond.methodLink RX0 86 Lib.Math.abs.name ∈ LW := LW_of (List.mem_of_getElem? (i := 234) (by decide +kernel)) rfl
theorem q235 : Cond.static Lib.Math.abs.name ∈ LW := LW_of (List.mem_of_getElem? (i := 235) (by decide +kernel)) rfl
theorem q236 : Cond.code Lib.Math.abs.name Lib.Math.abs.code 1 (some .int) ∈ LW := LW_of (List.mem_of_getElem? (i := 236) (by decide +kernel)) rfl
theorem q237 : Cond.methodLink RX0 74 yX0_countWetHours ∈ LW := LW_of (List.mem_of_getElem? (i := 237) (by decide +kernel)) rfl
theorem q239 : Cond.instanceMethod yX0_countWetHours ∈ LW := LW_of (List.mem_of_getElem? (i := 239) (by decide +kernel)) rfl
theorem q240 : Cond.code yX0_countWetHours cX0_countWetHours 2 none ∈ LW := LW_of (List.mem_of_getElem? (i := 240) (by decide +kernel)) rfl
theorem q241 : Cond.methodLink RX0 95 yX0_isWet ∈ LW := LW_of (List.mem_of_getElem? (i := 241) (by decide +kernel)) rfl
theorem q242 : Cond.methodLink RX1 45 yX0_turnDrain ∈ LW := LW_of (List.mem_of_getElem? (i := 242) (by decide +kernel)) rfl
theorem q243 : Cond.instanceMethod yX0_turnDrain ∈ LW := LW_of (List.mem_of_getElem? (i := 243) (by decide +kernel)) rfl
theorem q244 : Cond.selects RX0 yX0_turnDrain yX0_turnDrain ∈ LW := LW_of (List.mem_of_getElem? (i := 244) (by decide +kernel)) rfl
theorem q245 : Cond.code yX0_turnDrain cX0_turnDrain 2 none ∈ LW := LW_of (List.mem_of_getElem? (i := 245) (by decide +kernel)) rfl
theorem q246 : Cond.methodLink RL 206 yX1_rainBorne ∈ LW := LW_of (List.mem_of_getElem? (i := 246) (by decide +kernel)) rfl
theorem q247 : Cond.instanceMethod yX1_rainBorne ∈ LW := LW_of (List.mem_of_getElem? (i := 247) (by decide +kernel)) rfl
theorem q248 : Cond.selects RX1 yX1_rainBorne yX1_rainBorne ∈ LW := LW_of (List.mem_of_getElem? (i := 248) (by decide +kernel)) rfl
theorem q249 : Cond.code yX1_rainBorne cX1_rainBorne 3 (some .int) ∈ LW := LW_of (List.mem_of_getElem? (i := 249) (by decide +kernel)) rfl
theorem q250 : Cond.methodLink RL 210 yX1_meanWater ∈ LW := LW_of (List.mem_of_getElem? (i := 250) (by decide +kernel)) rfl
theorem q251 : Cond.instanceMethod yX1_meanWater ∈ LW := LW_of (List.mem_of_getElem? (i := 251) (by decide +kernel)) rfl
theorem q252 : Cond.selects RX1 yX1_meanWater yX1_meanWater ∈ LW := LW_of (List.mem_of_getElem? (i := 252) (by decide +kernel)) rfl
theorem q253 : Cond.code yX1_meanWater cX1_meanWater 2 (some .double) ∈ LW := LW_of (List.mem_of_getElem? (i := 253) (by decide +kernel)) rfl
theorem q254 : Cond.methodLink RX1 135 yX1_water ∈ LW := LW_of (List.mem_of_getElem? (i := 254) (by decide +kernel)) rfl
theorem q255 : Cond.methodLink RL 215 yX1_digest ∈ LW := LW_of (List.mem_of_getElem? (i := 255) (by decide +kernel)) rfl
theorem q256 : Cond.instanceMethod yX1_digest ∈ LW := LW_of (List.mem_of_getElem? (i := 256) (by decide +kernel)) rfl
theorem q257 : Cond.selects RX1 yX1_digest yX1_digest ∈ LW := LW_of (List.mem_of_getElem? (i := 257) (by decide +kernel)) rfl
theorem q258 : Cond.code yX1_digest cX1_digest 3 (some .long) ∈ LW := LW_of (List.mem_of_getElem? (i := 258) (by decide +kernel)) rfl
theorem q259 : Cond.constantLong RX1 138 2341 ∈ LW := LW_of (List.mem_of_getElem? (i := 259) (by decide +kernel)) rfl
theorem q260 : Cond.methodLink RX1 140 yX1_hour ∈ LW := LW_of (List.mem_of_getElem? (i := 260) (by decide +kernel)) rfl
theorem q261 : Cond.methodLink RX1 143 yX1_mix ∈ LW := LW_of (List.mem_of_getElem? (i := 261) (by decide +kernel)) rfl
theorem q262 : Cond.static yX1_mix ∈ LW := LW_of (List.mem_of_getElem? (i := 262) (by decide +kernel)) rfl
theorem q263 : Cond.code yX1_mix cX1_mix 3 (some .long) ∈ LW := LW_of (List.mem_of_getElem? (i := 263) (by decide +kernel)) rfl
theorem q264 : Cond.constantLong RX1 217 31 ∈ LW := LW_of (List.mem_of_getElem? (i := 264) (by decide +kernel)) rfl
theorem q265 : Cond.methodLink RX1 147 yX1_fields ∈ LW := LW_of (List.mem_of_getElem? (i := 265) (by decide +kernel)) rfl
theorem q266 : Cond.methodLink RX1 150 yX1_drains ∈ LW := LW_of (List.mem_of_getElem? (i := 266) (by decide +kernel)) rfl
theorem q267 : Cond.methodLink RX1 153 yX1_rain ∈ LW := LW_of (List.mem_of_getElem? (i := 267) (by decide +kernel)) rfl
theorem q268 : Cond.methodLink RX1 156 yX1_drained ∈ LW := LW_of (List.mem_of_getElem? (i := 268) (by decide +kernel)) rfl
theorem q269 : Cond.methodLink RX1 159 yX1_wetFields ∈ LW := LW_of (List.mem_of_getElem? (i := 269) (by decide +kernel)) rfl
theorem q270 : Cond.methodLink RX1 162 yX1_loss ∈ LW := LW_of (List.mem_of_getElem? (i := 270) (by decide +kernel)) rfl
theorem q271 : Cond.methodLink RX1 165 yX1_highest ∈ LW := LW_of (List.mem_of_getElem? (i := 271) (by decide +kernel)) rfl
theorem q272 : Cond.methodLink RX1 168 yX1_busiest ∈ LW := LW_of (List.mem_of_getElem? (i := 272) (by decide +kernel)) rfl
theorem q273 : Cond.methodLink RX1 171 yX1_lossIn ∈ LW := LW_of (List.mem_of_getElem? (i := 273) (by decide +kernel)) rfl
theorem q274 : Cond.instanceMethod yX1_lossIn ∈ LW := LW_of (List.mem_of_getElem? (i := 274) (by decide +kernel)) rfl
theorem q275 : Cond.selects RX1 yX1_lossIn yX1_lossIn ∈ LW := LW_of (List.mem_of_getElem? (i := 275) (by decide +kernel)) rfl
theorem q276 : Cond.code yX1_lossIn cX1_lossIn 2 (some .int) ∈ LW := LW_of (List.mem_of_getElem? (i := 276) (by decide +kernel)) rfl
theorem q277 : Cond.methodLink RX1 19 yX1_requireWithin ∈ LW := LW_of (List.mem_of_getElem? (i := 277) (by decide +kernel)) rfl
theorem q278 : Cond.static yX1_requireWithin ∈ LW := LW_of (List.mem_of_getElem? (i := 278) (by decide +kernel)) rfl
theorem q279 : Cond.code yX1_requireWithin cX1_requireWithin 3 none ∈ LW := LW_of (List.mem_of_getElem? (i := 279) (by decide +kernel)) rfl
theorem q280 : Cond.classLink RX1 219 "java/lang/IllegalArgumentException" ∈ LW := LW_of (List.mem_of_getElem? (i := 280) (by decide +kernel)) rfl
theorem q281 : Cond.instantiable "java/lang/IllegalArgumentException" 6 ∈ LW := LW_of (List.mem_of_getElem? (i := 281) (by decide +kernel)) rfl
theorem q301 : Cond.fieldLink "java/lang/Throwable" 198 "java/lang/Throwable" "backtrace" "Ljava/lang/Object;" ∈ LW := LW_of (List.mem_of_getElem? (i := 301) (by decide +kernel)) rfl
theorem q305 : Cond.methodLink "java/lang/Throwable" 1 objectInit ∈ LW := LW_of (List.mem_of_getElem? (i := 305) (by decide +kernel)) rfl
theorem q306 : Cond.fieldLink "java/lang/Throwable" 13 "java/lang/Throwable" "UNASSIGNED_STACK" "[Ljava/lang/StackTraceElement;" ∈ LW := LW_of (List.mem_of_getElem? (i := 306) (by decide +kernel)) rfl
theorem q308 : Cond.fieldLink "java/lang/Throwable" 20 "java/lang/Throwable" "SUPPRESSED_SENTINEL" "Ljava/util/List;" ∈ LW := LW_of (List.mem_of_getElem? (i := 308) (by decide +kernel)) rfl
theorem q319 : Cond.instantiable "java/lang/Throwable" 6 ∈ LW := LW_of (List.mem_of_getElem? (i := 319) (by decide +kernel)) rfl
theorem q335 : Cond.fieldLink "java/lang/Throwable" 31 "java/lang/Throwable" "detailMessage" "Ljava/lang/String;" ∈ LW := LW_of (List.mem_of_getElem? (i := 335) (by decide +kernel)) rfl
theorem q336 : Cond.fieldLink "java/lang/Throwable" 7 "java/lang/Throwable" "cause" "Ljava/lang/Throwable;" ∈ LW := LW_of (List.mem_of_getElem? (i := 336) (by decide +kernel)) rfl
theorem q337 : Cond.fieldLink "java/lang/Throwable" 17 "java/lang/Throwable" "stackTrace" "[Ljava/lang/StackTraceElement;" ∈ LW := LW_of (List.mem_of_getElem? (i := 337) (by decide +kernel)) rfl
theorem q338 : Cond.fieldLink "java/lang/Throwable" 24 "java/lang/Throwable" "suppressedExceptions" "Ljava/util/List;" ∈ LW := LW_of (List.mem_of_getElem? (i := 338) (by decide +kernel)) rfl
theorem q348 : Cond.methodLink RX1 174 yX1_bestToTurn ∈ LW := LW_of (List.mem_of_getElem? (i := 348) (by decide +kernel)) rfl
theorem q349 : Cond.methodLink RX1 177 yX1_bestToFlood ∈ LW := LW_of (List.mem_of_getElem? (i := 349) (by decide +kernel)) rfl
theorem q350 : Cond.instanceMethod yX1_bestToFlood ∈ LW := LW_of (List.mem_of_getElem? (i := 350) (by decide +kernel)) rfl
theorem q351 : Cond.selects RX1 yX1_bestToFlood yX1_bestToFlood ∈ LW := LW_of (List.mem_of_getElem? (i := 351) (by decide +kernel)) rfl
theorem q352 : Cond.code yX1_bestToFlood cX1_bestToFlood 6 (some .int) ∈ LW := LW_of (List.mem_of_getElem? (i := 352) (by decide +kernel)) rfl
theorem q353 : Cond.methodLink RX1 56 yX0_letWaterIn ∈ LW := LW_of (List.mem_of_getElem? (i := 353) (by decide +kernel)) rfl
theorem q354 : Cond.methodLink RX1 180 yX1_rainBorne ∈ LW := LW_of (List.mem_of_getElem? (i := 354) (by decide +kernel)) rfl
theorem q355 : Cond.methodLink RX1 183 yX1_mixFields ∈ LW := LW_of (List.mem_of_getElem? (i := 355) (by decide +kernel)) rfl
theorem q357 : Cond.instanceMethod yX1_mixFields ∈ LW := LW_of (List.mem_of_getElem? (i := 357) (by decide +kernel)) rfl
theorem q358 : Cond.code yX1_mixFields cX1_mixFields 6 (some .long) ∈ LW := LW_of (List.mem_of_getElem? (i := 358) (by decide +kernel)) rfl
theorem q359 : Cond.methodLink RX1 190 yX1_waterOn ∈ LW := LW_of (List.mem_of_getElem? (i := 359) (by decide +kernel)) rfl
theorem q360 : Cond.instanceMethod yX1_waterOn ∈ LW := LW_of (List.mem_of_getElem? (i := 360) (by decide +kernel)) rfl
theorem q361 : Cond.selects RX1 yX1_waterOn yX1_waterOn ∈ LW := LW_of (List.mem_of_getElem? (i := 361) (by decide +kernel)) rfl
theorem q362 : Cond.code yX1_waterOn cX1_waterOn 2 (some .int) ∈ LW := LW_of (List.mem_of_getElem? (i := 362) (by decide +kernel)) rfl
theorem q363 : Cond.methodLink RX1 34 yX1_requireField ∈ LW := LW_of (List.mem_of_getElem? (i := 363) (by decide +kernel)) rfl
theorem q365 : Cond.instanceMethod yX1_requireField ∈ LW := LW_of (List.mem_of_getElem? (i := 365) (by decide +kernel)) rfl
theorem q366 : Cond.code yX1_requireField cX1_requireField 2 none ∈ LW := LW_of (List.mem_of_getElem? (i := 366) (by decide +kernel)) rfl
theorem q367 : Cond.methodLink RX1 229 yX0_hasField ∈ LW := LW_of (List.mem_of_getElem? (i := 367) (by decide +kernel)) rfl
theorem q368 : Cond.classLink RX1 232 "java/lang/IndexOutOfBoundsException" ∈ LW := LW_of (List.mem_of_getElem? (i := 368) (by decide +kernel)) rfl
theorem q369 : Cond.instantiable "java/lang/IndexOutOfBoundsException" 6 ∈ LW := LW_of (List.mem_of_getElem? (i := 369) (by decide +kernel)) rfl
theorem q384 : Cond.methodLink RX1 193 yX1_wetFor ∈ LW := LW_of (List.mem_of_getElem? (i := 384) (by decide +kernel)) rfl
theorem q385 : Cond.instanceMethod yX1_wetFor ∈ LW := LW_of (List.mem_of_getElem? (i := 385) (by decide +kernel)) rfl
theorem q386 : Cond.selects RX1 yX1_wetFor yX1_wetFor ∈ LW := LW_of (List.mem_of_getElem? (i := 386) (by decide +kernel)) rfl
theorem q387 : Cond.code yX1_wetFor cX1_wetFor 2 (some .int) ∈ LW := LW_of (List.mem_of_getElem? (i := 387) (by decide +kernel)) rfl
theorem q388 : Cond.methodLink RX1 196 yX1_isRuined ∈ LW := LW_of (List.mem_of_getElem? (i := 388) (by decide +kernel)) rfl
theorem q389 : Cond.instanceMethod yX1_isRuined ∈ LW := LW_of (List.mem_of_getElem? (i := 389) (by decide +kernel)) rfl
theorem q390 : Cond.selects RX1 yX1_isRuined yX1_isRuined ∈ LW := LW_of (List.mem_of_getElem? (i := 390) (by decide +kernel)) rfl
theorem q391 : Cond.code yX1_isRuined cX1_isRuined 2 (some .boolean) ∈ LW := LW_of (List.mem_of_getElem? (i := 391) (by decide +kernel)) rfl
theorem q392 : Cond.methodLink RX1 199 yX1_drainsAt ∈ LW := LW_of (List.mem_of_getElem? (i := 392) (by decide +kernel)) rfl
theorem q393 : Cond.instanceMethod yX1_drainsAt ∈ LW := LW_of (List.mem_of_getElem? (i := 393) (by decide +kernel)) rfl
theorem q394 : Cond.selects RX1 yX1_drainsAt yX1_drainsAt ∈ LW := LW_of (List.mem_of_getElem? (i := 394) (by decide +kernel)) rfl
theorem q395 : Cond.code yX1_drainsAt cX1_drainsAt 4 (some .int) ∈ LW := LW_of (List.mem_of_getElem? (i := 395) (by decide +kernel)) rfl
theorem q396 : Cond.methodLink RX1 202 yX1_reaches ∈ LW := LW_of (List.mem_of_getElem? (i := 396) (by decide +kernel)) rfl
theorem q397 : Cond.instanceMethod yX1_reaches ∈ LW := LW_of (List.mem_of_getElem? (i := 397) (by decide +kernel)) rfl
theorem q398 : Cond.selects RX1 yX1_reaches yX1_reaches ∈ LW := LW_of (List.mem_of_getElem? (i := 398) (by decide +kernel)) rfl
theorem q399 : Cond.code yX1_reaches cX1_reaches 4 (some .int) ∈ LW := LW_of (List.mem_of_getElem? (i := 399) (by decide +kernel)) rfl
theorem q400 : Cond.methodLink RX1 106 yX0_spreadByDrains ∈ LW := LW_of (List.mem_of_getElem? (i := 400) (by decide +kernel)) rfl
theorem q401 : Cond.instanceMethod yX0_spreadByDrains ∈ LW := LW_of (List.mem_of_getElem? (i := 401) (by decide +kernel)) rfl
theorem q402 : Cond.selects RX0 yX0_spreadByDrains yX0_spreadByDrains ∈ LW := LW_of (List.mem_of_getElem? (i := 402) (by decide +kernel)) rfl
theorem q403 : Cond.code yX0_spreadByDrains cX0_spreadByDrains 6 (some .int) ∈ LW := LW_of (List.mem_of_getElem? (i := 403) (by decide +kernel)) rfl
theorem q404 : Cond.methodLink RX1 109 yJ6_bitCount_0f7a4 ∈ LW := LW_of (List.mem_of_getElem? (i := 404) (by decide +kernel)) rfl
theorem q405 : Cond.static yJ6_bitCount_0f7a4 ∈ LW := LW_of (List.mem_of_getElem? (i := 405) (by decide +kernel)) rfl
theorem q406 : Cond.code yJ6_bitCount_0f7a4 cJ6_bitCount_0f7a4 1 (some .int) ∈ LW := LW_of (List.mem_of_getElem? (i := 406) (by decide +kernel)) rfl
theorem q407 : Cond.constant RJ6 265 1431655765 ∈ LW := LW_of (List.mem_of_getElem? (i := 407) (by decide +kernel)) rfl
theorem q408 : Cond.constant RJ6 266 858993459 ∈ LW := LW_of (List.mem_of_getElem? (i := 408) (by decide +kernel)) rfl
theorem q409 : Cond.constant RJ6 267 252645135 ∈ LW := LW_of (List.mem_of_getElem? (i := 409) (by decide +kernel)) rfl
theorem q410 : Cond.methodLink RX1 205 yX1_hoursUntilRuined ∈ LW := LW_of (List.mem_of_getElem? (i := 410) (by decide +kernel)) rfl
theorem q411 : Cond.instanceMethod yX1_hoursUntilRuined ∈ LW := LW_of (List.mem_of_getElem? (i := 411) (by decide +kernel)) rfl
theorem q412 : Cond.selects RX1 yX1_hoursUntilRuined yX1_hoursUntilRuined ∈ LW := LW_of (List.mem_of_getElem? (i := 412) (by decide +kernel)) rfl
theorem q413 : Cond.code yX1_hoursUntilRuined cX1_hoursUntilRuined 3 (some .int) ∈ LW := LW_of (List.mem_of_getElem? (i := 413) (by decide +kernel)) rfl
theorem q414 : Cond.methodLink RX1 132 yX0_passHour ∈ LW := LW_of (List.mem_of_getElem? (i := 414) (by decide +kernel)) rfl
theorem q415 : Cond.methodLink RX1 187 yX1_mixDrains ∈ LW := LW_of (List.mem_of_getElem? (i := 415) (by decide +kernel)) rfl
theorem q417 : Cond.instanceMethod yX1_mixDrains ∈ LW := LW_of (List.mem_of_getElem? (i := 417) (by decide +kernel)) rfl
theorem q418 : Cond.code yX1_mixDrains cX1_mixDrains 6 (some .long) ∈ LW := LW_of (List.mem_of_getElem? (i := 418) (by decide +kernel)) rfl
theorem q419 : Cond.methodLink RX1 208 yX1_isOpen ∈ LW := LW_of (List.mem_of_getElem? (i := 419) (by decide +kernel)) rfl
theorem q420 : Cond.instanceMethod yX1_isOpen ∈ LW := LW_of (List.mem_of_getElem? (i := 420) (by decide +kernel)) rfl
theorem q421 : Cond.selects RX1 yX1_isOpen yX1_isOpen ∈ LW := LW_of (List.mem_of_getElem? (i := 421) (by decide +kernel)) rfl
theorem q422 : Cond.code yX1_isOpen cX1_isOpen 2 (some .boolean) ∈ LW := LW_of (List.mem_of_getElem? (i := 422) (by decide +kernel)) rfl
theorem q423 : Cond.methodLink RX1 42 yX1_requireDrain ∈ LW := LW_of (List.mem_of_getElem? (i := 423) (by decide +kernel)) rfl
theorem q425 : Cond.instanceMethod yX1_requireDrain ∈ LW := LW_of (List.mem_of_getElem? (i := 425) (by decide +kernel)) rfl
theorem q426 : Cond.code yX1_requireDrain cX1_requireDrain 2 none ∈ LW := LW_of (List.mem_of_getElem? (i := 426) (by decide +kernel)) rfl
theorem q427 : Cond.methodLink RX1 237 yX0_hasDrain ∈ LW := LW_of (List.mem_of_getElem? (i := 427) (by decide +kernel)) rfl
theorem q429 : Cond.methodLink RX1 211 yX1_carriedBy ∈ LW := LW_of (List.mem_of_getElem? (i := 429) (by decide +kernel)) rfl
theorem q430 : Cond.instanceMethod yX1_carriedBy ∈ LW := LW_of (List.mem_of_getElem? (i := 430) (by decide +kernel)) rfl
theorem q431 : Cond.selects RX1 yX1_carriedBy yX1_carriedBy ∈ LW := LW_of (List.mem_of_getElem? (i := 431) (by decide +kernel)) rfl
theorem q432 : Cond.code yX1_carriedBy cX1_carriedBy 2 (some .int) ∈ LW := LW_of (List.mem_of_getElem? (i := 432) (by decide +kernel)) rfl
theorem q433 : Cond.methodLink RX1 214 yX1_wouldCarry ∈ LW := LW_of (List.mem_of_getElem? (i := 433) (by decide +kernel)) rfl
theorem q434 : Cond.instanceMethod yX1_wouldCarry ∈ LW := LW_of (List.mem_of_getElem? (i := 434) (by decide +kernel)) rfl
theorem q435 : Cond.selects RX1 yX1_wouldCarry yX1_wouldCarry ∈ LW := LW_of (List.mem_of_getElem? (i := 435) (by decide +kernel)) rfl
theorem q436 : Cond.code yX1_wouldCarry cX1_wouldCarry 2 (some .int) ∈ LW := LW_of (List.mem_of_getElem? (i := 436) (by decide +kernel)) rfl
theorem q437 : Cond.methodLink RX1 120 yX0_flowNow ∈ LW := LW_of (List.mem_of_getElem? (i := 437) (by decide +kernel)) rfl
theorem q438 : Cond.methodLink RX1 123 Lib.Math.abs.name ∈ LW := LW_of (List.mem_of_getElem? (i := 438) (by decide +kernel)) rfl
theorem q439 : Cond.methodLink RL 86 yL_addField ∈ LW := LW_of (List.mem_of_getElem? (i := 439) (by decide +kernel)) rfl
theorem q440 : Cond.static yL_addField ∈ LW := LW_of (List.mem_of_getElem? (i := 440) (by decide +kernel)) rfl
theorem q441 : Cond.codeWith yL_addField cL_addField 5 (some .int) [(0, 10, 13, 13), (0, 10, 17, 15)] ∈ LW := LW_of (List.mem_of_getElem? (i := 441) (by decide +kernel)) rfl
theorem q442 : Cond.classLink RL 13 "java/lang/IllegalArgumentException" ∈ LW := LW_of (List.mem_of_getElem? (i := 442) (by decide +kernel)) rfl
theorem q443 : Cond.classLink RL 15 "java/lang/IllegalStateException" ∈ LW := LW_of (List.mem_of_getElem? (i := 443) (by decide +kernel)) rfl
theorem q444 : Cond.methodLink RL 7 yX1_addField ∈ LW := LW_of (List.mem_of_getElem? (i := 444) (by decide +kernel)) rfl
theorem q445 : Cond.instanceMethod yX1_addField ∈ LW := LW_of (List.mem_of_getElem? (i := 445) (by decide +kernel)) rfl
theorem q446 : Cond.selects RX1 yX1_addField yX1_addField ∈ LW := LW_of (List.mem_of_getElem? (i := 446) (by decide +kernel)) rfl
theorem q447 : Cond.code yX1_addField cX1_addField 4 (some .int) ∈ LW := LW_of (List.mem_of_getElem? (i := 447) (by decide +kernel)) rfl
theorem q448 : Cond.methodLink RX1 23 yX0_putField ∈ LW := LW_of (List.mem_of_getElem? (i := 448) (by decide +kernel)) rfl
theorem q449 : Cond.instanceMethod yX0_putField ∈ LW := LW_of (List.mem_of_getElem? (i := 449) (by decide +kernel)) rfl
theorem q450 : Cond.selects RX0 yX0_putField yX0_putField ∈ LW := LW_of (List.mem_of_getElem? (i := 450) (by decide +kernel)) rfl
theorem q451 : Cond.code yX0_putField cX0_putField 4 (some .int) ∈ LW := LW_of (List.mem_of_getElem? (i := 451) (by decide +kernel)) rfl
theorem q452 : Cond.classLink RX1 27 "java/lang/IllegalStateException" ∈ LW := LW_of (List.mem_of_getElem? (i := 452) (by decide +kernel)) rfl
theorem q453 : Cond.instantiable "java/lang/IllegalStateException" 6 ∈ LW := LW_of (List.mem_of_getElem? (i := 453) (by decide +kernel)) rfl
theorem q468 : Cond.methodLink RL 96 yL_addDitch ∈ LW := LW_of (List.mem_of_getElem? (i := 468) (by decide +kernel)) rfl
theorem q469 : Cond.static yL_addDitch ∈ LW := LW_of (List.mem_of_getElem? (i := 469) (by decide +kernel)) rfl
theorem q470 : Cond.codeWith yL_addDitch cL_addDitch 6 (some .int) [(0, 12, 15, 21), (0, 12, 19, 13), (0, 12, 23, 15)] ∈ LW := LW_of (List.mem_of_getElem? (i := 470) (by decide +kernel)) rfl
theorem q471 : Cond.classLink RL 21 "java/lang/IndexOutOfBoundsException" ∈ LW := LW_of (List.mem_of_getElem? (i := 471) (by decide +kernel)) rfl
theorem q472 : Cond.methodLink RL 17 yX1_addDitch ∈ LW := LW_of (List.mem_of_getElem? (i := 472) (by decide +kernel)) rfl
theorem q473 : Cond.instanceMethod yX1_addDitch ∈ LW := LW_of (List.mem_of_getElem? (i := 473) (by decide +kernel)) rfl
theorem q474 : Cond.selects RX1 yX1_addDitch yX1_addDitch ∈ LW := LW_of (List.mem_of_getElem? (i := 474) (by decide +kernel)) rfl
theorem q475 : Cond.code yX1_addDitch cX1_addDitch 4 (some .int) ∈ LW := LW_of (List.mem_of_getElem? (i := 475) (by decide +kernel)) rfl
theorem q476 : Cond.methodLink RX1 38 yX1_addDrain ∈ LW := LW_of (List.mem_of_getElem? (i := 476) (by decide +kernel)) rfl
theorem q478 : Cond.instanceMethod yX1_addDrain ∈ LW := LW_of (List.mem_of_getElem? (i := 478) (by decide +kernel)) rfl
theorem q479 : Cond.code yX1_addDrain cX1_addDrain 6 (some .int) ∈ LW := LW_of (List.mem_of_getElem? (i := 479) (by decide +kernel)) rfl
theorem q481 : Cond.methodLink RX1 224 yX0_putDrain ∈ LW := LW_of (List.mem_of_getElem? (i := 481) (by decide +kernel)) rfl
theorem q482 : Cond.instanceMethod yX0_putDrain ∈ LW := LW_of (List.mem_of_getElem? (i := 482) (by decide +kernel)) rfl
theorem q483 : Cond.selects RX0 yX0_putDrain yX0_putDrain ∈ LW := LW_of (List.mem_of_getElem? (i := 483) (by decide +kernel)) rfl
theorem q484 : Cond.code yX0_putDrain cX0_putDrain 6 (some .int) ∈ LW := LW_of (List.mem_of_getElem? (i := 484) (by decide +kernel)) rfl
theorem q486 : Cond.methodLink RL 100 yL_addPump ∈ LW := LW_of (List.mem_of_getElem? (i := 486) (by decide +kernel)) rfl
theorem q487 : Cond.static yL_addPump ∈ LW := LW_of (List.mem_of_getElem? (i := 487) (by decide +kernel)) rfl
theorem q488 : Cond.codeWith yL_addPump cL_addPump 6 (some .int) [(0, 12, 15, 21), (0, 12, 19, 13), (0, 12, 23, 15)] ∈ LW := LW_of (List.mem_of_getElem? (i := 488) (by decide +kernel)) rfl
theorem q489 : Cond.methodLink RL 23 yX1_addPump ∈ LW := LW_of (List.mem_of_getElem? (i := 489) (by decide +kernel)) rfl
theorem q490 : Cond.instanceMethod yX1_addPump ∈ LW := LW_of (List.mem_of_getElem? (i := 490) (by decide +kernel)) rfl
theorem q491 : Cond.selects RX1 yX1_addPump yX1_addPump ∈ LW := LW_of (List.mem_of_getElem? (i := 491) (by decide +kernel)) rfl
theorem q492 : Cond.code yX1_addPump cX1_addPump 4 (some .int) ∈ LW := LW_of (List.mem_of_getElem? (i := 492) (by decide +kernel)) rfl
theorem q493 : Cond.methodLink RL 103 yL_turn ∈ LW := LW_of (List.mem_of_getElem? (i := 493) (by decide +kernel)) rfl
theorem q494 : Cond.static yL_turn ∈ LW := LW_of (List.mem_of_getElem? (i := 494) (by decide +kernel)) rfl
theorem q495 : Cond.codeWith yL_turn cL_turn 4 (some .int) [(0, 16, 19, 21)] ∈ LW := LW_of (List.mem_of_getElem? (i := 495) (by decide +kernel)) rfl
theorem q496 : Cond.methodLink RL 26 yX1_turn ∈ LW := LW_of (List.mem_of_getElem? (i := 496) (by decide +kernel)) rfl
theorem q497 : Cond.instanceMethod yX1_turn ∈ LW := LW_of (List.mem_of_getElem? (i := 497) (by decide +kernel)) rfl
theorem q498 : Cond.selects RX1 yX1_turn yX1_turn ∈ LW := LW_of (List.mem_of_getElem? (i := 498) (by decide +kernel)) rfl
theorem q499 : Cond.code yX1_turn cX1_turn 2 (some .boolean) ∈ LW := LW_of (List.mem_of_getElem? (i := 499) (by decide +kernel)) rfl
theorem q500 : Cond.methodLink RL 107 yL_setRain ∈ LW := LW_of (List.mem_of_getElem? (i := 500) (by decide +kernel)) rfl
theorem q501 : Cond.static yL_setRain ∈ LW := LW_of (List.mem_of_getElem? (i := 501) (by decide +kernel)) rfl
theorem q502 : Cond.codeWith yL_setRain cL_setRain 4 (some .int) [(0, 9, 12, 13)] ∈ LW := LW_of (List.mem_of_getElem? (i := 502) (by decide +kernel)) rfl
theorem q503 : Cond.methodLink RL 30 yX1_setRain ∈ LW := LW_of (List.mem_of_getElem? (i := 503) (by decide +kernel)) rfl
theorem q504 : Cond.instanceMethod yX1_setRain ∈ LW := LW_of (List.mem_of_getElem? (i := 504) (by decide +kernel)) rfl
theorem q505 : Cond.selects RX1 yX1_setRain yX1_setRain ∈ LW := LW_of (List.mem_of_getElem? (i := 505) (by decide +kernel)) rfl
theorem q506 : Cond.code yX1_setRain cX1_setRain 3 (some .int) ∈ LW := LW_of (List.mem_of_getElem? (i := 506) (by decide +kernel)) rfl
theorem q507 : Cond.methodLink RL 110 yL_flood ∈ LW := LW_of (List.mem_of_getElem? (i := 507) (by decide +kernel)) rfl
theorem q508 : Cond.static yL_flood ∈ LW := LW_of (List.mem_of_getElem? (i := 508) (by decide +kernel)) rfl
theorem q509 : Cond.codeWith yL_flood cL_flood 5 (some .int) [(0, 10, 13, 21), (0, 10, 17, 13)] ∈ LW := LW_of (List.mem_of_getElem? (i := 509) (by decide +kernel)) rfl
theorem q510 : Cond.methodLink RL 34 yX1_flood ∈ LW := LW_of (List.mem_of_getElem? (i := 510) (by decide +kernel)) rfl
theorem q511 : Cond.instanceMethod yX1_flood ∈ LW := LW_of (List.mem_of_getElem? (i := 511) (by decide +kernel)) rfl
theorem q512 : Cond.selects RX1 yX1_flood yX1_flood ∈ LW := LW_of (List.mem_of_getElem? (i := 512) (by decide +kernel)) rfl
theorem q513 : Cond.code yX1_flood cX1_flood 3 (some .int) ∈ LW := LW_of (List.mem_of_getElem? (i := 513) (by decide +kernel)) rfl
theorem q514 : Cond.methodLink RL 113 yL_pass ∈ LW := LW_of (List.mem_of_getElem? (i := 514) (by decide +kernel)) rfl
theorem q515 : Cond.static yL_pass ∈ LW := LW_of (List.mem_of_getElem? (i := 515) (by decide +kernel)) rfl
theorem q516 : Cond.codeWith yL_pass cL_pass 4 (some .int) [(0, 9, 12, 13)] ∈ LW := LW_of (List.mem_of_getElem? (i := 516) (by decide +kernel)) rfl
theorem q517 : Cond.methodLink RL 37 yX1_pass ∈ LW := LW_of (List.mem_of_getElem? (i := 517) (by decide +kernel)) rfl
theorem q518 : Cond.instanceMethod yX1_pass ∈ LW := LW_of (List.mem_of_getElem? (i := 518) (by decide +kernel)) rfl
theorem q519 : Cond.selects RX1 yX1_pass yX1_pass ∈ LW := LW_of (List.mem_of_getElem? (i := 519) (by decide +kernel)) rfl
theorem q520 : Cond.code yX1_pass cX1_pass 3 (some .int) ∈ LW := LW_of (List.mem_of_getElem? (i := 520) (by decide +kernel)) rfl
theorem q521 : Cond.methodLink RL 152 yL_waterOn ∈ LW := LW_of (List.mem_of_getElem? (i := 521) (by decide +kernel)) rfl
theorem q522 : Cond.static yL_waterOn ∈ LW := LW_of (List.mem_of_getElem? (i := 522) (by decide +kernel)) rfl
theorem q523 : Cond.codeWith yL_waterOn cL_waterOn 4 (some .int) [(0, 9, 12, 21)] ∈ LW := LW_of (List.mem_of_getElem? (i := 523) (by decide +kernel)) rfl
theorem q524 : Cond.methodLink RL 40 yX1_waterOn ∈ LW := LW_of (List.mem_of_getElem? (i := 524) (by decide +kernel)) rfl
theorem q525 : Cond.methodLink RL 155 yL_levelOf ∈ LW := LW_of (List.mem_of_getElem? (i := 525) (by decide +kernel)) rfl
theorem q526 : Cond.static yL_levelOf ∈ LW := LW_of (List.mem_of_getElem? (i := 526) (by decide +kernel)) rfl
theorem q527 : Cond.codeWith yL_levelOf cL_levelOf 4 (some .int) [(0, 9, 12, 21)] ∈ LW := LW_of (List.mem_of_getElem? (i := 527) (by decide +kernel)) rfl
theorem q528 : Cond.methodLink RL 43 yX1_levelOf ∈ LW := LW_of (List.mem_of_getElem? (i := 528) (by decide +kernel)) rfl
theorem q529 : Cond.instanceMethod yX1_levelOf ∈ LW := LW_of (List.mem_of_getElem? (i := 529) (by decide +kernel)) rfl
theorem q530 : Cond.selects RX1 yX1_levelOf yX1_levelOf ∈ LW := LW_of (List.mem_of_getElem? (i := 530) (by decide +kernel)) rfl
theorem q531 : Cond.code yX1_levelOf cX1_levelOf 2 (some .int) ∈ LW := LW_of (List.mem_of_getElem? (i := 531) (by decide +kernel)) rfl
theorem q532 : Cond.methodLink RL 158 yL_wetFor ∈ LW := LW_of (List.mem_of_getElem? (i := 532) (by decide +kernel)) rfl
theorem q533 : Cond.static yL_wetFor ∈ LW := LW_of (List.mem_of_getElem? (i := 533) (by decide +kernel)) rfl
theorem q534 : Cond.codeWith yL_wetFor cL_wetFor 4 (some .int) [(0, 9, 12, 21)] ∈ LW := LW_of (List.mem_of_getElem? (i := 534) (by decide +kernel)) rfl
theorem q535 : Cond.methodLink RL 46 yX1_wetFor ∈ LW := LW_of (List.mem_of_getElem? (i := 535) (by decide +kernel)) rfl
theorem q536 : Cond.methodLink RL 161 yL_isRuined ∈ LW := LW_of (List.mem_of_getElem? (i := 536) (by decide +kernel)) rfl
theorem q537 : Cond.static yL_isRuined ∈ LW := LW_of (List.mem_of_getElem? (i := 537) (by decide +kernel)) rfl
theorem q538 : Cond.codeWith yL_isRuined cL_isRuined 4 (some .int) [(0, 16, 19, 21)] ∈ LW := LW_of (List.mem_of_getElem? (i := 538) (by decide +kernel)) rfl
theorem q539 : Cond.methodLink RL 49 yX1_isRuined ∈ LW := LW_of (List.mem_of_getElem? (i := 539) (by decide +kernel)) rfl
theorem q540 : Cond.methodLink RL 164 yL_drainsAt ∈ LW := LW_of (List.mem_of_getElem? (i := 540) (by decide +kernel)) rfl
theorem q541 : Cond.static yL_drainsAt ∈ LW := LW_of (List.mem_of_getElem? (i := 541) (by decide +kernel)) rfl
theorem q542 : Cond.codeWith yL_drainsAt cL_drainsAt 4 (some .int) [(0, 9, 12, 21)] ∈ LW := LW_of (List.mem_of_getElem? (i := 542) (by decide +kernel)) rfl
theorem q543 : Cond.methodLink RL 52 yX1_drainsAt ∈ LW := LW_of (List.mem_of_getElem? (i := 543) (by decide +kernel)) rfl
theorem q544 : Cond.methodLink RL 167 yL_reaches ∈ LW := LW_of (List.mem_of_getElem? (i := 544) (by decide +kernel)) rfl
theorem q545 : Cond.static yL_reaches ∈ LW := LW_of (List.mem_of_getElem? (i := 545) (by decide +kernel)) rfl
theorem q546 : Cond.codeWith yL_reaches cL_reaches 4 (some .int) [(0, 9, 12, 21)] ∈ LW := LW_of (List.mem_of_getElem? (i := 546) (by decide +kernel)) rfl
theorem q547 : Cond.methodLink RL 55 yX1_reaches ∈ LW := LW_of (List.mem_of_getElem? (i := 547) (by decide +kernel)) rfl
theorem q548 : Cond.methodLink RL 174 yL_isPump ∈ LW := LW_of (List.mem_of_getElem? (i := 548) (by decide +kernel)) rfl
theorem q549 : Cond.static yL_isPump ∈ LW := LW_of (List.mem_of_getElem? (i := 549) (by decide +kernel)) rfl
theorem q550 : Cond.codeWith yL_isPump cL_isPump 4 (some .int) [(0, 16, 19, 21)] ∈ LW := LW_of (List.mem_of_getElem? (i := 550) (by decide +kernel)) rfl
theorem q551 : Cond.methodLink RL 58 yX1_isPump ∈ LW := LW_of (List.mem_of_getElem? (i := 551) (by decide +kernel)) rfl
theorem q552 : Cond.instanceMethod yX1_isPump ∈ LW := LW_of (List.mem_of_getElem? (i := 552) (by decide +kernel)) rfl
theorem q553 : Cond.selects RX1 yX1_isPump yX1_isPump ∈ LW := LW_of (List.mem_of_getElem? (i := 553) (by decide +kernel)) rfl
theorem q554 : Cond.code yX1_isPump cX1_isPump 2 (some .boolean) ∈ LW := LW_of (List.mem_of_getElem? (i := 554) (by decide +kernel)) rfl
theorem q555 : Cond.methodLink RL 177 yL_isOpen ∈ LW := LW_of (List.mem_of_getElem? (i := 555) (by decide +kernel)) rfl
theorem q556 : Cond.static yL_isOpen ∈ LW := LW_of (List.mem_of_getElem? (i := 556) (by decide +kernel)) rfl
theorem q557 : Cond.codeWith yL_isOpen cL_isOpen 4 (some .int) [(0, 16, 19, 21)] ∈ LW := LW_of (List.mem_of_getElem? (i := 557) (by decide +kernel)) rfl
theorem q558 : Cond.methodLink RL 61 yX1_isOpen ∈ LW := LW_of (List.mem_of_getElem? (i := 558) (by decide +kernel)) rfl
theorem q559 : Cond.methodLink RL 180 yL_carriedBy ∈ LW := LW_of (List.mem_of_getElem? (i := 559) (by decide +kernel)) rfl
theorem q560 : Cond.static yL_carriedBy ∈ LW := LW_of (List.mem_of_getElem? (i := 560) (by decide +kernel)) rfl
theorem q561 : Cond.codeWith yL_carriedBy cL_carriedBy 4 (some .int) [(0, 9, 12, 21)] ∈ LW := LW_of (List.mem_of_getElem? (i := 561) (by decide +kernel)) rfl
theorem q562 : Cond.methodLink RL 64 yX1_carriedBy ∈ LW := LW_of (List.mem_of_getElem? (i := 562) (by decide +kernel)) rfl
theorem q563 : Cond.methodLink RL 183 yL_wouldCarry ∈ LW := LW_of (List.mem_of_getElem? (i := 563) (by decide +kernel)) rfl
theorem q564 : Cond.static yL_wouldCarry ∈ LW := LW_of (List.mem_of_getElem? (i := 564) (by decide +kernel)) rfl
theorem q565 : Cond.codeWith yL_wouldCarry cL_wouldCarry 4 (some .int) [(0, 9, 12, 21)] ∈ LW := LW_of (List.mem_of_getElem? (i := 565) (by decide +kernel)) rfl
theorem q566 : Cond.methodLink RL 67 yX1_wouldCarry ∈ LW := LW_of (List.mem_of_getElem? (i := 566) (by decide +kernel)) rfl
theorem q567 : Cond.methodLink RL 190 yL_hoursUntilRuined ∈ LW := LW_of (List.mem_of_getElem? (i := 567) (by decide +kernel)) rfl
theorem q568 : Cond.static yL_hoursUntilRuined ∈ LW := LW_of (List.mem_of_getElem? (i := 568) (by decide +kernel)) rfl
theorem q569 : Cond.codeWith yL_hoursUntilRuined cL_hoursUntilRuined 4 (some .int) [(0, 9, 12, 21)] ∈ LW := LW_of (List.mem_of_getElem? (i := 569) (by decide +kernel)) rfl
theorem q570 : Cond.methodLink RL 70 yX1_hoursUntilRuined ∈ LW := LW_of (List.mem_of_getElem? (i := 570) (by decide +kernel)) rfl
theorem q571 : Cond.methodLink RL 193 yL_lossIn ∈ LW := LW_of (List.mem_of_getElem? (i := 571) (by decide +kernel)) rfl
theorem q572 : Cond.static yL_lossIn ∈ LW := LW_of (List.mem_of_getElem? (i := 572) (by decide +kernel)) rfl
theorem q573 : Cond.codeWith yL_lossIn cL_lossIn 4 (some .int) [(0, 9, 12, 13)] ∈ LW := LW_of (List.mem_of_getElem? (i := 573) (by decide +kernel)) rfl
theorem q574 : Cond.methodLink RL 73 yX1_lossIn ∈ LW := LW_of (List.mem_of_getElem? (i := 574) (by decide +kernel)) rfl
theorem q575 : Cond.methodLink RL 196 yL_waterIn ∈ LW := LW_of (List.mem_of_getElem? (i := 575) (by decide +kernel)) rfl
theorem q576 : Cond.static yL_waterIn ∈ LW := LW_of (List.mem_of_getElem? (i := 576) (by decide +kernel)) rfl
theorem q577 : Cond.codeWith yL_waterIn cL_waterIn 5 (some .int) [(0, 10, 13, 21), (0, 10, 17, 13)] ∈ LW := LW_of (List.mem_of_getElem? (i := 577) (by decide +kernel)) rfl
theorem q578 : Cond.methodLink RL 76 yX1_waterIn ∈ LW := LW_of (List.mem_of_getElem? (i := 578) (by decide +kernel)) rfl
theorem q579 : Cond.instanceMethod yX1_waterIn ∈ LW := LW_of (List.mem_of_getElem? (i := 579) (by decide +kernel)) rfl
theorem q580 : Cond.selects RX1 yX1_waterIn yX1_waterIn ∈ LW := LW_of (List.mem_of_getElem? (i := 580) (by decide +kernel)) rfl
theorem q581 : Cond.code yX1_waterIn cX1_waterIn 3 (some .int) ∈ LW := LW_of (List.mem_of_getElem? (i := 581) (by decide +kernel)) rfl
theorem q582 : Cond.methodLink RL 203 yL_bestToFlood ∈ LW := LW_of (List.mem_of_getElem? (i := 582) (by decide +kernel)) rfl
theorem q583 : Cond.static yL_bestToFlood ∈ LW := LW_of (List.mem_of_getElem? (i := 583) (by decide +kernel)) rfl
theorem q584 : Cond.codeWith yL_bestToFlood cL_bestToFlood 4 (some .int) [(0, 9, 12, 13)] ∈ LW := LW_of (List.mem_of_getElem? (i := 584) (by decide +kernel)) rfl
theorem q585 : Cond.methodLink RL 79 yX1_bestToFlood ∈ LW := LW_of (List.mem_of_getElem? (i := 585) (by decide +kernel)) rfl
theorem q586 : Cond.classLink RL 83 RX2 ∈ LW := LW_of (List.mem_of_getElem? (i := 586) (by decide +kernel)) rfl
theorem q587 : Cond.instantiable RX2 14 ∈ LW := LW_of (List.mem_of_getElem? (i := 587) (by decide +kernel)) rfl
theorem q588 : Cond.methodLink RL 85 yX2_init ∈ LW := LW_of (List.mem_of_getElem? (i := 588) (by decide +kernel)) rfl
theorem q589 : Cond.instanceMethod yX2_init ∈ LW := LW_of (List.mem_of_getElem? (i := 589) (by decide +kernel)) rfl
theorem q590 : Cond.code yX2_init cX2_init 1 none ∈ LW := LW_of (List.mem_of_getElem? (i := 590) (by decide +kernel)) rfl
theorem q591 : Cond.methodLink RX2 3 objectInit ∈ LW := LW_of (List.mem_of_getElem? (i := 591) (by decide +kernel)) rfl
theorem q592 : Cond.fieldLink RX2 41 "MarshDrainsModel" "thrown" "I" ∈ LW := LW_of (List.mem_of_getElem? (i := 592) (by decide +kernel)) rfl
theorem q593 : Cond.fieldLink RX2 45 "MarshDrainsModel" "fields" "I" ∈ LW := LW_of (List.mem_of_getElem? (i := 593) (by decide +kernel)) rfl
theorem q594 : Cond.fieldLink RX2 52 "MarshDrainsModel" "drains" "I" ∈ LW := LW_of (List.mem_of_getElem? (i := 594) (by decide +kernel)) rfl
theorem q595 : Cond.fieldLink RX2 80 "MarshDrainsModel" "rain" "I" ∈ LW := LW_of (List.mem_of_getElem? (i := 595) (by decide +kernel)) rfl
theorem q596 : Cond.fieldLink RX2 9 "MarshDrainsModel" "floor" "[I" ∈ LW := LW_of (List.mem_of_getElem? (i := 596) (by decide +kernel)) rfl
theorem q597 : Cond.fieldLink RX2 13 "MarshDrainsModel" "worth" "[I" ∈ LW := LW_of (List.mem_of_getElem? (i := 597) (by decide +kernel)) rfl
theorem q598 : Cond.fieldLink RX2 16 "MarshDrainsModel" "from" "[I" ∈ LW := LW_of (List.mem_of_getElem? (i := 598) (by decide +kernel)) rfl
theorem q599 : Cond.fieldLink RX2 19 "MarshDrainsModel" "to" "[I" ∈ LW := LW_of (List.mem_of_getElem? (i := 599) (by decide +kernel)) rfl
theorem q600 : Cond.fieldLink RX2 22 "MarshDrainsModel" "carries" "[I" ∈ LW := LW_of (List.mem_of_getElem? (i := 600) (by decide +kernel)) rfl
theorem q601 : Cond.fieldLink RX2 25 "MarshDrainsModel" "isPump" "[Z" ∈ LW := LW_of (List.mem_of_getElem? (i := 601) (by decide +kernel)) rfl
theorem q602 : Cond.fieldLink RX2 29 "MarshDrainsModel" "isOpen" "[Z" ∈ LW := LW_of (List.mem_of_getElem? (i := 602) (by decide +kernel)) rfl
theorem q603 : Cond.fieldLink RX2 32 "MarshDrainsModel" "now" "[I" ∈ LW := LW_of (List.mem_of_getElem? (i := 603) (by decide +kernel)) rfl
theorem q604 : Cond.fieldLink RX2 35 "MarshDrainsModel" "kept" "[I" ∈ LW := LW_of (List.mem_of_getElem? (i := 604) (by decide +kernel)) rfl
theorem q605 : Cond.fieldLink RX2 38 "MarshDrainsModel" "seen" "[Z" ∈ LW := LW_of (List.mem_of_getElem? (i := 605) (by decide +kernel)) rfl
theorem q635 : Cond.methodLink RL 92 yX2_thrown ∈ LW := LW_of (List.mem_of_getElem? (i := 635) (by decide +kernel)) rfl
theorem q636 : Cond.instanceMethod yX2_thrown ∈ LW := LW_of (List.mem_of_getElem? (i := 636) (by decide +kernel)) rfl
theorem q637 : Cond.selects RX2 yX2_thrown yX2_thrown ∈ LW := LW_of (List.mem_of_getElem? (i := 637) (by decide +kernel)) rfl
theorem q638 : Cond.code yX2_thrown cX2_thrown 1 (some .int) ∈ LW := LW_of (List.mem_of_getElem? (i := 638) (by decide +kernel)) rfl
theorem q639 : Cond.methodLink RL 91 yX2_addField ∈ LW := LW_of (List.mem_of_getElem? (i := 639) (by decide +kernel)) rfl
theorem q640 : Cond.instanceMethod yX2_addField ∈ LW := LW_of (List.mem_of_getElem? (i := 640) (by decide +kernel)) rfl
theorem q641 : Cond.selects RX2 yX2_addField yX2_addField ∈ LW := LW_of (List.mem_of_getElem? (i := 641) (by decide +kernel)) rfl
theorem q642 : Cond.code yX2_addField cX2_addField 3 (some .int) ∈ LW := LW_of (List.mem_of_getElem? (i := 642) (by decide +kernel)) rfl
theorem q643 : Cond.methodLink RX2 48 yX2_isIn ∈ LW := LW_of (List.mem_of_getElem? (i := 643) (by decide +kernel)) rfl
theorem q644 : Cond.static yX2_isIn ∈ LW := LW_of (List.mem_of_getElem? (i := 644) (by decide +kernel)) rfl
theorem q645 : Cond.code yX2_isIn cX2_isIn 3 (some .boolean) ∈ LW := LW_of (List.mem_of_getElem? (i := 645) (by decide +kernel)) rfl
theorem q646 : Cond.methodLink RX2 90 yX2_no ∈ LW := LW_of (List.mem_of_getElem? (i := 646) (by decide +kernel)) rfl
theorem q648 : Cond.instanceMethod yX2_no ∈ LW := LW_of (List.mem_of_getElem? (i := 648) (by decide +kernel)) rfl
theorem q649 : Cond.code yX2_no cX2_no 2 (some .int) ∈ LW := LW_of (List.mem_of_getElem? (i := 649) (by decide +kernel)) rfl
theorem q650 : Cond.methodLink RL 99 yX2_addDitch ∈ LW := LW_of (List.mem_of_getElem? (i := 650) (by decide +kernel)) rfl
theorem q651 : Cond.instanceMethod yX2_addDitch ∈ LW := LW_of (List.mem_of_getElem? (i := 651) (by decide +kernel)) rfl
theorem q652 : Cond.selects RX2 yX2_addDitch yX2_addDitch ∈ LW := LW_of (List.mem_of_getElem? (i := 652) (by decide +kernel)) rfl
theorem q653 : Cond.code yX2_addDitch cX2_addDitch 4 (some .int) ∈ LW := LW_of (List.mem_of_getElem? (i := 653) (by decide +kernel)) rfl
theorem q654 : Cond.methodLink RX2 93 yX2_isField ∈ LW := LW_of (List.mem_of_getElem? (i := 654) (by decide +kernel)) rfl
theorem q656 : Cond.instanceMethod yX2_isField ∈ LW := LW_of (List.mem_of_getElem? (i := 656) (by decide +kernel)) rfl
theorem q657 : Cond.code yX2_isField cX2_isField 2 (some .boolean) ∈ LW := LW_of (List.mem_of_getElem? (i := 657) (by decide +kernel)) rfl
theorem q658 : Cond.methodLink RX2 97 yX2_add ∈ LW := LW_of (List.mem_of_getElem? (i := 658) (by decide +kernel)) rfl
theorem q660 : Cond.instanceMethod yX2_add ∈ LW := LW_of (List.mem_of_getElem? (i := 660) (by decide +kernel)) rfl
theorem q661 : Cond.code yX2_add cX2_add 5 (some .int) ∈ LW := LW_of (List.mem_of_getElem? (i := 661) (by decide +kernel)) rfl
theorem q662 : Cond.methodLink RL 102 yX2_addPump ∈ LW := LW_of (List.mem_of_getElem? (i := 662) (by decide +kernel)) rfl
theorem q663 : Cond.instanceMethod yX2_addPump ∈ LW := LW_of (List.mem_of_getElem? (i := 663) (by decide +kernel)) rfl
theorem q664 : Cond.selects RX2 yX2_addPump yX2_addPump ∈ LW := LW_of (List.mem_of_getElem? (i := 664) (by decide +kernel)) rfl
theorem q665 : Cond.code yX2_addPump cX2_addPump 4 (some .int) ∈ LW := LW_of (List.mem_of_getElem? (i := 665) (by decide +kernel)) rfl
theorem q666 : Cond.methodLink RL 106 yX2_turn ∈ LW := LW_of (List.mem_of_getElem? (i := 666) (by decide +kernel)) rfl
theorem q667 : Cond.instanceMethod yX2_turn ∈ LW := LW_of (List.mem_of_getElem? (i := 667) (by decide +kernel)) rfl
theorem q668 : Cond.selects RX2 yX2_turn yX2_turn ∈ LW := LW_of (List.mem_of_getElem? (i := 668) (by decide +kernel)) rfl
theorem q669 : Cond.code yX2_turn cX2_turn 2 (some .boolean) ∈ LW := LW_of (List.mem_of_getElem? (i := 669) (by decide +kernel)) rfl
theorem q670 : Cond.methodLink RX2 101 yX2_isDrain ∈ LW := LW_of (List.mem_of_getElem? (i := 670) (by decide +kernel)) rfl
theorem q672 : Cond.instanceMethod yX2_isDrain ∈ LW := LW_of (List.mem_of_getElem? (i := 672) (by decide +kernel)) rfl
theorem q673 : Cond.code yX2_isDrain cX2_isDrain 2 (some .boolean) ∈ LW := LW_of (List.mem_of_getElem? (i := 673) (by decide +kernel)) rfl
theorem q674 : Cond.methodLink RX2 104 yX2_isNot ∈ LW := LW_of (List.mem_of_getElem? (i := 674) (by decide +kernel)) rfl
theorem q676 : Cond.instanceMethod yX2_isNot ∈ LW := LW_of (List.mem_of_getElem? (i := 676) (by decide +kernel)) rfl
theorem q677 : Cond.code yX2_isNot cX2_isNot 2 (some .boolean) ∈ LW := LW_of (List.mem_of_getElem? (i := 677) (by decide +kernel)) rfl
theorem q678 : Cond.methodLink RL 109 yX2_setRain ∈ LW := LW_of (List.mem_of_getElem? (i := 678) (by decide +kernel)) rfl
theorem q679 : Cond.instanceMethod yX2_setRain ∈ LW := LW_of (List.mem_of_getElem? (i := 679) (by decide +kernel)) rfl
theorem q680 : Cond.selects RX2 yX2_setRain yX2_setRain ∈ LW := LW_of (List.mem_of_getElem? (i := 680) (by decide +kernel)) rfl
theorem q681 : Cond.code yX2_setRain cX2_setRain 3 (some .int) ∈ LW := LW_of (List.mem_of_getElem? (i := 681) (by decide +kernel)) rfl
theorem q682 : Cond.methodLink RL 112 yX2_flood ∈ LW := LW_of (List.mem_of_getElem? (i := 682) (by decide +kernel)) rfl
theorem q683 : Cond.instanceMethod yX2_flood ∈ LW := LW_of (List.mem_of_getElem? (i := 683) (by decide +kernel)) rfl
theorem q684 : Cond.selects RX2 yX2_flood yX2_flood ∈ LW := LW_of (List.mem_of_getElem? (i := 684) (by decide +kernel)) rfl
theorem q685 : Cond.code yX2_flood cX2_flood 3 (some .int) ∈ LW := LW_of (List.mem_of_getElem? (i := 685) (by decide +kernel)) rfl
theorem q686 : Cond.methodLink RX2 61 yX2_water ∈ LW := LW_of (List.mem_of_getElem? (i := 686) (by decide +kernel)) rfl
theorem q688 : Cond.instanceMethod yX2_water ∈ LW := LW_of (List.mem_of_getElem? (i := 688) (by decide +kernel)) rfl
theorem q689 : Cond.code yX2_water cX2_water 2 (some .int) ∈ LW := LW_of (List.mem_of_getElem? (i := 689) (by decide +kernel)) rfl
theorem q690 : Cond.methodLink RL 115 yX2_pass ∈ LW := LW_of (List.mem_of_getElem? (i := 690) (by decide +kernel)) rfl
theorem q691 : Cond.instanceMethod yX2_pass ∈ LW := LW_of (List.mem_of_getElem? (i := 691) (by decide +kernel)) rfl
theorem q692 : Cond.selects RX2 yX2_pass yX2_pass ∈ LW := LW_of (List.mem_of_getElem? (i := 692) (by decide +kernel)) rfl
theorem q693 : Cond.code yX2_pass cX2_pass 3 (some .int) ∈ LW := LW_of (List.mem_of_getElem? (i := 693) (by decide +kernel)) rfl
theorem q694 : Cond.methodLink RX2 107 yX2_ruined ∈ LW := LW_of (List.mem_of_getElem? (i := 694) (by decide +kernel)) rfl
theorem q696 : Cond.instanceMethod yX2_ruined ∈ LW := LW_of (List.mem_of_getElem? (i := 696) (by decide +kernel)) rfl
theorem q697 : Cond.code yX2_ruined cX2_ruined 3 (some .int) ∈ LW := LW_of (List.mem_of_getElem? (i := 697) (by decide +kernel)) rfl
theorem q698 : Cond.methodLink RX2 111 yX2_hoursOn ∈ LW := LW_of (List.mem_of_getElem? (i := 698) (by decide +kernel)) rfl
theorem q700 : Cond.instanceMethod yX2_hoursOn ∈ LW := LW_of (List.mem_of_getElem? (i := 700) (by decide +kernel)) rfl
theorem q701 : Cond.code yX2_hoursOn cX2_hoursOn 3 none ∈ LW := LW_of (List.mem_of_getElem? (i := 701) (by decide +kernel)) rfl
theorem q702 : Cond.methodLink RX2 87 yX2_hourOn ∈ LW := LW_of (List.mem_of_getElem? (i := 702) (by decide +kernel)) rfl
theorem q704 : Cond.instanceMethod yX2_hourOn ∈ LW := LW_of (List.mem_of_getElem? (i := 704) (by decide +kernel)) rfl
theorem q705 : Cond.code yX2_hourOn cX2_hourOn 2 none ∈ LW := LW_of (List.mem_of_getElem? (i := 705) (by decide +kernel)) rfl
theorem q706 : Cond.methodLink RX2 83 yX2_carry ∈ LW := LW_of (List.mem_of_getElem? (i := 706) (by decide +kernel)) rfl
theorem q708 : Cond.instanceMethod yX2_carry ∈ LW := LW_of (List.mem_of_getElem? (i := 708) (by decide +kernel)) rfl
theorem q709 : Cond.code yX2_carry cX2_carry 3 none ∈ LW := LW_of (List.mem_of_getElem? (i := 709) (by decide +kernel)) rfl
theorem q710 : Cond.methodLink RX2 77 yX2_flow ∈ LW := LW_of (List.mem_of_getElem? (i := 710) (by decide +kernel)) rfl
theorem q712 : Cond.instanceMethod yX2_flow ∈ LW := LW_of (List.mem_of_getElem? (i := 712) (by decide +kernel)) rfl
theorem q713 : Cond.code yX2_flow cX2_flow 4 (some .int) ∈ LW := LW_of (List.mem_of_getElem? (i := 713) (by decide +kernel)) rfl
theorem q714 : Cond.methodLink RX2 65 Lib.Math.min.name ∈ LW := LW_of (List.mem_of_getElem? (i := 714) (by decide +kernel)) rfl
theorem q715 : Cond.methodLink RX2 71 yX2_level ∈ LW := LW_of (List.mem_of_getElem? (i := 715) (by decide +kernel)) rfl
theorem q717 : Cond.instanceMethod yX2_level ∈ LW := LW_of (List.mem_of_getElem? (i := 717) (by decide +kernel)) rfl
theorem q718 : Cond.code yX2_level cX2_level 2 (some .int) ∈ LW := LW_of (List.mem_of_getElem? (i := 718) (by decide +kernel)) rfl
theorem q719 : Cond.methodLink RX2 74 Lib.Math.abs.name ∈ LW := LW_of (List.mem_of_getElem? (i := 719) (by decide +kernel)) rfl
theorem q720 : Cond.methodLink RL 119 yX2_hour ∈ LW := LW_of (List.mem_of_getElem? (i := 720) (by decide +kernel)) rfl
theorem q721 : Cond.instanceMethod yX2_hour ∈ LW := LW_of (List.mem_of_getElem? (i := 721) (by decide +kernel)) rfl
theorem q722 : Cond.selects RX2 yX2_hour yX2_hour ∈ LW := LW_of (List.mem_of_getElem? (i := 722) (by decide +kernel)) rfl
theorem q723 : Cond.code yX2_hour cX2_hour 1 (some .int) ∈ LW := LW_of (List.mem_of_getElem? (i := 723) (by decide +kernel)) rfl
theorem q724 : Cond.methodLink RX2 114 yX2_ok ∈ LW := LW_of (List.mem_of_getElem? (i := 724) (by decide +kernel)) rfl
theorem q726 : Cond.instanceMethod yX2_ok ∈ LW := LW_of (List.mem_of_getElem? (i := 726) (by decide +kernel)) rfl
theorem q727 : Cond.code yX2_ok cX2_ok 2 (some .int) ∈ LW := LW_of (List.mem_of_getElem? (i := 727) (by decide +kernel)) rfl
theorem q728 : Cond.methodLink RL 123 yX2_fields ∈ LW := LW_of (List.mem_of_getElem? (i := 728) (by decide +kernel)) rfl
theorem q729 : Cond.instanceMethod yX2_fields ∈ LW := LW_of (List.mem_of_getElem? (i := 729) (by decide +kernel)) rfl
theorem q730 : Cond.selects RX2 yX2_fields yX2_fields ∈ LW := LW_of (List.mem_of_getElem? (i := 730) (by decide +kernel)) rfl
theorem q731 : Cond.code yX2_fields cX2_fields 1 (some .int) ∈ LW := LW_of (List.mem_of_getElem? (i := 731) (by decide +kernel)) rfl
theorem q732 : Cond.methodLink RL 127 yX2_drains ∈ LW := LW_of (List.mem_of_getElem? (i := 732) (by decide +kernel)) rfl
theorem q733 : Cond.instanceMethod yX2_drains ∈ LW := LW_of (List.mem_of_getElem? (i := 733) (by decide +kernel)) rfl
theorem q734 : Cond.selects RX2 yX2_drains yX2_drains ∈ LW := LW_of (List.mem_of_getElem? (i := 734) (by decide +kernel)) rfl
theorem q735 : Cond.code yX2_drains cX2_drains 1 (some .int) ∈ LW := LW_of (List.mem_of_getElem? (i := 735) (by decide +kernel)) rfl
theorem q736 : Cond.methodLink RL 131 yX2_rain ∈ LW := LW_of (List.mem_of_getElem? (i := 736) (by decide +kernel)) rfl
theorem q737 : Cond.instanceMethod yX2_rain ∈ LW := LW_of (List.mem_of_getElem? (i := 737) (by decide +kernel)) rfl
theorem q738 : Cond.selects RX2 yX2_rain yX2_rain ∈ LW := LW_of (List.mem_of_getElem? (i := 738) (by decide +kernel)) rfl
theorem q739 : Cond.code yX2_rain cX2_rain 1 (some .int) ∈ LW := LW_of (List.mem_of_getElem? (i := 739) (by decide +kernel)) rfl
theorem q740 : Cond.methodLink RL 135 yX2_water_ ∈ LW := LW_of (List.mem_of_getElem? (i := 740) (by decide +kernel)) rfl
theorem q741 : Cond.instanceMethod yX2_water_ ∈ LW := LW_of (List.mem_of_getElem? (i := 741) (by decide +kernel)) rfl
theorem q742 : Cond.selects RX2 yX2_water_ yX2_water_ ∈ LW := LW_of (List.mem_of_getElem? (i := 742) (by decide +kernel)) rfl
theorem q743 : Cond.code yX2_water_ cX2_water_ 1 (some .int) ∈ LW := LW_of (List.mem_of_getElem? (i := 743) (by decide +kernel)) rfl
theorem q744 : Cond.methodLink RX2 117 yX2_allWater ∈ LW := LW_of (List.mem_of_getElem? (i := 744) (by decide +kernel)) rfl
theorem q746 : Cond.instanceMethod yX2_allWater ∈ LW := LW_of (List.mem_of_getElem? (i := 746) (by decide +kernel)) rfl
theorem q747 : Cond.code yX2_allWater cX2_allWater 3 (some .int) ∈ LW := LW_of (List.mem_of_getElem? (i := 747) (by decide +kernel)) rfl
theorem q748 : Cond.methodLink RL 139 yX2_drained ∈ LW := LW_of (List.mem_of_getElem? (i := 748) (by decide +kernel)) rfl
theorem q749 : Cond.instanceMethod yX2_drained ∈ LW := LW_of (List.mem_of_getElem? (i := 749) (by decide +kernel)) rfl
theorem q750 : Cond.selects RX2 yX2_drained yX2_drained ∈ LW := LW_of (List.mem_of_getElem? (i := 750) (by decide +kernel)) rfl
theorem q751 : Cond.code yX2_drained cX2_drained 1 (some .int) ∈ LW := LW_of (List.mem_of_getElem? (i := 751) (by decide +kernel)) rfl
theorem q752 : Cond.methodLink RL 143 yX2_wetFields ∈ LW := LW_of (List.mem_of_getElem? (i := 752) (by decide +kernel)) rfl
theorem q753 : Cond.instanceMethod yX2_wetFields ∈ LW := LW_of (List.mem_of_getElem? (i := 753) (by decide +kernel)) rfl
theorem q754 : Cond.selects RX2 yX2_wetFields yX2_wetFields ∈ LW := LW_of (List.mem_of_getElem? (i := 754) (by decide +kernel)) rfl
theorem q755 : Cond.code yX2_wetFields cX2_wetFields 1 (some .int) ∈ LW := LW_of (List.mem_of_getElem? (i := 755) (by decide +kernel)) rfl
theorem q756 : Cond.methodLink RX2 120 yX2_wet ∈ LW := LW_of (List.mem_of_getElem? (i := 756) (by decide +kernel)) rfl
theorem q758 : Cond.instanceMethod yX2_wet ∈ LW := LW_of (List.mem_of_getElem? (i := 758) (by decide +kernel)) rfl
theorem q759 : Cond.code yX2_wet cX2_wet 3 (some .int) ∈ LW := LW_of (List.mem_of_getElem? (i := 759) (by decide +kernel)) rfl
theorem q760 : Cond.methodLink RL 147 yX2_ruinedFields ∈ LW := LW_of (List.mem_of_getElem? (i := 760) (by decide +kernel)) rfl
theorem q761 : Cond.instanceMethod yX2_ruinedFields ∈ LW := LW_of (List.mem_of_getElem? (i := 761) (by decide +kernel)) rfl
theorem q762 : Cond.selects RX2 yX2_ruinedFields yX2_ruinedFields ∈ LW := LW_of (List.mem_of_getElem? (i := 762) (by decide +kernel)) rfl
theorem q763 : Cond.code yX2_ruinedFields cX2_ruinedFields 1 (some .int) ∈ LW := LW_of (List.mem_of_getElem? (i := 763) (by decide +kernel)) rfl
theorem q764 : Cond.methodLink RL 151 yX2_loss ∈ LW := LW_of (List.mem_of_getElem? (i := 764) (by decide +kernel)) rfl
theorem q765 : Cond.instanceMethod yX2_loss ∈ LW := LW_of (List.mem_of_getElem? (i := 765) (by decide +kernel)) rfl
theorem q766 : Cond.selects RX2 yX2_loss yX2_loss ∈ LW := LW_of (List.mem_of_getElem? (i := 766) (by decide +kernel)) rfl
theorem q767 : Cond.code yX2_loss cX2_loss 1 (some .int) ∈ LW := LW_of (List.mem_of_getElem? (i := 767) (by decide +kernel)) rfl
theorem q768 : Cond.methodLink RX2 123 yX2_lost ∈ LW := LW_of (List.mem_of_getElem? (i := 768) (by decide +kernel)) rfl
theorem q770 : Cond.instanceMethod yX2_lost ∈ LW := LW_of (List.mem_of_getElem? (i := 770) (by decide +kernel)) rfl
theorem q771 : Cond.code yX2_lost cX2_lost 3 (some .int) ∈ LW := LW_of (List.mem_of_getElem? (i := 771) (by decide +kernel)) rfl
theorem q772 : Cond.methodLink RL 154 yX2_waterOn ∈ LW := LW_of (List.mem_of_getElem? (i := 772) (by decide +kernel)) rfl
theorem q773 : Cond.instanceMethod yX2_waterOn ∈ LW := LW_of (List.mem_of_getElem? (i := 773) (by decide +kernel)) rfl
theorem q774 : Cond.selects RX2 yX2_waterOn yX2_waterOn ∈ LW := LW_of (List.mem_of_getElem? (i := 774) (by decide +kernel)) rfl
theorem q775 : Cond.code yX2_waterOn cX2_waterOn 2 (some .int) ∈ LW := LW_of (List.mem_of_getElem? (i := 775) (by decide +kernel)) rfl
theorem q776 : Cond.methodLink RX2 126 yX2_of ∈ LW := LW_of (List.mem_of_getElem? (i := 776) (by decide +kernel)) rfl
theorem q778 : Cond.instanceMethod yX2_of ∈ LW := LW_of (List.mem_of_getElem? (i := 778) (by decide +kernel)) rfl
theorem q779 : Cond.code yX2_of cX2_of 3 (some .int) ∈ LW := LW_of (List.mem_of_getElem? (i := 779) (by decide +kernel)) rfl
theorem q780 : Cond.methodLink RL 157 yX2_levelOf ∈ LW := LW_of (List.mem_of_getElem? (i := 780) (by decide +kernel)) rfl
theorem q781 : Cond.instanceMethod yX2_levelOf ∈ LW := LW_of (List.mem_of_getElem? (i := 781) (by decide +kernel)) rfl
theorem q782 : Cond.selects RX2 yX2_levelOf yX2_levelOf ∈ LW := LW_of (List.mem_of_getElem? (i := 782) (by decide +kernel)) rfl
theorem q783 : Cond.code yX2_levelOf cX2_levelOf 2 (some .int) ∈ LW := LW_of (List.mem_of_getElem? (i := 783) (by decide +kernel)) rfl
theorem q784 : Cond.methodLink RL 160 yX2_wetFor ∈ LW := LW_of (List.mem_of_getElem? (i := 784) (by decide +kernel)) rfl
theorem q785 : Cond.instanceMethod yX2_wetFor ∈ LW := LW_of (List.mem_of_getElem? (i := 785) (by decide +kernel)) rfl
theorem q786 : Cond.selects RX2 yX2_wetFor yX2_wetFor ∈ LW := LW_of (List.mem_of_getElem? (i := 786) (by decide +kernel)) rfl
theorem q787 : Cond.code yX2_wetFor cX2_wetFor 2 (some .int) ∈ LW := LW_of (List.mem_of_getElem? (i := 787) (by decide +kernel)) rfl
theorem q788 : Cond.methodLink RL 163 yX2_isRuined ∈ LW := LW_of (List.mem_of_getElem? (i := 788) (by decide +kernel)) rfl
theorem q789 : Cond.instanceMethod yX2_isRuined ∈ LW := LW_of (List.mem_of_getElem? (i := 789) (by decide +kernel)) rfl
theorem q790 : Cond.selects RX2 yX2_isRuined yX2_isRuined ∈ LW := LW_of (List.mem_of_getElem? (i := 790) (by decide +kernel)) rfl
theorem q791 : Cond.code yX2_isRuined cX2_isRuined 2 (some .boolean) ∈ LW := LW_of (List.mem_of_getElem? (i := 791) (by decide +kernel)) rfl
theorem q792 : Cond.methodLink RL 166 yX2_drainsAt ∈ LW := LW_of (List.mem_of_getElem? (i := 792) (by decide +kernel)) rfl
theorem q793 : Cond.instanceMethod yX2_drainsAt ∈ LW := LW_of (List.mem_of_getElem? (i := 793) (by decide +kernel)) rfl
theorem q794 : Cond.selects RX2 yX2_drainsAt yX2_drainsAt ∈ LW := LW_of (List.mem_of_getElem? (i := 794) (by decide +kernel)) rfl
theorem q795 : Cond.code yX2_drainsAt cX2_drainsAt 2 (some .int) ∈ LW := LW_of (List.mem_of_getElem? (i := 795) (by decide +kernel)) rfl
theorem q796 : Cond.methodLink RX2 129 yX2_openAt ∈ LW := LW_of (List.mem_of_getElem? (i := 796) (by decide +kernel)) rfl
theorem q798 : Cond.instanceMethod yX2_openAt ∈ LW := LW_of (List.mem_of_getElem? (i := 798) (by decide +kernel)) rfl
theorem q799 : Cond.code yX2_openAt cX2_openAt 4 (some .int) ∈ LW := LW_of (List.mem_of_getElem? (i := 799) (by decide +kernel)) rfl
theorem q800 : Cond.methodLink RL 169 yX2_reaches ∈ LW := LW_of (List.mem_of_getElem? (i := 800) (by decide +kernel)) rfl
theorem q801 : Cond.instanceMethod yX2_reaches ∈ LW := LW_of (List.mem_of_getElem? (i := 801) (by decide +kernel)) rfl
theorem q802 : Cond.selects RX2 yX2_reaches yX2_reaches ∈ LW := LW_of (List.mem_of_getElem? (i := 802) (by decide +kernel)) rfl
theorem q803 : Cond.code yX2_reaches cX2_reaches 2 (some .int) ∈ LW := LW_of (List.mem_of_getElem? (i := 803) (by decide +kernel)) rfl
theorem q804 : Cond.methodLink RX2 136 yX2_spread ∈ LW := LW_of (List.mem_of_getElem? (i := 804) (by decide +kernel)) rfl
theorem q806 : Cond.instanceMethod yX2_spread ∈ LW := LW_of (List.mem_of_getElem? (i := 806) (by decide +kernel)) rfl
theorem q807 : Cond.code yX2_spread cX2_spread 5 (some .int) ∈ LW := LW_of (List.mem_of_getElem? (i := 807) (by decide +kernel)) rfl
theorem q808 : Cond.methodLink RX2 132 yX2_spreads ∈ LW := LW_of (List.mem_of_getElem? (i := 808) (by decide +kernel)) rfl
theorem q810 : Cond.instanceMethod yX2_spreads ∈ LW := LW_of (List.mem_of_getElem? (i := 810) (by decide +kernel)) rfl
theorem q811 : Cond.code yX2_spreads cX2_spreads 3 (some .boolean) ∈ LW := LW_of (List.mem_of_getElem? (i := 811) (by decide +kernel)) rfl
theorem q812 : Cond.methodLink RL 173 yX2_highest ∈ LW := LW_of (List.mem_of_getElem? (i := 812) (by decide +kernel)) rfl
theorem q813 : Cond.instanceMethod yX2_highest ∈ LW := LW_of (List.mem_of_getElem? (i := 813) (by decide +kernel)) rfl
theorem q814 : Cond.selects RX2 yX2_highest yX2_highest ∈ LW := LW_of (List.mem_of_getElem? (i := 814) (by decide +kernel)) rfl
theorem q815 : Cond.code yX2_highest cX2_highest 1 (some .int) ∈ LW := LW_of (List.mem_of_getElem? (i := 815) (by decide +kernel)) rfl
theorem q816 : Cond.methodLink RX2 139 yX2_high ∈ LW := LW_of (List.mem_of_getElem? (i := 816) (by decide +kernel)) rfl
theorem q818 : Cond.instanceMethod yX2_high ∈ LW := LW_of (List.mem_of_getElem? (i := 818) (by decide +kernel)) rfl
theorem q819 : Cond.code yX2_high cX2_high 3 (some .int) ∈ LW := LW_of (List.mem_of_getElem? (i := 819) (by decide +kernel)) rfl
theorem q820 : Cond.methodLink RL 176 yX2_isPump ∈ LW := LW_of (List.mem_of_getElem? (i := 820) (by decide +kernel)) rfl
theorem q821 : Cond.instanceMethod yX2_isPump ∈ LW := LW_of (List.mem_of_getElem? (i := 821) (by decide +kernel)) rfl
theorem q822 : Cond.selects RX2 yX2_isPump yX2_isPump ∈ LW := LW_of (List.mem_of_getElem? (i := 822) (by decide +kernel)) rfl
theorem q823 : Cond.code yX2_isPump cX2_isPump 2 (some .boolean) ∈ LW := LW_of (List.mem_of_getElem? (i := 823) (by decide +kernel)) rfl
theorem q824 : Cond.methodLink RL 179 yX2_isOpen ∈ LW := LW_of (List.mem_of_getElem? (i := 824) (by decide +kernel)) rfl
theorem q825 : Cond.instanceMethod yX2_isOpen ∈ LW := LW_of (List.mem_of_getElem? (i := 825) (by decide +kernel)) rfl
theorem q826 : Cond.selects RX2 yX2_isOpen yX2_isOpen ∈ LW := LW_of (List.mem_of_getElem? (i := 826) (by decide +kernel)) rfl
theorem q827 : Cond.code yX2_isOpen cX2_isOpen 2 (some .boolean) ∈ LW := LW_of (List.mem_of_getElem? (i := 827) (by decide +kernel)) rfl
theorem q828 : Cond.methodLink RL 182 yX2_carriedBy ∈ LW := LW_of (List.mem_of_getElem? (i := 828) (by decide +kernel)) rfl
theorem q829 : Cond.instanceMethod yX2_carriedBy ∈ LW := LW_of (List.mem_of_getElem? (i := 829) (by decide +kernel)) rfl
theorem q830 : Cond.selects RX2 yX2_carriedBy yX2_carriedBy ∈ LW := LW_of (List.mem_of_getElem? (i := 830) (by decide +kernel)) rfl
theorem q831 : Cond.code yX2_carriedBy cX2_carriedBy 2 (some .int) ∈ LW := LW_of (List.mem_of_getElem? (i := 831) (by decide +kernel)) rfl
theorem q832 : Cond.methodLink RL 185 yX2_wouldCarry ∈ LW := LW_of (List.mem_of_getElem? (i := 832) (by decide +kernel)) rfl
theorem q833 : Cond.instanceMethod yX2_wouldCarry ∈ LW := LW_of (List.mem_of_getElem? (i := 833) (by decide +kernel)) rfl
theorem q834 : Cond.selects RX2 yX2_wouldCarry yX2_wouldCarry ∈ LW := LW_of (List.mem_of_getElem? (i := 834) (by decide +kernel)) rfl
theorem q835 : Cond.code yX2_wouldCarry cX2_wouldCarry 2 (some .int) ∈ LW := LW_of (List.mem_of_getElem? (i := 835) (by decide +kernel)) rfl
theorem q836 : Cond.methodLink RL 189 yX2_busiest ∈ LW := LW_of (List.mem_of_getElem? (i := 836) (by decide +kernel)) rfl
theorem q837 : Cond.instanceMethod yX2_busiest ∈ LW := LW_of (List.mem_of_getElem? (i := 837) (by decide +kernel)) rfl
theorem q838 : Cond.selects RX2 yX2_busiest yX2_busiest ∈ LW := LW_of (List.mem_of_getElem? (i := 838) (by decide +kernel)) rfl
theorem q839 : Cond.code yX2_busiest cX2_busiest 1 (some .int) ∈ LW := LW_of (List.mem_of_getElem? (i := 839) (by decide +kernel)) rfl
theorem q840 : Cond.methodLink RX2 142 yX2_busy ∈ LW := LW_of (List.mem_of_getElem? (i := 840) (by decide +kernel)) rfl
theorem q842 : Cond.instanceMethod yX2_busy ∈ LW := LW_of (List.mem_of_getElem? (i := 842) (by decide +kernel)) rfl
theorem q843 : Cond.code yX2_busy cX2_busy 3 (some .int) ∈ LW := LW_of (List.mem_of_getElem? (i := 843) (by decide +kernel)) rfl
theorem q844 : Cond.methodLink RL 192 yX2_hoursUntilRuined ∈ LW := LW_of (List.mem_of_getElem? (i := 844) (by decide +kernel)) rfl
theorem q845 : Cond.instanceMethod yX2_hoursUntilRuined ∈ LW := LW_of (List.mem_of_getElem? (i := 845) (by decide +kernel)) rfl
theorem q846 : Cond.selects RX2 yX2_hoursUntilRuined yX2_hoursUntilRuined ∈ LW := LW_of (List.mem_of_getElem? (i := 846) (by decide +kernel)) rfl
theorem q847 : Cond.code yX2_hoursUntilRuined cX2_hoursUntilRuined 2 (some .int) ∈ LW := LW_of (List.mem_of_getElem? (i := 847) (by decide +kernel)) rfl
theorem q848 : Cond.methodLink RX2 151 yX2_until ∈ LW := LW_of (List.mem_of_getElem? (i := 848) (by decide +kernel)) rfl
theorem q850 : Cond.instanceMethod yX2_until ∈ LW := LW_of (List.mem_of_getElem? (i := 850) (by decide +kernel)) rfl
theorem q851 : Cond.code yX2_until cX2_until 3 (some .int) ∈ LW := LW_of (List.mem_of_getElem? (i := 851) (by decide +kernel)) rfl
theorem q852 : Cond.methodLink RX2 145 yX2_keep ∈ LW := LW_of (List.mem_of_getElem? (i := 852) (by decide +kernel)) rfl
theorem q854 : Cond.instanceMethod yX2_keep ∈ LW := LW_of (List.mem_of_getElem? (i := 854) (by decide +kernel)) rfl
theorem q855 : Cond.code yX2_keep cX2_keep 1 none ∈ LW := LW_of (List.mem_of_getElem? (i := 855) (by decide +kernel)) rfl
theorem q856 : Cond.methodLink RX2 55 arraycopyName ∈ LW := LW_of (List.mem_of_getElem? (i := 856) (by decide +kernel)) rfl
theorem q857 : Cond.static arraycopyName ∈ LW := LW_of (List.mem_of_getElem? (i := 857) (by decide +kernel)) rfl
theorem q858 : Cond.native arraycopyName ∈ LW := LW_of (List.mem_of_getElem? (i := 858) (by decide +kernel)) rfl
theorem q859 : Cond.methodLink RX2 148 yX2_bringBack ∈ LW := LW_of (List.mem_of_getElem? (i := 859) (by decide +kernel)) rfl
theorem q861 : Cond.instanceMethod yX2_bringBack ∈ LW := LW_of (List.mem_of_getElem? (i := 861) (by decide +kernel)) rfl
theorem q862 : Cond.code yX2_bringBack cX2_bringBack 1 none ∈ LW := LW_of (List.mem_of_getElem? (i := 862) (by decide +kernel)) rfl
theorem q863 : Cond.methodLink RL 195 yX2_lossIn ∈ LW := LW_of (List.mem_of_getElem? (i := 863) (by decide +kernel)) rfl
theorem q864 : Cond.instanceMethod yX2_lossIn ∈ LW := LW_of (List.mem_of_getElem? (i := 864) (by decide +kernel)) rfl
theorem q865 : Cond.selects RX2 yX2_lossIn yX2_lossIn ∈ LW := LW_of (List.mem_of_getElem? (i := 865) (by decide +kernel)) rfl
theorem q866 : Cond.code yX2_lossIn cX2_lossIn 2 (some .int) ∈ LW := LW_of (List.mem_of_getElem? (i := 866) (by decide +kernel)) rfl
theorem q867 : Cond.methodLink RX2 154 yX2_lostBehind ∈ LW := LW_of (List.mem_of_getElem? (i := 867) (by decide +kernel)) rfl
theorem q869 : Cond.instanceMethod yX2_lostBehind ∈ LW := LW_of (List.mem_of_getElem? (i := 869) (by decide +kernel)) rfl
theorem q870 : Cond.code yX2_lostBehind cX2_lostBehind 5 (some .int) ∈ LW := LW_of (List.mem_of_getElem? (i := 870) (by decide +kernel)) rfl
theorem q871 : Cond.methodLink RL 198 yX2_waterIn ∈ LW := LW_of (List.mem_of_getElem? (i := 871) (by decide +kernel)) rfl
theorem q872 : Cond.instanceMethod yX2_waterIn ∈ LW := LW_of (List.mem_of_getElem? (i := 872) (by decide +kernel)) rfl
theorem q873 : Cond.selects RX2 yX2_waterIn yX2_waterIn ∈ LW := LW_of (List.mem_of_getElem? (i := 873) (by decide +kernel)) rfl
theorem q874 : Cond.code yX2_waterIn cX2_waterIn 4 (some .int) ∈ LW := LW_of (List.mem_of_getElem? (i := 874) (by decide +kernel)) rfl
theorem q875 : Cond.methodLink RL 202 yX2_bestToTurn ∈ LW := LW_of (List.mem_of_getElem? (i := 875) (by decide +kernel)) rfl
theorem q876 : Cond.instanceMethod yX2_bestToTurn ∈ LW := LW_of (List.mem_of_getElem? (i := 876) (by decide +kernel)) rfl
theorem q877 : Cond.selects RX2 yX2_bestToTurn yX2_bestToTurn ∈ LW := LW_of (List.mem_of_getElem? (i := 877) (by decide +kernel)) rfl
theorem q878 : Cond.code yX2_bestToTurn cX2_bestToTurn 1 (some .int) ∈ LW := LW_of (List.mem_of_getElem? (i := 878) (by decide +kernel)) rfl
theorem q879 : Cond.methodLink RX2 158 yX2_turned ∈ LW := LW_of (List.mem_of_getElem? (i := 879) (by decide +kernel)) rfl
theorem q881 : Cond.instanceMethod yX2_turned ∈ LW := LW_of (List.mem_of_getElem? (i := 881) (by decide +kernel)) rfl
theorem q882 : Cond.code yX2_turned cX2_turned 5 (some .int) ∈ LW := LW_of (List.mem_of_getElem? (i := 882) (by decide +kernel)) rfl
theorem q883 : Cond.methodLink RL 205 yX2_bestToFlood ∈ LW := LW_of (List.mem_of_getElem? (i := 883) (by decide +kernel)) rfl
theorem q884 : Cond.instanceMethod yX2_bestToFlood ∈ LW := LW_of (List.mem_of_getElem? (i := 884) (by decide +kernel)) rfl
theorem q885 : Cond.selects RX2 yX2_bestToFlood yX2_bestToFlood ∈ LW := LW_of (List.mem_of_getElem? (i := 885) (by decide +kernel)) rfl
theorem q886 : Cond.code yX2_bestToFlood cX2_bestToFlood 2 (some .int) ∈ LW := LW_of (List.mem_of_getElem? (i := 886) (by decide +kernel)) rfl
theorem q887 : Cond.methodLink RX2 161 yX2_flooded ∈ LW := LW_of (List.mem_of_getElem? (i := 887) (by decide +kernel)) rfl
theorem q889 : Cond.instanceMethod yX2_flooded ∈ LW := LW_of (List.mem_of_getElem? (i := 889) (by decide +kernel)) rfl
theorem q890 : Cond.code yX2_flooded cX2_flooded 6 (some .int) ∈ LW := LW_of (List.mem_of_getElem? (i := 890) (by decide +kernel)) rfl
theorem q891 : Cond.methodLink RL 209 yX2_rainBorne ∈ LW := LW_of (List.mem_of_getElem? (i := 891) (by decide +kernel)) rfl
theorem q892 : Cond.instanceMethod yX2_rainBorne ∈ LW := LW_of (List.mem_of_getElem? (i := 892) (by decide +kernel)) rfl
theorem q893 : Cond.selects RX2 yX2_rainBorne yX2_rainBorne ∈ LW := LW_of (List.mem_of_getElem? (i := 893) (by decide +kernel)) rfl
theorem q894 : Cond.code yX2_rainBorne cX2_rainBorne 1 (some .int) ∈ LW := LW_of (List.mem_of_getElem? (i := 894) (by decide +kernel)) rfl
theorem q895 : Cond.methodLink RX2 164 yX2_borne ∈ LW := LW_of (List.mem_of_getElem? (i := 895) (by decide +kernel)) rfl
theorem q897 : Cond.instanceMethod yX2_borne ∈ LW := LW_of (List.mem_of_getElem? (i := 897) (by decide +kernel)) rfl
theorem q898 : Cond.code yX2_borne cX2_borne 4 (some .int) ∈ LW := LW_of (List.mem_of_getElem? (i := 898) (by decide +kernel)) rfl
theorem q899 : Cond.methodLink RL 214 yX2_meanWater ∈ LW := LW_of (List.mem_of_getElem? (i := 899) (by decide +kernel)) rfl
theorem q900 : Cond.instanceMethod yX2_meanWater ∈ LW := LW_of (List.mem_of_getElem? (i := 900) (by decide +kernel)) rfl
theorem q901 : Cond.selects RX2 yX2_meanWater yX2_meanWater ∈ LW := LW_of (List.mem_of_getElem? (i := 901) (by decide +kernel)) rfl
theorem q902 : Cond.code yX2_meanWater cX2_meanWater 1 (some .double) ∈ LW := LW_of (List.mem_of_getElem? (i := 902) (by decide +kernel)) rfl
theorem q903 : Cond.methodLink RL 219 yX2_digest ∈ LW := LW_of (List.mem_of_getElem? (i := 903) (by decide +kernel)) rfl
theorem q904 : Cond.instanceMethod yX2_digest ∈ LW := LW_of (List.mem_of_getElem? (i := 904) (by decide +kernel)) rfl
theorem q905 : Cond.selects RX2 yX2_digest yX2_digest ∈ LW := LW_of (List.mem_of_getElem? (i := 905) (by decide +kernel)) rfl
theorem q906 : Cond.code yX2_digest cX2_digest 10 (some .long) ∈ LW := LW_of (List.mem_of_getElem? (i := 906) (by decide +kernel)) rfl
theorem q907 : Cond.constantLong RX2 167 2341 ∈ LW := LW_of (List.mem_of_getElem? (i := 907) (by decide +kernel)) rfl
theorem q908 : Cond.constantLong RX2 169 31 ∈ LW := LW_of (List.mem_of_getElem? (i := 908) (by decide +kernel)) rfl
theorem q909 : Cond.arrayClass .long ∈ LW := LW_of (List.mem_of_getElem? (i := 909) (by decide +kernel)) rfl
