set_option maxHeartbeats 8000000 in
set_option maxRecDepth 100000 in
theorem law_c24 (l : Launch) (hl9 : l.stackTraces = false) {p : Program} {e : Env} {s : State} {m : MethodId} {args : Array Value} {below : List Frame} {meth : Method} {c : Code} {Q : State → Prop} (D : va_G) (cI cZ cL : ClassId) {A : Nat → Prop} {b L : Nat} {xs : Nat → Int32} (ob h : Nat) (a : Nat → Nat) (h2 : Nat) (a2 : Nat → Nat) (qo om : Nat) (bb : Nat → Nat) (hx : p.tables.exec = Jvm.exec) (hb : c.code = cL_law) (hml : c.maxLocals = 9) (hown : s.vm.findClass RL = some m.cls) (hts : ∀ w ∈ LW, w.before args s = true) (hE : EX A s s.heap) (hK : va_K D vwCl (tZ cI cZ cL) s) (hA : ∀ q : Nat, s.heap.size ≤ q → A q) (hX : va_X b L xs s s.heap) (hbl : b < s.heap.size) (hbA : ¬ A b) (hL : L ≤ 2048) {t : Nat} (ht : 4 * t + 4 ≤ L) (NX : lawN p l e s m args below meth c Q D cI cZ cL A b ob h a h2 a2 qo om bb t) {n k : Nat} (σ τ : Sg) (κ ζ : Nat → Int32) (th : Int32) (wo : Nat → Int64) (hst : Shp n k σ) (hB : Bnd (12000 * t) σ) {H : Heap} {locs : List Loc} {ls : Array Slot} (hP : va_P D vwCl ((oC ob h h2) ++ ((mC cI cZ h a σ) ++ ((mC cI cZ h2 a2 τ) ++ ((lC cL qo wo) ++ (rC cI cZ om bb σ κ ζ th))))) H) (hD : va_D A ((oC ob h h2) ++ ((mC cI cZ h a σ) ++ ((mC cI cZ h2 a2 τ) ++ ((lC cL qo wo) ++ (rC cI cZ om bb σ κ ζ th)))))) (hS : va_S A s.heap H locs) (hl : lv_has ls 9 [(4, .int (nI (4 * t))), (0, .ref b), (1, .ref ob), (2, .ref om), (3, .ref qo)]) : W p l e room_1 s m args below meth c H locs (40 + 11 * t) (600 + 74 * t) Q (F0 m 1203 ls []) := by
  have hn10 := hst.1
  have hk16 := hst.2.1
  have hv01 : (if hasF 1 σ (xs (4 * t + 1)) = 0 then 0 else σ 10 (xs (4 * t + 1)).toNatClampNeg) = 0 ∨ (if hasF 1 σ (xs (4 * t + 1)) = 0 then 0 else σ 10 (xs (4 * t + 1)).toNatClampNeg) = 1 := by
    by_cases g1 : hasF 1 σ (xs (4 * t + 1)) = 0
    · rw [if_pos g1]; exact Or.inl rfl
    · rw [if_neg g1]; obtain ⟨j, hj, ej⟩ := hasF_lt hst.f1 (by omega) g1; rw [ej, nI_clamp (by omega)]; exact hB.2.2.2.2.2.2 j (by omega)
  refine lv_aload_n hx hb dL_law_1203 rfl (lv_at hl 2 rfl) ?_
  refine lv_aload_n hx hb dL_law_1204 rfl (lv_at hl 1 rfl) ?_
  refine lv_iload hx hb dL_law_1205 (lv_at hl 0 rfl) ?_
  refine lv_iconst (v := 1) hx hb dL_law_1207 (by decide) ?_
  refine lv_iadd hx hb dL_law_1208 ?_
  refine x_top (nI_add (4 * t) 1) ?_
  refine va_sld hx hb hX hbl hbA hS (vp_in_nI (n := (4 * t) + 1) (by omega) (by omega)) dL_law_1209 ?_
  refine x_top (show xs (nI ((4 * t) + 1)).toNatClampNeg = xs ((4 * t) + 1) by rw [nI_clamp (by omega)]) ?_
  refine lv_aload_n hx hb dL_law_1210 rfl (lv_at hl 4 rfl) ?_
  refine MH.callS (As := [.ref ob, .int (xs ((4 * t) + 1)), .ref qo]) (rest := []) (w0 := []) (w2 := rC cI cZ om bb σ κ ζ th) (c_L_isOpen l hl9 D cI cZ cL ob h a h2 a2 σ τ hst hB (xs (4 * t + 1)) qo wo) ⟨hx, hb, hml, hown, hts⟩ q555 b_L_isOpen (n := 3) (by decide +kernel) ⟨Nat.le_of_ble_eq_true rfl, Nat.le_of_ble_eq_true rfl⟩ hK hP hD hS hA hE (spH _ _ _ _ _) rfl hl.1 rfl (Nat.le_of_ble_eq_true rfl) dL_law_1211 ⟨by show 40 + 11 * t + 0 + 1 ≤ 671377; omega, by show 600 + 74 * t + 0 + 6 ≤ 7081972; omega⟩ (fun x9 H locs hP hD hS => ?_)
  obtain ⟨⟨τ9, w9⟩, hw9⟩ := x9
  have hw9 : (if hasF 1 σ (xs (4 * t + 1)) = 0 then 1 else 0 : Int32) = 0 → w9 0 = (if hasF 1 σ (xs (4 * t + 1)) = 0 then 0 else σ 10 (xs (4 * t + 1)).toNatClampNeg : Int32).toInt64 := hw9
  have hP : va_P D vwCl ((oC ob h h2) ++ ((mC cI cZ h a σ) ++ ((mC cI cZ h2 a2 τ9) ++ ((lC cL qo w9) ++ (rC cI cZ om bb σ κ ζ th))))) H := hP
  have hD : va_D A ((oC ob h h2) ++ ((mC cI cZ h a σ) ++ ((mC cI cZ h2 a2 τ9) ++ ((lC cL qo w9) ++ (rC cI cZ om bb σ κ ζ th))))) := hD
  refine lv_istore (lv' := [(5, .int (if hasF 1 σ (xs (4 * t + 1)) = 0 then 1 else 0)), (4, .int (nI (4 * t))), (0, .ref b), (1, .ref ob), (2, .ref om), (3, .ref qo)]) hx hb dL_law_1214 hl (by decide) rfl (fun ls hl => ?_)
  refine lv_aload_n hx hb dL_law_1216 rfl (lv_at hl 4 rfl) ?_
  refine lv_aload_n hx hb dL_law_1217 rfl (lv_at hl 2 rfl) ?_
  refine lv_iload hx hb dL_law_1218 (lv_at hl 1 rfl) ?_
  refine lv_iconst (v := 1) hx hb dL_law_1220 (by decide) ?_
  refine lv_iadd hx hb dL_law_1221 ?_
  refine x_top (nI_add (4 * t) 1) ?_
  refine va_sld hx hb hX hbl hbA hS (vp_in_nI (n := (4 * t) + 1) (by omega) (by omega)) dL_law_1222 ?_
  refine x_top (show xs (nI ((4 * t) + 1)).toNatClampNeg = xs ((4 * t) + 1) by rw [nI_clamp (by omega)]) ?_
  refine MC.callV (C := RX2) (T := TX2) (N := 14) (As := [.int (xs ((4 * t) + 1))]) (rest := []) (wB := (oC ob h h2) ++ ((mC cI cZ h a σ) ++ ((mC cI cZ h2 a2 τ9) ++ ((lC cL qo w9) ++ (rC cI cZ om bb σ κ ζ (if hasF 1 σ (xs (4 * t + 1)) = 0 then 1 else 0)))))) (c_X2_isOpen l D cI cZ cL om bb σ κ ζ th hst hB (xs (4 * t + 1))) ⟨hx, hb, hml, hown, hts⟩ q824 b_X2_isOpen (n := 1) (by decide +kernel) ⟨Nat.le_of_ble_eq_true rfl, Nat.le_of_ble_eq_true rfl⟩ hK hP hD hS hA (spR _ _ _ _ _) (spR _ _ _ _ _) (ci := 2) rfl (q0 := 26) rfl rfl hl.1 rfl (Nat.le_of_ble_eq_true rfl) dL_law_1223 ⟨by show 40 + 11 * t + 1 + 0 ≤ 671377; omega, by show 600 + 74 * t + 6 + 0 ≤ 7081972; omega⟩ (fun H locs hP hD hS => ?_)
  refine lv_istore (lv' := [(6, .int (if hasF 1 σ (xs (4 * t + 1)) = 0 then 0 else σ 10 (xs (4 * t + 1)).toNatClampNeg)), (5, .int (if hasF 1 σ (xs (4 * t + 1)) = 0 then 1 else 0)), (4, .int (nI (4 * t))), (0, .ref b), (1, .ref ob), (2, .ref om), (3, .ref qo)]) hx hb dL_law_1226 hl (by decide) rfl (fun ls hl => ?_)
  refine lv_aload_n hx hb dL_law_1228 rfl (lv_at hl 5 rfl) ?_
  refine MC.callV (C := RX2) (T := TX2) (N := 14) (As := []) (rest := []) (wB := (oC ob h h2) ++ ((mC cI cZ h a σ) ++ ((mC cI cZ h2 a2 τ9) ++ ((lC cL qo w9) ++ (rC cI cZ om bb σ κ ζ (if hasF 1 σ (xs (4 * t + 1)) = 0 then 1 else 0)))))) (c_X2_thrown l D cI cZ cL om bb σ κ ζ (if hasF 1 σ (xs (4 * t + 1)) = 0 then 1 else 0)) ⟨hx, hb, hml, hown, hts⟩ q635 b_X2_thrown (n := 0) (by decide +kernel) ⟨Nat.le_of_ble_eq_true rfl, Nat.le_of_ble_eq_true rfl⟩ hK hP hD hS hA (spR _ _ _ _ _) (spR _ _ _ _ _) (ci := 2) rfl (q0 := 26) rfl rfl hl.1 rfl (Nat.le_of_ble_eq_true rfl) dL_law_1229 ⟨by show 40 + 11 * t + 1 + 0 ≤ 671377; omega, by show 600 + 74 * t + 6 + 0 ≤ 7081972; omega⟩ (fun H locs hP hD hS => ?_)
  refine lv_iload hx hb dL_law_1232 (lv_at hl 1 rfl) ?_
  refine lv_icmp_eq (tgt := 1239) hx hb dL_law_1234 (by decide) (fun c_1234 => ?_) (fun z => absurd (rfl) z)
  refine lv_iload hx hb dL_law_1239 (lv_at hl 1 rfl) ?_
  refine lv_if_ne (tgt := 1263) hx hb dL_law_1241 (by decide) (fun c_1241 => ?_) (fun c_1241 => ?_)
  · refine lv_goto (tgt := 1708) hx hb dL_law_1263 (by decide) ?_
    refine W.wide (k := 40 + 11 * (t + 1)) (n := 600 + 74 * (t + 1)) (by show 40 + 11 * t + 1 ≤ _; omega) (by show 600 + 74 * t + 6 ≤ _; omega) ?_
    exact NX n k σ τ9 κ ζ (if hasF 1 σ (xs (4 * t + 1)) = 0 then 1 else 0) w9 hst (hB.mono (by omega)) _ _ _ hP hD hS (lv_sub hl [2, 3, 4, 5, 6] rfl)
  · refine lv_aload_n hx hb dL_law_1244 rfl (lv_at hl 6 rfl) ?_
    refine lv_iconst (v := 0) hx hb dL_law_1245 (by decide) ?_
    refine va_lald hx hb hK hP 25 2 rfl rfl (vp_in_nI (n := 0) (by decide) (by decide)) dL_law_1246 ?_
    refine lv_iload hx hb dL_law_1247 (lv_at hl 0 rfl) ?_
    refine lv_if_eq (tgt := 1256) hx hb dL_law_1249 (by decide) (fun c_1249 => ?_) (fun c_1249 => ?_)
    · refine lv_lconst (v := 0) hx hb dL_law_1256 (by decide) ?_
      refine W.lcmp hx hb dL_law_1257 ?_
      refine x_top (lcmp_eq ((hw9 c_1241).trans (by rw [c_1249]; rfl))) ?_
      refine lv_if_eq (tgt := 1263) hx hb dL_law_1258 (by decide) (fun c_1258 => ?_) (fun z => absurd (by decide) z)
      refine lv_goto (tgt := 1708) hx hb dL_law_1263 (by decide) ?_
      refine W.wide (k := 40 + 11 * (t + 1)) (n := 600 + 74 * (t + 1)) (by show 40 + 11 * t + 1 ≤ _; omega) (by show 600 + 74 * t + 6 ≤ _; omega) ?_
      exact NX n k σ τ9 κ ζ (if hasF 1 σ (xs (4 * t + 1)) = 0 then 1 else 0) w9 hst (hB.mono (by omega)) _ _ _ hP hD hS (lv_sub hl [2, 3, 4, 5, 6] rfl)
    · refine lv_lconst (v := 1) hx hb dL_law_1252 (by decide) ?_
      refine lv_goto (tgt := 1257) hx hb dL_law_1253 (by decide) ?_
      refine W.lcmp hx hb dL_law_1257 ?_
      refine x_top (lcmp_eq ((hw9 c_1241).trans (by rw [(hv01).resolve_left c_1249]; rfl))) ?_
      refine lv_if_eq (tgt := 1263) hx hb dL_law_1258 (by decide) (fun c_1258 => ?_) (fun z => absurd (by decide) z)
      refine lv_goto (tgt := 1708) hx hb dL_law_1263 (by decide) ?_
      refine W.wide (k := 40 + 11 * (t + 1)) (n := 600 + 74 * (t + 1)) (by show 40 + 11 * t + 1 ≤ _; omega) (by show 600 + 74 * t + 6 ≤ _; omega) ?_
      exact NX n k σ τ9 κ ζ (if hasF 1 σ (xs (4 * t + 1)) = 0 then 1 else 0) w9 hst (hB.mono (by omega)) _ _ _ hP hD hS (lv_sub hl [2, 3, 4, 5, 6] rfl)

set_option maxHeartbeats 8000000 in
set_option maxRecDepth 100000 in
theorem law_c25 (l : Launch) (hl9 : l.stackTraces = false) {p : Program} {e : Env} {s : State} {m : MethodId} {args : Array Value} {below : List Frame} {meth : Method} {c : Code} {Q : State → Prop} (D : va_G) (cI cZ cL : ClassId) {A : Nat → Prop} {b L : Nat} {xs : Nat → Int32} (ob h : Nat) (a : Nat → Nat) (h2 : Nat) (a2 : Nat → Nat) (qo om : Nat) (bb : Nat → Nat) (hx : p.tables.exec = Jvm.exec) (hb : c.code = cL_law) (hml : c.maxLocals = 9) (hown : s.vm.findClass RL = some m.cls) (hts : ∀ w ∈ LW, w.before args s = true) (hE : EX A s s.heap) (hK : va_K D vwCl (tZ cI cZ cL) s) (hA : ∀ q : Nat, s.heap.size ≤ q → A q) (hX : va_X b L xs s s.heap) (hbl : b < s.heap.size) (hbA : ¬ A b) (hL : L ≤ 2048) {t : Nat} (ht : 4 * t + 4 ≤ L) (NX : lawN p l e s m args below meth c Q D cI cZ cL A b ob h a h2 a2 qo om bb t) {n k : Nat} (σ τ : Sg) (κ ζ : Nat → Int32) (th : Int32) (wo : Nat → Int64) (hst : Shp n k σ) (hB : Bnd (12000 * t) σ) {H : Heap} {locs : List Loc} {ls : Array Slot} (hP : va_P D vwCl ((oC ob h h2) ++ ((mC cI cZ h a σ) ++ ((mC cI cZ h2 a2 τ) ++ ((lC cL qo wo) ++ (rC cI cZ om bb σ κ ζ th))))) H) (hD : va_D A ((oC ob h h2) ++ ((mC cI cZ h a σ) ++ ((mC cI cZ h2 a2 τ) ++ ((lC cL qo wo) ++ (rC cI cZ om bb σ κ ζ th)))))) (hS : va_S A s.heap H locs) (hl : lv_has ls 9 [(4, .int (nI (4 * t))), (0, .ref b), (1, .ref ob), (2, .ref om), (3, .ref qo)]) : W p l e room_1 s m args below meth c H locs (40 + 11 * t) (600 + 74 * t) Q (F0 m 1266 ls []) := by
  have hn10 := hst.1
  have hk16 := hst.2.1
  refine lv_aload_n hx hb dL_law_1266 rfl (lv_at hl 2 rfl) ?_
  refine lv_aload_n hx hb dL_law_1267 rfl (lv_at hl 1 rfl) ?_
  refine lv_iload hx hb dL_law_1268 (lv_at hl 0 rfl) ?_
  refine lv_iconst (v := 1) hx hb dL_law_1270 (by decide) ?_
  refine lv_iadd hx hb dL_law_1271 ?_
  refine x_top (nI_add (4 * t) 1) ?_
  refine va_sld hx hb hX hbl hbA hS (vp_in_nI (n := (4 * t) + 1) (by omega) (by omega)) dL_law_1272 ?_
  refine x_top (show xs (nI ((4 * t) + 1)).toNatClampNeg = xs ((4 * t) + 1) by rw [nI_clamp (by omega)]) ?_
  refine lv_aload_n hx hb dL_law_1273 rfl (lv_at hl 4 rfl) ?_
  refine MH.callS (As := [.ref ob, .int (xs ((4 * t) + 1)), .ref qo]) (rest := []) (w0 := []) (w2 := rC cI cZ om bb σ κ ζ th) (c_L_carriedBy l hl9 D cI cZ cL ob h a h2 a2 σ τ hst hB (xs (4 * t + 1)) qo wo) ⟨hx, hb, hml, hown, hts⟩ q559 b_L_carriedBy (n := 3) (by decide +kernel) ⟨Nat.le_of_ble_eq_true rfl, Nat.le_of_ble_eq_true rfl⟩ hK hP hD hS hA hE (spH _ _ _ _ _) rfl hl.1 rfl (Nat.le_of_ble_eq_true rfl) dL_law_1274 ⟨by show 40 + 11 * t + 0 + 1 ≤ 671377; omega, by show 600 + 74 * t + 0 + 6 ≤ 7081972; omega⟩ (fun x9 H locs hP hD hS => ?_)
  obtain ⟨⟨τ9, w9⟩, hw9⟩ := x9
  have hw9 : (if hasF 1 σ (xs (4 * t + 1)) = 0 then 1 else 0 : Int32) = 0 → w9 0 = (if hasF 1 σ (xs (4 * t + 1)) = 0 then 0 else σ 8 (xs (4 * t + 1)).toNatClampNeg : Int32).toInt64 := hw9
  have hP : va_P D vwCl ((oC ob h h2) ++ ((mC cI cZ h a σ) ++ ((mC cI cZ h2 a2 τ9) ++ ((lC cL qo w9) ++ (rC cI cZ om bb σ κ ζ th))))) H := hP
  have hD : va_D A ((oC ob h h2) ++ ((mC cI cZ h a σ) ++ ((mC cI cZ h2 a2 τ9) ++ ((lC cL qo w9) ++ (rC cI cZ om bb σ κ ζ th))))) := hD
  refine lv_istore (lv' := [(5, .int (if hasF 1 σ (xs (4 * t + 1)) = 0 then 1 else 0)), (4, .int (nI (4 * t))), (0, .ref b), (1, .ref ob), (2, .ref om), (3, .ref qo)]) hx hb dL_law_1277 hl (by decide) rfl (fun ls hl => ?_)
  refine lv_aload_n hx hb dL_law_1279 rfl (lv_at hl 4 rfl) ?_
  refine lv_aload_n hx hb dL_law_1280 rfl (lv_at hl 2 rfl) ?_
  refine lv_iload hx hb dL_law_1281 (lv_at hl 1 rfl) ?_
  refine lv_iconst (v := 1) hx hb dL_law_1283 (by decide) ?_
  refine lv_iadd hx hb dL_law_1284 ?_
  refine x_top (nI_add (4 * t) 1) ?_
  refine va_sld hx hb hX hbl hbA hS (vp_in_nI (n := (4 * t) + 1) (by omega) (by omega)) dL_law_1285 ?_
  refine x_top (show xs (nI ((4 * t) + 1)).toNatClampNeg = xs ((4 * t) + 1) by rw [nI_clamp (by omega)]) ?_
  refine MC.callV (C := RX2) (T := TX2) (N := 14) (As := [.int (xs ((4 * t) + 1))]) (rest := []) (wB := (oC ob h h2) ++ ((mC cI cZ h a σ) ++ ((mC cI cZ h2 a2 τ9) ++ ((lC cL qo w9) ++ (rC cI cZ om bb σ κ ζ (if hasF 1 σ (xs (4 * t + 1)) = 0 then 1 else 0)))))) (c_X2_carriedBy l D cI cZ cL om bb σ κ ζ th hst (xs (4 * t + 1))) ⟨hx, hb, hml, hown, hts⟩ q828 b_X2_carriedBy (n := 1) (by decide +kernel) ⟨Nat.le_of_ble_eq_true rfl, Nat.le_of_ble_eq_true rfl⟩ hK hP hD hS hA (spR _ _ _ _ _) (spR _ _ _ _ _) (ci := 2) rfl (q0 := 26) rfl rfl hl.1 rfl (Nat.le_of_ble_eq_true rfl) dL_law_1286 ⟨by show 40 + 11 * t + 1 + 0 ≤ 671377; omega, by show 600 + 74 * t + 6 + 0 ≤ 7081972; omega⟩ (fun H locs hP hD hS => ?_)
  refine lv_istore (lv' := [(6, .int (if hasF 1 σ (xs (4 * t + 1)) = 0 then 0 else σ 8 (xs (4 * t + 1)).toNatClampNeg)), (5, .int (if hasF 1 σ (xs (4 * t + 1)) = 0 then 1 else 0)), (4, .int (nI (4 * t))), (0, .ref b), (1, .ref ob), (2, .ref om), (3, .ref qo)]) hx hb dL_law_1289 hl (by decide) rfl (fun ls hl => ?_)
  refine lv_aload_n hx hb dL_law_1291 rfl (lv_at hl 5 rfl) ?_
  refine MC.callV (C := RX2) (T := TX2) (N := 14) (As := []) (rest := []) (wB := (oC ob h h2) ++ ((mC cI cZ h a σ) ++ ((mC cI cZ h2 a2 τ9) ++ ((lC cL qo w9) ++ (rC cI cZ om bb σ κ ζ (if hasF 1 σ (xs (4 * t + 1)) = 0 then 1 else 0)))))) (c_X2_thrown l D cI cZ cL om bb σ κ ζ (if hasF 1 σ (xs (4 * t + 1)) = 0 then 1 else 0)) ⟨hx, hb, hml, hown, hts⟩ q635 b_X2_thrown (n := 0) (by decide +kernel) ⟨Nat.le_of_ble_eq_true rfl, Nat.le_of_ble_eq_true rfl⟩ hK hP hD hS hA (spR _ _ _ _ _) (spR _ _ _ _ _) (ci := 2) rfl (q0 := 26) rfl rfl hl.1 rfl (Nat.le_of_ble_eq_true rfl) dL_law_1292 ⟨by show 40 + 11 * t + 1 + 0 ≤ 671377; omega, by show 600 + 74 * t + 6 + 0 ≤ 7081972; omega⟩ (fun H locs hP hD hS => ?_)
  refine lv_iload hx hb dL_law_1295 (lv_at hl 1 rfl) ?_
  refine lv_icmp_eq (tgt := 1302) hx hb dL_law_1297 (by decide) (fun c_1297 => ?_) (fun z => absurd (rfl) z)
  refine lv_iload hx hb dL_law_1302 (lv_at hl 1 rfl) ?_
  refine lv_if_ne (tgt := 1319) hx hb dL_law_1304 (by decide) (fun c_1304 => ?_) (fun c_1304 => ?_)
  · refine lv_goto (tgt := 1708) hx hb dL_law_1319 (by decide) ?_
    refine W.wide (k := 40 + 11 * (t + 1)) (n := 600 + 74 * (t + 1)) (by show 40 + 11 * t + 1 ≤ _; omega) (by show 600 + 74 * t + 6 ≤ _; omega) ?_
    exact NX n k σ τ9 κ ζ (if hasF 1 σ (xs (4 * t + 1)) = 0 then 1 else 0) w9 hst (hB.mono (by omega)) _ _ _ hP hD hS (lv_sub hl [2, 3, 4, 5, 6] rfl)
  · refine lv_aload_n hx hb dL_law_1307 rfl (lv_at hl 6 rfl) ?_
    refine lv_iconst (v := 0) hx hb dL_law_1308 (by decide) ?_
    refine va_lald hx hb hK hP 25 2 rfl rfl (vp_in_nI (n := 0) (by decide) (by decide)) dL_law_1309 ?_
    refine lv_iload hx hb dL_law_1310 (lv_at hl 0 rfl) ?_
    refine lv_i2l hx hb dL_law_1312 rfl ?_
    refine W.lcmp hx hb dL_law_1313 ?_
    refine x_top (lcmp_eq (hw9 c_1304)) ?_
    refine lv_if_eq (tgt := 1319) hx hb dL_law_1314 (by decide) (fun c_1314 => ?_) (fun z => absurd (by decide) z)
    refine lv_goto (tgt := 1708) hx hb dL_law_1319 (by decide) ?_
    refine W.wide (k := 40 + 11 * (t + 1)) (n := 600 + 74 * (t + 1)) (by show 40 + 11 * t + 1 ≤ _; omega) (by show 600 + 74 * t + 6 ≤ _; omega) ?_
    exact NX n k σ τ9 κ ζ (if hasF 1 σ (xs (4 * t + 1)) = 0 then 1 else 0) w9 hst (hB.mono (by omega)) _ _ _ hP hD hS (lv_sub hl [2, 3, 4, 5, 6] rfl)

set_option maxHeartbeats 8000000 in
set_option maxRecDepth 100000 in
theorem law_c26 (l : Launch) (hl9 : l.stackTraces = false) {p : Program} {e : Env} {s : State} {m : MethodId} {args : Array Value} {below : List Frame} {meth : Method} {c : Code} {Q : State → Prop} (D : va_G) (cI cZ cL : ClassId) {A : Nat → Prop} {b L : Nat} {xs : Nat → Int32} (ob h : Nat) (a : Nat → Nat) (h2 : Nat) (a2 : Nat → Nat) (qo om : Nat) (bb : Nat → Nat) (hx : p.tables.exec = Jvm.exec) (hb : c.code = cL_law) (hml : c.maxLocals = 9) (hown : s.vm.findClass RL = some m.cls) (hts : ∀ w ∈ LW, w.before args s = true) (hE : EX A s s.heap) (hK : va_K D vwCl (tZ cI cZ cL) s) (hA : ∀ q : Nat, s.heap.size ≤ q → A q) (hX : va_X b L xs s s.heap) (hbl : b < s.heap.size) (hbA : ¬ A b) (hL : L ≤ 2048) {t : Nat} (ht : 4 * t + 4 ≤ L) (NX : lawN p l e s m args below meth c Q D cI cZ cL A b ob h a h2 a2 qo om bb t) {n k : Nat} (σ τ : Sg) (κ ζ : Nat → Int32) (th : Int32) (wo : Nat → Int64) (hst : Shp n k σ) (hB : Bnd (12000 * t) σ) {H : Heap} {locs : List Loc} {ls : Array Slot} (hP : va_P D vwCl ((oC ob h h2) ++ ((mC cI cZ h a σ) ++ ((mC cI cZ h2 a2 τ) ++ ((lC cL qo wo) ++ (rC cI cZ om bb σ κ ζ th))))) H) (hD : va_D A ((oC ob h h2) ++ ((mC cI cZ h a σ) ++ ((mC cI cZ h2 a2 τ) ++ ((lC cL qo wo) ++ (rC cI cZ om bb σ κ ζ th)))))) (hS : va_S A s.heap H locs) (hl : lv_has ls 9 [(4, .int (nI (4 * t))), (0, .ref b), (1, .ref ob), (2, .ref om), (3, .ref qo)]) : W p l e room_1 s m args below meth c H locs (40 + 11 * t) (600 + 74 * t) Q (F0 m 1322 ls []) := by
  have hn10 := hst.1
  have hk16 := hst.2.1
  refine lv_aload_n hx hb dL_law_1322 rfl (lv_at hl 2 rfl) ?_
  refine lv_aload_n hx hb dL_law_1323 rfl (lv_at hl 1 rfl) ?_
  refine lv_iload hx hb dL_law_1324 (lv_at hl 0 rfl) ?_
  refine lv_iconst (v := 1) hx hb dL_law_1326 (by decide) ?_
  refine lv_iadd hx hb dL_law_1327 ?_
  refine x_top (nI_add (4 * t) 1) ?_
  refine va_sld hx hb hX hbl hbA hS (vp_in_nI (n := (4 * t) + 1) (by omega) (by omega)) dL_law_1328 ?_
  refine x_top (show xs (nI ((4 * t) + 1)).toNatClampNeg = xs ((4 * t) + 1) by rw [nI_clamp (by omega)]) ?_
  refine lv_aload_n hx hb dL_law_1329 rfl (lv_at hl 4 rfl) ?_
  refine MH.callS (As := [.ref ob, .int (xs ((4 * t) + 1)), .ref qo]) (rest := []) (w0 := []) (w2 := rC cI cZ om bb σ κ ζ th) (c_L_wouldCarry l hl9 D cI cZ cL ob h a h2 a2 σ τ hst hB (xs (4 * t + 1)) qo wo) ⟨hx, hb, hml, hown, hts⟩ q563 b_L_wouldCarry (n := 3) (by decide +kernel) ⟨Nat.le_of_ble_eq_true rfl, Nat.le_of_ble_eq_true rfl⟩ hK hP hD hS hA hE (spH _ _ _ _ _) rfl hl.1 rfl (Nat.le_of_ble_eq_true rfl) dL_law_1330 ⟨by show 40 + 11 * t + 0 + 1 ≤ 671377; omega, by show 600 + 74 * t + 0 + 6 ≤ 7081972; omega⟩ (fun x9 H locs hP hD hS => ?_)
  obtain ⟨⟨τ9, w9⟩, hw9⟩ := x9
  have hw9 : (if hasF 1 σ (xs (4 * t + 1)) = 0 then 1 else 0 : Int32) = 0 → w9 0 = (if hasF 1 σ (xs (4 * t + 1)) = 0 then 0 else ab (flow σ (xs (4 * t + 1)).toNatClampNeg) : Int32).toInt64 := hw9
  have hP : va_P D vwCl ((oC ob h h2) ++ ((mC cI cZ h a σ) ++ ((mC cI cZ h2 a2 τ9) ++ ((lC cL qo w9) ++ (rC cI cZ om bb σ κ ζ th))))) H := hP
  have hD : va_D A ((oC ob h h2) ++ ((mC cI cZ h a σ) ++ ((mC cI cZ h2 a2 τ9) ++ ((lC cL qo w9) ++ (rC cI cZ om bb σ κ ζ th))))) := hD
  refine lv_istore (lv' := [(5, .int (if hasF 1 σ (xs (4 * t + 1)) = 0 then 1 else 0)), (4, .int (nI (4 * t))), (0, .ref b), (1, .ref ob), (2, .ref om), (3, .ref qo)]) hx hb dL_law_1333 hl (by decide) rfl (fun ls hl => ?_)
  refine lv_aload_n hx hb dL_law_1335 rfl (lv_at hl 4 rfl) ?_
  refine lv_aload_n hx hb dL_law_1336 rfl (lv_at hl 2 rfl) ?_
  refine lv_iload hx hb dL_law_1337 (lv_at hl 1 rfl) ?_
  refine lv_iconst (v := 1) hx hb dL_law_1339 (by decide) ?_
  refine lv_iadd hx hb dL_law_1340 ?_
  refine x_top (nI_add (4 * t) 1) ?_
  refine va_sld hx hb hX hbl hbA hS (vp_in_nI (n := (4 * t) + 1) (by omega) (by omega)) dL_law_1341 ?_
  refine x_top (show xs (nI ((4 * t) + 1)).toNatClampNeg = xs ((4 * t) + 1) by rw [nI_clamp (by omega)]) ?_
  refine MC.callV (C := RX2) (T := TX2) (N := 14) (As := [.int (xs ((4 * t) + 1))]) (rest := []) (wB := (oC ob h h2) ++ ((mC cI cZ h a σ) ++ ((mC cI cZ h2 a2 τ9) ++ ((lC cL qo w9) ++ (rC cI cZ om bb σ κ ζ (if hasF 1 σ (xs (4 * t + 1)) = 0 then 1 else 0)))))) (c_X2_wouldCarry l D cI cZ cL om bb σ κ ζ th hst hB (by omega) (xs (4 * t + 1))) ⟨hx, hb, hml, hown, hts⟩ q832 b_X2_wouldCarry (n := 1) (by decide +kernel) ⟨Nat.le_of_ble_eq_true rfl, Nat.le_of_ble_eq_true rfl⟩ hK hP hD hS hA (spR _ _ _ _ _) (spR _ _ _ _ _) (ci := 2) rfl (q0 := 26) rfl rfl hl.1 rfl (Nat.le_of_ble_eq_true rfl) dL_law_1342 ⟨by show 40 + 11 * t + 1 + 0 ≤ 671377; omega, by show 600 + 74 * t + 6 + 0 ≤ 7081972; omega⟩ (fun H locs hP hD hS => ?_)
  refine lv_istore (lv' := [(6, .int (if hasF 1 σ (xs (4 * t + 1)) = 0 then 0 else ab (flow σ (xs (4 * t + 1)).toNatClampNeg))), (5, .int (if hasF 1 σ (xs (4 * t + 1)) = 0 then 1 else 0)), (4, .int (nI (4 * t))), (0, .ref b), (1, .ref ob), (2, .ref om), (3, .ref qo)]) hx hb dL_law_1345 hl (by decide) rfl (fun ls hl => ?_)
  refine lv_aload_n hx hb dL_law_1347 rfl (lv_at hl 5 rfl) ?_
  refine MC.callV (C := RX2) (T := TX2) (N := 14) (As := []) (rest := []) (wB := (oC ob h h2) ++ ((mC cI cZ h a σ) ++ ((mC cI cZ h2 a2 τ9) ++ ((lC cL qo w9) ++ (rC cI cZ om bb σ κ ζ (if hasF 1 σ (xs (4 * t + 1)) = 0 then 1 else 0)))))) (c_X2_thrown l D cI cZ cL om bb σ κ ζ (if hasF 1 σ (xs (4 * t + 1)) = 0 then 1 else 0)) ⟨hx, hb, hml, hown, hts⟩ q635 b_X2_thrown (n := 0) (by decide +kernel) ⟨Nat.le_of_ble_eq_true rfl, Nat.le_of_ble_eq_true rfl⟩ hK hP hD hS hA (spR _ _ _ _ _) (spR _ _ _ _ _) (ci := 2) rfl (q0 := 26) rfl rfl hl.1 rfl (Nat.le_of_ble_eq_true rfl) dL_law_1348 ⟨by show 40 + 11 * t + 1 + 0 ≤ 671377; omega, by show 600 + 74 * t + 6 + 0 ≤ 7081972; omega⟩ (fun H locs hP hD hS => ?_)
  refine lv_iload hx hb dL_law_1351 (lv_at hl 1 rfl) ?_
  refine lv_icmp_eq (tgt := 1358) hx hb dL_law_1353 (by decide) (fun c_1353 => ?_) (fun z => absurd (rfl) z)
  refine lv_iload hx hb dL_law_1358 (lv_at hl 1 rfl) ?_
  refine lv_if_ne (tgt := 1375) hx hb dL_law_1360 (by decide) (fun c_1360 => ?_) (fun c_1360 => ?_)
  · refine lv_goto (tgt := 1708) hx hb dL_law_1375 (by decide) ?_
    refine W.wide (k := 40 + 11 * (t + 1)) (n := 600 + 74 * (t + 1)) (by show 40 + 11 * t + 1 ≤ _; omega) (by show 600 + 74 * t + 6 ≤ _; omega) ?_
    exact NX n k σ τ9 κ ζ (if hasF 1 σ (xs (4 * t + 1)) = 0 then 1 else 0) w9 hst (hB.mono (by omega)) _ _ _ hP hD hS (lv_sub hl [2, 3, 4, 5, 6] rfl)
  · refine lv_aload_n hx hb dL_law_1363 rfl (lv_at hl 6 rfl) ?_
    refine lv_iconst (v := 0) hx hb dL_law_1364 (by decide) ?_
    refine va_lald hx hb hK hP 25 2 rfl rfl (vp_in_nI (n := 0) (by decide) (by decide)) dL_law_1365 ?_
    refine lv_iload hx hb dL_law_1366 (lv_at hl 0 rfl) ?_
    refine lv_i2l hx hb dL_law_1368 rfl ?_
    refine W.lcmp hx hb dL_law_1369 ?_
    refine x_top (lcmp_eq (hw9 c_1360)) ?_
    refine lv_if_eq (tgt := 1375) hx hb dL_law_1370 (by decide) (fun c_1370 => ?_) (fun z => absurd (by decide) z)
    refine lv_goto (tgt := 1708) hx hb dL_law_1375 (by decide) ?_
    refine W.wide (k := 40 + 11 * (t + 1)) (n := 600 + 74 * (t + 1)) (by show 40 + 11 * t + 1 ≤ _; omega) (by show 600 + 74 * t + 6 ≤ _; omega) ?_
    exact NX n k σ τ9 κ ζ (if hasF 1 σ (xs (4 * t + 1)) = 0 then 1 else 0) w9 hst (hB.mono (by omega)) _ _ _ hP hD hS (lv_sub hl [2, 3, 4, 5, 6] rfl)

set_option maxHeartbeats 8000000 in
set_option maxRecDepth 100000 in
theorem law_c27 (l : Launch) (hl9 : l.stackTraces = false) {p : Program} {e : Env} {s : State} {m : MethodId} {args : Array Value} {below : List Frame} {meth : Method} {c : Code} {Q : State → Prop} (D : va_G) (cI cZ cL : ClassId) {A : Nat → Prop} {b L : Nat} {xs : Nat → Int32} (ob h : Nat) (a : Nat → Nat) (h2 : Nat) (a2 : Nat → Nat) (qo om : Nat) (bb : Nat → Nat) (hx : p.tables.exec = Jvm.exec) (hb : c.code = cL_law) (hml : c.maxLocals = 9) (hown : s.vm.findClass RL = some m.cls) (hts : ∀ w ∈ LW, w.before args s = true) (hE : EX A s s.heap) (hK : va_K D vwCl (tZ cI cZ cL) s) (hA : ∀ q : Nat, s.heap.size ≤ q → A q) (hX : va_X b L xs s s.heap) (hbl : b < s.heap.size) (hbA : ¬ A b) (hL : L ≤ 2048) {t : Nat} (ht : 4 * t + 4 ≤ L) (NX : lawN p l e s m args below meth c Q D cI cZ cL A b ob h a h2 a2 qo om bb t) {n k : Nat} (σ τ : Sg) (κ ζ : Nat → Int32) (th : Int32) (wo : Nat → Int64) (hst : Shp n k σ) (hB : Bnd (12000 * t) σ) {H : Heap} {locs : List Loc} {ls : Array Slot} (hP : va_P D vwCl ((oC ob h h2) ++ ((mC cI cZ h a σ) ++ ((mC cI cZ h2 a2 τ) ++ ((lC cL qo wo) ++ (rC cI cZ om bb σ κ ζ th))))) H) (hD : va_D A ((oC ob h h2) ++ ((mC cI cZ h a σ) ++ ((mC cI cZ h2 a2 τ) ++ ((lC cL qo wo) ++ (rC cI cZ om bb σ κ ζ th)))))) (hS : va_S A s.heap H locs) (hl : lv_has ls 9 [(4, .int (nI (4 * t))), (0, .ref b), (1, .ref ob), (2, .ref om), (3, .ref qo)]) : W p l e room_1 s m args below meth c H locs (40 + 11 * t) (600 + 74 * t) Q (F0 m 1378 ls []) := by
  have hn10 := hst.1
  have hk16 := hst.2.1
  refine lv_aload_n hx hb dL_law_1378 rfl (lv_at hl 2 rfl) ?_
  refine MX.callV (C := RX1) (T := TX1) (N := 2) (As := []) (rest := []) (wB := (fun ρ => (oC ob h h2) ++ ((mC cI cZ h a σ) ++ ((mC cI cZ h2 a2 ρ) ++ ((lC cL qo wo) ++ (rC cI cZ om bb σ κ ζ th)))))) (c_X1_busiest l D cI cZ cL ob h a h2 a2 σ τ hst) ⟨hx, hb, hml, hown, hts⟩ q195 b_X1_busiest (n := 0) (by decide +kernel) ⟨Nat.le_of_ble_eq_true rfl, Nat.le_of_ble_eq_true rfl⟩ hK hP hD hS hA hE (spO _ _ _ _ _) (fun _ => spO _ _ _ _ _) (ci := 1) rfl (q0 := 0) rfl rfl hl.1 rfl (Nat.le_of_ble_eq_true rfl) dL_law_1379 ⟨by show 40 + 11 * t + 0 + 0 ≤ 671377; omega, by show 600 + 74 * t + 0 + 0 ≤ 7081972; omega⟩ (fun ρ_1 H locs hP hD hS => ?_)
  have hP : va_P D vwCl ((oC ob h h2) ++ ((mC cI cZ h a σ) ++ ((mC cI cZ h2 a2 ρ_1) ++ ((lC cL qo wo) ++ (rC cI cZ om bb σ κ ζ th))))) H := hP
  have hD : va_D A ((oC ob h h2) ++ ((mC cI cZ h a σ) ++ ((mC cI cZ h2 a2 ρ_1) ++ ((lC cL qo wo) ++ (rC cI cZ om bb σ κ ζ th))))) := hD
  refine lv_aload_n hx hb dL_law_1382 rfl (lv_at hl 3 rfl) ?_
  refine MC.callV (C := RX2) (T := TX2) (N := 14) (As := []) (rest := [.int (amax (fun q => σ 8 q) (nD σ))]) (wB := (oC ob h h2) ++ ((mC cI cZ h a σ) ++ ((mC cI cZ h2 a2 ρ_1) ++ ((lC cL qo wo) ++ (rC cI cZ om bb σ κ ζ 0))))) (c_X2_busiest l D cI cZ cL om bb σ κ ζ th hst hB) ⟨hx, hb, hml, hown, hts⟩ q836 b_X2_busiest (n := 0) (by decide +kernel) ⟨Nat.le_of_ble_eq_true rfl, Nat.le_of_ble_eq_true rfl⟩ hK hP hD hS hA (spR _ _ _ _ _) (spR _ _ _ _ _) (ci := 2) rfl (q0 := 26) rfl rfl hl.1 rfl (Nat.le_of_ble_eq_true rfl) dL_law_1383 ⟨by show 40 + 11 * t + 0 + 0 ≤ 671377; omega, by show 600 + 74 * t + 0 + 0 ≤ 7081972; omega⟩ (fun H locs hP hD hS => ?_)
  refine lv_icmp_eq (tgt := 1708) hx hb dL_law_1386 (by decide) (fun c_1386 => ?_) (fun z => absurd (rfl) z)
  refine W.wide (k := 40 + 11 * (t + 1)) (n := 600 + 74 * (t + 1)) (by show 40 + 11 * t + 0 ≤ _; omega) (by show 600 + 74 * t + 0 ≤ _; omega) ?_
  exact NX n k σ ρ_1 κ ζ 0 wo hst (hB.mono (by omega)) _ _ _ hP hD hS (lv_sub hl [0, 1, 2, 3, 4] rfl)

set_option maxHeartbeats 8000000 in
set_option maxRecDepth 100000 in
theorem law_c28 (l : Launch) (hl9 : l.stackTraces = false) {p : Program} {e : Env} {s : State} {m : MethodId} {args : Array Value} {below : List Frame} {meth : Method} {c : Code} {Q : State → Prop} (D : va_G) (cI cZ cL : ClassId) {A : Nat → Prop} {b L : Nat} {xs : Nat → Int32} (ob h : Nat) (a : Nat → Nat) (h2 : Nat) (a2 : Nat → Nat) (qo om : Nat) (bb : Nat → Nat) (hx : p.tables.exec = Jvm.exec) (hb : c.code = cL_law) (hml : c.maxLocals = 9) (hown : s.vm.findClass RL = some m.cls) (hts : ∀ w ∈ LW, w.before args s = true) (hE : EX A s s.heap) (hK : va_K D vwCl (tZ cI cZ cL) s) (hA : ∀ q : Nat, s.heap.size ≤ q → A q) (hX : va_X b L xs s s.heap) (hbl : b < s.heap.size) (hbA : ¬ A b) (hL : L ≤ 2048) {t : Nat} (ht : 4 * t + 4 ≤ L) (NX : lawN p l e s m args below meth c Q D cI cZ cL A b ob h a h2 a2 qo om bb t) {n k : Nat} (σ τ : Sg) (κ ζ : Nat → Int32) (th : Int32) (wo : Nat → Int64) (hst : Shp n k σ) (hB : Bnd (12000 * t) σ) {H : Heap} {locs : List Loc} {ls : Array Slot} (hP : va_P D vwCl ((oC ob h h2) ++ ((mC cI cZ h a σ) ++ ((mC cI cZ h2 a2 τ) ++ ((lC cL qo wo) ++ (rC cI cZ om bb σ κ ζ th))))) H) (hD : va_D A ((oC ob h h2) ++ ((mC cI cZ h a σ) ++ ((mC cI cZ h2 a2 τ) ++ ((lC cL qo wo) ++ (rC cI cZ om bb σ κ ζ th)))))) (hS : va_S A s.heap H locs) (hl : lv_has ls 9 [(4, .int (nI (4 * t))), (0, .ref b), (1, .ref ob), (2, .ref om), (3, .ref qo)]) : W p l e room_1 s m args below meth c H locs (40 + 11 * t) (600 + 74 * t) Q (F0 m 1391 ls []) := by
  have hn10 := hst.1
  have hk16 := hst.2.1
  refine lv_aload_n hx hb dL_law_1391 rfl (lv_at hl 2 rfl) ?_
  refine lv_aload_n hx hb dL_law_1392 rfl (lv_at hl 1 rfl) ?_
  refine lv_iload hx hb dL_law_1393 (lv_at hl 0 rfl) ?_
  refine lv_iconst (v := 1) hx hb dL_law_1395 (by decide) ?_
  refine lv_iadd hx hb dL_law_1396 ?_
  refine x_top (nI_add (4 * t) 1) ?_
  refine va_sld hx hb hX hbl hbA hS (vp_in_nI (n := (4 * t) + 1) (by omega) (by omega)) dL_law_1397 ?_
  refine x_top (show xs (nI ((4 * t) + 1)).toNatClampNeg = xs ((4 * t) + 1) by rw [nI_clamp (by omega)]) ?_
  refine lv_aload_n hx hb dL_law_1398 rfl (lv_at hl 4 rfl) ?_
  refine MH.callS (As := [.ref ob, .int (xs ((4 * t) + 1)), .ref qo]) (rest := []) (w0 := []) (w2 := rC cI cZ om bb σ κ ζ th) (c_L_hoursUntilRuined l hl9 D cI cZ cL ob h a h2 a2 σ τ hst hB (xs (4 * t + 1)) qo wo) ⟨hx, hb, hml, hown, hts⟩ q567 b_L_hoursUntilRuined (n := 3) (by decide +kernel) ⟨Nat.le_of_ble_eq_true rfl, Nat.le_of_ble_eq_true rfl⟩ hK hP hD hS hA hE (spH _ _ _ _ _) rfl hl.1 rfl (Nat.le_of_ble_eq_true rfl) dL_law_1399 ⟨by show 40 + 11 * t + 0 + 1 ≤ 671377; omega, by show 600 + 74 * t + 0 + 6 ≤ 7081972; omega⟩ (fun x9 H locs hP hD hS => ?_)
  obtain ⟨⟨τ9, w9⟩, hw9⟩ := x9
  have hw9 : (if hasF 0 σ (xs (4 * t + 1)) = 0 then 1 else 0 : Int32) = 0 → w9 0 = (if hasF 0 σ (xs (4 * t + 1)) = 0 then 0 else untilS σ (xs (4 * t + 1)).toNatClampNeg : Int32).toInt64 := hw9
  have hP : va_P D vwCl ((oC ob h h2) ++ ((mC cI cZ h a σ) ++ ((mC cI cZ h2 a2 τ9) ++ ((lC cL qo w9) ++ (rC cI cZ om bb σ κ ζ th))))) H := hP
  have hD : va_D A ((oC ob h h2) ++ ((mC cI cZ h a σ) ++ ((mC cI cZ h2 a2 τ9) ++ ((lC cL qo w9) ++ (rC cI cZ om bb σ κ ζ th))))) := hD
  refine lv_istore (lv' := [(5, .int (if hasF 0 σ (xs (4 * t + 1)) = 0 then 1 else 0)), (4, .int (nI (4 * t))), (0, .ref b), (1, .ref ob), (2, .ref om), (3, .ref qo)]) hx hb dL_law_1402 hl (by decide) rfl (fun ls hl => ?_)
  refine lv_aload_n hx hb dL_law_1404 rfl (lv_at hl 4 rfl) ?_
  refine lv_aload_n hx hb dL_law_1405 rfl (lv_at hl 2 rfl) ?_
  refine lv_iload hx hb dL_law_1406 (lv_at hl 1 rfl) ?_
  refine lv_iconst (v := 1) hx hb dL_law_1408 (by decide) ?_
  refine lv_iadd hx hb dL_law_1409 ?_
  refine x_top (nI_add (4 * t) 1) ?_
  refine va_sld hx hb hX hbl hbA hS (vp_in_nI (n := (4 * t) + 1) (by omega) (by omega)) dL_law_1410 ?_
  refine x_top (show xs (nI ((4 * t) + 1)).toNatClampNeg = xs ((4 * t) + 1) by rw [nI_clamp (by omega)]) ?_
  refine MC.callV (C := RX2) (T := TX2) (N := 14) (As := [.int (xs ((4 * t) + 1))]) (rest := []) (wB := (oC ob h h2) ++ ((mC cI cZ h a σ) ++ ((mC cI cZ h2 a2 τ9) ++ ((lC cL qo w9) ++ (rC cI cZ om bb σ (if hasF 0 σ (xs (4 * t + 1)) = 0 then κ else nowF σ) ζ (if hasF 0 σ (xs (4 * t + 1)) = 0 then 1 else 0)))))) (c_X2_hoursUntilRuined l D cI cZ cL om bb σ κ ζ th hst hB (by omega) (xs (4 * t + 1))) ⟨hx, hb, hml, hown, hts⟩ q844 b_X2_hoursUntilRuined (n := 1) (by decide +kernel) ⟨Nat.le_of_ble_eq_true rfl, Nat.le_of_ble_eq_true rfl⟩ hK hP hD hS hA (spR _ _ _ _ _) (spR _ _ _ _ _) (ci := 2) rfl (q0 := 26) rfl rfl hl.1 rfl (Nat.le_of_ble_eq_true rfl) dL_law_1411 ⟨by show 40 + 11 * t + 1 + 0 ≤ 671377; omega, by show 600 + 74 * t + 6 + 0 ≤ 7081972; omega⟩ (fun H locs hP hD hS => ?_)
  refine lv_istore (lv' := [(6, .int (if hasF 0 σ (xs (4 * t + 1)) = 0 then 0 else untilS σ (xs (4 * t + 1)).toNatClampNeg)), (5, .int (if hasF 0 σ (xs (4 * t + 1)) = 0 then 1 else 0)), (4, .int (nI (4 * t))), (0, .ref b), (1, .ref ob), (2, .ref om), (3, .ref qo)]) hx hb dL_law_1414 hl (by decide) rfl (fun ls hl => ?_)
  refine lv_aload_n hx hb dL_law_1416 rfl (lv_at hl 5 rfl) ?_
  refine MC.callV (C := RX2) (T := TX2) (N := 14) (As := []) (rest := []) (wB := (oC ob h h2) ++ ((mC cI cZ h a σ) ++ ((mC cI cZ h2 a2 τ9) ++ ((lC cL qo w9) ++ (rC cI cZ om bb σ (if hasF 0 σ (xs (4 * t + 1)) = 0 then κ else nowF σ) ζ (if hasF 0 σ (xs (4 * t + 1)) = 0 then 1 else 0)))))) (c_X2_thrown l D cI cZ cL om bb σ (if hasF 0 σ (xs (4 * t + 1)) = 0 then κ else nowF σ) ζ (if hasF 0 σ (xs (4 * t + 1)) = 0 then 1 else 0)) ⟨hx, hb, hml, hown, hts⟩ q635 b_X2_thrown (n := 0) (by decide +kernel) ⟨Nat.le_of_ble_eq_true rfl, Nat.le_of_ble_eq_true rfl⟩ hK hP hD hS hA (spR _ _ _ _ _) (spR _ _ _ _ _) (ci := 2) rfl (q0 := 26) rfl rfl hl.1 rfl (Nat.le_of_ble_eq_true rfl) dL_law_1417 ⟨by show 40 + 11 * t + 1 + 0 ≤ 671377; omega, by show 600 + 74 * t + 6 + 0 ≤ 7081972; omega⟩ (fun H locs hP hD hS => ?_)
  refine lv_iload hx hb dL_law_1420 (lv_at hl 1 rfl) ?_
  refine lv_icmp_eq (tgt := 1427) hx hb dL_law_1422 (by decide) (fun c_1422 => ?_) (fun z => absurd (rfl) z)
  refine lv_iload hx hb dL_law_1427 (lv_at hl 1 rfl) ?_
  refine lv_if_ne (tgt := 1444) hx hb dL_law_1429 (by decide) (fun c_1429 => ?_) (fun c_1429 => ?_)
  · refine lv_goto (tgt := 1708) hx hb dL_law_1444 (by decide) ?_
    refine W.wide (k := 40 + 11 * (t + 1)) (n := 600 + 74 * (t + 1)) (by show 40 + 11 * t + 1 ≤ _; omega) (by show 600 + 74 * t + 6 ≤ _; omega) ?_
    exact NX n k σ τ9 (if hasF 0 σ (xs (4 * t + 1)) = 0 then κ else nowF σ) ζ (if hasF 0 σ (xs (4 * t + 1)) = 0 then 1 else 0) w9 hst (hB.mono (by omega)) _ _ _ hP hD hS (lv_sub hl [2, 3, 4, 5, 6] rfl)
  · refine lv_aload_n hx hb dL_law_1432 rfl (lv_at hl 6 rfl) ?_
    refine lv_iconst (v := 0) hx hb dL_law_1433 (by decide) ?_
    refine va_lald hx hb hK hP 25 2 rfl rfl (vp_in_nI (n := 0) (by decide) (by decide)) dL_law_1434 ?_
    refine lv_iload hx hb dL_law_1435 (lv_at hl 0 rfl) ?_
    refine lv_i2l hx hb dL_law_1437 rfl ?_
    refine W.lcmp hx hb dL_law_1438 ?_
    refine x_top (lcmp_eq (hw9 c_1429)) ?_
    refine lv_if_eq (tgt := 1444) hx hb dL_law_1439 (by decide) (fun c_1439 => ?_) (fun z => absurd (by decide) z)
    refine lv_goto (tgt := 1708) hx hb dL_law_1444 (by decide) ?_
    refine W.wide (k := 40 + 11 * (t + 1)) (n := 600 + 74 * (t + 1)) (by show 40 + 11 * t + 1 ≤ _; omega) (by show 600 + 74 * t + 6 ≤ _; omega) ?_
    exact NX n k σ τ9 (if hasF 0 σ (xs (4 * t + 1)) = 0 then κ else nowF σ) ζ (if hasF 0 σ (xs (4 * t + 1)) = 0 then 1 else 0) w9 hst (hB.mono (by omega)) _ _ _ hP hD hS (lv_sub hl [2, 3, 4, 5, 6] rfl)

set_option maxHeartbeats 8000000 in
set_option maxRecDepth 100000 in
theorem law_c29 (l : Launch) (hl9 : l.stackTraces = false) {p : Program} {e : Env} {s : State} {m : MethodId} {args : Array Value} {below : List Frame} {meth : Method} {c : Code} {Q : State → Prop} (D : va_G) (cI cZ cL : ClassId) {A : Nat → Prop} {b L : Nat} {xs : Nat → Int32} (ob h : Nat) (a : Nat → Nat) (h2 : Nat) (a2 : Nat → Nat) (qo om : Nat) (bb : Nat → Nat) (hx : p.tables.exec = Jvm.exec) (hb : c.code = cL_law) (hml : c.maxLocals = 9) (hown : s.vm.findClass RL = some m.cls) (hts : ∀ w ∈ LW, w.before args s = true) (hE : EX A s s.heap) (hK : va_K D vwCl (tZ cI cZ cL) s) (hA : ∀ q : Nat, s.heap.size ≤ q → A q) (hX : va_X b L xs s s.heap) (hbl : b < s.heap.size) (hbA : ¬ A b) (hL : L ≤ 2048) {t : Nat} (ht : 4 * t + 4 ≤ L) (NX : lawN p l e s m args below meth c Q D cI cZ cL A b ob h a h2 a2 qo om bb t) {n k : Nat} (σ τ : Sg) (κ ζ : Nat → Int32) (th : Int32) (wo : Nat → Int64) (hst : Shp n k σ) (hB : Bnd (12000 * t) σ) {H : Heap} {locs : List Loc} {ls : Array Slot} (hP : va_P D vwCl ((oC ob h h2) ++ ((mC cI cZ h a σ) ++ ((mC cI cZ h2 a2 τ) ++ ((lC cL qo wo) ++ (rC cI cZ om bb σ κ ζ th))))) H) (hD : va_D A ((oC ob h h2) ++ ((mC cI cZ h a σ) ++ ((mC cI cZ h2 a2 τ) ++ ((lC cL qo wo) ++ (rC cI cZ om bb σ κ ζ th)))))) (hS : va_S A s.heap H locs) (hl : lv_has ls 9 [(4, .int (nI (4 * t))), (0, .ref b), (1, .ref ob), (2, .ref om), (3, .ref qo)]) : W p l e room_1 s m args below meth c H locs (40 + 11 * t) (600 + 74 * t) Q (F0 m 1447 ls []) := by
  have hn10 := hst.1
  have hk16 := hst.2.1
  refine lv_aload_n hx hb dL_law_1447 rfl (lv_at hl 2 rfl) ?_
  refine lv_aload_n hx hb dL_law_1448 rfl (lv_at hl 1 rfl) ?_
  refine lv_iload hx hb dL_law_1449 (lv_at hl 0 rfl) ?_
  refine lv_iconst (v := 1) hx hb dL_law_1451 (by decide) ?_
  refine lv_iadd hx hb dL_law_1452 ?_
  refine x_top (nI_add (4 * t) 1) ?_
  refine va_sld hx hb hX hbl hbA hS (vp_in_nI (n := (4 * t) + 1) (by omega) (by omega)) dL_law_1453 ?_
  refine x_top (show xs (nI ((4 * t) + 1)).toNatClampNeg = xs ((4 * t) + 1) by rw [nI_clamp (by omega)]) ?_
  refine lv_aload_n hx hb dL_law_1454 rfl (lv_at hl 4 rfl) ?_
  refine MH.callS (As := [.ref ob, .int (xs ((4 * t) + 1)), .ref qo]) (rest := []) (w0 := []) (w2 := rC cI cZ om bb σ κ ζ th) (c_L_lossIn l hl9 D cI cZ cL ob h a h2 a2 σ τ hst hB (xs (4 * t + 1)) qo wo) ⟨hx, hb, hml, hown, hts⟩ q571 b_L_lossIn (n := 3) (by decide +kernel) ⟨Nat.le_of_ble_eq_true rfl, Nat.le_of_ble_eq_true rfl⟩ hK hP hD hS hA hE (spH _ _ _ _ _) rfl hl.1 rfl (Nat.le_of_ble_eq_true rfl) dL_law_1455 ⟨by show 40 + 11 * t + 0 + 1 ≤ 671377; omega, by show 600 + 74 * t + 0 + 6 ≤ 7081972; omega⟩ (fun x9 H locs hP hD hS => ?_)
  obtain ⟨⟨τ9, w9⟩, hw9⟩ := x9
  have hw9 : (if inR (xs (4 * t + 1)) 1 48 = 0 then 1 else 0 : Int32) = 0 → w9 0 = (if inR (xs (4 * t + 1)) 1 48 = 0 then 0 else lossH (xs (4 * t + 1)).toNatClampNeg σ : Int32).toInt64 := hw9
  have hP : va_P D vwCl ((oC ob h h2) ++ ((mC cI cZ h a σ) ++ ((mC cI cZ h2 a2 τ9) ++ ((lC cL qo w9) ++ (rC cI cZ om bb σ κ ζ th))))) H := hP
  have hD : va_D A ((oC ob h h2) ++ ((mC cI cZ h a σ) ++ ((mC cI cZ h2 a2 τ9) ++ ((lC cL qo w9) ++ (rC cI cZ om bb σ κ ζ th))))) := hD
  refine lv_istore (lv' := [(5, .int (if inR (xs (4 * t + 1)) 1 48 = 0 then 1 else 0)), (4, .int (nI (4 * t))), (0, .ref b), (1, .ref ob), (2, .ref om), (3, .ref qo)]) hx hb dL_law_1458 hl (by decide) rfl (fun ls hl => ?_)
  refine lv_aload_n hx hb dL_law_1460 rfl (lv_at hl 4 rfl) ?_
  refine lv_aload_n hx hb dL_law_1461 rfl (lv_at hl 2 rfl) ?_
  refine lv_iload hx hb dL_law_1462 (lv_at hl 1 rfl) ?_
  refine lv_iconst (v := 1) hx hb dL_law_1464 (by decide) ?_
  refine lv_iadd hx hb dL_law_1465 ?_
  refine x_top (nI_add (4 * t) 1) ?_
  refine va_sld hx hb hX hbl hbA hS (vp_in_nI (n := (4 * t) + 1) (by omega) (by omega)) dL_law_1466 ?_
  refine x_top (show xs (nI ((4 * t) + 1)).toNatClampNeg = xs ((4 * t) + 1) by rw [nI_clamp (by omega)]) ?_
  refine MC.callV (C := RX2) (T := TX2) (N := 14) (As := [.int (xs ((4 * t) + 1))]) (rest := []) (wB := (oC ob h h2) ++ ((mC cI cZ h a σ) ++ ((mC cI cZ h2 a2 τ9) ++ ((lC cL qo w9) ++ (rC cI cZ om bb σ (if inR (xs (4 * t + 1)) 1 48 = 0 then κ else nowF σ) ζ (if inR (xs (4 * t + 1)) 1 48 = 0 then 1 else 0)))))) (c_X2_lossIn l D cI cZ cL om bb σ κ ζ th hst hB (by omega) (xs (4 * t + 1))) ⟨hx, hb, hml, hown, hts⟩ q863 b_X2_lossIn (n := 1) (by decide +kernel) ⟨Nat.le_of_ble_eq_true rfl, Nat.le_of_ble_eq_true rfl⟩ hK hP hD hS hA (spR _ _ _ _ _) (spR _ _ _ _ _) (ci := 2) rfl (q0 := 26) rfl rfl hl.1 rfl (Nat.le_of_ble_eq_true rfl) dL_law_1467 ⟨by show 40 + 11 * t + 1 + 0 ≤ 671377; omega, by show 600 + 74 * t + 6 + 0 ≤ 7081972; omega⟩ (fun H locs hP hD hS => ?_)
  refine lv_istore (lv' := [(6, .int (if inR (xs (4 * t + 1)) 1 48 = 0 then 0 else lossH (xs (4 * t + 1)).toNatClampNeg σ)), (5, .int (if inR (xs (4 * t + 1)) 1 48 = 0 then 1 else 0)), (4, .int (nI (4 * t))), (0, .ref b), (1, .ref ob), (2, .ref om), (3, .ref qo)]) hx hb dL_law_1470 hl (by decide) rfl (fun ls hl => ?_)
  refine lv_aload_n hx hb dL_law_1472 rfl (lv_at hl 5 rfl) ?_
  refine MC.callV (C := RX2) (T := TX2) (N := 14) (As := []) (rest := []) (wB := (oC ob h h2) ++ ((mC cI cZ h a σ) ++ ((mC cI cZ h2 a2 τ9) ++ ((lC cL qo w9) ++ (rC cI cZ om bb σ (if inR (xs (4 * t + 1)) 1 48 = 0 then κ else nowF σ) ζ (if inR (xs (4 * t + 1)) 1 48 = 0 then 1 else 0)))))) (c_X2_thrown l D cI cZ cL om bb σ (if inR (xs (4 * t + 1)) 1 48 = 0 then κ else nowF σ) ζ (if inR (xs (4 * t + 1)) 1 48 = 0 then 1 else 0)) ⟨hx, hb, hml, hown, hts⟩ q635 b_X2_thrown (n := 0) (by decide +kernel) ⟨Nat.le_of_ble_eq_true rfl, Nat.le_of_ble_eq_true rfl⟩ hK hP hD hS hA (spR _ _ _ _ _) (spR _ _ _ _ _) (ci := 2) rfl (q0 := 26) rfl rfl hl.1 rfl (Nat.le_of_ble_eq_true rfl) dL_law_1473 ⟨by show 40 + 11 * t + 1 + 0 ≤ 671377; omega, by show 600 + 74 * t + 6 + 0 ≤ 7081972; omega⟩ (fun H locs hP hD hS => ?_)
  refine lv_iload hx hb dL_law_1476 (lv_at hl 1 rfl) ?_
  refine lv_icmp_eq (tgt := 1483) hx hb dL_law_1478 (by decide) (fun c_1478 => ?_) (fun z => absurd (rfl) z)
  refine lv_iload hx hb dL_law_1483 (lv_at hl 1 rfl) ?_
  refine lv_if_ne (tgt := 1500) hx hb dL_law_1485 (by decide) (fun c_1485 => ?_) (fun c_1485 => ?_)
  · refine lv_goto (tgt := 1708) hx hb dL_law_1500 (by decide) ?_
    refine W.wide (k := 40 + 11 * (t + 1)) (n := 600 + 74 * (t + 1)) (by show 40 + 11 * t + 1 ≤ _; omega) (by show 600 + 74 * t + 6 ≤ _; omega) ?_
    exact NX n k σ τ9 (if inR (xs (4 * t + 1)) 1 48 = 0 then κ else nowF σ) ζ (if inR (xs (4 * t + 1)) 1 48 = 0 then 1 else 0) w9 hst (hB.mono (by omega)) _ _ _ hP hD hS (lv_sub hl [2, 3, 4, 5, 6] rfl)
  · refine lv_aload_n hx hb dL_law_1488 rfl (lv_at hl 6 rfl) ?_
    refine lv_iconst (v := 0) hx hb dL_law_1489 (by decide) ?_
    refine va_lald hx hb hK hP 25 2 rfl rfl (vp_in_nI (n := 0) (by decide) (by decide)) dL_law_1490 ?_
    refine lv_iload hx hb dL_law_1491 (lv_at hl 0 rfl) ?_
    refine lv_i2l hx hb dL_law_1493 rfl ?_
    refine W.lcmp hx hb dL_law_1494 ?_
    refine x_top (lcmp_eq (hw9 c_1485)) ?_
    refine lv_if_eq (tgt := 1500) hx hb dL_law_1495 (by decide) (fun c_1495 => ?_) (fun z => absurd (by decide) z)
    refine lv_goto (tgt := 1708) hx hb dL_law_1500 (by decide) ?_
    refine W.wide (k := 40 + 11 * (t + 1)) (n := 600 + 74 * (t + 1)) (by show 40 + 11 * t + 1 ≤ _; omega) (by show 600 + 74 * t + 6 ≤ _; omega) ?_
    exact NX n k σ τ9 (if inR (xs (4 * t + 1)) 1 48 = 0 then κ else nowF σ) ζ (if inR (xs (4 * t + 1)) 1 48 = 0 then 1 else 0) w9 hst (hB.mono (by omega)) _ _ _ hP hD hS (lv_sub hl [2, 3, 4, 5, 6] rfl)
