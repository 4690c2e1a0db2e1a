set_option maxHeartbeats 8000000 in
set_option maxRecDepth 100000 in
theorem law_c30 (l : Launch) (hl9 : l.stackTraces = false) {p : Program} {e : Env} {s : State} {m : MethodId} {args : Array Value} {below : List Frame} {meth : Method} {c : Code} {Q : State → Prop} (D : va_G) (cI cZ cL : ClassId) {A : Nat → Prop} {b L : Nat} {xs : Nat → Int32} (ob h : Nat) (a : Nat → Nat) (h2 : Nat) (a2 : Nat → Nat) (qo om : Nat) (bb : Nat → Nat) (hx : p.tables.exec = Jvm.exec) (hb : c.code = cL_law) (hml : c.maxLocals = 9) (hown : s.vm.findClass RL = some m.cls) (hts : ∀ w ∈ LW, w.before args s = true) (hE : EX A s s.heap) (hK : va_K D vwCl (tZ cI cZ cL) s) (hA : ∀ q : Nat, s.heap.size ≤ q → A q) (hX : va_X b L xs s s.heap) (hbl : b < s.heap.size) (hbA : ¬ A b) (hL : L ≤ 2048) {t : Nat} (ht : 4 * t + 4 ≤ L) (NX : lawN p l e s m args below meth c Q D cI cZ cL A b ob h a h2 a2 qo om bb t) {n k : Nat} (σ τ : Sg) (κ ζ : Nat → Int32) (th : Int32) (wo : Nat → Int64) (hst : Shp n k σ) (hB : Bnd (12000 * t) σ) {H : Heap} {locs : List Loc} {ls : Array Slot} (hP : va_P D vwCl ((oC ob h h2) ++ ((mC cI cZ h a σ) ++ ((mC cI cZ h2 a2 τ) ++ ((lC cL qo wo) ++ (rC cI cZ om bb σ κ ζ th))))) H) (hD : va_D A ((oC ob h h2) ++ ((mC cI cZ h a σ) ++ ((mC cI cZ h2 a2 τ) ++ ((lC cL qo wo) ++ (rC cI cZ om bb σ κ ζ th)))))) (hS : va_S A s.heap H locs) (hl : lv_has ls 9 [(4, .int (nI (4 * t))), (0, .ref b), (1, .ref ob), (2, .ref om), (3, .ref qo)]) : W p l e room_1 s m args below meth c H locs (40 + 11 * t) (600 + 74 * t) Q (F0 m 1503 ls []) := by
  have hn10 := hst.1
  have hk16 := hst.2.1
  refine lv_aload_n hx hb dL_law_1503 rfl (lv_at hl 2 rfl) ?_
  refine lv_aload_n hx hb dL_law_1504 rfl (lv_at hl 1 rfl) ?_
  refine lv_iload hx hb dL_law_1505 (lv_at hl 0 rfl) ?_
  refine lv_iconst (v := 1) hx hb dL_law_1507 (by decide) ?_
  refine lv_iadd hx hb dL_law_1508 ?_
  refine x_top (nI_add (4 * t) 1) ?_
  refine va_sld hx hb hX hbl hbA hS (vp_in_nI (n := (4 * t) + 1) (by omega) (by omega)) dL_law_1509 ?_
  refine x_top (show xs (nI ((4 * t) + 1)).toNatClampNeg = xs ((4 * t) + 1) by rw [nI_clamp (by omega)]) ?_
  refine lv_aload_n hx hb dL_law_1510 rfl (lv_at hl 1 rfl) ?_
  refine lv_iload hx hb dL_law_1511 (lv_at hl 0 rfl) ?_
  refine lv_iconst (v := 2) hx hb dL_law_1513 (by decide) ?_
  refine lv_iadd hx hb dL_law_1514 ?_
  refine x_top (nI_add (4 * t) 2) ?_
  refine va_sld hx hb hX hbl hbA hS (vp_in_nI (n := (4 * t) + 2) (by omega) (by omega)) dL_law_1515 ?_
  refine x_top (show xs (nI ((4 * t) + 2)).toNatClampNeg = xs ((4 * t) + 2) by rw [nI_clamp (by omega)]) ?_
  refine lv_aload_n hx hb dL_law_1516 rfl (lv_at hl 4 rfl) ?_
  refine MH.callS (As := [.ref ob, .int (xs ((4 * t) + 1)), .int (xs ((4 * t) + 2)), .ref qo]) (rest := []) (w0 := []) (w2 := rC cI cZ om bb σ κ ζ th) (c_L_waterIn l hl9 D cI cZ cL ob h a h2 a2 σ τ hst hB (xs (4 * t + 1)) (xs (4 * t + 2)) qo wo) ⟨hx, hb, hml, hown, hts⟩ q575 b_L_waterIn (n := 4) (by decide +kernel) ⟨Nat.le_of_ble_eq_true rfl, Nat.le_of_ble_eq_true rfl⟩ hK hP hD hS hA hE (spH _ _ _ _ _) rfl hl.1 rfl (Nat.le_of_ble_eq_true rfl) dL_law_1517 ⟨by show 40 + 11 * t + 0 + 1 ≤ 671377; omega, by show 600 + 74 * t + 0 + 6 ≤ 7081972; omega⟩ (fun x9 H locs hP hD hS => ?_)
  obtain ⟨⟨τ9, w9⟩, hw9⟩ := x9
  have hw9 : (if hasF 0 σ (xs (4 * t + 1)) = 0 then 1 else if inR (xs (4 * t + 2)) 1 48 = 0 then 2 else 0 : Int32) = 0 → w9 0 = (if hasF 0 σ (xs (4 * t + 1)) = 0 then 0 else if inR (xs (4 * t + 2)) 1 48 = 0 then 0 else hours (xs (4 * t + 2)).toNatClampNeg σ 2 (xs (4 * t + 1)).toNatClampNeg : Int32).toInt64 := hw9
  have hP : va_P D vwCl ((oC ob h h2) ++ ((mC cI cZ h a σ) ++ ((mC cI cZ h2 a2 τ9) ++ ((lC cL qo w9) ++ (rC cI cZ om bb σ κ ζ th))))) H := hP
  have hD : va_D A ((oC ob h h2) ++ ((mC cI cZ h a σ) ++ ((mC cI cZ h2 a2 τ9) ++ ((lC cL qo w9) ++ (rC cI cZ om bb σ κ ζ th))))) := hD
  refine lv_istore (lv' := [(5, .int (if hasF 0 σ (xs (4 * t + 1)) = 0 then 1 else if inR (xs (4 * t + 2)) 1 48 = 0 then 2 else 0)), (4, .int (nI (4 * t))), (0, .ref b), (1, .ref ob), (2, .ref om), (3, .ref qo)]) hx hb dL_law_1520 hl (by decide) rfl (fun ls hl => ?_)
  refine lv_aload_n hx hb dL_law_1522 rfl (lv_at hl 4 rfl) ?_
  refine lv_aload_n hx hb dL_law_1523 rfl (lv_at hl 2 rfl) ?_
  refine lv_iload hx hb dL_law_1524 (lv_at hl 1 rfl) ?_
  refine lv_iconst (v := 1) hx hb dL_law_1526 (by decide) ?_
  refine lv_iadd hx hb dL_law_1527 ?_
  refine x_top (nI_add (4 * t) 1) ?_
  refine va_sld hx hb hX hbl hbA hS (vp_in_nI (n := (4 * t) + 1) (by omega) (by omega)) dL_law_1528 ?_
  refine x_top (show xs (nI ((4 * t) + 1)).toNatClampNeg = xs ((4 * t) + 1) by rw [nI_clamp (by omega)]) ?_
  refine lv_aload_n hx hb dL_law_1529 rfl (lv_at hl 2 rfl) ?_
  refine lv_iload hx hb dL_law_1530 (lv_at hl 1 rfl) ?_
  refine lv_iconst (v := 2) hx hb dL_law_1532 (by decide) ?_
  refine lv_iadd hx hb dL_law_1533 ?_
  refine x_top (nI_add (4 * t) 2) ?_
  refine va_sld hx hb hX hbl hbA hS (vp_in_nI (n := (4 * t) + 2) (by omega) (by omega)) dL_law_1534 ?_
  refine x_top (show xs (nI ((4 * t) + 2)).toNatClampNeg = xs ((4 * t) + 2) by rw [nI_clamp (by omega)]) ?_
  refine MC.callV (C := RX2) (T := TX2) (N := 14) (As := [.int (xs ((4 * t) + 1)), .int (xs ((4 * t) + 2))]) (rest := []) (wB := (oC ob h h2) ++ ((mC cI cZ h a σ) ++ ((mC cI cZ h2 a2 τ9) ++ ((lC cL qo w9) ++ (rC cI cZ om bb σ (if hasF 0 σ (xs (4 * t + 1)) = 0 then κ else if inR (xs (4 * t + 2)) 1 48 = 0 then κ else nowF σ) ζ (if hasF 0 σ (xs (4 * t + 1)) = 0 then 1 else if inR (xs (4 * t + 2)) 1 48 = 0 then 2 else 0)))))) (c_X2_waterIn l D cI cZ cL om bb σ κ ζ th hst hB (by omega) (xs (4 * t + 1)) (xs (4 * t + 2))) ⟨hx, hb, hml, hown, hts⟩ q871 b_X2_waterIn (n := 2) (by decide +kernel) ⟨Nat.le_of_ble_eq_true rfl, Nat.le_of_ble_eq_true rfl⟩ hK hP hD hS hA (spR _ _ _ _ _) (spR _ _ _ _ _) (ci := 2) rfl (q0 := 26) rfl rfl hl.1 rfl (Nat.le_of_ble_eq_true rfl) dL_law_1535 ⟨by show 40 + 11 * t + 1 + 0 ≤ 671377; omega, by show 600 + 74 * t + 6 + 0 ≤ 7081972; omega⟩ (fun H locs hP hD hS => ?_)
  refine lv_istore (lv' := [(6, .int (if hasF 0 σ (xs (4 * t + 1)) = 0 then 0 else if inR (xs (4 * t + 2)) 1 48 = 0 then 0 else hours (xs (4 * t + 2)).toNatClampNeg σ 2 (xs (4 * t + 1)).toNatClampNeg)), (5, .int (if hasF 0 σ (xs (4 * t + 1)) = 0 then 1 else if inR (xs (4 * t + 2)) 1 48 = 0 then 2 else 0)), (4, .int (nI (4 * t))), (0, .ref b), (1, .ref ob), (2, .ref om), (3, .ref qo)]) hx hb dL_law_1538 hl (by decide) rfl (fun ls hl => ?_)
  refine lv_aload_n hx hb dL_law_1540 rfl (lv_at hl 5 rfl) ?_
  refine MC.callV (C := RX2) (T := TX2) (N := 14) (As := []) (rest := []) (wB := (oC ob h h2) ++ ((mC cI cZ h a σ) ++ ((mC cI cZ h2 a2 τ9) ++ ((lC cL qo w9) ++ (rC cI cZ om bb σ (if hasF 0 σ (xs (4 * t + 1)) = 0 then κ else if inR (xs (4 * t + 2)) 1 48 = 0 then κ else nowF σ) ζ (if hasF 0 σ (xs (4 * t + 1)) = 0 then 1 else if inR (xs (4 * t + 2)) 1 48 = 0 then 2 else 0)))))) (c_X2_thrown l D cI cZ cL om bb σ (if hasF 0 σ (xs (4 * t + 1)) = 0 then κ else if inR (xs (4 * t + 2)) 1 48 = 0 then κ else nowF σ) ζ (if hasF 0 σ (xs (4 * t + 1)) = 0 then 1 else if inR (xs (4 * t + 2)) 1 48 = 0 then 2 else 0)) ⟨hx, hb, hml, hown, hts⟩ q635 b_X2_thrown (n := 0) (by decide +kernel) ⟨Nat.le_of_ble_eq_true rfl, Nat.le_of_ble_eq_true rfl⟩ hK hP hD hS hA (spR _ _ _ _ _) (spR _ _ _ _ _) (ci := 2) rfl (q0 := 26) rfl rfl hl.1 rfl (Nat.le_of_ble_eq_true rfl) dL_law_1541 ⟨by show 40 + 11 * t + 1 + 0 ≤ 671377; omega, by show 600 + 74 * t + 6 + 0 ≤ 7081972; omega⟩ (fun H locs hP hD hS => ?_)
  refine lv_iload hx hb dL_law_1544 (lv_at hl 1 rfl) ?_
  refine lv_icmp_eq (tgt := 1551) hx hb dL_law_1546 (by decide) (fun c_1546 => ?_) (fun z => absurd (rfl) z)
  refine lv_iload hx hb dL_law_1551 (lv_at hl 1 rfl) ?_
  refine lv_if_ne (tgt := 1568) hx hb dL_law_1553 (by decide) (fun c_1553 => ?_) (fun c_1553 => ?_)
  · refine lv_goto (tgt := 1708) hx hb dL_law_1568 (by decide) ?_
    refine W.wide (k := 40 + 11 * (t + 1)) (n := 600 + 74 * (t + 1)) (by show 40 + 11 * t + 1 ≤ _; omega) (by show 600 + 74 * t + 6 ≤ _; omega) ?_
    exact NX n k σ τ9 (if hasF 0 σ (xs (4 * t + 1)) = 0 then κ else if inR (xs (4 * t + 2)) 1 48 = 0 then κ else nowF σ) ζ (if hasF 0 σ (xs (4 * t + 1)) = 0 then 1 else if inR (xs (4 * t + 2)) 1 48 = 0 then 2 else 0) w9 hst (hB.mono (by omega)) _ _ _ hP hD hS (lv_sub hl [2, 3, 4, 5, 6] rfl)
  · refine lv_aload_n hx hb dL_law_1556 rfl (lv_at hl 6 rfl) ?_
    refine lv_iconst (v := 0) hx hb dL_law_1557 (by decide) ?_
    refine va_lald hx hb hK hP 25 2 rfl rfl (vp_in_nI (n := 0) (by decide) (by decide)) dL_law_1558 ?_
    refine lv_iload hx hb dL_law_1559 (lv_at hl 0 rfl) ?_
    refine lv_i2l hx hb dL_law_1561 rfl ?_
    refine W.lcmp hx hb dL_law_1562 ?_
    refine x_top (lcmp_eq (hw9 c_1553)) ?_
    refine lv_if_eq (tgt := 1568) hx hb dL_law_1563 (by decide) (fun c_1563 => ?_) (fun z => absurd (by decide) z)
    refine lv_goto (tgt := 1708) hx hb dL_law_1568 (by decide) ?_
    refine W.wide (k := 40 + 11 * (t + 1)) (n := 600 + 74 * (t + 1)) (by show 40 + 11 * t + 1 ≤ _; omega) (by show 600 + 74 * t + 6 ≤ _; omega) ?_
    exact NX n k σ τ9 (if hasF 0 σ (xs (4 * t + 1)) = 0 then κ else if inR (xs (4 * t + 2)) 1 48 = 0 then κ else nowF σ) ζ (if hasF 0 σ (xs (4 * t + 1)) = 0 then 1 else if inR (xs (4 * t + 2)) 1 48 = 0 then 2 else 0) w9 hst (hB.mono (by omega)) _ _ _ hP hD hS (lv_sub hl [2, 3, 4, 5, 6] rfl)

set_option maxHeartbeats 8000000 in
set_option maxRecDepth 100000 in
theorem law_c31 (l : Launch) (hl9 : l.stackTraces = false) {p : Program} {e : Env} {s : State} {m : MethodId} {args : Array Value} {below : List Frame} {meth : Method} {c : Code} {Q : State → Prop} (D : va_G) (cI cZ cL : ClassId) {A : Nat → Prop} {b L : Nat} {xs : Nat → Int32} (ob h : Nat) (a : Nat → Nat) (h2 : Nat) (a2 : Nat → Nat) (qo om : Nat) (bb : Nat → Nat) (hx : p.tables.exec = Jvm.exec) (hb : c.code = cL_law) (hml : c.maxLocals = 9) (hown : s.vm.findClass RL = some m.cls) (hts : ∀ w ∈ LW, w.before args s = true) (hE : EX A s s.heap) (hK : va_K D vwCl (tZ cI cZ cL) s) (hA : ∀ q : Nat, s.heap.size ≤ q → A q) (hX : va_X b L xs s s.heap) (hbl : b < s.heap.size) (hbA : ¬ A b) (hL : L ≤ 2048) {t : Nat} (ht : 4 * t + 4 ≤ L) (NX : lawN p l e s m args below meth c Q D cI cZ cL A b ob h a h2 a2 qo om bb t) {n k : Nat} (σ τ : Sg) (κ ζ : Nat → Int32) (th : Int32) (wo : Nat → Int64) (hst : Shp n k σ) (hB : Bnd (12000 * t) σ) {H : Heap} {locs : List Loc} {ls : Array Slot} (hP : va_P D vwCl ((oC ob h h2) ++ ((mC cI cZ h a σ) ++ ((mC cI cZ h2 a2 τ) ++ ((lC cL qo wo) ++ (rC cI cZ om bb σ κ ζ th))))) H) (hD : va_D A ((oC ob h h2) ++ ((mC cI cZ h a σ) ++ ((mC cI cZ h2 a2 τ) ++ ((lC cL qo wo) ++ (rC cI cZ om bb σ κ ζ th)))))) (hS : va_S A s.heap H locs) (hl : lv_has ls 9 [(4, .int (nI (4 * t))), (0, .ref b), (1, .ref ob), (2, .ref om), (3, .ref qo)]) : W p l e room_1 s m args below meth c H locs (40 + 11 * t) (600 + 74 * t) Q (F0 m 1571 ls []) := by
  have hn10 := hst.1
  have hk16 := hst.2.1
  refine lv_aload_n hx hb dL_law_1571 rfl (lv_at hl 2 rfl) ?_
  refine MX.callV (C := RX1) (T := TX1) (N := 2) (As := []) (rest := []) (wB := (fun ρ => (oC ob h h2) ++ ((mC cI cZ h a σ) ++ ((mC cI cZ h2 a2 ρ) ++ ((lC cL qo wo) ++ (rC cI cZ om bb σ κ ζ th)))))) (c_X1_bestToTurn l D cI cZ cL ob h a h2 a2 σ τ hst hB) ⟨hx, hb, hml, hown, hts⟩ q199 b_X1_bestToTurn (n := 0) (by decide +kernel) ⟨Nat.le_of_ble_eq_true rfl, Nat.le_of_ble_eq_true rfl⟩ hK hP hD hS hA hE (spO _ _ _ _ _) (fun _ => spO _ _ _ _ _) (ci := 1) rfl (q0 := 0) rfl rfl hl.1 rfl (Nat.le_of_ble_eq_true rfl) dL_law_1572 ⟨by show 40 + 11 * t + 0 + 0 ≤ 671377; omega, by show 600 + 74 * t + 0 + 0 ≤ 7081972; omega⟩ (fun ρ_1 H locs hP hD hS => ?_)
  have hP : va_P D vwCl ((oC ob h h2) ++ ((mC cI cZ h a σ) ++ ((mC cI cZ h2 a2 ρ_1) ++ ((lC cL qo wo) ++ (rC cI cZ om bb σ κ ζ th))))) H := hP
  have hD : va_D A ((oC ob h h2) ++ ((mC cI cZ h a σ) ++ ((mC cI cZ h2 a2 ρ_1) ++ ((lC cL qo wo) ++ (rC cI cZ om bb σ κ ζ th))))) := hD
  refine lv_aload_n hx hb dL_law_1575 rfl (lv_at hl 3 rfl) ?_
  refine MC.callV (C := RX2) (T := TX2) (N := 14) (As := []) (rest := [.int (turnB σ)]) (wB := (oC ob h h2) ++ ((mC cI cZ h a σ) ++ ((mC cI cZ h2 a2 ρ_1) ++ ((lC cL qo wo) ++ (rC cI cZ om bb σ (nowF σ) ζ 0))))) (c_X2_bestToTurn l D cI cZ cL om bb σ κ ζ th hst hB (by omega)) ⟨hx, hb, hml, hown, hts⟩ q875 b_X2_bestToTurn (n := 0) (by decide +kernel) ⟨Nat.le_of_ble_eq_true rfl, Nat.le_of_ble_eq_true rfl⟩ hK hP hD hS hA (spR _ _ _ _ _) (spR _ _ _ _ _) (ci := 2) rfl (q0 := 26) rfl rfl hl.1 rfl (Nat.le_of_ble_eq_true rfl) dL_law_1576 ⟨by show 40 + 11 * t + 0 + 0 ≤ 671377; omega, by show 600 + 74 * t + 0 + 0 ≤ 7081972; omega⟩ (fun H locs hP hD hS => ?_)
  refine lv_icmp_eq (tgt := 1708) hx hb dL_law_1579 (by decide) (fun c_1579 => ?_) (fun z => absurd (rfl) z)
  refine W.wide (k := 40 + 11 * (t + 1)) (n := 600 + 74 * (t + 1)) (by show 40 + 11 * t + 0 ≤ _; omega) (by show 600 + 74 * t + 0 ≤ _; omega) ?_
  exact NX n k σ ρ_1 (nowF σ) ζ 0 wo hst (hB.mono (by omega)) _ _ _ hP hD hS (lv_sub hl [0, 1, 2, 3, 4] rfl)

set_option maxHeartbeats 8000000 in
set_option maxRecDepth 100000 in
theorem law_c32 (l : Launch) (hl9 : l.stackTraces = false) {p : Program} {e : Env} {s : State} {m : MethodId} {args : Array Value} {below : List Frame} {meth : Method} {c : Code} {Q : State → Prop} (D : va_G) (cI cZ cL : ClassId) {A : Nat → Prop} {b L : Nat} {xs : Nat → Int32} (ob h : Nat) (a : Nat → Nat) (h2 : Nat) (a2 : Nat → Nat) (qo om : Nat) (bb : Nat → Nat) (hx : p.tables.exec = Jvm.exec) (hb : c.code = cL_law) (hml : c.maxLocals = 9) (hown : s.vm.findClass RL = some m.cls) (hts : ∀ w ∈ LW, w.before args s = true) (hE : EX A s s.heap) (hK : va_K D vwCl (tZ cI cZ cL) s) (hA : ∀ q : Nat, s.heap.size ≤ q → A q) (hX : va_X b L xs s s.heap) (hbl : b < s.heap.size) (hbA : ¬ A b) (hL : L ≤ 2048) {t : Nat} (ht : 4 * t + 4 ≤ L) (NX : lawN p l e s m args below meth c Q D cI cZ cL A b ob h a h2 a2 qo om bb t) {n k : Nat} (σ τ : Sg) (κ ζ : Nat → Int32) (th : Int32) (wo : Nat → Int64) (hst : Shp n k σ) (hB : Bnd (12000 * t) σ) {H : Heap} {locs : List Loc} {ls : Array Slot} (hP : va_P D vwCl ((oC ob h h2) ++ ((mC cI cZ h a σ) ++ ((mC cI cZ h2 a2 τ) ++ ((lC cL qo wo) ++ (rC cI cZ om bb σ κ ζ th))))) H) (hD : va_D A ((oC ob h h2) ++ ((mC cI cZ h a σ) ++ ((mC cI cZ h2 a2 τ) ++ ((lC cL qo wo) ++ (rC cI cZ om bb σ κ ζ th)))))) (hS : va_S A s.heap H locs) (hl : lv_has ls 9 [(4, .int (nI (4 * t))), (0, .ref b), (1, .ref ob), (2, .ref om), (3, .ref qo)]) : W p l e room_1 s m args below meth c H locs (40 + 11 * t) (600 + 74 * t) Q (F0 m 1584 ls []) := by
  have hn10 := hst.1
  have hk16 := hst.2.1
  refine lv_aload_n hx hb dL_law_1584 rfl (lv_at hl 2 rfl) ?_
  refine lv_aload_n hx hb dL_law_1585 rfl (lv_at hl 1 rfl) ?_
  refine lv_iload hx hb dL_law_1586 (lv_at hl 0 rfl) ?_
  refine lv_iconst (v := 1) hx hb dL_law_1588 (by decide) ?_
  refine lv_iadd hx hb dL_law_1589 ?_
  refine x_top (nI_add (4 * t) 1) ?_
  refine va_sld hx hb hX hbl hbA hS (vp_in_nI (n := (4 * t) + 1) (by omega) (by omega)) dL_law_1590 ?_
  refine x_top (show xs (nI ((4 * t) + 1)).toNatClampNeg = xs ((4 * t) + 1) by rw [nI_clamp (by omega)]) ?_
  refine lv_aload_n hx hb dL_law_1591 rfl (lv_at hl 4 rfl) ?_
  refine MH.callS (As := [.ref ob, .int (xs ((4 * t) + 1)), .ref qo]) (rest := []) (w0 := []) (w2 := rC cI cZ om bb σ κ ζ th) (c_L_bestToFlood l hl9 D cI cZ cL ob h a h2 a2 σ τ hst hB (xs (4 * t + 1)) qo wo) ⟨hx, hb, hml, hown, hts⟩ q582 b_L_bestToFlood (n := 3) (by decide +kernel) ⟨Nat.le_of_ble_eq_true rfl, Nat.le_of_ble_eq_true rfl⟩ hK hP hD hS hA hE (spH _ _ _ _ _) rfl hl.1 rfl (Nat.le_of_ble_eq_true rfl) dL_law_1592 ⟨by show 40 + 11 * t + 0 + 1 ≤ 671377; omega, by show 600 + 74 * t + 0 + 6 ≤ 7081972; omega⟩ (fun x9 H locs hP hD hS => ?_)
  obtain ⟨⟨τ9, w9⟩, hw9⟩ := x9
  have hw9 : (if inR (xs (4 * t + 1)) 1 50 = 0 then 1 else 0 : Int32) = 0 → w9 0 = (if inR (xs (4 * t + 1)) 1 50 = 0 then 0 else floodB σ (xs (4 * t + 1)) : Int32).toInt64 := hw9
  have hP : va_P D vwCl ((oC ob h h2) ++ ((mC cI cZ h a σ) ++ ((mC cI cZ h2 a2 τ9) ++ ((lC cL qo w9) ++ (rC cI cZ om bb σ κ ζ th))))) H := hP
  have hD : va_D A ((oC ob h h2) ++ ((mC cI cZ h a σ) ++ ((mC cI cZ h2 a2 τ9) ++ ((lC cL qo w9) ++ (rC cI cZ om bb σ κ ζ th))))) := hD
  refine lv_istore (lv' := [(5, .int (if inR (xs (4 * t + 1)) 1 50 = 0 then 1 else 0)), (4, .int (nI (4 * t))), (0, .ref b), (1, .ref ob), (2, .ref om), (3, .ref qo)]) hx hb dL_law_1595 hl (by decide) rfl (fun ls hl => ?_)
  refine lv_aload_n hx hb dL_law_1597 rfl (lv_at hl 4 rfl) ?_
  refine lv_aload_n hx hb dL_law_1598 rfl (lv_at hl 2 rfl) ?_
  refine lv_iload hx hb dL_law_1599 (lv_at hl 1 rfl) ?_
  refine lv_iconst (v := 1) hx hb dL_law_1601 (by decide) ?_
  refine lv_iadd hx hb dL_law_1602 ?_
  refine x_top (nI_add (4 * t) 1) ?_
  refine va_sld hx hb hX hbl hbA hS (vp_in_nI (n := (4 * t) + 1) (by omega) (by omega)) dL_law_1603 ?_
  refine x_top (show xs (nI ((4 * t) + 1)).toNatClampNeg = xs ((4 * t) + 1) by rw [nI_clamp (by omega)]) ?_
  refine MC.callV (C := RX2) (T := TX2) (N := 14) (As := [.int (xs ((4 * t) + 1))]) (rest := []) (wB := (oC ob h h2) ++ ((mC cI cZ h a σ) ++ ((mC cI cZ h2 a2 τ9) ++ ((lC cL qo w9) ++ (rC cI cZ om bb σ (if inR (xs (4 * t + 1)) 1 50 = 0 then κ else kF κ (nowF σ) n) ζ (if inR (xs (4 * t + 1)) 1 50 = 0 then 1 else 0)))))) (c_X2_bestToFlood l D cI cZ cL om bb σ κ ζ th hst hB (by omega) (xs (4 * t + 1))) ⟨hx, hb, hml, hown, hts⟩ q883 b_X2_bestToFlood (n := 1) (by decide +kernel) ⟨Nat.le_of_ble_eq_true rfl, Nat.le_of_ble_eq_true rfl⟩ hK hP hD hS hA (spR _ _ _ _ _) (spR _ _ _ _ _) (ci := 2) rfl (q0 := 26) rfl rfl hl.1 rfl (Nat.le_of_ble_eq_true rfl) dL_law_1604 ⟨by show 40 + 11 * t + 1 + 0 ≤ 671377; omega, by show 600 + 74 * t + 6 + 0 ≤ 7081972; omega⟩ (fun H locs hP hD hS => ?_)
  refine lv_istore (lv' := [(6, .int (if inR (xs (4 * t + 1)) 1 50 = 0 then 0 else floodB σ (xs (4 * t + 1)))), (5, .int (if inR (xs (4 * t + 1)) 1 50 = 0 then 1 else 0)), (4, .int (nI (4 * t))), (0, .ref b), (1, .ref ob), (2, .ref om), (3, .ref qo)]) hx hb dL_law_1607 hl (by decide) rfl (fun ls hl => ?_)
  refine lv_aload_n hx hb dL_law_1609 rfl (lv_at hl 5 rfl) ?_
  refine MC.callV (C := RX2) (T := TX2) (N := 14) (As := []) (rest := []) (wB := (oC ob h h2) ++ ((mC cI cZ h a σ) ++ ((mC cI cZ h2 a2 τ9) ++ ((lC cL qo w9) ++ (rC cI cZ om bb σ (if inR (xs (4 * t + 1)) 1 50 = 0 then κ else kF κ (nowF σ) n) ζ (if inR (xs (4 * t + 1)) 1 50 = 0 then 1 else 0)))))) (c_X2_thrown l D cI cZ cL om bb σ (if inR (xs (4 * t + 1)) 1 50 = 0 then κ else kF κ (nowF σ) n) ζ (if inR (xs (4 * t + 1)) 1 50 = 0 then 1 else 0)) ⟨hx, hb, hml, hown, hts⟩ q635 b_X2_thrown (n := 0) (by decide +kernel) ⟨Nat.le_of_ble_eq_true rfl, Nat.le_of_ble_eq_true rfl⟩ hK hP hD hS hA (spR _ _ _ _ _) (spR _ _ _ _ _) (ci := 2) rfl (q0 := 26) rfl rfl hl.1 rfl (Nat.le_of_ble_eq_true rfl) dL_law_1610 ⟨by show 40 + 11 * t + 1 + 0 ≤ 671377; omega, by show 600 + 74 * t + 6 + 0 ≤ 7081972; omega⟩ (fun H locs hP hD hS => ?_)
  refine lv_iload hx hb dL_law_1613 (lv_at hl 1 rfl) ?_
  refine lv_icmp_eq (tgt := 1620) hx hb dL_law_1615 (by decide) (fun c_1615 => ?_) (fun z => absurd (rfl) z)
  refine lv_iload hx hb dL_law_1620 (lv_at hl 1 rfl) ?_
  refine lv_if_ne (tgt := 1637) hx hb dL_law_1622 (by decide) (fun c_1622 => ?_) (fun c_1622 => ?_)
  · refine lv_goto (tgt := 1708) hx hb dL_law_1637 (by decide) ?_
    refine W.wide (k := 40 + 11 * (t + 1)) (n := 600 + 74 * (t + 1)) (by show 40 + 11 * t + 1 ≤ _; omega) (by show 600 + 74 * t + 6 ≤ _; omega) ?_
    exact NX n k σ τ9 (if inR (xs (4 * t + 1)) 1 50 = 0 then κ else kF κ (nowF σ) n) ζ (if inR (xs (4 * t + 1)) 1 50 = 0 then 1 else 0) w9 hst (hB.mono (by omega)) _ _ _ hP hD hS (lv_sub hl [2, 3, 4, 5, 6] rfl)
  · refine lv_aload_n hx hb dL_law_1625 rfl (lv_at hl 6 rfl) ?_
    refine lv_iconst (v := 0) hx hb dL_law_1626 (by decide) ?_
    refine va_lald hx hb hK hP 25 2 rfl rfl (vp_in_nI (n := 0) (by decide) (by decide)) dL_law_1627 ?_
    refine lv_iload hx hb dL_law_1628 (lv_at hl 0 rfl) ?_
    refine lv_i2l hx hb dL_law_1630 rfl ?_
    refine W.lcmp hx hb dL_law_1631 ?_
    refine x_top (lcmp_eq (hw9 c_1622)) ?_
    refine lv_if_eq (tgt := 1637) hx hb dL_law_1632 (by decide) (fun c_1632 => ?_) (fun z => absurd (by decide) z)
    refine lv_goto (tgt := 1708) hx hb dL_law_1637 (by decide) ?_
    refine W.wide (k := 40 + 11 * (t + 1)) (n := 600 + 74 * (t + 1)) (by show 40 + 11 * t + 1 ≤ _; omega) (by show 600 + 74 * t + 6 ≤ _; omega) ?_
    exact NX n k σ τ9 (if inR (xs (4 * t + 1)) 1 50 = 0 then κ else kF κ (nowF σ) n) ζ (if inR (xs (4 * t + 1)) 1 50 = 0 then 1 else 0) w9 hst (hB.mono (by omega)) _ _ _ hP hD hS (lv_sub hl [2, 3, 4, 5, 6] rfl)

set_option maxHeartbeats 8000000 in
set_option maxRecDepth 100000 in
theorem law_c33 (l : Launch) (hl9 : l.stackTraces = false) {p : Program} {e : Env} {s : State} {m : MethodId} {args : Array Value} {below : List Frame} {meth : Method} {c : Code} {Q : State → Prop} (D : va_G) (cI cZ cL : ClassId) {A : Nat → Prop} {b L : Nat} {xs : Nat → Int32} (ob h : Nat) (a : Nat → Nat) (h2 : Nat) (a2 : Nat → Nat) (qo om : Nat) (bb : Nat → Nat) (hx : p.tables.exec = Jvm.exec) (hb : c.code = cL_law) (hml : c.maxLocals = 9) (hown : s.vm.findClass RL = some m.cls) (hts : ∀ w ∈ LW, w.before args s = true) (hE : EX A s s.heap) (hK : va_K D vwCl (tZ cI cZ cL) s) (hA : ∀ q : Nat, s.heap.size ≤ q → A q) (hX : va_X b L xs s s.heap) (hbl : b < s.heap.size) (hbA : ¬ A b) (hL : L ≤ 2048) {t : Nat} (ht : 4 * t + 4 ≤ L) (NX : lawN p l e s m args below meth c Q D cI cZ cL A b ob h a h2 a2 qo om bb t) {n k : Nat} (σ τ : Sg) (κ ζ : Nat → Int32) (th : Int32) (wo : Nat → Int64) (hst : Shp n k σ) (hB : Bnd (12000 * t) σ) {H : Heap} {locs : List Loc} {ls : Array Slot} (hP : va_P D vwCl ((oC ob h h2) ++ ((mC cI cZ h a σ) ++ ((mC cI cZ h2 a2 τ) ++ ((lC cL qo wo) ++ (rC cI cZ om bb σ κ ζ th))))) H) (hD : va_D A ((oC ob h h2) ++ ((mC cI cZ h a σ) ++ ((mC cI cZ h2 a2 τ) ++ ((lC cL qo wo) ++ (rC cI cZ om bb σ κ ζ th)))))) (hS : va_S A s.heap H locs) (hl : lv_has ls 9 [(4, .int (nI (4 * t))), (0, .ref b), (1, .ref ob), (2, .ref om), (3, .ref qo)]) : W p l e room_1 s m args below meth c H locs (40 + 11 * t) (600 + 74 * t) Q (F0 m 1640 ls []) := by
  have hn10 := hst.1
  have hk16 := hst.2.1
  refine lv_aload_n hx hb dL_law_1640 rfl (lv_at hl 2 rfl) ?_
  refine MX.callV (C := RX1) (T := TX1) (N := 2) (As := []) (rest := []) (wB := (fun ρ => (oC ob h h2) ++ ((mC cI cZ h a σ) ++ ((mC cI cZ h2 a2 ρ) ++ ((lC cL qo wo) ++ (rC cI cZ om bb σ κ ζ th)))))) (c_X1_rainBorne l D cI cZ cL ob h a h2 a2 σ τ hst hB) ⟨hx, hb, hml, hown, hts⟩ q246 b_X1_rainBorne (n := 0) (by decide +kernel) ⟨Nat.le_of_ble_eq_true rfl, Nat.le_of_ble_eq_true rfl⟩ hK hP hD hS hA hE (spO _ _ _ _ _) (fun _ => spO _ _ _ _ _) (ci := 1) rfl (q0 := 0) rfl rfl hl.1 rfl (Nat.le_of_ble_eq_true rfl) dL_law_1641 ⟨by show 40 + 11 * t + 0 + 0 ≤ 671377; omega, by show 600 + 74 * t + 0 + 0 ≤ 7081972; omega⟩ (fun ρ_1 H locs hP hD hS => ?_)
  have hP : va_P D vwCl ((oC ob h h2) ++ ((mC cI cZ h a σ) ++ ((mC cI cZ h2 a2 ρ_1) ++ ((lC cL qo wo) ++ (rC cI cZ om bb σ κ ζ th))))) H := hP
  have hD : va_D A ((oC ob h h2) ++ ((mC cI cZ h a σ) ++ ((mC cI cZ h2 a2 ρ_1) ++ ((lC cL qo wo) ++ (rC cI cZ om bb σ κ ζ th))))) := hD
  refine lv_aload_n hx hb dL_law_1644 rfl (lv_at hl 3 rfl) ?_
  refine MC.callV (C := RX2) (T := TX2) (N := 14) (As := []) (rest := [.int (borneS σ)]) (wB := (oC ob h h2) ++ ((mC cI cZ h a σ) ++ ((mC cI cZ h2 a2 ρ_1) ++ ((lC cL qo wo) ++ (rC cI cZ om bb σ (nowF σ) ζ 0))))) (c_X2_rainBorne l D cI cZ cL om bb σ κ ζ th hst hB (by omega)) ⟨hx, hb, hml, hown, hts⟩ q891 b_X2_rainBorne (n := 0) (by decide +kernel) ⟨Nat.le_of_ble_eq_true rfl, Nat.le_of_ble_eq_true rfl⟩ hK hP hD hS hA (spR _ _ _ _ _) (spR _ _ _ _ _) (ci := 2) rfl (q0 := 26) rfl rfl hl.1 rfl (Nat.le_of_ble_eq_true rfl) dL_law_1645 ⟨by show 40 + 11 * t + 0 + 0 ≤ 671377; omega, by show 600 + 74 * t + 0 + 0 ≤ 7081972; omega⟩ (fun H locs hP hD hS => ?_)
  refine lv_icmp_eq (tgt := 1708) hx hb dL_law_1648 (by decide) (fun c_1648 => ?_) (fun z => absurd (rfl) z)
  refine W.wide (k := 40 + 11 * (t + 1)) (n := 600 + 74 * (t + 1)) (by show 40 + 11 * t + 0 ≤ _; omega) (by show 600 + 74 * t + 0 ≤ _; omega) ?_
  exact NX n k σ ρ_1 (nowF σ) ζ 0 wo hst (hB.mono (by omega)) _ _ _ hP hD hS (lv_sub hl [0, 1, 2, 3, 4] rfl)

set_option maxHeartbeats 8000000 in
set_option maxRecDepth 100000 in
theorem law_c34 (l : Launch) (hl9 : l.stackTraces = false) {p : Program} {e : Env} {s : State} {m : MethodId} {args : Array Value} {below : List Frame} {meth : Method} {c : Code} {Q : State → Prop} (D : va_G) (cI cZ cL : ClassId) {A : Nat → Prop} {b L : Nat} {xs : Nat → Int32} (ob h : Nat) (a : Nat → Nat) (h2 : Nat) (a2 : Nat → Nat) (qo om : Nat) (bb : Nat → Nat) (hx : p.tables.exec = Jvm.exec) (hb : c.code = cL_law) (hml : c.maxLocals = 9) (hown : s.vm.findClass RL = some m.cls) (hts : ∀ w ∈ LW, w.before args s = true) (hE : EX A s s.heap) (hK : va_K D vwCl (tZ cI cZ cL) s) (hA : ∀ q : Nat, s.heap.size ≤ q → A q) (hX : va_X b L xs s s.heap) (hbl : b < s.heap.size) (hbA : ¬ A b) (hL : L ≤ 2048) {t : Nat} (ht : 4 * t + 4 ≤ L) (NX : lawN p l e s m args below meth c Q D cI cZ cL A b ob h a h2 a2 qo om bb t) {n k : Nat} (σ τ : Sg) (κ ζ : Nat → Int32) (th : Int32) (wo : Nat → Int64) (hst : Shp n k σ) (hB : Bnd (12000 * t) σ) {H : Heap} {locs : List Loc} {ls : Array Slot} (hP : va_P D vwCl ((oC ob h h2) ++ ((mC cI cZ h a σ) ++ ((mC cI cZ h2 a2 τ) ++ ((lC cL qo wo) ++ (rC cI cZ om bb σ κ ζ th))))) H) (hD : va_D A ((oC ob h h2) ++ ((mC cI cZ h a σ) ++ ((mC cI cZ h2 a2 τ) ++ ((lC cL qo wo) ++ (rC cI cZ om bb σ κ ζ th)))))) (hS : va_S A s.heap H locs) (hl : lv_has ls 9 [(4, .int (nI (4 * t))), (0, .ref b), (1, .ref ob), (2, .ref om), (3, .ref qo)]) : W p l e room_1 s m args below meth c H locs (40 + 11 * t) (600 + 74 * t) Q (F0 m 1653 ls []) := by
  have hn10 := hst.1
  have hk16 := hst.2.1
  refine lv_aload_n hx hb dL_law_1653 rfl (lv_at hl 2 rfl) ?_
  refine MX.callV (C := RX1) (T := TX1) (N := 2) (As := []) (rest := []) (wB := (fun ρ => (oC ob h h2) ++ ((mC cI cZ h a σ) ++ ((mC cI cZ h2 a2 ρ) ++ ((lC cL qo wo) ++ (rC cI cZ om bb σ κ ζ th)))))) (c_X1_meanWater l D cI cZ cL ob h a h2 a2 σ τ hst) ⟨hx, hb, hml, hown, hts⟩ q250 b_X1_meanWater (n := 0) (by decide +kernel) ⟨Nat.le_of_ble_eq_true rfl, Nat.le_of_ble_eq_true rfl⟩ hK hP hD hS hA hE (spO _ _ _ _ _) (fun _ => spO _ _ _ _ _) (ci := 1) rfl (q0 := 0) rfl rfl hl.1 rfl (Nat.le_of_ble_eq_true rfl) dL_law_1654 ⟨by show 40 + 11 * t + 0 + 0 ≤ 671377; omega, by show 600 + 74 * t + 0 + 0 ≤ 7081972; omega⟩ (fun ρ_1 H locs hP hD hS => ?_)
  have hP : va_P D vwCl ((oC ob h h2) ++ ((mC cI cZ h a σ) ++ ((mC cI cZ h2 a2 ρ_1) ++ ((lC cL qo wo) ++ (rC cI cZ om bb σ κ ζ th))))) H := hP
  have hD : va_D A ((oC ob h h2) ++ ((mC cI cZ h a σ) ++ ((mC cI cZ h2 a2 ρ_1) ++ ((lC cL qo wo) ++ (rC cI cZ om bb σ κ ζ th))))) := hD
  refine lv_dstore (lv' := [(5, .double (meanS σ)), (4, .int (nI (4 * t))), (0, .ref b), (1, .ref ob), (2, .ref om), (3, .ref qo)]) hx hb dL_law_1657 hl (by decide) rfl (fun ls hl => ?_)
  refine lv_aload_n hx hb dL_law_1659 rfl (lv_at hl 4 rfl) ?_
  refine MC.callV (C := RX2) (T := TX2) (N := 14) (As := []) (rest := []) (wB := (oC ob h h2) ++ ((mC cI cZ h a σ) ++ ((mC cI cZ h2 a2 ρ_1) ++ ((lC cL qo wo) ++ (rC cI cZ om bb σ κ ζ 0))))) (c_X2_meanWater l D cI cZ cL om bb σ κ ζ th hst) ⟨hx, hb, hml, hown, hts⟩ q899 b_X2_meanWater (n := 0) (by decide +kernel) ⟨Nat.le_of_ble_eq_true rfl, Nat.le_of_ble_eq_true rfl⟩ hK hP hD hS hA (spR _ _ _ _ _) (spR _ _ _ _ _) (ci := 2) rfl (q0 := 26) rfl rfl hl.1 rfl (Nat.le_of_ble_eq_true rfl) dL_law_1660 ⟨by show 40 + 11 * t + 0 + 0 ≤ 671377; omega, by show 600 + 74 * t + 0 + 0 ≤ 7081972; omega⟩ (fun H locs hP hD hS => ?_)
  refine lv_dstore (lv' := [(7, .double (meanS σ)), (5, .double (meanS σ)), (4, .int (nI (4 * t))), (0, .ref b), (1, .ref ob), (2, .ref om), (3, .ref qo)]) hx hb dL_law_1663 hl (by decide) rfl (fun ls hl => ?_)
  refine lv_dload hx hb dL_law_1665 (lv_at hl 1 rfl) ?_
  refine lv_dload hx hb dL_law_1667 (lv_at hl 0 rfl) ?_
  refine lv_dcmp hx hb dL_law_1669 ?_
  refine lv_if_eq (tgt := 1691) hx hb dL_law_1670 (by decide) (fun c_1670 => ?_) (fun c_1670 => ?_)
  · refine lv_goto (tgt := 1708) hx hb dL_law_1691 (by decide) ?_
    refine W.wide (k := 40 + 11 * (t + 1)) (n := 600 + 74 * (t + 1)) (by show 40 + 11 * t + 0 ≤ _; omega) (by show 600 + 74 * t + 0 ≤ _; omega) ?_
    exact NX n k σ ρ_1 κ ζ 0 wo hst (hB.mono (by omega)) _ _ _ hP hD hS (lv_sub hl [2, 3, 4, 5, 6] rfl)
  · refine lv_dload hx hb dL_law_1673 (lv_at hl 1 rfl) ?_
    refine lv_dload hx hb dL_law_1675 (lv_at hl 1 rfl) ?_
    refine lv_dcmp hx hb dL_law_1677 ?_
    refine lv_if_eq (tgt := 1689) hx hb dL_law_1678 (by decide) (fun z => absurd z (c_1670)) (fun c_1678 => ?_)
    refine lv_dload hx hb dL_law_1681 (lv_at hl 0 rfl) ?_
    refine lv_dload hx hb dL_law_1683 (lv_at hl 0 rfl) ?_
    refine lv_dcmp hx hb dL_law_1685 ?_
    refine lv_if_ne (tgt := 1691) hx hb dL_law_1686 (by decide) (fun c_1686 => ?_) (fun z => absurd z (c_1670))
    refine lv_goto (tgt := 1708) hx hb dL_law_1691 (by decide) ?_
    refine W.wide (k := 40 + 11 * (t + 1)) (n := 600 + 74 * (t + 1)) (by show 40 + 11 * t + 0 ≤ _; omega) (by show 600 + 74 * t + 0 ≤ _; omega) ?_
    exact NX n k σ ρ_1 κ ζ 0 wo hst (hB.mono (by omega)) _ _ _ hP hD hS (lv_sub hl [2, 3, 4, 5, 6] rfl)

set_option maxHeartbeats 8000000 in
set_option maxRecDepth 100000 in
theorem law_c35 (l : Launch) (hl9 : l.stackTraces = false) {p : Program} {e : Env} {s : State} {m : MethodId} {args : Array Value} {below : List Frame} {meth : Method} {c : Code} {Q : State → Prop} (D : va_G) (cI cZ cL : ClassId) {A : Nat → Prop} {b L : Nat} {xs : Nat → Int32} (ob h : Nat) (a : Nat → Nat) (h2 : Nat) (a2 : Nat → Nat) (qo om : Nat) (bb : Nat → Nat) (hx : p.tables.exec = Jvm.exec) (hb : c.code = cL_law) (hml : c.maxLocals = 9) (hown : s.vm.findClass RL = some m.cls) (hts : ∀ w ∈ LW, w.before args s = true) (hE : EX A s s.heap) (hK : va_K D vwCl (tZ cI cZ cL) s) (hA : ∀ q : Nat, s.heap.size ≤ q → A q) (hX : va_X b L xs s s.heap) (hbl : b < s.heap.size) (hbA : ¬ A b) (hL : L ≤ 2048) {t : Nat} (ht : 4 * t + 4 ≤ L) (NX : lawN p l e s m args below meth c Q D cI cZ cL A b ob h a h2 a2 qo om bb t) {n k : Nat} (σ τ : Sg) (κ ζ : Nat → Int32) (th : Int32) (wo : Nat → Int64) (hst : Shp n k σ) (hB : Bnd (12000 * t) σ) {H : Heap} {locs : List Loc} {ls : Array Slot} (hP : va_P D vwCl ((oC ob h h2) ++ ((mC cI cZ h a σ) ++ ((mC cI cZ h2 a2 τ) ++ ((lC cL qo wo) ++ (rC cI cZ om bb σ κ ζ th))))) H) (hD : va_D A ((oC ob h h2) ++ ((mC cI cZ h a σ) ++ ((mC cI cZ h2 a2 τ) ++ ((lC cL qo wo) ++ (rC cI cZ om bb σ κ ζ th)))))) (hS : va_S A s.heap H locs) (hl : lv_has ls 9 [(4, .int (nI (4 * t))), (0, .ref b), (1, .ref ob), (2, .ref om), (3, .ref qo)]) : W p l e room_1 s m args below meth c H locs (40 + 11 * t) (600 + 74 * t) Q (F0 m 1694 ls []) := by
  have hn10 := hst.1
  have hk16 := hst.2.1
  refine lv_aload_n hx hb dL_law_1694 rfl (lv_at hl 2 rfl) ?_
  refine MX.callV (C := RX1) (T := TX1) (N := 2) (As := []) (rest := []) (wB := (fun ρ => (oC ob h h2) ++ ((mC cI cZ h a σ) ++ ((mC cI cZ h2 a2 ρ) ++ ((lC cL qo wo) ++ (rC cI cZ om bb σ κ ζ th)))))) (c_X1_digest l D cI cZ cL ob h a h2 a2 σ τ hst hB) ⟨hx, hb, hml, hown, hts⟩ q255 b_X1_digest (n := 0) (by decide +kernel) ⟨Nat.le_of_ble_eq_true rfl, Nat.le_of_ble_eq_true rfl⟩ hK hP hD hS hA hE (spO _ _ _ _ _) (fun _ => spO _ _ _ _ _) (ci := 1) rfl (q0 := 0) rfl rfl hl.1 rfl (Nat.le_of_ble_eq_true rfl) dL_law_1695 ⟨by show 40 + 11 * t + 0 + 0 ≤ 671377; omega, by show 600 + 74 * t + 0 + 0 ≤ 7081972; omega⟩ (fun ρ_1 H locs hP hD hS => ?_)
  have hP : va_P D vwCl ((oC ob h h2) ++ ((mC cI cZ h a σ) ++ ((mC cI cZ h2 a2 ρ_1) ++ ((lC cL qo wo) ++ (rC cI cZ om bb σ κ ζ th))))) H := hP
  have hD : va_D A ((oC ob h h2) ++ ((mC cI cZ h a σ) ++ ((mC cI cZ h2 a2 ρ_1) ++ ((lC cL qo wo) ++ (rC cI cZ om bb σ κ ζ th))))) := hD
  refine lv_aload_n hx hb dL_law_1698 rfl (lv_at hl 3 rfl) ?_
  refine MC.callV (C := RX2) (T := TX2) (N := 14) (As := []) (rest := [.long (digS σ)]) (wB := (oC ob h h2) ++ ((mC cI cZ h a σ) ++ ((mC cI cZ h2 a2 ρ_1) ++ ((lC cL qo wo) ++ (rC cI cZ om bb σ (nowF σ) (dgZ σ n ζ n) 0))))) (c_X2_digest l D cI cZ cL om bb σ κ ζ th hst hB (by omega)) ⟨hx, hb, hml, hown, hts⟩ q903 b_X2_digest (n := 0) (by decide +kernel) ⟨Nat.le_of_ble_eq_true rfl, Nat.le_of_ble_eq_true rfl⟩ hK hP hD hS hA (spR _ _ _ _ _) (spR _ _ _ _ _) (ci := 2) rfl (q0 := 26) rfl rfl hl.1 rfl (Nat.le_of_ble_eq_true rfl) dL_law_1699 ⟨by show 40 + 11 * t + 0 + 11 ≤ 671377; omega, by show 600 + 74 * t + 0 + 74 ≤ 7081972; omega⟩ (fun H locs hP hD hS => ?_)
  refine W.lcmp hx hb dL_law_1702 ?_
  refine x_top (lcmp_eq (rfl)) ?_
  refine lv_if_eq (tgt := 1708) hx hb dL_law_1703 (by decide) (fun c_1703 => ?_) (fun z => absurd (by decide) z)
  refine W.wide (k := 40 + 11 * (t + 1)) (n := 600 + 74 * (t + 1)) (by show 40 + 11 * t + 11 ≤ _; omega) (by show 600 + 74 * t + 74 ≤ _; omega) ?_
  exact NX n k σ ρ_1 (nowF σ) (dgZ σ n ζ n) 0 wo hst (hB.mono (by omega)) _ _ _ hP hD hS (lv_sub hl [0, 1, 2, 3, 4] rfl)
