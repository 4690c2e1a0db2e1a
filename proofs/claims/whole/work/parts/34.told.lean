abbrev rmX2_digest : Room := { frames := 8, cells := 11, slots := 74, locals := 197 }
theorem b_X2_digest : Cond.instanceMethod yX2_digest ∈ LW ∧ Cond.selects RX2 yX2_digest yX2_digest ∈ LW ∧ Cond.initialized RX2 ∈ LW ∧ Cond.code yX2_digest cX2_digest 10 (some .long) ∈ LW := ⟨q904, q905, q40, q906⟩
set_option maxHeartbeats 4000000 in
set_option maxRecDepth 100000 in
theorem c_X2_digest (l : Launch) (D : va_G) (cI cZ cL : ClassId) {n k : Nat} (o : Nat) (b : Nat → Nat) (σ : Sg) (κ ζ : Nat → Int32) (th : Int32) (hst : Shp n k σ) {B : Nat} (hB : Bnd B σ) (hB2 : B + 24400 < 2 ^ 29) : MC l yX2_digest cX2_digest 10 (some .long) rmX2_digest D (tZ cI cZ cL) [.ref o] (rC cI cZ o b σ κ ζ th) (rC cI cZ o b σ (nowF σ) (dgZ σ n ζ n) 0) (some (.long (digS σ))) := by
  refine MC.of (by decide) (Nat.le_of_ble_eq_true rfl) ?_
  intro p e s m args below meth c A ls Q hx hb hml hr hts hown hlocks hA hP hD hK hS hl hQ
  have hown : s.vm.findClass RX2 = some m.cls := hown
  have hn10 := hst.1
  have hk16 := hst.2.1
  have hl : lv_has ls 10 [(0, .ref o)] := hl
  refine lv_aload_n hx hb dX2_digest_0 rfl (lv_at hl 0 rfl) ?_
  refine lv_iconst (v := 0) hx hb dX2_digest_1 (by decide) ?_
  refine x_put (C := RX2) (T := TX2) (N := 14) (ws2 := rC cI cZ o b σ κ ζ 0) hx hb hts in_wsX20 tyX2_ok nmX2 hown hK hP hD hS 0 rfl rfl 0 (by decide) q592 rfl (by decide +kernel) (Nat.le_of_ble_eq_true rfl) rfl dX2_digest_2 (fun H locs hP hD hS => ?_)
  refine lv_bipush (v := 14) hx hb dX2_digest_5 (by decide) ?_
  refine x_new (atype := .int) (ty := .int) rfl rfl ra_int hx hb (hts _ q126) hK hP hD hS hA 0 rfl (N' := 14) (by decide) (by decide) (by decide) (Nat.le_of_ble_eq_true rfl) (Nat.le_of_ble_eq_true rfl) dX2_digest_7 (fun t1 H hP hD hS => ?_)
  have hP : va_P D vwCl ((rC cI cZ o b σ κ ζ 0) ++ (tC cI t1 14 (fun _ => 0))) H := hP
  have hD : va_D A ((rC cI cZ o b σ κ ζ 0) ++ (tC cI t1 14 (fun _ => 0))) := hD
  refine lv_dup hx hb dX2_digest_9 rfl ?_
  refine lv_iconst (v := 0) hx hb dX2_digest_10 (by decide) ?_
  refine lv_aload_n hx hb dX2_digest_11 rfl (lv_at hl 0 rfl) ?_
  refine x_get (C := RX2) (T := TX2) (N := 14) hx hb hts in_wsX20 hown hK hP 0 rfl rfl 11 (by decide) q603 (v := .ref (b 7)) rfl dX2_digest_12 ?_
  refine lv_iconst (v := 0) hx hb dX2_digest_15 (by decide) ?_
  refine x_ild hx hb hK hP 8 0 rfl rfl 0 (rfl) (by omega) (by decide) (v := σ 11 4) rfl dX2_digest_16 ?_
  refine x_ist (ws2 := (rC cI cZ o b σ κ ζ 0) ++ (tC cI t1 14 (upd (fun _ => 0) 0 (σ 11 4)))) hx hb hK hP hD hS 11 0 rfl rfl 0 (rfl) (by omega) (by decide) rfl dX2_digest_17 (fun H locs hP hD hS => ?_)
  refine lv_dup hx hb dX2_digest_18 rfl ?_
  refine lv_iconst (v := 1) hx hb dX2_digest_19 (by decide) ?_
  refine lv_aload_n hx hb dX2_digest_20 rfl (lv_at hl 0 rfl) ?_
  refine x_get (C := RX2) (T := TX2) (N := 14) hx hb hts in_wsX20 hown hK hP 0 rfl rfl 1 (by decide) q593 (v := .int (σ 11 0)) rfl dX2_digest_21 ?_
  refine x_ist (ws2 := (rC cI cZ o b σ κ ζ 0) ++ (tC cI t1 14 (upd (upd (fun _ => 0) 0 (σ 11 4)) 1 (σ 11 0)))) hx hb hK hP hD hS 11 0 rfl rfl 1 (rfl) (by omega) (by decide) rfl dX2_digest_24 (fun H locs hP hD hS => ?_)
  refine lv_dup hx hb dX2_digest_25 rfl ?_
  refine lv_iconst (v := 2) hx hb dX2_digest_26 (by decide) ?_
  refine lv_aload_n hx hb dX2_digest_27 rfl (lv_at hl 0 rfl) ?_
  refine x_get (C := RX2) (T := TX2) (N := 14) hx hb hts in_wsX20 hown hK hP 0 rfl rfl 2 (by decide) q594 (v := .int (σ 11 1)) rfl dX2_digest_28 ?_
  refine x_ist (ws2 := (rC cI cZ o b σ κ ζ 0) ++ (tC cI t1 14 (upd (upd (upd (fun _ => 0) 0 (σ 11 4)) 1 (σ 11 0)) 2 (σ 11 1)))) hx hb hK hP hD hS 11 0 rfl rfl 2 (rfl) (by omega) (by decide) rfl dX2_digest_31 (fun H locs hP hD hS => ?_)
  refine lv_dup hx hb dX2_digest_32 rfl ?_
  refine lv_iconst (v := 3) hx hb dX2_digest_33 (by decide) ?_
  refine lv_aload_n hx hb dX2_digest_34 rfl (lv_at hl 0 rfl) ?_
  refine x_get (C := RX2) (T := TX2) (N := 14) hx hb hts in_wsX20 hown hK hP 0 rfl rfl 3 (by decide) q595 (v := .int (σ 11 2)) rfl dX2_digest_35 ?_
  refine x_ist (ws2 := (rC cI cZ o b σ κ ζ 0) ++ (tC cI t1 14 (upd (upd (upd (upd (fun _ => 0) 0 (σ 11 4)) 1 (σ 11 0)) 2 (σ 11 1)) 3 (σ 11 2)))) hx hb hK hP hD hS 11 0 rfl rfl 3 (rfl) (by omega) (by decide) rfl dX2_digest_38 (fun H locs hP hD hS => ?_)
  refine lv_dup hx hb dX2_digest_39 rfl ?_
  refine lv_iconst (v := 4) hx hb dX2_digest_40 (by decide) ?_
  refine lv_aload_n hx hb dX2_digest_41 rfl (lv_at hl 0 rfl) ?_
  refine MC.callV (C := RX2) (T := TX2) (N := 14) (As := []) (rest := [.int 4, .ref t1, .ref t1]) (wB := (rC cI cZ o b σ κ ζ 0) ++ (tC cI t1 14 (upd (upd (upd (upd (fun _ => 0) 0 (σ 11 4)) 1 (σ 11 0)) 2 (σ 11 1)) 3 (σ 11 2)))) (c_X2_allWater l D cI cZ cL o b σ κ ζ 0 hst) ⟨hx, hb, hml, hown, hts⟩ q744 b_X2_allWater (n := 0) (by decide +kernel) ⟨Nat.le_of_ble_eq_true rfl, Nat.le_of_ble_eq_true rfl⟩ hK hP hD hS hA (spF _ _) (spF _ _) (ci := 2) rfl (q0 := 0) rfl rfl hl.1 rfl (Nat.le_of_ble_eq_true rfl) dX2_digest_42 ⟨Nat.le_of_ble_eq_true rfl, Nat.le_of_ble_eq_true rfl⟩ (fun H locs hP hD hS => ?_)
  refine x_ist (ws2 := (rC cI cZ o b σ κ ζ 0) ++ (tC cI t1 14 (upd (upd (upd (upd (upd (fun _ => 0) 0 (σ 11 4)) 1 (σ 11 0)) 2 (σ 11 1)) 3 (σ 11 2)) 4 (waterS σ)))) hx hb hK hP hD hS 11 0 rfl rfl 4 (rfl) (by omega) (by decide) rfl dX2_digest_45 (fun H locs hP hD hS => ?_)
  refine lv_dup hx hb dX2_digest_46 rfl ?_
  refine lv_iconst (v := 5) hx hb dX2_digest_47 (by decide) ?_
  refine lv_aload_n hx hb dX2_digest_48 rfl (lv_at hl 0 rfl) ?_
  refine x_get (C := RX2) (T := TX2) (N := 14) hx hb hts in_wsX20 hown hK hP 0 rfl rfl 11 (by decide) q603 (v := .ref (b 7)) rfl dX2_digest_49 ?_
  refine lv_iconst (v := 1) hx hb dX2_digest_52 (by decide) ?_
  refine x_ild hx hb hK hP 8 0 rfl rfl 1 (rfl) (by omega) (by decide) (v := σ 11 3) rfl dX2_digest_53 ?_
  refine x_ist (ws2 := (rC cI cZ o b σ κ ζ 0) ++ (tC cI t1 14 (upd (upd (upd (upd (upd (upd (fun _ => 0) 0 (σ 11 4)) 1 (σ 11 0)) 2 (σ 11 1)) 3 (σ 11 2)) 4 (waterS σ)) 5 (σ 11 3)))) hx hb hK hP hD hS 11 0 rfl rfl 5 (rfl) (by omega) (by decide) rfl dX2_digest_54 (fun H locs hP hD hS => ?_)
  refine lv_dup hx hb dX2_digest_55 rfl ?_
  refine lv_bipush (v := 6) hx hb dX2_digest_56 (by decide) ?_
  refine lv_aload_n hx hb dX2_digest_58 rfl (lv_at hl 0 rfl) ?_
  refine MC.callV (C := RX2) (T := TX2) (N := 14) (As := []) (rest := [.int 6, .ref t1, .ref t1]) (wB := (rC cI cZ o b σ κ ζ 0) ++ (tC cI t1 14 (upd (upd (upd (upd (upd (upd (fun _ => 0) 0 (σ 11 4)) 1 (σ 11 0)) 2 (σ 11 1)) 3 (σ 11 2)) 4 (waterS σ)) 5 (σ 11 3)))) (c_X2_wet l D cI cZ cL o b σ κ ζ 0 hst) ⟨hx, hb, hml, hown, hts⟩ q756 b_X2_wet (n := 0) (by decide +kernel) ⟨Nat.le_of_ble_eq_true rfl, Nat.le_of_ble_eq_true rfl⟩ hK hP hD hS hA (spF _ _) (spF _ _) (ci := 2) rfl (q0 := 0) rfl rfl hl.1 rfl (Nat.le_of_ble_eq_true rfl) dX2_digest_59 ⟨Nat.le_of_ble_eq_true rfl, Nat.le_of_ble_eq_true rfl⟩ (fun H locs hP hD hS => ?_)
  refine x_ist (ws2 := (rC cI cZ o b σ κ ζ 0) ++ (tC cI t1 14 (upd (upd (upd (upd (upd (upd (upd (fun _ => 0) 0 (σ 11 4)) 1 (σ 11 0)) 2 (σ 11 1)) 3 (σ 11 2)) 4 (waterS σ)) 5 (σ 11 3)) 6 (wetN σ)))) hx hb hK hP hD hS 11 0 rfl rfl 6 (rfl) (by omega) (by decide) rfl dX2_digest_62 (fun H locs hP hD hS => ?_)
  refine lv_dup hx hb dX2_digest_63 rfl ?_
  refine lv_bipush (v := 7) hx hb dX2_digest_64 (by decide) ?_
  refine lv_aload_n hx hb dX2_digest_66 rfl (lv_at hl 0 rfl) ?_
  refine MC.callV (C := RX2) (T := TX2) (N := 14) (As := []) (rest := [.int 7, .ref t1, .ref t1]) (wB := (rC cI cZ o b σ κ ζ 0) ++ (tC cI t1 14 (upd (upd (upd (upd (upd (upd (upd (fun _ => 0) 0 (σ 11 4)) 1 (σ 11 0)) 2 (σ 11 1)) 3 (σ 11 2)) 4 (waterS σ)) 5 (σ 11 3)) 6 (wetN σ)))) (c_X2_lost l D cI cZ cL o b σ κ ζ 0 hst hB) ⟨hx, hb, hml, hown, hts⟩ q768 b_X2_lost (n := 0) (by decide +kernel) ⟨Nat.le_of_ble_eq_true rfl, Nat.le_of_ble_eq_true rfl⟩ hK hP hD hS hA (spF _ _) (spF _ _) (ci := 2) rfl (q0 := 0) rfl rfl hl.1 rfl (Nat.le_of_ble_eq_true rfl) dX2_digest_67 ⟨Nat.le_of_ble_eq_true rfl, Nat.le_of_ble_eq_true rfl⟩ (fun H locs hP hD hS => ?_)
  refine x_ist (ws2 := (rC cI cZ o b σ κ ζ 0) ++ (tC cI t1 14 (upd (upd (upd (upd (upd (upd (upd (upd (fun _ => 0) 0 (σ 11 4)) 1 (σ 11 0)) 2 (σ 11 1)) 3 (σ 11 2)) 4 (waterS σ)) 5 (σ 11 3)) 6 (wetN σ)) 7 (lost σ)))) hx hb hK hP hD hS 11 0 rfl rfl 7 (rfl) (by omega) (by decide) rfl dX2_digest_70 (fun H locs hP hD hS => ?_)
  refine lv_dup hx hb dX2_digest_71 rfl ?_
  refine lv_bipush (v := 8) hx hb dX2_digest_72 (by decide) ?_
  refine lv_aload_n hx hb dX2_digest_74 rfl (lv_at hl 0 rfl) ?_
  refine MC.callV (C := RX2) (T := TX2) (N := 14) (As := []) (rest := [.int 8, .ref t1, .ref t1]) (wB := (rC cI cZ o b σ κ ζ 0) ++ (tC cI t1 14 (upd (upd (upd (upd (upd (upd (upd (upd (fun _ => 0) 0 (σ 11 4)) 1 (σ 11 0)) 2 (σ 11 1)) 3 (σ 11 2)) 4 (waterS σ)) 5 (σ 11 3)) 6 (wetN σ)) 7 (lost σ)))) (c_X2_high l D cI cZ cL o b σ κ ζ 0 hst) ⟨hx, hb, hml, hown, hts⟩ q816 b_X2_high (n := 0) (by decide +kernel) ⟨Nat.le_of_ble_eq_true rfl, Nat.le_of_ble_eq_true rfl⟩ hK hP hD hS hA (spF _ _) (spF _ _) (ci := 2) rfl (q0 := 0) rfl rfl hl.1 rfl (Nat.le_of_ble_eq_true rfl) dX2_digest_75 ⟨Nat.le_of_ble_eq_true rfl, Nat.le_of_ble_eq_true rfl⟩ (fun H locs hP hD hS => ?_)
  refine x_ist (ws2 := (rC cI cZ o b σ κ ζ 0) ++ (tC cI t1 14 (upd (upd (upd (upd (upd (upd (upd (upd (upd (fun _ => 0) 0 (σ 11 4)) 1 (σ 11 0)) 2 (σ 11 1)) 3 (σ 11 2)) 4 (waterS σ)) 5 (σ 11 3)) 6 (wetN σ)) 7 (lost σ)) 8 (amax (fun q => σ 0 q + σ 2 q) (nF σ))))) hx hb hK hP hD hS 11 0 rfl rfl 8 (rfl) (by omega) (by decide) rfl dX2_digest_78 (fun H locs hP hD hS => ?_)
  refine lv_dup hx hb dX2_digest_79 rfl ?_
  refine lv_bipush (v := 9) hx hb dX2_digest_80 (by decide) ?_
  refine lv_aload_n hx hb dX2_digest_82 rfl (lv_at hl 0 rfl) ?_
  refine MC.callV (C := RX2) (T := TX2) (N := 14) (As := []) (rest := [.int 9, .ref t1, .ref t1]) (wB := (rC cI cZ o b σ κ ζ 0) ++ (tC cI t1 14 (upd (upd (upd (upd (upd (upd (upd (upd (upd (fun _ => 0) 0 (σ 11 4)) 1 (σ 11 0)) 2 (σ 11 1)) 3 (σ 11 2)) 4 (waterS σ)) 5 (σ 11 3)) 6 (wetN σ)) 7 (lost σ)) 8 (amax (fun q => σ 0 q + σ 2 q) (nF σ))))) (c_X2_busy l D cI cZ cL o b σ κ ζ 0 hst) ⟨hx, hb, hml, hown, hts⟩ q840 b_X2_busy (n := 0) (by decide +kernel) ⟨Nat.le_of_ble_eq_true rfl, Nat.le_of_ble_eq_true rfl⟩ hK hP hD hS hA (spF _ _) (spF _ _) (ci := 2) rfl (q0 := 0) rfl rfl hl.1 rfl (Nat.le_of_ble_eq_true rfl) dX2_digest_83 ⟨Nat.le_of_ble_eq_true rfl, Nat.le_of_ble_eq_true rfl⟩ (fun H locs hP hD hS => ?_)
  refine x_ist (ws2 := (rC cI cZ o b σ κ ζ 0) ++ (tC cI t1 14 (upd (upd (upd (upd (upd (upd (upd (upd (upd (upd (fun _ => 0) 0 (σ 11 4)) 1 (σ 11 0)) 2 (σ 11 1)) 3 (σ 11 2)) 4 (waterS σ)) 5 (σ 11 3)) 6 (wetN σ)) 7 (lost σ)) 8 (amax (fun q => σ 0 q + σ 2 q) (nF σ))) 9 (amax (fun q => σ 8 q) (nD σ))))) hx hb hK hP hD hS 11 0 rfl rfl 9 (rfl) (by omega) (by decide) rfl dX2_digest_86 (fun H locs hP hD hS => ?_)
  refine lv_dup hx hb dX2_digest_87 rfl ?_
  refine lv_bipush (v := 10) hx hb dX2_digest_88 (by decide) ?_
  refine lv_aload_n hx hb dX2_digest_90 rfl (lv_at hl 0 rfl) ?_
  refine lv_bipush (v := 12) hx hb dX2_digest_91 (by decide) ?_
  refine lv_iconst (v := (-1)) hx hb dX2_digest_93 (by decide) ?_
  refine lv_iconst (v := 0) hx hb dX2_digest_94 (by decide) ?_
  refine MC.callV (C := RX2) (T := TX2) (N := 14) (As := [.int 12, .int (-1), .int 0]) (rest := [.int 10, .ref t1, .ref t1]) (wB := (rC cI cZ o b σ (nowF σ) ζ 0) ++ (tC cI t1 14 (upd (upd (upd (upd (upd (upd (upd (upd (upd (upd (fun _ => 0) 0 (σ 11 4)) 1 (σ 11 0)) 2 (σ 11 1)) 3 (σ 11 2)) 4 (waterS σ)) 5 (σ 11 3)) 6 (wetN σ)) 7 (lost σ)) 8 (amax (fun q => σ 0 q + σ 2 q) (nF σ))) 9 (amax (fun q => σ 8 q) (nD σ))))) (c_X2_lostBehind_a l D cI cZ cL o b σ κ ζ 0 hst hB 12 (by omega) 0) ⟨hx, hb, hml, hown, hts⟩ q867 b_X2_lostBehind (n := 3) (by decide +kernel) ⟨Nat.le_of_ble_eq_true rfl, Nat.le_of_ble_eq_true rfl⟩ hK hP hD hS hA (spF _ _) (spF _ _) (ci := 2) rfl (q0 := 0) rfl rfl hl.1 rfl (Nat.le_of_ble_eq_true rfl) dX2_digest_95 ⟨Nat.le_of_ble_eq_true rfl, Nat.le_of_ble_eq_true rfl⟩ (fun H locs hP hD hS => ?_)
  refine x_ist (ws2 := (rC cI cZ o b σ (nowF σ) ζ 0) ++ (tC cI t1 14 (upd (upd (upd (upd (upd (upd (upd (upd (upd (upd (upd (fun _ => 0) 0 (σ 11 4)) 1 (σ 11 0)) 2 (σ 11 1)) 3 (σ 11 2)) 4 (waterS σ)) 5 (σ 11 3)) 6 (wetN σ)) 7 (lost σ)) 8 (amax (fun q => σ 0 q + σ 2 q) (nF σ))) 9 (amax (fun q => σ 8 q) (nD σ))) 10 (lossH 12 σ)))) hx hb hK hP hD hS 11 0 rfl rfl 10 (rfl) (by omega) (by decide) rfl dX2_digest_98 (fun H locs hP hD hS => ?_)
  refine lv_dup hx hb dX2_digest_99 rfl ?_
  refine lv_bipush (v := 11) hx hb dX2_digest_100 (by decide) ?_
  refine lv_aload_n hx hb dX2_digest_102 rfl (lv_at hl 0 rfl) ?_
  refine MC.callV (C := RX2) (T := TX2) (N := 14) (As := []) (rest := [.int 11, .ref t1, .ref t1]) (wB := (rC cI cZ o b σ (nowF σ) ζ 0) ++ (tC cI t1 14 (upd (upd (upd (upd (upd (upd (upd (upd (upd (upd (upd (fun _ => 0) 0 (σ 11 4)) 1 (σ 11 0)) 2 (σ 11 1)) 3 (σ 11 2)) 4 (waterS σ)) 5 (σ 11 3)) 6 (wetN σ)) 7 (lost σ)) 8 (amax (fun q => σ 0 q + σ 2 q) (nF σ))) 9 (amax (fun q => σ 8 q) (nD σ))) 10 (lossH 12 σ)))) (c_X2_turned l D cI cZ cL o b σ (nowF σ) ζ 0 hst hB (by omega)) ⟨hx, hb, hml, hown, hts⟩ q879 b_X2_turned (n := 0) (by decide +kernel) ⟨Nat.le_of_ble_eq_true rfl, Nat.le_of_ble_eq_true rfl⟩ hK hP hD hS hA (spF _ _) (spF _ _) (ci := 2) rfl (q0 := 0) rfl rfl hl.1 rfl (Nat.le_of_ble_eq_true rfl) dX2_digest_103 ⟨Nat.le_of_ble_eq_true rfl, Nat.le_of_ble_eq_true rfl⟩ (fun H locs hP hD hS => ?_)
  refine x_ist (ws2 := (rC cI cZ o b σ (nowF σ) ζ 0) ++ (tC cI t1 14 (upd (upd (upd (upd (upd (upd (upd (upd (upd (upd (upd (upd (fun _ => 0) 0 (σ 11 4)) 1 (σ 11 0)) 2 (σ 11 1)) 3 (σ 11 2)) 4 (waterS σ)) 5 (σ 11 3)) 6 (wetN σ)) 7 (lost σ)) 8 (amax (fun q => σ 0 q + σ 2 q) (nF σ))) 9 (amax (fun q => σ 8 q) (nD σ))) 10 (lossH 12 σ)) 11 (turnB σ)))) hx hb hK hP hD hS 11 0 rfl rfl 11 (rfl) (by omega) (by decide) rfl dX2_digest_106 (fun H locs hP hD hS => ?_)
  refine lv_dup hx hb dX2_digest_107 rfl ?_
  refine lv_bipush (v := 12) hx hb dX2_digest_108 (by decide) ?_
  refine lv_aload_n hx hb dX2_digest_110 rfl (lv_at hl 0 rfl) ?_
  refine lv_bipush (v := 10) hx hb dX2_digest_111 (by decide) ?_
  refine MC.callV (C := RX2) (T := TX2) (N := 14) (As := [.int 10]) (rest := [.int 12, .ref t1, .ref t1]) (wB := (rC cI cZ o b σ (kF (nowF σ) (nowF σ) n) ζ 0) ++ (tC cI t1 14 (upd (upd (upd (upd (upd (upd (upd (upd (upd (upd (upd (upd (fun _ => 0) 0 (σ 11 4)) 1 (σ 11 0)) 2 (σ 11 1)) 3 (σ 11 2)) 4 (waterS σ)) 5 (σ 11 3)) 6 (wetN σ)) 7 (lost σ)) 8 (amax (fun q => σ 0 q + σ 2 q) (nF σ))) 9 (amax (fun q => σ 8 q) (nD σ))) 10 (lossH 12 σ)) 11 (turnB σ)))) (c_X2_flooded l D cI cZ cL o b σ (nowF σ) ζ 0 hst hB (by omega) 10 (by decide)) ⟨hx, hb, hml, hown, hts⟩ q887 b_X2_flooded (n := 1) (by decide +kernel) ⟨Nat.le_of_ble_eq_true rfl, Nat.le_of_ble_eq_true rfl⟩ hK hP hD hS hA (spF _ _) (spF _ _) (ci := 2) rfl (q0 := 0) rfl rfl hl.1 rfl (Nat.le_of_ble_eq_true rfl) dX2_digest_113 ⟨Nat.le_of_ble_eq_true rfl, Nat.le_of_ble_eq_true rfl⟩ (fun H locs hP hD hS => ?_)
  refine x_ist (ws2 := (rC cI cZ o b σ (kF (nowF σ) (nowF σ) n) ζ 0) ++ (tC cI t1 14 (upd (upd (upd (upd (upd (upd (upd (upd (upd (upd (upd (upd (upd (fun _ => 0) 0 (σ 11 4)) 1 (σ 11 0)) 2 (σ 11 1)) 3 (σ 11 2)) 4 (waterS σ)) 5 (σ 11 3)) 6 (wetN σ)) 7 (lost σ)) 8 (amax (fun q => σ 0 q + σ 2 q) (nF σ))) 9 (amax (fun q => σ 8 q) (nD σ))) 10 (lossH 12 σ)) 11 (turnB σ)) 12 (floodB σ (nI 10))))) hx hb hK hP hD hS 11 0 rfl rfl 12 (rfl) (by omega) (by decide) rfl dX2_digest_116 (fun H locs hP hD hS => ?_)
  refine lv_dup hx hb dX2_digest_117 rfl ?_
  refine lv_bipush (v := 13) hx hb dX2_digest_118 (by decide) ?_
  refine lv_aload_n hx hb dX2_digest_120 rfl (lv_at hl 0 rfl) ?_
  rw [kF_same] at hP hD
  refine MC.callV (C := RX2) (T := TX2) (N := 14) (As := []) (rest := [.int 13, .ref t1, .ref t1]) (wB := (rC cI cZ o b σ (nowF σ) ζ 0) ++ (tC cI t1 14 (upd (upd (upd (upd (upd (upd (upd (upd (upd (upd (upd (upd (upd (fun _ => 0) 0 (σ 11 4)) 1 (σ 11 0)) 2 (σ 11 1)) 3 (σ 11 2)) 4 (waterS σ)) 5 (σ 11 3)) 6 (wetN σ)) 7 (lost σ)) 8 (amax (fun q => σ 0 q + σ 2 q) (nF σ))) 9 (amax (fun q => σ 8 q) (nD σ))) 10 (lossH 12 σ)) 11 (turnB σ)) 12 (floodB σ (nI 10))))) (c_X2_borne l D cI cZ cL o b σ (nowF σ) ζ 0 hst hB (by omega)) ⟨hx, hb, hml, hown, hts⟩ q895 b_X2_borne (n := 0) (by decide +kernel) ⟨Nat.le_of_ble_eq_true rfl, Nat.le_of_ble_eq_true rfl⟩ hK hP hD hS hA (spF _ _) (spF _ _) (ci := 2) rfl (q0 := 0) rfl rfl hl.1 rfl (Nat.le_of_ble_eq_true rfl) dX2_digest_121 ⟨Nat.le_of_ble_eq_true rfl, Nat.le_of_ble_eq_true rfl⟩ (fun H locs hP hD hS => ?_)
  refine x_ist (ws2 := (rC cI cZ o b σ (nowF σ) ζ 0) ++ (tC cI t1 14 (upd (upd (upd (upd (upd (upd (upd (upd (upd (upd (upd (upd (upd (upd (fun _ => 0) 0 (σ 11 4)) 1 (σ 11 0)) 2 (σ 11 1)) 3 (σ 11 2)) 4 (waterS σ)) 5 (σ 11 3)) 6 (wetN σ)) 7 (lost σ)) 8 (amax (fun q => σ 0 q + σ 2 q) (nF σ))) 9 (amax (fun q => σ 8 q) (nD σ))) 10 (lossH 12 σ)) 11 (turnB σ)) 12 (floodB σ (nI 10))) 13 (borneS σ)))) hx hb hK hP hD hS 11 0 rfl rfl 13 (rfl) (by omega) (by decide) rfl dX2_digest_124 (fun H locs hP hD hS => ?_)
  obtain ⟨hP, hD⟩ := kb_row (g := (fun j => [σ 11 4, σ 11 0, σ 11 1, σ 11 2, waterS σ, σ 11 3, wetN σ, lost σ, amax (fun q => σ 0 q + σ 2 q) (nF σ), amax (fun q => σ 8 q) (nD σ), lossH 12 σ, turnB σ, floodB σ (nI 10), borneS σ].getD j 0)) hP hD (k := 11) rfl (t14 _ _ _ _ _ _ _ _ _ _ _ _ _ _)
  have hP : va_P D vwCl ((rC cI cZ o b σ (nowF σ) ζ 0) ++ (tC cI t1 14 (fun j => [σ 11 4, σ 11 0, σ 11 1, σ 11 2, waterS σ, σ 11 3, wetN σ, lost σ, amax (fun q => σ 0 q + σ 2 q) (nF σ), amax (fun q => σ 8 q) (nD σ), lossH 12 σ, turnB σ, floodB σ (nI 10), borneS σ].getD j 0))) H := hP
  have hD : va_D A ((rC cI cZ o b σ (nowF σ) ζ 0) ++ (tC cI t1 14 (fun j => [σ 11 4, σ 11 0, σ 11 1, σ 11 2, waterS σ, σ 11 3, wetN σ, lost σ, amax (fun q => σ 0 q + σ 2 q) (nF σ), amax (fun q => σ 8 q) (nD σ), lossH 12 σ, turnB σ, floodB σ (nI 10), borneS σ].getD j 0))) := hD
  refine lv_astore_n (lv' := [(1, .ref t1), (0, .ref o)]) hx hb dX2_digest_125 rfl hl (by decide) rfl (fun ls hl => ?_)
  refine lv_ldc2 hx hb hown (hts _ q907) dX2_digest_126 ?_
  refine lv_lstore_n (lv' := [(2, .long 2341), (1, .ref t1), (0, .ref o)]) hx hb dX2_digest_129 rfl hl (by decide) rfl (fun ls hl => ?_)
  refine lv_aload_n hx hb dX2_digest_130 rfl (lv_at hl 1 rfl) ?_
  refine lv_astore (lv' := [(4, .ref t1), (2, .long 2341), (1, .ref t1), (0, .ref o)]) hx hb dX2_digest_131 hl (by decide) rfl (fun ls hl => ?_)
  refine lv_aload hx hb dX2_digest_133 (lv_at hl 0 rfl) ?_
  refine va_alen hx hb hK hP 11 0 rfl rfl (v := nI 14) rfl dX2_digest_135 ?_
  refine lv_istore (lv' := [(5, .int (nI 14)), (4, .ref t1), (2, .long 2341), (1, .ref t1), (0, .ref o)]) hx hb dX2_digest_136 hl (by decide) rfl (fun ls hl => ?_)
  refine lv_iconst (v := 0) hx hb dX2_digest_138 (by decide) ?_
  refine lv_istore (lv' := [(6, .int 0), (5, .int (nI 14)), (4, .ref t1), (2, .long 2341), (1, .ref t1), (0, .ref o)]) hx hb dX2_digest_139 hl (by decide) rfl (fun ls hl => ?_)
  have hl : lv_has ls 10 [(6, .int (nI 0)), (5, .int (nI 14)), (4, .ref t1), (2, .long (mxl (fun j => [σ 11 4, σ 11 0, σ 11 1, σ 11 2, waterS σ, σ 11 3, wetN σ, lost σ, amax (fun q => σ 0 q + σ 2 q) (nF σ), amax (fun q => σ 8 q) (nD σ), lossH 12 σ, turnB σ, floodB σ (nI 10), borneS σ].getD j 0) 2341 0)), (1, .ref t1), (0, .ref o)] := hl
  have L141 : ∀ (f q : Nat), q ≤ 14 → 14 < q + f → ∀ (H : Heap) (locs : List Loc) (ls : Array Slot), va_P D vwCl ((rC cI cZ o b σ (nowF σ) ζ 0) ++ (tC cI t1 14 (fun j => [σ 11 4, σ 11 0, σ 11 1, σ 11 2, waterS σ, σ 11 3, wetN σ, lost σ, amax (fun q => σ 0 q + σ 2 q) (nF σ), amax (fun q => σ 8 q) (nD σ), lossH 12 σ, turnB σ, floodB σ (nI 10), borneS σ].getD j 0))) H → va_D A ((rC cI cZ o b σ (nowF σ) ζ 0) ++ (tC cI t1 14 (fun j => [σ 11 4, σ 11 0, σ 11 1, σ 11 2, waterS σ, σ 11 3, wetN σ, lost σ, amax (fun q => σ 0 q + σ 2 q) (nF σ), amax (fun q => σ 8 q) (nD σ), lossH 12 σ, turnB σ, floodB σ (nI 10), borneS σ].getD j 0))) → va_S A s.heap H locs → lv_has ls 10 [(0, .ref o), (4, .ref t1), (5, .int (nI 14)), (2, .long (mxl (fun j => [σ 11 4, σ 11 0, σ 11 1, σ 11 2, waterS σ, σ 11 3, wetN σ, lost σ, amax (fun q => σ 0 q + σ 2 q) (nF σ), amax (fun q => σ 8 q) (nD σ), lossH 12 σ, turnB σ, floodB σ (nI 10), borneS σ].getD j 0) 2341 q)), (6, .int (nI q))] → W p l e rmX2_digest s m args below meth c H locs 1 14 Q (F0 m 141 ls []) := by
    intro f
    induction f with
    | zero => intro q h1 h2; exact absurd h2 (by omega)
    | succ f ih_141 =>
      intro q hi_141 hf_141 H locs ls hP hD hS hl
      refine lv_iload hx hb dX2_digest_141 (lv_at hl 4 rfl) ?_
      refine lv_iload hx hb dX2_digest_143 (lv_at hl 2 rfl) ?_
      refine lv_icmp_ge (tgt := 171) hx hb dX2_digest_145 (by decide) (fun c_145 => ?_) (fun c_145 => ?_)
      · have hc_145 : 14 ≤ q := (nI_leI (a := 14) (b := q) (by omega) (by omega)).mp c_145
        refine lv_iconst (v := 0) hx hb dX2_digest_171 (by decide) ?_
        refine lv_istore (lv' := [(4, .int 0), (0, .ref o), (5, .int (nI 14)), (2, .long (mxl (fun j => [σ 11 4, σ 11 0, σ 11 1, σ 11 2, waterS σ, σ 11 3, wetN σ, lost σ, amax (fun q => σ 0 q + σ 2 q) (nF σ), amax (fun q => σ 8 q) (nD σ), lossH 12 σ, turnB σ, floodB σ (nI 10), borneS σ].getD j 0) 2341 q)), (6, .int (nI q))]) hx hb dX2_digest_172 hl (by decide) rfl (fun ls hl => ?_)
        have h14 : q = 14 := by omega
        rw [h14, m14] at hl
        have hl : lv_has ls 10 [(4, .int (nI 0)), (0, .ref o), (5, .int (nI 14)), (2, .long (fldsD σ (headD σ) 0)), (6, .int (nI 14))] := hl
        obtain ⟨hP, hD⟩ := drop2 hP hD
        have hP : va_P D vwCl (rC cI cZ o b σ (nowF σ) (dgZ σ n ζ 0) 0) H := hP
        have hD : va_D A (rC cI cZ o b σ (nowF σ) (dgZ σ n ζ 0) 0) := hD
        have L174 : ∀ (f i : Nat), i ≤ n → n < i + f → ∀ (H : Heap) (locs : List Loc) (ls : Array Slot), va_P D vwCl (rC cI cZ o b σ (nowF σ) (dgZ σ n ζ i) 0) H → va_D A (rC cI cZ o b σ (nowF σ) (dgZ σ n ζ i) 0) → va_S A s.heap H locs → lv_has ls 10 [(0, .ref o), (2, .long (fldsD σ (headD σ) i)), (4, .int (nI i))] → W p l e rmX2_digest s m args below meth c H locs (1 + i) (14 + 6 * i) Q (F0 m 174 ls []) := by
          intro f
          induction f with
          | zero => intro i h1 h2; exact absurd h2 (by omega)
          | succ f ih_174 =>
            intro i hi_174 hf_174 H locs ls hP hD hS hl
            refine lv_iload hx hb dX2_digest_174 (lv_at hl 2 rfl) ?_
            refine lv_aload_n hx hb dX2_digest_176 rfl (lv_at hl 0 rfl) ?_
            refine x_get (C := RX2) (T := TX2) (N := 14) hx hb hts in_wsX20 hown hK hP 0 rfl rfl 1 (by decide) q593 (v := .int (nI n)) (congrArg (fun z => some (Value.int z)) (hst.f0)) dX2_digest_177 ?_
            refine lv_icmp_ge (tgt := 299) hx hb dX2_digest_180 (by decide) (fun c_180 => ?_) (fun c_180 => ?_)
            · have hc_180 : n ≤ i := (nI_leI (a := n) (b := i) (by omega) (by omega)).mp c_180
              refine lv_iconst (v := 0) hx hb dX2_digest_299 (by decide) ?_
              refine lv_istore (lv' := [(4, .int 0), (0, .ref o), (2, .long (fldsD σ (headD σ) i))]) hx hb dX2_digest_300 hl (by decide) rfl (fun ls hl => ?_)
              have hin : i = n := by omega
              rw [hin] at hl hP hD
              have hl : lv_has ls 10 [(4, .int (nI 0)), (0, .ref o), (2, .long (drnsD σ (fldsD σ (headD σ) n) 0))] := hl
              refine W.wide (k := 11) (n := 74) (by omega) (by omega) ?_
              have L302 : ∀ (f j : Nat), j ≤ k → k < j + f → ∀ (H : Heap) (locs : List Loc) (ls : Array Slot), va_P D vwCl (rC cI cZ o b σ (nowF σ) (dgZ σ n ζ n) 0) H → va_D A (rC cI cZ o b σ (nowF σ) (dgZ σ n ζ n) 0) → va_S A s.heap H locs → lv_has ls 10 [(0, .ref o), (2, .long (drnsD σ (fldsD σ (headD σ) n) j)), (4, .int (nI j))] → W p l e rmX2_digest s m args below meth c H locs 11 74 Q (F0 m 302 ls []) := by
                intro f
                induction f with
                | zero => intro j h1 h2; exact absurd h2 (by omega)
                | succ f ih_302 =>
                  intro j hi_302 hf_302 H locs ls hP hD hS hl
                  refine lv_iload hx hb dX2_digest_302 (lv_at hl 2 rfl) ?_
                  refine lv_aload_n hx hb dX2_digest_304 rfl (lv_at hl 0 rfl) ?_
                  refine x_get (C := RX2) (T := TX2) (N := 14) hx hb hts in_wsX20 hown hK hP 0 rfl rfl 2 (by decide) q594 (v := .int (nI k)) (congrArg (fun z => some (Value.int z)) (hst.f1)) dX2_digest_305 ?_
                  refine lv_icmp_ge (tgt := 371) hx hb dX2_digest_308 (by decide) (fun c_308 => ?_) (fun c_308 => ?_)
                  · have hc_308 : k ≤ j := (nI_leI (a := k) (b := j) (by omega) (by omega)).mp c_308
                    refine lv_lload_n hx hb dX2_digest_371 rfl (lv_at hl 1 rfl) ?_
                    subst hQ
                    exact rl hx hb hr hlocks hK hP hD hS dX2_digest_372 (rfl) (by unfold digS; rw [hst.eF, hst.eD, show j = k by omega])
                  · have hc_308 : j < k := Nat.not_le.mp (fun z => c_308 ((nI_leI (a := k) (b := j) (by omega) (by omega)).mpr z))
                    refine lv_lload_n hx hb dX2_digest_311 rfl (lv_at hl 1 rfl) ?_
                    refine lv_ldc2 hx hb hown (hts _ q908) dX2_digest_312 ?_
                    refine lv_lmul hx hb dX2_digest_315 ?_
                    refine lv_aload_n hx hb dX2_digest_316 rfl (lv_at hl 0 rfl) ?_
                    refine x_get (C := RX2) (T := TX2) (N := 14) hx hb hts in_wsX20 hown hK hP 0 rfl rfl 10 (by decide) q602 (v := .ref (b 6)) rfl dX2_digest_317 ?_
                    refine lv_iload hx hb dX2_digest_320 (lv_at hl 2 rfl) ?_
                    refine x_zld hx hb hK hP 7 1 rfl rfl j (rfl) (by omega) (by decide) (v := σ 10 j) rfl dX2_digest_322 ?_
                    have J331_1 : W p l e rmX2_digest s m args below meth c H locs 11 74 Q (F0 m 331 ls [.int (σ 10 j), .long ((drnsD σ (fldsD σ (headD σ) n) j) * 31)]) := by
                      refine lv_i2l hx hb dX2_digest_331 rfl ?_
                      refine lv_ladd hx hb dX2_digest_332 ?_
                      refine lv_ldc2 hx hb hown (hts _ q908) dX2_digest_333 ?_
                      refine lv_lmul hx hb dX2_digest_336 ?_
                      refine lv_aload_n hx hb dX2_digest_337 rfl (lv_at hl 0 rfl) ?_
                      refine x_get (C := RX2) (T := TX2) (N := 14) hx hb hts in_wsX20 hown hK hP 0 rfl rfl 11 (by decide) q603 (v := .ref (b 7)) rfl dX2_digest_338 ?_
                      refine lv_bipush (v := 32) hx hb dX2_digest_341 (by decide) ?_
                      refine lv_iload hx hb dX2_digest_343 (lv_at hl 2 rfl) ?_
                      refine lv_iadd hx hb dX2_digest_345 ?_
                      refine x_ild hx hb hK hP 8 0 rfl rfl (32 + j) (nI_add 32 j) (by omega) (by decide) (v := σ 8 j) (nw_32 σ j) dX2_digest_346 ?_
                      refine lv_i2l hx hb dX2_digest_347 rfl ?_
                      refine lv_ladd hx hb dX2_digest_348 ?_
                      refine lv_ldc2 hx hb hown (hts _ q908) dX2_digest_349 ?_
                      refine lv_lmul hx hb dX2_digest_352 ?_
                      refine lv_aload_n hx hb dX2_digest_353 rfl (lv_at hl 0 rfl) ?_
                      refine lv_iload hx hb dX2_digest_354 (lv_at hl 2 rfl) ?_
                      refine MC.callV (C := RX2) (T := TX2) (N := 14) (As := [.int (nI j)]) (rest := [.long ((((((drnsD σ (fldsD σ (headD σ) n) j) * 31) + ((σ 10 j).toInt64)) * 31) + ((σ 8 j).toInt64)) * 31)]) (wB := rC cI cZ o b σ (nowF σ) (dgZ σ n ζ n) 0) (c_X2_flow l D cI cZ cL o b σ (nowF σ) (dgZ σ n ζ n) 0 hst hB (by omega) j (by omega)) ⟨hx, hb, hml, hown, hts⟩ q710 b_X2_flow (n := 1) (by decide +kernel) ⟨Nat.le_of_ble_eq_true rfl, Nat.le_of_ble_eq_true rfl⟩ hK hP hD hS hA (sp0 _) (sp0 _) (ci := 2) rfl (q0 := 0) rfl rfl hl.1 rfl (Nat.le_of_ble_eq_true rfl) dX2_digest_356 ⟨Nat.le_of_ble_eq_true rfl, Nat.le_of_ble_eq_true rfl⟩ (fun H locs hP hD hS => ?_)
                      refine va_mabs hx hb (by rw [hml]; exact hl.1.symm) hown (hts _ q719) (hts _ q235) (hts _ q47) (hts _ q236) (by decide) (Nat.le_of_ble_eq_true rfl) (Nat.le_of_ble_eq_true rfl) (Nat.le_of_ble_eq_true rfl) dX2_digest_359 ?_
                      refine x_top (show _ = ab (flow σ j) from rfl) ?_
                      refine lv_i2l hx hb dX2_digest_362 rfl ?_
                      refine lv_ladd hx hb dX2_digest_363 ?_
                      refine lv_lstore_n (lv' := [(2, .long (((((((drnsD σ (fldsD σ (headD σ) n) j) * 31) + ((σ 10 j).toInt64)) * 31) + ((σ 8 j).toInt64)) * 31) + ((ab (flow σ j)).toInt64))), (0, .ref o), (4, .int (nI j))]) hx hb dX2_digest_364 rfl hl (by decide) rfl (fun ls hl => ?_)
                      refine lv_iinc (v := (nI (j + 1))) (lv' := [(4, .int (nI (j + 1))), (2, .long (((((((drnsD σ (fldsD σ (headD σ) n) j) * 31) + ((σ 10 j).toInt64)) * 31) + ((σ 8 j).toInt64)) * 31) + ((ab (flow σ j)).toInt64))), (0, .ref o)]) hx hb dX2_digest_365 hl (k := 2) rfl (nI_add j 1) (by decide) rfl (fun ls hl => ?_)
                      refine lv_goto (tgt := 302) hx hb dX2_digest_368 (by decide) ?_
                      have hl : lv_has ls 10 [(4, .int (nI (j + 1))), (2, .long (drnsD σ (fldsD σ (headD σ) n) (j + 1))), (0, .ref o)] := hl
                      exact ih_302 (j + 1) (by omega) (by omega) _ _ _ hP hD hS (lv_sub hl [2, 1, 0] rfl)
                    refine lv_if_eq (tgt := 330) hx hb dX2_digest_323 (by decide) (fun c_323 => ?_) (fun c_323 => ?_)
                    · refine lv_iconst (v := 0) hx hb dX2_digest_330 (by decide) ?_
                      exact x_top (show 0 = σ 10 j from c_323.symm) J331_1
                    · refine lv_iconst (v := 1) hx hb dX2_digest_326 (by decide) ?_
                      refine lv_goto (tgt := 331) hx hb dX2_digest_327 (by decide) ?_
                      exact x_top (show 1 = σ 10 j from ((hB.2.2.2.2.2.2 j (by omega)).resolve_left c_323).symm) J331_1
              exact L302 (k + 1) 0 (by omega) (by omega) _ _ _ hP hD hS (lv_sub hl [1, 2, 0] rfl)
            · have hc_180 : i < n := Nat.not_le.mp (fun z => c_180 ((nI_leI (a := n) (b := i) (by omega) (by omega)).mpr z))
              refine lv_bipush (v := 6) hx hb dX2_digest_183 (by decide) ?_
              refine x_new (atype := .int) (ty := .int) rfl rfl ra_int hx hb (hts _ q126) hK hP hD hS hA 0 rfl (N' := 6) (by decide) (by decide) (by decide) (by show 1 + i + 1 ≤ 11; omega) (by show 14 + 6 * i + 6 ≤ 74; omega) dX2_digest_185 (fun t2 H hP hD hS => ?_)
              have hP : va_P D vwCl ((rC cI cZ o b σ (nowF σ) (dgZ σ n ζ i) 0) ++ (tC cI t2 6 (fun _ => 0))) H := hP
              have hD : va_D A ((rC cI cZ o b σ (nowF σ) (dgZ σ n ζ i) 0) ++ (tC cI t2 6 (fun _ => 0))) := hD
              refine W.wide (k := 2 + i) (n := 20 + 6 * i) (by omega) (by omega) ?_
              refine lv_dup hx hb dX2_digest_187 rfl ?_
              refine lv_iconst (v := 0) hx hb dX2_digest_188 (by decide) ?_
              refine lv_aload_n hx hb dX2_digest_189 rfl (lv_at hl 0 rfl) ?_
              refine lv_iload hx hb dX2_digest_190 (lv_at hl 2 rfl) ?_
              refine MC.callV (C := RX2) (T := TX2) (N := 14) (As := [.int (nI i)]) (rest := [.int 0, .ref t2, .ref t2]) (wB := (rC cI cZ o b σ (nowF σ) (dgZ σ n ζ i) 0) ++ (tC cI t2 6 (fun _ => 0))) (c_X2_water l D cI cZ cL o b σ (nowF σ) (dgZ σ n ζ i) 0 i (by omega)) ⟨hx, hb, hml, hown, hts⟩ q686 b_X2_water (n := 1) (by decide +kernel) ⟨Nat.le_of_ble_eq_true rfl, Nat.le_of_ble_eq_true rfl⟩ hK hP hD hS hA (spF _ _) (spF _ _) (ci := 2) rfl (q0 := 0) rfl rfl hl.1 rfl (Nat.le_of_ble_eq_true rfl) dX2_digest_192 ⟨by show 2 + i ≤ 11; omega, by show 20 + 6 * i ≤ 74; omega⟩ (fun H locs hP hD hS => ?_)
              refine x_ist (ws2 := (rC cI cZ o b σ (nowF σ) (dgZ σ n ζ i) 0) ++ (tC cI t2 6 (upd (fun _ => 0) 0 (σ 2 i)))) hx hb hK hP hD hS 11 0 rfl rfl 0 (rfl) (by omega) (by decide) rfl dX2_digest_195 (fun H locs hP hD hS => ?_)
              refine lv_dup hx hb dX2_digest_196 rfl ?_
              refine lv_iconst (v := 1) hx hb dX2_digest_197 (by decide) ?_
              refine lv_aload_n hx hb dX2_digest_198 rfl (lv_at hl 0 rfl) ?_
              refine x_get (C := RX2) (T := TX2) (N := 14) hx hb hts in_wsX20 hown hK hP 0 rfl rfl 11 (by decide) q603 (v := .ref (b 7)) rfl dX2_digest_199 ?_
              refine lv_bipush (v := 12) hx hb dX2_digest_202 (by decide) ?_
              refine lv_iload hx hb dX2_digest_204 (lv_at hl 2 rfl) ?_
              refine lv_iadd hx hb dX2_digest_206 ?_
              refine x_ild hx hb hK hP 8 0 rfl rfl (12 + i) (nI_add 12 i) (by omega) (by decide) (v := σ 3 i) (nw_12 σ (by omega)) dX2_digest_207 ?_
              refine x_ist (ws2 := (rC cI cZ o b σ (nowF σ) (dgZ σ n ζ i) 0) ++ (tC cI t2 6 (upd (upd (fun _ => 0) 0 (σ 2 i)) 1 (σ 3 i)))) hx hb hK hP hD hS 11 0 rfl rfl 1 (rfl) (by omega) (by decide) rfl dX2_digest_208 (fun H locs hP hD hS => ?_)
              refine lv_dup hx hb dX2_digest_209 rfl ?_
              refine lv_iconst (v := 2) hx hb dX2_digest_210 (by decide) ?_
              refine lv_aload_n hx hb dX2_digest_211 rfl (lv_at hl 0 rfl) ?_
              refine x_get (C := RX2) (T := TX2) (N := 14) hx hb hts in_wsX20 hown hK hP 0 rfl rfl 11 (by decide) q603 (v := .ref (b 7)) rfl dX2_digest_212 ?_
              refine lv_bipush (v := 22) hx hb dX2_digest_215 (by decide) ?_
              refine lv_iload hx hb dX2_digest_217 (lv_at hl 2 rfl) ?_
              refine lv_iadd hx hb dX2_digest_219 ?_
              refine x_ild hx hb hK hP 8 0 rfl rfl (22 + i) (nI_add 22 i) (by omega) (by decide) (v := σ 4 i) (nw_22 σ (by omega)) dX2_digest_220 ?_
              refine x_ist (ws2 := (rC cI cZ o b σ (nowF σ) (dgZ σ n ζ i) 0) ++ (tC cI t2 6 (upd (upd (upd (fun _ => 0) 0 (σ 2 i)) 1 (σ 3 i)) 2 (σ 4 i)))) hx hb hK hP hD hS 11 0 rfl rfl 2 (rfl) (by omega) (by decide) rfl dX2_digest_221 (fun H locs hP hD hS => ?_)
              refine lv_dup hx hb dX2_digest_222 rfl ?_
              refine lv_iconst (v := 3) hx hb dX2_digest_223 (by decide) ?_
              refine lv_aload_n hx hb dX2_digest_224 rfl (lv_at hl 0 rfl) ?_
              refine lv_iload hx hb dX2_digest_225 (lv_at hl 2 rfl) ?_
              refine MC.callV (C := RX2) (T := TX2) (N := 14) (As := [.int (nI i)]) (rest := [.int 3, .ref t2, .ref t2]) (wB := (rC cI cZ o b σ (nowF σ) (dgZ σ n ζ i) 0) ++ (tC cI t2 6 (upd (upd (upd (fun _ => 0) 0 (σ 2 i)) 1 (σ 3 i)) 2 (σ 4 i)))) (c_X2_openAt l D cI cZ cL o b σ (nowF σ) (dgZ σ n ζ i) 0 hst i (by omega)) ⟨hx, hb, hml, hown, hts⟩ q796 b_X2_openAt (n := 1) (by decide +kernel) ⟨Nat.le_of_ble_eq_true rfl, Nat.le_of_ble_eq_true rfl⟩ hK hP hD hS hA (spF _ _) (spF _ _) (ci := 2) rfl (q0 := 0) rfl rfl hl.1 rfl (Nat.le_of_ble_eq_true rfl) dX2_digest_227 ⟨by show 2 + i ≤ 11; omega, by show 20 + 6 * i ≤ 74; omega⟩ (fun H locs hP hD hS => ?_)
              refine x_ist (ws2 := (rC cI cZ o b σ (nowF σ) (dgZ σ n ζ i) 0) ++ (tC cI t2 6 (upd (upd (upd (upd (fun _ => 0) 0 (σ 2 i)) 1 (σ 3 i)) 2 (σ 4 i)) 3 (openS σ i)))) hx hb hK hP hD hS 11 0 rfl rfl 3 (rfl) (by omega) (by decide) rfl dX2_digest_230 (fun H locs hP hD hS => ?_)
              refine lv_dup hx hb dX2_digest_231 rfl ?_
              refine lv_iconst (v := 4) hx hb dX2_digest_232 (by decide) ?_
              refine lv_aload_n hx hb dX2_digest_233 rfl (lv_at hl 0 rfl) ?_
              refine lv_iload hx hb dX2_digest_234 (lv_at hl 2 rfl) ?_
              refine MC.callV (C := RX2) (T := TX2) (N := 14) (As := [.int (nI i)]) (rest := [.int 4, .ref t2, .ref t2]) (wB := (rC cI cZ o b σ (nowF σ) (dgZ σ n ζ (i + 1)) 0) ++ (tC cI t2 6 (upd (upd (upd (upd (fun _ => 0) 0 (σ 2 i)) 1 (σ 3 i)) 2 (σ 4 i)) 3 (openS σ i)))) (c_X2_spread l D cI cZ cL o b σ (nowF σ) (dgZ σ n ζ i) 0 hst i (by omega)) ⟨hx, hb, hml, hown, hts⟩ q804 b_X2_spread (n := 1) (by decide +kernel) ⟨Nat.le_of_ble_eq_true rfl, Nat.le_of_ble_eq_true rfl⟩ hK hP hD hS hA (spF _ _) (spF _ _) (ci := 2) rfl (q0 := 0) rfl rfl hl.1 rfl (Nat.le_of_ble_eq_true rfl) dX2_digest_236 ⟨by show 2 + i ≤ 11; omega, by show 20 + 6 * i ≤ 74; omega⟩ (fun H locs hP hD hS => ?_)
              refine x_ist (ws2 := (rC cI cZ o b σ (nowF σ) (dgZ σ n ζ (i + 1)) 0) ++ (tC cI t2 6 (upd (upd (upd (upd (upd (fun _ => 0) 0 (σ 2 i)) 1 (σ 3 i)) 2 (σ 4 i)) 3 (openS σ i)) 4 (reachS σ i)))) hx hb hK hP hD hS 11 0 rfl rfl 4 (rfl) (by omega) (by decide) rfl dX2_digest_239 (fun H locs hP hD hS => ?_)
              refine lv_dup hx hb dX2_digest_240 rfl ?_
              refine lv_iconst (v := 5) hx hb dX2_digest_241 (by decide) ?_
              refine lv_aload_n hx hb dX2_digest_242 rfl (lv_at hl 0 rfl) ?_
              refine lv_iload hx hb dX2_digest_243 (lv_at hl 2 rfl) ?_
              refine MC.callV (C := RX2) (T := TX2) (N := 14) (As := [.int (nI i)]) (rest := [.int 5, .ref t2, .ref t2]) (wB := (rC cI cZ o b σ (nowF σ) (dgZ σ n ζ (i + 1)) 0) ++ (tC cI t2 6 (upd (upd (upd (upd (upd (fun _ => 0) 0 (σ 2 i)) 1 (σ 3 i)) 2 (σ 4 i)) 3 (openS σ i)) 4 (reachS σ i)))) (c_X2_until l D cI cZ cL o b σ (nowF σ) (dgZ σ n ζ (i + 1)) 0 hst hB hB2 i (by omega)) ⟨hx, hb, hml, hown, hts⟩ q848 b_X2_until (n := 1) (by decide +kernel) ⟨Nat.le_of_ble_eq_true rfl, Nat.le_of_ble_eq_true rfl⟩ hK hP hD hS hA (spF _ _) (spF _ _) (ci := 2) rfl (q0 := 0) rfl rfl hl.1 rfl (Nat.le_of_ble_eq_true rfl) dX2_digest_245 ⟨by show 2 + i ≤ 11; omega, by show 20 + 6 * i ≤ 74; omega⟩ (fun H locs hP hD hS => ?_)
              refine x_ist (ws2 := (rC cI cZ o b σ (nowF σ) (dgZ σ n ζ (i + 1)) 0) ++ (tC cI t2 6 (upd (upd (upd (upd (upd (upd (fun _ => 0) 0 (σ 2 i)) 1 (σ 3 i)) 2 (σ 4 i)) 3 (openS σ i)) 4 (reachS σ i)) 5 (untilS σ i)))) hx hb hK hP hD hS 11 0 rfl rfl 5 (rfl) (by omega) (by decide) rfl dX2_digest_248 (fun H locs hP hD hS => ?_)
              obtain ⟨hP, hD⟩ := kb_row (g := (fun j => [σ 2 i, σ 3 i, σ 4 i, openS σ i, reachS σ i, untilS σ i].getD j 0)) hP hD (k := 11) rfl (t6 _ _ _ _ _ _)
              have hP : va_P D vwCl ((rC cI cZ o b σ (nowF σ) (dgZ σ n ζ (i + 1)) 0) ++ (tC cI t2 6 (fun j => [σ 2 i, σ 3 i, σ 4 i, openS σ i, reachS σ i, untilS σ i].getD j 0))) H := hP
              have hD : va_D A ((rC cI cZ o b σ (nowF σ) (dgZ σ n ζ (i + 1)) 0) ++ (tC cI t2 6 (fun j => [σ 2 i, σ 3 i, σ 4 i, openS σ i, reachS σ i, untilS σ i].getD j 0))) := hD
              refine lv_astore (lv' := [(5, .ref t2), (0, .ref o), (2, .long (fldsD σ (headD σ) i)), (4, .int (nI i))]) hx hb dX2_digest_249 hl (by decide) rfl (fun ls hl => ?_)
              refine lv_aload hx hb dX2_digest_251 (lv_at hl 0 rfl) ?_
              refine lv_astore (lv' := [(6, .ref t2), (5, .ref t2), (0, .ref o), (2, .long (fldsD σ (headD σ) i)), (4, .int (nI i))]) hx hb dX2_digest_253 hl (by decide) rfl (fun ls hl => ?_)
              refine lv_aload hx hb dX2_digest_255 (lv_at hl 0 rfl) ?_
              refine va_alen hx hb hK hP 11 0 rfl rfl (v := nI 6) rfl dX2_digest_257 ?_
              refine lv_istore (lv' := [(7, .int (nI 6)), (6, .ref t2), (5, .ref t2), (0, .ref o), (2, .long (fldsD σ (headD σ) i)), (4, .int (nI i))]) hx hb dX2_digest_258 hl (by decide) rfl (fun ls hl => ?_)
              refine lv_iconst (v := 0) hx hb dX2_digest_260 (by decide) ?_
              refine lv_istore (lv' := [(8, .int 0), (7, .int (nI 6)), (6, .ref t2), (5, .ref t2), (0, .ref o), (2, .long (fldsD σ (headD σ) i)), (4, .int (nI i))]) hx hb dX2_digest_261 hl (by decide) rfl (fun ls hl => ?_)
              have hl : lv_has ls 10 [(8, .int (nI 0)), (7, .int (nI 6)), (6, .ref t2), (5, .ref t2), (0, .ref o), (2, .long (mxl (fun j => [σ 2 i, σ 3 i, σ 4 i, openS σ i, reachS σ i, untilS σ i].getD j 0) (fldsD σ (headD σ) i) 0)), (4, .int (nI i))] := hl
              have L263 : ∀ (f q : Nat), q ≤ 6 → 6 < q + f → ∀ (H : Heap) (locs : List Loc) (ls : Array Slot), va_P D vwCl ((rC cI cZ o b σ (nowF σ) (dgZ σ n ζ (i + 1)) 0) ++ (tC cI t2 6 (fun j => [σ 2 i, σ 3 i, σ 4 i, openS σ i, reachS σ i, untilS σ i].getD j 0))) H → va_D A ((rC cI cZ o b σ (nowF σ) (dgZ σ n ζ (i + 1)) 0) ++ (tC cI t2 6 (fun j => [σ 2 i, σ 3 i, σ 4 i, openS σ i, reachS σ i, untilS σ i].getD j 0))) → va_S A s.heap H locs → lv_has ls 10 [(0, .ref o), (4, .int (nI i)), (6, .ref t2), (7, .int (nI 6)), (2, .long (mxl (fun j => [σ 2 i, σ 3 i, σ 4 i, openS σ i, reachS σ i, untilS σ i].getD j 0) (fldsD σ (headD σ) i) q)), (8, .int (nI q))] → W p l e rmX2_digest s m args below meth c H locs (2 + i) (20 + 6 * i) Q (F0 m 263 ls []) := by
                intro f
                induction f with
                | zero => intro q h1 h2; exact absurd h2 (by omega)
                | succ f ih_263 =>
                  intro q hi_263 hf_263 H locs ls hP hD hS hl
                  refine lv_iload hx hb dX2_digest_263 (lv_at hl 5 rfl) ?_
                  refine lv_iload hx hb dX2_digest_265 (lv_at hl 3 rfl) ?_
                  refine lv_icmp_ge (tgt := 293) hx hb dX2_digest_267 (by decide) (fun c_267 => ?_) (fun c_267 => ?_)
                  · have hc_267 : 6 ≤ q := (nI_leI (a := 6) (b := q) (by omega) (by omega)).mp c_267
                    refine lv_iinc (v := (nI (i + 1))) (lv' := [(4, .int (nI (i + 1))), (0, .ref o), (6, .ref t2), (7, .int (nI 6)), (2, .long (mxl (fun j => [σ 2 i, σ 3 i, σ 4 i, openS σ i, reachS σ i, untilS σ i].getD j 0) (fldsD σ (headD σ) i) q)), (8, .int (nI q))]) hx hb dX2_digest_293 hl (k := 1) rfl (nI_add i 1) (by decide) rfl (fun ls hl => ?_)
                    refine lv_goto (tgt := 174) hx hb dX2_digest_296 (by decide) ?_
                    have h6 : q = 6 := by omega
                    rw [h6, m6] at hl
                    have hl : lv_has ls 10 [(4, .int (nI (i + 1))), (0, .ref o), (6, .ref t2), (7, .int (nI 6)), (2, .long (fldsD σ (headD σ) (i + 1))), (8, .int (nI 6))] := hl
                    obtain ⟨hP, hD⟩ := drop2 hP hD
                    refine W.wide (k := 1 + (i + 1)) (n := 14 + 6 * (i + 1)) (by omega) (by omega) ?_
                    exact ih_174 (i + 1) (by omega) (by omega) _ _ _ hP hD hS (lv_sub hl [1, 4, 0] rfl)
                  · have hc_267 : q < 6 := Nat.not_le.mp (fun z => c_267 ((nI_leI (a := 6) (b := q) (by omega) (by omega)).mpr z))
                    refine lv_aload hx hb dX2_digest_270 (lv_at hl 2 rfl) ?_
                    refine lv_iload hx hb dX2_digest_272 (lv_at hl 5 rfl) ?_
                    refine x_ild hx hb hK hP 11 0 rfl rfl q (rfl) (by omega) (by decide) (v := (fun j => [σ 2 i, σ 3 i, σ 4 i, openS σ i, reachS σ i, untilS σ i].getD j 0) q) rfl dX2_digest_274 ?_
                    refine lv_istore (lv' := [(9, .int ((fun j => [σ 2 i, σ 3 i, σ 4 i, openS σ i, reachS σ i, untilS σ i].getD j 0) q)), (0, .ref o), (4, .int (nI i)), (6, .ref t2), (7, .int (nI 6)), (2, .long (mxl (fun j => [σ 2 i, σ 3 i, σ 4 i, openS σ i, reachS σ i, untilS σ i].getD j 0) (fldsD σ (headD σ) i) q)), (8, .int (nI q))]) hx hb dX2_digest_275 hl (by decide) rfl (fun ls hl => ?_)
                    refine lv_lload_n hx hb dX2_digest_277 rfl (lv_at hl 5 rfl) ?_
                    refine lv_ldc2 hx hb hown (hts _ q908) dX2_digest_278 ?_
                    refine lv_lmul hx hb dX2_digest_281 ?_
                    refine lv_iload hx hb dX2_digest_282 (lv_at hl 0 rfl) ?_
                    refine lv_i2l hx hb dX2_digest_284 rfl ?_
                    refine lv_ladd hx hb dX2_digest_285 ?_
                    refine lv_lstore_n (lv' := [(2, .long (((mxl (fun j => [σ 2 i, σ 3 i, σ 4 i, openS σ i, reachS σ i, untilS σ i].getD j 0) (fldsD σ (headD σ) i) q) * 31) + (((fun j => [σ 2 i, σ 3 i, σ 4 i, openS σ i, reachS σ i, untilS σ i].getD j 0) q).toInt64))), (9, .int ((fun j => [σ 2 i, σ 3 i, σ 4 i, openS σ i, reachS σ i, untilS σ i].getD j 0) q)), (0, .ref o), (4, .int (nI i)), (6, .ref t2), (7, .int (nI 6)), (8, .int (nI q))]) hx hb dX2_digest_286 rfl hl (by decide) rfl (fun ls hl => ?_)
                    refine lv_iinc (v := (nI (q + 1))) (lv' := [(8, .int (nI (q + 1))), (2, .long (((mxl (fun j => [σ 2 i, σ 3 i, σ 4 i, openS σ i, reachS σ i, untilS σ i].getD j 0) (fldsD σ (headD σ) i) q) * 31) + (((fun j => [σ 2 i, σ 3 i, σ 4 i, openS σ i, reachS σ i, untilS σ i].getD j 0) q).toInt64))), (9, .int ((fun j => [σ 2 i, σ 3 i, σ 4 i, openS σ i, reachS σ i, untilS σ i].getD j 0) q)), (0, .ref o), (4, .int (nI i)), (6, .ref t2), (7, .int (nI 6))]) hx hb dX2_digest_287 hl (k := 6) rfl (nI_add q 1) (by decide) rfl (fun ls hl => ?_)
                    refine lv_goto (tgt := 263) hx hb dX2_digest_290 (by decide) ?_
                    have hl : lv_has ls 10 [(8, .int (nI (q + 1))), (2, .long (mxl (fun j => [σ 2 i, σ 3 i, σ 4 i, openS σ i, reachS σ i, untilS σ i].getD j 0) (fldsD σ (headD σ) i) (q + 1))), (9, .int ((fun j => [σ 2 i, σ 3 i, σ 4 i, openS σ i, reachS σ i, untilS σ i].getD j 0) q)), (0, .ref o), (4, .int (nI i)), (6, .ref t2), (7, .int (nI 6))] := hl
                    exact ih_263 (q + 1) (by omega) (by omega) _ _ _ hP hD hS (lv_sub hl [3, 4, 5, 6, 1, 0] rfl)
              exact L263 (6 + 1) 0 (by omega) (by omega) _ _ _ hP hD hS (lv_sub hl [4, 6, 2, 1, 5, 0] rfl)
        exact L174 (n + 1) 0 (by omega) (by omega) _ _ _ hP hD hS (lv_sub hl [1, 3, 0] rfl)
      · have hc_145 : q < 14 := Nat.not_le.mp (fun z => c_145 ((nI_leI (a := 14) (b := q) (by omega) (by omega)).mpr z))
        refine lv_aload hx hb dX2_digest_148 (lv_at hl 1 rfl) ?_
        refine lv_iload hx hb dX2_digest_150 (lv_at hl 4 rfl) ?_
        refine x_ild hx hb hK hP 11 0 rfl rfl q (rfl) (by omega) (by decide) (v := (fun j => [σ 11 4, σ 11 0, σ 11 1, σ 11 2, waterS σ, σ 11 3, wetN σ, lost σ, amax (fun q => σ 0 q + σ 2 q) (nF σ), amax (fun q => σ 8 q) (nD σ), lossH 12 σ, turnB σ, floodB σ (nI 10), borneS σ].getD j 0) q) rfl dX2_digest_152 ?_
        refine lv_istore (lv' := [(7, .int ((fun j => [σ 11 4, σ 11 0, σ 11 1, σ 11 2, waterS σ, σ 11 3, wetN σ, lost σ, amax (fun q => σ 0 q + σ 2 q) (nF σ), amax (fun q => σ 8 q) (nD σ), lossH 12 σ, turnB σ, floodB σ (nI 10), borneS σ].getD j 0) q)), (0, .ref o), (4, .ref t1), (5, .int (nI 14)), (2, .long (mxl (fun j => [σ 11 4, σ 11 0, σ 11 1, σ 11 2, waterS σ, σ 11 3, wetN σ, lost σ, amax (fun q => σ 0 q + σ 2 q) (nF σ), amax (fun q => σ 8 q) (nD σ), lossH 12 σ, turnB σ, floodB σ (nI 10), borneS σ].getD j 0) 2341 q)), (6, .int (nI q))]) hx hb dX2_digest_153 hl (by decide) rfl (fun ls hl => ?_)
        refine lv_lload_n hx hb dX2_digest_155 rfl (lv_at hl 4 rfl) ?_
        refine lv_ldc2 hx hb hown (hts _ q908) dX2_digest_156 ?_
        refine lv_lmul hx hb dX2_digest_159 ?_
        refine lv_iload hx hb dX2_digest_160 (lv_at hl 0 rfl) ?_
        refine lv_i2l hx hb dX2_digest_162 rfl ?_
        refine lv_ladd hx hb dX2_digest_163 ?_
        refine lv_lstore_n (lv' := [(2, .long (((mxl (fun j => [σ 11 4, σ 11 0, σ 11 1, σ 11 2, waterS σ, σ 11 3, wetN σ, lost σ, amax (fun q => σ 0 q + σ 2 q) (nF σ), amax (fun q => σ 8 q) (nD σ), lossH 12 σ, turnB σ, floodB σ (nI 10), borneS σ].getD j 0) 2341 q) * 31) + (((fun j => [σ 11 4, σ 11 0, σ 11 1, σ 11 2, waterS σ, σ 11 3, wetN σ, lost σ, amax (fun q => σ 0 q + σ 2 q) (nF σ), amax (fun q => σ 8 q) (nD σ), lossH 12 σ, turnB σ, floodB σ (nI 10), borneS σ].getD j 0) q).toInt64))), (7, .int ((fun j => [σ 11 4, σ 11 0, σ 11 1, σ 11 2, waterS σ, σ 11 3, wetN σ, lost σ, amax (fun q => σ 0 q + σ 2 q) (nF σ), amax (fun q => σ 8 q) (nD σ), lossH 12 σ, turnB σ, floodB σ (nI 10), borneS σ].getD j 0) q)), (0, .ref o), (4, .ref t1), (5, .int (nI 14)), (6, .int (nI q))]) hx hb dX2_digest_164 rfl hl (by decide) rfl (fun ls hl => ?_)
        refine lv_iinc (v := (nI (q + 1))) (lv' := [(6, .int (nI (q + 1))), (2, .long (((mxl (fun j => [σ 11 4, σ 11 0, σ 11 1, σ 11 2, waterS σ, σ 11 3, wetN σ, lost σ, amax (fun q => σ 0 q + σ 2 q) (nF σ), amax (fun q => σ 8 q) (nD σ), lossH 12 σ, turnB σ, floodB σ (nI 10), borneS σ].getD j 0) 2341 q) * 31) + (((fun j => [σ 11 4, σ 11 0, σ 11 1, σ 11 2, waterS σ, σ 11 3, wetN σ, lost σ, amax (fun q => σ 0 q + σ 2 q) (nF σ), amax (fun q => σ 8 q) (nD σ), lossH 12 σ, turnB σ, floodB σ (nI 10), borneS σ].getD j 0) q).toInt64))), (7, .int ((fun j => [σ 11 4, σ 11 0, σ 11 1, σ 11 2, waterS σ, σ 11 3, wetN σ, lost σ, amax (fun q => σ 0 q + σ 2 q) (nF σ), amax (fun q => σ 8 q) (nD σ), lossH 12 σ, turnB σ, floodB σ (nI 10), borneS σ].getD j 0) q)), (0, .ref o), (4, .ref t1), (5, .int (nI 14))]) hx hb dX2_digest_165 hl (k := 5) rfl (nI_add q 1) (by decide) rfl (fun ls hl => ?_)
        refine lv_goto (tgt := 141) hx hb dX2_digest_168 (by decide) ?_
        have hl : lv_has ls 10 [(6, .int (nI (q + 1))), (2, .long (mxl (fun j => [σ 11 4, σ 11 0, σ 11 1, σ 11 2, waterS σ, σ 11 3, wetN σ, lost σ, amax (fun q => σ 0 q + σ 2 q) (nF σ), amax (fun q => σ 8 q) (nD σ), lossH 12 σ, turnB σ, floodB σ (nI 10), borneS σ].getD j 0) 2341 (q + 1))), (7, .int ((fun j => [σ 11 4, σ 11 0, σ 11 1, σ 11 2, waterS σ, σ 11 3, wetN σ, lost σ, amax (fun q => σ 0 q + σ 2 q) (nF σ), amax (fun q => σ 8 q) (nD σ), lossH 12 σ, turnB σ, floodB σ (nI 10), borneS σ].getD j 0) q)), (0, .ref o), (4, .ref t1), (5, .int (nI 14))] := hl
        exact ih_141 (q + 1) (by omega) (by omega) _ _ _ hP hD hS (lv_sub hl [3, 4, 5, 1, 0] rfl)
  exact L141 (14 + 1) 0 (by omega) (by omega) _ _ _ hP hD hS (lv_sub hl [5, 2, 1, 3, 0] rfl)
