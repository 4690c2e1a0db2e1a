set_option maxHeartbeats 8000000 in
set_option maxRecDepth 100000 in
theorem law_c18 (l : Launch) (hl9 : l.stackTraces = false) {p : Program} {e : Env} {s : State} {m : MethodId} {args : Array Value} {below : List Frame} {meth : Method} {c : Code} {Q : State → Prop} (D : va_G) (cI cZ cL : ClassId) {A : Nat → Prop} {b L : Nat} {xs : Nat → Int32} (ob h : Nat) (a : Nat → Nat) (h2 : Nat) (a2 : Nat → Nat) (qo om : Nat) (bb : Nat → Nat) (hx : p.tables.exec = Jvm.exec) (hb : c.code = cL_law) (hml : c.maxLocals = 9) (hown : s.vm.findClass RL = some m.cls) (hts : ∀ w ∈ LW, w.before args s = true) (hE : EX A s s.heap) (hK : va_K D vwCl (tZ cI cZ cL) s) (hA : ∀ q : Nat, s.heap.size ≤ q → A q) (hX : va_X b L xs s s.heap) (hbl : b < s.heap.size) (hbA : ¬ A b) (hL : L ≤ 2048) {t : Nat} (ht : 4 * t + 4 ≤ L) (NX : lawN p l e s m args below meth c Q D cI cZ cL A b ob h a h2 a2 qo om bb t) {n k : Nat} (σ τ : Sg) (κ ζ : Nat → Int32) (th : Int32) (wo : Nat → Int64) (hst : Shp n k σ) (hB : Bnd (12000 * t) σ) {H : Heap} {locs : List Loc} {ls : Array Slot} (hP : va_P D vwCl ((oC ob h h2) ++ ((mC cI cZ h a σ) ++ ((mC cI cZ h2 a2 τ) ++ ((lC cL qo wo) ++ (rC cI cZ om bb σ κ ζ th))))) H) (hD : va_D A ((oC ob h h2) ++ ((mC cI cZ h a σ) ++ ((mC cI cZ h2 a2 τ) ++ ((lC cL qo wo) ++ (rC cI cZ om bb σ κ ζ th)))))) (hS : va_S A s.heap H locs) (hl : lv_has ls 9 [(4, .int (nI (4 * t))), (0, .ref b), (1, .ref ob), (2, .ref om), (3, .ref qo)]) : W p l e room_1 s m args below meth c H locs (40 + 11 * t) (600 + 74 * t) Q (F0 m 896 ls []) := by
  have hn10 := hst.1
  have hk16 := hst.2.1
  refine lv_aload_n hx hb dL_law_896 rfl (lv_at hl 2 rfl) ?_
  refine lv_aload_n hx hb dL_law_897 rfl (lv_at hl 1 rfl) ?_
  refine lv_iload hx hb dL_law_898 (lv_at hl 0 rfl) ?_
  refine lv_iconst (v := 1) hx hb dL_law_900 (by decide) ?_
  refine lv_iadd hx hb dL_law_901 ?_
  refine x_top (nI_add (4 * t) 1) ?_
  refine va_sld hx hb hX hbl hbA hS (vp_in_nI (n := (4 * t) + 1) (by omega) (by omega)) dL_law_902 ?_
  refine x_top (show xs (nI ((4 * t) + 1)).toNatClampNeg = xs ((4 * t) + 1) by rw [nI_clamp (by omega)]) ?_
  refine lv_aload_n hx hb dL_law_903 rfl (lv_at hl 4 rfl) ?_
  refine MH.callS (As := [.ref ob, .int (xs ((4 * t) + 1)), .ref qo]) (rest := []) (w0 := []) (w2 := rC cI cZ om bb σ κ ζ th) (c_L_wetFor l hl9 D cI cZ cL ob h a h2 a2 σ τ hst hB (xs (4 * t + 1)) qo wo) ⟨hx, hb, hml, hown, hts⟩ q532 b_L_wetFor (n := 3) (by decide +kernel) ⟨Nat.le_of_ble_eq_true rfl, Nat.le_of_ble_eq_true rfl⟩ hK hP hD hS hA hE (spH _ _ _ _ _) rfl hl.1 rfl (Nat.le_of_ble_eq_true rfl) dL_law_904 ⟨by show 40 + 11 * t + 0 + 1 ≤ 671377; omega, by show 600 + 74 * t + 0 + 6 ≤ 7081972; omega⟩ (fun x9 H locs hP hD hS => ?_)
  obtain ⟨⟨τ9, w9⟩, hw9⟩ := x9
  have hw9 : (if hasF 0 σ (xs (4 * t + 1)) = 0 then 1 else 0 : Int32) = 0 → w9 0 = (if hasF 0 σ (xs (4 * t + 1)) = 0 then 0 else σ 3 (xs (4 * t + 1)).toNatClampNeg : Int32).toInt64 := hw9
  have hP : va_P D vwCl ((oC ob h h2) ++ ((mC cI cZ h a σ) ++ ((mC cI cZ h2 a2 τ9) ++ ((lC cL qo w9) ++ (rC cI cZ om bb σ κ ζ th))))) H := hP
  have hD : va_D A ((oC ob h h2) ++ ((mC cI cZ h a σ) ++ ((mC cI cZ h2 a2 τ9) ++ ((lC cL qo w9) ++ (rC cI cZ om bb σ κ ζ th))))) := hD
  refine lv_istore (lv' := [(5, .int (if hasF 0 σ (xs (4 * t + 1)) = 0 then 1 else 0)), (4, .int (nI (4 * t))), (0, .ref b), (1, .ref ob), (2, .ref om), (3, .ref qo)]) hx hb dL_law_907 hl (by decide) rfl (fun ls hl => ?_)
  refine lv_aload_n hx hb dL_law_909 rfl (lv_at hl 4 rfl) ?_
  refine lv_aload_n hx hb dL_law_910 rfl (lv_at hl 2 rfl) ?_
  refine lv_iload hx hb dL_law_911 (lv_at hl 1 rfl) ?_
  refine lv_iconst (v := 1) hx hb dL_law_913 (by decide) ?_
  refine lv_iadd hx hb dL_law_914 ?_
  refine x_top (nI_add (4 * t) 1) ?_
  refine va_sld hx hb hX hbl hbA hS (vp_in_nI (n := (4 * t) + 1) (by omega) (by omega)) dL_law_915 ?_
  refine x_top (show xs (nI ((4 * t) + 1)).toNatClampNeg = xs ((4 * t) + 1) by rw [nI_clamp (by omega)]) ?_
  refine MC.callV (C := RX2) (T := TX2) (N := 14) (As := [.int (xs ((4 * t) + 1))]) (rest := []) (wB := (oC ob h h2) ++ ((mC cI cZ h a σ) ++ ((mC cI cZ h2 a2 τ9) ++ ((lC cL qo w9) ++ (rC cI cZ om bb σ κ ζ (if hasF 0 σ (xs (4 * t + 1)) = 0 then 1 else 0)))))) (c_X2_wetFor l D cI cZ cL om bb σ κ ζ th hst (xs (4 * t + 1))) ⟨hx, hb, hml, hown, hts⟩ q784 b_X2_wetFor (n := 1) (by decide +kernel) ⟨Nat.le_of_ble_eq_true rfl, Nat.le_of_ble_eq_true rfl⟩ hK hP hD hS hA (spR _ _ _ _ _) (spR _ _ _ _ _) (ci := 2) rfl (q0 := 26) rfl rfl hl.1 rfl (Nat.le_of_ble_eq_true rfl) dL_law_916 ⟨by show 40 + 11 * t + 1 + 0 ≤ 671377; omega, by show 600 + 74 * t + 6 + 0 ≤ 7081972; omega⟩ (fun H locs hP hD hS => ?_)
  refine lv_istore (lv' := [(6, .int (if hasF 0 σ (xs (4 * t + 1)) = 0 then 0 else σ 3 (xs (4 * t + 1)).toNatClampNeg)), (5, .int (if hasF 0 σ (xs (4 * t + 1)) = 0 then 1 else 0)), (4, .int (nI (4 * t))), (0, .ref b), (1, .ref ob), (2, .ref om), (3, .ref qo)]) hx hb dL_law_919 hl (by decide) rfl (fun ls hl => ?_)
  refine lv_aload_n hx hb dL_law_921 rfl (lv_at hl 5 rfl) ?_
  refine MC.callV (C := RX2) (T := TX2) (N := 14) (As := []) (rest := []) (wB := (oC ob h h2) ++ ((mC cI cZ h a σ) ++ ((mC cI cZ h2 a2 τ9) ++ ((lC cL qo w9) ++ (rC cI cZ om bb σ κ ζ (if hasF 0 σ (xs (4 * t + 1)) = 0 then 1 else 0)))))) (c_X2_thrown l D cI cZ cL om bb σ κ ζ (if hasF 0 σ (xs (4 * t + 1)) = 0 then 1 else 0)) ⟨hx, hb, hml, hown, hts⟩ q635 b_X2_thrown (n := 0) (by decide +kernel) ⟨Nat.le_of_ble_eq_true rfl, Nat.le_of_ble_eq_true rfl⟩ hK hP hD hS hA (spR _ _ _ _ _) (spR _ _ _ _ _) (ci := 2) rfl (q0 := 26) rfl rfl hl.1 rfl (Nat.le_of_ble_eq_true rfl) dL_law_922 ⟨by show 40 + 11 * t + 1 + 0 ≤ 671377; omega, by show 600 + 74 * t + 6 + 0 ≤ 7081972; omega⟩ (fun H locs hP hD hS => ?_)
  refine lv_iload hx hb dL_law_925 (lv_at hl 1 rfl) ?_
  refine lv_icmp_eq (tgt := 932) hx hb dL_law_927 (by decide) (fun c_927 => ?_) (fun z => absurd (rfl) z)
  refine lv_iload hx hb dL_law_932 (lv_at hl 1 rfl) ?_
  refine lv_if_ne (tgt := 949) hx hb dL_law_934 (by decide) (fun c_934 => ?_) (fun c_934 => ?_)
  · refine lv_goto (tgt := 1708) hx hb dL_law_949 (by decide) ?_
    refine W.wide (k := 40 + 11 * (t + 1)) (n := 600 + 74 * (t + 1)) (by show 40 + 11 * t + 1 ≤ _; omega) (by show 600 + 74 * t + 6 ≤ _; omega) ?_
    exact NX n k σ τ9 κ ζ (if hasF 0 σ (xs (4 * t + 1)) = 0 then 1 else 0) w9 hst (hB.mono (by omega)) _ _ _ hP hD hS (lv_sub hl [2, 3, 4, 5, 6] rfl)
  · refine lv_aload_n hx hb dL_law_937 rfl (lv_at hl 6 rfl) ?_
    refine lv_iconst (v := 0) hx hb dL_law_938 (by decide) ?_
    refine va_lald hx hb hK hP 25 2 rfl rfl (vp_in_nI (n := 0) (by decide) (by decide)) dL_law_939 ?_
    refine lv_iload hx hb dL_law_940 (lv_at hl 0 rfl) ?_
    refine lv_i2l hx hb dL_law_942 rfl ?_
    refine W.lcmp hx hb dL_law_943 ?_
    refine x_top (lcmp_eq (hw9 c_934)) ?_
    refine lv_if_eq (tgt := 949) hx hb dL_law_944 (by decide) (fun c_944 => ?_) (fun z => absurd (by decide) z)
    refine lv_goto (tgt := 1708) hx hb dL_law_949 (by decide) ?_
    refine W.wide (k := 40 + 11 * (t + 1)) (n := 600 + 74 * (t + 1)) (by show 40 + 11 * t + 1 ≤ _; omega) (by show 600 + 74 * t + 6 ≤ _; omega) ?_
    exact NX n k σ τ9 κ ζ (if hasF 0 σ (xs (4 * t + 1)) = 0 then 1 else 0) w9 hst (hB.mono (by omega)) _ _ _ hP hD hS (lv_sub hl [2, 3, 4, 5, 6] rfl)

set_option maxHeartbeats 8000000 in
set_option maxRecDepth 100000 in
theorem law_c19 (l : Launch) (hl9 : l.stackTraces = false) {p : Program} {e : Env} {s : State} {m : MethodId} {args : Array Value} {below : List Frame} {meth : Method} {c : Code} {Q : State → Prop} (D : va_G) (cI cZ cL : ClassId) {A : Nat → Prop} {b L : Nat} {xs : Nat → Int32} (ob h : Nat) (a : Nat → Nat) (h2 : Nat) (a2 : Nat → Nat) (qo om : Nat) (bb : Nat → Nat) (hx : p.tables.exec = Jvm.exec) (hb : c.code = cL_law) (hml : c.maxLocals = 9) (hown : s.vm.findClass RL = some m.cls) (hts : ∀ w ∈ LW, w.before args s = true) (hE : EX A s s.heap) (hK : va_K D vwCl (tZ cI cZ cL) s) (hA : ∀ q : Nat, s.heap.size ≤ q → A q) (hX : va_X b L xs s s.heap) (hbl : b < s.heap.size) (hbA : ¬ A b) (hL : L ≤ 2048) {t : Nat} (ht : 4 * t + 4 ≤ L) (NX : lawN p l e s m args below meth c Q D cI cZ cL A b ob h a h2 a2 qo om bb t) {n k : Nat} (σ τ : Sg) (κ ζ : Nat → Int32) (th : Int32) (wo : Nat → Int64) (hst : Shp n k σ) (hB : Bnd (12000 * t) σ) {H : Heap} {locs : List Loc} {ls : Array Slot} (hP : va_P D vwCl ((oC ob h h2) ++ ((mC cI cZ h a σ) ++ ((mC cI cZ h2 a2 τ) ++ ((lC cL qo wo) ++ (rC cI cZ om bb σ κ ζ th))))) H) (hD : va_D A ((oC ob h h2) ++ ((mC cI cZ h a σ) ++ ((mC cI cZ h2 a2 τ) ++ ((lC cL qo wo) ++ (rC cI cZ om bb σ κ ζ th)))))) (hS : va_S A s.heap H locs) (hl : lv_has ls 9 [(4, .int (nI (4 * t))), (0, .ref b), (1, .ref ob), (2, .ref om), (3, .ref qo)]) : W p l e room_1 s m args below meth c H locs (40 + 11 * t) (600 + 74 * t) Q (F0 m 952 ls []) := by
  have hn10 := hst.1
  have hk16 := hst.2.1
  have hv01 : (if hasF 0 σ (xs (4 * t + 1)) = 0 then 0 else σ 4 (xs (4 * t + 1)).toNatClampNeg) = 0 ∨ (if hasF 0 σ (xs (4 * t + 1)) = 0 then 0 else σ 4 (xs (4 * t + 1)).toNatClampNeg) = 1 := by
    by_cases g1 : hasF 0 σ (xs (4 * t + 1)) = 0
    · rw [if_pos g1]; exact Or.inl rfl
    · rw [if_neg g1]; obtain ⟨j, hj, ej⟩ := hasF_lt hst.f0 (by omega) g1; rw [ej, nI_clamp (by omega)]; exact hB.2.2.2.2.1 j (by omega)
  refine lv_aload_n hx hb dL_law_952 rfl (lv_at hl 2 rfl) ?_
  refine lv_aload_n hx hb dL_law_953 rfl (lv_at hl 1 rfl) ?_
  refine lv_iload hx hb dL_law_954 (lv_at hl 0 rfl) ?_
  refine lv_iconst (v := 1) hx hb dL_law_956 (by decide) ?_
  refine lv_iadd hx hb dL_law_957 ?_
  refine x_top (nI_add (4 * t) 1) ?_
  refine va_sld hx hb hX hbl hbA hS (vp_in_nI (n := (4 * t) + 1) (by omega) (by omega)) dL_law_958 ?_
  refine x_top (show xs (nI ((4 * t) + 1)).toNatClampNeg = xs ((4 * t) + 1) by rw [nI_clamp (by omega)]) ?_
  refine lv_aload_n hx hb dL_law_959 rfl (lv_at hl 4 rfl) ?_
  refine MH.callS (As := [.ref ob, .int (xs ((4 * t) + 1)), .ref qo]) (rest := []) (w0 := []) (w2 := rC cI cZ om bb σ κ ζ th) (c_L_isRuined l hl9 D cI cZ cL ob h a h2 a2 σ τ hst hB (xs (4 * t + 1)) qo wo) ⟨hx, hb, hml, hown, hts⟩ q536 b_L_isRuined (n := 3) (by decide +kernel) ⟨Nat.le_of_ble_eq_true rfl, Nat.le_of_ble_eq_true rfl⟩ hK hP hD hS hA hE (spH _ _ _ _ _) rfl hl.1 rfl (Nat.le_of_ble_eq_true rfl) dL_law_960 ⟨by show 40 + 11 * t + 0 + 1 ≤ 671377; omega, by show 600 + 74 * t + 0 + 6 ≤ 7081972; omega⟩ (fun x9 H locs hP hD hS => ?_)
  obtain ⟨⟨τ9, w9⟩, hw9⟩ := x9
  have hw9 : (if hasF 0 σ (xs (4 * t + 1)) = 0 then 1 else 0 : Int32) = 0 → w9 0 = (if hasF 0 σ (xs (4 * t + 1)) = 0 then 0 else σ 4 (xs (4 * t + 1)).toNatClampNeg : Int32).toInt64 := hw9
  have hP : va_P D vwCl ((oC ob h h2) ++ ((mC cI cZ h a σ) ++ ((mC cI cZ h2 a2 τ9) ++ ((lC cL qo w9) ++ (rC cI cZ om bb σ κ ζ th))))) H := hP
  have hD : va_D A ((oC ob h h2) ++ ((mC cI cZ h a σ) ++ ((mC cI cZ h2 a2 τ9) ++ ((lC cL qo w9) ++ (rC cI cZ om bb σ κ ζ th))))) := hD
  refine lv_istore (lv' := [(5, .int (if hasF 0 σ (xs (4 * t + 1)) = 0 then 1 else 0)), (4, .int (nI (4 * t))), (0, .ref b), (1, .ref ob), (2, .ref om), (3, .ref qo)]) hx hb dL_law_963 hl (by decide) rfl (fun ls hl => ?_)
  refine lv_aload_n hx hb dL_law_965 rfl (lv_at hl 4 rfl) ?_
  refine lv_aload_n hx hb dL_law_966 rfl (lv_at hl 2 rfl) ?_
  refine lv_iload hx hb dL_law_967 (lv_at hl 1 rfl) ?_
  refine lv_iconst (v := 1) hx hb dL_law_969 (by decide) ?_
  refine lv_iadd hx hb dL_law_970 ?_
  refine x_top (nI_add (4 * t) 1) ?_
  refine va_sld hx hb hX hbl hbA hS (vp_in_nI (n := (4 * t) + 1) (by omega) (by omega)) dL_law_971 ?_
  refine x_top (show xs (nI ((4 * t) + 1)).toNatClampNeg = xs ((4 * t) + 1) by rw [nI_clamp (by omega)]) ?_
  refine MC.callV (C := RX2) (T := TX2) (N := 14) (As := [.int (xs ((4 * t) + 1))]) (rest := []) (wB := (oC ob h h2) ++ ((mC cI cZ h a σ) ++ ((mC cI cZ h2 a2 τ9) ++ ((lC cL qo w9) ++ (rC cI cZ om bb σ κ ζ (if hasF 0 σ (xs (4 * t + 1)) = 0 then 1 else 0)))))) (c_X2_isRuined l D cI cZ cL om bb σ κ ζ th hst hB (xs (4 * t + 1))) ⟨hx, hb, hml, hown, hts⟩ q788 b_X2_isRuined (n := 1) (by decide +kernel) ⟨Nat.le_of_ble_eq_true rfl, Nat.le_of_ble_eq_true rfl⟩ hK hP hD hS hA (spR _ _ _ _ _) (spR _ _ _ _ _) (ci := 2) rfl (q0 := 26) rfl rfl hl.1 rfl (Nat.le_of_ble_eq_true rfl) dL_law_972 ⟨by show 40 + 11 * t + 1 + 0 ≤ 671377; omega, by show 600 + 74 * t + 6 + 0 ≤ 7081972; omega⟩ (fun H locs hP hD hS => ?_)
  refine lv_istore (lv' := [(6, .int (if hasF 0 σ (xs (4 * t + 1)) = 0 then 0 else σ 4 (xs (4 * t + 1)).toNatClampNeg)), (5, .int (if hasF 0 σ (xs (4 * t + 1)) = 0 then 1 else 0)), (4, .int (nI (4 * t))), (0, .ref b), (1, .ref ob), (2, .ref om), (3, .ref qo)]) hx hb dL_law_975 hl (by decide) rfl (fun ls hl => ?_)
  refine lv_aload_n hx hb dL_law_977 rfl (lv_at hl 5 rfl) ?_
  refine MC.callV (C := RX2) (T := TX2) (N := 14) (As := []) (rest := []) (wB := (oC ob h h2) ++ ((mC cI cZ h a σ) ++ ((mC cI cZ h2 a2 τ9) ++ ((lC cL qo w9) ++ (rC cI cZ om bb σ κ ζ (if hasF 0 σ (xs (4 * t + 1)) = 0 then 1 else 0)))))) (c_X2_thrown l D cI cZ cL om bb σ κ ζ (if hasF 0 σ (xs (4 * t + 1)) = 0 then 1 else 0)) ⟨hx, hb, hml, hown, hts⟩ q635 b_X2_thrown (n := 0) (by decide +kernel) ⟨Nat.le_of_ble_eq_true rfl, Nat.le_of_ble_eq_true rfl⟩ hK hP hD hS hA (spR _ _ _ _ _) (spR _ _ _ _ _) (ci := 2) rfl (q0 := 26) rfl rfl hl.1 rfl (Nat.le_of_ble_eq_true rfl) dL_law_978 ⟨by show 40 + 11 * t + 1 + 0 ≤ 671377; omega, by show 600 + 74 * t + 6 + 0 ≤ 7081972; omega⟩ (fun H locs hP hD hS => ?_)
  refine lv_iload hx hb dL_law_981 (lv_at hl 1 rfl) ?_
  refine lv_icmp_eq (tgt := 988) hx hb dL_law_983 (by decide) (fun c_983 => ?_) (fun z => absurd (rfl) z)
  refine lv_iload hx hb dL_law_988 (lv_at hl 1 rfl) ?_
  refine lv_if_ne (tgt := 1012) hx hb dL_law_990 (by decide) (fun c_990 => ?_) (fun c_990 => ?_)
  · refine lv_goto (tgt := 1708) hx hb dL_law_1012 (by decide) ?_
    refine W.wide (k := 40 + 11 * (t + 1)) (n := 600 + 74 * (t + 1)) (by show 40 + 11 * t + 1 ≤ _; omega) (by show 600 + 74 * t + 6 ≤ _; omega) ?_
    exact NX n k σ τ9 κ ζ (if hasF 0 σ (xs (4 * t + 1)) = 0 then 1 else 0) w9 hst (hB.mono (by omega)) _ _ _ hP hD hS (lv_sub hl [2, 3, 4, 5, 6] rfl)
  · refine lv_aload_n hx hb dL_law_993 rfl (lv_at hl 6 rfl) ?_
    refine lv_iconst (v := 0) hx hb dL_law_994 (by decide) ?_
    refine va_lald hx hb hK hP 25 2 rfl rfl (vp_in_nI (n := 0) (by decide) (by decide)) dL_law_995 ?_
    refine lv_iload hx hb dL_law_996 (lv_at hl 0 rfl) ?_
    refine lv_if_eq (tgt := 1005) hx hb dL_law_998 (by decide) (fun c_998 => ?_) (fun c_998 => ?_)
    · refine lv_lconst (v := 0) hx hb dL_law_1005 (by decide) ?_
      refine W.lcmp hx hb dL_law_1006 ?_
      refine x_top (lcmp_eq ((hw9 c_990).trans (by rw [c_998]; rfl))) ?_
      refine lv_if_eq (tgt := 1012) hx hb dL_law_1007 (by decide) (fun c_1007 => ?_) (fun z => absurd (by decide) z)
      refine lv_goto (tgt := 1708) hx hb dL_law_1012 (by decide) ?_
      refine W.wide (k := 40 + 11 * (t + 1)) (n := 600 + 74 * (t + 1)) (by show 40 + 11 * t + 1 ≤ _; omega) (by show 600 + 74 * t + 6 ≤ _; omega) ?_
      exact NX n k σ τ9 κ ζ (if hasF 0 σ (xs (4 * t + 1)) = 0 then 1 else 0) w9 hst (hB.mono (by omega)) _ _ _ hP hD hS (lv_sub hl [2, 3, 4, 5, 6] rfl)
    · refine lv_lconst (v := 1) hx hb dL_law_1001 (by decide) ?_
      refine lv_goto (tgt := 1006) hx hb dL_law_1002 (by decide) ?_
      refine W.lcmp hx hb dL_law_1006 ?_
      refine x_top (lcmp_eq ((hw9 c_990).trans (by rw [(hv01).resolve_left c_998]; rfl))) ?_
      refine lv_if_eq (tgt := 1012) hx hb dL_law_1007 (by decide) (fun c_1007 => ?_) (fun z => absurd (by decide) z)
      refine lv_goto (tgt := 1708) hx hb dL_law_1012 (by decide) ?_
      refine W.wide (k := 40 + 11 * (t + 1)) (n := 600 + 74 * (t + 1)) (by show 40 + 11 * t + 1 ≤ _; omega) (by show 600 + 74 * t + 6 ≤ _; omega) ?_
      exact NX n k σ τ9 κ ζ (if hasF 0 σ (xs (4 * t + 1)) = 0 then 1 else 0) w9 hst (hB.mono (by omega)) _ _ _ hP hD hS (lv_sub hl [2, 3, 4, 5, 6] rfl)

set_option maxHeartbeats 8000000 in
set_option maxRecDepth 100000 in
theorem law_c20 (l : Launch) (hl9 : l.stackTraces = false) {p : Program} {e : Env} {s : State} {m : MethodId} {args : Array Value} {below : List Frame} {meth : Method} {c : Code} {Q : State → Prop} (D : va_G) (cI cZ cL : ClassId) {A : Nat → Prop} {b L : Nat} {xs : Nat → Int32} (ob h : Nat) (a : Nat → Nat) (h2 : Nat) (a2 : Nat → Nat) (qo om : Nat) (bb : Nat → Nat) (hx : p.tables.exec = Jvm.exec) (hb : c.code = cL_law) (hml : c.maxLocals = 9) (hown : s.vm.findClass RL = some m.cls) (hts : ∀ w ∈ LW, w.before args s = true) (hE : EX A s s.heap) (hK : va_K D vwCl (tZ cI cZ cL) s) (hA : ∀ q : Nat, s.heap.size ≤ q → A q) (hX : va_X b L xs s s.heap) (hbl : b < s.heap.size) (hbA : ¬ A b) (hL : L ≤ 2048) {t : Nat} (ht : 4 * t + 4 ≤ L) (NX : lawN p l e s m args below meth c Q D cI cZ cL A b ob h a h2 a2 qo om bb t) {n k : Nat} (σ τ : Sg) (κ ζ : Nat → Int32) (th : Int32) (wo : Nat → Int64) (hst : Shp n k σ) (hB : Bnd (12000 * t) σ) {H : Heap} {locs : List Loc} {ls : Array Slot} (hP : va_P D vwCl ((oC ob h h2) ++ ((mC cI cZ h a σ) ++ ((mC cI cZ h2 a2 τ) ++ ((lC cL qo wo) ++ (rC cI cZ om bb σ κ ζ th))))) H) (hD : va_D A ((oC ob h h2) ++ ((mC cI cZ h a σ) ++ ((mC cI cZ h2 a2 τ) ++ ((lC cL qo wo) ++ (rC cI cZ om bb σ κ ζ th)))))) (hS : va_S A s.heap H locs) (hl : lv_has ls 9 [(4, .int (nI (4 * t))), (0, .ref b), (1, .ref ob), (2, .ref om), (3, .ref qo)]) : W p l e room_1 s m args below meth c H locs (40 + 11 * t) (600 + 74 * t) Q (F0 m 1015 ls []) := by
  have hn10 := hst.1
  have hk16 := hst.2.1
  refine lv_aload_n hx hb dL_law_1015 rfl (lv_at hl 2 rfl) ?_
  refine lv_aload_n hx hb dL_law_1016 rfl (lv_at hl 1 rfl) ?_
  refine lv_iload hx hb dL_law_1017 (lv_at hl 0 rfl) ?_
  refine lv_iconst (v := 1) hx hb dL_law_1019 (by decide) ?_
  refine lv_iadd hx hb dL_law_1020 ?_
  refine x_top (nI_add (4 * t) 1) ?_
  refine va_sld hx hb hX hbl hbA hS (vp_in_nI (n := (4 * t) + 1) (by omega) (by omega)) dL_law_1021 ?_
  refine x_top (show xs (nI ((4 * t) + 1)).toNatClampNeg = xs ((4 * t) + 1) by rw [nI_clamp (by omega)]) ?_
  refine lv_aload_n hx hb dL_law_1022 rfl (lv_at hl 4 rfl) ?_
  refine MH.callS (As := [.ref ob, .int (xs ((4 * t) + 1)), .ref qo]) (rest := []) (w0 := []) (w2 := rC cI cZ om bb σ κ ζ th) (c_L_drainsAt l hl9 D cI cZ cL ob h a h2 a2 σ τ hst hB (xs (4 * t + 1)) qo wo) ⟨hx, hb, hml, hown, hts⟩ q540 b_L_drainsAt (n := 3) (by decide +kernel) ⟨Nat.le_of_ble_eq_true rfl, Nat.le_of_ble_eq_true rfl⟩ hK hP hD hS hA hE (spH _ _ _ _ _) rfl hl.1 rfl (Nat.le_of_ble_eq_true rfl) dL_law_1023 ⟨by show 40 + 11 * t + 0 + 1 ≤ 671377; omega, by show 600 + 74 * t + 0 + 6 ≤ 7081972; omega⟩ (fun x9 H locs hP hD hS => ?_)
  obtain ⟨⟨τ9, w9⟩, hw9⟩ := x9
  have hw9 : (if hasF 0 σ (xs (4 * t + 1)) = 0 then 1 else 0 : Int32) = 0 → w9 0 = (if hasF 0 σ (xs (4 * t + 1)) = 0 then 0 else openS σ (xs (4 * t + 1)).toNatClampNeg : Int32).toInt64 := hw9
  have hP : va_P D vwCl ((oC ob h h2) ++ ((mC cI cZ h a σ) ++ ((mC cI cZ h2 a2 τ9) ++ ((lC cL qo w9) ++ (rC cI cZ om bb σ κ ζ th))))) H := hP
  have hD : va_D A ((oC ob h h2) ++ ((mC cI cZ h a σ) ++ ((mC cI cZ h2 a2 τ9) ++ ((lC cL qo w9) ++ (rC cI cZ om bb σ κ ζ th))))) := hD
  refine lv_istore (lv' := [(5, .int (if hasF 0 σ (xs (4 * t + 1)) = 0 then 1 else 0)), (4, .int (nI (4 * t))), (0, .ref b), (1, .ref ob), (2, .ref om), (3, .ref qo)]) hx hb dL_law_1026 hl (by decide) rfl (fun ls hl => ?_)
  refine lv_aload_n hx hb dL_law_1028 rfl (lv_at hl 4 rfl) ?_
  refine lv_aload_n hx hb dL_law_1029 rfl (lv_at hl 2 rfl) ?_
  refine lv_iload hx hb dL_law_1030 (lv_at hl 1 rfl) ?_
  refine lv_iconst (v := 1) hx hb dL_law_1032 (by decide) ?_
  refine lv_iadd hx hb dL_law_1033 ?_
  refine x_top (nI_add (4 * t) 1) ?_
  refine va_sld hx hb hX hbl hbA hS (vp_in_nI (n := (4 * t) + 1) (by omega) (by omega)) dL_law_1034 ?_
  refine x_top (show xs (nI ((4 * t) + 1)).toNatClampNeg = xs ((4 * t) + 1) by rw [nI_clamp (by omega)]) ?_
  refine MC.callV (C := RX2) (T := TX2) (N := 14) (As := [.int (xs ((4 * t) + 1))]) (rest := []) (wB := (oC ob h h2) ++ ((mC cI cZ h a σ) ++ ((mC cI cZ h2 a2 τ9) ++ ((lC cL qo w9) ++ (rC cI cZ om bb σ κ ζ (if hasF 0 σ (xs (4 * t + 1)) = 0 then 1 else 0)))))) (c_X2_drainsAt l D cI cZ cL om bb σ κ ζ th hst (xs (4 * t + 1))) ⟨hx, hb, hml, hown, hts⟩ q792 b_X2_drainsAt (n := 1) (by decide +kernel) ⟨Nat.le_of_ble_eq_true rfl, Nat.le_of_ble_eq_true rfl⟩ hK hP hD hS hA (spR _ _ _ _ _) (spR _ _ _ _ _) (ci := 2) rfl (q0 := 26) rfl rfl hl.1 rfl (Nat.le_of_ble_eq_true rfl) dL_law_1035 ⟨by show 40 + 11 * t + 1 + 0 ≤ 671377; omega, by show 600 + 74 * t + 6 + 0 ≤ 7081972; omega⟩ (fun H locs hP hD hS => ?_)
  refine lv_istore (lv' := [(6, .int (if hasF 0 σ (xs (4 * t + 1)) = 0 then 0 else openS σ (xs (4 * t + 1)).toNatClampNeg)), (5, .int (if hasF 0 σ (xs (4 * t + 1)) = 0 then 1 else 0)), (4, .int (nI (4 * t))), (0, .ref b), (1, .ref ob), (2, .ref om), (3, .ref qo)]) hx hb dL_law_1038 hl (by decide) rfl (fun ls hl => ?_)
  refine lv_aload_n hx hb dL_law_1040 rfl (lv_at hl 5 rfl) ?_
  refine MC.callV (C := RX2) (T := TX2) (N := 14) (As := []) (rest := []) (wB := (oC ob h h2) ++ ((mC cI cZ h a σ) ++ ((mC cI cZ h2 a2 τ9) ++ ((lC cL qo w9) ++ (rC cI cZ om bb σ κ ζ (if hasF 0 σ (xs (4 * t + 1)) = 0 then 1 else 0)))))) (c_X2_thrown l D cI cZ cL om bb σ κ ζ (if hasF 0 σ (xs (4 * t + 1)) = 0 then 1 else 0)) ⟨hx, hb, hml, hown, hts⟩ q635 b_X2_thrown (n := 0) (by decide +kernel) ⟨Nat.le_of_ble_eq_true rfl, Nat.le_of_ble_eq_true rfl⟩ hK hP hD hS hA (spR _ _ _ _ _) (spR _ _ _ _ _) (ci := 2) rfl (q0 := 26) rfl rfl hl.1 rfl (Nat.le_of_ble_eq_true rfl) dL_law_1041 ⟨by show 40 + 11 * t + 1 + 0 ≤ 671377; omega, by show 600 + 74 * t + 6 + 0 ≤ 7081972; omega⟩ (fun H locs hP hD hS => ?_)
  refine lv_iload hx hb dL_law_1044 (lv_at hl 1 rfl) ?_
  refine lv_icmp_eq (tgt := 1051) hx hb dL_law_1046 (by decide) (fun c_1046 => ?_) (fun z => absurd (rfl) z)
  refine lv_iload hx hb dL_law_1051 (lv_at hl 1 rfl) ?_
  refine lv_if_ne (tgt := 1068) hx hb dL_law_1053 (by decide) (fun c_1053 => ?_) (fun c_1053 => ?_)
  · refine lv_goto (tgt := 1708) hx hb dL_law_1068 (by decide) ?_
    refine W.wide (k := 40 + 11 * (t + 1)) (n := 600 + 74 * (t + 1)) (by show 40 + 11 * t + 1 ≤ _; omega) (by show 600 + 74 * t + 6 ≤ _; omega) ?_
    exact NX n k σ τ9 κ ζ (if hasF 0 σ (xs (4 * t + 1)) = 0 then 1 else 0) w9 hst (hB.mono (by omega)) _ _ _ hP hD hS (lv_sub hl [2, 3, 4, 5, 6] rfl)
  · refine lv_aload_n hx hb dL_law_1056 rfl (lv_at hl 6 rfl) ?_
    refine lv_iconst (v := 0) hx hb dL_law_1057 (by decide) ?_
    refine va_lald hx hb hK hP 25 2 rfl rfl (vp_in_nI (n := 0) (by decide) (by decide)) dL_law_1058 ?_
    refine lv_iload hx hb dL_law_1059 (lv_at hl 0 rfl) ?_
    refine lv_i2l hx hb dL_law_1061 rfl ?_
    refine W.lcmp hx hb dL_law_1062 ?_
    refine x_top (lcmp_eq (hw9 c_1053)) ?_
    refine lv_if_eq (tgt := 1068) hx hb dL_law_1063 (by decide) (fun c_1063 => ?_) (fun z => absurd (by decide) z)
    refine lv_goto (tgt := 1708) hx hb dL_law_1068 (by decide) ?_
    refine W.wide (k := 40 + 11 * (t + 1)) (n := 600 + 74 * (t + 1)) (by show 40 + 11 * t + 1 ≤ _; omega) (by show 600 + 74 * t + 6 ≤ _; omega) ?_
    exact NX n k σ τ9 κ ζ (if hasF 0 σ (xs (4 * t + 1)) = 0 then 1 else 0) w9 hst (hB.mono (by omega)) _ _ _ hP hD hS (lv_sub hl [2, 3, 4, 5, 6] rfl)

set_option maxHeartbeats 8000000 in
set_option maxRecDepth 100000 in
theorem law_c21 (l : Launch) (hl9 : l.stackTraces = false) {p : Program} {e : Env} {s : State} {m : MethodId} {args : Array Value} {below : List Frame} {meth : Method} {c : Code} {Q : State → Prop} (D : va_G) (cI cZ cL : ClassId) {A : Nat → Prop} {b L : Nat} {xs : Nat → Int32} (ob h : Nat) (a : Nat → Nat) (h2 : Nat) (a2 : Nat → Nat) (qo om : Nat) (bb : Nat → Nat) (hx : p.tables.exec = Jvm.exec) (hb : c.code = cL_law) (hml : c.maxLocals = 9) (hown : s.vm.findClass RL = some m.cls) (hts : ∀ w ∈ LW, w.before args s = true) (hE : EX A s s.heap) (hK : va_K D vwCl (tZ cI cZ cL) s) (hA : ∀ q : Nat, s.heap.size ≤ q → A q) (hX : va_X b L xs s s.heap) (hbl : b < s.heap.size) (hbA : ¬ A b) (hL : L ≤ 2048) {t : Nat} (ht : 4 * t + 4 ≤ L) (NX : lawN p l e s m args below meth c Q D cI cZ cL A b ob h a h2 a2 qo om bb t) {n k : Nat} (σ τ : Sg) (κ ζ : Nat → Int32) (th : Int32) (wo : Nat → Int64) (hst : Shp n k σ) (hB : Bnd (12000 * t) σ) {H : Heap} {locs : List Loc} {ls : Array Slot} (hP : va_P D vwCl ((oC ob h h2) ++ ((mC cI cZ h a σ) ++ ((mC cI cZ h2 a2 τ) ++ ((lC cL qo wo) ++ (rC cI cZ om bb σ κ ζ th))))) H) (hD : va_D A ((oC ob h h2) ++ ((mC cI cZ h a σ) ++ ((mC cI cZ h2 a2 τ) ++ ((lC cL qo wo) ++ (rC cI cZ om bb σ κ ζ th)))))) (hS : va_S A s.heap H locs) (hl : lv_has ls 9 [(4, .int (nI (4 * t))), (0, .ref b), (1, .ref ob), (2, .ref om), (3, .ref qo)]) : W p l e room_1 s m args below meth c H locs (40 + 11 * t) (600 + 74 * t) Q (F0 m 1071 ls []) := by
  have hn10 := hst.1
  have hk16 := hst.2.1
  refine lv_aload_n hx hb dL_law_1071 rfl (lv_at hl 2 rfl) ?_
  refine lv_aload_n hx hb dL_law_1072 rfl (lv_at hl 1 rfl) ?_
  refine lv_iload hx hb dL_law_1073 (lv_at hl 0 rfl) ?_
  refine lv_iconst (v := 1) hx hb dL_law_1075 (by decide) ?_
  refine lv_iadd hx hb dL_law_1076 ?_
  refine x_top (nI_add (4 * t) 1) ?_
  refine va_sld hx hb hX hbl hbA hS (vp_in_nI (n := (4 * t) + 1) (by omega) (by omega)) dL_law_1077 ?_
  refine x_top (show xs (nI ((4 * t) + 1)).toNatClampNeg = xs ((4 * t) + 1) by rw [nI_clamp (by omega)]) ?_
  refine lv_aload_n hx hb dL_law_1078 rfl (lv_at hl 4 rfl) ?_
  refine MH.callS (As := [.ref ob, .int (xs ((4 * t) + 1)), .ref qo]) (rest := []) (w0 := []) (w2 := rC cI cZ om bb σ κ ζ th) (c_L_reaches l hl9 D cI cZ cL ob h a h2 a2 σ τ hst hB (xs (4 * t + 1)) qo wo) ⟨hx, hb, hml, hown, hts⟩ q544 b_L_reaches (n := 3) (by decide +kernel) ⟨Nat.le_of_ble_eq_true rfl, Nat.le_of_ble_eq_true rfl⟩ hK hP hD hS hA hE (spH _ _ _ _ _) rfl hl.1 rfl (Nat.le_of_ble_eq_true rfl) dL_law_1079 ⟨by show 40 + 11 * t + 0 + 1 ≤ 671377; omega, by show 600 + 74 * t + 0 + 6 ≤ 7081972; omega⟩ (fun x9 H locs hP hD hS => ?_)
  obtain ⟨⟨τ9, w9⟩, hw9⟩ := x9
  have hw9 : (if hasF 0 σ (xs (4 * t + 1)) = 0 then 1 else 0 : Int32) = 0 → w9 0 = (if hasF 0 σ (xs (4 * t + 1)) = 0 then 0 else reachS σ (xs (4 * t + 1)).toNatClampNeg : Int32).toInt64 := hw9
  have hP : va_P D vwCl ((oC ob h h2) ++ ((mC cI cZ h a σ) ++ ((mC cI cZ h2 a2 τ9) ++ ((lC cL qo w9) ++ (rC cI cZ om bb σ κ ζ th))))) H := hP
  have hD : va_D A ((oC ob h h2) ++ ((mC cI cZ h a σ) ++ ((mC cI cZ h2 a2 τ9) ++ ((lC cL qo w9) ++ (rC cI cZ om bb σ κ ζ th))))) := hD
  refine lv_istore (lv' := [(5, .int (if hasF 0 σ (xs (4 * t + 1)) = 0 then 1 else 0)), (4, .int (nI (4 * t))), (0, .ref b), (1, .ref ob), (2, .ref om), (3, .ref qo)]) hx hb dL_law_1082 hl (by decide) rfl (fun ls hl => ?_)
  refine lv_aload_n hx hb dL_law_1084 rfl (lv_at hl 4 rfl) ?_
  refine lv_aload_n hx hb dL_law_1085 rfl (lv_at hl 2 rfl) ?_
  refine lv_iload hx hb dL_law_1086 (lv_at hl 1 rfl) ?_
  refine lv_iconst (v := 1) hx hb dL_law_1088 (by decide) ?_
  refine lv_iadd hx hb dL_law_1089 ?_
  refine x_top (nI_add (4 * t) 1) ?_
  refine va_sld hx hb hX hbl hbA hS (vp_in_nI (n := (4 * t) + 1) (by omega) (by omega)) dL_law_1090 ?_
  refine x_top (show xs (nI ((4 * t) + 1)).toNatClampNeg = xs ((4 * t) + 1) by rw [nI_clamp (by omega)]) ?_
  refine MC.callV (C := RX2) (T := TX2) (N := 14) (As := [.int (xs ((4 * t) + 1))]) (rest := []) (wB := (oC ob h h2) ++ ((mC cI cZ h a σ) ++ ((mC cI cZ h2 a2 τ9) ++ ((lC cL qo w9) ++ (rC cI cZ om bb σ κ (if hasF 0 σ (xs (4 * t + 1)) = 0 then ζ else seenF n (cloM σ (xs (4 * t + 1)).toNatClampNeg) ζ) (if hasF 0 σ (xs (4 * t + 1)) = 0 then 1 else 0)))))) (c_X2_reaches l D cI cZ cL om bb σ κ ζ th hst (xs (4 * t + 1))) ⟨hx, hb, hml, hown, hts⟩ q800 b_X2_reaches (n := 1) (by decide +kernel) ⟨Nat.le_of_ble_eq_true rfl, Nat.le_of_ble_eq_true rfl⟩ hK hP hD hS hA (spR _ _ _ _ _) (spR _ _ _ _ _) (ci := 2) rfl (q0 := 26) rfl rfl hl.1 rfl (Nat.le_of_ble_eq_true rfl) dL_law_1091 ⟨by show 40 + 11 * t + 1 + 0 ≤ 671377; omega, by show 600 + 74 * t + 6 + 0 ≤ 7081972; omega⟩ (fun H locs hP hD hS => ?_)
  refine lv_istore (lv' := [(6, .int (if hasF 0 σ (xs (4 * t + 1)) = 0 then 0 else reachS σ (xs (4 * t + 1)).toNatClampNeg)), (5, .int (if hasF 0 σ (xs (4 * t + 1)) = 0 then 1 else 0)), (4, .int (nI (4 * t))), (0, .ref b), (1, .ref ob), (2, .ref om), (3, .ref qo)]) hx hb dL_law_1094 hl (by decide) rfl (fun ls hl => ?_)
  refine lv_aload_n hx hb dL_law_1096 rfl (lv_at hl 5 rfl) ?_
  refine MC.callV (C := RX2) (T := TX2) (N := 14) (As := []) (rest := []) (wB := (oC ob h h2) ++ ((mC cI cZ h a σ) ++ ((mC cI cZ h2 a2 τ9) ++ ((lC cL qo w9) ++ (rC cI cZ om bb σ κ (if hasF 0 σ (xs (4 * t + 1)) = 0 then ζ else seenF n (cloM σ (xs (4 * t + 1)).toNatClampNeg) ζ) (if hasF 0 σ (xs (4 * t + 1)) = 0 then 1 else 0)))))) (c_X2_thrown l D cI cZ cL om bb σ κ (if hasF 0 σ (xs (4 * t + 1)) = 0 then ζ else seenF n (cloM σ (xs (4 * t + 1)).toNatClampNeg) ζ) (if hasF 0 σ (xs (4 * t + 1)) = 0 then 1 else 0)) ⟨hx, hb, hml, hown, hts⟩ q635 b_X2_thrown (n := 0) (by decide +kernel) ⟨Nat.le_of_ble_eq_true rfl, Nat.le_of_ble_eq_true rfl⟩ hK hP hD hS hA (spR _ _ _ _ _) (spR _ _ _ _ _) (ci := 2) rfl (q0 := 26) rfl rfl hl.1 rfl (Nat.le_of_ble_eq_true rfl) dL_law_1097 ⟨by show 40 + 11 * t + 1 + 0 ≤ 671377; omega, by show 600 + 74 * t + 6 + 0 ≤ 7081972; omega⟩ (fun H locs hP hD hS => ?_)
  refine lv_iload hx hb dL_law_1100 (lv_at hl 1 rfl) ?_
  refine lv_icmp_eq (tgt := 1107) hx hb dL_law_1102 (by decide) (fun c_1102 => ?_) (fun z => absurd (rfl) z)
  refine lv_iload hx hb dL_law_1107 (lv_at hl 1 rfl) ?_
  refine lv_if_ne (tgt := 1124) hx hb dL_law_1109 (by decide) (fun c_1109 => ?_) (fun c_1109 => ?_)
  · refine lv_goto (tgt := 1708) hx hb dL_law_1124 (by decide) ?_
    refine W.wide (k := 40 + 11 * (t + 1)) (n := 600 + 74 * (t + 1)) (by show 40 + 11 * t + 1 ≤ _; omega) (by show 600 + 74 * t + 6 ≤ _; omega) ?_
    exact NX n k σ τ9 κ (if hasF 0 σ (xs (4 * t + 1)) = 0 then ζ else seenF n (cloM σ (xs (4 * t + 1)).toNatClampNeg) ζ) (if hasF 0 σ (xs (4 * t + 1)) = 0 then 1 else 0) w9 hst (hB.mono (by omega)) _ _ _ hP hD hS (lv_sub hl [2, 3, 4, 5, 6] rfl)
  · refine lv_aload_n hx hb dL_law_1112 rfl (lv_at hl 6 rfl) ?_
    refine lv_iconst (v := 0) hx hb dL_law_1113 (by decide) ?_
    refine va_lald hx hb hK hP 25 2 rfl rfl (vp_in_nI (n := 0) (by decide) (by decide)) dL_law_1114 ?_
    refine lv_iload hx hb dL_law_1115 (lv_at hl 0 rfl) ?_
    refine lv_i2l hx hb dL_law_1117 rfl ?_
    refine W.lcmp hx hb dL_law_1118 ?_
    refine x_top (lcmp_eq (hw9 c_1109)) ?_
    refine lv_if_eq (tgt := 1124) hx hb dL_law_1119 (by decide) (fun c_1119 => ?_) (fun z => absurd (by decide) z)
    refine lv_goto (tgt := 1708) hx hb dL_law_1124 (by decide) ?_
    refine W.wide (k := 40 + 11 * (t + 1)) (n := 600 + 74 * (t + 1)) (by show 40 + 11 * t + 1 ≤ _; omega) (by show 600 + 74 * t + 6 ≤ _; omega) ?_
    exact NX n k σ τ9 κ (if hasF 0 σ (xs (4 * t + 1)) = 0 then ζ else seenF n (cloM σ (xs (4 * t + 1)).toNatClampNeg) ζ) (if hasF 0 σ (xs (4 * t + 1)) = 0 then 1 else 0) w9 hst (hB.mono (by omega)) _ _ _ hP hD hS (lv_sub hl [2, 3, 4, 5, 6] rfl)

set_option maxHeartbeats 8000000 in
set_option maxRecDepth 100000 in
theorem law_c22 (l : Launch) (hl9 : l.stackTraces = false) {p : Program} {e : Env} {s : State} {m : MethodId} {args : Array Value} {below : List Frame} {meth : Method} {c : Code} {Q : State → Prop} (D : va_G) (cI cZ cL : ClassId) {A : Nat → Prop} {b L : Nat} {xs : Nat → Int32} (ob h : Nat) (a : Nat → Nat) (h2 : Nat) (a2 : Nat → Nat) (qo om : Nat) (bb : Nat → Nat) (hx : p.tables.exec = Jvm.exec) (hb : c.code = cL_law) (hml : c.maxLocals = 9) (hown : s.vm.findClass RL = some m.cls) (hts : ∀ w ∈ LW, w.before args s = true) (hE : EX A s s.heap) (hK : va_K D vwCl (tZ cI cZ cL) s) (hA : ∀ q : Nat, s.heap.size ≤ q → A q) (hX : va_X b L xs s s.heap) (hbl : b < s.heap.size) (hbA : ¬ A b) (hL : L ≤ 2048) {t : Nat} (ht : 4 * t + 4 ≤ L) (NX : lawN p l e s m args below meth c Q D cI cZ cL A b ob h a h2 a2 qo om bb t) {n k : Nat} (σ τ : Sg) (κ ζ : Nat → Int32) (th : Int32) (wo : Nat → Int64) (hst : Shp n k σ) (hB : Bnd (12000 * t) σ) {H : Heap} {locs : List Loc} {ls : Array Slot} (hP : va_P D vwCl ((oC ob h h2) ++ ((mC cI cZ h a σ) ++ ((mC cI cZ h2 a2 τ) ++ ((lC cL qo wo) ++ (rC cI cZ om bb σ κ ζ th))))) H) (hD : va_D A ((oC ob h h2) ++ ((mC cI cZ h a σ) ++ ((mC cI cZ h2 a2 τ) ++ ((lC cL qo wo) ++ (rC cI cZ om bb σ κ ζ th)))))) (hS : va_S A s.heap H locs) (hl : lv_has ls 9 [(4, .int (nI (4 * t))), (0, .ref b), (1, .ref ob), (2, .ref om), (3, .ref qo)]) : W p l e room_1 s m args below meth c H locs (40 + 11 * t) (600 + 74 * t) Q (F0 m 1127 ls []) := by
  have hn10 := hst.1
  have hk16 := hst.2.1
  refine lv_aload_n hx hb dL_law_1127 rfl (lv_at hl 2 rfl) ?_
  refine MX.callV (C := RX1) (T := TX1) (N := 2) (As := []) (rest := []) (wB := (fun ρ => (oC ob h h2) ++ ((mC cI cZ h a σ) ++ ((mC cI cZ h2 a2 ρ) ++ ((lC cL qo wo) ++ (rC cI cZ om bb σ κ ζ th)))))) (c_X1_highest l D cI cZ cL ob h a h2 a2 σ τ hst) ⟨hx, hb, hml, hown, hts⟩ q187 b_X1_highest (n := 0) (by decide +kernel) ⟨Nat.le_of_ble_eq_true rfl, Nat.le_of_ble_eq_true rfl⟩ hK hP hD hS hA hE (spO _ _ _ _ _) (fun _ => spO _ _ _ _ _) (ci := 1) rfl (q0 := 0) rfl rfl hl.1 rfl (Nat.le_of_ble_eq_true rfl) dL_law_1128 ⟨by show 40 + 11 * t + 0 + 0 ≤ 671377; omega, by show 600 + 74 * t + 0 + 0 ≤ 7081972; omega⟩ (fun ρ_1 H locs hP hD hS => ?_)
  have hP : va_P D vwCl ((oC ob h h2) ++ ((mC cI cZ h a σ) ++ ((mC cI cZ h2 a2 ρ_1) ++ ((lC cL qo wo) ++ (rC cI cZ om bb σ κ ζ th))))) H := hP
  have hD : va_D A ((oC ob h h2) ++ ((mC cI cZ h a σ) ++ ((mC cI cZ h2 a2 ρ_1) ++ ((lC cL qo wo) ++ (rC cI cZ om bb σ κ ζ th))))) := hD
  refine lv_aload_n hx hb dL_law_1131 rfl (lv_at hl 3 rfl) ?_
  refine MC.callV (C := RX2) (T := TX2) (N := 14) (As := []) (rest := [.int (amax (fun q => σ 0 q + σ 2 q) (nF σ))]) (wB := (oC ob h h2) ++ ((mC cI cZ h a σ) ++ ((mC cI cZ h2 a2 ρ_1) ++ ((lC cL qo wo) ++ (rC cI cZ om bb σ κ ζ 0))))) (c_X2_highest l D cI cZ cL om bb σ κ ζ th hst hB) ⟨hx, hb, hml, hown, hts⟩ q812 b_X2_highest (n := 0) (by decide +kernel) ⟨Nat.le_of_ble_eq_true rfl, Nat.le_of_ble_eq_true rfl⟩ hK hP hD hS hA (spR _ _ _ _ _) (spR _ _ _ _ _) (ci := 2) rfl (q0 := 26) rfl rfl hl.1 rfl (Nat.le_of_ble_eq_true rfl) dL_law_1132 ⟨by show 40 + 11 * t + 0 + 0 ≤ 671377; omega, by show 600 + 74 * t + 0 + 0 ≤ 7081972; omega⟩ (fun H locs hP hD hS => ?_)
  refine lv_icmp_eq (tgt := 1708) hx hb dL_law_1135 (by decide) (fun c_1135 => ?_) (fun z => absurd (rfl) z)
  refine W.wide (k := 40 + 11 * (t + 1)) (n := 600 + 74 * (t + 1)) (by show 40 + 11 * t + 0 ≤ _; omega) (by show 600 + 74 * t + 0 ≤ _; omega) ?_
  exact NX n k σ ρ_1 κ ζ 0 wo hst (hB.mono (by omega)) _ _ _ hP hD hS (lv_sub hl [0, 1, 2, 3, 4] rfl)

set_option maxHeartbeats 8000000 in
set_option maxRecDepth 100000 in
theorem law_c23 (l : Launch) (hl9 : l.stackTraces = false) {p : Program} {e : Env} {s : State} {m : MethodId} {args : Array Value} {below : List Frame} {meth : Method} {c : Code} {Q : State → Prop} (D : va_G) (cI cZ cL : ClassId) {A : Nat → Prop} {b L : Nat} {xs : Nat → Int32} (ob h : Nat) (a : Nat → Nat) (h2 : Nat) (a2 : Nat → Nat) (qo om : Nat) (bb : Nat → Nat) (hx : p.tables.exec = Jvm.exec) (hb : c.code = cL_law) (hml : c.maxLocals = 9) (hown : s.vm.findClass RL = some m.cls) (hts : ∀ w ∈ LW, w.before args s = true) (hE : EX A s s.heap) (hK : va_K D vwCl (tZ cI cZ cL) s) (hA : ∀ q : Nat, s.heap.size ≤ q → A q) (hX : va_X b L xs s s.heap) (hbl : b < s.heap.size) (hbA : ¬ A b) (hL : L ≤ 2048) {t : Nat} (ht : 4 * t + 4 ≤ L) (NX : lawN p l e s m args below meth c Q D cI cZ cL A b ob h a h2 a2 qo om bb t) {n k : Nat} (σ τ : Sg) (κ ζ : Nat → Int32) (th : Int32) (wo : Nat → Int64) (hst : Shp n k σ) (hB : Bnd (12000 * t) σ) {H : Heap} {locs : List Loc} {ls : Array Slot} (hP : va_P D vwCl ((oC ob h h2) ++ ((mC cI cZ h a σ) ++ ((mC cI cZ h2 a2 τ) ++ ((lC cL qo wo) ++ (rC cI cZ om bb σ κ ζ th))))) H) (hD : va_D A ((oC ob h h2) ++ ((mC cI cZ h a σ) ++ ((mC cI cZ h2 a2 τ) ++ ((lC cL qo wo) ++ (rC cI cZ om bb σ κ ζ th)))))) (hS : va_S A s.heap H locs) (hl : lv_has ls 9 [(4, .int (nI (4 * t))), (0, .ref b), (1, .ref ob), (2, .ref om), (3, .ref qo)]) : W p l e room_1 s m args below meth c H locs (40 + 11 * t) (600 + 74 * t) Q (F0 m 1140 ls []) := by
  have hn10 := hst.1
  have hk16 := hst.2.1
  have hv01 : (if hasF 1 σ (xs (4 * t + 1)) = 0 then 0 else σ 9 (xs (4 * t + 1)).toNatClampNeg) = 0 ∨ (if hasF 1 σ (xs (4 * t + 1)) = 0 then 0 else σ 9 (xs (4 * t + 1)).toNatClampNeg) = 1 := by
    by_cases g1 : hasF 1 σ (xs (4 * t + 1)) = 0
    · rw [if_pos g1]; exact Or.inl rfl
    · rw [if_neg g1]; obtain ⟨j, hj, ej⟩ := hasF_lt hst.f1 (by omega) g1; rw [ej, nI_clamp (by omega)]; exact hB.2.2.2.2.2.1 j (by omega)
  refine lv_aload_n hx hb dL_law_1140 rfl (lv_at hl 2 rfl) ?_
  refine lv_aload_n hx hb dL_law_1141 rfl (lv_at hl 1 rfl) ?_
  refine lv_iload hx hb dL_law_1142 (lv_at hl 0 rfl) ?_
  refine lv_iconst (v := 1) hx hb dL_law_1144 (by decide) ?_
  refine lv_iadd hx hb dL_law_1145 ?_
  refine x_top (nI_add (4 * t) 1) ?_
  refine va_sld hx hb hX hbl hbA hS (vp_in_nI (n := (4 * t) + 1) (by omega) (by omega)) dL_law_1146 ?_
  refine x_top (show xs (nI ((4 * t) + 1)).toNatClampNeg = xs ((4 * t) + 1) by rw [nI_clamp (by omega)]) ?_
  refine lv_aload_n hx hb dL_law_1147 rfl (lv_at hl 4 rfl) ?_
  refine MH.callS (As := [.ref ob, .int (xs ((4 * t) + 1)), .ref qo]) (rest := []) (w0 := []) (w2 := rC cI cZ om bb σ κ ζ th) (c_L_isPump l hl9 D cI cZ cL ob h a h2 a2 σ τ hst hB (xs (4 * t + 1)) qo wo) ⟨hx, hb, hml, hown, hts⟩ q548 b_L_isPump (n := 3) (by decide +kernel) ⟨Nat.le_of_ble_eq_true rfl, Nat.le_of_ble_eq_true rfl⟩ hK hP hD hS hA hE (spH _ _ _ _ _) rfl hl.1 rfl (Nat.le_of_ble_eq_true rfl) dL_law_1148 ⟨by show 40 + 11 * t + 0 + 1 ≤ 671377; omega, by show 600 + 74 * t + 0 + 6 ≤ 7081972; omega⟩ (fun x9 H locs hP hD hS => ?_)
  obtain ⟨⟨τ9, w9⟩, hw9⟩ := x9
  have hw9 : (if hasF 1 σ (xs (4 * t + 1)) = 0 then 1 else 0 : Int32) = 0 → w9 0 = (if hasF 1 σ (xs (4 * t + 1)) = 0 then 0 else σ 9 (xs (4 * t + 1)).toNatClampNeg : Int32).toInt64 := hw9
  have hP : va_P D vwCl ((oC ob h h2) ++ ((mC cI cZ h a σ) ++ ((mC cI cZ h2 a2 τ9) ++ ((lC cL qo w9) ++ (rC cI cZ om bb σ κ ζ th))))) H := hP
  have hD : va_D A ((oC ob h h2) ++ ((mC cI cZ h a σ) ++ ((mC cI cZ h2 a2 τ9) ++ ((lC cL qo w9) ++ (rC cI cZ om bb σ κ ζ th))))) := hD
  refine lv_istore (lv' := [(5, .int (if hasF 1 σ (xs (4 * t + 1)) = 0 then 1 else 0)), (4, .int (nI (4 * t))), (0, .ref b), (1, .ref ob), (2, .ref om), (3, .ref qo)]) hx hb dL_law_1151 hl (by decide) rfl (fun ls hl => ?_)
  refine lv_aload_n hx hb dL_law_1153 rfl (lv_at hl 4 rfl) ?_
  refine lv_aload_n hx hb dL_law_1154 rfl (lv_at hl 2 rfl) ?_
  refine lv_iload hx hb dL_law_1155 (lv_at hl 1 rfl) ?_
  refine lv_iconst (v := 1) hx hb dL_law_1157 (by decide) ?_
  refine lv_iadd hx hb dL_law_1158 ?_
  refine x_top (nI_add (4 * t) 1) ?_
  refine va_sld hx hb hX hbl hbA hS (vp_in_nI (n := (4 * t) + 1) (by omega) (by omega)) dL_law_1159 ?_
  refine x_top (show xs (nI ((4 * t) + 1)).toNatClampNeg = xs ((4 * t) + 1) by rw [nI_clamp (by omega)]) ?_
  refine MC.callV (C := RX2) (T := TX2) (N := 14) (As := [.int (xs ((4 * t) + 1))]) (rest := []) (wB := (oC ob h h2) ++ ((mC cI cZ h a σ) ++ ((mC cI cZ h2 a2 τ9) ++ ((lC cL qo w9) ++ (rC cI cZ om bb σ κ ζ (if hasF 1 σ (xs (4 * t + 1)) = 0 then 1 else 0)))))) (c_X2_isPump l D cI cZ cL om bb σ κ ζ th hst hB (xs (4 * t + 1))) ⟨hx, hb, hml, hown, hts⟩ q820 b_X2_isPump (n := 1) (by decide +kernel) ⟨Nat.le_of_ble_eq_true rfl, Nat.le_of_ble_eq_true rfl⟩ hK hP hD hS hA (spR _ _ _ _ _) (spR _ _ _ _ _) (ci := 2) rfl (q0 := 26) rfl rfl hl.1 rfl (Nat.le_of_ble_eq_true rfl) dL_law_1160 ⟨by show 40 + 11 * t + 1 + 0 ≤ 671377; omega, by show 600 + 74 * t + 6 + 0 ≤ 7081972; omega⟩ (fun H locs hP hD hS => ?_)
  refine lv_istore (lv' := [(6, .int (if hasF 1 σ (xs (4 * t + 1)) = 0 then 0 else σ 9 (xs (4 * t + 1)).toNatClampNeg)), (5, .int (if hasF 1 σ (xs (4 * t + 1)) = 0 then 1 else 0)), (4, .int (nI (4 * t))), (0, .ref b), (1, .ref ob), (2, .ref om), (3, .ref qo)]) hx hb dL_law_1163 hl (by decide) rfl (fun ls hl => ?_)
  refine lv_aload_n hx hb dL_law_1165 rfl (lv_at hl 5 rfl) ?_
  refine MC.callV (C := RX2) (T := TX2) (N := 14) (As := []) (rest := []) (wB := (oC ob h h2) ++ ((mC cI cZ h a σ) ++ ((mC cI cZ h2 a2 τ9) ++ ((lC cL qo w9) ++ (rC cI cZ om bb σ κ ζ (if hasF 1 σ (xs (4 * t + 1)) = 0 then 1 else 0)))))) (c_X2_thrown l D cI cZ cL om bb σ κ ζ (if hasF 1 σ (xs (4 * t + 1)) = 0 then 1 else 0)) ⟨hx, hb, hml, hown, hts⟩ q635 b_X2_thrown (n := 0) (by decide +kernel) ⟨Nat.le_of_ble_eq_true rfl, Nat.le_of_ble_eq_true rfl⟩ hK hP hD hS hA (spR _ _ _ _ _) (spR _ _ _ _ _) (ci := 2) rfl (q0 := 26) rfl rfl hl.1 rfl (Nat.le_of_ble_eq_true rfl) dL_law_1166 ⟨by show 40 + 11 * t + 1 + 0 ≤ 671377; omega, by show 600 + 74 * t + 6 + 0 ≤ 7081972; omega⟩ (fun H locs hP hD hS => ?_)
  refine lv_iload hx hb dL_law_1169 (lv_at hl 1 rfl) ?_
  refine lv_icmp_eq (tgt := 1176) hx hb dL_law_1171 (by decide) (fun c_1171 => ?_) (fun z => absurd (rfl) z)
  refine lv_iload hx hb dL_law_1176 (lv_at hl 1 rfl) ?_
  refine lv_if_ne (tgt := 1200) hx hb dL_law_1178 (by decide) (fun c_1178 => ?_) (fun c_1178 => ?_)
  · refine lv_goto (tgt := 1708) hx hb dL_law_1200 (by decide) ?_
    refine W.wide (k := 40 + 11 * (t + 1)) (n := 600 + 74 * (t + 1)) (by show 40 + 11 * t + 1 ≤ _; omega) (by show 600 + 74 * t + 6 ≤ _; omega) ?_
    exact NX n k σ τ9 κ ζ (if hasF 1 σ (xs (4 * t + 1)) = 0 then 1 else 0) w9 hst (hB.mono (by omega)) _ _ _ hP hD hS (lv_sub hl [2, 3, 4, 5, 6] rfl)
  · refine lv_aload_n hx hb dL_law_1181 rfl (lv_at hl 6 rfl) ?_
    refine lv_iconst (v := 0) hx hb dL_law_1182 (by decide) ?_
    refine va_lald hx hb hK hP 25 2 rfl rfl (vp_in_nI (n := 0) (by decide) (by decide)) dL_law_1183 ?_
    refine lv_iload hx hb dL_law_1184 (lv_at hl 0 rfl) ?_
    refine lv_if_eq (tgt := 1193) hx hb dL_law_1186 (by decide) (fun c_1186 => ?_) (fun c_1186 => ?_)
    · refine lv_lconst (v := 0) hx hb dL_law_1193 (by decide) ?_
      refine W.lcmp hx hb dL_law_1194 ?_
      refine x_top (lcmp_eq ((hw9 c_1178).trans (by rw [c_1186]; rfl))) ?_
      refine lv_if_eq (tgt := 1200) hx hb dL_law_1195 (by decide) (fun c_1195 => ?_) (fun z => absurd (by decide) z)
      refine lv_goto (tgt := 1708) hx hb dL_law_1200 (by decide) ?_
      refine W.wide (k := 40 + 11 * (t + 1)) (n := 600 + 74 * (t + 1)) (by show 40 + 11 * t + 1 ≤ _; omega) (by show 600 + 74 * t + 6 ≤ _; omega) ?_
      exact NX n k σ τ9 κ ζ (if hasF 1 σ (xs (4 * t + 1)) = 0 then 1 else 0) w9 hst (hB.mono (by omega)) _ _ _ hP hD hS (lv_sub hl [2, 3, 4, 5, 6] rfl)
    · refine lv_lconst (v := 1) hx hb dL_law_1189 (by decide) ?_
      refine lv_goto (tgt := 1194) hx hb dL_law_1190 (by decide) ?_
      refine W.lcmp hx hb dL_law_1194 ?_
      refine x_top (lcmp_eq ((hw9 c_1178).trans (by rw [(hv01).resolve_left c_1186]; rfl))) ?_
      refine lv_if_eq (tgt := 1200) hx hb dL_law_1195 (by decide) (fun c_1195 => ?_) (fun z => absurd (by decide) z)
      refine lv_goto (tgt := 1708) hx hb dL_law_1200 (by decide) ?_
      refine W.wide (k := 40 + 11 * (t + 1)) (n := 600 + 74 * (t + 1)) (by show 40 + 11 * t + 1 ≤ _; omega) (by show 600 + 74 * t + 6 ≤ _; omega) ?_
      exact NX n k σ τ9 κ ζ (if hasF 1 σ (xs (4 * t + 1)) = 0 then 1 else 0) w9 hst (hB.mono (by omega)) _ _ _ hP hD hS (lv_sub hl [2, 3, 4, 5, 6] rfl)
