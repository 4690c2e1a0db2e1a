set_option maxHeartbeats 8000000 in
set_option maxRecDepth 100000 in
theorem law_c0 (l : Launch) (hl9 : l.stackTraces = false) {p : Program} {e : Env} {s : State} {m : MethodId} {args : Array Value} {below : List Frame} {meth : Method} {c : Code} {Q : State → Prop} (D : va_G) (cI cZ cL : ClassId) {A : Nat → Prop} {b L : Nat} {xs : Nat → Int32} (ob h : Nat) (a : Nat → Nat) (h2 : Nat) (a2 : Nat → Nat) (qo om : Nat) (bb : Nat → Nat) (hx : p.tables.exec = Jvm.exec) (hb : c.code = cL_law) (hml : c.maxLocals = 9) (hown : s.vm.findClass RL = some m.cls) (hts : ∀ w ∈ LW, w.before args s = true) (hE : EX A s s.heap) (hK : va_K D vwCl (tZ cI cZ cL) s) (hA : ∀ q : Nat, s.heap.size ≤ q → A q) (hX : va_X b L xs s s.heap) (hbl : b < s.heap.size) (hbA : ¬ A b) (hL : L ≤ 2048) {t : Nat} (ht : 4 * t + 4 ≤ L) (NX : lawN p l e s m args below meth c Q D cI cZ cL A b ob h a h2 a2 qo om bb t) {n k : Nat} (σ τ : Sg) (κ ζ : Nat → Int32) (th : Int32) (wo : Nat → Int64) (hst : Shp n k σ) (hB : Bnd (12000 * t) σ) {H : Heap} {locs : List Loc} {ls : Array Slot} (hP : va_P D vwCl ((oC ob h h2) ++ ((mC cI cZ h a σ) ++ ((mC cI cZ h2 a2 τ) ++ ((lC cL qo wo) ++ (rC cI cZ om bb σ κ ζ th))))) H) (hD : va_D A ((oC ob h h2) ++ ((mC cI cZ h a σ) ++ ((mC cI cZ h2 a2 τ) ++ ((lC cL qo wo) ++ (rC cI cZ om bb σ κ ζ th)))))) (hS : va_S A s.heap H locs) (hl : lv_has ls 9 [(4, .int (nI (4 * t))), (0, .ref b), (1, .ref ob), (2, .ref om), (3, .ref qo)]) : W p l e room_1 s m args below meth c H locs (40 + 11 * t) (600 + 74 * t) Q (F0 m 196 ls []) := by
  have hn10 := hst.1
  have hk16 := hst.2.1
  obtain ⟨n9, k9, hs9, hb9⟩ : ∃ n9 k9, Shp n9 k9 (if inR (xs (4 * t + 1)) 0 20 = 0 then σ else if inR (xs (4 * t + 2)) 0 99 = 0 then σ else if n = 10 then σ else putF n (xs (4 * t + 1)) (xs (4 * t + 2)) σ) ∧ Bnd (12000 * (t + 1)) (if inR (xs (4 * t + 1)) 0 20 = 0 then σ else if inR (xs (4 * t + 2)) 0 99 = 0 then σ else if n = 10 then σ else putF n (xs (4 * t + 1)) (xs (4 * t + 2)) σ) := by
    by_cases g1 : inR (xs (4 * t + 1)) 0 20 = 0
    · rw [if_pos g1]; exact ⟨n, k, hst, hB.mono (by omega)⟩
    · by_cases g2 : inR (xs (4 * t + 2)) 0 99 = 0
      · rw [if_neg g1, if_pos g2]; exact ⟨n, k, hst, hB.mono (by omega)⟩
      · by_cases g3 : n = 10
        · rw [if_neg g1, if_neg g2, if_pos g3]; exact ⟨n, k, hst, hB.mono (by omega)⟩
        · rw [if_neg g1, if_neg g2, if_neg g3]; exact ⟨n + 1, k, hst.pF g3 _ _, (hB.pF g3 hn10 g1).mono (by omega)⟩
  refine lv_aload_n hx hb dL_law_196 rfl (lv_at hl 2 rfl) ?_
  refine lv_aload_n hx hb dL_law_197 rfl (lv_at hl 1 rfl) ?_
  refine lv_iload hx hb dL_law_198 (lv_at hl 0 rfl) ?_
  refine lv_iconst (v := 1) hx hb dL_law_200 (by decide) ?_
  refine lv_iadd hx hb dL_law_201 ?_
  refine x_top (nI_add (4 * t) 1) ?_
  refine va_sld hx hb hX hbl hbA hS (vp_in_nI (n := (4 * t) + 1) (by omega) (by omega)) dL_law_202 ?_
  refine x_top (show xs (nI ((4 * t) + 1)).toNatClampNeg = xs ((4 * t) + 1) by rw [nI_clamp (by omega)]) ?_
  refine lv_aload_n hx hb dL_law_203 rfl (lv_at hl 1 rfl) ?_
  refine lv_iload hx hb dL_law_204 (lv_at hl 0 rfl) ?_
  refine lv_iconst (v := 2) hx hb dL_law_206 (by decide) ?_
  refine lv_iadd hx hb dL_law_207 ?_
  refine x_top (nI_add (4 * t) 2) ?_
  refine va_sld hx hb hX hbl hbA hS (vp_in_nI (n := (4 * t) + 2) (by omega) (by omega)) dL_law_208 ?_
  refine x_top (show xs (nI ((4 * t) + 2)).toNatClampNeg = xs ((4 * t) + 2) by rw [nI_clamp (by omega)]) ?_
  refine lv_aload_n hx hb dL_law_209 rfl (lv_at hl 4 rfl) ?_
  refine MH.callS (As := [.ref ob, .int (xs ((4 * t) + 1)), .int (xs ((4 * t) + 2)), .ref qo]) (rest := []) (w0 := []) (w2 := rC cI cZ om bb σ κ ζ th) (c_L_addField l hl9 D cI cZ cL ob h a h2 a2 σ τ hst (xs (4 * t + 1)) (xs (4 * t + 2)) qo wo) ⟨hx, hb, hml, hown, hts⟩ q439 b_L_addField (n := 4) (by decide +kernel) ⟨Nat.le_of_ble_eq_true rfl, Nat.le_of_ble_eq_true rfl⟩ hK hP hD hS hA hE (spH _ _ _ _ _) rfl hl.1 rfl (Nat.le_of_ble_eq_true rfl) dL_law_210 ⟨by show 40 + 11 * t + 0 + 1 ≤ 671377; omega, by show 600 + 74 * t + 0 + 6 ≤ 7081972; omega⟩ (fun x9 H locs hP hD hS => ?_)
  obtain ⟨⟨τ9, w9⟩, hw9⟩ := x9
  have hw9 : (if inR (xs (4 * t + 1)) 0 20 = 0 then 1 else if inR (xs (4 * t + 2)) 0 99 = 0 then 1 else if n = 10 then 2 else 0 : Int32) = 0 → w9 0 = (if inR (xs (4 * t + 1)) 0 20 = 0 then 0 else if inR (xs (4 * t + 2)) 0 99 = 0 then 0 else if n = 10 then 0 else nI n : Int32).toInt64 := hw9
  have hP : va_P D vwCl ((oC ob h h2) ++ ((mC cI cZ h a (if inR (xs (4 * t + 1)) 0 20 = 0 then σ else if inR (xs (4 * t + 2)) 0 99 = 0 then σ else if n = 10 then σ else putF n (xs (4 * t + 1)) (xs (4 * t + 2)) σ)) ++ ((mC cI cZ h2 a2 τ9) ++ ((lC cL qo w9) ++ (rC cI cZ om bb σ κ ζ th))))) H := hP
  have hD : va_D A ((oC ob h h2) ++ ((mC cI cZ h a (if inR (xs (4 * t + 1)) 0 20 = 0 then σ else if inR (xs (4 * t + 2)) 0 99 = 0 then σ else if n = 10 then σ else putF n (xs (4 * t + 1)) (xs (4 * t + 2)) σ)) ++ ((mC cI cZ h2 a2 τ9) ++ ((lC cL qo w9) ++ (rC cI cZ om bb σ κ ζ th))))) := hD
  refine lv_istore (lv' := [(5, .int (if inR (xs (4 * t + 1)) 0 20 = 0 then 1 else if inR (xs (4 * t + 2)) 0 99 = 0 then 1 else if n = 10 then 2 else 0)), (4, .int (nI (4 * t))), (0, .ref b), (1, .ref ob), (2, .ref om), (3, .ref qo)]) hx hb dL_law_213 hl (by decide) rfl (fun ls hl => ?_)
  refine lv_aload_n hx hb dL_law_215 rfl (lv_at hl 4 rfl) ?_
  refine lv_aload_n hx hb dL_law_216 rfl (lv_at hl 2 rfl) ?_
  refine lv_iload hx hb dL_law_217 (lv_at hl 1 rfl) ?_
  refine lv_iconst (v := 1) hx hb dL_law_219 (by decide) ?_
  refine lv_iadd hx hb dL_law_220 ?_
  refine x_top (nI_add (4 * t) 1) ?_
  refine va_sld hx hb hX hbl hbA hS (vp_in_nI (n := (4 * t) + 1) (by omega) (by omega)) dL_law_221 ?_
  refine x_top (show xs (nI ((4 * t) + 1)).toNatClampNeg = xs ((4 * t) + 1) by rw [nI_clamp (by omega)]) ?_
  refine lv_aload_n hx hb dL_law_222 rfl (lv_at hl 2 rfl) ?_
  refine lv_iload hx hb dL_law_223 (lv_at hl 1 rfl) ?_
  refine lv_iconst (v := 2) hx hb dL_law_225 (by decide) ?_
  refine lv_iadd hx hb dL_law_226 ?_
  refine x_top (nI_add (4 * t) 2) ?_
  refine va_sld hx hb hX hbl hbA hS (vp_in_nI (n := (4 * t) + 2) (by omega) (by omega)) dL_law_227 ?_
  refine x_top (show xs (nI ((4 * t) + 2)).toNatClampNeg = xs ((4 * t) + 2) by rw [nI_clamp (by omega)]) ?_
  refine MC.callV (C := RX2) (T := TX2) (N := 14) (As := [.int (xs ((4 * t) + 1)), .int (xs ((4 * t) + 2))]) (rest := []) (wB := (oC ob h h2) ++ ((mC cI cZ h a (if inR (xs (4 * t + 1)) 0 20 = 0 then σ else if inR (xs (4 * t + 2)) 0 99 = 0 then σ else if n = 10 then σ else putF n (xs (4 * t + 1)) (xs (4 * t + 2)) σ)) ++ ((mC cI cZ h2 a2 τ9) ++ ((lC cL qo w9) ++ (rC cI cZ om bb (if inR (xs (4 * t + 1)) 0 20 = 0 then σ else if inR (xs (4 * t + 2)) 0 99 = 0 then σ else if n = 10 then σ else putF n (xs (4 * t + 1)) (xs (4 * t + 2)) σ) κ ζ (if inR (xs (4 * t + 1)) 0 20 = 0 then 1 else if inR (xs (4 * t + 2)) 0 99 = 0 then 1 else if n = 10 then 2 else 0)))))) (c_X2_addField l D cI cZ cL om bb σ κ ζ th hst (xs (4 * t + 1)) (xs (4 * t + 2))) ⟨hx, hb, hml, hown, hts⟩ q639 b_X2_addField (n := 2) (by decide +kernel) ⟨Nat.le_of_ble_eq_true rfl, Nat.le_of_ble_eq_true rfl⟩ hK hP hD hS hA (spR _ _ _ _ _) (spR _ _ _ _ _) (ci := 2) rfl (q0 := 26) rfl rfl hl.1 rfl (Nat.le_of_ble_eq_true rfl) dL_law_228 ⟨by show 40 + 11 * t + 1 + 0 ≤ 671377; omega, by show 600 + 74 * t + 6 + 0 ≤ 7081972; omega⟩ (fun H locs hP hD hS => ?_)
  refine lv_istore (lv' := [(6, .int (if inR (xs (4 * t + 1)) 0 20 = 0 then 0 else if inR (xs (4 * t + 2)) 0 99 = 0 then 0 else if n = 10 then 0 else nI n)), (5, .int (if inR (xs (4 * t + 1)) 0 20 = 0 then 1 else if inR (xs (4 * t + 2)) 0 99 = 0 then 1 else if n = 10 then 2 else 0)), (4, .int (nI (4 * t))), (0, .ref b), (1, .ref ob), (2, .ref om), (3, .ref qo)]) hx hb dL_law_231 hl (by decide) rfl (fun ls hl => ?_)
  refine lv_aload_n hx hb dL_law_233 rfl (lv_at hl 5 rfl) ?_
  refine MC.callV (C := RX2) (T := TX2) (N := 14) (As := []) (rest := []) (wB := (oC ob h h2) ++ ((mC cI cZ h a (if inR (xs (4 * t + 1)) 0 20 = 0 then σ else if inR (xs (4 * t + 2)) 0 99 = 0 then σ else if n = 10 then σ else putF n (xs (4 * t + 1)) (xs (4 * t + 2)) σ)) ++ ((mC cI cZ h2 a2 τ9) ++ ((lC cL qo w9) ++ (rC cI cZ om bb (if inR (xs (4 * t + 1)) 0 20 = 0 then σ else if inR (xs (4 * t + 2)) 0 99 = 0 then σ else if n = 10 then σ else putF n (xs (4 * t + 1)) (xs (4 * t + 2)) σ) κ ζ (if inR (xs (4 * t + 1)) 0 20 = 0 then 1 else if inR (xs (4 * t + 2)) 0 99 = 0 then 1 else if n = 10 then 2 else 0)))))) (c_X2_thrown l D cI cZ cL om bb (if inR (xs (4 * t + 1)) 0 20 = 0 then σ else if inR (xs (4 * t + 2)) 0 99 = 0 then σ else if n = 10 then σ else putF n (xs (4 * t + 1)) (xs (4 * t + 2)) σ) κ ζ (if inR (xs (4 * t + 1)) 0 20 = 0 then 1 else if inR (xs (4 * t + 2)) 0 99 = 0 then 1 else if n = 10 then 2 else 0)) ⟨hx, hb, hml, hown, hts⟩ q635 b_X2_thrown (n := 0) (by decide +kernel) ⟨Nat.le_of_ble_eq_true rfl, Nat.le_of_ble_eq_true rfl⟩ hK hP hD hS hA (spR _ _ _ _ _) (spR _ _ _ _ _) (ci := 2) rfl (q0 := 26) rfl rfl hl.1 rfl (Nat.le_of_ble_eq_true rfl) dL_law_234 ⟨by show 40 + 11 * t + 1 + 0 ≤ 671377; omega, by show 600 + 74 * t + 6 + 0 ≤ 7081972; omega⟩ (fun H locs hP hD hS => ?_)
  refine lv_iload hx hb dL_law_237 (lv_at hl 1 rfl) ?_
  refine lv_icmp_eq (tgt := 244) hx hb dL_law_239 (by decide) (fun c_239 => ?_) (fun z => absurd (rfl) z)
  refine lv_iload hx hb dL_law_244 (lv_at hl 1 rfl) ?_
  refine lv_if_ne (tgt := 261) hx hb dL_law_246 (by decide) (fun c_246 => ?_) (fun c_246 => ?_)
  · refine lv_goto (tgt := 1708) hx hb dL_law_261 (by decide) ?_
    refine W.wide (k := 40 + 11 * (t + 1)) (n := 600 + 74 * (t + 1)) (by show 40 + 11 * t + 1 ≤ _; omega) (by show 600 + 74 * t + 6 ≤ _; omega) ?_
    exact NX _ _ (if inR (xs (4 * t + 1)) 0 20 = 0 then σ else if inR (xs (4 * t + 2)) 0 99 = 0 then σ else if n = 10 then σ else putF n (xs (4 * t + 1)) (xs (4 * t + 2)) σ) τ9 κ ζ (if inR (xs (4 * t + 1)) 0 20 = 0 then 1 else if inR (xs (4 * t + 2)) 0 99 = 0 then 1 else if n = 10 then 2 else 0) w9 hs9 hb9 _ _ _ hP hD hS (lv_sub hl [2, 3, 4, 5, 6] rfl)
  · refine lv_aload_n hx hb dL_law_249 rfl (lv_at hl 6 rfl) ?_
    refine lv_iconst (v := 0) hx hb dL_law_250 (by decide) ?_
    refine va_lald hx hb hK hP 25 2 rfl rfl (vp_in_nI (n := 0) (by decide) (by decide)) dL_law_251 ?_
    refine lv_iload hx hb dL_law_252 (lv_at hl 0 rfl) ?_
    refine lv_i2l hx hb dL_law_254 rfl ?_
    refine W.lcmp hx hb dL_law_255 ?_
    refine x_top (lcmp_eq (hw9 c_246)) ?_
    refine lv_if_eq (tgt := 261) hx hb dL_law_256 (by decide) (fun c_256 => ?_) (fun z => absurd (by decide) z)
    refine lv_goto (tgt := 1708) hx hb dL_law_261 (by decide) ?_
    refine W.wide (k := 40 + 11 * (t + 1)) (n := 600 + 74 * (t + 1)) (by show 40 + 11 * t + 1 ≤ _; omega) (by show 600 + 74 * t + 6 ≤ _; omega) ?_
    exact NX _ _ (if inR (xs (4 * t + 1)) 0 20 = 0 then σ else if inR (xs (4 * t + 2)) 0 99 = 0 then σ else if n = 10 then σ else putF n (xs (4 * t + 1)) (xs (4 * t + 2)) σ) τ9 κ ζ (if inR (xs (4 * t + 1)) 0 20 = 0 then 1 else if inR (xs (4 * t + 2)) 0 99 = 0 then 1 else if n = 10 then 2 else 0) w9 hs9 hb9 _ _ _ hP hD hS (lv_sub hl [2, 3, 4, 5, 6] rfl)

set_option maxHeartbeats 8000000 in
set_option maxRecDepth 100000 in
theorem law_c1 (l : Launch) (hl9 : l.stackTraces = false) {p : Program} {e : Env} {s : State} {m : MethodId} {args : Array Value} {below : List Frame} {meth : Method} {c : Code} {Q : State → Prop} (D : va_G) (cI cZ cL : ClassId) {A : Nat → Prop} {b L : Nat} {xs : Nat → Int32} (ob h : Nat) (a : Nat → Nat) (h2 : Nat) (a2 : Nat → Nat) (qo om : Nat) (bb : Nat → Nat) (hx : p.tables.exec = Jvm.exec) (hb : c.code = cL_law) (hml : c.maxLocals = 9) (hown : s.vm.findClass RL = some m.cls) (hts : ∀ w ∈ LW, w.before args s = true) (hE : EX A s s.heap) (hK : va_K D vwCl (tZ cI cZ cL) s) (hA : ∀ q : Nat, s.heap.size ≤ q → A q) (hX : va_X b L xs s s.heap) (hbl : b < s.heap.size) (hbA : ¬ A b) (hL : L ≤ 2048) {t : Nat} (ht : 4 * t + 4 ≤ L) (NX : lawN p l e s m args below meth c Q D cI cZ cL A b ob h a h2 a2 qo om bb t) {n k : Nat} (σ τ : Sg) (κ ζ : Nat → Int32) (th : Int32) (wo : Nat → Int64) (hst : Shp n k σ) (hB : Bnd (12000 * t) σ) {H : Heap} {locs : List Loc} {ls : Array Slot} (hP : va_P D vwCl ((oC ob h h2) ++ ((mC cI cZ h a σ) ++ ((mC cI cZ h2 a2 τ) ++ ((lC cL qo wo) ++ (rC cI cZ om bb σ κ ζ th))))) H) (hD : va_D A ((oC ob h h2) ++ ((mC cI cZ h a σ) ++ ((mC cI cZ h2 a2 τ) ++ ((lC cL qo wo) ++ (rC cI cZ om bb σ κ ζ th)))))) (hS : va_S A s.heap H locs) (hl : lv_has ls 9 [(4, .int (nI (4 * t))), (0, .ref b), (1, .ref ob), (2, .ref om), (3, .ref qo)]) : W p l e room_1 s m args below meth c H locs (40 + 11 * t) (600 + 74 * t) Q (F0 m 264 ls []) := by
  have hn10 := hst.1
  have hk16 := hst.2.1
  obtain ⟨n9, k9, hs9, hb9⟩ : ∃ n9 k9, Shp n9 k9 (if hasF 0 σ (xs (4 * t + 1)) = 0 then σ else if hasF 0 σ (xs (4 * t + 2)) = 0 then σ else (if (xs (4 * t + 1)) = (xs (4 * t + 2)) then σ else if inR (xs (4 * t + 3)) 1 9 = 0 then σ else if k = 16 then σ else putD k (xs (4 * t + 1)) (xs (4 * t + 2)) (xs (4 * t + 3)) 0 σ)) ∧ Bnd (12000 * (t + 1)) (if hasF 0 σ (xs (4 * t + 1)) = 0 then σ else if hasF 0 σ (xs (4 * t + 2)) = 0 then σ else (if (xs (4 * t + 1)) = (xs (4 * t + 2)) then σ else if inR (xs (4 * t + 3)) 1 9 = 0 then σ else if k = 16 then σ else putD k (xs (4 * t + 1)) (xs (4 * t + 2)) (xs (4 * t + 3)) 0 σ)) := by
    by_cases g1 : hasF 0 σ (xs (4 * t + 1)) = 0
    · rw [if_pos g1]; exact ⟨n, k, hst, hB.mono (by omega)⟩
    · by_cases g2 : hasF 0 σ (xs (4 * t + 2)) = 0
      · rw [if_neg g1, if_pos g2]; exact ⟨n, k, hst, hB.mono (by omega)⟩
      · rw [if_neg g1, if_neg g2]
        by_cases g5 : (xs (4 * t + 1)) = (xs (4 * t + 2))
        · rw [if_pos g5]; exact ⟨n, k, hst, hB.mono (by omega)⟩
        · by_cases g6 : inR (xs (4 * t + 3)) 1 9 = 0
          · rw [if_neg g5, if_pos g6]; exact ⟨n, k, hst, hB.mono (by omega)⟩
          · by_cases g7 : k = 16
            · rw [if_neg g5, if_neg g6, if_pos g7]; exact ⟨n, k, hst, hB.mono (by omega)⟩
            · rw [if_neg g5, if_neg g6, if_neg g7]; exact ⟨n, k + 1, hst.pD g7 _ _ (hasF_lt hst.f0 (by omega) g1) (Or.inr (hasF_lt hst.f0 (by omega) g2)), (hB.pD g7 hk16 g6 (Or.inl rfl)).mono (by omega)⟩
  refine lv_aload_n hx hb dL_law_264 rfl (lv_at hl 2 rfl) ?_
  refine lv_aload_n hx hb dL_law_265 rfl (lv_at hl 1 rfl) ?_
  refine lv_iload hx hb dL_law_266 (lv_at hl 0 rfl) ?_
  refine lv_iconst (v := 1) hx hb dL_law_268 (by decide) ?_
  refine lv_iadd hx hb dL_law_269 ?_
  refine x_top (nI_add (4 * t) 1) ?_
  refine va_sld hx hb hX hbl hbA hS (vp_in_nI (n := (4 * t) + 1) (by omega) (by omega)) dL_law_270 ?_
  refine x_top (show xs (nI ((4 * t) + 1)).toNatClampNeg = xs ((4 * t) + 1) by rw [nI_clamp (by omega)]) ?_
  refine lv_aload_n hx hb dL_law_271 rfl (lv_at hl 1 rfl) ?_
  refine lv_iload hx hb dL_law_272 (lv_at hl 0 rfl) ?_
  refine lv_iconst (v := 2) hx hb dL_law_274 (by decide) ?_
  refine lv_iadd hx hb dL_law_275 ?_
  refine x_top (nI_add (4 * t) 2) ?_
  refine va_sld hx hb hX hbl hbA hS (vp_in_nI (n := (4 * t) + 2) (by omega) (by omega)) dL_law_276 ?_
  refine x_top (show xs (nI ((4 * t) + 2)).toNatClampNeg = xs ((4 * t) + 2) by rw [nI_clamp (by omega)]) ?_
  refine lv_aload_n hx hb dL_law_277 rfl (lv_at hl 1 rfl) ?_
  refine lv_iload hx hb dL_law_278 (lv_at hl 0 rfl) ?_
  refine lv_iconst (v := 3) hx hb dL_law_280 (by decide) ?_
  refine lv_iadd hx hb dL_law_281 ?_
  refine x_top (nI_add (4 * t) 3) ?_
  refine va_sld hx hb hX hbl hbA hS (vp_in_nI (n := (4 * t) + 3) (by omega) (by omega)) dL_law_282 ?_
  refine x_top (show xs (nI ((4 * t) + 3)).toNatClampNeg = xs ((4 * t) + 3) by rw [nI_clamp (by omega)]) ?_
  refine lv_aload_n hx hb dL_law_283 rfl (lv_at hl 4 rfl) ?_
  refine MH.callS (As := [.ref ob, .int (xs ((4 * t) + 1)), .int (xs ((4 * t) + 2)), .int (xs ((4 * t) + 3)), .ref qo]) (rest := []) (w0 := []) (w2 := rC cI cZ om bb σ κ ζ th) (c_L_addDitch l hl9 D cI cZ cL ob h a h2 a2 σ τ hst (xs (4 * t + 1)) (xs (4 * t + 2)) (xs (4 * t + 3)) qo wo) ⟨hx, hb, hml, hown, hts⟩ q468 b_L_addDitch (n := 5) (by decide +kernel) ⟨Nat.le_of_ble_eq_true rfl, Nat.le_of_ble_eq_true rfl⟩ hK hP hD hS hA hE (spH _ _ _ _ _) rfl hl.1 rfl (Nat.le_of_ble_eq_true rfl) dL_law_284 ⟨by show 40 + 11 * t + 0 + 1 ≤ 671377; omega, by show 600 + 74 * t + 0 + 6 ≤ 7081972; omega⟩ (fun x9 H locs hP hD hS => ?_)
  obtain ⟨⟨τ9, w9⟩, hw9⟩ := x9
  have hw9 : (if hasF 0 σ (xs (4 * t + 1)) = 0 then 1 else if hasF 0 σ (xs (4 * t + 2)) = 0 then 1 else (if (xs (4 * t + 1)) = (xs (4 * t + 2)) then 2 else if inR (xs (4 * t + 3)) 1 9 = 0 then 2 else if k = 16 then 3 else 0) : Int32) = 0 → w9 0 = (if hasF 0 σ (xs (4 * t + 1)) = 0 then 0 else if hasF 0 σ (xs (4 * t + 2)) = 0 then 0 else (if (xs (4 * t + 1)) = (xs (4 * t + 2)) then 0 else if inR (xs (4 * t + 3)) 1 9 = 0 then 0 else if k = 16 then 0 else nI k) : Int32).toInt64 := hw9
  have hP : va_P D vwCl ((oC ob h h2) ++ ((mC cI cZ h a (if hasF 0 σ (xs (4 * t + 1)) = 0 then σ else if hasF 0 σ (xs (4 * t + 2)) = 0 then σ else (if (xs (4 * t + 1)) = (xs (4 * t + 2)) then σ else if inR (xs (4 * t + 3)) 1 9 = 0 then σ else if k = 16 then σ else putD k (xs (4 * t + 1)) (xs (4 * t + 2)) (xs (4 * t + 3)) 0 σ))) ++ ((mC cI cZ h2 a2 τ9) ++ ((lC cL qo w9) ++ (rC cI cZ om bb σ κ ζ th))))) H := hP
  have hD : va_D A ((oC ob h h2) ++ ((mC cI cZ h a (if hasF 0 σ (xs (4 * t + 1)) = 0 then σ else if hasF 0 σ (xs (4 * t + 2)) = 0 then σ else (if (xs (4 * t + 1)) = (xs (4 * t + 2)) then σ else if inR (xs (4 * t + 3)) 1 9 = 0 then σ else if k = 16 then σ else putD k (xs (4 * t + 1)) (xs (4 * t + 2)) (xs (4 * t + 3)) 0 σ))) ++ ((mC cI cZ h2 a2 τ9) ++ ((lC cL qo w9) ++ (rC cI cZ om bb σ κ ζ th))))) := hD
  refine lv_istore (lv' := [(5, .int (if hasF 0 σ (xs (4 * t + 1)) = 0 then 1 else if hasF 0 σ (xs (4 * t + 2)) = 0 then 1 else (if (xs (4 * t + 1)) = (xs (4 * t + 2)) then 2 else if inR (xs (4 * t + 3)) 1 9 = 0 then 2 else if k = 16 then 3 else 0))), (4, .int (nI (4 * t))), (0, .ref b), (1, .ref ob), (2, .ref om), (3, .ref qo)]) hx hb dL_law_287 hl (by decide) rfl (fun ls hl => ?_)
  refine lv_aload_n hx hb dL_law_289 rfl (lv_at hl 4 rfl) ?_
  refine lv_aload_n hx hb dL_law_290 rfl (lv_at hl 2 rfl) ?_
  refine lv_iload hx hb dL_law_291 (lv_at hl 1 rfl) ?_
  refine lv_iconst (v := 1) hx hb dL_law_293 (by decide) ?_
  refine lv_iadd hx hb dL_law_294 ?_
  refine x_top (nI_add (4 * t) 1) ?_
  refine va_sld hx hb hX hbl hbA hS (vp_in_nI (n := (4 * t) + 1) (by omega) (by omega)) dL_law_295 ?_
  refine x_top (show xs (nI ((4 * t) + 1)).toNatClampNeg = xs ((4 * t) + 1) by rw [nI_clamp (by omega)]) ?_
  refine lv_aload_n hx hb dL_law_296 rfl (lv_at hl 2 rfl) ?_
  refine lv_iload hx hb dL_law_297 (lv_at hl 1 rfl) ?_
  refine lv_iconst (v := 2) hx hb dL_law_299 (by decide) ?_
  refine lv_iadd hx hb dL_law_300 ?_
  refine x_top (nI_add (4 * t) 2) ?_
  refine va_sld hx hb hX hbl hbA hS (vp_in_nI (n := (4 * t) + 2) (by omega) (by omega)) dL_law_301 ?_
  refine x_top (show xs (nI ((4 * t) + 2)).toNatClampNeg = xs ((4 * t) + 2) by rw [nI_clamp (by omega)]) ?_
  refine lv_aload_n hx hb dL_law_302 rfl (lv_at hl 2 rfl) ?_
  refine lv_iload hx hb dL_law_303 (lv_at hl 1 rfl) ?_
  refine lv_iconst (v := 3) hx hb dL_law_305 (by decide) ?_
  refine lv_iadd hx hb dL_law_306 ?_
  refine x_top (nI_add (4 * t) 3) ?_
  refine va_sld hx hb hX hbl hbA hS (vp_in_nI (n := (4 * t) + 3) (by omega) (by omega)) dL_law_307 ?_
  refine x_top (show xs (nI ((4 * t) + 3)).toNatClampNeg = xs ((4 * t) + 3) by rw [nI_clamp (by omega)]) ?_
  refine MC.callV (C := RX2) (T := TX2) (N := 14) (As := [.int (xs ((4 * t) + 1)), .int (xs ((4 * t) + 2)), .int (xs ((4 * t) + 3))]) (rest := []) (wB := (oC ob h h2) ++ ((mC cI cZ h a (if hasF 0 σ (xs (4 * t + 1)) = 0 then σ else if hasF 0 σ (xs (4 * t + 2)) = 0 then σ else (if (xs (4 * t + 1)) = (xs (4 * t + 2)) then σ else if inR (xs (4 * t + 3)) 1 9 = 0 then σ else if k = 16 then σ else putD k (xs (4 * t + 1)) (xs (4 * t + 2)) (xs (4 * t + 3)) 0 σ))) ++ ((mC cI cZ h2 a2 τ9) ++ ((lC cL qo w9) ++ (rC cI cZ om bb (if hasF 0 σ (xs (4 * t + 1)) = 0 then σ else if hasF 0 σ (xs (4 * t + 2)) = 0 then σ else (if (xs (4 * t + 1)) = (xs (4 * t + 2)) then σ else if inR (xs (4 * t + 3)) 1 9 = 0 then σ else if k = 16 then σ else putD k (xs (4 * t + 1)) (xs (4 * t + 2)) (xs (4 * t + 3)) 0 σ)) κ ζ (if hasF 0 σ (xs (4 * t + 1)) = 0 then 1 else if hasF 0 σ (xs (4 * t + 2)) = 0 then 1 else (if (xs (4 * t + 1)) = (xs (4 * t + 2)) then 2 else if inR (xs (4 * t + 3)) 1 9 = 0 then 2 else if k = 16 then 3 else 0))))))) (c_X2_addDitch l D cI cZ cL om bb σ κ ζ th hst (xs (4 * t + 1)) (xs (4 * t + 2)) (xs (4 * t + 3))) ⟨hx, hb, hml, hown, hts⟩ q650 b_X2_addDitch (n := 3) (by decide +kernel) ⟨Nat.le_of_ble_eq_true rfl, Nat.le_of_ble_eq_true rfl⟩ hK hP hD hS hA (spR _ _ _ _ _) (spR _ _ _ _ _) (ci := 2) rfl (q0 := 26) rfl rfl hl.1 rfl (Nat.le_of_ble_eq_true rfl) dL_law_308 ⟨by show 40 + 11 * t + 1 + 0 ≤ 671377; omega, by show 600 + 74 * t + 6 + 0 ≤ 7081972; omega⟩ (fun H locs hP hD hS => ?_)
  refine lv_istore (lv' := [(6, .int (if hasF 0 σ (xs (4 * t + 1)) = 0 then 0 else if hasF 0 σ (xs (4 * t + 2)) = 0 then 0 else (if (xs (4 * t + 1)) = (xs (4 * t + 2)) then 0 else if inR (xs (4 * t + 3)) 1 9 = 0 then 0 else if k = 16 then 0 else nI k))), (5, .int (if hasF 0 σ (xs (4 * t + 1)) = 0 then 1 else if hasF 0 σ (xs (4 * t + 2)) = 0 then 1 else (if (xs (4 * t + 1)) = (xs (4 * t + 2)) then 2 else if inR (xs (4 * t + 3)) 1 9 = 0 then 2 else if k = 16 then 3 else 0))), (4, .int (nI (4 * t))), (0, .ref b), (1, .ref ob), (2, .ref om), (3, .ref qo)]) hx hb dL_law_311 hl (by decide) rfl (fun ls hl => ?_)
  refine lv_aload_n hx hb dL_law_313 rfl (lv_at hl 5 rfl) ?_
  refine MC.callV (C := RX2) (T := TX2) (N := 14) (As := []) (rest := []) (wB := (oC ob h h2) ++ ((mC cI cZ h a (if hasF 0 σ (xs (4 * t + 1)) = 0 then σ else if hasF 0 σ (xs (4 * t + 2)) = 0 then σ else (if (xs (4 * t + 1)) = (xs (4 * t + 2)) then σ else if inR (xs (4 * t + 3)) 1 9 = 0 then σ else if k = 16 then σ else putD k (xs (4 * t + 1)) (xs (4 * t + 2)) (xs (4 * t + 3)) 0 σ))) ++ ((mC cI cZ h2 a2 τ9) ++ ((lC cL qo w9) ++ (rC cI cZ om bb (if hasF 0 σ (xs (4 * t + 1)) = 0 then σ else if hasF 0 σ (xs (4 * t + 2)) = 0 then σ else (if (xs (4 * t + 1)) = (xs (4 * t + 2)) then σ else if inR (xs (4 * t + 3)) 1 9 = 0 then σ else if k = 16 then σ else putD k (xs (4 * t + 1)) (xs (4 * t + 2)) (xs (4 * t + 3)) 0 σ)) κ ζ (if hasF 0 σ (xs (4 * t + 1)) = 0 then 1 else if hasF 0 σ (xs (4 * t + 2)) = 0 then 1 else (if (xs (4 * t + 1)) = (xs (4 * t + 2)) then 2 else if inR (xs (4 * t + 3)) 1 9 = 0 then 2 else if k = 16 then 3 else 0))))))) (c_X2_thrown l D cI cZ cL om bb (if hasF 0 σ (xs (4 * t + 1)) = 0 then σ else if hasF 0 σ (xs (4 * t + 2)) = 0 then σ else (if (xs (4 * t + 1)) = (xs (4 * t + 2)) then σ else if inR (xs (4 * t + 3)) 1 9 = 0 then σ else if k = 16 then σ else putD k (xs (4 * t + 1)) (xs (4 * t + 2)) (xs (4 * t + 3)) 0 σ)) κ ζ (if hasF 0 σ (xs (4 * t + 1)) = 0 then 1 else if hasF 0 σ (xs (4 * t + 2)) = 0 then 1 else (if (xs (4 * t + 1)) = (xs (4 * t + 2)) then 2 else if inR (xs (4 * t + 3)) 1 9 = 0 then 2 else if k = 16 then 3 else 0))) ⟨hx, hb, hml, hown, hts⟩ q635 b_X2_thrown (n := 0) (by decide +kernel) ⟨Nat.le_of_ble_eq_true rfl, Nat.le_of_ble_eq_true rfl⟩ hK hP hD hS hA (spR _ _ _ _ _) (spR _ _ _ _ _) (ci := 2) rfl (q0 := 26) rfl rfl hl.1 rfl (Nat.le_of_ble_eq_true rfl) dL_law_314 ⟨by show 40 + 11 * t + 1 + 0 ≤ 671377; omega, by show 600 + 74 * t + 6 + 0 ≤ 7081972; omega⟩ (fun H locs hP hD hS => ?_)
  refine lv_iload hx hb dL_law_317 (lv_at hl 1 rfl) ?_
  refine lv_icmp_eq (tgt := 324) hx hb dL_law_319 (by decide) (fun c_319 => ?_) (fun z => absurd (rfl) z)
  refine lv_iload hx hb dL_law_324 (lv_at hl 1 rfl) ?_
  refine lv_if_ne (tgt := 341) hx hb dL_law_326 (by decide) (fun c_326 => ?_) (fun c_326 => ?_)
  · refine lv_goto (tgt := 1708) hx hb dL_law_341 (by decide) ?_
    refine W.wide (k := 40 + 11 * (t + 1)) (n := 600 + 74 * (t + 1)) (by show 40 + 11 * t + 1 ≤ _; omega) (by show 600 + 74 * t + 6 ≤ _; omega) ?_
    exact NX _ _ (if hasF 0 σ (xs (4 * t + 1)) = 0 then σ else if hasF 0 σ (xs (4 * t + 2)) = 0 then σ else (if (xs (4 * t + 1)) = (xs (4 * t + 2)) then σ else if inR (xs (4 * t + 3)) 1 9 = 0 then σ else if k = 16 then σ else putD k (xs (4 * t + 1)) (xs (4 * t + 2)) (xs (4 * t + 3)) 0 σ)) τ9 κ ζ (if hasF 0 σ (xs (4 * t + 1)) = 0 then 1 else if hasF 0 σ (xs (4 * t + 2)) = 0 then 1 else (if (xs (4 * t + 1)) = (xs (4 * t + 2)) then 2 else if inR (xs (4 * t + 3)) 1 9 = 0 then 2 else if k = 16 then 3 else 0)) w9 hs9 hb9 _ _ _ hP hD hS (lv_sub hl [2, 3, 4, 5, 6] rfl)
  · refine lv_aload_n hx hb dL_law_329 rfl (lv_at hl 6 rfl) ?_
    refine lv_iconst (v := 0) hx hb dL_law_330 (by decide) ?_
    refine va_lald hx hb hK hP 25 2 rfl rfl (vp_in_nI (n := 0) (by decide) (by decide)) dL_law_331 ?_
    refine lv_iload hx hb dL_law_332 (lv_at hl 0 rfl) ?_
    refine lv_i2l hx hb dL_law_334 rfl ?_
    refine W.lcmp hx hb dL_law_335 ?_
    refine x_top (lcmp_eq (hw9 c_326)) ?_
    refine lv_if_eq (tgt := 341) hx hb dL_law_336 (by decide) (fun c_336 => ?_) (fun z => absurd (by decide) z)
    refine lv_goto (tgt := 1708) hx hb dL_law_341 (by decide) ?_
    refine W.wide (k := 40 + 11 * (t + 1)) (n := 600 + 74 * (t + 1)) (by show 40 + 11 * t + 1 ≤ _; omega) (by show 600 + 74 * t + 6 ≤ _; omega) ?_
    exact NX _ _ (if hasF 0 σ (xs (4 * t + 1)) = 0 then σ else if hasF 0 σ (xs (4 * t + 2)) = 0 then σ else (if (xs (4 * t + 1)) = (xs (4 * t + 2)) then σ else if inR (xs (4 * t + 3)) 1 9 = 0 then σ else if k = 16 then σ else putD k (xs (4 * t + 1)) (xs (4 * t + 2)) (xs (4 * t + 3)) 0 σ)) τ9 κ ζ (if hasF 0 σ (xs (4 * t + 1)) = 0 then 1 else if hasF 0 σ (xs (4 * t + 2)) = 0 then 1 else (if (xs (4 * t + 1)) = (xs (4 * t + 2)) then 2 else if inR (xs (4 * t + 3)) 1 9 = 0 then 2 else if k = 16 then 3 else 0)) w9 hs9 hb9 _ _ _ hP hD hS (lv_sub hl [2, 3, 4, 5, 6] rfl)

set_option maxHeartbeats 8000000 in
set_option maxRecDepth 100000 in
theorem law_c2 (l : Launch) (hl9 : l.stackTraces = false) {p : Program} {e : Env} {s : State} {m : MethodId} {args : Array Value} {below : List Frame} {meth : Method} {c : Code} {Q : State → Prop} (D : va_G) (cI cZ cL : ClassId) {A : Nat → Prop} {b L : Nat} {xs : Nat → Int32} (ob h : Nat) (a : Nat → Nat) (h2 : Nat) (a2 : Nat → Nat) (qo om : Nat) (bb : Nat → Nat) (hx : p.tables.exec = Jvm.exec) (hb : c.code = cL_law) (hml : c.maxLocals = 9) (hown : s.vm.findClass RL = some m.cls) (hts : ∀ w ∈ LW, w.before args s = true) (hE : EX A s s.heap) (hK : va_K D vwCl (tZ cI cZ cL) s) (hA : ∀ q : Nat, s.heap.size ≤ q → A q) (hX : va_X b L xs s s.heap) (hbl : b < s.heap.size) (hbA : ¬ A b) (hL : L ≤ 2048) {t : Nat} (ht : 4 * t + 4 ≤ L) (NX : lawN p l e s m args below meth c Q D cI cZ cL A b ob h a h2 a2 qo om bb t) {n k : Nat} (σ τ : Sg) (κ ζ : Nat → Int32) (th : Int32) (wo : Nat → Int64) (hst : Shp n k σ) (hB : Bnd (12000 * t) σ) {H : Heap} {locs : List Loc} {ls : Array Slot} (hP : va_P D vwCl ((oC ob h h2) ++ ((mC cI cZ h a σ) ++ ((mC cI cZ h2 a2 τ) ++ ((lC cL qo wo) ++ (rC cI cZ om bb σ κ ζ th))))) H) (hD : va_D A ((oC ob h h2) ++ ((mC cI cZ h a σ) ++ ((mC cI cZ h2 a2 τ) ++ ((lC cL qo wo) ++ (rC cI cZ om bb σ κ ζ th)))))) (hS : va_S A s.heap H locs) (hl : lv_has ls 9 [(4, .int (nI (4 * t))), (0, .ref b), (1, .ref ob), (2, .ref om), (3, .ref qo)]) : W p l e room_1 s m args below meth c H locs (40 + 11 * t) (600 + 74 * t) Q (F0 m 344 ls []) := by
  have hn10 := hst.1
  have hk16 := hst.2.1
  obtain ⟨n9, k9, hs9, hb9⟩ : ∃ n9 k9, Shp n9 k9 (if hasF 0 σ (xs (4 * t + 1)) = 0 then σ else if (xs (4 * t + 2)) = -1 then (if (xs (4 * t + 1)) = (xs (4 * t + 2)) then σ else if inR (xs (4 * t + 3)) 1 9 = 0 then σ else if k = 16 then σ else putD k (xs (4 * t + 1)) (xs (4 * t + 2)) (xs (4 * t + 3)) 1 σ) else if hasF 0 σ (xs (4 * t + 2)) = 0 then σ else (if (xs (4 * t + 1)) = (xs (4 * t + 2)) then σ else if inR (xs (4 * t + 3)) 1 9 = 0 then σ else if k = 16 then σ else putD k (xs (4 * t + 1)) (xs (4 * t + 2)) (xs (4 * t + 3)) 1 σ)) ∧ Bnd (12000 * (t + 1)) (if hasF 0 σ (xs (4 * t + 1)) = 0 then σ else if (xs (4 * t + 2)) = -1 then (if (xs (4 * t + 1)) = (xs (4 * t + 2)) then σ else if inR (xs (4 * t + 3)) 1 9 = 0 then σ else if k = 16 then σ else putD k (xs (4 * t + 1)) (xs (4 * t + 2)) (xs (4 * t + 3)) 1 σ) else if hasF 0 σ (xs (4 * t + 2)) = 0 then σ else (if (xs (4 * t + 1)) = (xs (4 * t + 2)) then σ else if inR (xs (4 * t + 3)) 1 9 = 0 then σ else if k = 16 then σ else putD k (xs (4 * t + 1)) (xs (4 * t + 2)) (xs (4 * t + 3)) 1 σ)) := by
    by_cases g1 : hasF 0 σ (xs (4 * t + 1)) = 0
    · rw [if_pos g1]; exact ⟨n, k, hst, hB.mono (by omega)⟩
    · by_cases g0 : (xs (4 * t + 2)) = -1
      · rw [if_neg g1, if_pos g0]
        by_cases g5 : (xs (4 * t + 1)) = (xs (4 * t + 2))
        · rw [if_pos g5]; exact ⟨n, k, hst, hB.mono (by omega)⟩
        · by_cases g6 : inR (xs (4 * t + 3)) 1 9 = 0
          · rw [if_neg g5, if_pos g6]; exact ⟨n, k, hst, hB.mono (by omega)⟩
          · by_cases g7 : k = 16
            · rw [if_neg g5, if_neg g6, if_pos g7]; exact ⟨n, k, hst, hB.mono (by omega)⟩
            · rw [if_neg g5, if_neg g6, if_neg g7]; exact ⟨n, k + 1, hst.pD g7 _ _ (hasF_lt hst.f0 (by omega) g1) (Or.inl ⟨g0, by decide⟩), (hB.pD g7 hk16 g6 (Or.inr rfl)).mono (by omega)⟩
      · by_cases g2 : hasF 0 σ (xs (4 * t + 2)) = 0
        · rw [if_neg g1, if_neg g0, if_pos g2]; exact ⟨n, k, hst, hB.mono (by omega)⟩
        · rw [if_neg g1, if_neg g0, if_neg g2]
          by_cases g5 : (xs (4 * t + 1)) = (xs (4 * t + 2))
          · rw [if_pos g5]; exact ⟨n, k, hst, hB.mono (by omega)⟩
          · by_cases g6 : inR (xs (4 * t + 3)) 1 9 = 0
            · rw [if_neg g5, if_pos g6]; exact ⟨n, k, hst, hB.mono (by omega)⟩
            · by_cases g7 : k = 16
              · rw [if_neg g5, if_neg g6, if_pos g7]; exact ⟨n, k, hst, hB.mono (by omega)⟩
              · rw [if_neg g5, if_neg g6, if_neg g7]; exact ⟨n, k + 1, hst.pD g7 _ _ (hasF_lt hst.f0 (by omega) g1) (Or.inr (hasF_lt hst.f0 (by omega) g2)), (hB.pD g7 hk16 g6 (Or.inr rfl)).mono (by omega)⟩
  refine lv_aload_n hx hb dL_law_344 rfl (lv_at hl 2 rfl) ?_
  refine lv_aload_n hx hb dL_law_345 rfl (lv_at hl 1 rfl) ?_
  refine lv_iload hx hb dL_law_346 (lv_at hl 0 rfl) ?_
  refine lv_iconst (v := 1) hx hb dL_law_348 (by decide) ?_
  refine lv_iadd hx hb dL_law_349 ?_
  refine x_top (nI_add (4 * t) 1) ?_
  refine va_sld hx hb hX hbl hbA hS (vp_in_nI (n := (4 * t) + 1) (by omega) (by omega)) dL_law_350 ?_
  refine x_top (show xs (nI ((4 * t) + 1)).toNatClampNeg = xs ((4 * t) + 1) by rw [nI_clamp (by omega)]) ?_
  refine lv_aload_n hx hb dL_law_351 rfl (lv_at hl 1 rfl) ?_
  refine lv_iload hx hb dL_law_352 (lv_at hl 0 rfl) ?_
  refine lv_iconst (v := 2) hx hb dL_law_354 (by decide) ?_
  refine lv_iadd hx hb dL_law_355 ?_
  refine x_top (nI_add (4 * t) 2) ?_
  refine va_sld hx hb hX hbl hbA hS (vp_in_nI (n := (4 * t) + 2) (by omega) (by omega)) dL_law_356 ?_
  refine x_top (show xs (nI ((4 * t) + 2)).toNatClampNeg = xs ((4 * t) + 2) by rw [nI_clamp (by omega)]) ?_
  refine lv_aload_n hx hb dL_law_357 rfl (lv_at hl 1 rfl) ?_
  refine lv_iload hx hb dL_law_358 (lv_at hl 0 rfl) ?_
  refine lv_iconst (v := 3) hx hb dL_law_360 (by decide) ?_
  refine lv_iadd hx hb dL_law_361 ?_
  refine x_top (nI_add (4 * t) 3) ?_
  refine va_sld hx hb hX hbl hbA hS (vp_in_nI (n := (4 * t) + 3) (by omega) (by omega)) dL_law_362 ?_
  refine x_top (show xs (nI ((4 * t) + 3)).toNatClampNeg = xs ((4 * t) + 3) by rw [nI_clamp (by omega)]) ?_
  refine lv_aload_n hx hb dL_law_363 rfl (lv_at hl 4 rfl) ?_
  refine MH.callS (As := [.ref ob, .int (xs ((4 * t) + 1)), .int (xs ((4 * t) + 2)), .int (xs ((4 * t) + 3)), .ref qo]) (rest := []) (w0 := []) (w2 := rC cI cZ om bb σ κ ζ th) (c_L_addPump l hl9 D cI cZ cL ob h a h2 a2 σ τ hst (xs (4 * t + 1)) (xs (4 * t + 2)) (xs (4 * t + 3)) qo wo) ⟨hx, hb, hml, hown, hts⟩ q486 b_L_addPump (n := 5) (by decide +kernel) ⟨Nat.le_of_ble_eq_true rfl, Nat.le_of_ble_eq_true rfl⟩ hK hP hD hS hA hE (spH _ _ _ _ _) rfl hl.1 rfl (Nat.le_of_ble_eq_true rfl) dL_law_364 ⟨by show 40 + 11 * t + 0 + 1 ≤ 671377; omega, by show 600 + 74 * t + 0 + 6 ≤ 7081972; omega⟩ (fun x9 H locs hP hD hS => ?_)
  obtain ⟨⟨τ9, w9⟩, hw9⟩ := x9
  have hw9 : (if hasF 0 σ (xs (4 * t + 1)) = 0 then 1 else if (xs (4 * t + 2)) = -1 then (if (xs (4 * t + 1)) = (xs (4 * t + 2)) then 2 else if inR (xs (4 * t + 3)) 1 9 = 0 then 2 else if k = 16 then 3 else 0) else if hasF 0 σ (xs (4 * t + 2)) = 0 then 1 else (if (xs (4 * t + 1)) = (xs (4 * t + 2)) then 2 else if inR (xs (4 * t + 3)) 1 9 = 0 then 2 else if k = 16 then 3 else 0) : Int32) = 0 → w9 0 = (if hasF 0 σ (xs (4 * t + 1)) = 0 then 0 else if (xs (4 * t + 2)) = -1 then (if (xs (4 * t + 1)) = (xs (4 * t + 2)) then 0 else if inR (xs (4 * t + 3)) 1 9 = 0 then 0 else if k = 16 then 0 else nI k) else if hasF 0 σ (xs (4 * t + 2)) = 0 then 0 else (if (xs (4 * t + 1)) = (xs (4 * t + 2)) then 0 else if inR (xs (4 * t + 3)) 1 9 = 0 then 0 else if k = 16 then 0 else nI k) : Int32).toInt64 := hw9
  have hP : va_P D vwCl ((oC ob h h2) ++ ((mC cI cZ h a (if hasF 0 σ (xs (4 * t + 1)) = 0 then σ else if (xs (4 * t + 2)) = -1 then (if (xs (4 * t + 1)) = (xs (4 * t + 2)) then σ else if inR (xs (4 * t + 3)) 1 9 = 0 then σ else if k = 16 then σ else putD k (xs (4 * t + 1)) (xs (4 * t + 2)) (xs (4 * t + 3)) 1 σ) else if hasF 0 σ (xs (4 * t + 2)) = 0 then σ else (if (xs (4 * t + 1)) = (xs (4 * t + 2)) then σ else if inR (xs (4 * t + 3)) 1 9 = 0 then σ else if k = 16 then σ else putD k (xs (4 * t + 1)) (xs (4 * t + 2)) (xs (4 * t + 3)) 1 σ))) ++ ((mC cI cZ h2 a2 τ9) ++ ((lC cL qo w9) ++ (rC cI cZ om bb σ κ ζ th))))) H := hP
  have hD : va_D A ((oC ob h h2) ++ ((mC cI cZ h a (if hasF 0 σ (xs (4 * t + 1)) = 0 then σ else if (xs (4 * t + 2)) = -1 then (if (xs (4 * t + 1)) = (xs (4 * t + 2)) then σ else if inR (xs (4 * t + 3)) 1 9 = 0 then σ else if k = 16 then σ else putD k (xs (4 * t + 1)) (xs (4 * t + 2)) (xs (4 * t + 3)) 1 σ) else if hasF 0 σ (xs (4 * t + 2)) = 0 then σ else (if (xs (4 * t + 1)) = (xs (4 * t + 2)) then σ else if inR (xs (4 * t + 3)) 1 9 = 0 then σ else if k = 16 then σ else putD k (xs (4 * t + 1)) (xs (4 * t + 2)) (xs (4 * t + 3)) 1 σ))) ++ ((mC cI cZ h2 a2 τ9) ++ ((lC cL qo w9) ++ (rC cI cZ om bb σ κ ζ th))))) := hD
  refine lv_istore (lv' := [(5, .int (if hasF 0 σ (xs (4 * t + 1)) = 0 then 1 else if (xs (4 * t + 2)) = -1 then (if (xs (4 * t + 1)) = (xs (4 * t + 2)) then 2 else if inR (xs (4 * t + 3)) 1 9 = 0 then 2 else if k = 16 then 3 else 0) else if hasF 0 σ (xs (4 * t + 2)) = 0 then 1 else (if (xs (4 * t + 1)) = (xs (4 * t + 2)) then 2 else if inR (xs (4 * t + 3)) 1 9 = 0 then 2 else if k = 16 then 3 else 0))), (4, .int (nI (4 * t))), (0, .ref b), (1, .ref ob), (2, .ref om), (3, .ref qo)]) hx hb dL_law_367 hl (by decide) rfl (fun ls hl => ?_)
  refine lv_aload_n hx hb dL_law_369 rfl (lv_at hl 4 rfl) ?_
  refine lv_aload_n hx hb dL_law_370 rfl (lv_at hl 2 rfl) ?_
  refine lv_iload hx hb dL_law_371 (lv_at hl 1 rfl) ?_
  refine lv_iconst (v := 1) hx hb dL_law_373 (by decide) ?_
  refine lv_iadd hx hb dL_law_374 ?_
  refine x_top (nI_add (4 * t) 1) ?_
  refine va_sld hx hb hX hbl hbA hS (vp_in_nI (n := (4 * t) + 1) (by omega) (by omega)) dL_law_375 ?_
  refine x_top (show xs (nI ((4 * t) + 1)).toNatClampNeg = xs ((4 * t) + 1) by rw [nI_clamp (by omega)]) ?_
  refine lv_aload_n hx hb dL_law_376 rfl (lv_at hl 2 rfl) ?_
  refine lv_iload hx hb dL_law_377 (lv_at hl 1 rfl) ?_
  refine lv_iconst (v := 2) hx hb dL_law_379 (by decide) ?_
  refine lv_iadd hx hb dL_law_380 ?_
  refine x_top (nI_add (4 * t) 2) ?_
  refine va_sld hx hb hX hbl hbA hS (vp_in_nI (n := (4 * t) + 2) (by omega) (by omega)) dL_law_381 ?_
  refine x_top (show xs (nI ((4 * t) + 2)).toNatClampNeg = xs ((4 * t) + 2) by rw [nI_clamp (by omega)]) ?_
  refine lv_aload_n hx hb dL_law_382 rfl (lv_at hl 2 rfl) ?_
  refine lv_iload hx hb dL_law_383 (lv_at hl 1 rfl) ?_
  refine lv_iconst (v := 3) hx hb dL_law_385 (by decide) ?_
  refine lv_iadd hx hb dL_law_386 ?_
  refine x_top (nI_add (4 * t) 3) ?_
  refine va_sld hx hb hX hbl hbA hS (vp_in_nI (n := (4 * t) + 3) (by omega) (by omega)) dL_law_387 ?_
  refine x_top (show xs (nI ((4 * t) + 3)).toNatClampNeg = xs ((4 * t) + 3) by rw [nI_clamp (by omega)]) ?_
  refine MC.callV (C := RX2) (T := TX2) (N := 14) (As := [.int (xs ((4 * t) + 1)), .int (xs ((4 * t) + 2)), .int (xs ((4 * t) + 3))]) (rest := []) (wB := (oC ob h h2) ++ ((mC cI cZ h a (if hasF 0 σ (xs (4 * t + 1)) = 0 then σ else if (xs (4 * t + 2)) = -1 then (if (xs (4 * t + 1)) = (xs (4 * t + 2)) then σ else if inR (xs (4 * t + 3)) 1 9 = 0 then σ else if k = 16 then σ else putD k (xs (4 * t + 1)) (xs (4 * t + 2)) (xs (4 * t + 3)) 1 σ) else if hasF 0 σ (xs (4 * t + 2)) = 0 then σ else (if (xs (4 * t + 1)) = (xs (4 * t + 2)) then σ else if inR (xs (4 * t + 3)) 1 9 = 0 then σ else if k = 16 then σ else putD k (xs (4 * t + 1)) (xs (4 * t + 2)) (xs (4 * t + 3)) 1 σ))) ++ ((mC cI cZ h2 a2 τ9) ++ ((lC cL qo w9) ++ (rC cI cZ om bb (if hasF 0 σ (xs (4 * t + 1)) = 0 then σ else if (xs (4 * t + 2)) = -1 then (if (xs (4 * t + 1)) = (xs (4 * t + 2)) then σ else if inR (xs (4 * t + 3)) 1 9 = 0 then σ else if k = 16 then σ else putD k (xs (4 * t + 1)) (xs (4 * t + 2)) (xs (4 * t + 3)) 1 σ) else if hasF 0 σ (xs (4 * t + 2)) = 0 then σ else (if (xs (4 * t + 1)) = (xs (4 * t + 2)) then σ else if inR (xs (4 * t + 3)) 1 9 = 0 then σ else if k = 16 then σ else putD k (xs (4 * t + 1)) (xs (4 * t + 2)) (xs (4 * t + 3)) 1 σ)) κ ζ (if hasF 0 σ (xs (4 * t + 1)) = 0 then 1 else if (xs (4 * t + 2)) = -1 then (if (xs (4 * t + 1)) = (xs (4 * t + 2)) then 2 else if inR (xs (4 * t + 3)) 1 9 = 0 then 2 else if k = 16 then 3 else 0) else if hasF 0 σ (xs (4 * t + 2)) = 0 then 1 else (if (xs (4 * t + 1)) = (xs (4 * t + 2)) then 2 else if inR (xs (4 * t + 3)) 1 9 = 0 then 2 else if k = 16 then 3 else 0))))))) (c_X2_addPump l D cI cZ cL om bb σ κ ζ th hst (xs (4 * t + 1)) (xs (4 * t + 2)) (xs (4 * t + 3))) ⟨hx, hb, hml, hown, hts⟩ q662 b_X2_addPump (n := 3) (by decide +kernel) ⟨Nat.le_of_ble_eq_true rfl, Nat.le_of_ble_eq_true rfl⟩ hK hP hD hS hA (spR _ _ _ _ _) (spR _ _ _ _ _) (ci := 2) rfl (q0 := 26) rfl rfl hl.1 rfl (Nat.le_of_ble_eq_true rfl) dL_law_388 ⟨by show 40 + 11 * t + 1 + 0 ≤ 671377; omega, by show 600 + 74 * t + 6 + 0 ≤ 7081972; omega⟩ (fun H locs hP hD hS => ?_)
  refine lv_istore (lv' := [(6, .int (if hasF 0 σ (xs (4 * t + 1)) = 0 then 0 else if (xs (4 * t + 2)) = -1 then (if (xs (4 * t + 1)) = (xs (4 * t + 2)) then 0 else if inR (xs (4 * t + 3)) 1 9 = 0 then 0 else if k = 16 then 0 else nI k) else if hasF 0 σ (xs (4 * t + 2)) = 0 then 0 else (if (xs (4 * t + 1)) = (xs (4 * t + 2)) then 0 else if inR (xs (4 * t + 3)) 1 9 = 0 then 0 else if k = 16 then 0 else nI k))), (5, .int (if hasF 0 σ (xs (4 * t + 1)) = 0 then 1 else if (xs (4 * t + 2)) = -1 then (if (xs (4 * t + 1)) = (xs (4 * t + 2)) then 2 else if inR (xs (4 * t + 3)) 1 9 = 0 then 2 else if k = 16 then 3 else 0) else if hasF 0 σ (xs (4 * t + 2)) = 0 then 1 else (if (xs (4 * t + 1)) = (xs (4 * t + 2)) then 2 else if inR (xs (4 * t + 3)) 1 9 = 0 then 2 else if k = 16 then 3 else 0))), (4, .int (nI (4 * t))), (0, .ref b), (1, .ref ob), (2, .ref om), (3, .ref qo)]) hx hb dL_law_391 hl (by decide) rfl (fun ls hl => ?_)
  refine lv_aload_n hx hb dL_law_393 rfl (lv_at hl 5 rfl) ?_
  refine MC.callV (C := RX2) (T := TX2) (N := 14) (As := []) (rest := []) (wB := (oC ob h h2) ++ ((mC cI cZ h a (if hasF 0 σ (xs (4 * t + 1)) = 0 then σ else if (xs (4 * t + 2)) = -1 then (if (xs (4 * t + 1)) = (xs (4 * t + 2)) then σ else if inR (xs (4 * t + 3)) 1 9 = 0 then σ else if k = 16 then σ else putD k (xs (4 * t + 1)) (xs (4 * t + 2)) (xs (4 * t + 3)) 1 σ) else if hasF 0 σ (xs (4 * t + 2)) = 0 then σ else (if (xs (4 * t + 1)) = (xs (4 * t + 2)) then σ else if inR (xs (4 * t + 3)) 1 9 = 0 then σ else if k = 16 then σ else putD k (xs (4 * t + 1)) (xs (4 * t + 2)) (xs (4 * t + 3)) 1 σ))) ++ ((mC cI cZ h2 a2 τ9) ++ ((lC cL qo w9) ++ (rC cI cZ om bb (if hasF 0 σ (xs (4 * t + 1)) = 0 then σ else if (xs (4 * t + 2)) = -1 then (if (xs (4 * t + 1)) = (xs (4 * t + 2)) then σ else if inR (xs (4 * t + 3)) 1 9 = 0 then σ else if k = 16 then σ else putD k (xs (4 * t + 1)) (xs (4 * t + 2)) (xs (4 * t + 3)) 1 σ) else if hasF 0 σ (xs (4 * t + 2)) = 0 then σ else (if (xs (4 * t + 1)) = (xs (4 * t + 2)) then σ else if inR (xs (4 * t + 3)) 1 9 = 0 then σ else if k = 16 then σ else putD k (xs (4 * t + 1)) (xs (4 * t + 2)) (xs (4 * t + 3)) 1 σ)) κ ζ (if hasF 0 σ (xs (4 * t + 1)) = 0 then 1 else if (xs (4 * t + 2)) = -1 then (if (xs (4 * t + 1)) = (xs (4 * t + 2)) then 2 else if inR (xs (4 * t + 3)) 1 9 = 0 then 2 else if k = 16 then 3 else 0) else if hasF 0 σ (xs (4 * t + 2)) = 0 then 1 else (if (xs (4 * t + 1)) = (xs (4 * t + 2)) then 2 else if inR (xs (4 * t + 3)) 1 9 = 0 then 2 else if k = 16 then 3 else 0))))))) (c_X2_thrown l D cI cZ cL om bb (if hasF 0 σ (xs (4 * t + 1)) = 0 then σ else if (xs (4 * t + 2)) = -1 then (if (xs (4 * t + 1)) = (xs (4 * t + 2)) then σ else if inR (xs (4 * t + 3)) 1 9 = 0 then σ else if k = 16 then σ else putD k (xs (4 * t + 1)) (xs (4 * t + 2)) (xs (4 * t + 3)) 1 σ) else if hasF 0 σ (xs (4 * t + 2)) = 0 then σ else (if (xs (4 * t + 1)) = (xs (4 * t + 2)) then σ else if inR (xs (4 * t + 3)) 1 9 = 0 then σ else if k = 16 then σ else putD k (xs (4 * t + 1)) (xs (4 * t + 2)) (xs (4 * t + 3)) 1 σ)) κ ζ (if hasF 0 σ (xs (4 * t + 1)) = 0 then 1 else if (xs (4 * t + 2)) = -1 then (if (xs (4 * t + 1)) = (xs (4 * t + 2)) then 2 else if inR (xs (4 * t + 3)) 1 9 = 0 then 2 else if k = 16 then 3 else 0) else if hasF 0 σ (xs (4 * t + 2)) = 0 then 1 else (if (xs (4 * t + 1)) = (xs (4 * t + 2)) then 2 else if inR (xs (4 * t + 3)) 1 9 = 0 then 2 else if k = 16 then 3 else 0))) ⟨hx, hb, hml, hown, hts⟩ q635 b_X2_thrown (n := 0) (by decide +kernel) ⟨Nat.le_of_ble_eq_true rfl, Nat.le_of_ble_eq_true rfl⟩ hK hP hD hS hA (spR _ _ _ _ _) (spR _ _ _ _ _) (ci := 2) rfl (q0 := 26) rfl rfl hl.1 rfl (Nat.le_of_ble_eq_true rfl) dL_law_394 ⟨by show 40 + 11 * t + 1 + 0 ≤ 671377; omega, by show 600 + 74 * t + 6 + 0 ≤ 7081972; omega⟩ (fun H locs hP hD hS => ?_)
  refine lv_iload hx hb dL_law_397 (lv_at hl 1 rfl) ?_
  refine lv_icmp_eq (tgt := 404) hx hb dL_law_399 (by decide) (fun c_399 => ?_) (fun z => absurd (rfl) z)
  refine lv_iload hx hb dL_law_404 (lv_at hl 1 rfl) ?_
  refine lv_if_ne (tgt := 421) hx hb dL_law_406 (by decide) (fun c_406 => ?_) (fun c_406 => ?_)
  · refine lv_goto (tgt := 1708) hx hb dL_law_421 (by decide) ?_
    refine W.wide (k := 40 + 11 * (t + 1)) (n := 600 + 74 * (t + 1)) (by show 40 + 11 * t + 1 ≤ _; omega) (by show 600 + 74 * t + 6 ≤ _; omega) ?_
    exact NX _ _ (if hasF 0 σ (xs (4 * t + 1)) = 0 then σ else if (xs (4 * t + 2)) = -1 then (if (xs (4 * t + 1)) = (xs (4 * t + 2)) then σ else if inR (xs (4 * t + 3)) 1 9 = 0 then σ else if k = 16 then σ else putD k (xs (4 * t + 1)) (xs (4 * t + 2)) (xs (4 * t + 3)) 1 σ) else if hasF 0 σ (xs (4 * t + 2)) = 0 then σ else (if (xs (4 * t + 1)) = (xs (4 * t + 2)) then σ else if inR (xs (4 * t + 3)) 1 9 = 0 then σ else if k = 16 then σ else putD k (xs (4 * t + 1)) (xs (4 * t + 2)) (xs (4 * t + 3)) 1 σ)) τ9 κ ζ (if hasF 0 σ (xs (4 * t + 1)) = 0 then 1 else if (xs (4 * t + 2)) = -1 then (if (xs (4 * t + 1)) = (xs (4 * t + 2)) then 2 else if inR (xs (4 * t + 3)) 1 9 = 0 then 2 else if k = 16 then 3 else 0) else if hasF 0 σ (xs (4 * t + 2)) = 0 then 1 else (if (xs (4 * t + 1)) = (xs (4 * t + 2)) then 2 else if inR (xs (4 * t + 3)) 1 9 = 0 then 2 else if k = 16 then 3 else 0)) w9 hs9 hb9 _ _ _ hP hD hS (lv_sub hl [2, 3, 4, 5, 6] rfl)
  · refine lv_aload_n hx hb dL_law_409 rfl (lv_at hl 6 rfl) ?_
    refine lv_iconst (v := 0) hx hb dL_law_410 (by decide) ?_
    refine va_lald hx hb hK hP 25 2 rfl rfl (vp_in_nI (n := 0) (by decide) (by decide)) dL_law_411 ?_
    refine lv_iload hx hb dL_law_412 (lv_at hl 0 rfl) ?_
    refine lv_i2l hx hb dL_law_414 rfl ?_
    refine W.lcmp hx hb dL_law_415 ?_
    refine x_top (lcmp_eq (hw9 c_406)) ?_
    refine lv_if_eq (tgt := 421) hx hb dL_law_416 (by decide) (fun c_416 => ?_) (fun z => absurd (by decide) z)
    refine lv_goto (tgt := 1708) hx hb dL_law_421 (by decide) ?_
    refine W.wide (k := 40 + 11 * (t + 1)) (n := 600 + 74 * (t + 1)) (by show 40 + 11 * t + 1 ≤ _; omega) (by show 600 + 74 * t + 6 ≤ _; omega) ?_
    exact NX _ _ (if hasF 0 σ (xs (4 * t + 1)) = 0 then σ else if (xs (4 * t + 2)) = -1 then (if (xs (4 * t + 1)) = (xs (4 * t + 2)) then σ else if inR (xs (4 * t + 3)) 1 9 = 0 then σ else if k = 16 then σ else putD k (xs (4 * t + 1)) (xs (4 * t + 2)) (xs (4 * t + 3)) 1 σ) else if hasF 0 σ (xs (4 * t + 2)) = 0 then σ else (if (xs (4 * t + 1)) = (xs (4 * t + 2)) then σ else if inR (xs (4 * t + 3)) 1 9 = 0 then σ else if k = 16 then σ else putD k (xs (4 * t + 1)) (xs (4 * t + 2)) (xs (4 * t + 3)) 1 σ)) τ9 κ ζ (if hasF 0 σ (xs (4 * t + 1)) = 0 then 1 else if (xs (4 * t + 2)) = -1 then (if (xs (4 * t + 1)) = (xs (4 * t + 2)) then 2 else if inR (xs (4 * t + 3)) 1 9 = 0 then 2 else if k = 16 then 3 else 0) else if hasF 0 σ (xs (4 * t + 2)) = 0 then 1 else (if (xs (4 * t + 1)) = (xs (4 * t + 2)) then 2 else if inR (xs (4 * t + 3)) 1 9 = 0 then 2 else if k = 16 then 3 else 0)) w9 hs9 hb9 _ _ _ hP hD hS (lv_sub hl [2, 3, 4, 5, 6] rfl)

set_option maxHeartbeats 8000000 in
set_option maxRecDepth 100000 in
theorem law_c3 (l : Launch) (hl9 : l.stackTraces = false) {p : Program} {e : Env} {s : State} {m : MethodId} {args : Array Value} {below : List Frame} {meth : Method} {c : Code} {Q : State → Prop} (D : va_G) (cI cZ cL : ClassId) {A : Nat → Prop} {b L : Nat} {xs : Nat → Int32} (ob h : Nat) (a : Nat → Nat) (h2 : Nat) (a2 : Nat → Nat) (qo om : Nat) (bb : Nat → Nat) (hx : p.tables.exec = Jvm.exec) (hb : c.code = cL_law) (hml : c.maxLocals = 9) (hown : s.vm.findClass RL = some m.cls) (hts : ∀ w ∈ LW, w.before args s = true) (hE : EX A s s.heap) (hK : va_K D vwCl (tZ cI cZ cL) s) (hA : ∀ q : Nat, s.heap.size ≤ q → A q) (hX : va_X b L xs s s.heap) (hbl : b < s.heap.size) (hbA : ¬ A b) (hL : L ≤ 2048) {t : Nat} (ht : 4 * t + 4 ≤ L) (NX : lawN p l e s m args below meth c Q D cI cZ cL A b ob h a h2 a2 qo om bb t) {n k : Nat} (σ τ : Sg) (κ ζ : Nat → Int32) (th : Int32) (wo : Nat → Int64) (hst : Shp n k σ) (hB : Bnd (12000 * t) σ) {H : Heap} {locs : List Loc} {ls : Array Slot} (hP : va_P D vwCl ((oC ob h h2) ++ ((mC cI cZ h a σ) ++ ((mC cI cZ h2 a2 τ) ++ ((lC cL qo wo) ++ (rC cI cZ om bb σ κ ζ th))))) H) (hD : va_D A ((oC ob h h2) ++ ((mC cI cZ h a σ) ++ ((mC cI cZ h2 a2 τ) ++ ((lC cL qo wo) ++ (rC cI cZ om bb σ κ ζ th)))))) (hS : va_S A s.heap H locs) (hl : lv_has ls 9 [(4, .int (nI (4 * t))), (0, .ref b), (1, .ref ob), (2, .ref om), (3, .ref qo)]) : W p l e room_1 s m args below meth c H locs (40 + 11 * t) (600 + 74 * t) Q (F0 m 424 ls []) := by
  have hn10 := hst.1
  have hk16 := hst.2.1
  obtain ⟨n9, k9, hs9, hb9⟩ : ∃ n9 k9, Shp n9 k9 (if hasF 1 σ (xs (4 * t + 1)) = 0 then σ else turnS σ (xs (4 * t + 1)).toNatClampNeg) ∧ Bnd (12000 * (t + 1)) (if hasF 1 σ (xs (4 * t + 1)) = 0 then σ else turnS σ (xs (4 * t + 1)).toNatClampNeg) := by
    by_cases g1 : hasF 1 σ (xs (4 * t + 1)) = 0
    · rw [if_pos g1]; exact ⟨n, k, hst, hB.mono (by omega)⟩
    · rw [if_neg g1]; exact ⟨n, k, hst.tu _, (hB.tu _).mono (by omega)⟩
  have hv01 : (if hasF 1 σ (xs (4 * t + 1)) = 0 then 0 else turnS σ (xs (4 * t + 1)).toNatClampNeg 10 (xs (4 * t + 1)).toNatClampNeg) = 0 ∨ (if hasF 1 σ (xs (4 * t + 1)) = 0 then 0 else turnS σ (xs (4 * t + 1)).toNatClampNeg 10 (xs (4 * t + 1)).toNatClampNeg) = 1 := by
    by_cases g1 : hasF 1 σ (xs (4 * t + 1)) = 0
    · rw [if_pos g1]; exact Or.inl rfl
    · rw [if_neg g1]; obtain ⟨j, hj, ej⟩ := hasF_lt hst.f1 (by omega) g1; rw [ej, nI_clamp (by omega)]; exact (hB.tu j).2.2.2.2.2.2 j (by omega)
  refine lv_aload_n hx hb dL_law_424 rfl (lv_at hl 2 rfl) ?_
  refine lv_aload_n hx hb dL_law_425 rfl (lv_at hl 1 rfl) ?_
  refine lv_iload hx hb dL_law_426 (lv_at hl 0 rfl) ?_
  refine lv_iconst (v := 1) hx hb dL_law_428 (by decide) ?_
  refine lv_iadd hx hb dL_law_429 ?_
  refine x_top (nI_add (4 * t) 1) ?_
  refine va_sld hx hb hX hbl hbA hS (vp_in_nI (n := (4 * t) + 1) (by omega) (by omega)) dL_law_430 ?_
  refine x_top (show xs (nI ((4 * t) + 1)).toNatClampNeg = xs ((4 * t) + 1) by rw [nI_clamp (by omega)]) ?_
  refine lv_aload_n hx hb dL_law_431 rfl (lv_at hl 4 rfl) ?_
  refine MH.callS (As := [.ref ob, .int (xs ((4 * t) + 1)), .ref qo]) (rest := []) (w0 := []) (w2 := rC cI cZ om bb σ κ ζ th) (c_L_turn l hl9 D cI cZ cL ob h a h2 a2 σ τ hst hB (xs (4 * t + 1)) qo wo) ⟨hx, hb, hml, hown, hts⟩ q493 b_L_turn (n := 3) (by decide +kernel) ⟨Nat.le_of_ble_eq_true rfl, Nat.le_of_ble_eq_true rfl⟩ hK hP hD hS hA hE (spH _ _ _ _ _) rfl hl.1 rfl (Nat.le_of_ble_eq_true rfl) dL_law_432 ⟨by show 40 + 11 * t + 0 + 1 ≤ 671377; omega, by show 600 + 74 * t + 0 + 6 ≤ 7081972; omega⟩ (fun x9 H locs hP hD hS => ?_)
  obtain ⟨⟨τ9, w9⟩, hw9⟩ := x9
  have hw9 : (if hasF 1 σ (xs (4 * t + 1)) = 0 then 1 else 0 : Int32) = 0 → w9 0 = (if hasF 1 σ (xs (4 * t + 1)) = 0 then 0 else turnS σ (xs (4 * t + 1)).toNatClampNeg 10 (xs (4 * t + 1)).toNatClampNeg : Int32).toInt64 := hw9
  have hP : va_P D vwCl ((oC ob h h2) ++ ((mC cI cZ h a (if hasF 1 σ (xs (4 * t + 1)) = 0 then σ else turnS σ (xs (4 * t + 1)).toNatClampNeg)) ++ ((mC cI cZ h2 a2 τ9) ++ ((lC cL qo w9) ++ (rC cI cZ om bb σ κ ζ th))))) H := hP
  have hD : va_D A ((oC ob h h2) ++ ((mC cI cZ h a (if hasF 1 σ (xs (4 * t + 1)) = 0 then σ else turnS σ (xs (4 * t + 1)).toNatClampNeg)) ++ ((mC cI cZ h2 a2 τ9) ++ ((lC cL qo w9) ++ (rC cI cZ om bb σ κ ζ th))))) := hD
  refine lv_istore (lv' := [(5, .int (if hasF 1 σ (xs (4 * t + 1)) = 0 then 1 else 0)), (4, .int (nI (4 * t))), (0, .ref b), (1, .ref ob), (2, .ref om), (3, .ref qo)]) hx hb dL_law_435 hl (by decide) rfl (fun ls hl => ?_)
  refine lv_aload_n hx hb dL_law_437 rfl (lv_at hl 4 rfl) ?_
  refine lv_aload_n hx hb dL_law_438 rfl (lv_at hl 2 rfl) ?_
  refine lv_iload hx hb dL_law_439 (lv_at hl 1 rfl) ?_
  refine lv_iconst (v := 1) hx hb dL_law_441 (by decide) ?_
  refine lv_iadd hx hb dL_law_442 ?_
  refine x_top (nI_add (4 * t) 1) ?_
  refine va_sld hx hb hX hbl hbA hS (vp_in_nI (n := (4 * t) + 1) (by omega) (by omega)) dL_law_443 ?_
  refine x_top (show xs (nI ((4 * t) + 1)).toNatClampNeg = xs ((4 * t) + 1) by rw [nI_clamp (by omega)]) ?_
  refine MC.callV (C := RX2) (T := TX2) (N := 14) (As := [.int (xs ((4 * t) + 1))]) (rest := []) (wB := (oC ob h h2) ++ ((mC cI cZ h a (if hasF 1 σ (xs (4 * t + 1)) = 0 then σ else turnS σ (xs (4 * t + 1)).toNatClampNeg)) ++ ((mC cI cZ h2 a2 τ9) ++ ((lC cL qo w9) ++ (rC cI cZ om bb (if hasF 1 σ (xs (4 * t + 1)) = 0 then σ else turnS σ (xs (4 * t + 1)).toNatClampNeg) κ ζ (if hasF 1 σ (xs (4 * t + 1)) = 0 then 1 else 0)))))) (c_X2_turn l D cI cZ cL om bb σ κ ζ th hst hB (xs (4 * t + 1))) ⟨hx, hb, hml, hown, hts⟩ q666 b_X2_turn (n := 1) (by decide +kernel) ⟨Nat.le_of_ble_eq_true rfl, Nat.le_of_ble_eq_true rfl⟩ hK hP hD hS hA (spR _ _ _ _ _) (spR _ _ _ _ _) (ci := 2) rfl (q0 := 26) rfl rfl hl.1 rfl (Nat.le_of_ble_eq_true rfl) dL_law_444 ⟨by show 40 + 11 * t + 1 + 0 ≤ 671377; omega, by show 600 + 74 * t + 6 + 0 ≤ 7081972; omega⟩ (fun H locs hP hD hS => ?_)
  refine lv_istore (lv' := [(6, .int (if hasF 1 σ (xs (4 * t + 1)) = 0 then 0 else turnS σ (xs (4 * t + 1)).toNatClampNeg 10 (xs (4 * t + 1)).toNatClampNeg)), (5, .int (if hasF 1 σ (xs (4 * t + 1)) = 0 then 1 else 0)), (4, .int (nI (4 * t))), (0, .ref b), (1, .ref ob), (2, .ref om), (3, .ref qo)]) hx hb dL_law_447 hl (by decide) rfl (fun ls hl => ?_)
  refine lv_aload_n hx hb dL_law_449 rfl (lv_at hl 5 rfl) ?_
  refine MC.callV (C := RX2) (T := TX2) (N := 14) (As := []) (rest := []) (wB := (oC ob h h2) ++ ((mC cI cZ h a (if hasF 1 σ (xs (4 * t + 1)) = 0 then σ else turnS σ (xs (4 * t + 1)).toNatClampNeg)) ++ ((mC cI cZ h2 a2 τ9) ++ ((lC cL qo w9) ++ (rC cI cZ om bb (if hasF 1 σ (xs (4 * t + 1)) = 0 then σ else turnS σ (xs (4 * t + 1)).toNatClampNeg) κ ζ (if hasF 1 σ (xs (4 * t + 1)) = 0 then 1 else 0)))))) (c_X2_thrown l D cI cZ cL om bb (if hasF 1 σ (xs (4 * t + 1)) = 0 then σ else turnS σ (xs (4 * t + 1)).toNatClampNeg) κ ζ (if hasF 1 σ (xs (4 * t + 1)) = 0 then 1 else 0)) ⟨hx, hb, hml, hown, hts⟩ q635 b_X2_thrown (n := 0) (by decide +kernel) ⟨Nat.le_of_ble_eq_true rfl, Nat.le_of_ble_eq_true rfl⟩ hK hP hD hS hA (spR _ _ _ _ _) (spR _ _ _ _ _) (ci := 2) rfl (q0 := 26) rfl rfl hl.1 rfl (Nat.le_of_ble_eq_true rfl) dL_law_450 ⟨by show 40 + 11 * t + 1 + 0 ≤ 671377; omega, by show 600 + 74 * t + 6 + 0 ≤ 7081972; omega⟩ (fun H locs hP hD hS => ?_)
  refine lv_iload hx hb dL_law_453 (lv_at hl 1 rfl) ?_
  refine lv_icmp_eq (tgt := 460) hx hb dL_law_455 (by decide) (fun c_455 => ?_) (fun z => absurd (rfl) z)
  refine lv_iload hx hb dL_law_460 (lv_at hl 1 rfl) ?_
  refine lv_if_ne (tgt := 484) hx hb dL_law_462 (by decide) (fun c_462 => ?_) (fun c_462 => ?_)
  · refine lv_goto (tgt := 1708) hx hb dL_law_484 (by decide) ?_
    refine W.wide (k := 40 + 11 * (t + 1)) (n := 600 + 74 * (t + 1)) (by show 40 + 11 * t + 1 ≤ _; omega) (by show 600 + 74 * t + 6 ≤ _; omega) ?_
    exact NX _ _ (if hasF 1 σ (xs (4 * t + 1)) = 0 then σ else turnS σ (xs (4 * t + 1)).toNatClampNeg) τ9 κ ζ (if hasF 1 σ (xs (4 * t + 1)) = 0 then 1 else 0) w9 hs9 hb9 _ _ _ hP hD hS (lv_sub hl [2, 3, 4, 5, 6] rfl)
  · refine lv_aload_n hx hb dL_law_465 rfl (lv_at hl 6 rfl) ?_
    refine lv_iconst (v := 0) hx hb dL_law_466 (by decide) ?_
    refine va_lald hx hb hK hP 25 2 rfl rfl (vp_in_nI (n := 0) (by decide) (by decide)) dL_law_467 ?_
    refine lv_iload hx hb dL_law_468 (lv_at hl 0 rfl) ?_
    refine lv_if_eq (tgt := 477) hx hb dL_law_470 (by decide) (fun c_470 => ?_) (fun c_470 => ?_)
    · refine lv_lconst (v := 0) hx hb dL_law_477 (by decide) ?_
      refine W.lcmp hx hb dL_law_478 ?_
      refine x_top (lcmp_eq ((hw9 c_462).trans (by rw [c_470]; rfl))) ?_
      refine lv_if_eq (tgt := 484) hx hb dL_law_479 (by decide) (fun c_479 => ?_) (fun z => absurd (by decide) z)
      refine lv_goto (tgt := 1708) hx hb dL_law_484 (by decide) ?_
      refine W.wide (k := 40 + 11 * (t + 1)) (n := 600 + 74 * (t + 1)) (by show 40 + 11 * t + 1 ≤ _; omega) (by show 600 + 74 * t + 6 ≤ _; omega) ?_
      exact NX _ _ (if hasF 1 σ (xs (4 * t + 1)) = 0 then σ else turnS σ (xs (4 * t + 1)).toNatClampNeg) τ9 κ ζ (if hasF 1 σ (xs (4 * t + 1)) = 0 then 1 else 0) w9 hs9 hb9 _ _ _ hP hD hS (lv_sub hl [2, 3, 4, 5, 6] rfl)
    · refine lv_lconst (v := 1) hx hb dL_law_473 (by decide) ?_
      refine lv_goto (tgt := 478) hx hb dL_law_474 (by decide) ?_
      refine W.lcmp hx hb dL_law_478 ?_
      refine x_top (lcmp_eq ((hw9 c_462).trans (by rw [(hv01).resolve_left c_470]; rfl))) ?_
      refine lv_if_eq (tgt := 484) hx hb dL_law_479 (by decide) (fun c_479 => ?_) (fun z => absurd (by decide) z)
      refine lv_goto (tgt := 1708) hx hb dL_law_484 (by decide) ?_
      refine W.wide (k := 40 + 11 * (t + 1)) (n := 600 + 74 * (t + 1)) (by show 40 + 11 * t + 1 ≤ _; omega) (by show 600 + 74 * t + 6 ≤ _; omega) ?_
      exact NX _ _ (if hasF 1 σ (xs (4 * t + 1)) = 0 then σ else turnS σ (xs (4 * t + 1)).toNatClampNeg) τ9 κ ζ (if hasF 1 σ (xs (4 * t + 1)) = 0 then 1 else 0) w9 hs9 hb9 _ _ _ hP hD hS (lv_sub hl [2, 3, 4, 5, 6] rfl)

set_option maxHeartbeats 8000000 in
set_option maxRecDepth 100000 in
theorem law_c4 (l : Launch) (hl9 : l.stackTraces = false) {p : Program} {e : Env} {s : State} {m : MethodId} {args : Array Value} {below : List Frame} {meth : Method} {c : Code} {Q : State → Prop} (D : va_G) (cI cZ cL : ClassId) {A : Nat → Prop} {b L : Nat} {xs : Nat → Int32} (ob h : Nat) (a : Nat → Nat) (h2 : Nat) (a2 : Nat → Nat) (qo om : Nat) (bb : Nat → Nat) (hx : p.tables.exec = Jvm.exec) (hb : c.code = cL_law) (hml : c.maxLocals = 9) (hown : s.vm.findClass RL = some m.cls) (hts : ∀ w ∈ LW, w.before args s = true) (hE : EX A s s.heap) (hK : va_K D vwCl (tZ cI cZ cL) s) (hA : ∀ q : Nat, s.heap.size ≤ q → A q) (hX : va_X b L xs s s.heap) (hbl : b < s.heap.size) (hbA : ¬ A b) (hL : L ≤ 2048) {t : Nat} (ht : 4 * t + 4 ≤ L) (NX : lawN p l e s m args below meth c Q D cI cZ cL A b ob h a h2 a2 qo om bb t) {n k : Nat} (σ τ : Sg) (κ ζ : Nat → Int32) (th : Int32) (wo : Nat → Int64) (hst : Shp n k σ) (hB : Bnd (12000 * t) σ) {H : Heap} {locs : List Loc} {ls : Array Slot} (hP : va_P D vwCl ((oC ob h h2) ++ ((mC cI cZ h a σ) ++ ((mC cI cZ h2 a2 τ) ++ ((lC cL qo wo) ++ (rC cI cZ om bb σ κ ζ th))))) H) (hD : va_D A ((oC ob h h2) ++ ((mC cI cZ h a σ) ++ ((mC cI cZ h2 a2 τ) ++ ((lC cL qo wo) ++ (rC cI cZ om bb σ κ ζ th)))))) (hS : va_S A s.heap H locs) (hl : lv_has ls 9 [(4, .int (nI (4 * t))), (0, .ref b), (1, .ref ob), (2, .ref om), (3, .ref qo)]) : W p l e room_1 s m args below meth c H locs (40 + 11 * t) (600 + 74 * t) Q (F0 m 487 ls []) := by
  have hn10 := hst.1
  have hk16 := hst.2.1
  obtain ⟨n9, k9, hs9, hb9⟩ : ∃ n9 k9, Shp n9 k9 (if inR (xs (4 * t + 1)) 0 9 = 0 then σ else sc σ 2 (xs (4 * t + 1))) ∧ Bnd (12000 * (t + 1)) (if inR (xs (4 * t + 1)) 0 9 = 0 then σ else sc σ 2 (xs (4 * t + 1))) := by
    by_cases g1 : inR (xs (4 * t + 1)) 0 9 = 0
    · rw [if_pos g1]; exact ⟨n, k, hst, hB.mono (by omega)⟩
    · rw [if_neg g1]; exact ⟨n, k, hst.osc 2 _ (by decide) (by decide), (hB.sr2 g1).mono (by omega)⟩
  refine lv_aload_n hx hb dL_law_487 rfl (lv_at hl 2 rfl) ?_
  refine lv_aload_n hx hb dL_law_488 rfl (lv_at hl 1 rfl) ?_
  refine lv_iload hx hb dL_law_489 (lv_at hl 0 rfl) ?_
  refine lv_iconst (v := 1) hx hb dL_law_491 (by decide) ?_
  refine lv_iadd hx hb dL_law_492 ?_
  refine x_top (nI_add (4 * t) 1) ?_
  refine va_sld hx hb hX hbl hbA hS (vp_in_nI (n := (4 * t) + 1) (by omega) (by omega)) dL_law_493 ?_
  refine x_top (show xs (nI ((4 * t) + 1)).toNatClampNeg = xs ((4 * t) + 1) by rw [nI_clamp (by omega)]) ?_
  refine lv_aload_n hx hb dL_law_494 rfl (lv_at hl 4 rfl) ?_
  refine MH.callS (As := [.ref ob, .int (xs ((4 * t) + 1)), .ref qo]) (rest := []) (w0 := []) (w2 := rC cI cZ om bb σ κ ζ th) (c_L_setRain l hl9 D cI cZ cL ob h a h2 a2 σ τ hst (xs (4 * t + 1)) qo wo) ⟨hx, hb, hml, hown, hts⟩ q500 b_L_setRain (n := 3) (by decide +kernel) ⟨Nat.le_of_ble_eq_true rfl, Nat.le_of_ble_eq_true rfl⟩ hK hP hD hS hA hE (spH _ _ _ _ _) rfl hl.1 rfl (Nat.le_of_ble_eq_true rfl) dL_law_495 ⟨by show 40 + 11 * t + 0 + 1 ≤ 671377; omega, by show 600 + 74 * t + 0 + 6 ≤ 7081972; omega⟩ (fun x9 H locs hP hD hS => ?_)
  obtain ⟨⟨τ9, w9⟩, hw9⟩ := x9
  have hw9 : (if inR (xs (4 * t + 1)) 0 9 = 0 then 1 else 0 : Int32) = 0 → w9 0 = (if inR (xs (4 * t + 1)) 0 9 = 0 then 0 else σ 11 2 : Int32).toInt64 := hw9
  have hP : va_P D vwCl ((oC ob h h2) ++ ((mC cI cZ h a (if inR (xs (4 * t + 1)) 0 9 = 0 then σ else sc σ 2 (xs (4 * t + 1)))) ++ ((mC cI cZ h2 a2 τ9) ++ ((lC cL qo w9) ++ (rC cI cZ om bb σ κ ζ th))))) H := hP
  have hD : va_D A ((oC ob h h2) ++ ((mC cI cZ h a (if inR (xs (4 * t + 1)) 0 9 = 0 then σ else sc σ 2 (xs (4 * t + 1)))) ++ ((mC cI cZ h2 a2 τ9) ++ ((lC cL qo w9) ++ (rC cI cZ om bb σ κ ζ th))))) := hD
  refine lv_istore (lv' := [(5, .int (if inR (xs (4 * t + 1)) 0 9 = 0 then 1 else 0)), (4, .int (nI (4 * t))), (0, .ref b), (1, .ref ob), (2, .ref om), (3, .ref qo)]) hx hb dL_law_498 hl (by decide) rfl (fun ls hl => ?_)
  refine lv_aload_n hx hb dL_law_500 rfl (lv_at hl 4 rfl) ?_
  refine lv_aload_n hx hb dL_law_501 rfl (lv_at hl 2 rfl) ?_
  refine lv_iload hx hb dL_law_502 (lv_at hl 1 rfl) ?_
  refine lv_iconst (v := 1) hx hb dL_law_504 (by decide) ?_
  refine lv_iadd hx hb dL_law_505 ?_
  refine x_top (nI_add (4 * t) 1) ?_
  refine va_sld hx hb hX hbl hbA hS (vp_in_nI (n := (4 * t) + 1) (by omega) (by omega)) dL_law_506 ?_
  refine x_top (show xs (nI ((4 * t) + 1)).toNatClampNeg = xs ((4 * t) + 1) by rw [nI_clamp (by omega)]) ?_
  refine MC.callV (C := RX2) (T := TX2) (N := 14) (As := [.int (xs ((4 * t) + 1))]) (rest := []) (wB := (oC ob h h2) ++ ((mC cI cZ h a (if inR (xs (4 * t + 1)) 0 9 = 0 then σ else sc σ 2 (xs (4 * t + 1)))) ++ ((mC cI cZ h2 a2 τ9) ++ ((lC cL qo w9) ++ (rC cI cZ om bb (if inR (xs (4 * t + 1)) 0 9 = 0 then σ else sc σ 2 (xs (4 * t + 1))) κ ζ (if inR (xs (4 * t + 1)) 0 9 = 0 then 1 else 0)))))) (c_X2_setRain l D cI cZ cL om bb σ κ ζ th hst (xs (4 * t + 1))) ⟨hx, hb, hml, hown, hts⟩ q678 b_X2_setRain (n := 1) (by decide +kernel) ⟨Nat.le_of_ble_eq_true rfl, Nat.le_of_ble_eq_true rfl⟩ hK hP hD hS hA (spR _ _ _ _ _) (spR _ _ _ _ _) (ci := 2) rfl (q0 := 26) rfl rfl hl.1 rfl (Nat.le_of_ble_eq_true rfl) dL_law_507 ⟨by show 40 + 11 * t + 1 + 0 ≤ 671377; omega, by show 600 + 74 * t + 6 + 0 ≤ 7081972; omega⟩ (fun H locs hP hD hS => ?_)
  refine lv_istore (lv' := [(6, .int (if inR (xs (4 * t + 1)) 0 9 = 0 then 0 else σ 11 2)), (5, .int (if inR (xs (4 * t + 1)) 0 9 = 0 then 1 else 0)), (4, .int (nI (4 * t))), (0, .ref b), (1, .ref ob), (2, .ref om), (3, .ref qo)]) hx hb dL_law_510 hl (by decide) rfl (fun ls hl => ?_)
  refine lv_aload_n hx hb dL_law_512 rfl (lv_at hl 5 rfl) ?_
  refine MC.callV (C := RX2) (T := TX2) (N := 14) (As := []) (rest := []) (wB := (oC ob h h2) ++ ((mC cI cZ h a (if inR (xs (4 * t + 1)) 0 9 = 0 then σ else sc σ 2 (xs (4 * t + 1)))) ++ ((mC cI cZ h2 a2 τ9) ++ ((lC cL qo w9) ++ (rC cI cZ om bb (if inR (xs (4 * t + 1)) 0 9 = 0 then σ else sc σ 2 (xs (4 * t + 1))) κ ζ (if inR (xs (4 * t + 1)) 0 9 = 0 then 1 else 0)))))) (c_X2_thrown l D cI cZ cL om bb (if inR (xs (4 * t + 1)) 0 9 = 0 then σ else sc σ 2 (xs (4 * t + 1))) κ ζ (if inR (xs (4 * t + 1)) 0 9 = 0 then 1 else 0)) ⟨hx, hb, hml, hown, hts⟩ q635 b_X2_thrown (n := 0) (by decide +kernel) ⟨Nat.le_of_ble_eq_true rfl, Nat.le_of_ble_eq_true rfl⟩ hK hP hD hS hA (spR _ _ _ _ _) (spR _ _ _ _ _) (ci := 2) rfl (q0 := 26) rfl rfl hl.1 rfl (Nat.le_of_ble_eq_true rfl) dL_law_513 ⟨by show 40 + 11 * t + 1 + 0 ≤ 671377; omega, by show 600 + 74 * t + 6 + 0 ≤ 7081972; omega⟩ (fun H locs hP hD hS => ?_)
  refine lv_iload hx hb dL_law_516 (lv_at hl 1 rfl) ?_
  refine lv_icmp_eq (tgt := 523) hx hb dL_law_518 (by decide) (fun c_518 => ?_) (fun z => absurd (rfl) z)
  refine lv_iload hx hb dL_law_523 (lv_at hl 1 rfl) ?_
  refine lv_if_ne (tgt := 540) hx hb dL_law_525 (by decide) (fun c_525 => ?_) (fun c_525 => ?_)
  · refine lv_goto (tgt := 1708) hx hb dL_law_540 (by decide) ?_
    refine W.wide (k := 40 + 11 * (t + 1)) (n := 600 + 74 * (t + 1)) (by show 40 + 11 * t + 1 ≤ _; omega) (by show 600 + 74 * t + 6 ≤ _; omega) ?_
    exact NX _ _ (if inR (xs (4 * t + 1)) 0 9 = 0 then σ else sc σ 2 (xs (4 * t + 1))) τ9 κ ζ (if inR (xs (4 * t + 1)) 0 9 = 0 then 1 else 0) w9 hs9 hb9 _ _ _ hP hD hS (lv_sub hl [2, 3, 4, 5, 6] rfl)
  · refine lv_aload_n hx hb dL_law_528 rfl (lv_at hl 6 rfl) ?_
    refine lv_iconst (v := 0) hx hb dL_law_529 (by decide) ?_
    refine va_lald hx hb hK hP 25 2 rfl rfl (vp_in_nI (n := 0) (by decide) (by decide)) dL_law_530 ?_
    refine lv_iload hx hb dL_law_531 (lv_at hl 0 rfl) ?_
    refine lv_i2l hx hb dL_law_533 rfl ?_
    refine W.lcmp hx hb dL_law_534 ?_
    refine x_top (lcmp_eq (hw9 c_525)) ?_
    refine lv_if_eq (tgt := 540) hx hb dL_law_535 (by decide) (fun c_535 => ?_) (fun z => absurd (by decide) z)
    refine lv_goto (tgt := 1708) hx hb dL_law_540 (by decide) ?_
    refine W.wide (k := 40 + 11 * (t + 1)) (n := 600 + 74 * (t + 1)) (by show 40 + 11 * t + 1 ≤ _; omega) (by show 600 + 74 * t + 6 ≤ _; omega) ?_
    exact NX _ _ (if inR (xs (4 * t + 1)) 0 9 = 0 then σ else sc σ 2 (xs (4 * t + 1))) τ9 κ ζ (if inR (xs (4 * t + 1)) 0 9 = 0 then 1 else 0) w9 hs9 hb9 _ _ _ hP hD hS (lv_sub hl [2, 3, 4, 5, 6] rfl)

set_option maxHeartbeats 8000000 in
set_option maxRecDepth 100000 in
theorem law_c5 (l : Launch) (hl9 : l.stackTraces = false) {p : Program} {e : Env} {s : State} {m : MethodId} {args : Array Value} {below : List Frame} {meth : Method} {c : Code} {Q : State → Prop} (D : va_G) (cI cZ cL : ClassId) {A : Nat → Prop} {b L : Nat} {xs : Nat → Int32} (ob h : Nat) (a : Nat → Nat) (h2 : Nat) (a2 : Nat → Nat) (qo om : Nat) (bb : Nat → Nat) (hx : p.tables.exec = Jvm.exec) (hb : c.code = cL_law) (hml : c.maxLocals = 9) (hown : s.vm.findClass RL = some m.cls) (hts : ∀ w ∈ LW, w.before args s = true) (hE : EX A s s.heap) (hK : va_K D vwCl (tZ cI cZ cL) s) (hA : ∀ q : Nat, s.heap.size ≤ q → A q) (hX : va_X b L xs s s.heap) (hbl : b < s.heap.size) (hbA : ¬ A b) (hL : L ≤ 2048) {t : Nat} (ht : 4 * t + 4 ≤ L) (NX : lawN p l e s m args below meth c Q D cI cZ cL A b ob h a h2 a2 qo om bb t) {n k : Nat} (σ τ : Sg) (κ ζ : Nat → Int32) (th : Int32) (wo : Nat → Int64) (hst : Shp n k σ) (hB : Bnd (12000 * t) σ) {H : Heap} {locs : List Loc} {ls : Array Slot} (hP : va_P D vwCl ((oC ob h h2) ++ ((mC cI cZ h a σ) ++ ((mC cI cZ h2 a2 τ) ++ ((lC cL qo wo) ++ (rC cI cZ om bb σ κ ζ th))))) H) (hD : va_D A ((oC ob h h2) ++ ((mC cI cZ h a σ) ++ ((mC cI cZ h2 a2 τ) ++ ((lC cL qo wo) ++ (rC cI cZ om bb σ κ ζ th)))))) (hS : va_S A s.heap H locs) (hl : lv_has ls 9 [(4, .int (nI (4 * t))), (0, .ref b), (1, .ref ob), (2, .ref om), (3, .ref qo)]) : W p l e room_1 s m args below meth c H locs (40 + 11 * t) (600 + 74 * t) Q (F0 m 543 ls []) := by
  have hn10 := hst.1
  have hk16 := hst.2.1
  obtain ⟨n9, k9, hs9, hb9⟩ : ∃ n9 k9, Shp n9 k9 (if hasF 0 σ (xs (4 * t + 1)) = 0 then σ else if inR (xs (4 * t + 2)) 1 50 = 0 then σ else addW σ (xs (4 * t + 1)).toNatClampNeg (xs (4 * t + 2))) ∧ Bnd (12000 * (t + 1)) (if hasF 0 σ (xs (4 * t + 1)) = 0 then σ else if inR (xs (4 * t + 2)) 1 50 = 0 then σ else addW σ (xs (4 * t + 1)).toNatClampNeg (xs (4 * t + 2))) := by
    by_cases g1 : hasF 0 σ (xs (4 * t + 1)) = 0
    · rw [if_pos g1]; exact ⟨n, k, hst, hB.mono (by omega)⟩
    · by_cases g2 : inR (xs (4 * t + 2)) 1 50 = 0
      · rw [if_neg g1, if_pos g2]; exact ⟨n, k, hst, hB.mono (by omega)⟩
      · rw [if_neg g1, if_neg g2]; exact ⟨n, k, hst.aw _ _, (hB.fl _ g2).mono (by omega)⟩
  refine lv_aload_n hx hb dL_law_543 rfl (lv_at hl 2 rfl) ?_
  refine lv_aload_n hx hb dL_law_544 rfl (lv_at hl 1 rfl) ?_
  refine lv_iload hx hb dL_law_545 (lv_at hl 0 rfl) ?_
  refine lv_iconst (v := 1) hx hb dL_law_547 (by decide) ?_
  refine lv_iadd hx hb dL_law_548 ?_
  refine x_top (nI_add (4 * t) 1) ?_
  refine va_sld hx hb hX hbl hbA hS (vp_in_nI (n := (4 * t) + 1) (by omega) (by omega)) dL_law_549 ?_
  refine x_top (show xs (nI ((4 * t) + 1)).toNatClampNeg = xs ((4 * t) + 1) by rw [nI_clamp (by omega)]) ?_
  refine lv_aload_n hx hb dL_law_550 rfl (lv_at hl 1 rfl) ?_
  refine lv_iload hx hb dL_law_551 (lv_at hl 0 rfl) ?_
  refine lv_iconst (v := 2) hx hb dL_law_553 (by decide) ?_
  refine lv_iadd hx hb dL_law_554 ?_
  refine x_top (nI_add (4 * t) 2) ?_
  refine va_sld hx hb hX hbl hbA hS (vp_in_nI (n := (4 * t) + 2) (by omega) (by omega)) dL_law_555 ?_
  refine x_top (show xs (nI ((4 * t) + 2)).toNatClampNeg = xs ((4 * t) + 2) by rw [nI_clamp (by omega)]) ?_
  refine lv_aload_n hx hb dL_law_556 rfl (lv_at hl 4 rfl) ?_
  refine MH.callS (As := [.ref ob, .int (xs ((4 * t) + 1)), .int (xs ((4 * t) + 2)), .ref qo]) (rest := []) (w0 := []) (w2 := rC cI cZ om bb σ κ ζ th) (c_L_flood l hl9 D cI cZ cL ob h a h2 a2 σ τ hst hB (xs (4 * t + 1)) (xs (4 * t + 2)) qo wo) ⟨hx, hb, hml, hown, hts⟩ q507 b_L_flood (n := 4) (by decide +kernel) ⟨Nat.le_of_ble_eq_true rfl, Nat.le_of_ble_eq_true rfl⟩ hK hP hD hS hA hE (spH _ _ _ _ _) rfl hl.1 rfl (Nat.le_of_ble_eq_true rfl) dL_law_557 ⟨by show 40 + 11 * t + 0 + 1 ≤ 671377; omega, by show 600 + 74 * t + 0 + 6 ≤ 7081972; omega⟩ (fun x9 H locs hP hD hS => ?_)
  obtain ⟨⟨τ9, w9⟩, hw9⟩ := x9
  have hw9 : (if hasF 0 σ (xs (4 * t + 1)) = 0 then 1 else if inR (xs (4 * t + 2)) 1 50 = 0 then 2 else 0 : Int32) = 0 → w9 0 = (if hasF 0 σ (xs (4 * t + 1)) = 0 then 0 else if inR (xs (4 * t + 2)) 1 50 = 0 then 0 else addW σ (xs (4 * t + 1)).toNatClampNeg (xs (4 * t + 2)) 2 (xs (4 * t + 1)).toNatClampNeg : Int32).toInt64 := hw9
  have hP : va_P D vwCl ((oC ob h h2) ++ ((mC cI cZ h a (if hasF 0 σ (xs (4 * t + 1)) = 0 then σ else if inR (xs (4 * t + 2)) 1 50 = 0 then σ else addW σ (xs (4 * t + 1)).toNatClampNeg (xs (4 * t + 2)))) ++ ((mC cI cZ h2 a2 τ9) ++ ((lC cL qo w9) ++ (rC cI cZ om bb σ κ ζ th))))) H := hP
  have hD : va_D A ((oC ob h h2) ++ ((mC cI cZ h a (if hasF 0 σ (xs (4 * t + 1)) = 0 then σ else if inR (xs (4 * t + 2)) 1 50 = 0 then σ else addW σ (xs (4 * t + 1)).toNatClampNeg (xs (4 * t + 2)))) ++ ((mC cI cZ h2 a2 τ9) ++ ((lC cL qo w9) ++ (rC cI cZ om bb σ κ ζ th))))) := hD
  refine lv_istore (lv' := [(5, .int (if hasF 0 σ (xs (4 * t + 1)) = 0 then 1 else if inR (xs (4 * t + 2)) 1 50 = 0 then 2 else 0)), (4, .int (nI (4 * t))), (0, .ref b), (1, .ref ob), (2, .ref om), (3, .ref qo)]) hx hb dL_law_560 hl (by decide) rfl (fun ls hl => ?_)
  refine lv_aload_n hx hb dL_law_562 rfl (lv_at hl 4 rfl) ?_
  refine lv_aload_n hx hb dL_law_563 rfl (lv_at hl 2 rfl) ?_
  refine lv_iload hx hb dL_law_564 (lv_at hl 1 rfl) ?_
  refine lv_iconst (v := 1) hx hb dL_law_566 (by decide) ?_
  refine lv_iadd hx hb dL_law_567 ?_
  refine x_top (nI_add (4 * t) 1) ?_
  refine va_sld hx hb hX hbl hbA hS (vp_in_nI (n := (4 * t) + 1) (by omega) (by omega)) dL_law_568 ?_
  refine x_top (show xs (nI ((4 * t) + 1)).toNatClampNeg = xs ((4 * t) + 1) by rw [nI_clamp (by omega)]) ?_
  refine lv_aload_n hx hb dL_law_569 rfl (lv_at hl 2 rfl) ?_
  refine lv_iload hx hb dL_law_570 (lv_at hl 1 rfl) ?_
  refine lv_iconst (v := 2) hx hb dL_law_572 (by decide) ?_
  refine lv_iadd hx hb dL_law_573 ?_
  refine x_top (nI_add (4 * t) 2) ?_
  refine va_sld hx hb hX hbl hbA hS (vp_in_nI (n := (4 * t) + 2) (by omega) (by omega)) dL_law_574 ?_
  refine x_top (show xs (nI ((4 * t) + 2)).toNatClampNeg = xs ((4 * t) + 2) by rw [nI_clamp (by omega)]) ?_
  refine MC.callV (C := RX2) (T := TX2) (N := 14) (As := [.int (xs ((4 * t) + 1)), .int (xs ((4 * t) + 2))]) (rest := []) (wB := (oC ob h h2) ++ ((mC cI cZ h a (if hasF 0 σ (xs (4 * t + 1)) = 0 then σ else if inR (xs (4 * t + 2)) 1 50 = 0 then σ else addW σ (xs (4 * t + 1)).toNatClampNeg (xs (4 * t + 2)))) ++ ((mC cI cZ h2 a2 τ9) ++ ((lC cL qo w9) ++ (rC cI cZ om bb (if hasF 0 σ (xs (4 * t + 1)) = 0 then σ else if inR (xs (4 * t + 2)) 1 50 = 0 then σ else addW σ (xs (4 * t + 1)).toNatClampNeg (xs (4 * t + 2))) κ ζ (if hasF 0 σ (xs (4 * t + 1)) = 0 then 1 else if inR (xs (4 * t + 2)) 1 50 = 0 then 2 else 0)))))) (c_X2_flood l D cI cZ cL om bb σ κ ζ th hst hB (xs (4 * t + 1)) (xs (4 * t + 2))) ⟨hx, hb, hml, hown, hts⟩ q682 b_X2_flood (n := 2) (by decide +kernel) ⟨Nat.le_of_ble_eq_true rfl, Nat.le_of_ble_eq_true rfl⟩ hK hP hD hS hA (spR _ _ _ _ _) (spR _ _ _ _ _) (ci := 2) rfl (q0 := 26) rfl rfl hl.1 rfl (Nat.le_of_ble_eq_true rfl) dL_law_575 ⟨by show 40 + 11 * t + 1 + 0 ≤ 671377; omega, by show 600 + 74 * t + 6 + 0 ≤ 7081972; omega⟩ (fun H locs hP hD hS => ?_)
  refine lv_istore (lv' := [(6, .int (if hasF 0 σ (xs (4 * t + 1)) = 0 then 0 else if inR (xs (4 * t + 2)) 1 50 = 0 then 0 else addW σ (xs (4 * t + 1)).toNatClampNeg (xs (4 * t + 2)) 2 (xs (4 * t + 1)).toNatClampNeg)), (5, .int (if hasF 0 σ (xs (4 * t + 1)) = 0 then 1 else if inR (xs (4 * t + 2)) 1 50 = 0 then 2 else 0)), (4, .int (nI (4 * t))), (0, .ref b), (1, .ref ob), (2, .ref om), (3, .ref qo)]) hx hb dL_law_578 hl (by decide) rfl (fun ls hl => ?_)
  refine lv_aload_n hx hb dL_law_580 rfl (lv_at hl 5 rfl) ?_
  refine MC.callV (C := RX2) (T := TX2) (N := 14) (As := []) (rest := []) (wB := (oC ob h h2) ++ ((mC cI cZ h a (if hasF 0 σ (xs (4 * t + 1)) = 0 then σ else if inR (xs (4 * t + 2)) 1 50 = 0 then σ else addW σ (xs (4 * t + 1)).toNatClampNeg (xs (4 * t + 2)))) ++ ((mC cI cZ h2 a2 τ9) ++ ((lC cL qo w9) ++ (rC cI cZ om bb (if hasF 0 σ (xs (4 * t + 1)) = 0 then σ else if inR (xs (4 * t + 2)) 1 50 = 0 then σ else addW σ (xs (4 * t + 1)).toNatClampNeg (xs (4 * t + 2))) κ ζ (if hasF 0 σ (xs (4 * t + 1)) = 0 then 1 else if inR (xs (4 * t + 2)) 1 50 = 0 then 2 else 0)))))) (c_X2_thrown l D cI cZ cL om bb (if hasF 0 σ (xs (4 * t + 1)) = 0 then σ else if inR (xs (4 * t + 2)) 1 50 = 0 then σ else addW σ (xs (4 * t + 1)).toNatClampNeg (xs (4 * t + 2))) κ ζ (if hasF 0 σ (xs (4 * t + 1)) = 0 then 1 else if inR (xs (4 * t + 2)) 1 50 = 0 then 2 else 0)) ⟨hx, hb, hml, hown, hts⟩ q635 b_X2_thrown (n := 0) (by decide +kernel) ⟨Nat.le_of_ble_eq_true rfl, Nat.le_of_ble_eq_true rfl⟩ hK hP hD hS hA (spR _ _ _ _ _) (spR _ _ _ _ _) (ci := 2) rfl (q0 := 26) rfl rfl hl.1 rfl (Nat.le_of_ble_eq_true rfl) dL_law_581 ⟨by show 40 + 11 * t + 1 + 0 ≤ 671377; omega, by show 600 + 74 * t + 6 + 0 ≤ 7081972; omega⟩ (fun H locs hP hD hS => ?_)
  refine lv_iload hx hb dL_law_584 (lv_at hl 1 rfl) ?_
  refine lv_icmp_eq (tgt := 591) hx hb dL_law_586 (by decide) (fun c_586 => ?_) (fun z => absurd (rfl) z)
  refine lv_iload hx hb dL_law_591 (lv_at hl 1 rfl) ?_
  refine lv_if_ne (tgt := 608) hx hb dL_law_593 (by decide) (fun c_593 => ?_) (fun c_593 => ?_)
  · refine lv_goto (tgt := 1708) hx hb dL_law_608 (by decide) ?_
    refine W.wide (k := 40 + 11 * (t + 1)) (n := 600 + 74 * (t + 1)) (by show 40 + 11 * t + 1 ≤ _; omega) (by show 600 + 74 * t + 6 ≤ _; omega) ?_
    exact NX _ _ (if hasF 0 σ (xs (4 * t + 1)) = 0 then σ else if inR (xs (4 * t + 2)) 1 50 = 0 then σ else addW σ (xs (4 * t + 1)).toNatClampNeg (xs (4 * t + 2))) τ9 κ ζ (if hasF 0 σ (xs (4 * t + 1)) = 0 then 1 else if inR (xs (4 * t + 2)) 1 50 = 0 then 2 else 0) w9 hs9 hb9 _ _ _ hP hD hS (lv_sub hl [2, 3, 4, 5, 6] rfl)
  · refine lv_aload_n hx hb dL_law_596 rfl (lv_at hl 6 rfl) ?_
    refine lv_iconst (v := 0) hx hb dL_law_597 (by decide) ?_
    refine va_lald hx hb hK hP 25 2 rfl rfl (vp_in_nI (n := 0) (by decide) (by decide)) dL_law_598 ?_
    refine lv_iload hx hb dL_law_599 (lv_at hl 0 rfl) ?_
    refine lv_i2l hx hb dL_law_601 rfl ?_
    refine W.lcmp hx hb dL_law_602 ?_
    refine x_top (lcmp_eq (hw9 c_593)) ?_
    refine lv_if_eq (tgt := 608) hx hb dL_law_603 (by decide) (fun c_603 => ?_) (fun z => absurd (by decide) z)
    refine lv_goto (tgt := 1708) hx hb dL_law_608 (by decide) ?_
    refine W.wide (k := 40 + 11 * (t + 1)) (n := 600 + 74 * (t + 1)) (by show 40 + 11 * t + 1 ≤ _; omega) (by show 600 + 74 * t + 6 ≤ _; omega) ?_
    exact NX _ _ (if hasF 0 σ (xs (4 * t + 1)) = 0 then σ else if inR (xs (4 * t + 2)) 1 50 = 0 then σ else addW σ (xs (4 * t + 1)).toNatClampNeg (xs (4 * t + 2))) τ9 κ ζ (if hasF 0 σ (xs (4 * t + 1)) = 0 then 1 else if inR (xs (4 * t + 2)) 1 50 = 0 then 2 else 0) w9 hs9 hb9 _ _ _ hP hD hS (lv_sub hl [2, 3, 4, 5, 6] rfl)
