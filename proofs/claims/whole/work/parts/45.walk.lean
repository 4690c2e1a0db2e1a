set_option maxHeartbeats 8000000 in
set_option maxRecDepth 100000 in
theorem whole_start {p : Program} {e : Env} {s : State} {m : MethodId} {below : List Frame} {meth : Method} {c : Code} (l : Launch) (hflags : l.flags = flags0) {b L : Nat} {xs : Nat → Int32} (hL : L ≤ 2048) (C0 : lw_At p s m meth c b L xs) : W p l e room_1 s m #[Value.ref b] below meth c s.heap [] 0 0 (lw_Z below #[Value.ref b] s) (entryFrame m ([Value.ref b] : List Value).toArray 9) := by
  obtain ⟨hx, hb, hr, hml, hown, hts0, hX, hbl, hlocks, hgv⟩ := id C0
  have hl9 : l.stackTraces = false := by unfold Launch.stackTraces; rw [hflags]; decide +kernel
  have hts : ∀ w ∈ LW, w.before #[Value.ref b] s = true := fun w h => hts0 w (LW_tbl h)
  obtain ⟨A, eA⟩ : ∃ A : Nat → Prop, A = fun q => s.heap.size ≤ q := ⟨_, rfl⟩
  have hA : ∀ q : Nat, s.heap.size ≤ q → A q := fun q h => by rw [eA]; exact h
  have hAof : ∀ q : Nat, A q → s.heap.size ≤ q := fun q h => by rw [eA] at h; exact h
  have hbA : ¬ A b := fun h => absurd (hAof b h) (Nat.not_le.mpr hbl)
  have hE : EX A s s.heap := ex_start hts0 hgv (fun a ha h => absurd (hAof a h) (Nat.not_le.mpr ha))
  obtain ⟨D, cI, cZ, cL, hK⟩ := k_start hts
  have hS : va_S A s.heap s.heap [] := va_S.rf
  have hP : va_P D vwCl [] s.heap := kP_iff.mpr (fun q hq => absurd hq List.not_mem_nil)
  have hD : va_D A [] := kD_iff.mpr ⟨List.nodup_nil, fun q hq => absurd hq List.not_mem_nil⟩
  obtain ⟨Q, eQ⟩ : ∃ Q, Q = lw_Z below #[Value.ref b] s := ⟨_, rfl⟩
  rw [← eQ]
  have hl := lv_entry ([.ref b]) (n := 9) (Nat.le_of_ble_eq_true rfl)
  rw [lg_entry_eq]
  generalize (lg_sl ([.ref b]) ++ List.replicate (9 - (lg_sl ([.ref b])).length) Slot.unset).toArray = ls at hl ⊢
  have hl : lv_has ls 9 [(0, .ref b)] := hl
  have hb : c.code = cL_law := hb
  have hown : s.vm.findClass RL = some m.cls := hown
  refine va_new (ci := 1) (C := RX1) (T := TX1) (N := 2) (fs := [.null, .null]) hx hb hts in_wsX10 tyX1 tyX1_ok hown (hts _ q50) (hts _ q51) (hts _ q38) hK hP hD hS hA rfl (by decide) (Nat.le_of_ble_eq_true rfl) (Nat.le_of_ble_eq_true rfl) dL_law_0 (fun ob H hP hD hS => ?_)
  refine lv_dup hx hb dL_law_3 rfl ?_
  refine MNX.callI (b := ob) (As := []) (rest := [.ref ob]) (w0 := []) (w2 := []) (c_X1_init l D cI cZ cL ob) ⟨hx, hb, hml, hown, hts⟩ q52 b_X1_init rfl (n := 0) (by decide +kernel) ⟨(Nat.le_of_ble_eq_true rfl), (Nat.le_of_ble_eq_true rfl)⟩ hK hP hD hS hA hE rfl rfl hl.1 rfl (Nat.le_of_ble_eq_true rfl) dL_law_4 ⟨(Nat.le_of_ble_eq_true rfl), (Nat.le_of_ble_eq_true rfl)⟩ (fun x1 H locs hP hD hS => ?_)
  obtain ⟨⟨h, h2⟩, ⟨a, a2⟩⟩ := x1
  have hP : va_P D vwCl (oC ob h h2 ++ (mC cI cZ h a S0 ++ mC cI cZ h2 a2 S0)) H := hP
  have hD : va_D A (oC ob h h2 ++ (mC cI cZ h a S0 ++ mC cI cZ h2 a2 S0)) := hD
  refine lv_astore_n (lv' := [(1, .ref ob), (0, .ref b)]) hx hb dL_law_7 rfl hl (by decide) rfl (fun ls hl => ?_)
  refine va_new (ci := 2) (C := RX2) (T := TX2) (N := 14) (fs := fs2) hx hb hts in_wsX20 tyX2 tyX2_ok hown (hts _ q586) (hts _ q587) (hts _ q40) hK hP hD hS hA rfl (by decide) (Nat.le_of_ble_eq_true rfl) (Nat.le_of_ble_eq_true rfl) dL_law_8 (fun om H hP hD hS => ?_)
  refine lv_dup hx hb dL_law_11 rfl ?_
  refine MN.callI (b := om) (As := []) (rest := [.ref om]) (w0 := oC ob h h2 ++ (mC cI cZ h a S0 ++ mC cI cZ h2 a2 S0)) (w2 := []) (c_X2_init l D cI cZ cL om) ⟨hx, hb, hml, hown, hts⟩ q588 b_X2_init rfl (n := 0) (by decide +kernel) ⟨(Nat.le_of_ble_eq_true rfl), (Nat.le_of_ble_eq_true rfl)⟩ hK hP hD hS hA rfl rfl hl.1 rfl (Nat.le_of_ble_eq_true rfl) dL_law_12 ⟨(Nat.le_of_ble_eq_true rfl), (Nat.le_of_ble_eq_true rfl)⟩ (fun bb H locs hP hD hS => ?_)
  have hP : va_P D vwCl ((oC ob h h2 ++ (mC cI cZ h a S0 ++ mC cI cZ h2 a2 S0)) ++ (rC cI cZ om bb S0 (fun _ => 0) (fun _ => 0) 0)) H := hP
  have hD : va_D A ((oC ob h h2 ++ (mC cI cZ h a S0 ++ mC cI cZ h2 a2 S0)) ++ (rC cI cZ om bb S0 (fun _ => 0) (fun _ => 0) 0)) := hD
  refine lv_astore_n (lv' := [(2, .ref om), (1, .ref ob), (0, .ref b)]) hx hb dL_law_15 rfl hl (by decide) rfl (fun ls hl => ?_)
  refine lv_iconst (v := 1) hx hb dL_law_16 (by decide) ?_
  refine x_newL (atype := .long) (ty := .long) rfl rfl ra_long hx hb (hts _ q909) hK hP hD hS hA 2 rfl (N' := 1) (by decide) (by decide) (by decide) (Nat.le_of_ble_eq_true rfl) (Nat.le_of_ble_eq_true rfl) dL_law_17 (fun qo H hP hD hS => ?_)
  have hP : va_P D vwCl ((oC ob h h2 ++ (mC cI cZ h a S0 ++ mC cI cZ h2 a2 S0)) ++ ((rC cI cZ om bb S0 (fun _ => 0) (fun _ => 0) 0) ++ lC cL qo (fun _ => 0))) H := hP
  have hD : va_D A ((oC ob h h2 ++ (mC cI cZ h a S0 ++ mC cI cZ h2 a2 S0)) ++ ((rC cI cZ om bb S0 (fun _ => 0) (fun _ => 0) 0) ++ lC cL qo (fun _ => 0))) := hD
  obtain ⟨hP, hD⟩ := swap2 hP hD
  have hP : va_P D vwCl ((oC ob h h2) ++ ((mC cI cZ h a S0) ++ ((mC cI cZ h2 a2 S0) ++ ((lC cL qo (fun _ => 0)) ++ (rC cI cZ om bb S0 (fun _ => 0) (fun _ => 0) 0))))) H := hP
  have hD : va_D A ((oC ob h h2) ++ ((mC cI cZ h a S0) ++ ((mC cI cZ h2 a2 S0) ++ ((lC cL qo (fun _ => 0)) ++ (rC cI cZ om bb S0 (fun _ => 0) (fun _ => 0) 0))))) := hD
  refine lv_astore_n (lv' := [(3, .ref qo), (2, .ref om), (1, .ref ob), (0, .ref b)]) hx hb dL_law_19 rfl hl (by decide) rfl (fun ls hl => ?_)
  refine lv_iconst (v := 0) hx hb dL_law_20 (by decide) ?_
  refine lv_istore (lv' := [(4, .int 0), (3, .ref qo), (2, .ref om), (1, .ref ob), (0, .ref b)]) hx hb dL_law_21 hl (by decide) rfl (fun ls hl => ?_)
  have hl : lv_has ls 9 [(4, .int (nI (4 * 0))), (3, .ref qo), (2, .ref om), (1, .ref ob), (0, .ref b)] := hl
  have L23 : ∀ (f t : Nat), L < 4 * t + f → 4 * t ≤ L → ∀ (n k : Nat) (σ τ : Sg) (κ ζ : Nat → Int32) (th : Int32) (wo : Nat → Int64), Shp n k σ → Bnd (12000 * t) σ → ∀ (H : Heap) (locs : List Loc) (ls : Array Slot), va_P D vwCl ((oC ob h h2) ++ ((mC cI cZ h a σ) ++ ((mC cI cZ h2 a2 τ) ++ ((lC cL qo wo) ++ (rC cI cZ om bb σ κ ζ th))))) H → va_D A ((oC ob h h2) ++ ((mC cI cZ h a σ) ++ ((mC cI cZ h2 a2 τ) ++ ((lC cL qo wo) ++ (rC cI cZ om bb σ κ ζ th))))) → va_S A s.heap H locs → lv_has ls 9 [(4, .int (nI (4 * t))), (0, .ref b), (1, .ref ob), (2, .ref om), (3, .ref qo)] → W p l e room_1 s m #[Value.ref b] below meth c H locs (40 + 11 * t) (600 + 74 * t) Q (F0 m 23 ls []) := by
    intro f
    induction f with
    | zero => intro t h1 h2; exact absurd h1 (by omega)
    | succ f ih =>
      intro t h1 h2x n k σ τ κ ζ th wo hst hB H locs ls hP hD hS hl
      refine lv_iload hx hb dL_law_23 (lv_at hl 0 rfl) ?_
      refine lv_aload_n hx hb dL_law_25 rfl (lv_at hl 1 rfl) ?_
      refine va_slen hx hb hX hbl hbA hS dL_law_26 ?_
      refine lv_iconst (v := 4) hx hb dL_law_27 (by decide) ?_
      refine lv_isub hx hb dL_law_28 ?_
      refine lv_icmp_gt (tgt := 1714) hx hb dL_law_29 (by decide) (fun c1 => ?_) (fun c1 => ?_)
      · refine lv_iconst (v := 1) hx hb dL_law_1714 (by decide) ?_
        refine va_forget (fun q hq => hAof _ (hS.2.2 q hq)) ?_
        refine W.wide (k := 671377) (n := 7081972) (by omega) (by omega) ?_
        rw [eQ]
        exact lw_ret (d0 := s.drawn) (Drawn.sameBut.refl s.drawn lw_cs) hx hb hr hlocks dL_law_1715
      · have ht : 4 * t + 4 ≤ L := Nat.not_lt.mp (fun z => c1 ((law_c hL (by omega)).mpr z))
        have NX : lawN p l e s m #[Value.ref b] below meth c Q D cI cZ cL A b ob h a h2 a2 qo om bb t := by
          intro n k σ τ κ ζ th wo hst hB H locs ls hP hD hS hl
          refine lv_iinc (v := nI (4 * (t + 1))) (lv' := [(4, .int (nI (4 * (t + 1)))), (0, .ref b), (1, .ref ob), (2, .ref om), (3, .ref qo)]) hx hb dL_law_1708 hl (k := 0) rfl (nI_add (4 * t) 4) (by decide) rfl (fun ls hl => ?_)
          refine lv_goto (tgt := 23) hx hb dL_law_1711 (by decide) ?_
          exact ih (t + 1) (by omega) (by omega) n k σ τ κ ζ th wo hst hB H locs ls hP hD hS hl
        refine lv_aload_n hx hb dL_law_32 rfl (lv_at hl 1 rfl) ?_
        refine lv_iload hx hb dL_law_33 (lv_at hl 0 rfl) ?_
        refine va_sld hx hb hX hbl hbA hS (vp_in_nI (n := 4 * t) (by omega) (by omega)) dL_law_35 ?_
        refine lv_bipush (v := 63) hx hb dL_law_36 (by decide) ?_
        refine lv_iand hx hb dL_law_38 ?_
        obtain ⟨r, hr64, er⟩ := and63 (xs (nI (4 * t)).toNatClampNeg)
        refine x_top er ?_
        by_cases h36 : 36 ≤ r
        · refine lv_tableOut (tgt := 1708) hx hb dL_law_39 (Or.inr (by rw [nI_toInt (by omega)]; omega)) (by decide) ?_
          refine W.wide (k := 40 + 11 * (t + 1)) (n := 600 + 74 * (t + 1)) (by omega) (by omega) ?_
          exact NX n k σ τ κ ζ th wo hst (hB.mono (by omega)) _ _ _ hP hD hS hl
        · clear er hr64
          match r, h36 with
          | 0, _ => exact lv_tableIn (off := 157) (tgt := 196) hx hb dL_law_39 (by decide) (by decide) (by decide) (by decide) (law_c0 l hl9 D cI cZ cL ob h a h2 a2 qo om bb hx hb hml hown hts hE hK hA hX hbl hbA hL ht NX σ τ κ ζ th wo hst hB hP hD hS hl)
          | 1, _ => exact lv_tableIn (off := 225) (tgt := 264) hx hb dL_law_39 (by decide) (by decide) (by decide) (by decide) (law_c1 l hl9 D cI cZ cL ob h a h2 a2 qo om bb hx hb hml hown hts hE hK hA hX hbl hbA hL ht NX σ τ κ ζ th wo hst hB hP hD hS hl)
          | 2, _ => exact lv_tableIn (off := 305) (tgt := 344) hx hb dL_law_39 (by decide) (by decide) (by decide) (by decide) (law_c2 l hl9 D cI cZ cL ob h a h2 a2 qo om bb hx hb hml hown hts hE hK hA hX hbl hbA hL ht NX σ τ κ ζ th wo hst hB hP hD hS hl)
          | 3, _ => exact lv_tableIn (off := 385) (tgt := 424) hx hb dL_law_39 (by decide) (by decide) (by decide) (by decide) (law_c3 l hl9 D cI cZ cL ob h a h2 a2 qo om bb hx hb hml hown hts hE hK hA hX hbl hbA hL ht NX σ τ κ ζ th wo hst hB hP hD hS hl)
          | 4, _ => exact lv_tableIn (off := 448) (tgt := 487) hx hb dL_law_39 (by decide) (by decide) (by decide) (by decide) (law_c4 l hl9 D cI cZ cL ob h a h2 a2 qo om bb hx hb hml hown hts hE hK hA hX hbl hbA hL ht NX σ τ κ ζ th wo hst hB hP hD hS hl)
          | 5, _ => exact lv_tableIn (off := 504) (tgt := 543) hx hb dL_law_39 (by decide) (by decide) (by decide) (by decide) (law_c5 l hl9 D cI cZ cL ob h a h2 a2 qo om bb hx hb hml hown hts hE hK hA hX hbl hbA hL ht NX σ τ κ ζ th wo hst hB hP hD hS hl)
          | 6, _ => exact lv_tableIn (off := 572) (tgt := 611) hx hb dL_law_39 (by decide) (by decide) (by decide) (by decide) (law_c6 l hl9 D cI cZ cL ob h a h2 a2 qo om bb hx hb hml hown hts hE hK hA hX hbl hbA hL ht NX σ τ κ ζ th wo hst hB hP hD hS hl)
          | 7, _ => exact lv_tableIn (off := 628) (tgt := 667) hx hb dL_law_39 (by decide) (by decide) (by decide) (by decide) (law_c7 l hl9 D cI cZ cL ob h a h2 a2 qo om bb hx hb hml hown hts hE hK hA hX hbl hbA hL ht NX σ τ κ ζ th wo hst hB hP hD hS hl)
          | 8, _ => exact lv_tableIn (off := 641) (tgt := 680) hx hb dL_law_39 (by decide) (by decide) (by decide) (by decide) (law_c8 l hl9 D cI cZ cL ob h a h2 a2 qo om bb hx hb hml hown hts hE hK hA hX hbl hbA hL ht NX σ τ κ ζ th wo hst hB hP hD hS hl)
          | 9, _ => exact lv_tableIn (off := 654) (tgt := 693) hx hb dL_law_39 (by decide) (by decide) (by decide) (by decide) (law_c9 l hl9 D cI cZ cL ob h a h2 a2 qo om bb hx hb hml hown hts hE hK hA hX hbl hbA hL ht NX σ τ κ ζ th wo hst hB hP hD hS hl)
          | 10, _ => exact lv_tableIn (off := 667) (tgt := 706) hx hb dL_law_39 (by decide) (by decide) (by decide) (by decide) (law_c10 l hl9 D cI cZ cL ob h a h2 a2 qo om bb hx hb hml hown hts hE hK hA hX hbl hbA hL ht NX σ τ κ ζ th wo hst hB hP hD hS hl)
          | 11, _ => exact lv_tableIn (off := 680) (tgt := 719) hx hb dL_law_39 (by decide) (by decide) (by decide) (by decide) (law_c11 l hl9 D cI cZ cL ob h a h2 a2 qo om bb hx hb hml hown hts hE hK hA hX hbl hbA hL ht NX σ τ κ ζ th wo hst hB hP hD hS hl)
          | 12, _ => exact lv_tableIn (off := 693) (tgt := 732) hx hb dL_law_39 (by decide) (by decide) (by decide) (by decide) (law_c12 l hl9 D cI cZ cL ob h a h2 a2 qo om bb hx hb hml hown hts hE hK hA hX hbl hbA hL ht NX σ τ κ ζ th wo hst hB hP hD hS hl)
          | 13, _ => exact lv_tableIn (off := 706) (tgt := 745) hx hb dL_law_39 (by decide) (by decide) (by decide) (by decide) (law_c13 l hl9 D cI cZ cL ob h a h2 a2 qo om bb hx hb hml hown hts hE hK hA hX hbl hbA hL ht NX σ τ κ ζ th wo hst hB hP hD hS hl)
          | 14, _ => exact lv_tableIn (off := 719) (tgt := 758) hx hb dL_law_39 (by decide) (by decide) (by decide) (by decide) (law_c14 l hl9 D cI cZ cL ob h a h2 a2 qo om bb hx hb hml hown hts hE hK hA hX hbl hbA hL ht NX σ τ κ ζ th wo hst hB hP hD hS hl)
          | 15, _ => exact lv_tableIn (off := 732) (tgt := 771) hx hb dL_law_39 (by decide) (by decide) (by decide) (by decide) (law_c15 l hl9 D cI cZ cL ob h a h2 a2 qo om bb hx hb hml hown hts hE hK hA hX hbl hbA hL ht NX σ τ κ ζ th wo hst hB hP hD hS hl)
          | 16, _ => exact lv_tableIn (off := 745) (tgt := 784) hx hb dL_law_39 (by decide) (by decide) (by decide) (by decide) (law_c16 l hl9 D cI cZ cL ob h a h2 a2 qo om bb hx hb hml hown hts hE hK hA hX hbl hbA hL ht NX σ τ κ ζ th wo hst hB hP hD hS hl)
          | 17, _ => exact lv_tableIn (off := 801) (tgt := 840) hx hb dL_law_39 (by decide) (by decide) (by decide) (by decide) (law_c17 l hl9 D cI cZ cL ob h a h2 a2 qo om bb hx hb hml hown hts hE hK hA hX hbl hbA hL ht NX σ τ κ ζ th wo hst hB hP hD hS hl)
          | 18, _ => exact lv_tableIn (off := 857) (tgt := 896) hx hb dL_law_39 (by decide) (by decide) (by decide) (by decide) (law_c18 l hl9 D cI cZ cL ob h a h2 a2 qo om bb hx hb hml hown hts hE hK hA hX hbl hbA hL ht NX σ τ κ ζ th wo hst hB hP hD hS hl)
          | 19, _ => exact lv_tableIn (off := 913) (tgt := 952) hx hb dL_law_39 (by decide) (by decide) (by decide) (by decide) (law_c19 l hl9 D cI cZ cL ob h a h2 a2 qo om bb hx hb hml hown hts hE hK hA hX hbl hbA hL ht NX σ τ κ ζ th wo hst hB hP hD hS hl)
          | 20, _ => exact lv_tableIn (off := 976) (tgt := 1015) hx hb dL_law_39 (by decide) (by decide) (by decide) (by decide) (law_c20 l hl9 D cI cZ cL ob h a h2 a2 qo om bb hx hb hml hown hts hE hK hA hX hbl hbA hL ht NX σ τ κ ζ th wo hst hB hP hD hS hl)
          | 21, _ => exact lv_tableIn (off := 1032) (tgt := 1071) hx hb dL_law_39 (by decide) (by decide) (by decide) (by decide) (law_c21 l hl9 D cI cZ cL ob h a h2 a2 qo om bb hx hb hml hown hts hE hK hA hX hbl hbA hL ht NX σ τ κ ζ th wo hst hB hP hD hS hl)
          | 22, _ => exact lv_tableIn (off := 1088) (tgt := 1127) hx hb dL_law_39 (by decide) (by decide) (by decide) (by decide) (law_c22 l hl9 D cI cZ cL ob h a h2 a2 qo om bb hx hb hml hown hts hE hK hA hX hbl hbA hL ht NX σ τ κ ζ th wo hst hB hP hD hS hl)
          | 23, _ => exact lv_tableIn (off := 1101) (tgt := 1140) hx hb dL_law_39 (by decide) (by decide) (by decide) (by decide) (law_c23 l hl9 D cI cZ cL ob h a h2 a2 qo om bb hx hb hml hown hts hE hK hA hX hbl hbA hL ht NX σ τ κ ζ th wo hst hB hP hD hS hl)
          | 24, _ => exact lv_tableIn (off := 1164) (tgt := 1203) hx hb dL_law_39 (by decide) (by decide) (by decide) (by decide) (law_c24 l hl9 D cI cZ cL ob h a h2 a2 qo om bb hx hb hml hown hts hE hK hA hX hbl hbA hL ht NX σ τ κ ζ th wo hst hB hP hD hS hl)
          | 25, _ => exact lv_tableIn (off := 1227) (tgt := 1266) hx hb dL_law_39 (by decide) (by decide) (by decide) (by decide) (law_c25 l hl9 D cI cZ cL ob h a h2 a2 qo om bb hx hb hml hown hts hE hK hA hX hbl hbA hL ht NX σ τ κ ζ th wo hst hB hP hD hS hl)
          | 26, _ => exact lv_tableIn (off := 1283) (tgt := 1322) hx hb dL_law_39 (by decide) (by decide) (by decide) (by decide) (law_c26 l hl9 D cI cZ cL ob h a h2 a2 qo om bb hx hb hml hown hts hE hK hA hX hbl hbA hL ht NX σ τ κ ζ th wo hst hB hP hD hS hl)
          | 27, _ => exact lv_tableIn (off := 1339) (tgt := 1378) hx hb dL_law_39 (by decide) (by decide) (by decide) (by decide) (law_c27 l hl9 D cI cZ cL ob h a h2 a2 qo om bb hx hb hml hown hts hE hK hA hX hbl hbA hL ht NX σ τ κ ζ th wo hst hB hP hD hS hl)
          | 28, _ => exact lv_tableIn (off := 1352) (tgt := 1391) hx hb dL_law_39 (by decide) (by decide) (by decide) (by decide) (law_c28 l hl9 D cI cZ cL ob h a h2 a2 qo om bb hx hb hml hown hts hE hK hA hX hbl hbA hL ht NX σ τ κ ζ th wo hst hB hP hD hS hl)
          | 29, _ => exact lv_tableIn (off := 1408) (tgt := 1447) hx hb dL_law_39 (by decide) (by decide) (by decide) (by decide) (law_c29 l hl9 D cI cZ cL ob h a h2 a2 qo om bb hx hb hml hown hts hE hK hA hX hbl hbA hL ht NX σ τ κ ζ th wo hst hB hP hD hS hl)
          | 30, _ => exact lv_tableIn (off := 1464) (tgt := 1503) hx hb dL_law_39 (by decide) (by decide) (by decide) (by decide) (law_c30 l hl9 D cI cZ cL ob h a h2 a2 qo om bb hx hb hml hown hts hE hK hA hX hbl hbA hL ht NX σ τ κ ζ th wo hst hB hP hD hS hl)
          | 31, _ => exact lv_tableIn (off := 1532) (tgt := 1571) hx hb dL_law_39 (by decide) (by decide) (by decide) (by decide) (law_c31 l hl9 D cI cZ cL ob h a h2 a2 qo om bb hx hb hml hown hts hE hK hA hX hbl hbA hL ht NX σ τ κ ζ th wo hst hB hP hD hS hl)
          | 32, _ => exact lv_tableIn (off := 1545) (tgt := 1584) hx hb dL_law_39 (by decide) (by decide) (by decide) (by decide) (law_c32 l hl9 D cI cZ cL ob h a h2 a2 qo om bb hx hb hml hown hts hE hK hA hX hbl hbA hL ht NX σ τ κ ζ th wo hst hB hP hD hS hl)
          | 33, _ => exact lv_tableIn (off := 1601) (tgt := 1640) hx hb dL_law_39 (by decide) (by decide) (by decide) (by decide) (law_c33 l hl9 D cI cZ cL ob h a h2 a2 qo om bb hx hb hml hown hts hE hK hA hX hbl hbA hL ht NX σ τ κ ζ th wo hst hB hP hD hS hl)
          | 34, _ => exact lv_tableIn (off := 1614) (tgt := 1653) hx hb dL_law_39 (by decide) (by decide) (by decide) (by decide) (law_c34 l hl9 D cI cZ cL ob h a h2 a2 qo om bb hx hb hml hown hts hE hK hA hX hbl hbA hL ht NX σ τ κ ζ th wo hst hB hP hD hS hl)
          | 35, _ => exact lv_tableIn (off := 1655) (tgt := 1694) hx hb dL_law_39 (by decide) (by decide) (by decide) (by decide) (law_c35 l hl9 D cI cZ cL ob h a h2 a2 qo om bb hx hb hml hown hts hE hK hA hX hbl hbA hL ht NX σ τ κ ζ th wo hst hB hP hD hS hl)
          | r + 36, h9 => exact absurd (Nat.le_add_left 36 r) h9
  refine W.wide (k := 40 + 11 * 0) (n := 600 + 74 * 0) (Nat.le_of_ble_eq_true rfl) (Nat.le_of_ble_eq_true rfl) ?_
  exact L23 (L + 1) 0 (by omega) (by omega) 0 0 S0 S0 _ _ _ _ shp0 (bnd0 _) _ _ _ hP hD hS (lv_sub hl [0, 4, 3, 2, 1] rfl)
