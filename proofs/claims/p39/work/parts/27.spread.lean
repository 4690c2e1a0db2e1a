abbrev rmJ6_bitCount_0f7a4 : Room := { frames := 0, cells := 0, slots := 0, locals := 0 }
theorem b_J6_bitCount_0f7a4 : Cond.static yJ6_bitCount_0f7a4 ∈ LW ∧ Cond.initialized yJ6_bitCount_0f7a4.cls ∈ LW ∧ Cond.code yJ6_bitCount_0f7a4 cJ6_bitCount_0f7a4 1 (some .int) ∈ LW := ⟨q308, q19, q309⟩
set_option maxHeartbeats 4000000 in
set_option maxRecDepth 100000 in
theorem c_J6_bitCount_0f7a4 (l : Launch) (D : va_G) (cI cZ cL : ClassId) (x : Int32) : MC l yJ6_bitCount_0f7a4 cJ6_bitCount_0f7a4 1 (some .int) rmJ6_bitCount_0f7a4 D (tZ cI cZ cL) [.int x] ([]) ([]) (some (.int (bcv x))) := by
  refine MC.of (by decide) (Nat.le_of_ble_eq_true rfl) ?_
  intro p e s m args below meth c A ls Q hx hb hml hr hts hown hlocks hA hP hD hK hS hl hQ
  have hown : s.vm.findClass RJ6 = some m.cls := hown
  have hl : lv_has ls 1 [(0, .int x)] := hl
  refine lv_iload_n hx hb dJ6_bitCount_0f7a4_0 rfl (lv_at hl 0 rfl) ?_
  refine lv_iload_n hx hb dJ6_bitCount_0f7a4_1 rfl (lv_at hl 0 rfl) ?_
  refine lv_iconst (v := 1) hx hb dJ6_bitCount_0f7a4_2 (by decide) ?_
  refine lv_iushr (v := (x.toUInt32 >>> (Int32.toUInt32 1 &&& Int32.toUInt32 31)).toInt32) hx hb dJ6_bitCount_0f7a4_3 rfl ?_
  refine lv_ldcw hx hb hown (hts _ q310) dJ6_bitCount_0f7a4_4 ?_
  refine lv_iand hx hb dJ6_bitCount_0f7a4_7 ?_
  refine lv_isub hx hb dJ6_bitCount_0f7a4_8 ?_
  refine lv_topi (fun v_1 ev_1 => ?_)
  refine lv_istore_n (lv' := [(0, .int v_1)]) hx hb dJ6_bitCount_0f7a4_9 rfl hl (by decide) rfl (fun ls hl => ?_)
  refine lv_iload_n hx hb dJ6_bitCount_0f7a4_10 rfl (lv_at hl 0 rfl) ?_
  refine lv_ldcw hx hb hown (hts _ q311) dJ6_bitCount_0f7a4_11 ?_
  refine lv_iand hx hb dJ6_bitCount_0f7a4_14 ?_
  refine lv_iload_n hx hb dJ6_bitCount_0f7a4_15 rfl (lv_at hl 0 rfl) ?_
  refine lv_iconst (v := 2) hx hb dJ6_bitCount_0f7a4_16 (by decide) ?_
  refine lv_iushr (v := (v_1.toUInt32 >>> (Int32.toUInt32 2 &&& Int32.toUInt32 31)).toInt32) hx hb dJ6_bitCount_0f7a4_17 rfl ?_
  refine lv_ldcw hx hb hown (hts _ q311) dJ6_bitCount_0f7a4_18 ?_
  refine lv_iand hx hb dJ6_bitCount_0f7a4_21 ?_
  refine lv_iadd hx hb dJ6_bitCount_0f7a4_22 ?_
  refine lv_topi (fun v_2 ev_2 => ?_)
  refine lv_istore_n (lv' := [(0, .int v_2)]) hx hb dJ6_bitCount_0f7a4_23 rfl hl (by decide) rfl (fun ls hl => ?_)
  refine lv_iload_n hx hb dJ6_bitCount_0f7a4_24 rfl (lv_at hl 0 rfl) ?_
  refine lv_iload_n hx hb dJ6_bitCount_0f7a4_25 rfl (lv_at hl 0 rfl) ?_
  refine lv_iconst (v := 4) hx hb dJ6_bitCount_0f7a4_26 (by decide) ?_
  refine lv_iushr (v := (v_2.toUInt32 >>> (Int32.toUInt32 4 &&& Int32.toUInt32 31)).toInt32) hx hb dJ6_bitCount_0f7a4_27 rfl ?_
  refine lv_iadd hx hb dJ6_bitCount_0f7a4_28 ?_
  refine lv_ldcw hx hb hown (hts _ q312) dJ6_bitCount_0f7a4_29 ?_
  refine lv_iand hx hb dJ6_bitCount_0f7a4_32 ?_
  refine lv_topi (fun v_3 ev_3 => ?_)
  refine lv_istore_n (lv' := [(0, .int v_3)]) hx hb dJ6_bitCount_0f7a4_33 rfl hl (by decide) rfl (fun ls hl => ?_)
  refine lv_iload_n hx hb dJ6_bitCount_0f7a4_34 rfl (lv_at hl 0 rfl) ?_
  refine lv_iload_n hx hb dJ6_bitCount_0f7a4_35 rfl (lv_at hl 0 rfl) ?_
  refine lv_bipush (v := 8) hx hb dJ6_bitCount_0f7a4_36 (by decide) ?_
  refine lv_iushr (v := (v_3.toUInt32 >>> (Int32.toUInt32 8 &&& Int32.toUInt32 31)).toInt32) hx hb dJ6_bitCount_0f7a4_38 rfl ?_
  refine lv_iadd hx hb dJ6_bitCount_0f7a4_39 ?_
  refine lv_topi (fun v_4 ev_4 => ?_)
  refine lv_istore_n (lv' := [(0, .int v_4)]) hx hb dJ6_bitCount_0f7a4_40 rfl hl (by decide) rfl (fun ls hl => ?_)
  refine lv_iload_n hx hb dJ6_bitCount_0f7a4_41 rfl (lv_at hl 0 rfl) ?_
  refine lv_iload_n hx hb dJ6_bitCount_0f7a4_42 rfl (lv_at hl 0 rfl) ?_
  refine lv_bipush (v := 16) hx hb dJ6_bitCount_0f7a4_43 (by decide) ?_
  refine lv_iushr (v := (v_4.toUInt32 >>> (Int32.toUInt32 16 &&& Int32.toUInt32 31)).toInt32) hx hb dJ6_bitCount_0f7a4_45 rfl ?_
  refine lv_iadd hx hb dJ6_bitCount_0f7a4_46 ?_
  refine lv_topi (fun v_5 ev_5 => ?_)
  refine lv_istore_n (lv' := [(0, .int v_5)]) hx hb dJ6_bitCount_0f7a4_47 rfl hl (by decide) rfl (fun ls hl => ?_)
  refine lv_iload_n hx hb dJ6_bitCount_0f7a4_48 rfl (lv_at hl 0 rfl) ?_
  refine lv_bipush (v := 63) hx hb dJ6_bitCount_0f7a4_49 (by decide) ?_
  refine lv_iand hx hb dJ6_bitCount_0f7a4_51 ?_
  subst hQ
  exact ri hx hb hr hlocks hK hP hD hS dJ6_bitCount_0f7a4_52 (rfl) (by subst ev_5 ev_4 ev_3 ev_2 ev_1; rfl)

abbrev rmX0_spreadByDrains : Room := { frames := 0, cells := 0, slots := 0, locals := 0 }
theorem b_X0_spreadByDrains : Cond.instanceMethod yX0_spreadByDrains ∈ LW ∧ Cond.selects RX0 yX0_spreadByDrains yX0_spreadByDrains ∈ LW ∧ Cond.initialized RX0 ∈ LW ∧ Cond.code yX0_spreadByDrains cX0_spreadByDrains 6 (some .int) ∈ LW := ⟨q304, q305, q10, q306⟩
set_option maxHeartbeats 4000000 in
set_option maxRecDepth 100000 in
theorem c_X0_spreadByDrains (l : Launch) (D : va_G) (cI cZ cL : ClassId) {n k : Nat} (h : Nat) (a : Nat → Nat) (σ : Sg) (hst : Shp n k σ) (w : Nat) (hw9 : w < 2 ^ n) : MC l yX0_spreadByDrains cX0_spreadByDrains 6 (some .int) rmX0_spreadByDrains D (tZ cI cZ cL) [.ref h, .int (nI w)] (mC cI cZ h a σ) (mC cI cZ h a σ) (some (.int (nI (passM σ w)))) := by
  refine MC.of (by decide) (Nat.le_of_ble_eq_true rfl) ?_
  intro p e s m args below meth c A ls Q hx hb hml hr hts hown hlocks hA hP hD hK hS hl hQ
  have hown : s.vm.findClass RX0 = some m.cls := hown
  have hn10 := hst.1
  have hk16 := hst.2.1
  have hl : lv_has ls 6 [(0, .ref h), (1, .int (nI w))] := hl
  refine lv_iload_n hx hb dX0_spreadByDrains_0 rfl (lv_at hl 1 rfl) ?_
  refine lv_istore_n (lv' := [(2, .int (nI w)), (0, .ref h), (1, .int (nI w))]) hx hb dX0_spreadByDrains_1 rfl hl (by decide) rfl (fun ls hl => ?_)
  refine lv_iconst (v := 0) hx hb dX0_spreadByDrains_2 (by decide) ?_
  refine lv_istore_n (lv' := [(3, .int 0), (2, .int (nI w)), (0, .ref h), (1, .int (nI w))]) hx hb dX0_spreadByDrains_3 rfl hl (by decide) rfl (fun ls hl => ?_)
  have hl : lv_has ls 6 [(3, .int (nI 0)), (2, .int (nI (passN σ w 0))), (0, .ref h), (1, .int (nI w))] := hl
  have L4 : ∀ (f i : Nat), i ≤ k → k < i + f → ∀ (H : Heap) (locs : List Loc) (ls : Array Slot), va_P D vwCl (mC cI cZ h a σ) H → va_D A (mC cI cZ h a σ) → va_S A s.heap H locs → lv_has ls 6 [(0, .ref h), (2, .int (nI (passN σ w i))), (3, .int (nI i))] → W p l e rmX0_spreadByDrains s m args below meth c H locs 0 0 Q (F0 m 4 ls []) := by
    intro f
    induction f with
    | zero => intro i h1 h2; exact absurd h2 (by omega)
    | succ f ih_4 =>
      intro i hi_4 hf_4 H locs ls hP hD hS hl
      refine lv_iload_n hx hb dX0_spreadByDrains_4 rfl (lv_at hl 2 rfl) ?_
      refine lv_aload_n hx hb dX0_spreadByDrains_5 rfl (lv_at hl 0 rfl) ?_
      refine x_get (C := RX0) (T := TX0) (N := 16) hx hb hts in_wsX00 hown hK hP 0 rfl rfl 12 (by decide) q55 (v := .int (nI k)) (congrArg (fun z => some (Value.int z)) (hst.f1)) dX0_spreadByDrains_6 ?_
      refine lv_icmp_ge (tgt := 103) hx hb dX0_spreadByDrains_9 (by decide) (fun c_9 => ?_) (fun c_9 => ?_)
      · have hc_9 : k ≤ i := (nI_leI (a := k) (b := i) (by omega) (by omega)).mp c_9
        refine lv_iload_n hx hb dX0_spreadByDrains_103 rfl (lv_at hl 1 rfl) ?_
        subst hQ
        exact ri hx hb hr hlocks hK hP hD hS dX0_spreadByDrains_104 (rfl) (by unfold passM; rw [hst.eD, show i = k by omega])
      · have hc_9 : i < k := Nat.not_le.mp (fun z => c_9 ((nI_leI (a := k) (b := i) (by omega) (by omega)).mpr z))
        obtain ⟨a0, ha0, ea0⟩ := hst.2.2.2.2.1 i (by omega)
        have hq10 : passN σ w i < 1024 := p10 hn10 (pn_lt hst hw9 i (by omega))
        refine lv_iconst (v := 1) hx hb dX0_spreadByDrains_12 (by decide) ?_
        refine lv_aload_n hx hb dX0_spreadByDrains_13 rfl (lv_at hl 0 rfl) ?_
        refine x_get (C := RX0) (T := TX0) (N := 16) hx hb hts in_wsX00 hown hK hP 0 rfl rfl 5 (by decide) q42 (v := .ref (a 5)) rfl dX0_spreadByDrains_14 ?_
        refine lv_iload_n hx hb dX0_spreadByDrains_17 rfl (lv_at hl 2 rfl) ?_
        refine x_ild hx hb hK hP 6 0 rfl rfl i (rfl) (by omega) (by decide) (v := (nI a0)) (ea0) dX0_spreadByDrains_18 ?_
        refine lv_ishl hx hb dX0_spreadByDrains_19 ?_
        refine x_top (mk_shl a0 (by omega)) ?_
        refine lv_istore (lv' := [(4, .int (nI (2 ^ a0))), (0, .ref h), (2, .int (nI (passN σ w i))), (3, .int (nI i))]) hx hb dX0_spreadByDrains_20 hl (by decide) rfl (fun ls hl => ?_)
        refine lv_aload_n hx hb dX0_spreadByDrains_22 rfl (lv_at hl 1 rfl) ?_
        refine x_get (C := RX0) (T := TX0) (N := 16) hx hb hts in_wsX00 hown hK hP 0 rfl rfl 6 (by decide) q44 (v := .ref (a 6)) rfl dX0_spreadByDrains_23 ?_
        refine lv_iload_n hx hb dX0_spreadByDrains_26 rfl (lv_at hl 3 rfl) ?_
        refine x_ild hx hb hK hP 7 0 rfl rfl i (rfl) (by omega) (by decide) (v := σ 6 i) rfl dX0_spreadByDrains_27 ?_
        refine lv_iconst (v := (-1)) hx hb dX0_spreadByDrains_28 (by decide) ?_
        refine lv_icmp_ne (tgt := 36) hx hb dX0_spreadByDrains_29 (by decide) (fun c_29 => ?_) (fun c_29 => ?_)
        · obtain ⟨b0, hb0, eb0⟩ : ∃ b, b < n ∧ σ 6 i = nI b := by
            rcases hst.2.2.2.2.2 i (by omega) with q | q
            · exact absurd q.1 c_29
            · exact q
          refine lv_iconst (v := 1) hx hb dX0_spreadByDrains_36 (by decide) ?_
          refine lv_aload_n hx hb dX0_spreadByDrains_37 rfl (lv_at hl 1 rfl) ?_
          refine x_get (C := RX0) (T := TX0) (N := 16) hx hb hts in_wsX00 hown hK hP 0 rfl rfl 6 (by decide) q44 (v := .ref (a 6)) rfl dX0_spreadByDrains_38 ?_
          refine lv_iload_n hx hb dX0_spreadByDrains_41 rfl (lv_at hl 3 rfl) ?_
          refine x_ild hx hb hK hP 7 0 rfl rfl i (rfl) (by omega) (by decide) (v := (nI b0)) eb0 dX0_spreadByDrains_42 ?_
          refine lv_ishl hx hb dX0_spreadByDrains_43 ?_
          refine x_top (mk_shl b0 (by omega)) ?_
          refine lv_istore (lv' := [(5, .int (nI (2 ^ b0))), (4, .int (nI (2 ^ a0))), (0, .ref h), (2, .int (nI (passN σ w i))), (3, .int (nI i))]) hx hb dX0_spreadByDrains_44 hl (by decide) rfl (fun ls hl => ?_)
          refine lv_aload_n hx hb dX0_spreadByDrains_46 rfl (lv_at hl 2 rfl) ?_
          refine x_get (C := RX0) (T := TX0) (N := 16) hx hb hts in_wsX00 hown hK hP 0 rfl rfl 10 (by decide) q51 (v := .ref (a 10)) rfl dX0_spreadByDrains_47 ?_
          refine lv_iload_n hx hb dX0_spreadByDrains_50 rfl (lv_at hl 4 rfl) ?_
          refine x_zld hx hb hK hP 11 1 rfl rfl i (rfl) (by omega) (by decide) (v := σ 10 i) rfl dX0_spreadByDrains_51 ?_
          refine lv_if_eq (tgt := 67) hx hb dX0_spreadByDrains_52 (by decide) (fun c_52 => ?_) (fun c_52 => ?_)
          · refine lv_aload_n hx hb dX0_spreadByDrains_67 rfl (lv_at hl 2 rfl) ?_
            refine x_get (C := RX0) (T := TX0) (N := 16) hx hb hts in_wsX00 hown hK hP 0 rfl rfl 10 (by decide) q51 (v := .ref (a 10)) rfl dX0_spreadByDrains_68 ?_
            refine lv_iload_n hx hb dX0_spreadByDrains_71 rfl (lv_at hl 4 rfl) ?_
            refine x_zld hx hb hK hP 11 1 rfl rfl i (rfl) (by omega) (by decide) (v := σ 10 i) rfl dX0_spreadByDrains_72 ?_
            refine lv_if_eq (tgt := 97) hx hb dX0_spreadByDrains_73 (by decide) (fun c_73 => ?_) (fun z => absurd (c_52) z)
            refine lv_iinc (v := (nI (i + 1))) (lv' := [(3, .int (nI (i + 1))), (5, .int (nI (2 ^ b0))), (4, .int (nI (2 ^ a0))), (0, .ref h), (2, .int (nI (passN σ w i)))]) hx hb dX0_spreadByDrains_97 hl (k := 4) rfl (nI_add i 1) (by decide) rfl (fun ls hl => ?_)
            refine lv_goto (tgt := 4) hx hb dX0_spreadByDrains_100 (by decide) ?_
            have e8 : (nI (passN σ w i)) = nI (passN σ w (i + 1)) := by
              show _ = nI (stepM σ i (passN σ w i))
              rw [sm_0 c_52]
            rw [e8] at hl
            exact ih_4 (i + 1) (by omega) (by omega) _ _ _ hP hD hS (lv_sub hl [3, 4, 0] rfl)
          · refine lv_iload_n hx hb dX0_spreadByDrains_55 rfl (lv_at hl 3 rfl) ?_
            refine lv_iload hx hb dX0_spreadByDrains_56 (lv_at hl 1 rfl) ?_
            refine lv_iand hx hb dX0_spreadByDrains_58 ?_
            refine lv_if_eq (tgt := 67) hx hb dX0_spreadByDrains_59 (by decide) (fun c_59 => ?_) (fun c_59 => ?_)
            · have ht1 : (passN σ w i).testBit a0 = false := (mk_bit hq10).mp c_59
              refine lv_aload_n hx hb dX0_spreadByDrains_67 rfl (lv_at hl 2 rfl) ?_
              refine x_get (C := RX0) (T := TX0) (N := 16) hx hb hts in_wsX00 hown hK hP 0 rfl rfl 10 (by decide) q51 (v := .ref (a 10)) rfl dX0_spreadByDrains_68 ?_
              refine lv_iload_n hx hb dX0_spreadByDrains_71 rfl (lv_at hl 4 rfl) ?_
              refine x_zld hx hb hK hP 11 1 rfl rfl i (rfl) (by omega) (by decide) (v := σ 10 i) rfl dX0_spreadByDrains_72 ?_
              refine lv_if_eq (tgt := 97) hx hb dX0_spreadByDrains_73 (by decide) (fun z => absurd z (c_52)) (fun c_73 => ?_)
              refine lv_aload_n hx hb dX0_spreadByDrains_76 rfl (lv_at hl 2 rfl) ?_
              refine x_get (C := RX0) (T := TX0) (N := 16) hx hb hts in_wsX00 hown hK hP 0 rfl rfl 9 (by decide) q49 (v := .ref (a 9)) rfl dX0_spreadByDrains_77 ?_
              refine lv_iload_n hx hb dX0_spreadByDrains_80 rfl (lv_at hl 4 rfl) ?_
              refine x_zld hx hb hK hP 10 1 rfl rfl i (rfl) (by omega) (by decide) (v := σ 9 i) rfl dX0_spreadByDrains_81 ?_
              refine lv_if_ne (tgt := 97) hx hb dX0_spreadByDrains_82 (by decide) (fun c_82 => ?_) (fun c_82 => ?_)
              · refine lv_iinc (v := (nI (i + 1))) (lv' := [(3, .int (nI (i + 1))), (5, .int (nI (2 ^ b0))), (4, .int (nI (2 ^ a0))), (0, .ref h), (2, .int (nI (passN σ w i)))]) hx hb dX0_spreadByDrains_97 hl (k := 4) rfl (nI_add i 1) (by decide) rfl (fun ls hl => ?_)
                refine lv_goto (tgt := 4) hx hb dX0_spreadByDrains_100 (by decide) ?_
                have e8 : (nI (passN σ w i)) = nI (passN σ w (i + 1)) := by
                  show _ = nI (stepM σ i (passN σ w i))
                  rw [sm_p c_52 c_29 c_82 ea0 eb0 (by omega) (by omega), fw_f ht1]
                rw [e8] at hl
                exact ih_4 (i + 1) (by omega) (by omega) _ _ _ hP hD hS (lv_sub hl [3, 4, 0] rfl)
              · refine lv_iload_n hx hb dX0_spreadByDrains_85 rfl (lv_at hl 3 rfl) ?_
                refine lv_iload hx hb dX0_spreadByDrains_86 (lv_at hl 0 rfl) ?_
                refine lv_iand hx hb dX0_spreadByDrains_88 ?_
                refine lv_if_eq (tgt := 97) hx hb dX0_spreadByDrains_89 (by decide) (fun c_89 => ?_) (fun c_89 => ?_)
                · have ht2 : (passN σ w i).testBit b0 = false := (mk_bit hq10).mp c_89
                  refine lv_iinc (v := (nI (i + 1))) (lv' := [(3, .int (nI (i + 1))), (5, .int (nI (2 ^ b0))), (4, .int (nI (2 ^ a0))), (0, .ref h), (2, .int (nI (passN σ w i)))]) hx hb dX0_spreadByDrains_97 hl (k := 4) rfl (nI_add i 1) (by decide) rfl (fun ls hl => ?_)
                  refine lv_goto (tgt := 4) hx hb dX0_spreadByDrains_100 (by decide) ?_
                  have e8 : (nI (passN σ w i)) = nI (passN σ w (i + 1)) := by
                    show _ = nI (stepM σ i (passN σ w i))
                    rw [sm_d c_52 c_29 c_82 ea0 eb0 (by omega) (by omega), fw_f ht1, fw_f ht2]
                  rw [e8] at hl
                  exact ih_4 (i + 1) (by omega) (by omega) _ _ _ hP hD hS (lv_sub hl [3, 4, 0] rfl)
                · have ht2 : (passN σ w i).testBit b0 = true := by
                    cases z : (passN σ w i).testBit b0
                    · exact absurd ((mk_bit hq10).mpr z) c_89
                    · rfl
                  refine lv_iload_n hx hb dX0_spreadByDrains_92 rfl (lv_at hl 3 rfl) ?_
                  refine lv_iload hx hb dX0_spreadByDrains_93 (lv_at hl 1 rfl) ?_
                  refine lv_ior hx hb dX0_spreadByDrains_95 ?_
                  refine x_top (mk_or _ _) ?_
                  refine lv_istore_n (lv' := [(2, .int (nI (passN σ w i ||| 2 ^ a0))), (5, .int (nI (2 ^ b0))), (4, .int (nI (2 ^ a0))), (0, .ref h), (3, .int (nI i))]) hx hb dX0_spreadByDrains_96 rfl hl (by decide) rfl (fun ls hl => ?_)
                  refine lv_iinc (v := (nI (i + 1))) (lv' := [(3, .int (nI (i + 1))), (2, .int (nI (passN σ w i ||| 2 ^ a0))), (5, .int (nI (2 ^ b0))), (4, .int (nI (2 ^ a0))), (0, .ref h)]) hx hb dX0_spreadByDrains_97 hl (k := 4) rfl (nI_add i 1) (by decide) rfl (fun ls hl => ?_)
                  refine lv_goto (tgt := 4) hx hb dX0_spreadByDrains_100 (by decide) ?_
                  have e8 : (nI (passN σ w i ||| 2 ^ a0)) = nI (passN σ w (i + 1)) := by
                    show _ = nI (stepM σ i (passN σ w i))
                    rw [sm_d c_52 c_29 c_82 ea0 eb0 (by omega) (by omega), fw_f ht1, fw_t ht2]
                  rw [e8] at hl
                  exact ih_4 (i + 1) (by omega) (by omega) _ _ _ hP hD hS (lv_sub hl [4, 1, 0] rfl)
            · have ht1 : (passN σ w i).testBit a0 = true := by
                cases z : (passN σ w i).testBit a0
                · exact absurd ((mk_bit hq10).mpr z) c_59
                · rfl
              refine lv_iload_n hx hb dX0_spreadByDrains_62 rfl (lv_at hl 3 rfl) ?_
              refine lv_iload hx hb dX0_spreadByDrains_63 (lv_at hl 0 rfl) ?_
              refine lv_ior hx hb dX0_spreadByDrains_65 ?_
              refine x_top (mk_or _ _) ?_
              refine lv_istore_n (lv' := [(2, .int (nI (passN σ w i ||| 2 ^ b0))), (5, .int (nI (2 ^ b0))), (4, .int (nI (2 ^ a0))), (0, .ref h), (3, .int (nI i))]) hx hb dX0_spreadByDrains_66 rfl hl (by decide) rfl (fun ls hl => ?_)
              refine lv_aload_n hx hb dX0_spreadByDrains_67 rfl (lv_at hl 3 rfl) ?_
              refine x_get (C := RX0) (T := TX0) (N := 16) hx hb hts in_wsX00 hown hK hP 0 rfl rfl 10 (by decide) q51 (v := .ref (a 10)) rfl dX0_spreadByDrains_68 ?_
              refine lv_iload_n hx hb dX0_spreadByDrains_71 rfl (lv_at hl 4 rfl) ?_
              refine x_zld hx hb hK hP 11 1 rfl rfl i (rfl) (by omega) (by decide) (v := σ 10 i) rfl dX0_spreadByDrains_72 ?_
              refine lv_if_eq (tgt := 97) hx hb dX0_spreadByDrains_73 (by decide) (fun z => absurd z (c_52)) (fun c_73 => ?_)
              refine lv_aload_n hx hb dX0_spreadByDrains_76 rfl (lv_at hl 3 rfl) ?_
              refine x_get (C := RX0) (T := TX0) (N := 16) hx hb hts in_wsX00 hown hK hP 0 rfl rfl 9 (by decide) q49 (v := .ref (a 9)) rfl dX0_spreadByDrains_77 ?_
              refine lv_iload_n hx hb dX0_spreadByDrains_80 rfl (lv_at hl 4 rfl) ?_
              refine x_zld hx hb hK hP 10 1 rfl rfl i (rfl) (by omega) (by decide) (v := σ 9 i) rfl dX0_spreadByDrains_81 ?_
              refine lv_if_ne (tgt := 97) hx hb dX0_spreadByDrains_82 (by decide) (fun c_82 => ?_) (fun c_82 => ?_)
              · refine lv_iinc (v := (nI (i + 1))) (lv' := [(3, .int (nI (i + 1))), (2, .int (nI (passN σ w i ||| 2 ^ b0))), (5, .int (nI (2 ^ b0))), (4, .int (nI (2 ^ a0))), (0, .ref h)]) hx hb dX0_spreadByDrains_97 hl (k := 4) rfl (nI_add i 1) (by decide) rfl (fun ls hl => ?_)
                refine lv_goto (tgt := 4) hx hb dX0_spreadByDrains_100 (by decide) ?_
                have e8 : (nI (passN σ w i ||| 2 ^ b0)) = nI (passN σ w (i + 1)) := by
                  show _ = nI (stepM σ i (passN σ w i))
                  rw [sm_p c_52 c_29 c_82 ea0 eb0 (by omega) (by omega), fw_t ht1]
                rw [e8] at hl
                exact ih_4 (i + 1) (by omega) (by omega) _ _ _ hP hD hS (lv_sub hl [4, 1, 0] rfl)
              · refine lv_iload_n hx hb dX0_spreadByDrains_85 rfl (lv_at hl 0 rfl) ?_
                refine lv_iload hx hb dX0_spreadByDrains_86 (lv_at hl 1 rfl) ?_
                refine lv_iand hx hb dX0_spreadByDrains_88 ?_
                refine lv_if_eq (tgt := 97) hx hb dX0_spreadByDrains_89 (by decide) (fun c_89 => ?_) (fun c_89 => ?_)
                · have ht2 : (passN σ w i ||| 2 ^ b0).testBit b0 = false := (mk_bit (p10 hn10 (Nat.or_lt_two_pow (pn_lt hst hw9 i (by omega)) (Nat.pow_lt_pow_right (by decide) hb0)))).mp c_89
                  refine lv_iinc (v := (nI (i + 1))) (lv' := [(3, .int (nI (i + 1))), (2, .int (nI (passN σ w i ||| 2 ^ b0))), (5, .int (nI (2 ^ b0))), (4, .int (nI (2 ^ a0))), (0, .ref h)]) hx hb dX0_spreadByDrains_97 hl (k := 4) rfl (nI_add i 1) (by decide) rfl (fun ls hl => ?_)
                  refine lv_goto (tgt := 4) hx hb dX0_spreadByDrains_100 (by decide) ?_
                  have e8 : (nI (passN σ w i ||| 2 ^ b0)) = nI (passN σ w (i + 1)) := by
                    show _ = nI (stepM σ i (passN σ w i))
                    rw [sm_d c_52 c_29 c_82 ea0 eb0 (by omega) (by omega), fw_t ht1, fw_f ht2]
                  rw [e8] at hl
                  exact ih_4 (i + 1) (by omega) (by omega) _ _ _ hP hD hS (lv_sub hl [4, 1, 0] rfl)
                · have ht2 : (passN σ w i ||| 2 ^ b0).testBit b0 = true := by
                    cases z : (passN σ w i ||| 2 ^ b0).testBit b0
                    · exact absurd ((mk_bit (p10 hn10 (Nat.or_lt_two_pow (pn_lt hst hw9 i (by omega)) (Nat.pow_lt_pow_right (by decide) hb0)))).mpr z) c_89
                    · rfl
                  refine lv_iload_n hx hb dX0_spreadByDrains_92 rfl (lv_at hl 0 rfl) ?_
                  refine lv_iload hx hb dX0_spreadByDrains_93 (lv_at hl 2 rfl) ?_
                  refine lv_ior hx hb dX0_spreadByDrains_95 ?_
                  refine x_top (mk_or _ _) ?_
                  refine lv_istore_n (lv' := [(2, .int (nI (passN σ w i ||| 2 ^ b0 ||| 2 ^ a0))), (5, .int (nI (2 ^ b0))), (4, .int (nI (2 ^ a0))), (0, .ref h), (3, .int (nI i))]) hx hb dX0_spreadByDrains_96 rfl hl (by decide) rfl (fun ls hl => ?_)
                  refine lv_iinc (v := (nI (i + 1))) (lv' := [(3, .int (nI (i + 1))), (2, .int (nI (passN σ w i ||| 2 ^ b0 ||| 2 ^ a0))), (5, .int (nI (2 ^ b0))), (4, .int (nI (2 ^ a0))), (0, .ref h)]) hx hb dX0_spreadByDrains_97 hl (k := 4) rfl (nI_add i 1) (by decide) rfl (fun ls hl => ?_)
                  refine lv_goto (tgt := 4) hx hb dX0_spreadByDrains_100 (by decide) ?_
                  have e8 : (nI (passN σ w i ||| 2 ^ b0 ||| 2 ^ a0)) = nI (passN σ w (i + 1)) := by
                    show _ = nI (stepM σ i (passN σ w i))
                    rw [sm_d c_52 c_29 c_82 ea0 eb0 (by omega) (by omega), fw_t ht1, fw_t ht2]
                  rw [e8] at hl
                  exact ih_4 (i + 1) (by omega) (by omega) _ _ _ hP hD hS (lv_sub hl [4, 1, 0] rfl)
        · have hpu : ¬ σ 9 i = 0 := by
            rcases hst.2.2.2.2.2 i (by omega) with q | ⟨b, hb9, q⟩
            · exact q.2
            · exact absurd (q.symm.trans c_29) (nI_ne_m1 (by omega))
          refine lv_iconst (v := 0) hx hb dX0_spreadByDrains_32 (by decide) ?_
          refine lv_goto (tgt := 44) hx hb dX0_spreadByDrains_33 (by decide) ?_
          refine lv_istore (lv' := [(5, .int 0), (4, .int (nI (2 ^ a0))), (0, .ref h), (2, .int (nI (passN σ w i))), (3, .int (nI i))]) hx hb dX0_spreadByDrains_44 hl (by decide) rfl (fun ls hl => ?_)
          refine lv_aload_n hx hb dX0_spreadByDrains_46 rfl (lv_at hl 2 rfl) ?_
          refine x_get (C := RX0) (T := TX0) (N := 16) hx hb hts in_wsX00 hown hK hP 0 rfl rfl 10 (by decide) q51 (v := .ref (a 10)) rfl dX0_spreadByDrains_47 ?_
          refine lv_iload_n hx hb dX0_spreadByDrains_50 rfl (lv_at hl 4 rfl) ?_
          refine x_zld hx hb hK hP 11 1 rfl rfl i (rfl) (by omega) (by decide) (v := σ 10 i) rfl dX0_spreadByDrains_51 ?_
          refine lv_if_eq (tgt := 67) hx hb dX0_spreadByDrains_52 (by decide) (fun c_52 => ?_) (fun c_52 => ?_)
          · refine lv_aload_n hx hb dX0_spreadByDrains_67 rfl (lv_at hl 2 rfl) ?_
            refine x_get (C := RX0) (T := TX0) (N := 16) hx hb hts in_wsX00 hown hK hP 0 rfl rfl 10 (by decide) q51 (v := .ref (a 10)) rfl dX0_spreadByDrains_68 ?_
            refine lv_iload_n hx hb dX0_spreadByDrains_71 rfl (lv_at hl 4 rfl) ?_
            refine x_zld hx hb hK hP 11 1 rfl rfl i (rfl) (by omega) (by decide) (v := σ 10 i) rfl dX0_spreadByDrains_72 ?_
            refine lv_if_eq (tgt := 97) hx hb dX0_spreadByDrains_73 (by decide) (fun c_73 => ?_) (fun z => absurd (c_52) z)
            refine lv_iinc (v := (nI (i + 1))) (lv' := [(3, .int (nI (i + 1))), (5, .int 0), (4, .int (nI (2 ^ a0))), (0, .ref h), (2, .int (nI (passN σ w i)))]) hx hb dX0_spreadByDrains_97 hl (k := 4) rfl (nI_add i 1) (by decide) rfl (fun ls hl => ?_)
            refine lv_goto (tgt := 4) hx hb dX0_spreadByDrains_100 (by decide) ?_
            have e8 : (nI (passN σ w i)) = nI (passN σ w (i + 1)) := by
              show _ = nI (stepM σ i (passN σ w i))
              rw [sm_0 c_52]
            rw [e8] at hl
            exact ih_4 (i + 1) (by omega) (by omega) _ _ _ hP hD hS (lv_sub hl [3, 4, 0] rfl)
          · refine lv_iload_n hx hb dX0_spreadByDrains_55 rfl (lv_at hl 3 rfl) ?_
            refine lv_iload hx hb dX0_spreadByDrains_56 (lv_at hl 1 rfl) ?_
            refine lv_iand hx hb dX0_spreadByDrains_58 ?_
            refine lv_if_eq (tgt := 67) hx hb dX0_spreadByDrains_59 (by decide) (fun c_59 => ?_) (fun c_59 => ?_)
            · have ht1 : (passN σ w i).testBit a0 = false := (mk_bit hq10).mp c_59
              refine lv_aload_n hx hb dX0_spreadByDrains_67 rfl (lv_at hl 2 rfl) ?_
              refine x_get (C := RX0) (T := TX0) (N := 16) hx hb hts in_wsX00 hown hK hP 0 rfl rfl 10 (by decide) q51 (v := .ref (a 10)) rfl dX0_spreadByDrains_68 ?_
              refine lv_iload_n hx hb dX0_spreadByDrains_71 rfl (lv_at hl 4 rfl) ?_
              refine x_zld hx hb hK hP 11 1 rfl rfl i (rfl) (by omega) (by decide) (v := σ 10 i) rfl dX0_spreadByDrains_72 ?_
              refine lv_if_eq (tgt := 97) hx hb dX0_spreadByDrains_73 (by decide) (fun z => absurd z (c_52)) (fun c_73 => ?_)
              refine lv_aload_n hx hb dX0_spreadByDrains_76 rfl (lv_at hl 2 rfl) ?_
              refine x_get (C := RX0) (T := TX0) (N := 16) hx hb hts in_wsX00 hown hK hP 0 rfl rfl 9 (by decide) q49 (v := .ref (a 9)) rfl dX0_spreadByDrains_77 ?_
              refine lv_iload_n hx hb dX0_spreadByDrains_80 rfl (lv_at hl 4 rfl) ?_
              refine x_zld hx hb hK hP 10 1 rfl rfl i (rfl) (by omega) (by decide) (v := σ 9 i) rfl dX0_spreadByDrains_81 ?_
              refine lv_if_ne (tgt := 97) hx hb dX0_spreadByDrains_82 (by decide) (fun c_82 => ?_) (fun z => absurd z (hpu))
              refine lv_iinc (v := (nI (i + 1))) (lv' := [(3, .int (nI (i + 1))), (5, .int 0), (4, .int (nI (2 ^ a0))), (0, .ref h), (2, .int (nI (passN σ w i)))]) hx hb dX0_spreadByDrains_97 hl (k := 4) rfl (nI_add i 1) (by decide) rfl (fun ls hl => ?_)
              refine lv_goto (tgt := 4) hx hb dX0_spreadByDrains_100 (by decide) ?_
              have e8 : (nI (passN σ w i)) = nI (passN σ w (i + 1)) := by
                show _ = nI (stepM σ i (passN σ w i))
                rw [sm_sea c_29]
              rw [e8] at hl
              exact ih_4 (i + 1) (by omega) (by omega) _ _ _ hP hD hS (lv_sub hl [3, 4, 0] rfl)
            · have ht1 : (passN σ w i).testBit a0 = true := by
                cases z : (passN σ w i).testBit a0
                · exact absurd ((mk_bit hq10).mpr z) c_59
                · rfl
              refine lv_iload_n hx hb dX0_spreadByDrains_62 rfl (lv_at hl 3 rfl) ?_
              refine lv_iload hx hb dX0_spreadByDrains_63 (lv_at hl 0 rfl) ?_
              refine lv_ior hx hb dX0_spreadByDrains_65 ?_
              refine x_top (mk_or0 _) ?_
              refine lv_istore_n (lv' := [(2, .int (nI (passN σ w i))), (5, .int 0), (4, .int (nI (2 ^ a0))), (0, .ref h), (3, .int (nI i))]) hx hb dX0_spreadByDrains_66 rfl hl (by decide) rfl (fun ls hl => ?_)
              refine lv_aload_n hx hb dX0_spreadByDrains_67 rfl (lv_at hl 3 rfl) ?_
              refine x_get (C := RX0) (T := TX0) (N := 16) hx hb hts in_wsX00 hown hK hP 0 rfl rfl 10 (by decide) q51 (v := .ref (a 10)) rfl dX0_spreadByDrains_68 ?_
              refine lv_iload_n hx hb dX0_spreadByDrains_71 rfl (lv_at hl 4 rfl) ?_
              refine x_zld hx hb hK hP 11 1 rfl rfl i (rfl) (by omega) (by decide) (v := σ 10 i) rfl dX0_spreadByDrains_72 ?_
              refine lv_if_eq (tgt := 97) hx hb dX0_spreadByDrains_73 (by decide) (fun z => absurd z (c_52)) (fun c_73 => ?_)
              refine lv_aload_n hx hb dX0_spreadByDrains_76 rfl (lv_at hl 3 rfl) ?_
              refine x_get (C := RX0) (T := TX0) (N := 16) hx hb hts in_wsX00 hown hK hP 0 rfl rfl 9 (by decide) q49 (v := .ref (a 9)) rfl dX0_spreadByDrains_77 ?_
              refine lv_iload_n hx hb dX0_spreadByDrains_80 rfl (lv_at hl 4 rfl) ?_
              refine x_zld hx hb hK hP 10 1 rfl rfl i (rfl) (by omega) (by decide) (v := σ 9 i) rfl dX0_spreadByDrains_81 ?_
              refine lv_if_ne (tgt := 97) hx hb dX0_spreadByDrains_82 (by decide) (fun c_82 => ?_) (fun z => absurd z (hpu))
              refine lv_iinc (v := (nI (i + 1))) (lv' := [(3, .int (nI (i + 1))), (2, .int (nI (passN σ w i))), (5, .int 0), (4, .int (nI (2 ^ a0))), (0, .ref h)]) hx hb dX0_spreadByDrains_97 hl (k := 4) rfl (nI_add i 1) (by decide) rfl (fun ls hl => ?_)
              refine lv_goto (tgt := 4) hx hb dX0_spreadByDrains_100 (by decide) ?_
              have e8 : (nI (passN σ w i)) = nI (passN σ w (i + 1)) := by
                show _ = nI (stepM σ i (passN σ w i))
                rw [sm_sea c_29]
              rw [e8] at hl
              exact ih_4 (i + 1) (by omega) (by omega) _ _ _ hP hD hS (lv_sub hl [4, 1, 0] rfl)
  exact L4 (k + 1) 0 (by omega) (by omega) _ _ _ hP hD hS (lv_sub hl [2, 1, 0] rfl)
