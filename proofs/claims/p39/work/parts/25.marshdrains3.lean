theorem c_lostH (l : Launch) (D : va_G) (cI cZ cL : ClassId) {n k : Nat} (h : Nat) (a : Nat → Nat) (σ : Sg) (hst : Shp n k σ) (t : Nat) : MC l yX0_lostWorth cX0_lostWorth 3 (some .int) rmX0_lostWorth D (tZ cI cZ cL) [.ref h] (mC cI cZ h a (hours t σ)) (mC cI cZ h a (hours t σ)) (some (.int (lossH t σ))) :=
  c_X0_lostWorth l D cI cZ cL h a (hours t σ) (hst.hrs t)
theorem amin_z0 (g : Nat → Int32) (z : Int32) : amin g z 0 = (-1, z) := rfl
theorem down_eq {i : Nat} (h : i < 10) : nI (10 - i) - 1 = nI (9 - i) := by
  rw [show 10 - i = (9 - i) + 1 by omega, ← nI_add]
  exact Int32.add_sub_cancel _ _
theorem down_step {i : Nat} (h : i < 10) : nI (9 - i) + (-1) = nI (10 - (i + 1)) - 1 := by
  rw [show 10 - (i + 1) = 9 - i by omega, Int32.sub_eq_add_neg]
abbrev rmX1_highest : Room := { frames := 2, cells := 0, slots := 0, locals := 42 }
theorem b_X1_highest : Cond.instanceMethod yX1_highest ∈ LW ∧ Cond.selects RX1 yX1_highest yX1_highest ∈ LW ∧ Cond.initialized RX1 ∈ LW ∧ Cond.code yX1_highest cX1_highest 5 (some .int) ∈ LW := ⟨q314, q315, q9, q316⟩
set_option maxHeartbeats 4000000 in
set_option maxRecDepth 100000 in
theorem c_X1_highest (l : Launch) (D : va_G) (cI cZ cL : ClassId) {n k : Nat} (ob h : Nat) (a : Nat → Nat) (h2 : Nat) (a2 : Nat → Nat) (σ τ : Sg) (hst : Shp n k σ) : MX l yX1_highest cX1_highest 5 (some .int) rmX1_highest D (tZ cI cZ cL) [.ref ob] ((oC ob h h2) ++ ((mC cI cZ h a σ) ++ (mC cI cZ h2 a2 τ))) (fun ρ => (oC ob h h2) ++ ((mC cI cZ h a σ) ++ (mC cI cZ h2 a2 ρ))) (some (.int (amax (fun q => σ 0 q + σ 2 q) (nF σ)))) := by
  refine MX.of (by decide) (Nat.le_of_ble_eq_true rfl) ?_
  intro p e s m args below meth c A ls Q hx hb hml hr hts hown hlocks hA hP hD hK hS hl hQ hE
  have hown : s.vm.findClass RX1 = some m.cls := hown
  have hn10 := hst.1
  have hk16 := hst.2.1
  have hl : lv_has ls 5 [(0, .ref ob)] := hl
  refine lv_iconst (v := (-1)) hx hb dX1_highest_0 (by decide) ?_
  refine lv_istore_n (lv' := [(1, .int (-1)), (0, .ref ob)]) hx hb dX1_highest_1 rfl hl (by decide) rfl (fun ls hl => ?_)
  refine lv_iconst (v := 0) hx hb dX1_highest_2 (by decide) ?_
  refine lv_istore_n (lv' := [(2, .int 0), (1, .int (-1)), (0, .ref ob)]) hx hb dX1_highest_3 rfl hl (by decide) rfl (fun ls hl => ?_)
  refine lv_iconst (v := 0) hx hb dX1_highest_4 (by decide) ?_
  refine lv_istore_n (lv' := [(3, .int 0), (2, .int 0), (1, .int (-1)), (0, .ref ob)]) hx hb dX1_highest_5 rfl hl (by decide) rfl (fun ls hl => ?_)
  have hl : lv_has ls 5 [(3, .int (nI 0)), (2, .int (amaxL (fun q => σ 0 q + σ 2 q) 0)), (1, .int (amax (fun q => σ 0 q + σ 2 q) 0)), (0, .ref ob)] := hl
  have L6 : ∀ (f i : Nat), i ≤ n → n < i + f → ∀ (H : Heap) (locs : List Loc) (ls : Array Slot), va_P D vwCl ((oC ob h h2) ++ ((mC cI cZ h a σ) ++ (mC cI cZ h2 a2 τ))) H → va_D A ((oC ob h h2) ++ ((mC cI cZ h a σ) ++ (mC cI cZ h2 a2 τ))) → va_S A s.heap H locs → lv_has ls 5 [(0, .ref ob), (1, .int (amax (fun q => σ 0 q + σ 2 q) i)), (2, .int (amaxL (fun q => σ 0 q + σ 2 q) i)), (3, .int (nI i))] → W p l e rmX1_highest s m args below meth c H locs 0 0 Q (F0 m 6 ls []) := by
    intro f
    induction f with
    | zero => intro i h1 h2; exact absurd h2 (by omega)
    | succ f ih_6 =>
      intro i hi_6 hf_6 H locs ls hP hD hS hl
      refine lv_iload_n hx hb dX1_highest_6 rfl (lv_at hl 3 rfl) ?_
      refine lv_aload_n hx hb dX1_highest_7 rfl (lv_at hl 0 rfl) ?_
      refine x_get (C := RX1) (T := TX1) (N := 2) hx hb hts in_wsX10 hown hK hP 0 rfl rfl 0 (by decide) q98 (v := .ref h) rfl dX1_highest_8 ?_
      refine x_getN (C := RX0) (T := TX0) (N := 16) hx hb hts in_wsX00 hown hK hP 1 rfl rfl 11 (by decide) (hE.w 4 rfl) (v := .int (nI n)) (congrArg (fun z => some (Value.int z)) (hst.f0)) dX1_highest_11 ?_
      refine lv_icmp_ge (tgt := 49) hx hb dX1_highest_14 (by decide) (fun c_14 => ?_) (fun c_14 => ?_)
      · have hc_14 : n ≤ i := (nI_leI (a := n) (b := i) (by omega) (by omega)).mp c_14
        refine lv_iload_n hx hb dX1_highest_49 rfl (lv_at hl 1 rfl) ?_
        subst hQ
        exact xri τ hx hb hr hlocks hK hP hD hS dX1_highest_50 (rfl) (by rw [hst.eF, show i = n by omega])
      · have hc_14 : i < n := Nat.not_le.mp (fun z => c_14 ((nI_leI (a := n) (b := i) (by omega) (by omega)).mpr z))
        refine lv_aload_n hx hb dX1_highest_17 rfl (lv_at hl 0 rfl) ?_
        refine x_get (C := RX1) (T := TX1) (N := 2) hx hb hts in_wsX10 hown hK hP 0 rfl rfl 0 (by decide) q98 (v := .ref h) rfl dX1_highest_18 ?_
        refine lv_iload_n hx hb dX1_highest_21 rfl (lv_at hl 3 rfl) ?_
        refine MC.callV (C := RX0) (T := TX0) (N := 16) (As := [.int (nI i)]) (rest := []) (wB := (oC ob h h2) ++ ((mC cI cZ h a σ) ++ (mC cI cZ h2 a2 τ))) (c_X0_levelAt l D cI cZ cL h a σ hst i (by omega)) ⟨hx, hb, hml, hown, hts⟩ q283 b_X0_levelAt (n := 1) (by decide +kernel) ⟨Nat.le_of_ble_eq_true rfl, Nat.le_of_ble_eq_true rfl⟩ hK hP hD hS hA (sp1 _ _ _) (sp1 _ _ _) (ci := 0) rfl (q0 := 1) rfl rfl hl.1 rfl (Nat.le_of_ble_eq_true rfl) dX1_highest_22 ⟨Nat.le_of_ble_eq_true rfl, Nat.le_of_ble_eq_true rfl⟩ (fun H locs hP hD hS => ?_)
        refine lv_topi (fun v_1 ev_1 => ?_)
        refine lv_istore (lv' := [(4, .int v_1), (0, .ref ob), (1, .int (amax (fun q => σ 0 q + σ 2 q) i)), (2, .int (amaxL (fun q => σ 0 q + σ 2 q) i)), (3, .int (nI i))]) hx hb dX1_highest_25 hl (by decide) rfl (fun ls hl => ?_)
        refine lv_iload_n hx hb dX1_highest_27 rfl (lv_at hl 2 rfl) ?_
        refine lv_iconst (v := (-1)) hx hb dX1_highest_28 (by decide) ?_
        refine lv_icmp_eq (tgt := 38) hx hb dX1_highest_29 (by decide) (fun c_29 => ?_) (fun c_29 => ?_)
        · refine lv_iload_n hx hb dX1_highest_38 rfl (lv_at hl 4 rfl) ?_
          refine lv_istore_n (lv' := [(1, .int (nI i)), (4, .int v_1), (0, .ref ob), (2, .int (amaxL (fun q => σ 0 q + σ 2 q) i)), (3, .int (nI i))]) hx hb dX1_highest_39 rfl hl (by decide) rfl (fun ls hl => ?_)
          refine lv_iload hx hb dX1_highest_40 (lv_at hl 1 rfl) ?_
          refine lv_istore_n (lv' := [(2, .int v_1), (1, .int (nI i)), (4, .int v_1), (0, .ref ob), (3, .int (nI i))]) hx hb dX1_highest_42 rfl hl (by decide) rfl (fun ls hl => ?_)
          refine lv_iinc (v := (nI (i + 1))) (lv' := [(3, .int (nI (i + 1))), (2, .int v_1), (1, .int (nI i)), (4, .int v_1), (0, .ref ob)]) hx hb dX1_highest_43 hl (k := 4) rfl (nI_add i 1) (by decide) rfl (fun ls hl => ?_)
          refine lv_goto (tgt := 6) hx hb dX1_highest_46 (by decide) ?_
          have es : amax (fun q => σ 0 q + σ 2 q) (i + 1) = nI i := amax_s1 c_29
          have hl : lv_has ls 5 [(3, .int (nI (i + 1))), (2, .int (amaxL (fun q => σ 0 q + σ 2 q) (i + 1))), (1, .int (amax (fun q => σ 0 q + σ 2 q) (i + 1))), (4, .int v_1), (0, .ref ob)] := by
            have e8 : v_1 = amaxL (fun q => σ 0 q + σ 2 q) (i + 1) := amaxL_of (f := (fun q => σ 0 q + σ 2 q)) (by omega) ev_1 es
            rw [es, ← e8]; exact hl
          exact ih_6 (i + 1) (by omega) (by omega) _ _ _ hP hD hS (lv_sub hl [4, 2, 1, 0] rfl)
        · refine lv_iload hx hb dX1_highest_32 (lv_at hl 0 rfl) ?_
          refine lv_iload_n hx hb dX1_highest_34 rfl (lv_at hl 3 rfl) ?_
          refine lv_icmp_le (tgt := 43) hx hb dX1_highest_35 (by decide) (fun c_35 => ?_) (fun c_35 => ?_)
          · refine lv_iinc (v := (nI (i + 1))) (lv' := [(3, .int (nI (i + 1))), (4, .int v_1), (0, .ref ob), (1, .int (amax (fun q => σ 0 q + σ 2 q) i)), (2, .int (amaxL (fun q => σ 0 q + σ 2 q) i))]) hx hb dX1_highest_43 hl (k := 4) rfl (nI_add i 1) (by decide) rfl (fun ls hl => ?_)
            refine lv_goto (tgt := 6) hx hb dX1_highest_46 (by decide) ?_
            have es : amax (fun q => σ 0 q + σ 2 q) (i + 1) = amax (fun q => σ 0 q + σ 2 q) i := amax_s3 (f := (fun q => σ 0 q + σ 2 q)) ev_1 c_29 c_35
            have hl : lv_has ls 5 [(3, .int (nI (i + 1))), (4, .int v_1), (0, .ref ob), (1, .int (amax (fun q => σ 0 q + σ 2 q) (i + 1))), (2, .int (amaxL (fun q => σ 0 q + σ 2 q) (i + 1)))] := by
              have e8 : amaxL (fun q => σ 0 q + σ 2 q) i = amaxL (fun q => σ 0 q + σ 2 q) (i + 1) := amaxL_keep es
              rw [es, ← e8]; exact hl
            exact ih_6 (i + 1) (by omega) (by omega) _ _ _ hP hD hS (lv_sub hl [2, 3, 4, 0] rfl)
          · refine lv_iload_n hx hb dX1_highest_38 rfl (lv_at hl 4 rfl) ?_
            refine lv_istore_n (lv' := [(1, .int (nI i)), (4, .int v_1), (0, .ref ob), (2, .int (amaxL (fun q => σ 0 q + σ 2 q) i)), (3, .int (nI i))]) hx hb dX1_highest_39 rfl hl (by decide) rfl (fun ls hl => ?_)
            refine lv_iload hx hb dX1_highest_40 (lv_at hl 1 rfl) ?_
            refine lv_istore_n (lv' := [(2, .int v_1), (1, .int (nI i)), (4, .int v_1), (0, .ref ob), (3, .int (nI i))]) hx hb dX1_highest_42 rfl hl (by decide) rfl (fun ls hl => ?_)
            refine lv_iinc (v := (nI (i + 1))) (lv' := [(3, .int (nI (i + 1))), (2, .int v_1), (1, .int (nI i)), (4, .int v_1), (0, .ref ob)]) hx hb dX1_highest_43 hl (k := 4) rfl (nI_add i 1) (by decide) rfl (fun ls hl => ?_)
            refine lv_goto (tgt := 6) hx hb dX1_highest_46 (by decide) ?_
            have es : amax (fun q => σ 0 q + σ 2 q) (i + 1) = nI i := amax_s2 (f := (fun q => σ 0 q + σ 2 q)) ev_1 c_29 c_35
            have hl : lv_has ls 5 [(3, .int (nI (i + 1))), (2, .int (amaxL (fun q => σ 0 q + σ 2 q) (i + 1))), (1, .int (amax (fun q => σ 0 q + σ 2 q) (i + 1))), (4, .int v_1), (0, .ref ob)] := by
              have e8 : v_1 = amaxL (fun q => σ 0 q + σ 2 q) (i + 1) := amaxL_of (f := (fun q => σ 0 q + σ 2 q)) (by omega) ev_1 es
              rw [es, ← e8]; exact hl
            exact ih_6 (i + 1) (by omega) (by omega) _ _ _ hP hD hS (lv_sub hl [4, 2, 1, 0] rfl)
  exact L6 (n + 1) 0 (by omega) (by omega) _ _ _ hP hD hS (lv_sub hl [3, 2, 1, 0] rfl)

abbrev rmX1_busiest : Room := { frames := 0, cells := 0, slots := 0, locals := 0 }
theorem b_X1_busiest : Cond.instanceMethod yX1_busiest ∈ LW ∧ Cond.selects RX1 yX1_busiest yX1_busiest ∈ LW ∧ Cond.initialized RX1 ∈ LW ∧ Cond.code yX1_busiest cX1_busiest 5 (some .int) ∈ LW := ⟨q397, q398, q9, q399⟩
set_option maxHeartbeats 4000000 in
set_option maxRecDepth 100000 in
theorem c_X1_busiest (l : Launch) (D : va_G) (cI cZ cL : ClassId) {n k : Nat} (ob h : Nat) (a : Nat → Nat) (h2 : Nat) (a2 : Nat → Nat) (σ τ : Sg) (hst : Shp n k σ) : MX l yX1_busiest cX1_busiest 5 (some .int) rmX1_busiest D (tZ cI cZ cL) [.ref ob] ((oC ob h h2) ++ ((mC cI cZ h a σ) ++ (mC cI cZ h2 a2 τ))) (fun ρ => (oC ob h h2) ++ ((mC cI cZ h a σ) ++ (mC cI cZ h2 a2 ρ))) (some (.int (amax (fun q => σ 8 q) (nD σ)))) := by
  refine MX.of (by decide) (Nat.le_of_ble_eq_true rfl) ?_
  intro p e s m args below meth c A ls Q hx hb hml hr hts hown hlocks hA hP hD hK hS hl hQ hE
  have hown : s.vm.findClass RX1 = some m.cls := hown
  have hn10 := hst.1
  have hk16 := hst.2.1
  have hl : lv_has ls 5 [(0, .ref ob)] := hl
  refine lv_iconst (v := (-1)) hx hb dX1_busiest_0 (by decide) ?_
  refine lv_istore_n (lv' := [(1, .int (-1)), (0, .ref ob)]) hx hb dX1_busiest_1 rfl hl (by decide) rfl (fun ls hl => ?_)
  refine lv_iconst (v := 0) hx hb dX1_busiest_2 (by decide) ?_
  refine lv_istore_n (lv' := [(2, .int 0), (1, .int (-1)), (0, .ref ob)]) hx hb dX1_busiest_3 rfl hl (by decide) rfl (fun ls hl => ?_)
  refine lv_iconst (v := 0) hx hb dX1_busiest_4 (by decide) ?_
  refine lv_istore_n (lv' := [(3, .int 0), (2, .int 0), (1, .int (-1)), (0, .ref ob)]) hx hb dX1_busiest_5 rfl hl (by decide) rfl (fun ls hl => ?_)
  have hl : lv_has ls 5 [(3, .int (nI 0)), (2, .int (amaxL (fun q => σ 8 q) 0)), (1, .int (amax (fun q => σ 8 q) 0)), (0, .ref ob)] := hl
  have L6 : ∀ (f i : Nat), i ≤ k → k < i + f → ∀ (H : Heap) (locs : List Loc) (ls : Array Slot), va_P D vwCl ((oC ob h h2) ++ ((mC cI cZ h a σ) ++ (mC cI cZ h2 a2 τ))) H → va_D A ((oC ob h h2) ++ ((mC cI cZ h a σ) ++ (mC cI cZ h2 a2 τ))) → va_S A s.heap H locs → lv_has ls 5 [(0, .ref ob), (1, .int (amax (fun q => σ 8 q) i)), (2, .int (amaxL (fun q => σ 8 q) i)), (3, .int (nI i))] → W p l e rmX1_busiest s m args below meth c H locs 0 0 Q (F0 m 6 ls []) := by
    intro f
    induction f with
    | zero => intro i h1 h2; exact absurd h2 (by omega)
    | succ f ih_6 =>
      intro i hi_6 hf_6 H locs ls hP hD hS hl
      refine lv_iload_n hx hb dX1_busiest_6 rfl (lv_at hl 3 rfl) ?_
      refine lv_aload_n hx hb dX1_busiest_7 rfl (lv_at hl 0 rfl) ?_
      refine x_get (C := RX1) (T := TX1) (N := 2) hx hb hts in_wsX10 hown hK hP 0 rfl rfl 0 (by decide) q98 (v := .ref h) rfl dX1_busiest_8 ?_
      refine x_getN (C := RX0) (T := TX0) (N := 16) hx hb hts in_wsX00 hown hK hP 1 rfl rfl 12 (by decide) (hE.w 5 rfl) (v := .int (nI k)) (congrArg (fun z => some (Value.int z)) (hst.f1)) dX1_busiest_11 ?_
      refine lv_icmp_ge (tgt := 50) hx hb dX1_busiest_14 (by decide) (fun c_14 => ?_) (fun c_14 => ?_)
      · have hc_14 : k ≤ i := (nI_leI (a := k) (b := i) (by omega) (by omega)).mp c_14
        refine lv_iload_n hx hb dX1_busiest_50 rfl (lv_at hl 1 rfl) ?_
        subst hQ
        exact xri τ hx hb hr hlocks hK hP hD hS dX1_busiest_51 (rfl) (by rw [hst.eD, show i = k by omega])
      · have hc_14 : i < k := Nat.not_le.mp (fun z => c_14 ((nI_leI (a := k) (b := i) (by omega) (by omega)).mpr z))
        refine lv_aload_n hx hb dX1_busiest_17 rfl (lv_at hl 0 rfl) ?_
        refine x_get (C := RX1) (T := TX1) (N := 2) hx hb hts in_wsX10 hown hK hP 0 rfl rfl 0 (by decide) q98 (v := .ref h) rfl dX1_busiest_18 ?_
        refine x_getN (C := RX0) (T := TX0) (N := 16) hx hb hts in_wsX00 hown hK hP 1 rfl rfl 8 (by decide) (hE.w 12 rfl) (v := .ref (a 8)) rfl dX1_busiest_21 ?_
        refine lv_iload_n hx hb dX1_busiest_24 rfl (lv_at hl 3 rfl) ?_
        refine x_ild hx hb hK hP 10 0 rfl rfl i (rfl) (by omega) (by decide) (v := σ 8 i) rfl dX1_busiest_25 ?_
        refine lv_topi (fun v_1 ev_1 => ?_)
        refine lv_istore (lv' := [(4, .int v_1), (0, .ref ob), (1, .int (amax (fun q => σ 8 q) i)), (2, .int (amaxL (fun q => σ 8 q) i)), (3, .int (nI i))]) hx hb dX1_busiest_26 hl (by decide) rfl (fun ls hl => ?_)
        refine lv_iload_n hx hb dX1_busiest_28 rfl (lv_at hl 2 rfl) ?_
        refine lv_iconst (v := (-1)) hx hb dX1_busiest_29 (by decide) ?_
        refine lv_icmp_eq (tgt := 39) hx hb dX1_busiest_30 (by decide) (fun c_30 => ?_) (fun c_30 => ?_)
        · refine lv_iload_n hx hb dX1_busiest_39 rfl (lv_at hl 4 rfl) ?_
          refine lv_istore_n (lv' := [(1, .int (nI i)), (4, .int v_1), (0, .ref ob), (2, .int (amaxL (fun q => σ 8 q) i)), (3, .int (nI i))]) hx hb dX1_busiest_40 rfl hl (by decide) rfl (fun ls hl => ?_)
          refine lv_iload hx hb dX1_busiest_41 (lv_at hl 1 rfl) ?_
          refine lv_istore_n (lv' := [(2, .int v_1), (1, .int (nI i)), (4, .int v_1), (0, .ref ob), (3, .int (nI i))]) hx hb dX1_busiest_43 rfl hl (by decide) rfl (fun ls hl => ?_)
          refine lv_iinc (v := (nI (i + 1))) (lv' := [(3, .int (nI (i + 1))), (2, .int v_1), (1, .int (nI i)), (4, .int v_1), (0, .ref ob)]) hx hb dX1_busiest_44 hl (k := 4) rfl (nI_add i 1) (by decide) rfl (fun ls hl => ?_)
          refine lv_goto (tgt := 6) hx hb dX1_busiest_47 (by decide) ?_
          have es : amax (fun q => σ 8 q) (i + 1) = nI i := amax_s1 c_30
          have hl : lv_has ls 5 [(3, .int (nI (i + 1))), (2, .int (amaxL (fun q => σ 8 q) (i + 1))), (1, .int (amax (fun q => σ 8 q) (i + 1))), (4, .int v_1), (0, .ref ob)] := by
            have e8 : v_1 = amaxL (fun q => σ 8 q) (i + 1) := amaxL_of (f := (fun q => σ 8 q)) (by omega) ev_1 es
            rw [es, ← e8]; exact hl
          exact ih_6 (i + 1) (by omega) (by omega) _ _ _ hP hD hS (lv_sub hl [4, 2, 1, 0] rfl)
        · refine lv_iload hx hb dX1_busiest_33 (lv_at hl 0 rfl) ?_
          refine lv_iload_n hx hb dX1_busiest_35 rfl (lv_at hl 3 rfl) ?_
          refine lv_icmp_le (tgt := 44) hx hb dX1_busiest_36 (by decide) (fun c_36 => ?_) (fun c_36 => ?_)
          · refine lv_iinc (v := (nI (i + 1))) (lv' := [(3, .int (nI (i + 1))), (4, .int v_1), (0, .ref ob), (1, .int (amax (fun q => σ 8 q) i)), (2, .int (amaxL (fun q => σ 8 q) i))]) hx hb dX1_busiest_44 hl (k := 4) rfl (nI_add i 1) (by decide) rfl (fun ls hl => ?_)
            refine lv_goto (tgt := 6) hx hb dX1_busiest_47 (by decide) ?_
            have es : amax (fun q => σ 8 q) (i + 1) = amax (fun q => σ 8 q) i := amax_s3 (f := (fun q => σ 8 q)) ev_1 c_30 c_36
            have hl : lv_has ls 5 [(3, .int (nI (i + 1))), (4, .int v_1), (0, .ref ob), (1, .int (amax (fun q => σ 8 q) (i + 1))), (2, .int (amaxL (fun q => σ 8 q) (i + 1)))] := by
              have e8 : amaxL (fun q => σ 8 q) i = amaxL (fun q => σ 8 q) (i + 1) := amaxL_keep es
              rw [es, ← e8]; exact hl
            exact ih_6 (i + 1) (by omega) (by omega) _ _ _ hP hD hS (lv_sub hl [2, 3, 4, 0] rfl)
          · refine lv_iload_n hx hb dX1_busiest_39 rfl (lv_at hl 4 rfl) ?_
            refine lv_istore_n (lv' := [(1, .int (nI i)), (4, .int v_1), (0, .ref ob), (2, .int (amaxL (fun q => σ 8 q) i)), (3, .int (nI i))]) hx hb dX1_busiest_40 rfl hl (by decide) rfl (fun ls hl => ?_)
            refine lv_iload hx hb dX1_busiest_41 (lv_at hl 1 rfl) ?_
            refine lv_istore_n (lv' := [(2, .int v_1), (1, .int (nI i)), (4, .int v_1), (0, .ref ob), (3, .int (nI i))]) hx hb dX1_busiest_43 rfl hl (by decide) rfl (fun ls hl => ?_)
            refine lv_iinc (v := (nI (i + 1))) (lv' := [(3, .int (nI (i + 1))), (2, .int v_1), (1, .int (nI i)), (4, .int v_1), (0, .ref ob)]) hx hb dX1_busiest_44 hl (k := 4) rfl (nI_add i 1) (by decide) rfl (fun ls hl => ?_)
            refine lv_goto (tgt := 6) hx hb dX1_busiest_47 (by decide) ?_
            have es : amax (fun q => σ 8 q) (i + 1) = nI i := amax_s2 (f := (fun q => σ 8 q)) ev_1 c_30 c_36
            have hl : lv_has ls 5 [(3, .int (nI (i + 1))), (2, .int (amaxL (fun q => σ 8 q) (i + 1))), (1, .int (amax (fun q => σ 8 q) (i + 1))), (4, .int v_1), (0, .ref ob)] := by
              have e8 : v_1 = amaxL (fun q => σ 8 q) (i + 1) := amaxL_of (f := (fun q => σ 8 q)) (by omega) ev_1 es
              rw [es, ← e8]; exact hl
            exact ih_6 (i + 1) (by omega) (by omega) _ _ _ hP hD hS (lv_sub hl [4, 2, 1, 0] rfl)
  exact L6 (k + 1) 0 (by omega) (by omega) _ _ _ hP hD hS (lv_sub hl [3, 2, 1, 0] rfl)

abbrev rmX1_bestToTurn : Room := { frames := 5, cells := 0, slots := 0, locals := 127 }
theorem b_X1_bestToTurn : Cond.instanceMethod yX1_bestToTurn ∈ LW ∧ Cond.selects RX1 yX1_bestToTurn yX1_bestToTurn ∈ LW ∧ Cond.initialized RX1 ∈ LW ∧ Cond.code yX1_bestToTurn cX1_bestToTurn 5 (some .int) ∈ LW := ⟨q355, q356, q9, q357⟩
set_option maxHeartbeats 4000000 in
set_option maxRecDepth 100000 in
theorem c_X1_bestToTurn (l : Launch) (D : va_G) (cI cZ cL : ClassId) {n k : Nat} (ob h : Nat) (a : Nat → Nat) (h2 : Nat) (a2 : Nat → Nat) (σ τ : Sg) (hst : Shp n k σ) {B : Nat} (hB : Bnd B σ) : MX l yX1_bestToTurn cX1_bestToTurn 5 (some .int) rmX1_bestToTurn D (tZ cI cZ cL) [.ref ob] ((oC ob h h2) ++ ((mC cI cZ h a σ) ++ (mC cI cZ h2 a2 τ))) (fun ρ => (oC ob h h2) ++ ((mC cI cZ h a σ) ++ (mC cI cZ h2 a2 ρ))) (some (.int (turnB σ))) := by
  refine MX.of (by decide) (Nat.le_of_ble_eq_true rfl) ?_
  intro p e s m args below meth c A ls Q hx hb hml hr hts hown hlocks hA hP hD hK hS hl hQ hE
  have hown : s.vm.findClass RX1 = some m.cls := hown
  have hn10 := hst.1
  have hk16 := hst.2.1
  have hl : lv_has ls 5 [(0, .ref ob)] := hl
  refine lv_aload_n hx hb dX1_bestToTurn_0 rfl (lv_at hl 0 rfl) ?_
  refine x_get (C := RX1) (T := TX1) (N := 2) hx hb hts in_wsX10 hown hK hP 0 rfl rfl 1 (by decide) q99 (v := .ref h2) rfl dX1_bestToTurn_1 ?_
  refine lv_aload_n hx hb dX1_bestToTurn_4 rfl (lv_at hl 0 rfl) ?_
  refine x_get (C := RX1) (T := TX1) (N := 2) hx hb hts in_wsX10 hown hK hP 0 rfl rfl 0 (by decide) q98 (v := .ref h) rfl dX1_bestToTurn_5 ?_
  refine MC.callV (C := RX0) (T := TX0) (N := 16) (As := [.ref h]) (rest := []) (wB := (oC ob h h2) ++ ((mC cI cZ h a σ) ++ (mC cI cZ h2 a2 σ))) (c_X0_becomeLike l D cI cZ cL h a σ h2 a2 τ hB) ⟨hx, hb, hml, hown, hts⟩ q341 b_X0_becomeLike (n := 1) (by decide +kernel) ⟨Nat.le_of_ble_eq_true rfl, Nat.le_of_ble_eq_true rfl⟩ hK hP hD hS hA (sp3 _ _ _) (sp3 _ _ _) (ci := 0) rfl (q0 := 13) rfl rfl hl.1 rfl (Nat.le_of_ble_eq_true rfl) dX1_bestToTurn_8 ⟨Nat.le_of_ble_eq_true rfl, Nat.le_of_ble_eq_true rfl⟩ (fun H locs hP hD hS => ?_)
  refine lv_aload_n hx hb dX1_bestToTurn_11 rfl (lv_at hl 0 rfl) ?_
  refine x_get (C := RX1) (T := TX1) (N := 2) hx hb hts in_wsX10 hown hK hP 0 rfl rfl 1 (by decide) q99 (v := .ref h2) rfl dX1_bestToTurn_12 ?_
  refine lv_bipush (v := 24) hx hb dX1_bestToTurn_15 (by decide) ?_
  refine MC.callV (C := RX0) (T := TX0) (N := 16) (As := [.int 24]) (rest := []) (wB := (oC ob h h2) ++ ((mC cI cZ h a σ) ++ (mC cI cZ h2 a2 (hours 24 σ)))) (c_X0_passHours l D cI cZ cL h2 a2 σ hst 24 (by omega)) ⟨hx, hb, hml, hown, hts⟩ q184 b_X0_passHours (n := 1) (by decide +kernel) ⟨Nat.le_of_ble_eq_true rfl, Nat.le_of_ble_eq_true rfl⟩ hK hP hD hS hA (sp2 _ _ _) (sp2 _ _ _) (ci := 0) rfl (q0 := 13) rfl rfl hl.1 rfl (Nat.le_of_ble_eq_true rfl) dX1_bestToTurn_17 ⟨Nat.le_of_ble_eq_true rfl, Nat.le_of_ble_eq_true rfl⟩ (fun H locs hP hD hS => ?_)
  refine lv_aload_n hx hb dX1_bestToTurn_20 rfl (lv_at hl 0 rfl) ?_
  refine x_get (C := RX1) (T := TX1) (N := 2) hx hb hts in_wsX10 hown hK hP 0 rfl rfl 1 (by decide) q99 (v := .ref h2) rfl dX1_bestToTurn_21 ?_
  refine MC.callV (C := RX0) (T := TX0) (N := 16) (As := []) (rest := []) (wB := (oC ob h h2) ++ ((mC cI cZ h a σ) ++ (mC cI cZ h2 a2 (hours 24 σ)))) (c_lostH l D cI cZ cL h2 a2 σ hst 24) ⟨hx, hb, hml, hown, hts⟩ q250 b_X0_lostWorth (n := 0) (by decide +kernel) ⟨Nat.le_of_ble_eq_true rfl, Nat.le_of_ble_eq_true rfl⟩ hK hP hD hS hA (sp2 _ _ _) (sp2 _ _ _) (ci := 0) rfl (q0 := 13) rfl rfl hl.1 rfl (Nat.le_of_ble_eq_true rfl) dX1_bestToTurn_24 ⟨Nat.le_of_ble_eq_true rfl, Nat.le_of_ble_eq_true rfl⟩ (fun H locs hP hD hS => ?_)
  refine lv_istore_n (lv' := [(1, .int (lossH 24 σ)), (0, .ref ob)]) hx hb dX1_bestToTurn_27 rfl hl (by decide) rfl (fun ls hl => ?_)
  refine lv_iconst (v := (-1)) hx hb dX1_bestToTurn_28 (by decide) ?_
  refine lv_istore_n (lv' := [(2, .int (-1)), (1, .int (lossH 24 σ)), (0, .ref ob)]) hx hb dX1_bestToTurn_29 rfl hl (by decide) rfl (fun ls hl => ?_)
  refine lv_iconst (v := 0) hx hb dX1_bestToTurn_30 (by decide) ?_
  refine lv_istore_n (lv' := [(3, .int 0), (2, .int (-1)), (1, .int (lossH 24 σ)), (0, .ref ob)]) hx hb dX1_bestToTurn_31 rfl hl (by decide) rfl (fun ls hl => ?_)
  have hl : lv_has ls 5 [(3, .int (nI 0)), (2, .int ((amin (fun d => lossH 24 (turnS σ d)) (lossH 24 σ) 0).1)), (1, .int (lossH 24 σ)), (0, .ref ob)] := hl
  have hl : lv_has ls 5 [(3, .int (nI 0)), (2, .int ((amin (fun d => lossH 24 (turnS σ d)) (lossH 24 σ) 0).1)), (1, .int ((amin (fun d => lossH 24 (turnS σ d)) (lossH 24 σ) 0).2)), (0, .ref ob)] := (congrArg (fun z => lv_has ls 5 [(3, .int (nI 0)), (2, .int ((amin (fun d => lossH 24 (turnS σ d)) (lossH 24 σ) 0).1)), (1, .int z), (0, .ref ob)]) (amin_z2 (fun d => lossH 24 (turnS σ d)) (lossH 24 σ))).mp hl
  have L32 : ∀ (f i : Nat) (ρ : Sg), i ≤ k → k < i + f → ∀ (H : Heap) (locs : List Loc) (ls : Array Slot), va_P D vwCl ((oC ob h h2) ++ ((mC cI cZ h a σ) ++ (mC cI cZ h2 a2 ρ))) H → va_D A ((oC ob h h2) ++ ((mC cI cZ h a σ) ++ (mC cI cZ h2 a2 ρ))) → va_S A s.heap H locs → lv_has ls 5 [(0, .ref ob), (1, .int ((amin (fun d => lossH 24 (turnS σ d)) (lossH 24 σ) i).2)), (2, .int ((amin (fun d => lossH 24 (turnS σ d)) (lossH 24 σ) i).1)), (3, .int (nI i))] → W p l e rmX1_bestToTurn s m args below meth c H locs 0 0 Q (F0 m 32 ls []) := by
    intro f
    induction f with
    | zero => intro i ρ h1 h2; exact absurd h2 (by omega)
    | succ f ih_32 =>
      intro i ρ hi_32 hf_32 H locs ls hP hD hS hl
      refine lv_iload_n hx hb dX1_bestToTurn_32 rfl (lv_at hl 3 rfl) ?_
      refine lv_aload_n hx hb dX1_bestToTurn_33 rfl (lv_at hl 0 rfl) ?_
      refine x_get (C := RX1) (T := TX1) (N := 2) hx hb hts in_wsX10 hown hK hP 0 rfl rfl 0 (by decide) q98 (v := .ref h) rfl dX1_bestToTurn_34 ?_
      refine x_getN (C := RX0) (T := TX0) (N := 16) hx hb hts in_wsX00 hown hK hP 1 rfl rfl 12 (by decide) (hE.w 5 rfl) (v := .int (nI k)) (congrArg (fun z => some (Value.int z)) (hst.f1)) dX1_bestToTurn_37 ?_
      refine lv_icmp_ge (tgt := 97) hx hb dX1_bestToTurn_40 (by decide) (fun c_40 => ?_) (fun c_40 => ?_)
      · have hc_40 : k ≤ i := (nI_leI (a := k) (b := i) (by omega) (by omega)).mp c_40
        refine lv_iload_n hx hb dX1_bestToTurn_97 rfl (lv_at hl 2 rfl) ?_
        subst hQ
        exact xri ρ hx hb hr hlocks hK hP hD hS dX1_bestToTurn_98 (rfl) (by unfold turnB; rw [hst.eD, show i = k by omega])
      · have hc_40 : i < k := Nat.not_le.mp (fun z => c_40 ((nI_leI (a := k) (b := i) (by omega) (by omega)).mpr z))
        refine lv_aload_n hx hb dX1_bestToTurn_43 rfl (lv_at hl 0 rfl) ?_
        refine x_get (C := RX1) (T := TX1) (N := 2) hx hb hts in_wsX10 hown hK hP 0 rfl rfl 1 (by decide) q99 (v := .ref h2) rfl dX1_bestToTurn_44 ?_
        refine lv_aload_n hx hb dX1_bestToTurn_47 rfl (lv_at hl 0 rfl) ?_
        refine x_get (C := RX1) (T := TX1) (N := 2) hx hb hts in_wsX10 hown hK hP 0 rfl rfl 0 (by decide) q98 (v := .ref h) rfl dX1_bestToTurn_48 ?_
        refine MC.callV (C := RX0) (T := TX0) (N := 16) (As := [.ref h]) (rest := []) (wB := (oC ob h h2) ++ ((mC cI cZ h a σ) ++ (mC cI cZ h2 a2 σ))) (c_X0_becomeLike l D cI cZ cL h a σ h2 a2 ρ hB) ⟨hx, hb, hml, hown, hts⟩ q341 b_X0_becomeLike (n := 1) (by decide +kernel) ⟨Nat.le_of_ble_eq_true rfl, Nat.le_of_ble_eq_true rfl⟩ hK hP hD hS hA (sp3 _ _ _) (sp3 _ _ _) (ci := 0) rfl (q0 := 13) rfl rfl hl.1 rfl (Nat.le_of_ble_eq_true rfl) dX1_bestToTurn_51 ⟨Nat.le_of_ble_eq_true rfl, Nat.le_of_ble_eq_true rfl⟩ (fun H locs hP hD hS => ?_)
        refine lv_aload_n hx hb dX1_bestToTurn_54 rfl (lv_at hl 0 rfl) ?_
        refine x_get (C := RX1) (T := TX1) (N := 2) hx hb hts in_wsX10 hown hK hP 0 rfl rfl 1 (by decide) q99 (v := .ref h2) rfl dX1_bestToTurn_55 ?_
        refine lv_iload_n hx hb dX1_bestToTurn_58 rfl (lv_at hl 3 rfl) ?_
        refine MC.callV (C := RX0) (T := TX0) (N := 16) (As := [.int (nI i)]) (rest := []) (wB := (oC ob h h2) ++ ((mC cI cZ h a σ) ++ (mC cI cZ h2 a2 (turnS σ i)))) (c_X0_turnDrain l D cI cZ cL h2 a2 σ hst i (by omega)) ⟨hx, hb, hml, hown, hts⟩ q358 b_X0_turnDrain (n := 1) (by decide +kernel) ⟨Nat.le_of_ble_eq_true rfl, Nat.le_of_ble_eq_true rfl⟩ hK hP hD hS hA (sp2 _ _ _) (sp2 _ _ _) (ci := 0) rfl (q0 := 13) rfl rfl hl.1 rfl (Nat.le_of_ble_eq_true rfl) dX1_bestToTurn_59 ⟨Nat.le_of_ble_eq_true rfl, Nat.le_of_ble_eq_true rfl⟩ (fun H locs hP hD hS => ?_)
        refine lv_aload_n hx hb dX1_bestToTurn_62 rfl (lv_at hl 0 rfl) ?_
        refine x_get (C := RX1) (T := TX1) (N := 2) hx hb hts in_wsX10 hown hK hP 0 rfl rfl 1 (by decide) q99 (v := .ref h2) rfl dX1_bestToTurn_63 ?_
        refine lv_bipush (v := 24) hx hb dX1_bestToTurn_66 (by decide) ?_
        refine MC.callV (C := RX0) (T := TX0) (N := 16) (As := [.int 24]) (rest := []) (wB := (oC ob h h2) ++ ((mC cI cZ h a σ) ++ (mC cI cZ h2 a2 (hours 24 (turnS σ i))))) (c_X0_passHours l D cI cZ cL h2 a2 (turnS σ i) (hst.tu i) 24 (by omega)) ⟨hx, hb, hml, hown, hts⟩ q184 b_X0_passHours (n := 1) (by decide +kernel) ⟨Nat.le_of_ble_eq_true rfl, Nat.le_of_ble_eq_true rfl⟩ hK hP hD hS hA (sp2 _ _ _) (sp2 _ _ _) (ci := 0) rfl (q0 := 13) rfl rfl hl.1 rfl (Nat.le_of_ble_eq_true rfl) dX1_bestToTurn_68 ⟨Nat.le_of_ble_eq_true rfl, Nat.le_of_ble_eq_true rfl⟩ (fun H locs hP hD hS => ?_)
        refine lv_aload_n hx hb dX1_bestToTurn_71 rfl (lv_at hl 0 rfl) ?_
        refine x_get (C := RX1) (T := TX1) (N := 2) hx hb hts in_wsX10 hown hK hP 0 rfl rfl 1 (by decide) q99 (v := .ref h2) rfl dX1_bestToTurn_72 ?_
        refine MC.callV (C := RX0) (T := TX0) (N := 16) (As := []) (rest := []) (wB := (oC ob h h2) ++ ((mC cI cZ h a σ) ++ (mC cI cZ h2 a2 (hours 24 (turnS σ i))))) (c_lostH l D cI cZ cL h2 a2 (turnS σ i) (hst.tu i) 24) ⟨hx, hb, hml, hown, hts⟩ q250 b_X0_lostWorth (n := 0) (by decide +kernel) ⟨Nat.le_of_ble_eq_true rfl, Nat.le_of_ble_eq_true rfl⟩ hK hP hD hS hA (sp2 _ _ _) (sp2 _ _ _) (ci := 0) rfl (q0 := 13) rfl rfl hl.1 rfl (Nat.le_of_ble_eq_true rfl) dX1_bestToTurn_75 ⟨Nat.le_of_ble_eq_true rfl, Nat.le_of_ble_eq_true rfl⟩ (fun H locs hP hD hS => ?_)
        refine lv_topi (fun v_1 ev_1 => ?_)
        refine lv_istore (lv' := [(4, .int v_1), (0, .ref ob), (1, .int ((amin (fun d => lossH 24 (turnS σ d)) (lossH 24 σ) i).2)), (2, .int ((amin (fun d => lossH 24 (turnS σ d)) (lossH 24 σ) i).1)), (3, .int (nI i))]) hx hb dX1_bestToTurn_78 hl (by decide) rfl (fun ls hl => ?_)
        refine lv_iload hx hb dX1_bestToTurn_80 (lv_at hl 0 rfl) ?_
        refine lv_iload_n hx hb dX1_bestToTurn_82 rfl (lv_at hl 2 rfl) ?_
        refine lv_icmp_ge (tgt := 91) hx hb dX1_bestToTurn_83 (by decide) (fun c_83 => ?_) (fun c_83 => ?_)
        · refine lv_iinc (v := (nI (i + 1))) (lv' := [(3, .int (nI (i + 1))), (4, .int v_1), (0, .ref ob), (1, .int ((amin (fun d => lossH 24 (turnS σ d)) (lossH 24 σ) i).2)), (2, .int ((amin (fun d => lossH 24 (turnS σ d)) (lossH 24 σ) i).1))]) hx hb dX1_bestToTurn_91 hl (k := 4) rfl (nI_add i 1) (by decide) rfl (fun ls hl => ?_)
          refine lv_goto (tgt := 32) hx hb dX1_bestToTurn_94 (by decide) ?_
          have es : amin (fun d => lossH 24 (turnS σ d)) (lossH 24 σ) (i + 1) = amin (fun d => lossH 24 (turnS σ d)) (lossH 24 σ) i := amin_ge ev_1 c_83
          have hl : lv_has ls 5 [(3, .int (nI (i + 1))), (4, .int v_1), (0, .ref ob), (1, .int ((amin (fun d => lossH 24 (turnS σ d)) (lossH 24 σ) (i + 1)).2)), (2, .int ((amin (fun d => lossH 24 (turnS σ d)) (lossH 24 σ) (i + 1)).1))] := by rw [es]; exact hl
          exact ih_32 (i + 1) (hours 24 (turnS σ i)) (by omega) (by omega) _ _ _ hP hD hS (lv_sub hl [2, 3, 4, 0] rfl)
        · refine lv_iload_n hx hb dX1_bestToTurn_86 rfl (lv_at hl 4 rfl) ?_
          refine lv_istore_n (lv' := [(2, .int (nI i)), (4, .int v_1), (0, .ref ob), (1, .int ((amin (fun d => lossH 24 (turnS σ d)) (lossH 24 σ) i).2)), (3, .int (nI i))]) hx hb dX1_bestToTurn_87 rfl hl (by decide) rfl (fun ls hl => ?_)
          refine lv_iload hx hb dX1_bestToTurn_88 (lv_at hl 1 rfl) ?_
          refine lv_istore_n (lv' := [(1, .int v_1), (2, .int (nI i)), (4, .int v_1), (0, .ref ob), (3, .int (nI i))]) hx hb dX1_bestToTurn_90 rfl hl (by decide) rfl (fun ls hl => ?_)
          refine lv_iinc (v := (nI (i + 1))) (lv' := [(3, .int (nI (i + 1))), (1, .int v_1), (2, .int (nI i)), (4, .int v_1), (0, .ref ob)]) hx hb dX1_bestToTurn_91 hl (k := 4) rfl (nI_add i 1) (by decide) rfl (fun ls hl => ?_)
          refine lv_goto (tgt := 32) hx hb dX1_bestToTurn_94 (by decide) ?_
          have es : amin (fun d => lossH 24 (turnS σ d)) (lossH 24 σ) (i + 1) = (nI i, v_1) := amin_lt ev_1 c_83
          have hl : lv_has ls 5 [(3, .int (nI (i + 1))), (1, .int ((amin (fun d => lossH 24 (turnS σ d)) (lossH 24 σ) (i + 1)).2)), (2, .int ((amin (fun d => lossH 24 (turnS σ d)) (lossH 24 σ) (i + 1)).1)), (4, .int v_1), (0, .ref ob)] := by rw [es]; exact hl
          exact ih_32 (i + 1) (hours 24 (turnS σ i)) (by omega) (by omega) _ _ _ hP hD hS (lv_sub hl [4, 1, 2, 0] rfl)
  exact L32 (k + 1) 0 (hours 24 σ) (by omega) (by omega) _ _ _ hP hD hS (lv_sub hl [3, 2, 1, 0] rfl)

abbrev rmX1_bestToFlood : Room := { frames := 5, cells := 0, slots := 0, locals := 127 }
theorem b_X1_bestToFlood : Cond.instanceMethod yX1_bestToFlood ∈ LW ∧ Cond.selects RX1 yX1_bestToFlood yX1_bestToFlood ∈ LW ∧ Cond.initialized RX1 ∈ LW ∧ Cond.code yX1_bestToFlood cX1_bestToFlood 6 (some .int) ∈ LW := ⟨q363, q364, q9, q365⟩
set_option maxHeartbeats 4000000 in
set_option maxRecDepth 100000 in
theorem c_X1_bestToFlood (l : Launch) (D : va_G) (cI cZ cL : ClassId) {n k : Nat} (ob h : Nat) (a : Nat → Nat) (h2 : Nat) (a2 : Nat → Nat) (σ τ : Sg) (hst : Shp n k σ) {B : Nat} (hB : Bnd B σ) (t : Nat) (ht1 : 1 ≤ t) (ht : t ≤ 50) : MX l yX1_bestToFlood cX1_bestToFlood 6 (some .int) rmX1_bestToFlood D (tZ cI cZ cL) [.ref ob, .int (nI t)] ((oC ob h h2) ++ ((mC cI cZ h a σ) ++ (mC cI cZ h2 a2 τ))) (fun ρ => (oC ob h h2) ++ ((mC cI cZ h a σ) ++ (mC cI cZ h2 a2 ρ))) (some (.int (floodB σ (nI t)))) := by
  refine MX.of (by decide) (Nat.le_of_ble_eq_true rfl) ?_
  intro p e s m args below meth c A ls Q hx hb hml hr hts hown hlocks hA hP hD hK hS hl hQ hE
  have hown : s.vm.findClass RX1 = some m.cls := hown
  have hn10 := hst.1
  have hk16 := hst.2.1
  have hl : lv_has ls 6 [(0, .ref ob), (1, .int (nI t))] := hl
  refine lv_iload_n hx hb dX1_bestToFlood_0 rfl (lv_at hl 1 rfl) ?_
  refine lv_iconst (v := 1) hx hb dX1_bestToFlood_1 (by decide) ?_
  refine lv_bipush (v := 50) hx hb dX1_bestToFlood_2 (by decide) ?_
  refine MC.callS (As := [.int (nI t), .int 1, .int 50]) (rest := []) (wB := (oC ob h h2) ++ ((mC cI cZ h a σ) ++ (mC cI cZ h2 a2 τ))) (c_X1_requireWithin_ok l D cI cZ cL (nI t) 1 50 (inR_1 (inR_t 1 50 (by decide) ht1 ht)).1 (inR_1 (inR_t 1 50 (by decide) ht1 ht)).2) ⟨hx, hb, hml, hown, hts⟩ q109 b_X1_requireWithin (n := 3) (by decide +kernel) ⟨Nat.le_of_ble_eq_true rfl, Nat.le_of_ble_eq_true rfl⟩ hK hP hD hS hA (spE _) (spE _) rfl hl.1 rfl (Nat.le_of_ble_eq_true rfl) dX1_bestToFlood_4 ⟨Nat.le_of_ble_eq_true rfl, Nat.le_of_ble_eq_true rfl⟩ (fun H locs hP hD hS => ?_)
  refine lv_iconst (v := (-1)) hx hb dX1_bestToFlood_7 (by decide) ?_
  refine lv_istore_n (lv' := [(2, .int (-1)), (0, .ref ob), (1, .int (nI t))]) hx hb dX1_bestToFlood_8 rfl hl (by decide) rfl (fun ls hl => ?_)
  refine lv_iconst (v := 0) hx hb dX1_bestToFlood_9 (by decide) ?_
  refine lv_istore_n (lv' := [(3, .int 0), (2, .int (-1)), (0, .ref ob), (1, .int (nI t))]) hx hb dX1_bestToFlood_10 rfl hl (by decide) rfl (fun ls hl => ?_)
  refine lv_iconst (v := 0) hx hb dX1_bestToFlood_11 (by decide) ?_
  refine lv_istore (lv' := [(4, .int 0), (3, .int 0), (2, .int (-1)), (0, .ref ob), (1, .int (nI t))]) hx hb dX1_bestToFlood_12 hl (by decide) rfl (fun ls hl => ?_)
  have hl : lv_has ls 6 [(4, .int (nI 0)), (3, .int ((aminF (fun f => lossH 24 (addW σ f (nI t))) 0).2)), (2, .int ((aminF (fun f => lossH 24 (addW σ f (nI t))) 0).1)), (0, .ref ob), (1, .int (nI t))] := hl
  have L14 : ∀ (f i : Nat) (ρ : Sg), i ≤ n → n < i + f → ∀ (H : Heap) (locs : List Loc) (ls : Array Slot), va_P D vwCl ((oC ob h h2) ++ ((mC cI cZ h a σ) ++ (mC cI cZ h2 a2 ρ))) H → va_D A ((oC ob h h2) ++ ((mC cI cZ h a σ) ++ (mC cI cZ h2 a2 ρ))) → va_S A s.heap H locs → lv_has ls 6 [(0, .ref ob), (1, .int (nI t)), (2, .int ((aminF (fun f => lossH 24 (addW σ f (nI t))) i).1)), (3, .int ((aminF (fun f => lossH 24 (addW σ f (nI t))) i).2)), (4, .int (nI i))] → W p l e rmX1_bestToFlood s m args below meth c H locs 0 0 Q (F0 m 14 ls []) := by
    intro f
    induction f with
    | zero => intro i ρ h1 h2; exact absurd h2 (by omega)
    | succ f ih_14 =>
      intro i ρ hi_14 hf_14 H locs ls hP hD hS hl
      refine lv_iload hx hb dX1_bestToFlood_14 (lv_at hl 4 rfl) ?_
      refine lv_aload_n hx hb dX1_bestToFlood_16 rfl (lv_at hl 0 rfl) ?_
      refine x_get (C := RX1) (T := TX1) (N := 2) hx hb hts in_wsX10 hown hK hP 0 rfl rfl 0 (by decide) q98 (v := .ref h) rfl dX1_bestToFlood_17 ?_
      refine x_getN (C := RX0) (T := TX0) (N := 16) hx hb hts in_wsX00 hown hK hP 1 rfl rfl 11 (by decide) (hE.w 4 rfl) (v := .int (nI n)) (congrArg (fun z => some (Value.int z)) (hst.f0)) dX1_bestToFlood_20 ?_
      refine lv_icmp_ge (tgt := 88) hx hb dX1_bestToFlood_23 (by decide) (fun c_23 => ?_) (fun c_23 => ?_)
      · have hc_23 : n ≤ i := (nI_leI (a := n) (b := i) (by omega) (by omega)).mp c_23
        refine lv_iload_n hx hb dX1_bestToFlood_88 rfl (lv_at hl 2 rfl) ?_
        subst hQ
        exact xri ρ hx hb hr hlocks hK hP hD hS dX1_bestToFlood_89 (rfl) (by unfold floodB; rw [hst.eF, show i = n by omega])
      · have hc_23 : i < n := Nat.not_le.mp (fun z => c_23 ((nI_leI (a := n) (b := i) (by omega) (by omega)).mpr z))
        refine lv_aload_n hx hb dX1_bestToFlood_26 rfl (lv_at hl 0 rfl) ?_
        refine x_get (C := RX1) (T := TX1) (N := 2) hx hb hts in_wsX10 hown hK hP 0 rfl rfl 1 (by decide) q99 (v := .ref h2) rfl dX1_bestToFlood_27 ?_
        refine lv_aload_n hx hb dX1_bestToFlood_30 rfl (lv_at hl 0 rfl) ?_
        refine x_get (C := RX1) (T := TX1) (N := 2) hx hb hts in_wsX10 hown hK hP 0 rfl rfl 0 (by decide) q98 (v := .ref h) rfl dX1_bestToFlood_31 ?_
        refine MC.callV (C := RX0) (T := TX0) (N := 16) (As := [.ref h]) (rest := []) (wB := (oC ob h h2) ++ ((mC cI cZ h a σ) ++ (mC cI cZ h2 a2 σ))) (c_X0_becomeLike l D cI cZ cL h a σ h2 a2 ρ hB) ⟨hx, hb, hml, hown, hts⟩ q341 b_X0_becomeLike (n := 1) (by decide +kernel) ⟨Nat.le_of_ble_eq_true rfl, Nat.le_of_ble_eq_true rfl⟩ hK hP hD hS hA (sp3 _ _ _) (sp3 _ _ _) (ci := 0) rfl (q0 := 13) rfl rfl hl.1 rfl (Nat.le_of_ble_eq_true rfl) dX1_bestToFlood_34 ⟨Nat.le_of_ble_eq_true rfl, Nat.le_of_ble_eq_true rfl⟩ (fun H locs hP hD hS => ?_)
        refine lv_aload_n hx hb dX1_bestToFlood_37 rfl (lv_at hl 0 rfl) ?_
        refine x_get (C := RX1) (T := TX1) (N := 2) hx hb hts in_wsX10 hown hK hP 0 rfl rfl 1 (by decide) q99 (v := .ref h2) rfl dX1_bestToFlood_38 ?_
        refine lv_iload hx hb dX1_bestToFlood_41 (lv_at hl 4 rfl) ?_
        refine lv_iload_n hx hb dX1_bestToFlood_43 rfl (lv_at hl 1 rfl) ?_
        refine MC.callV (C := RX0) (T := TX0) (N := 16) (As := [.int (nI i), .int (nI t)]) (rest := []) (wB := (oC ob h h2) ++ ((mC cI cZ h a σ) ++ (mC cI cZ h2 a2 (addW σ i (nI t))))) (c_X0_letWaterIn l D cI cZ cL h2 a2 σ hst i (by omega) (nI t)) ⟨hx, hb, hml, hown, hts⟩ q366 b_X0_letWaterIn (n := 2) (by decide +kernel) ⟨Nat.le_of_ble_eq_true rfl, Nat.le_of_ble_eq_true rfl⟩ hK hP hD hS hA (sp2 _ _ _) (sp2 _ _ _) (ci := 0) rfl (q0 := 13) rfl rfl hl.1 rfl (Nat.le_of_ble_eq_true rfl) dX1_bestToFlood_44 ⟨Nat.le_of_ble_eq_true rfl, Nat.le_of_ble_eq_true rfl⟩ (fun H locs hP hD hS => ?_)
        refine lv_aload_n hx hb dX1_bestToFlood_47 rfl (lv_at hl 0 rfl) ?_
        refine x_get (C := RX1) (T := TX1) (N := 2) hx hb hts in_wsX10 hown hK hP 0 rfl rfl 1 (by decide) q99 (v := .ref h2) rfl dX1_bestToFlood_48 ?_
        refine lv_bipush (v := 24) hx hb dX1_bestToFlood_51 (by decide) ?_
        refine MC.callV (C := RX0) (T := TX0) (N := 16) (As := [.int 24]) (rest := []) (wB := (oC ob h h2) ++ ((mC cI cZ h a σ) ++ (mC cI cZ h2 a2 (hours 24 (addW σ i (nI t)))))) (c_X0_passHours l D cI cZ cL h2 a2 (addW σ i (nI t)) (hst.aw i (nI t)) 24 (by omega)) ⟨hx, hb, hml, hown, hts⟩ q184 b_X0_passHours (n := 1) (by decide +kernel) ⟨Nat.le_of_ble_eq_true rfl, Nat.le_of_ble_eq_true rfl⟩ hK hP hD hS hA (sp2 _ _ _) (sp2 _ _ _) (ci := 0) rfl (q0 := 13) rfl rfl hl.1 rfl (Nat.le_of_ble_eq_true rfl) dX1_bestToFlood_53 ⟨Nat.le_of_ble_eq_true rfl, Nat.le_of_ble_eq_true rfl⟩ (fun H locs hP hD hS => ?_)
        refine lv_aload_n hx hb dX1_bestToFlood_56 rfl (lv_at hl 0 rfl) ?_
        refine x_get (C := RX1) (T := TX1) (N := 2) hx hb hts in_wsX10 hown hK hP 0 rfl rfl 1 (by decide) q99 (v := .ref h2) rfl dX1_bestToFlood_57 ?_
        refine MC.callV (C := RX0) (T := TX0) (N := 16) (As := []) (rest := []) (wB := (oC ob h h2) ++ ((mC cI cZ h a σ) ++ (mC cI cZ h2 a2 (hours 24 (addW σ i (nI t)))))) (c_lostH l D cI cZ cL h2 a2 (addW σ i (nI t)) (hst.aw i (nI t)) 24) ⟨hx, hb, hml, hown, hts⟩ q250 b_X0_lostWorth (n := 0) (by decide +kernel) ⟨Nat.le_of_ble_eq_true rfl, Nat.le_of_ble_eq_true rfl⟩ hK hP hD hS hA (sp2 _ _ _) (sp2 _ _ _) (ci := 0) rfl (q0 := 13) rfl rfl hl.1 rfl (Nat.le_of_ble_eq_true rfl) dX1_bestToFlood_60 ⟨Nat.le_of_ble_eq_true rfl, Nat.le_of_ble_eq_true rfl⟩ (fun H locs hP hD hS => ?_)
        refine lv_topi (fun v_1 ev_1 => ?_)
        refine lv_istore (lv' := [(5, .int v_1), (0, .ref ob), (1, .int (nI t)), (2, .int ((aminF (fun f => lossH 24 (addW σ f (nI t))) i).1)), (3, .int ((aminF (fun f => lossH 24 (addW σ f (nI t))) i).2)), (4, .int (nI i))]) hx hb dX1_bestToFlood_63 hl (by decide) rfl (fun ls hl => ?_)
        refine lv_iload_n hx hb dX1_bestToFlood_65 rfl (lv_at hl 3 rfl) ?_
        refine lv_iconst (v := (-1)) hx hb dX1_bestToFlood_66 (by decide) ?_
        refine lv_icmp_eq (tgt := 76) hx hb dX1_bestToFlood_67 (by decide) (fun c_67 => ?_) (fun c_67 => ?_)
        · refine lv_iload hx hb dX1_bestToFlood_76 (lv_at hl 5 rfl) ?_
          refine lv_istore_n (lv' := [(2, .int (nI i)), (5, .int v_1), (0, .ref ob), (1, .int (nI t)), (3, .int ((aminF (fun f => lossH 24 (addW σ f (nI t))) i).2)), (4, .int (nI i))]) hx hb dX1_bestToFlood_78 rfl hl (by decide) rfl (fun ls hl => ?_)
          refine lv_iload hx hb dX1_bestToFlood_79 (lv_at hl 1 rfl) ?_
          refine lv_istore_n (lv' := [(3, .int v_1), (2, .int (nI i)), (5, .int v_1), (0, .ref ob), (1, .int (nI t)), (4, .int (nI i))]) hx hb dX1_bestToFlood_81 rfl hl (by decide) rfl (fun ls hl => ?_)
          refine lv_iinc (v := (nI (i + 1))) (lv' := [(4, .int (nI (i + 1))), (3, .int v_1), (2, .int (nI i)), (5, .int v_1), (0, .ref ob), (1, .int (nI t))]) hx hb dX1_bestToFlood_82 hl (k := 5) rfl (nI_add i 1) (by decide) rfl (fun ls hl => ?_)
          refine lv_goto (tgt := 14) hx hb dX1_bestToFlood_85 (by decide) ?_
          have es : aminF (fun f => lossH 24 (addW σ f (nI t))) (i + 1) = (nI i, v_1) := aminF_0 ev_1 c_67
          have hl : lv_has ls 6 [(4, .int (nI (i + 1))), (3, .int ((aminF (fun f => lossH 24 (addW σ f (nI t))) (i + 1)).2)), (2, .int ((aminF (fun f => lossH 24 (addW σ f (nI t))) (i + 1)).1)), (5, .int v_1), (0, .ref ob), (1, .int (nI t))] := by rw [es]; exact hl
          exact ih_14 (i + 1) (hours 24 (addW σ i (nI t))) (by omega) (by omega) _ _ _ hP hD hS (lv_sub hl [4, 5, 2, 1, 0] rfl)
        · refine lv_iload hx hb dX1_bestToFlood_70 (lv_at hl 0 rfl) ?_
          refine lv_iload_n hx hb dX1_bestToFlood_72 rfl (lv_at hl 4 rfl) ?_
          refine lv_icmp_ge (tgt := 82) hx hb dX1_bestToFlood_73 (by decide) (fun c_73 => ?_) (fun c_73 => ?_)
          · refine lv_iinc (v := (nI (i + 1))) (lv' := [(4, .int (nI (i + 1))), (5, .int v_1), (0, .ref ob), (1, .int (nI t)), (2, .int ((aminF (fun f => lossH 24 (addW σ f (nI t))) i).1)), (3, .int ((aminF (fun f => lossH 24 (addW σ f (nI t))) i).2))]) hx hb dX1_bestToFlood_82 hl (k := 5) rfl (nI_add i 1) (by decide) rfl (fun ls hl => ?_)
            refine lv_goto (tgt := 14) hx hb dX1_bestToFlood_85 (by decide) ?_
            have es : aminF (fun f => lossH 24 (addW σ f (nI t))) (i + 1) = aminF (fun f => lossH 24 (addW σ f (nI t))) i := aminF_ge ev_1 c_67 c_73
            have hl : lv_has ls 6 [(4, .int (nI (i + 1))), (5, .int v_1), (0, .ref ob), (1, .int (nI t)), (2, .int ((aminF (fun f => lossH 24 (addW σ f (nI t))) (i + 1)).1)), (3, .int ((aminF (fun f => lossH 24 (addW σ f (nI t))) (i + 1)).2))] := by rw [es]; exact hl
            exact ih_14 (i + 1) (hours 24 (addW σ i (nI t))) (by omega) (by omega) _ _ _ hP hD hS (lv_sub hl [2, 3, 4, 5, 0] rfl)
          · refine lv_iload hx hb dX1_bestToFlood_76 (lv_at hl 5 rfl) ?_
            refine lv_istore_n (lv' := [(2, .int (nI i)), (5, .int v_1), (0, .ref ob), (1, .int (nI t)), (3, .int ((aminF (fun f => lossH 24 (addW σ f (nI t))) i).2)), (4, .int (nI i))]) hx hb dX1_bestToFlood_78 rfl hl (by decide) rfl (fun ls hl => ?_)
            refine lv_iload hx hb dX1_bestToFlood_79 (lv_at hl 1 rfl) ?_
            refine lv_istore_n (lv' := [(3, .int v_1), (2, .int (nI i)), (5, .int v_1), (0, .ref ob), (1, .int (nI t)), (4, .int (nI i))]) hx hb dX1_bestToFlood_81 rfl hl (by decide) rfl (fun ls hl => ?_)
            refine lv_iinc (v := (nI (i + 1))) (lv' := [(4, .int (nI (i + 1))), (3, .int v_1), (2, .int (nI i)), (5, .int v_1), (0, .ref ob), (1, .int (nI t))]) hx hb dX1_bestToFlood_82 hl (k := 5) rfl (nI_add i 1) (by decide) rfl (fun ls hl => ?_)
            refine lv_goto (tgt := 14) hx hb dX1_bestToFlood_85 (by decide) ?_
            have es : aminF (fun f => lossH 24 (addW σ f (nI t))) (i + 1) = (nI i, v_1) := aminF_lt ev_1 c_67 c_73
            have hl : lv_has ls 6 [(4, .int (nI (i + 1))), (3, .int ((aminF (fun f => lossH 24 (addW σ f (nI t))) (i + 1)).2)), (2, .int ((aminF (fun f => lossH 24 (addW σ f (nI t))) (i + 1)).1)), (5, .int v_1), (0, .ref ob), (1, .int (nI t))] := by rw [es]; exact hl
            exact ih_14 (i + 1) (hours 24 (addW σ i (nI t))) (by omega) (by omega) _ _ _ hP hD hS (lv_sub hl [4, 5, 2, 1, 0] rfl)
  exact L14 (n + 1) 0 τ (by omega) (by omega) _ _ _ hP hD hS (lv_sub hl [3, 4, 2, 1, 0] rfl)

abbrev rmX1_rainBorne : Room := { frames := 5, cells := 0, slots := 0, locals := 127 }
theorem b_X1_rainBorne : Cond.instanceMethod yX1_rainBorne ∈ LW ∧ Cond.selects RX1 yX1_rainBorne yX1_rainBorne ∈ LW ∧ Cond.initialized RX1 ∈ LW ∧ Cond.code yX1_rainBorne cX1_rainBorne 3 (some .int) ∈ LW := ⟨q368, q369, q9, q370⟩
set_option maxHeartbeats 4000000 in
set_option maxRecDepth 100000 in
theorem c_X1_rainBorne (l : Launch) (D : va_G) (cI cZ cL : ClassId) {n k : Nat} (ob h : Nat) (a : Nat → Nat) (h2 : Nat) (a2 : Nat → Nat) (σ τ : Sg) (hst : Shp n k σ) {B : Nat} (hB : Bnd B σ) : MX l yX1_rainBorne cX1_rainBorne 3 (some .int) rmX1_rainBorne D (tZ cI cZ cL) [.ref ob] ((oC ob h h2) ++ ((mC cI cZ h a σ) ++ (mC cI cZ h2 a2 τ))) (fun ρ => (oC ob h h2) ++ ((mC cI cZ h a σ) ++ (mC cI cZ h2 a2 ρ))) (some (.int (borneS σ))) := by
  refine MX.of (by decide) (Nat.le_of_ble_eq_true rfl) ?_
  intro p e s m args below meth c A ls Q hx hb hml hr hts hown hlocks hA hP hD hK hS hl hQ hE
  have hown : s.vm.findClass RX1 = some m.cls := hown
  have hn10 := hst.1
  have hk16 := hst.2.1
  have hl : lv_has ls 3 [(0, .ref ob)] := hl
  refine lv_aload_n hx hb dX1_rainBorne_0 rfl (lv_at hl 0 rfl) ?_
  refine x_get (C := RX1) (T := TX1) (N := 2) hx hb hts in_wsX10 hown hK hP 0 rfl rfl 0 (by decide) q98 (v := .ref h) rfl dX1_rainBorne_1 ?_
  refine MC.callV (C := RX0) (T := TX0) (N := 16) (As := []) (rest := []) (wB := (oC ob h h2) ++ ((mC cI cZ h a σ) ++ (mC cI cZ h2 a2 τ))) (c_X0_lostWorth l D cI cZ cL h a σ hst) ⟨hx, hb, hml, hown, hts⟩ q250 b_X0_lostWorth (n := 0) (by decide +kernel) ⟨Nat.le_of_ble_eq_true rfl, Nat.le_of_ble_eq_true rfl⟩ hK hP hD hS hA (sp1 _ _ _) (sp1 _ _ _) (ci := 0) rfl (q0 := 1) rfl rfl hl.1 rfl (Nat.le_of_ble_eq_true rfl) dX1_rainBorne_4 ⟨Nat.le_of_ble_eq_true rfl, Nat.le_of_ble_eq_true rfl⟩ (fun H locs hP hD hS => ?_)
  refine lv_istore_n (lv' := [(1, .int (lost σ)), (0, .ref ob)]) hx hb dX1_rainBorne_7 rfl hl (by decide) rfl (fun ls hl => ?_)
  refine lv_bipush (v := 9) hx hb dX1_rainBorne_8 (by decide) ?_
  refine lv_istore_n (lv' := [(2, .int 9), (1, .int (lost σ)), (0, .ref ob)]) hx hb dX1_rainBorne_10 rfl hl (by decide) rfl (fun ls hl => ?_)
  have hl : lv_has ls 3 [(2, .int (nI (10 - 0) - 1)), (1, .int (lost σ)), (0, .ref ob)] := hl
  have L11 : ∀ (f i : Nat) (ρ : Sg), i ≤ 10 → 10 < i + f → lastI (fun i => lossH 24 (rainS σ i)) (lost σ) (10 - i) = borneS σ → ∀ (H : Heap) (locs : List Loc) (ls : Array Slot), va_P D vwCl ((oC ob h h2) ++ ((mC cI cZ h a σ) ++ (mC cI cZ h2 a2 ρ))) H → va_D A ((oC ob h h2) ++ ((mC cI cZ h a σ) ++ (mC cI cZ h2 a2 ρ))) → va_S A s.heap H locs → lv_has ls 3 [(0, .ref ob), (1, .int (lost σ)), (2, .int (nI (10 - i) - 1))] → W p l e rmX1_rainBorne s m args below meth c H locs 0 0 Q (F0 m 11 ls []) := by
    intro f
    induction f with
    | zero => intro i ρ h1 h2; exact absurd h2 (by omega)
    | succ f ih_11 =>
      intro i ρ hi_11 hf_11 hu H locs ls hP hD hS hl
      refine lv_iload_n hx hb dX1_rainBorne_11 rfl (lv_at hl 2 rfl) ?_
      refine lv_if_lt (tgt := 62) hx hb dX1_rainBorne_12 (by decide) (fun c_12 => ?_) (fun c_12 => ?_)
      · have hi10 : i = 10 := by
          rcases Nat.lt_or_ge i 10 with z | z
          · exact absurd ((down_eq z).symm ▸ c_12) (Int32.not_lt.mpr ((nI_leI (a := 0) (b := 9 - i) (by omega) (by omega)).mpr (by omega)))
          · omega
        refine lv_iconst (v := (-1)) hx hb dX1_rainBorne_62 (by decide) ?_
        subst hQ
        exact xri ρ hx hb hr hlocks hK hP hD hS dX1_rainBorne_63 (rfl) (by rw [← hu, show 10 - i = 0 by omega]; rfl)
      · have hi9 : i < 10 := by
          rcases Nat.lt_or_ge i 10 with z | z
          · exact z
          · exact absurd (show nI (10 - i) - 1 < 0 by rw [show 10 - i = 0 by omega]; decide) c_12
        rw [down_eq hi9] at hl
        refine lv_aload_n hx hb dX1_rainBorne_15 rfl (lv_at hl 0 rfl) ?_
        refine x_get (C := RX1) (T := TX1) (N := 2) hx hb hts in_wsX10 hown hK hP 0 rfl rfl 1 (by decide) q99 (v := .ref h2) rfl dX1_rainBorne_16 ?_
        refine lv_aload_n hx hb dX1_rainBorne_19 rfl (lv_at hl 0 rfl) ?_
        refine x_get (C := RX1) (T := TX1) (N := 2) hx hb hts in_wsX10 hown hK hP 0 rfl rfl 0 (by decide) q98 (v := .ref h) rfl dX1_rainBorne_20 ?_
        refine MC.callV (C := RX0) (T := TX0) (N := 16) (As := [.ref h]) (rest := []) (wB := (oC ob h h2) ++ ((mC cI cZ h a σ) ++ (mC cI cZ h2 a2 σ))) (c_X0_becomeLike l D cI cZ cL h a σ h2 a2 ρ hB) ⟨hx, hb, hml, hown, hts⟩ q341 b_X0_becomeLike (n := 1) (by decide +kernel) ⟨Nat.le_of_ble_eq_true rfl, Nat.le_of_ble_eq_true rfl⟩ hK hP hD hS hA (sp3 _ _ _) (sp3 _ _ _) (ci := 0) rfl (q0 := 13) rfl rfl hl.1 rfl (Nat.le_of_ble_eq_true rfl) dX1_rainBorne_23 ⟨Nat.le_of_ble_eq_true rfl, Nat.le_of_ble_eq_true rfl⟩ (fun H locs hP hD hS => ?_)
        refine lv_aload_n hx hb dX1_rainBorne_26 rfl (lv_at hl 0 rfl) ?_
        refine x_get (C := RX1) (T := TX1) (N := 2) hx hb hts in_wsX10 hown hK hP 0 rfl rfl 1 (by decide) q99 (v := .ref h2) rfl dX1_rainBorne_27 ?_
        refine lv_iload_n hx hb dX1_rainBorne_30 rfl (lv_at hl 2 rfl) ?_
        refine x_putN (C := RX0) (T := TX0) (N := 16) (ws2 := (oC ob h h2) ++ ((mC cI cZ h a σ) ++ (mC cI cZ h2 a2 (rainS σ (9 - i))))) hx hb hts in_wsX00 tyX0_ok nmX0 hown hK hP hD hS 13 rfl rfl 13 (by decide) (hE.w 1 rfl) rfl (by decide +kernel) (Nat.le_of_ble_eq_true rfl) rfl dX1_rainBorne_31 (fun H locs hP hD hS => ?_)
        refine lv_aload_n hx hb dX1_rainBorne_34 rfl (lv_at hl 0 rfl) ?_
        refine x_get (C := RX1) (T := TX1) (N := 2) hx hb hts in_wsX10 hown hK hP 0 rfl rfl 1 (by decide) q99 (v := .ref h2) rfl dX1_rainBorne_35 ?_
        refine lv_bipush (v := 24) hx hb dX1_rainBorne_38 (by decide) ?_
        refine MC.callV (C := RX0) (T := TX0) (N := 16) (As := [.int 24]) (rest := []) (wB := (oC ob h h2) ++ ((mC cI cZ h a σ) ++ (mC cI cZ h2 a2 (hours 24 (rainS σ (9 - i)))))) (c_X0_passHours l D cI cZ cL h2 a2 (rainS σ (9 - i)) (hst.ra (9 - i)) 24 (by omega)) ⟨hx, hb, hml, hown, hts⟩ q184 b_X0_passHours (n := 1) (by decide +kernel) ⟨Nat.le_of_ble_eq_true rfl, Nat.le_of_ble_eq_true rfl⟩ hK hP hD hS hA (sp2 _ _ _) (sp2 _ _ _) (ci := 0) rfl (q0 := 13) rfl rfl hl.1 rfl (Nat.le_of_ble_eq_true rfl) dX1_rainBorne_40 ⟨Nat.le_of_ble_eq_true rfl, Nat.le_of_ble_eq_true rfl⟩ (fun H locs hP hD hS => ?_)
        refine lv_aload_n hx hb dX1_rainBorne_43 rfl (lv_at hl 0 rfl) ?_
        refine x_get (C := RX1) (T := TX1) (N := 2) hx hb hts in_wsX10 hown hK hP 0 rfl rfl 1 (by decide) q99 (v := .ref h2) rfl dX1_rainBorne_44 ?_
        refine MC.callV (C := RX0) (T := TX0) (N := 16) (As := []) (rest := []) (wB := (oC ob h h2) ++ ((mC cI cZ h a σ) ++ (mC cI cZ h2 a2 (hours 24 (rainS σ (9 - i)))))) (c_lostH l D cI cZ cL h2 a2 (rainS σ (9 - i)) (hst.ra (9 - i)) 24) ⟨hx, hb, hml, hown, hts⟩ q250 b_X0_lostWorth (n := 0) (by decide +kernel) ⟨Nat.le_of_ble_eq_true rfl, Nat.le_of_ble_eq_true rfl⟩ hK hP hD hS hA (sp2 _ _ _) (sp2 _ _ _) (ci := 0) rfl (q0 := 13) rfl rfl hl.1 rfl (Nat.le_of_ble_eq_true rfl) dX1_rainBorne_47 ⟨Nat.le_of_ble_eq_true rfl, Nat.le_of_ble_eq_true rfl⟩ (fun H locs hP hD hS => ?_)
        refine lv_iload_n hx hb dX1_rainBorne_50 rfl (lv_at hl 1 rfl) ?_
        refine lv_icmp_ne (tgt := 56) hx hb dX1_rainBorne_51 (by decide) (fun c_51 => ?_) (fun c_51 => ?_)
        · refine lv_iinc (v := nI (10 - (i + 1)) - 1) (lv' := [(2, .int (nI (10 - (i + 1)) - 1)), (0, .ref ob), (1, .int (lost σ))]) hx hb dX1_rainBorne_56 hl (k := 2) rfl (down_step hi9) (by decide) rfl (fun ls hl => ?_)
          refine lv_goto (tgt := 11) hx hb dX1_rainBorne_59 (by decide) ?_
          exact ih_11 (i + 1) (hours 24 (rainS σ (9 - i))) (by omega) (by omega) (by rw [← hu, show 10 - i = (9 - i) + 1 by omega, show 10 - (i + 1) = 9 - i by omega]; exact (lastI_up (g := (fun i => lossH 24 (rainS σ i))) c_51).symm) _ _ _ hP hD hS (lv_sub hl [1, 2, 0] rfl)
        · refine lv_iload_n hx hb dX1_rainBorne_54 rfl (lv_at hl 2 rfl) ?_
          subst hQ
          exact xri (hours 24 (rainS σ (9 - i))) hx hb hr hlocks hK hP hD hS dX1_rainBorne_55 (rfl) (by rw [← hu, show 10 - i = (9 - i) + 1 by omega]; exact (lastI_at (g := (fun i => lossH 24 (rainS σ i))) c_51).symm)
  exact L11 (10 + 1) 0 τ (by omega) (by omega) rfl _ _ _ hP hD hS (lv_sub hl [2, 1, 0] rfl)
