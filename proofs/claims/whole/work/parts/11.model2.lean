abbrev rmX2_high : Room := { frames := 2, cells := 0, slots := 0, locals := 42 }
theorem b_X2_high : Cond.instanceMethod yX2_high ∈ LW ∧ Cond.selects RX2 yX2_high yX2_high ∈ LW ∧ Cond.initialized RX2 ∈ LW ∧ Cond.code yX2_high cX2_high 3 (some .int) ∈ LW := ⟨q818, q28, q40, q819⟩
set_option maxHeartbeats 4000000 in
set_option maxRecDepth 100000 in
theorem c_X2_high (l : Launch) (D : va_G) (cI cZ cL : ClassId) {n k : Nat} (o : Nat) (b : Nat → Nat) (σ : Sg) (κ ζ : Nat → Int32) (th : Int32) (hst : Shp n k σ) : MC l yX2_high cX2_high 3 (some .int) rmX2_high D (tZ cI cZ cL) [.ref o] (rC cI cZ o b σ κ ζ th) (rC cI cZ o b σ κ ζ th) (some (.int (amax (fun q => σ 0 q + σ 2 q) (nF σ)))) := by
  refine MC.of (by decide) (Nat.le_of_ble_eq_true rfl) ?_
  intro p e s m args below meth c A ls Q hx hb hml hr hts hown hlocks hA hP hD hK hS hl hQ
  have hown : s.vm.findClass RX2 = some m.cls := hown
  have hn10 := hst.1
  have hk16 := hst.2.1
  have hl : lv_has ls 3 [(0, .ref o)] := hl
  refine lv_iconst (v := (-1)) hx hb dX2_high_0 (by decide) ?_
  refine lv_istore_n (lv' := [(1, .int (-1)), (0, .ref o)]) hx hb dX2_high_1 rfl hl (by decide) rfl (fun ls hl => ?_)
  refine lv_iconst (v := 0) hx hb dX2_high_2 (by decide) ?_
  refine lv_istore_n (lv' := [(2, .int 0), (1, .int (-1)), (0, .ref o)]) hx hb dX2_high_3 rfl hl (by decide) rfl (fun ls hl => ?_)
  have hl : lv_has ls 3 [(2, .int (nI 0)), (1, .int (amax (fun q => σ 0 q + σ 2 q) 0)), (0, .ref o)] := hl
  have L4 : ∀ (f i : Nat), i ≤ n → n < i + f → ∀ (H : Heap) (locs : List Loc) (ls : Array Slot), va_P D vwCl (rC cI cZ o b σ κ ζ th) H → va_D A (rC cI cZ o b σ κ ζ th) → va_S A s.heap H locs → lv_has ls 3 [(0, .ref o), (1, .int (amax (fun q => σ 0 q + σ 2 q) i)), (2, .int (nI i))] → W p l e rmX2_high s m args below meth c H locs 0 0 Q (F0 m 4 ls []) := by
    intro f
    induction f with
    | zero => intro i h1 h2; exact absurd h2 (by omega)
    | succ f ih_4 =>
      intro i hi_4 hf_4 H locs ls hP hD hS hl
      refine lv_iload_n hx hb dX2_high_4 rfl (lv_at hl 2 rfl) ?_
      refine lv_aload_n hx hb dX2_high_5 rfl (lv_at hl 0 rfl) ?_
      refine x_get (C := RX2) (T := TX2) (N := 14) hx hb hts in_wsX20 hown hK hP 0 rfl rfl 1 (by decide) q593 (v := .int (nI n)) (congrArg (fun z => some (Value.int z)) (hst.f0)) dX2_high_6 ?_
      refine lv_icmp_ge (tgt := 38) hx hb dX2_high_9 (by decide) (fun c_9 => ?_) (fun c_9 => ?_)
      · have hc_9 : n ≤ i := (nI_leI (a := n) (b := i) (by omega) (by omega)).mp c_9
        refine lv_iload_n hx hb dX2_high_38 rfl (lv_at hl 1 rfl) ?_
        subst hQ
        exact ri hx hb hr hlocks hK hP hD hS dX2_high_39 (rfl) (by rw [hst.eF, show i = n by omega])
      · have hc_9 : i < n := Nat.not_le.mp (fun z => c_9 ((nI_leI (a := n) (b := i) (by omega) (by omega)).mpr z))
        refine lv_iload_n hx hb dX2_high_12 rfl (lv_at hl 1 rfl) ?_
        refine lv_iconst (v := (-1)) hx hb dX2_high_13 (by decide) ?_
        refine lv_icmp_eq (tgt := 30) hx hb dX2_high_14 (by decide) (fun c_14 => ?_) (fun c_14 => ?_)
        · refine lv_iload_n hx hb dX2_high_30 rfl (lv_at hl 2 rfl) ?_
          refine lv_istore_n (lv' := [(1, .int (nI i)), (0, .ref o), (2, .int (nI i))]) hx hb dX2_high_31 rfl hl (by decide) rfl (fun ls hl => ?_)
          refine lv_iinc (v := (nI (i + 1))) (lv' := [(2, .int (nI (i + 1))), (1, .int (nI i)), (0, .ref o)]) hx hb dX2_high_32 hl (k := 2) rfl (nI_add i 1) (by decide) rfl (fun ls hl => ?_)
          refine lv_goto (tgt := 4) hx hb dX2_high_35 (by decide) ?_
          have e8 : (nI i) = amax (fun q => σ 0 q + σ 2 q) (i + 1) := by
            show _ = if amax (fun q => σ 0 q + σ 2 q) i = -1 then nI i else if (fun q => σ 0 q + σ 2 q) (amax (fun q => σ 0 q + σ 2 q) i).toNatClampNeg < (fun q => σ 0 q + σ 2 q) i then nI i else amax (fun q => σ 0 q + σ 2 q) i
            rw [if_pos c_14]
          rw [e8] at hl
          exact ih_4 (i + 1) (by omega) (by omega) _ _ _ hP hD hS (lv_sub hl [2, 1, 0] rfl)
        · obtain ⟨q, hq, eq⟩ : ∃ q, q < i ∧ amax (fun q => σ 0 q + σ 2 q) i = nI q := by
            rcases amax_is (fun q => σ 0 q + σ 2 q) i (by omega) with z | z
            · exact absurd z.1 c_14
            · exact z
          rw [eq] at hl
          refine lv_aload_n hx hb dX2_high_17 rfl (lv_at hl 0 rfl) ?_
          refine lv_iload_n hx hb dX2_high_18 rfl (lv_at hl 2 rfl) ?_
          refine MC.callV (C := RX2) (T := TX2) (N := 14) (As := [.int (nI i)]) (rest := []) (wB := rC cI cZ o b σ κ ζ th) (c_X2_level l D cI cZ cL o b σ κ ζ th i (by omega)) ⟨hx, hb, hml, hown, hts⟩ q715 b_X2_level (n := 1) (by decide +kernel) ⟨Nat.le_of_ble_eq_true rfl, Nat.le_of_ble_eq_true rfl⟩ hK hP hD hS hA (sp0 _) (sp0 _) (ci := 2) rfl (q0 := 0) rfl rfl hl.1 rfl (Nat.le_of_ble_eq_true rfl) dX2_high_19 ⟨Nat.le_of_ble_eq_true rfl, Nat.le_of_ble_eq_true rfl⟩ (fun H locs hP hD hS => ?_)
          refine lv_aload_n hx hb dX2_high_22 rfl (lv_at hl 0 rfl) ?_
          refine lv_iload_n hx hb dX2_high_23 rfl (lv_at hl 1 rfl) ?_
          refine MC.callV (C := RX2) (T := TX2) (N := 14) (As := [.int (nI q)]) (rest := [.int (σ 0 i + σ 2 i)]) (wB := rC cI cZ o b σ κ ζ th) (c_X2_level l D cI cZ cL o b σ κ ζ th q (by omega)) ⟨hx, hb, hml, hown, hts⟩ q715 b_X2_level (n := 1) (by decide +kernel) ⟨Nat.le_of_ble_eq_true rfl, Nat.le_of_ble_eq_true rfl⟩ hK hP hD hS hA (sp0 _) (sp0 _) (ci := 2) rfl (q0 := 0) rfl rfl hl.1 rfl (Nat.le_of_ble_eq_true rfl) dX2_high_24 ⟨Nat.le_of_ble_eq_true rfl, Nat.le_of_ble_eq_true rfl⟩ (fun H locs hP hD hS => ?_)
          refine lv_icmp_le (tgt := 32) hx hb dX2_high_27 (by decide) (fun c_27 => ?_) (fun c_27 => ?_)
          · refine lv_iinc (v := (nI (i + 1))) (lv' := [(2, .int (nI (i + 1))), (0, .ref o), (1, .int (nI q))]) hx hb dX2_high_32 hl (k := 2) rfl (nI_add i 1) (by decide) rfl (fun ls hl => ?_)
            refine lv_goto (tgt := 4) hx hb dX2_high_35 (by decide) ?_
            have e8 : (nI q) = amax (fun q => σ 0 q + σ 2 q) (i + 1) := by
              show _ = if amax (fun q => σ 0 q + σ 2 q) i = -1 then nI i else if (fun q => σ 0 q + σ 2 q) (amax (fun q => σ 0 q + σ 2 q) i).toNatClampNeg < (fun q => σ 0 q + σ 2 q) i then nI i else amax (fun q => σ 0 q + σ 2 q) i
              rw [if_neg c_14, eq, nI_clamp (by omega), if_neg (Int32.not_lt.mpr c_27)]
            rw [e8] at hl
            exact ih_4 (i + 1) (by omega) (by omega) _ _ _ hP hD hS (lv_sub hl [1, 2, 0] rfl)
          · refine lv_iload_n hx hb dX2_high_30 rfl (lv_at hl 2 rfl) ?_
            refine lv_istore_n (lv' := [(1, .int (nI i)), (0, .ref o), (2, .int (nI i))]) hx hb dX2_high_31 rfl hl (by decide) rfl (fun ls hl => ?_)
            refine lv_iinc (v := (nI (i + 1))) (lv' := [(2, .int (nI (i + 1))), (1, .int (nI i)), (0, .ref o)]) hx hb dX2_high_32 hl (k := 2) rfl (nI_add i 1) (by decide) rfl (fun ls hl => ?_)
            refine lv_goto (tgt := 4) hx hb dX2_high_35 (by decide) ?_
            have e8 : (nI i) = amax (fun q => σ 0 q + σ 2 q) (i + 1) := by
              show _ = if amax (fun q => σ 0 q + σ 2 q) i = -1 then nI i else if (fun q => σ 0 q + σ 2 q) (amax (fun q => σ 0 q + σ 2 q) i).toNatClampNeg < (fun q => σ 0 q + σ 2 q) i then nI i else amax (fun q => σ 0 q + σ 2 q) i
              rw [if_neg c_14, eq, nI_clamp (by omega), if_pos (Int32.not_le.mp c_27)]
            rw [e8] at hl
            exact ih_4 (i + 1) (by omega) (by omega) _ _ _ hP hD hS (lv_sub hl [2, 1, 0] rfl)
  exact L4 (n + 1) 0 (by omega) (by omega) _ _ _ hP hD hS (lv_sub hl [2, 1, 0] rfl)

abbrev rmX2_busy : Room := { frames := 0, cells := 0, slots := 0, locals := 0 }
theorem b_X2_busy : Cond.instanceMethod yX2_busy ∈ LW ∧ Cond.selects RX2 yX2_busy yX2_busy ∈ LW ∧ Cond.initialized RX2 ∈ LW ∧ Cond.code yX2_busy cX2_busy 3 (some .int) ∈ LW := ⟨q842, q29, q40, q843⟩
set_option maxHeartbeats 4000000 in
set_option maxRecDepth 100000 in
theorem c_X2_busy (l : Launch) (D : va_G) (cI cZ cL : ClassId) {n k : Nat} (o : Nat) (b : Nat → Nat) (σ : Sg) (κ ζ : Nat → Int32) (th : Int32) (hst : Shp n k σ) : MC l yX2_busy cX2_busy 3 (some .int) rmX2_busy D (tZ cI cZ cL) [.ref o] (rC cI cZ o b σ κ ζ th) (rC cI cZ o b σ κ ζ th) (some (.int (amax (fun q => σ 8 q) (nD σ)))) := by
  refine MC.of (by decide) (Nat.le_of_ble_eq_true rfl) ?_
  intro p e s m args below meth c A ls Q hx hb hml hr hts hown hlocks hA hP hD hK hS hl hQ
  have hown : s.vm.findClass RX2 = some m.cls := hown
  have hn10 := hst.1
  have hk16 := hst.2.1
  have hl : lv_has ls 3 [(0, .ref o)] := hl
  refine lv_iconst (v := (-1)) hx hb dX2_busy_0 (by decide) ?_
  refine lv_istore_n (lv' := [(1, .int (-1)), (0, .ref o)]) hx hb dX2_busy_1 rfl hl (by decide) rfl (fun ls hl => ?_)
  refine lv_iconst (v := 0) hx hb dX2_busy_2 (by decide) ?_
  refine lv_istore_n (lv' := [(2, .int 0), (1, .int (-1)), (0, .ref o)]) hx hb dX2_busy_3 rfl hl (by decide) rfl (fun ls hl => ?_)
  have hl : lv_has ls 3 [(2, .int (nI 0)), (1, .int (amax (fun q => σ 8 q) 0)), (0, .ref o)] := hl
  have L4 : ∀ (f i : Nat), i ≤ k → k < i + f → ∀ (H : Heap) (locs : List Loc) (ls : Array Slot), va_P D vwCl (rC cI cZ o b σ κ ζ th) H → va_D A (rC cI cZ o b σ κ ζ th) → va_S A s.heap H locs → lv_has ls 3 [(0, .ref o), (1, .int (amax (fun q => σ 8 q) i)), (2, .int (nI i))] → W p l e rmX2_busy s m args below meth c H locs 0 0 Q (F0 m 4 ls []) := by
    intro f
    induction f with
    | zero => intro i h1 h2; exact absurd h2 (by omega)
    | succ f ih_4 =>
      intro i hi_4 hf_4 H locs ls hP hD hS hl
      refine lv_iload_n hx hb dX2_busy_4 rfl (lv_at hl 2 rfl) ?_
      refine lv_aload_n hx hb dX2_busy_5 rfl (lv_at hl 0 rfl) ?_
      refine x_get (C := RX2) (T := TX2) (N := 14) hx hb hts in_wsX20 hown hK hP 0 rfl rfl 2 (by decide) q594 (v := .int (nI k)) (congrArg (fun z => some (Value.int z)) (hst.f1)) dX2_busy_6 ?_
      refine lv_icmp_ge (tgt := 46) hx hb dX2_busy_9 (by decide) (fun c_9 => ?_) (fun c_9 => ?_)
      · have hc_9 : k ≤ i := (nI_leI (a := k) (b := i) (by omega) (by omega)).mp c_9
        refine lv_iload_n hx hb dX2_busy_46 rfl (lv_at hl 1 rfl) ?_
        subst hQ
        exact ri hx hb hr hlocks hK hP hD hS dX2_busy_47 (rfl) (by rw [hst.eD, show i = k by omega])
      · have hc_9 : i < k := Nat.not_le.mp (fun z => c_9 ((nI_leI (a := k) (b := i) (by omega) (by omega)).mpr z))
        refine lv_iload_n hx hb dX2_busy_12 rfl (lv_at hl 1 rfl) ?_
        refine lv_iconst (v := (-1)) hx hb dX2_busy_13 (by decide) ?_
        refine lv_icmp_eq (tgt := 38) hx hb dX2_busy_14 (by decide) (fun c_14 => ?_) (fun c_14 => ?_)
        · refine lv_iload_n hx hb dX2_busy_38 rfl (lv_at hl 2 rfl) ?_
          refine lv_istore_n (lv' := [(1, .int (nI i)), (0, .ref o), (2, .int (nI i))]) hx hb dX2_busy_39 rfl hl (by decide) rfl (fun ls hl => ?_)
          refine lv_iinc (v := (nI (i + 1))) (lv' := [(2, .int (nI (i + 1))), (1, .int (nI i)), (0, .ref o)]) hx hb dX2_busy_40 hl (k := 2) rfl (nI_add i 1) (by decide) rfl (fun ls hl => ?_)
          refine lv_goto (tgt := 4) hx hb dX2_busy_43 (by decide) ?_
          have e8 : (nI i) = amax (fun q => σ 8 q) (i + 1) := by
            show _ = if amax (fun q => σ 8 q) i = -1 then nI i else if (fun q => σ 8 q) (amax (fun q => σ 8 q) i).toNatClampNeg < (fun q => σ 8 q) i then nI i else amax (fun q => σ 8 q) i
            rw [if_pos c_14]
          rw [e8] at hl
          exact ih_4 (i + 1) (by omega) (by omega) _ _ _ hP hD hS (lv_sub hl [2, 1, 0] rfl)
        · obtain ⟨q, hq, eq⟩ : ∃ q, q < i ∧ amax (fun q => σ 8 q) i = nI q := by
            rcases amax_is (fun q => σ 8 q) i (by omega) with z | z
            · exact absurd z.1 c_14
            · exact z
          rw [eq] at hl
          refine lv_aload_n hx hb dX2_busy_17 rfl (lv_at hl 0 rfl) ?_
          refine x_get (C := RX2) (T := TX2) (N := 14) hx hb hts in_wsX20 hown hK hP 0 rfl rfl 11 (by decide) q603 (v := .ref (b 7)) rfl dX2_busy_18 ?_
          refine lv_bipush (v := 32) hx hb dX2_busy_21 (by decide) ?_
          refine lv_iload_n hx hb dX2_busy_23 rfl (lv_at hl 2 rfl) ?_
          refine lv_iadd hx hb dX2_busy_24 ?_
          refine x_ild hx hb hK hP 8 0 rfl rfl (32 + i) (nI_add 32 i) (by omega) (by decide) (v := σ 8 i) (nw_32 σ i) dX2_busy_25 ?_
          refine lv_aload_n hx hb dX2_busy_26 rfl (lv_at hl 0 rfl) ?_
          refine x_get (C := RX2) (T := TX2) (N := 14) hx hb hts in_wsX20 hown hK hP 0 rfl rfl 11 (by decide) q603 (v := .ref (b 7)) rfl dX2_busy_27 ?_
          refine lv_bipush (v := 32) hx hb dX2_busy_30 (by decide) ?_
          refine lv_iload_n hx hb dX2_busy_32 rfl (lv_at hl 1 rfl) ?_
          refine lv_iadd hx hb dX2_busy_33 ?_
          refine x_ild hx hb hK hP 8 0 rfl rfl (32 + q) (nI_add 32 q) (by omega) (by decide) (v := σ 8 q) (nw_32 σ q) dX2_busy_34 ?_
          refine lv_icmp_le (tgt := 40) hx hb dX2_busy_35 (by decide) (fun c_35 => ?_) (fun c_35 => ?_)
          · refine lv_iinc (v := (nI (i + 1))) (lv' := [(2, .int (nI (i + 1))), (0, .ref o), (1, .int (nI q))]) hx hb dX2_busy_40 hl (k := 2) rfl (nI_add i 1) (by decide) rfl (fun ls hl => ?_)
            refine lv_goto (tgt := 4) hx hb dX2_busy_43 (by decide) ?_
            have e8 : (nI q) = amax (fun q => σ 8 q) (i + 1) := by
              show _ = if amax (fun q => σ 8 q) i = -1 then nI i else if (fun q => σ 8 q) (amax (fun q => σ 8 q) i).toNatClampNeg < (fun q => σ 8 q) i then nI i else amax (fun q => σ 8 q) i
              rw [if_neg c_14, eq, nI_clamp (by omega), if_neg (Int32.not_lt.mpr c_35)]
            rw [e8] at hl
            exact ih_4 (i + 1) (by omega) (by omega) _ _ _ hP hD hS (lv_sub hl [1, 2, 0] rfl)
          · refine lv_iload_n hx hb dX2_busy_38 rfl (lv_at hl 2 rfl) ?_
            refine lv_istore_n (lv' := [(1, .int (nI i)), (0, .ref o), (2, .int (nI i))]) hx hb dX2_busy_39 rfl hl (by decide) rfl (fun ls hl => ?_)
            refine lv_iinc (v := (nI (i + 1))) (lv' := [(2, .int (nI (i + 1))), (1, .int (nI i)), (0, .ref o)]) hx hb dX2_busy_40 hl (k := 2) rfl (nI_add i 1) (by decide) rfl (fun ls hl => ?_)
            refine lv_goto (tgt := 4) hx hb dX2_busy_43 (by decide) ?_
            have e8 : (nI i) = amax (fun q => σ 8 q) (i + 1) := by
              show _ = if amax (fun q => σ 8 q) i = -1 then nI i else if (fun q => σ 8 q) (amax (fun q => σ 8 q) i).toNatClampNeg < (fun q => σ 8 q) i then nI i else amax (fun q => σ 8 q) i
              rw [if_neg c_14, eq, nI_clamp (by omega), if_pos (Int32.not_le.mp c_35)]
            rw [e8] at hl
            exact ih_4 (i + 1) (by omega) (by omega) _ _ _ hP hD hS (lv_sub hl [2, 1, 0] rfl)
  exact L4 (k + 1) 0 (by omega) (by omega) _ _ _ hP hD hS (lv_sub hl [2, 1, 0] rfl)

abbrev rmX2_until : Room := { frames := 5, cells := 0, slots := 0, locals := 126 }
theorem b_X2_until : Cond.instanceMethod yX2_until ∈ LW ∧ Cond.selects RX2 yX2_until yX2_until ∈ LW ∧ Cond.initialized RX2 ∈ LW ∧ Cond.code yX2_until cX2_until 3 (some .int) ∈ LW := ⟨q850, q30, q40, q851⟩
set_option maxHeartbeats 4000000 in
set_option maxRecDepth 100000 in
theorem c_X2_until (l : Launch) (D : va_G) (cI cZ cL : ClassId) {n k : Nat} (o : Nat) (b : Nat → Nat) (σ : Sg) (κ ζ : Nat → Int32) (th : Int32) (hst : Shp n k σ) {B : Nat} (hB : Bnd B σ) (hB2 : B + 24400 < 2 ^ 29) (j : Nat) (hj : j < n) : MC l yX2_until cX2_until 3 (some .int) rmX2_until D (tZ cI cZ cL) [.ref o, .int (nI j)] (rC cI cZ o b σ κ ζ th) (rC cI cZ o b σ (nowF σ) ζ th) (some (.int (untilS σ j))) := by
  refine MC.of (by decide) (Nat.le_of_ble_eq_true rfl) ?_
  intro p e s m args below meth c A ls Q hx hb hml hr hts hown hlocks hA hP hD hK hS hl hQ
  have hown : s.vm.findClass RX2 = some m.cls := hown
  have hn10 := hst.1
  have hk16 := hst.2.1
  have hl : lv_has ls 3 [(0, .ref o), (1, .int (nI j))] := hl
  refine lv_aload_n hx hb dX2_until_0 rfl (lv_at hl 0 rfl) ?_
  refine MC.callV (C := RX2) (T := TX2) (N := 14) (As := []) (rest := []) (wB := rC cI cZ o b σ (nowF σ) ζ th) (c_X2_keep l D cI cZ cL o b σ κ ζ th) ⟨hx, hb, hml, hown, hts⟩ q852 b_X2_keep (n := 0) (by decide +kernel) ⟨Nat.le_of_ble_eq_true rfl, Nat.le_of_ble_eq_true rfl⟩ hK hP hD hS hA (sp0 _) (sp0 _) (ci := 2) rfl (q0 := 0) rfl rfl hl.1 rfl (Nat.le_of_ble_eq_true rfl) dX2_until_1 ⟨Nat.le_of_ble_eq_true rfl, Nat.le_of_ble_eq_true rfl⟩ (fun H locs hP hD hS => ?_)
  refine lv_iconst (v := 0) hx hb dX2_until_4 (by decide) ?_
  refine lv_istore_n (lv' := [(2, .int 0), (0, .ref o), (1, .int (nI j))]) hx hb dX2_until_5 rfl hl (by decide) rfl (fun ls hl => ?_)
  have hl : lv_has ls 3 [(2, .int (nI 0)), (0, .ref o), (1, .int (nI j))] := hl
  have L6 : ∀ (f i : Nat), i ≤ 101 → 101 < i + f → fstI (fun i => hours i σ 4 j) (101 - i) i = untilS σ j → ∀ (H : Heap) (locs : List Loc) (ls : Array Slot), va_P D vwCl (rC cI cZ o b (hours i σ) (nowF σ) ζ th) H → va_D A (rC cI cZ o b (hours i σ) (nowF σ) ζ th) → va_S A s.heap H locs → lv_has ls 3 [(0, .ref o), (1, .int (nI j)), (2, .int (nI i))] → W p l e rmX2_until s m args below meth c H locs 0 0 Q (F0 m 6 ls []) := by
    intro f
    induction f with
    | zero => intro i h1 h2; exact absurd h2 (by omega)
    | succ f ih_6 =>
      intro i hi_6 hf_6 hu H locs ls hP hD hS hl
      obtain ⟨τ, eτ⟩ : ∃ z, z = hours i σ := ⟨_, rfl⟩
      rw [← eτ] at hP hD
      have hst9 : Shp n k τ := by rw [eτ]; exact hst.hrs i
      have hB9 : Bnd (B + 234 * i) τ := by rw [eτ]; exact Bnd.hrs hst hB i (by omega)
      refine lv_iload_n hx hb dX2_until_6 rfl (lv_at hl 2 rfl) ?_
      refine lv_bipush (v := 100) hx hb dX2_until_7 (by decide) ?_
      refine lv_icmp_gt (tgt := 34) hx hb dX2_until_9 (by decide) (fun c_9 => ?_) (fun c_9 => ?_)
      · have hc_9 : 100 < i := (nI_ltI (a := 100) (b := i) (by omega) (by omega)).mp c_9
        refine lv_aload_n hx hb dX2_until_34 rfl (lv_at hl 0 rfl) ?_
        refine MC.callV (C := RX2) (T := TX2) (N := 14) (As := []) (rest := []) (wB := rC cI cZ o b σ (nowF σ) ζ th) (c_X2_bringBack l D cI cZ cL o b τ κ ζ th σ (by rw [eτ]; exact (Agr.hrs i σ).sy)) ⟨hx, hb, hml, hown, hts⟩ q859 b_X2_bringBack (n := 0) (by decide +kernel) ⟨Nat.le_of_ble_eq_true rfl, Nat.le_of_ble_eq_true rfl⟩ hK hP hD hS hA (sp0 _) (sp0 _) (ci := 2) rfl (q0 := 0) rfl rfl hl.1 rfl (Nat.le_of_ble_eq_true rfl) dX2_until_35 ⟨Nat.le_of_ble_eq_true rfl, Nat.le_of_ble_eq_true rfl⟩ (fun H locs hP hD hS => ?_)
        refine lv_iload_n hx hb dX2_until_38 rfl (lv_at hl 2 rfl) ?_
        refine lv_bipush (v := 100) hx hb dX2_until_39 (by decide) ?_
        refine lv_icmp_le (tgt := 48) hx hb dX2_until_41 (by decide) (fun z => absurd z (fun z => absurd ((nI_leI (a := i) (b := 100) (by omega) (by omega)).mp z) (by omega))) (fun c_41 => ?_)
        refine lv_iconst (v := (-1)) hx hb dX2_until_44 (by decide) ?_
        refine lv_goto (tgt := 49) hx hb dX2_until_45 (by decide) ?_
        subst hQ
        exact ri hx hb hr hlocks hK hP hD hS dX2_until_49 (rfl) (by rw [← hu, show 101 - i = 0 by omega]; rfl)
      · have hc_9 : i ≤ 100 := Nat.not_lt.mp (fun z => c_9 ((nI_ltI (a := 100) (b := i) (by omega) (by omega)).mpr z))
        refine lv_aload_n hx hb dX2_until_12 rfl (lv_at hl 0 rfl) ?_
        refine x_get (C := RX2) (T := TX2) (N := 14) hx hb hts in_wsX20 hown hK hP 0 rfl rfl 11 (by decide) q603 (v := .ref (b 7)) rfl dX2_until_13 ?_
        refine lv_bipush (v := 22) hx hb dX2_until_16 (by decide) ?_
        refine lv_iload_n hx hb dX2_until_18 rfl (lv_at hl 1 rfl) ?_
        refine lv_iadd hx hb dX2_until_19 ?_
        refine x_ild hx hb hK hP 8 0 rfl rfl (22 + j) (nI_add 22 j) (by omega) (by decide) (v := τ 4 j) (nw_22 τ (by omega)) dX2_until_20 ?_
        refine lv_if_ne (tgt := 34) hx hb dX2_until_21 (by decide) (fun c_21 => ?_) (fun c_21 => ?_)
        · refine lv_aload_n hx hb dX2_until_34 rfl (lv_at hl 0 rfl) ?_
          refine MC.callV (C := RX2) (T := TX2) (N := 14) (As := []) (rest := []) (wB := rC cI cZ o b σ (nowF σ) ζ th) (c_X2_bringBack l D cI cZ cL o b τ κ ζ th σ (by rw [eτ]; exact (Agr.hrs i σ).sy)) ⟨hx, hb, hml, hown, hts⟩ q859 b_X2_bringBack (n := 0) (by decide +kernel) ⟨Nat.le_of_ble_eq_true rfl, Nat.le_of_ble_eq_true rfl⟩ hK hP hD hS hA (sp0 _) (sp0 _) (ci := 2) rfl (q0 := 0) rfl rfl hl.1 rfl (Nat.le_of_ble_eq_true rfl) dX2_until_35 ⟨Nat.le_of_ble_eq_true rfl, Nat.le_of_ble_eq_true rfl⟩ (fun H locs hP hD hS => ?_)
          refine lv_iload_n hx hb dX2_until_38 rfl (lv_at hl 2 rfl) ?_
          refine lv_bipush (v := 100) hx hb dX2_until_39 (by decide) ?_
          refine lv_icmp_le (tgt := 48) hx hb dX2_until_41 (by decide) (fun c_41 => ?_) (fun z => absurd ((nI_leI (a := i) (b := 100) (by omega) (by omega)).mpr (by omega)) z)
          refine lv_iload_n hx hb dX2_until_48 rfl (lv_at hl 2 rfl) ?_
          subst hQ
          exact ri hx hb hr hlocks hK hP hD hS dX2_until_49 (rfl) (by rw [← hu, show 101 - i = (100 - i) + 1 by omega]; show nI i = (if hours i σ 4 j = 0 then _ else nI i); rw [if_neg (by rw [← eτ]; exact c_21)])
        · refine lv_aload_n hx hb dX2_until_24 rfl (lv_at hl 0 rfl) ?_
          refine MC.callV (C := RX2) (T := TX2) (N := 14) (As := []) (rest := []) (wB := rC cI cZ o b (hour τ) (nowF σ) ζ th) (c_X2_hourOn l D cI cZ cL o b τ (nowF σ) ζ th hst9 hB9 (by omega)) ⟨hx, hb, hml, hown, hts⟩ q702 b_X2_hourOn (n := 0) (by decide +kernel) ⟨Nat.le_of_ble_eq_true rfl, Nat.le_of_ble_eq_true rfl⟩ hK hP hD hS hA (sp0 _) (sp0 _) (ci := 2) rfl (q0 := 0) rfl rfl hl.1 rfl (Nat.le_of_ble_eq_true rfl) dX2_until_25 ⟨Nat.le_of_ble_eq_true rfl, Nat.le_of_ble_eq_true rfl⟩ (fun H locs hP hD hS => ?_)
          refine lv_iinc (v := (nI (i + 1))) (lv' := [(2, .int (nI (i + 1))), (0, .ref o), (1, .int (nI j))]) hx hb dX2_until_28 hl (k := 2) rfl (nI_add i 1) (by decide) rfl (fun ls hl => ?_)
          refine lv_goto (tgt := 6) hx hb dX2_until_31 (by decide) ?_
          have e9 : hour τ = hours (i + 1) σ := by rw [eτ]; rfl
          rw [e9] at hP hD
          exact ih_6 (i + 1) (by omega) (by omega) (by rw [← hu, show 101 - i = (101 - (i + 1)) + 1 by omega]; show _ = (if hours i σ 4 j = 0 then _ else _); rw [if_pos (by rw [← eτ]; exact c_21)]) _ _ _ hP hD hS (lv_sub hl [1, 2, 0] rfl)
  exact L6 (101 + 1) 0 (by omega) (by omega) rfl _ _ _ hP hD hS (lv_sub hl [1, 2, 0] rfl)

abbrev rmX2_lostBehind : Room := { frames := 6, cells := 0, slots := 0, locals := 148 }
theorem b_X2_lostBehind : Cond.instanceMethod yX2_lostBehind ∈ LW ∧ Cond.selects RX2 yX2_lostBehind yX2_lostBehind ∈ LW ∧ Cond.initialized RX2 ∈ LW ∧ Cond.code yX2_lostBehind cX2_lostBehind 5 (some .int) ∈ LW := ⟨q869, q33, q40, q870⟩
set_option maxHeartbeats 4000000 in
set_option maxRecDepth 100000 in
theorem c_X2_lostBehind_a (l : Launch) (D : va_G) (cI cZ cL : ClassId) {n k : Nat} (o : Nat) (b : Nat → Nat) (σ : Sg) (κ ζ : Nat → Int32) (th : Int32) (hst : Shp n k σ) {B : Nat} (hB : Bnd B σ) (t : Nat) (hB2 : B + 234 * t + 500 < 2 ^ 29) (x : Int32) : MC l yX2_lostBehind cX2_lostBehind 5 (some .int) rmX2_lostBehind D (tZ cI cZ cL) [.ref o, .int (nI t), .int (-1), .int x] (rC cI cZ o b σ κ ζ th) (rC cI cZ o b σ (nowF σ) ζ th) (some (.int (lossH t σ))) := by
  refine MC.of (by decide) (Nat.le_of_ble_eq_true rfl) ?_
  intro p e s m args below meth c A ls Q hx hb hml hr hts hown hlocks hA hP hD hK hS hl hQ
  have hown : s.vm.findClass RX2 = some m.cls := hown
  have hn10 := hst.1
  have hk16 := hst.2.1
  have hl : lv_has ls 5 [(0, .ref o), (1, .int (nI t)), (2, .int (-1)), (3, .int x)] := hl
  refine lv_aload_n hx hb dX2_lostBehind_0 rfl (lv_at hl 0 rfl) ?_
  refine MC.callV (C := RX2) (T := TX2) (N := 14) (As := []) (rest := []) (wB := rC cI cZ o b σ (nowF σ) ζ th) (c_X2_keep l D cI cZ cL o b σ κ ζ th) ⟨hx, hb, hml, hown, hts⟩ q852 b_X2_keep (n := 0) (by decide +kernel) ⟨Nat.le_of_ble_eq_true rfl, Nat.le_of_ble_eq_true rfl⟩ hK hP hD hS hA (sp0 _) (sp0 _) (ci := 2) rfl (q0 := 0) rfl rfl hl.1 rfl (Nat.le_of_ble_eq_true rfl) dX2_lostBehind_1 ⟨Nat.le_of_ble_eq_true rfl, Nat.le_of_ble_eq_true rfl⟩ (fun H locs hP hD hS => ?_)
  refine lv_iload_n hx hb dX2_lostBehind_4 rfl (lv_at hl 2 rfl) ?_
  refine lv_iconst (v := (-1)) hx hb dX2_lostBehind_5 (by decide) ?_
  refine lv_icmp_eq (tgt := 21) hx hb dX2_lostBehind_6 (by decide) (fun c_6 => ?_) (fun z => absurd (by decide) z)
  refine lv_aload_n hx hb dX2_lostBehind_21 rfl (lv_at hl 0 rfl) ?_
  refine lv_iload_n hx hb dX2_lostBehind_22 rfl (lv_at hl 1 rfl) ?_
  refine MC.callV (C := RX2) (T := TX2) (N := 14) (As := [.int (nI t)]) (rest := []) (wB := rC cI cZ o b (hours t σ) (nowF σ) ζ th) (c_X2_hoursOn l D cI cZ cL o b σ (nowF σ) ζ th hst hB t (by omega)) ⟨hx, hb, hml, hown, hts⟩ q698 b_X2_hoursOn (n := 1) (by decide +kernel) ⟨Nat.le_of_ble_eq_true rfl, Nat.le_of_ble_eq_true rfl⟩ hK hP hD hS hA (sp0 _) (sp0 _) (ci := 2) rfl (q0 := 0) rfl rfl hl.1 rfl (Nat.le_of_ble_eq_true rfl) dX2_lostBehind_23 ⟨Nat.le_of_ble_eq_true rfl, Nat.le_of_ble_eq_true rfl⟩ (fun H locs hP hD hS => ?_)
  refine lv_aload_n hx hb dX2_lostBehind_26 rfl (lv_at hl 0 rfl) ?_
  refine MC.callV (C := RX2) (T := TX2) (N := 14) (As := []) (rest := []) (wB := rC cI cZ o b (hours t σ) (nowF σ) ζ th) (c_X2_lost l D cI cZ cL o b (hours t σ) (nowF σ) ζ th (hst.hrs t) (Bnd.hrs hst hB t (by omega))) ⟨hx, hb, hml, hown, hts⟩ q768 b_X2_lost (n := 0) (by decide +kernel) ⟨Nat.le_of_ble_eq_true rfl, Nat.le_of_ble_eq_true rfl⟩ hK hP hD hS hA (sp0 _) (sp0 _) (ci := 2) rfl (q0 := 0) rfl rfl hl.1 rfl (Nat.le_of_ble_eq_true rfl) dX2_lostBehind_27 ⟨Nat.le_of_ble_eq_true rfl, Nat.le_of_ble_eq_true rfl⟩ (fun H locs hP hD hS => ?_)
  refine lv_istore (lv' := [(4, .int (lost (hours t σ))), (0, .ref o), (1, .int (nI t)), (2, .int (-1)), (3, .int x)]) hx hb dX2_lostBehind_30 hl (by decide) rfl (fun ls hl => ?_)
  refine lv_aload_n hx hb dX2_lostBehind_32 rfl (lv_at hl 1 rfl) ?_
  refine MC.callV (C := RX2) (T := TX2) (N := 14) (As := []) (rest := []) (wB := rC cI cZ o b σ (nowF σ) ζ th) (c_X2_bringBack l D cI cZ cL o b (hours t σ) κ ζ th σ ((Agr.hrs t σ).sy)) ⟨hx, hb, hml, hown, hts⟩ q859 b_X2_bringBack (n := 0) (by decide +kernel) ⟨Nat.le_of_ble_eq_true rfl, Nat.le_of_ble_eq_true rfl⟩ hK hP hD hS hA (sp0 _) (sp0 _) (ci := 2) rfl (q0 := 0) rfl rfl hl.1 rfl (Nat.le_of_ble_eq_true rfl) dX2_lostBehind_33 ⟨Nat.le_of_ble_eq_true rfl, Nat.le_of_ble_eq_true rfl⟩ (fun H locs hP hD hS => ?_)
  refine lv_iload hx hb dX2_lostBehind_36 (lv_at hl 0 rfl) ?_
  subst hQ
  exact ri hx hb hr hlocks hK hP hD hS dX2_lostBehind_38 (rfl) (rfl)

set_option maxHeartbeats 4000000 in
set_option maxRecDepth 100000 in
theorem c_X2_lostBehind_b (l : Launch) (D : va_G) (cI cZ cL : ClassId) {n k : Nat} (o : Nat) (b : Nat → Nat) (σ : Sg) (κ ζ : Nat → Int32) (th : Int32) (hst : Shp n k σ) {B : Nat} (hB : Bnd B σ) (t : Nat) (hB2 : B + 234 * t + 500 < 2 ^ 29) (j : Nat) (hj : j < n) (x : Nat) (hx5 : x ≤ 50) : MC l yX2_lostBehind cX2_lostBehind 5 (some .int) rmX2_lostBehind D (tZ cI cZ cL) [.ref o, .int (nI t), .int (nI j), .int (nI x)] (rC cI cZ o b σ κ ζ th) (rC cI cZ o b σ (nowF σ) ζ th) (some (.int (lossH t (addW σ j (nI x))))) := by
  refine MC.of (by decide) (Nat.le_of_ble_eq_true rfl) ?_
  intro p e s m args below meth c A ls Q hx hb hml hr hts hown hlocks hA hP hD hK hS hl hQ
  have hown : s.vm.findClass RX2 = some m.cls := hown
  have hn10 := hst.1
  have hk16 := hst.2.1
  have hl : lv_has ls 5 [(0, .ref o), (1, .int (nI t)), (2, .int (nI j)), (3, .int (nI x))] := hl
  refine lv_aload_n hx hb dX2_lostBehind_0 rfl (lv_at hl 0 rfl) ?_
  refine MC.callV (C := RX2) (T := TX2) (N := 14) (As := []) (rest := []) (wB := rC cI cZ o b σ (nowF σ) ζ th) (c_X2_keep l D cI cZ cL o b σ κ ζ th) ⟨hx, hb, hml, hown, hts⟩ q852 b_X2_keep (n := 0) (by decide +kernel) ⟨Nat.le_of_ble_eq_true rfl, Nat.le_of_ble_eq_true rfl⟩ hK hP hD hS hA (sp0 _) (sp0 _) (ci := 2) rfl (q0 := 0) rfl rfl hl.1 rfl (Nat.le_of_ble_eq_true rfl) dX2_lostBehind_1 ⟨Nat.le_of_ble_eq_true rfl, Nat.le_of_ble_eq_true rfl⟩ (fun H locs hP hD hS => ?_)
  refine lv_iload_n hx hb dX2_lostBehind_4 rfl (lv_at hl 2 rfl) ?_
  refine lv_iconst (v := (-1)) hx hb dX2_lostBehind_5 (by decide) ?_
  refine lv_icmp_eq (tgt := 21) hx hb dX2_lostBehind_6 (by decide) (fun z => absurd z (nI_ne_m1 (by omega))) (fun c_6 => ?_)
  refine lv_aload_n hx hb dX2_lostBehind_9 rfl (lv_at hl 0 rfl) ?_
  refine x_get (C := RX2) (T := TX2) (N := 14) hx hb hts in_wsX20 hown hK hP 0 rfl rfl 11 (by decide) q603 (v := .ref (b 7)) rfl dX2_lostBehind_10 ?_
  refine lv_iconst (v := 2) hx hb dX2_lostBehind_13 (by decide) ?_
  refine lv_iload_n hx hb dX2_lostBehind_14 rfl (lv_at hl 2 rfl) ?_
  refine lv_iadd hx hb dX2_lostBehind_15 ?_
  refine lv_dup2_11 hx hb dX2_lostBehind_16 rfl rfl ?_
  refine x_ild hx hb hK hP 8 0 rfl rfl (2 + j) (nI_add 2 j) (by omega) (by decide) (v := σ 2 j) (nw_2 σ (by omega)) dX2_lostBehind_17 ?_
  refine lv_iload_n hx hb dX2_lostBehind_18 rfl (lv_at hl 3 rfl) ?_
  refine lv_iadd hx hb dX2_lostBehind_19 ?_
  refine x_ist (ws2 := rC cI cZ o b (addW σ j (nI x)) (nowF σ) ζ th) hx hb hK hP hD hS 8 0 rfl rfl (2 + j) (nI_add 2 j) (by omega) (by decide) (by rw [nwu_2 σ (f := j) ((σ 2 j) + (nI x)) (by omega)]; rfl) dX2_lostBehind_20 (fun H locs hP hD hS => ?_)
  refine lv_aload_n hx hb dX2_lostBehind_21 rfl (lv_at hl 0 rfl) ?_
  refine lv_iload_n hx hb dX2_lostBehind_22 rfl (lv_at hl 1 rfl) ?_
  refine MC.callV (C := RX2) (T := TX2) (N := 14) (As := [.int (nI t)]) (rest := []) (wB := rC cI cZ o b (hours t (addW σ j (nI x))) (nowF σ) ζ th) (c_X2_hoursOn l D cI cZ cL o b (addW σ j (nI x)) (nowF σ) ζ th (hst.aw j (nI x)) (hB.aw j hx5) t (by omega)) ⟨hx, hb, hml, hown, hts⟩ q698 b_X2_hoursOn (n := 1) (by decide +kernel) ⟨Nat.le_of_ble_eq_true rfl, Nat.le_of_ble_eq_true rfl⟩ hK hP hD hS hA (sp0 _) (sp0 _) (ci := 2) rfl (q0 := 0) rfl rfl hl.1 rfl (Nat.le_of_ble_eq_true rfl) dX2_lostBehind_23 ⟨Nat.le_of_ble_eq_true rfl, Nat.le_of_ble_eq_true rfl⟩ (fun H locs hP hD hS => ?_)
  refine lv_aload_n hx hb dX2_lostBehind_26 rfl (lv_at hl 0 rfl) ?_
  refine MC.callV (C := RX2) (T := TX2) (N := 14) (As := []) (rest := []) (wB := rC cI cZ o b (hours t (addW σ j (nI x))) (nowF σ) ζ th) (c_X2_lost l D cI cZ cL o b (hours t (addW σ j (nI x))) (nowF σ) ζ th ((hst.aw j (nI x)).hrs t) (Bnd.hrs (hst.aw j (nI x)) (hB.aw j hx5) t (by omega))) ⟨hx, hb, hml, hown, hts⟩ q768 b_X2_lost (n := 0) (by decide +kernel) ⟨Nat.le_of_ble_eq_true rfl, Nat.le_of_ble_eq_true rfl⟩ hK hP hD hS hA (sp0 _) (sp0 _) (ci := 2) rfl (q0 := 0) rfl rfl hl.1 rfl (Nat.le_of_ble_eq_true rfl) dX2_lostBehind_27 ⟨Nat.le_of_ble_eq_true rfl, Nat.le_of_ble_eq_true rfl⟩ (fun H locs hP hD hS => ?_)
  refine lv_istore (lv' := [(4, .int (lost (hours t (addW σ j (nI x))))), (0, .ref o), (1, .int (nI t)), (2, .int (nI j)), (3, .int (nI x))]) hx hb dX2_lostBehind_30 hl (by decide) rfl (fun ls hl => ?_)
  refine lv_aload_n hx hb dX2_lostBehind_32 rfl (lv_at hl 1 rfl) ?_
  refine MC.callV (C := RX2) (T := TX2) (N := 14) (As := []) (rest := []) (wB := rC cI cZ o b σ (nowF σ) ζ th) (c_X2_bringBack l D cI cZ cL o b (hours t (addW σ j (nI x))) κ ζ th σ (((Agr.hrs t _).tr (Agr.aw σ j (nI x))).sy)) ⟨hx, hb, hml, hown, hts⟩ q859 b_X2_bringBack (n := 0) (by decide +kernel) ⟨Nat.le_of_ble_eq_true rfl, Nat.le_of_ble_eq_true rfl⟩ hK hP hD hS hA (sp0 _) (sp0 _) (ci := 2) rfl (q0 := 0) rfl rfl hl.1 rfl (Nat.le_of_ble_eq_true rfl) dX2_lostBehind_33 ⟨Nat.le_of_ble_eq_true rfl, Nat.le_of_ble_eq_true rfl⟩ (fun H locs hP hD hS => ?_)
  refine lv_iload hx hb dX2_lostBehind_36 (lv_at hl 0 rfl) ?_
  subst hQ
  exact ri hx hb hr hlocks hK hP hD hS dX2_lostBehind_38 (rfl) (rfl)

abbrev rmX2_turned : Room := { frames := 7, cells := 0, slots := 0, locals := 172 }
theorem b_X2_turned : Cond.instanceMethod yX2_turned ∈ LW ∧ Cond.selects RX2 yX2_turned yX2_turned ∈ LW ∧ Cond.initialized RX2 ∈ LW ∧ Cond.code yX2_turned cX2_turned 5 (some .int) ∈ LW := ⟨q881, q34, q40, q882⟩
set_option maxHeartbeats 4000000 in
set_option maxRecDepth 100000 in
theorem c_X2_turned (l : Launch) (D : va_G) (cI cZ cL : ClassId) {n k : Nat} (o : Nat) (b : Nat → Nat) (σ : Sg) (κ ζ : Nat → Int32) (th : Int32) (hst : Shp n k σ) {B : Nat} (hB : Bnd B σ) (hB2 : B + 6200 < 2 ^ 29) : MC l yX2_turned cX2_turned 5 (some .int) rmX2_turned D (tZ cI cZ cL) [.ref o] (rC cI cZ o b σ κ ζ th) (rC cI cZ o b σ (nowF σ) ζ th) (some (.int (turnB σ))) := by
  refine MC.of (by decide) (Nat.le_of_ble_eq_true rfl) ?_
  intro p e s m args below meth c A ls Q hx hb hml hr hts hown hlocks hA hP hD hK hS hl hQ
  have hown : s.vm.findClass RX2 = some m.cls := hown
  have hn10 := hst.1
  have hk16 := hst.2.1
  have hl : lv_has ls 5 [(0, .ref o)] := hl
  refine lv_iconst (v := (-1)) hx hb dX2_turned_0 (by decide) ?_
  refine lv_istore_n (lv' := [(1, .int (-1)), (0, .ref o)]) hx hb dX2_turned_1 rfl hl (by decide) rfl (fun ls hl => ?_)
  refine lv_aload_n hx hb dX2_turned_2 rfl (lv_at hl 1 rfl) ?_
  refine lv_bipush (v := 24) hx hb dX2_turned_3 (by decide) ?_
  refine lv_iconst (v := (-1)) hx hb dX2_turned_5 (by decide) ?_
  refine lv_iconst (v := 0) hx hb dX2_turned_6 (by decide) ?_
  refine MC.callV (C := RX2) (T := TX2) (N := 14) (As := [.int 24, .int (-1), .int 0]) (rest := []) (wB := rC cI cZ o b σ (nowF σ) ζ th) (c_X2_lostBehind_a l D cI cZ cL o b σ κ ζ th hst hB 24 (by omega) 0) ⟨hx, hb, hml, hown, hts⟩ q867 b_X2_lostBehind (n := 3) (by decide +kernel) ⟨Nat.le_of_ble_eq_true rfl, Nat.le_of_ble_eq_true rfl⟩ hK hP hD hS hA (sp0 _) (sp0 _) (ci := 2) rfl (q0 := 0) rfl rfl hl.1 rfl (Nat.le_of_ble_eq_true rfl) dX2_turned_7 ⟨Nat.le_of_ble_eq_true rfl, Nat.le_of_ble_eq_true rfl⟩ (fun H locs hP hD hS => ?_)
  refine lv_istore_n (lv' := [(2, .int (lossH 24 σ)), (1, .int (-1)), (0, .ref o)]) hx hb dX2_turned_10 rfl hl (by decide) rfl (fun ls hl => ?_)
  refine lv_iconst (v := 0) hx hb dX2_turned_11 (by decide) ?_
  refine lv_istore_n (lv' := [(3, .int 0), (2, .int (lossH 24 σ)), (1, .int (-1)), (0, .ref o)]) hx hb dX2_turned_12 rfl hl (by decide) rfl (fun ls hl => ?_)
  have hl : lv_has ls 5 [(3, .int (nI 0)), (2, .int (lossH 24 σ)), (1, .int ((amin (fun d => lossH 24 (turnS σ d)) (lossH 24 σ) 0).1)), (0, .ref o)] := hl
  have hl : lv_has ls 5 [(3, .int (nI 0)), (2, .int ((amin (fun d => lossH 24 (turnS σ d)) (lossH 24 σ) 0).2)), (1, .int ((amin (fun d => lossH 24 (turnS σ d)) (lossH 24 σ) 0).1)), (0, .ref o)] := (congrArg (fun z => lv_has ls 5 [(3, .int (nI 0)), (2, .int z), (1, .int ((amin (fun d => lossH 24 (turnS σ d)) (lossH 24 σ) 0).1)), (0, .ref o)]) (amin_z2 (fun d => lossH 24 (turnS σ d)) (lossH 24 σ))).mp hl
  have L13 : ∀ (f i : Nat), i ≤ k → k < i + f → ∀ (H : Heap) (locs : List Loc) (ls : Array Slot), va_P D vwCl (rC cI cZ o b σ (nowF σ) ζ th) H → va_D A (rC cI cZ o b σ (nowF σ) ζ th) → va_S A s.heap H locs → lv_has ls 5 [(0, .ref o), (1, .int ((amin (fun d => lossH 24 (turnS σ d)) (lossH 24 σ) i).1)), (2, .int ((amin (fun d => lossH 24 (turnS σ d)) (lossH 24 σ) i).2)), (3, .int (nI i))] → W p l e rmX2_turned s m args below meth c H locs 0 0 Q (F0 m 13 ls []) := by
    intro f
    induction f with
    | zero => intro i h1 h2; exact absurd h2 (by omega)
    | succ f ih_13 =>
      intro i hi_13 hf_13 H locs ls hP hD hS hl
      refine lv_iload_n hx hb dX2_turned_13 rfl (lv_at hl 3 rfl) ?_
      refine lv_aload_n hx hb dX2_turned_14 rfl (lv_at hl 0 rfl) ?_
      refine x_get (C := RX2) (T := TX2) (N := 14) hx hb hts in_wsX20 hown hK hP 0 rfl rfl 2 (by decide) q594 (v := .int (nI k)) (congrArg (fun z => some (Value.int z)) (hst.f1)) dX2_turned_15 ?_
      refine lv_icmp_ge (tgt := 91) hx hb dX2_turned_18 (by decide) (fun c_18 => ?_) (fun c_18 => ?_)
      · have hc_18 : k ≤ i := (nI_leI (a := k) (b := i) (by omega) (by omega)).mp c_18
        refine lv_iload_n hx hb dX2_turned_91 rfl (lv_at hl 1 rfl) ?_
        subst hQ
        exact ri hx hb hr hlocks hK hP hD hS dX2_turned_92 (rfl) (by unfold turnB; rw [hst.eD, show i = k by omega])
      · have hc_18 : i < k := Nat.not_le.mp (fun z => c_18 ((nI_leI (a := k) (b := i) (by omega) (by omega)).mpr z))
        refine lv_aload_n hx hb dX2_turned_21 rfl (lv_at hl 0 rfl) ?_
        refine x_get (C := RX2) (T := TX2) (N := 14) hx hb hts in_wsX20 hown hK hP 0 rfl rfl 10 (by decide) q602 (v := .ref (b 6)) rfl dX2_turned_22 ?_
        refine lv_iload_n hx hb dX2_turned_25 rfl (lv_at hl 3 rfl) ?_
        refine lv_aload_n hx hb dX2_turned_26 rfl (lv_at hl 0 rfl) ?_
        refine x_get (C := RX2) (T := TX2) (N := 14) hx hb hts in_wsX20 hown hK hP 0 rfl rfl 10 (by decide) q602 (v := .ref (b 6)) rfl dX2_turned_27 ?_
        refine lv_iload_n hx hb dX2_turned_30 rfl (lv_at hl 3 rfl) ?_
        refine x_zld hx hb hK hP 7 1 rfl rfl i (rfl) (by omega) (by decide) (v := σ 10 i) rfl dX2_turned_31 ?_
        have J40_1 : W p l e rmX2_turned s m args below meth c H locs 0 0 Q (F0 m 40 ls [.int (if σ 10 i = 0 then 1 else 0), .int (nI i), .ref (b 6)]) := by
          refine x_zst (ws2 := rC cI cZ o b (turnS σ i) (nowF σ) ζ th) hx hb hK hP hD hS 7 1 rfl rfl i (rfl) (by omega) (by decide) (by split; exact Or.inr rfl; exact Or.inl rfl) rfl dX2_turned_40 (fun H locs hP hD hS => ?_)
          refine lv_aload_n hx hb dX2_turned_41 rfl (lv_at hl 0 rfl) ?_
          refine lv_bipush (v := 24) hx hb dX2_turned_42 (by decide) ?_
          refine lv_iconst (v := (-1)) hx hb dX2_turned_44 (by decide) ?_
          refine lv_iconst (v := 0) hx hb dX2_turned_45 (by decide) ?_
          refine MC.callV (C := RX2) (T := TX2) (N := 14) (As := [.int 24, .int (-1), .int 0]) (rest := []) (wB := rC cI cZ o b (turnS σ i) (nowF (turnS σ i)) ζ th) (c_X2_lostBehind_a l D cI cZ cL o b (turnS σ i) (nowF σ) ζ th (hst.tu i) (hB.tu i) 24 (by omega) 0) ⟨hx, hb, hml, hown, hts⟩ q867 b_X2_lostBehind (n := 3) (by decide +kernel) ⟨Nat.le_of_ble_eq_true rfl, Nat.le_of_ble_eq_true rfl⟩ hK hP hD hS hA (sp0 _) (sp0 _) (ci := 2) rfl (q0 := 0) rfl rfl hl.1 rfl (Nat.le_of_ble_eq_true rfl) dX2_turned_46 ⟨Nat.le_of_ble_eq_true rfl, Nat.le_of_ble_eq_true rfl⟩ (fun H locs hP hD hS => ?_)
          rw [nowF_turn] at hP hD
          refine lv_istore (lv' := [(4, .int (lossH 24 (turnS σ i))), (0, .ref o), (1, .int ((amin (fun d => lossH 24 (turnS σ d)) (lossH 24 σ) i).1)), (2, .int ((amin (fun d => lossH 24 (turnS σ d)) (lossH 24 σ) i).2)), (3, .int (nI i))]) hx hb dX2_turned_49 hl (by decide) rfl (fun ls hl => ?_)
          refine lv_aload_n hx hb dX2_turned_51 rfl (lv_at hl 1 rfl) ?_
          refine x_get (C := RX2) (T := TX2) (N := 14) hx hb hts in_wsX20 hown hK hP 0 rfl rfl 10 (by decide) q602 (v := .ref (b 6)) rfl dX2_turned_52 ?_
          refine lv_iload_n hx hb dX2_turned_55 rfl (lv_at hl 4 rfl) ?_
          refine lv_aload_n hx hb dX2_turned_56 rfl (lv_at hl 1 rfl) ?_
          refine x_get (C := RX2) (T := TX2) (N := 14) hx hb hts in_wsX20 hown hK hP 0 rfl rfl 10 (by decide) q602 (v := .ref (b 6)) rfl dX2_turned_57 ?_
          refine lv_iload_n hx hb dX2_turned_60 rfl (lv_at hl 4 rfl) ?_
          refine x_zld hx hb hK hP 7 1 rfl rfl i (rfl) (by omega) (by decide) (v := (turnS σ i) 10 i) rfl dX2_turned_61 ?_
          have J70_1 : W p l e rmX2_turned s m args below meth c H locs 0 0 Q (F0 m 70 ls [.int (if turnS σ i 10 i = 0 then 1 else 0), .int (nI i), .ref (b 6)]) := by
            refine x_zst (ws2 := rC cI cZ o b (turnS (turnS σ i) i) (nowF σ) ζ th) hx hb hK hP hD hS 7 1 rfl rfl i (rfl) (by omega) (by decide) (by split; exact Or.inr rfl; exact Or.inl rfl) rfl dX2_turned_70 (fun H locs hP hD hS => ?_)
            rw [turn_turn (hB.2.2.2.2.2.2 i (by omega))] at hP hD
            refine lv_iload hx hb dX2_turned_71 (lv_at hl 0 rfl) ?_
            refine lv_iload_n hx hb dX2_turned_73 rfl (lv_at hl 3 rfl) ?_
            refine lv_icmp_lt (tgt := 80) hx hb dX2_turned_74 (by decide) (fun c_74 => ?_) (fun c_74 => ?_)
            · refine lv_iload_n hx hb dX2_turned_80 rfl (lv_at hl 4 rfl) ?_
              refine lv_istore_n (lv' := [(1, .int (nI i)), (4, .int (lossH 24 (turnS σ i))), (0, .ref o), (2, .int ((amin (fun d => lossH 24 (turnS σ d)) (lossH 24 σ) i).2)), (3, .int (nI i))]) hx hb dX2_turned_81 rfl hl (by decide) rfl (fun ls hl => ?_)
              refine lv_iload hx hb dX2_turned_82 (lv_at hl 1 rfl) ?_
              refine lv_istore_n (lv' := [(2, .int (lossH 24 (turnS σ i))), (1, .int (nI i)), (4, .int (lossH 24 (turnS σ i))), (0, .ref o), (3, .int (nI i))]) hx hb dX2_turned_84 rfl hl (by decide) rfl (fun ls hl => ?_)
              refine lv_iinc (v := (nI (i + 1))) (lv' := [(3, .int (nI (i + 1))), (2, .int (lossH 24 (turnS σ i))), (1, .int (nI i)), (4, .int (lossH 24 (turnS σ i))), (0, .ref o)]) hx hb dX2_turned_85 hl (k := 4) rfl (nI_add i 1) (by decide) rfl (fun ls hl => ?_)
              refine lv_goto (tgt := 13) hx hb dX2_turned_88 (by decide) ?_
              have e81 : (nI i) = (amin (fun d => lossH 24 (turnS σ d)) (lossH 24 σ) (i + 1)).1 := by
                show _ = (if (fun d => lossH 24 (turnS σ d)) i < (amin (fun d => lossH 24 (turnS σ d)) (lossH 24 σ) i).2 then (nI i, (fun d => lossH 24 (turnS σ d)) i) else amin (fun d => lossH 24 (turnS σ d)) (lossH 24 σ) i).1
                rw [if_pos c_74]
              rw [e81] at hl
              have e82 : lossH 24 (turnS σ i) = (amin (fun d => lossH 24 (turnS σ d)) (lossH 24 σ) (i + 1)).2 := by
                show _ = (if (fun d => lossH 24 (turnS σ d)) i < (amin (fun d => lossH 24 (turnS σ d)) (lossH 24 σ) i).2 then (nI i, (fun d => lossH 24 (turnS σ d)) i) else amin (fun d => lossH 24 (turnS σ d)) (lossH 24 σ) i).2
                rw [if_pos c_74]
              rw [e82] at hl
              exact ih_13 (i + 1) (by omega) (by omega) _ _ _ hP hD hS (lv_sub hl [4, 2, 1, 0] rfl)
            · refine lv_goto (tgt := 85) hx hb dX2_turned_77 (by decide) ?_
              refine lv_iinc (v := (nI (i + 1))) (lv' := [(3, .int (nI (i + 1))), (4, .int (lossH 24 (turnS σ i))), (0, .ref o), (1, .int ((amin (fun d => lossH 24 (turnS σ d)) (lossH 24 σ) i).1)), (2, .int ((amin (fun d => lossH 24 (turnS σ d)) (lossH 24 σ) i).2))]) hx hb dX2_turned_85 hl (k := 4) rfl (nI_add i 1) (by decide) rfl (fun ls hl => ?_)
              refine lv_goto (tgt := 13) hx hb dX2_turned_88 (by decide) ?_
              have e81 : (amin (fun d => lossH 24 (turnS σ d)) (lossH 24 σ) i).1 = (amin (fun d => lossH 24 (turnS σ d)) (lossH 24 σ) (i + 1)).1 := by
                show _ = (if (fun d => lossH 24 (turnS σ d)) i < (amin (fun d => lossH 24 (turnS σ d)) (lossH 24 σ) i).2 then (nI i, (fun d => lossH 24 (turnS σ d)) i) else amin (fun d => lossH 24 (turnS σ d)) (lossH 24 σ) i).1
                rw [if_neg c_74]
              rw [e81] at hl
              have e82 : (amin (fun d => lossH 24 (turnS σ d)) (lossH 24 σ) i).2 = (amin (fun d => lossH 24 (turnS σ d)) (lossH 24 σ) (i + 1)).2 := by
                show _ = (if (fun d => lossH 24 (turnS σ d)) i < (amin (fun d => lossH 24 (turnS σ d)) (lossH 24 σ) i).2 then (nI i, (fun d => lossH 24 (turnS σ d)) i) else amin (fun d => lossH 24 (turnS σ d)) (lossH 24 σ) i).2
                rw [if_neg c_74]
              rw [e82] at hl
              exact ih_13 (i + 1) (by omega) (by omega) _ _ _ hP hD hS (lv_sub hl [2, 3, 4, 0] rfl)
          refine lv_if_ne (tgt := 69) hx hb dX2_turned_62 (by decide) (fun c_62 => ?_) (fun c_62 => ?_)
          · refine lv_iconst (v := 0) hx hb dX2_turned_69 (by decide) ?_
            exact x_top (show 0 = if (turnS σ i) 10 i = 0 then 1 else 0 by rw [if_neg c_62]) J70_1
          · refine lv_iconst (v := 1) hx hb dX2_turned_65 (by decide) ?_
            refine lv_goto (tgt := 70) hx hb dX2_turned_66 (by decide) ?_
            exact x_top (show 1 = if (turnS σ i) 10 i = 0 then 1 else 0 by rw [if_pos c_62]) J70_1
        refine lv_if_ne (tgt := 39) hx hb dX2_turned_32 (by decide) (fun c_32 => ?_) (fun c_32 => ?_)
        · refine lv_iconst (v := 0) hx hb dX2_turned_39 (by decide) ?_
          exact x_top (show 0 = if σ 10 i = 0 then 1 else 0 by rw [if_neg c_32]) J40_1
        · refine lv_iconst (v := 1) hx hb dX2_turned_35 (by decide) ?_
          refine lv_goto (tgt := 40) hx hb dX2_turned_36 (by decide) ?_
          exact x_top (show 1 = if σ 10 i = 0 then 1 else 0 by rw [if_pos c_32]) J40_1
  exact L13 (k + 1) 0 (by omega) (by omega) _ _ _ hP hD hS (lv_sub hl [3, 2, 1, 0] rfl)

abbrev rmX2_flooded : Room := { frames := 7, cells := 0, slots := 0, locals := 172 }
theorem b_X2_flooded : Cond.instanceMethod yX2_flooded ∈ LW ∧ Cond.selects RX2 yX2_flooded yX2_flooded ∈ LW ∧ Cond.initialized RX2 ∈ LW ∧ Cond.code yX2_flooded cX2_flooded 6 (some .int) ∈ LW := ⟨q889, q35, q40, q890⟩
set_option maxHeartbeats 4000000 in
set_option maxRecDepth 100000 in
theorem c_X2_flooded (l : Launch) (D : va_G) (cI cZ cL : ClassId) {n k : Nat} (o : Nat) (b : Nat → Nat) (σ : Sg) (κ ζ : Nat → Int32) (th : Int32) (hst : Shp n k σ) {B : Nat} (hB : Bnd B σ) (hB2 : B + 6300 < 2 ^ 29) (x : Nat) (hx5 : x ≤ 50) : MC l yX2_flooded cX2_flooded 6 (some .int) rmX2_flooded D (tZ cI cZ cL) [.ref o, .int (nI x)] (rC cI cZ o b σ κ ζ th) (rC cI cZ o b σ (kF κ (nowF σ) n) ζ th) (some (.int (floodB σ (nI x)))) := by
  refine MC.of (by decide) (Nat.le_of_ble_eq_true rfl) ?_
  intro p e s m args below meth c A ls Q hx hb hml hr hts hown hlocks hA hP hD hK hS hl hQ
  have hown : s.vm.findClass RX2 = some m.cls := hown
  have hn10 := hst.1
  have hk16 := hst.2.1
  have hl : lv_has ls 6 [(0, .ref o), (1, .int (nI x))] := hl
  refine lv_iconst (v := (-1)) hx hb dX2_flooded_0 (by decide) ?_
  refine lv_istore_n (lv' := [(2, .int (-1)), (0, .ref o), (1, .int (nI x))]) hx hb dX2_flooded_1 rfl hl (by decide) rfl (fun ls hl => ?_)
  refine lv_iconst (v := 0) hx hb dX2_flooded_2 (by decide) ?_
  refine lv_istore_n (lv' := [(3, .int 0), (2, .int (-1)), (0, .ref o), (1, .int (nI x))]) hx hb dX2_flooded_3 rfl hl (by decide) rfl (fun ls hl => ?_)
  refine lv_iconst (v := 0) hx hb dX2_flooded_4 (by decide) ?_
  refine lv_istore (lv' := [(4, .int 0), (3, .int 0), (2, .int (-1)), (0, .ref o), (1, .int (nI x))]) hx hb dX2_flooded_5 hl (by decide) rfl (fun ls hl => ?_)
  have hl : lv_has ls 6 [(4, .int (nI 0)), (3, .int ((aminF (fun f => lossH 24 (addW σ f (nI x))) 0).2)), (2, .int ((aminF (fun f => lossH 24 (addW σ f (nI x))) 0).1)), (0, .ref o), (1, .int (nI x))] := hl
  have L7 : ∀ (f i : Nat), i ≤ n → n < i + f → ∀ (H : Heap) (locs : List Loc) (ls : Array Slot), va_P D vwCl (rC cI cZ o b σ (kF κ (nowF σ) i) ζ th) H → va_D A (rC cI cZ o b σ (kF κ (nowF σ) i) ζ th) → va_S A s.heap H locs → lv_has ls 6 [(0, .ref o), (1, .int (nI x)), (2, .int ((aminF (fun f => lossH 24 (addW σ f (nI x))) i).1)), (3, .int ((aminF (fun f => lossH 24 (addW σ f (nI x))) i).2)), (4, .int (nI i))] → W p l e rmX2_flooded s m args below meth c H locs 0 0 Q (F0 m 7 ls []) := by
    intro f
    induction f with
    | zero => intro i h1 h2; exact absurd h2 (by omega)
    | succ f ih_7 =>
      intro i hi_7 hf_7 H locs ls hP hD hS hl
      refine lv_iload hx hb dX2_flooded_7 (lv_at hl 4 rfl) ?_
      refine lv_aload_n hx hb dX2_flooded_9 rfl (lv_at hl 0 rfl) ?_
      refine x_get (C := RX2) (T := TX2) (N := 14) hx hb hts in_wsX20 hown hK hP 0 rfl rfl 1 (by decide) q593 (v := .int (nI n)) (congrArg (fun z => some (Value.int z)) (hst.f0)) dX2_flooded_10 ?_
      refine lv_icmp_ge (tgt := 53) hx hb dX2_flooded_13 (by decide) (fun c_13 => ?_) (fun c_13 => ?_)
      · have hc_13 : n ≤ i := (nI_leI (a := n) (b := i) (by omega) (by omega)).mp c_13
        refine lv_iload_n hx hb dX2_flooded_53 rfl (lv_at hl 2 rfl) ?_
        subst hQ
        exact ri hx hb hr hlocks hK hP hD hS dX2_flooded_54 (by rw [show i = n by omega]) (by unfold floodB; rw [hst.eF, show i = n by omega])
      · have hc_13 : i < n := Nat.not_le.mp (fun z => c_13 ((nI_leI (a := n) (b := i) (by omega) (by omega)).mpr z))
        refine lv_aload_n hx hb dX2_flooded_16 rfl (lv_at hl 0 rfl) ?_
        refine lv_bipush (v := 24) hx hb dX2_flooded_17 (by decide) ?_
        refine lv_iload hx hb dX2_flooded_19 (lv_at hl 4 rfl) ?_
        refine lv_iload_n hx hb dX2_flooded_21 rfl (lv_at hl 1 rfl) ?_
        refine MC.callV (C := RX2) (T := TX2) (N := 14) (As := [.int 24, .int (nI i), .int (nI x)]) (rest := []) (wB := rC cI cZ o b σ (nowF σ) ζ th) (c_X2_lostBehind_b l D cI cZ cL o b σ (kF κ (nowF σ) i) ζ th hst hB 24 (by omega) i (by omega) x hx5) ⟨hx, hb, hml, hown, hts⟩ q867 b_X2_lostBehind (n := 3) (by decide +kernel) ⟨Nat.le_of_ble_eq_true rfl, Nat.le_of_ble_eq_true rfl⟩ hK hP hD hS hA (sp0 _) (sp0 _) (ci := 2) rfl (q0 := 0) rfl rfl hl.1 rfl (Nat.le_of_ble_eq_true rfl) dX2_flooded_22 ⟨Nat.le_of_ble_eq_true rfl, Nat.le_of_ble_eq_true rfl⟩ (fun H locs hP hD hS => ?_)
        refine lv_istore (lv' := [(5, .int (lossH 24 (addW σ i (nI x)))), (0, .ref o), (1, .int (nI x)), (2, .int ((aminF (fun f => lossH 24 (addW σ f (nI x))) i).1)), (3, .int ((aminF (fun f => lossH 24 (addW σ f (nI x))) i).2)), (4, .int (nI i))]) hx hb dX2_flooded_25 hl (by decide) rfl (fun ls hl => ?_)
        refine lv_iload_n hx hb dX2_flooded_27 rfl (lv_at hl 3 rfl) ?_
        refine lv_iconst (v := (-1)) hx hb dX2_flooded_28 (by decide) ?_
        refine lv_icmp_eq (tgt := 41) hx hb dX2_flooded_29 (by decide) (fun c_29 => ?_) (fun c_29 => ?_)
        · refine lv_iload hx hb dX2_flooded_41 (lv_at hl 5 rfl) ?_
          refine lv_istore_n (lv' := [(2, .int (nI i)), (5, .int (lossH 24 (addW σ i (nI x)))), (0, .ref o), (1, .int (nI x)), (3, .int ((aminF (fun f => lossH 24 (addW σ f (nI x))) i).2)), (4, .int (nI i))]) hx hb dX2_flooded_43 rfl hl (by decide) rfl (fun ls hl => ?_)
          refine lv_iload hx hb dX2_flooded_44 (lv_at hl 1 rfl) ?_
          refine lv_istore_n (lv' := [(3, .int (lossH 24 (addW σ i (nI x)))), (2, .int (nI i)), (5, .int (lossH 24 (addW σ i (nI x)))), (0, .ref o), (1, .int (nI x)), (4, .int (nI i))]) hx hb dX2_flooded_46 rfl hl (by decide) rfl (fun ls hl => ?_)
          refine lv_iinc (v := (nI (i + 1))) (lv' := [(4, .int (nI (i + 1))), (3, .int (lossH 24 (addW σ i (nI x)))), (2, .int (nI i)), (5, .int (lossH 24 (addW σ i (nI x)))), (0, .ref o), (1, .int (nI x))]) hx hb dX2_flooded_47 hl (k := 5) rfl (nI_add i 1) (by decide) rfl (fun ls hl => ?_)
          refine lv_goto (tgt := 7) hx hb dX2_flooded_50 (by decide) ?_
          have e81 : (nI i) = (aminF (fun f => lossH 24 (addW σ f (nI x))) (i + 1)).1 := by
            show _ = (if (aminF (fun f => lossH 24 (addW σ f (nI x))) i).1 = -1 then (nI i, (fun f => lossH 24 (addW σ f (nI x))) i) else if (fun f => lossH 24 (addW σ f (nI x))) i < (aminF (fun f => lossH 24 (addW σ f (nI x))) i).2 then (nI i, (fun f => lossH 24 (addW σ f (nI x))) i) else aminF (fun f => lossH 24 (addW σ f (nI x))) i).1
            rw [if_pos c_29]
          rw [e81] at hl
          have e82 : lossH 24 (addW σ i (nI x)) = (aminF (fun f => lossH 24 (addW σ f (nI x))) (i + 1)).2 := by
            show _ = (if (aminF (fun f => lossH 24 (addW σ f (nI x))) i).1 = -1 then (nI i, (fun f => lossH 24 (addW σ f (nI x))) i) else if (fun f => lossH 24 (addW σ f (nI x))) i < (aminF (fun f => lossH 24 (addW σ f (nI x))) i).2 then (nI i, (fun f => lossH 24 (addW σ f (nI x))) i) else aminF (fun f => lossH 24 (addW σ f (nI x))) i).2
            rw [if_pos c_29]
          rw [e82] at hl
          exact ih_7 (i + 1) (by omega) (by omega) _ _ _ hP hD hS (lv_sub hl [4, 5, 2, 1, 0] rfl)
        · refine lv_iload hx hb dX2_flooded_32 (lv_at hl 0 rfl) ?_
          refine lv_iload_n hx hb dX2_flooded_34 rfl (lv_at hl 4 rfl) ?_
          refine lv_icmp_lt (tgt := 41) hx hb dX2_flooded_35 (by decide) (fun c_35 => ?_) (fun c_35 => ?_)
          · refine lv_iload hx hb dX2_flooded_41 (lv_at hl 5 rfl) ?_
            refine lv_istore_n (lv' := [(2, .int (nI i)), (5, .int (lossH 24 (addW σ i (nI x)))), (0, .ref o), (1, .int (nI x)), (3, .int ((aminF (fun f => lossH 24 (addW σ f (nI x))) i).2)), (4, .int (nI i))]) hx hb dX2_flooded_43 rfl hl (by decide) rfl (fun ls hl => ?_)
            refine lv_iload hx hb dX2_flooded_44 (lv_at hl 1 rfl) ?_
            refine lv_istore_n (lv' := [(3, .int (lossH 24 (addW σ i (nI x)))), (2, .int (nI i)), (5, .int (lossH 24 (addW σ i (nI x)))), (0, .ref o), (1, .int (nI x)), (4, .int (nI i))]) hx hb dX2_flooded_46 rfl hl (by decide) rfl (fun ls hl => ?_)
            refine lv_iinc (v := (nI (i + 1))) (lv' := [(4, .int (nI (i + 1))), (3, .int (lossH 24 (addW σ i (nI x)))), (2, .int (nI i)), (5, .int (lossH 24 (addW σ i (nI x)))), (0, .ref o), (1, .int (nI x))]) hx hb dX2_flooded_47 hl (k := 5) rfl (nI_add i 1) (by decide) rfl (fun ls hl => ?_)
            refine lv_goto (tgt := 7) hx hb dX2_flooded_50 (by decide) ?_
            have e81 : (nI i) = (aminF (fun f => lossH 24 (addW σ f (nI x))) (i + 1)).1 := by
              show _ = (if (aminF (fun f => lossH 24 (addW σ f (nI x))) i).1 = -1 then (nI i, (fun f => lossH 24 (addW σ f (nI x))) i) else if (fun f => lossH 24 (addW σ f (nI x))) i < (aminF (fun f => lossH 24 (addW σ f (nI x))) i).2 then (nI i, (fun f => lossH 24 (addW σ f (nI x))) i) else aminF (fun f => lossH 24 (addW σ f (nI x))) i).1
              rw [if_neg c_29, if_pos c_35]
            rw [e81] at hl
            have e82 : lossH 24 (addW σ i (nI x)) = (aminF (fun f => lossH 24 (addW σ f (nI x))) (i + 1)).2 := by
              show _ = (if (aminF (fun f => lossH 24 (addW σ f (nI x))) i).1 = -1 then (nI i, (fun f => lossH 24 (addW σ f (nI x))) i) else if (fun f => lossH 24 (addW σ f (nI x))) i < (aminF (fun f => lossH 24 (addW σ f (nI x))) i).2 then (nI i, (fun f => lossH 24 (addW σ f (nI x))) i) else aminF (fun f => lossH 24 (addW σ f (nI x))) i).2
              rw [if_neg c_29, if_pos c_35]
            rw [e82] at hl
            exact ih_7 (i + 1) (by omega) (by omega) _ _ _ hP hD hS (lv_sub hl [4, 5, 2, 1, 0] rfl)
          · refine lv_goto (tgt := 47) hx hb dX2_flooded_38 (by decide) ?_
            refine lv_iinc (v := (nI (i + 1))) (lv' := [(4, .int (nI (i + 1))), (5, .int (lossH 24 (addW σ i (nI x)))), (0, .ref o), (1, .int (nI x)), (2, .int ((aminF (fun f => lossH 24 (addW σ f (nI x))) i).1)), (3, .int ((aminF (fun f => lossH 24 (addW σ f (nI x))) i).2))]) hx hb dX2_flooded_47 hl (k := 5) rfl (nI_add i 1) (by decide) rfl (fun ls hl => ?_)
            refine lv_goto (tgt := 7) hx hb dX2_flooded_50 (by decide) ?_
            have e81 : (aminF (fun f => lossH 24 (addW σ f (nI x))) i).1 = (aminF (fun f => lossH 24 (addW σ f (nI x))) (i + 1)).1 := by
              show _ = (if (aminF (fun f => lossH 24 (addW σ f (nI x))) i).1 = -1 then (nI i, (fun f => lossH 24 (addW σ f (nI x))) i) else if (fun f => lossH 24 (addW σ f (nI x))) i < (aminF (fun f => lossH 24 (addW σ f (nI x))) i).2 then (nI i, (fun f => lossH 24 (addW σ f (nI x))) i) else aminF (fun f => lossH 24 (addW σ f (nI x))) i).1
              rw [if_neg c_29, if_neg c_35]
            rw [e81] at hl
            have e82 : (aminF (fun f => lossH 24 (addW σ f (nI x))) i).2 = (aminF (fun f => lossH 24 (addW σ f (nI x))) (i + 1)).2 := by
              show _ = (if (aminF (fun f => lossH 24 (addW σ f (nI x))) i).1 = -1 then (nI i, (fun f => lossH 24 (addW σ f (nI x))) i) else if (fun f => lossH 24 (addW σ f (nI x))) i < (aminF (fun f => lossH 24 (addW σ f (nI x))) i).2 then (nI i, (fun f => lossH 24 (addW σ f (nI x))) i) else aminF (fun f => lossH 24 (addW σ f (nI x))) i).2
              rw [if_neg c_29, if_neg c_35]
            rw [e82] at hl
            exact ih_7 (i + 1) (by omega) (by omega) _ _ _ hP hD hS (lv_sub hl [2, 3, 4, 5, 0] rfl)
  exact L7 (n + 1) 0 (by omega) (by omega) _ _ _ hP hD hS (lv_sub hl [3, 4, 2, 1, 0] rfl)

abbrev rmX2_borne : Room := { frames := 7, cells := 0, slots := 0, locals := 172 }
theorem b_X2_borne : Cond.instanceMethod yX2_borne ∈ LW ∧ Cond.selects RX2 yX2_borne yX2_borne ∈ LW ∧ Cond.initialized RX2 ∈ LW ∧ Cond.code yX2_borne cX2_borne 4 (some .int) ∈ LW := ⟨q897, q36, q40, q898⟩
set_option maxHeartbeats 4000000 in
set_option maxRecDepth 100000 in
theorem c_X2_borne (l : Launch) (D : va_G) (cI cZ cL : ClassId) {n k : Nat} (o : Nat) (b : Nat → Nat) (σ : Sg) (κ ζ : Nat → Int32) (th : Int32) (hst : Shp n k σ) {B : Nat} (hB : Bnd B σ) (hB2 : B + 6300 < 2 ^ 29) : MC l yX2_borne cX2_borne 4 (some .int) rmX2_borne D (tZ cI cZ cL) [.ref o] (rC cI cZ o b σ κ ζ th) (rC cI cZ o b σ (nowF σ) ζ th) (some (.int (borneS σ))) := by
  refine MC.of (by decide) (Nat.le_of_ble_eq_true rfl) ?_
  intro p e s m args below meth c A ls Q hx hb hml hr hts hown hlocks hA hP hD hK hS hl hQ
  have hown : s.vm.findClass RX2 = some m.cls := hown
  have hn10 := hst.1
  have hk16 := hst.2.1
  have hl : lv_has ls 4 [(0, .ref o)] := hl
  refine lv_aload_n hx hb dX2_borne_0 rfl (lv_at hl 0 rfl) ?_
  refine x_get (C := RX2) (T := TX2) (N := 14) hx hb hts in_wsX20 hown hK hP 0 rfl rfl 3 (by decide) q595 (v := .int (σ 11 2)) rfl dX2_borne_1 ?_
  refine lv_istore_n (lv' := [(1, .int (σ 11 2)), (0, .ref o)]) hx hb dX2_borne_4 rfl hl (by decide) rfl (fun ls hl => ?_)
  refine lv_aload_n hx hb dX2_borne_5 rfl (lv_at hl 1 rfl) ?_
  refine MC.callV (C := RX2) (T := TX2) (N := 14) (As := []) (rest := []) (wB := rC cI cZ o b σ κ ζ th) (c_X2_lost l D cI cZ cL o b σ κ ζ th hst hB) ⟨hx, hb, hml, hown, hts⟩ q768 b_X2_lost (n := 0) (by decide +kernel) ⟨Nat.le_of_ble_eq_true rfl, Nat.le_of_ble_eq_true rfl⟩ hK hP hD hS hA (sp0 _) (sp0 _) (ci := 2) rfl (q0 := 0) rfl rfl hl.1 rfl (Nat.le_of_ble_eq_true rfl) dX2_borne_6 ⟨Nat.le_of_ble_eq_true rfl, Nat.le_of_ble_eq_true rfl⟩ (fun H locs hP hD hS => ?_)
  refine lv_istore_n (lv' := [(2, .int (lost σ)), (1, .int (σ 11 2)), (0, .ref o)]) hx hb dX2_borne_9 rfl hl (by decide) rfl (fun ls hl => ?_)
  refine lv_iconst (v := (-1)) hx hb dX2_borne_10 (by decide) ?_
  refine lv_istore_n (lv' := [(3, .int (-1)), (2, .int (lost σ)), (1, .int (σ 11 2)), (0, .ref o)]) hx hb dX2_borne_11 rfl hl (by decide) rfl (fun ls hl => ?_)
  refine lv_aload_n hx hb dX2_borne_12 rfl (lv_at hl 3 rfl) ?_
  refine lv_iconst (v := 0) hx hb dX2_borne_13 (by decide) ?_
  refine x_put (C := RX2) (T := TX2) (N := 14) (ws2 := rC cI cZ o b (rainS σ 0) (kF κ (nowF σ) 0) ζ th) hx hb hts in_wsX20 tyX2_ok nmX2 hown hK hP hD hS 0 rfl rfl 3 (by decide) q595 rfl (by decide +kernel) (Nat.le_of_ble_eq_true rfl) rfl dX2_borne_14 (fun H locs hP hD hS => ?_)
  have hl : lv_has ls 4 [(3, .int (lastI (fun i => lossH 24 (rainS σ i)) (lost σ) 0)), (2, .int (lost σ)), (1, .int (σ 11 2)), (0, .ref o)] := hl
  have L17 : ∀ (f i : Nat), i ≤ 10 → 10 < i + f → ∀ (H : Heap) (locs : List Loc) (ls : Array Slot), va_P D vwCl (rC cI cZ o b (rainS σ i) (kF κ (nowF σ) i) ζ th) H → va_D A (rC cI cZ o b (rainS σ i) (kF κ (nowF σ) i) ζ th) → va_S A s.heap H locs → lv_has ls 4 [(0, .ref o), (1, .int (σ 11 2)), (2, .int (lost σ)), (3, .int (lastI (fun i => lossH 24 (rainS σ i)) (lost σ) i))] → W p l e rmX2_borne s m args below meth c H locs 0 0 Q (F0 m 17 ls []) := by
    intro f
    induction f with
    | zero => intro i h1 h2; exact absurd h2 (by omega)
    | succ f ih_17 =>
      intro i hi_17 hf_17 H locs ls hP hD hS hl
      refine lv_aload_n hx hb dX2_borne_17 rfl (lv_at hl 0 rfl) ?_
      refine x_get (C := RX2) (T := TX2) (N := 14) hx hb hts in_wsX20 hown hK hP 0 rfl rfl 3 (by decide) q595 (v := .int (nI i)) (congrArg (fun z => some (Value.int z)) (rfl)) dX2_borne_18 ?_
      refine lv_bipush (v := 9) hx hb dX2_borne_21 (by decide) ?_
      refine lv_icmp_gt (tgt := 56) hx hb dX2_borne_23 (by decide) (fun c_23 => ?_) (fun c_23 => ?_)
      · have hc_23 : 9 < i := (nI_ltI (a := 9) (b := i) (by omega) (by omega)).mp c_23
        refine lv_aload_n hx hb dX2_borne_56 rfl (lv_at hl 0 rfl) ?_
        refine lv_iload_n hx hb dX2_borne_57 rfl (lv_at hl 1 rfl) ?_
        refine x_put (C := RX2) (T := TX2) (N := 14) (ws2 := rC cI cZ o b (sc (rainS σ i) 2 (σ 11 2)) (kF κ (nowF σ) i) ζ th) hx hb hts in_wsX20 tyX2_ok nmX2 hown hK hP hD hS 0 rfl rfl 3 (by decide) q595 rfl (by decide +kernel) (Nat.le_of_ble_eq_true rfl) rfl dX2_borne_58 (fun H locs hP hD hS => ?_)
        refine lv_iload_n hx hb dX2_borne_61 rfl (lv_at hl 3 rfl) ?_
        subst hQ
        exact ri hx hb hr hlocks hK hP hD hS dX2_borne_62 (by rw [rain_rain, rain_back, show i = 10 by omega]; rfl) (by unfold borneS; rw [show i = 10 by omega])
      · have hc_23 : i ≤ 9 := Nat.not_lt.mp (fun z => c_23 ((nI_ltI (a := 9) (b := i) (by omega) (by omega)).mpr z))
        refine lv_aload_n hx hb dX2_borne_26 rfl (lv_at hl 0 rfl) ?_
        refine lv_bipush (v := 24) hx hb dX2_borne_27 (by decide) ?_
        refine lv_iconst (v := (-1)) hx hb dX2_borne_29 (by decide) ?_
        refine lv_iconst (v := 0) hx hb dX2_borne_30 (by decide) ?_
        refine MC.callV (C := RX2) (T := TX2) (N := 14) (As := [.int 24, .int (-1), .int 0]) (rest := []) (wB := rC cI cZ o b (rainS σ i) (nowF (rainS σ i)) ζ th) (c_X2_lostBehind_a l D cI cZ cL o b (rainS σ i) (kF κ (nowF σ) i) ζ th (hst.ra i) (hB.ra (by omega)) 24 (by omega) 0) ⟨hx, hb, hml, hown, hts⟩ q867 b_X2_lostBehind (n := 3) (by decide +kernel) ⟨Nat.le_of_ble_eq_true rfl, Nat.le_of_ble_eq_true rfl⟩ hK hP hD hS hA (sp0 _) (sp0 _) (ci := 2) rfl (q0 := 0) rfl rfl hl.1 rfl (Nat.le_of_ble_eq_true rfl) dX2_borne_31 ⟨Nat.le_of_ble_eq_true rfl, Nat.le_of_ble_eq_true rfl⟩ (fun H locs hP hD hS => ?_)
        rw [nowF_rain] at hP hD
        have hP : va_P D vwCl (rC cI cZ o b (rainS σ i) (kF κ (nowF σ) (i + 1)) ζ th) H := hP
        have hD : va_D A (rC cI cZ o b (rainS σ i) (kF κ (nowF σ) (i + 1)) ζ th) := hD
        refine lv_iload_n hx hb dX2_borne_34 rfl (lv_at hl 2 rfl) ?_
        refine lv_icmp_ne (tgt := 43) hx hb dX2_borne_35 (by decide) (fun c_35 => ?_) (fun c_35 => ?_)
        · refine lv_aload_n hx hb dX2_borne_43 rfl (lv_at hl 0 rfl) ?_
          refine lv_dup hx hb dX2_borne_44 rfl ?_
          refine x_get (C := RX2) (T := TX2) (N := 14) hx hb hts in_wsX20 hown hK hP 0 rfl rfl 3 (by decide) q595 (v := .int (nI i)) (congrArg (fun z => some (Value.int z)) (rfl)) dX2_borne_45 ?_
          refine lv_iconst (v := 1) hx hb dX2_borne_48 (by decide) ?_
          refine lv_iadd hx hb dX2_borne_49 ?_
          refine x_top (nI_add i 1) ?_
          refine x_put (C := RX2) (T := TX2) (N := 14) (ws2 := rC cI cZ o b (sc (rainS σ i) 2 (nI (i + 1))) (kF κ (nowF σ) (i + 1)) ζ th) hx hb hts in_wsX20 tyX2_ok nmX2 hown hK hP hD hS 0 rfl rfl 3 (by decide) q595 rfl (by decide +kernel) (Nat.le_of_ble_eq_true rfl) rfl dX2_borne_50 (fun H locs hP hD hS => ?_)
          refine lv_goto (tgt := 17) hx hb dX2_borne_53 (by decide) ?_
          have e8 : lastI (fun i => lossH 24 (rainS σ i)) (lost σ) i = lastI (fun i => lossH 24 (rainS σ i)) (lost σ) (i + 1) := by
            show _ = if (fun i => lossH 24 (rainS σ i)) i = lost σ then nI i else lastI (fun i => lossH 24 (rainS σ i)) (lost σ) i
            rw [if_neg c_35]
          rw [e8] at hl
          rw [show sc (rainS σ i) 2 (nI (i + 1)) = rainS σ (i + 1) from rain_rain σ i _] at hP hD
          exact ih_17 (i + 1) (by omega) (by omega) _ _ _ hP hD hS (lv_sub hl [0, 1, 2, 3] rfl)
        · refine lv_aload_n hx hb dX2_borne_38 rfl (lv_at hl 0 rfl) ?_
          refine x_get (C := RX2) (T := TX2) (N := 14) hx hb hts in_wsX20 hown hK hP 0 rfl rfl 3 (by decide) q595 (v := .int (nI i)) (congrArg (fun z => some (Value.int z)) (rfl)) dX2_borne_39 ?_
          refine lv_istore_n (lv' := [(3, .int (nI i)), (0, .ref o), (1, .int (σ 11 2)), (2, .int (lost σ))]) hx hb dX2_borne_42 rfl hl (by decide) rfl (fun ls hl => ?_)
          refine lv_aload_n hx hb dX2_borne_43 rfl (lv_at hl 1 rfl) ?_
          refine lv_dup hx hb dX2_borne_44 rfl ?_
          refine x_get (C := RX2) (T := TX2) (N := 14) hx hb hts in_wsX20 hown hK hP 0 rfl rfl 3 (by decide) q595 (v := .int (nI i)) (congrArg (fun z => some (Value.int z)) (rfl)) dX2_borne_45 ?_
          refine lv_iconst (v := 1) hx hb dX2_borne_48 (by decide) ?_
          refine lv_iadd hx hb dX2_borne_49 ?_
          refine x_top (nI_add i 1) ?_
          refine x_put (C := RX2) (T := TX2) (N := 14) (ws2 := rC cI cZ o b (sc (rainS σ i) 2 (nI (i + 1))) (kF κ (nowF σ) (i + 1)) ζ th) hx hb hts in_wsX20 tyX2_ok nmX2 hown hK hP hD hS 0 rfl rfl 3 (by decide) q595 rfl (by decide +kernel) (Nat.le_of_ble_eq_true rfl) rfl dX2_borne_50 (fun H locs hP hD hS => ?_)
          refine lv_goto (tgt := 17) hx hb dX2_borne_53 (by decide) ?_
          have e8 : (nI i) = lastI (fun i => lossH 24 (rainS σ i)) (lost σ) (i + 1) := by
            show _ = if (fun i => lossH 24 (rainS σ i)) i = lost σ then nI i else lastI (fun i => lossH 24 (rainS σ i)) (lost σ) i
            rw [if_pos c_35]
          rw [e8] at hl
          rw [show sc (rainS σ i) 2 (nI (i + 1)) = rainS σ (i + 1) from rain_rain σ i _] at hP hD
          exact ih_17 (i + 1) (by omega) (by omega) _ _ _ hP hD hS (lv_sub hl [1, 2, 3, 0] rfl)
  exact L17 (10 + 1) 0 (by omega) (by omega) _ _ _ hP hD hS (lv_sub hl [3, 2, 1, 0] rfl)
