abbrev rmX0_hasField : Room := { frames := 0, cells := 0, slots := 0, locals := 0 }
theorem b_X0_hasField : Cond.instanceMethod yX0_hasField ∈ LW ∧ Cond.selects RX0 yX0_hasField yX0_hasField ∈ LW ∧ Cond.initialized RX0 ∈ LW ∧ Cond.code yX0_hasField cX0_hasField 2 (some .boolean) ∈ LW := ⟨q201, q202, q10, q203⟩
set_option maxHeartbeats 4000000 in
set_option maxRecDepth 100000 in
theorem c_X0_hasField (l : Launch) (D : va_G) (cI cZ cL : ClassId) (h : Nat) (a : Nat → Nat) (σ : Sg) (x r : Int32) (hrr : hasF 0 σ x = r) : MC l yX0_hasField cX0_hasField 2 (some .boolean) rmX0_hasField D (tZ cI cZ cL) [.ref h, .int x] (mC cI cZ h a σ) (mC cI cZ h a σ) (some (.int r)) := by
  refine MC.of (by decide) (Nat.le_of_ble_eq_true rfl) ?_
  intro p e s m args below meth c A ls Q hx hb hml hr hts hown hlocks hA hP hD hK hS hl hQ
  have hown : s.vm.findClass RX0 = some m.cls := hown
  have hl : lv_has ls 2 [(0, .ref h), (1, .int x)] := hl
  refine lv_iload_n hx hb dX0_hasField_0 rfl (lv_at hl 1 rfl) ?_
  refine lv_if_lt (tgt := 16) hx hb dX0_hasField_1 (by decide) (fun c_1 => ?_) (fun c_1 => ?_)
  · refine lv_iconst (v := 0) hx hb dX0_hasField_16 (by decide) ?_
    subst hQ
    exact rz hx hb hr hlocks hK hP hD hS dX0_hasField_17 (by decide) (rfl) (by rw [← hrr]; unfold hasF; rw [if_neg (Int32.not_le.mpr c_1)])
  · refine lv_iload_n hx hb dX0_hasField_4 rfl (lv_at hl 1 rfl) ?_
    refine lv_aload_n hx hb dX0_hasField_5 rfl (lv_at hl 0 rfl) ?_
    refine x_get (C := RX0) (T := TX0) (N := 16) hx hb hts in_wsX00 hown hK hP 0 rfl rfl 11 (by decide) q53 (v := .int (σ 11 0)) rfl dX0_hasField_6 ?_
    refine lv_icmp_ge (tgt := 16) hx hb dX0_hasField_9 (by decide) (fun c_9 => ?_) (fun c_9 => ?_)
    · refine lv_iconst (v := 0) hx hb dX0_hasField_16 (by decide) ?_
      subst hQ
      exact rz hx hb hr hlocks hK hP hD hS dX0_hasField_17 (by decide) (rfl) (by rw [← hrr]; unfold hasF; rw [if_pos (Int32.not_lt.mp c_1), if_neg (Int32.not_lt.mpr c_9)])
    · refine lv_iconst (v := 1) hx hb dX0_hasField_12 (by decide) ?_
      refine lv_goto (tgt := 17) hx hb dX0_hasField_13 (by decide) ?_
      subst hQ
      exact rz hx hb hr hlocks hK hP hD hS dX0_hasField_17 (by decide) (rfl) (by rw [← hrr]; unfold hasF; rw [if_pos (Int32.not_lt.mp c_1), if_pos (Int32.not_le.mp c_9)])

abbrev rmX0_hasDrain : Room := { frames := 0, cells := 0, slots := 0, locals := 0 }
theorem b_X0_hasDrain : Cond.instanceMethod yX0_hasDrain ∈ LW ∧ Cond.selects RX0 yX0_hasDrain yX0_hasDrain ∈ LW ∧ Cond.initialized RX0 ∈ LW ∧ Cond.code yX0_hasDrain cX0_hasDrain 2 (some .boolean) ∈ LW := ⟨q197, q198, q10, q199⟩
set_option maxHeartbeats 4000000 in
set_option maxRecDepth 100000 in
theorem c_X0_hasDrain (l : Launch) (D : va_G) (cI cZ cL : ClassId) (h : Nat) (a : Nat → Nat) (σ : Sg) (x r : Int32) (hrr : hasF 1 σ x = r) : MC l yX0_hasDrain cX0_hasDrain 2 (some .boolean) rmX0_hasDrain D (tZ cI cZ cL) [.ref h, .int x] (mC cI cZ h a σ) (mC cI cZ h a σ) (some (.int r)) := by
  refine MC.of (by decide) (Nat.le_of_ble_eq_true rfl) ?_
  intro p e s m args below meth c A ls Q hx hb hml hr hts hown hlocks hA hP hD hK hS hl hQ
  have hown : s.vm.findClass RX0 = some m.cls := hown
  have hl : lv_has ls 2 [(0, .ref h), (1, .int x)] := hl
  refine lv_iload_n hx hb dX0_hasDrain_0 rfl (lv_at hl 1 rfl) ?_
  refine lv_if_lt (tgt := 16) hx hb dX0_hasDrain_1 (by decide) (fun c_1 => ?_) (fun c_1 => ?_)
  · refine lv_iconst (v := 0) hx hb dX0_hasDrain_16 (by decide) ?_
    subst hQ
    exact rz hx hb hr hlocks hK hP hD hS dX0_hasDrain_17 (by decide) (rfl) (by rw [← hrr]; unfold hasF; rw [if_neg (Int32.not_le.mpr c_1)])
  · refine lv_iload_n hx hb dX0_hasDrain_4 rfl (lv_at hl 1 rfl) ?_
    refine lv_aload_n hx hb dX0_hasDrain_5 rfl (lv_at hl 0 rfl) ?_
    refine x_get (C := RX0) (T := TX0) (N := 16) hx hb hts in_wsX00 hown hK hP 0 rfl rfl 12 (by decide) q55 (v := .int (σ 11 1)) rfl dX0_hasDrain_6 ?_
    refine lv_icmp_ge (tgt := 16) hx hb dX0_hasDrain_9 (by decide) (fun c_9 => ?_) (fun c_9 => ?_)
    · refine lv_iconst (v := 0) hx hb dX0_hasDrain_16 (by decide) ?_
      subst hQ
      exact rz hx hb hr hlocks hK hP hD hS dX0_hasDrain_17 (by decide) (rfl) (by rw [← hrr]; unfold hasF; rw [if_pos (Int32.not_lt.mp c_1), if_neg (Int32.not_lt.mpr c_9)])
    · refine lv_iconst (v := 1) hx hb dX0_hasDrain_12 (by decide) ?_
      refine lv_goto (tgt := 17) hx hb dX0_hasDrain_13 (by decide) ?_
      subst hQ
      exact rz hx hb hr hlocks hK hP hD hS dX0_hasDrain_17 (by decide) (rfl) (by rw [← hrr]; unfold hasF; rw [if_pos (Int32.not_lt.mp c_1), if_pos (Int32.not_le.mp c_9)])

abbrev rmX0_putField : Room := { frames := 0, cells := 0, slots := 0, locals := 0 }
theorem b_X0_putField : Cond.instanceMethod yX0_putField ∈ LW ∧ Cond.selects RX0 yX0_putField yX0_putField ∈ LW ∧ Cond.initialized RX0 ∈ LW ∧ Cond.code yX0_putField cX0_putField 4 (some .int) ∈ LW := ⟨q546, q547, q10, q548⟩
set_option maxHeartbeats 4000000 in
set_option maxRecDepth 100000 in
theorem c_X0_putField (l : Launch) (D : va_G) (cI cZ cL : ClassId) {n k : Nat} (h : Nat) (a : Nat → Nat) (σ : Sg) (hst : Shp n k σ) (p0 p1 : Int32) : MC l yX0_putField cX0_putField 4 (some .int) rmX0_putField D (tZ cI cZ cL) [.ref h, .int p0, .int p1] (mC cI cZ h a σ) (mC cI cZ h a (putF n p0 p1 σ)) (some (.int (if 10 ≤ n then -1 else nI n))) := by
  refine MC.of (by decide) (Nat.le_of_ble_eq_true rfl) ?_
  intro p e s m args below meth c A ls Q hx hb hml hr hts hown hlocks hA hP hD hK hS hl hQ
  have hown : s.vm.findClass RX0 = some m.cls := hown
  have hn10 := hst.1
  have hk16 := hst.2.1
  have hl : lv_has ls 4 [(0, .ref h), (1, .int p0), (2, .int p1)] := hl
  refine lv_aload_n hx hb dX0_putField_0 rfl (lv_at hl 0 rfl) ?_
  refine x_get (C := RX0) (T := TX0) (N := 16) hx hb hts in_wsX00 hown hK hP 0 rfl rfl 11 (by decide) q53 (v := .int (nI n)) (congrArg (fun z => some (Value.int z)) (hst.f0)) dX0_putField_1 ?_
  refine lv_istore_n (lv' := [(3, .int (nI n)), (0, .ref h), (1, .int p0), (2, .int p1)]) hx hb dX0_putField_4 rfl hl (by decide) rfl (fun ls hl => ?_)
  refine lv_iload_n hx hb dX0_putField_5 rfl (lv_at hl 0 rfl) ?_
  refine lv_bipush (v := 10) hx hb dX0_putField_6 (by decide) ?_
  refine lv_icmp_lt (tgt := 13) hx hb dX0_putField_8 (by decide) (fun c_8 => ?_) (fun c_8 => ?_)
  · have hc_8 : n < 10 := (nI_ltI (a := n) (b := 10) (by omega) (by omega)).mp c_8
    refine lv_aload_n hx hb dX0_putField_13 rfl (lv_at hl 1 rfl) ?_
    refine x_get (C := RX0) (T := TX0) (N := 16) hx hb hts in_wsX00 hown hK hP 0 rfl rfl 0 (by decide) q34 (v := .ref (a 0)) rfl dX0_putField_14 ?_
    refine lv_iload_n hx hb dX0_putField_17 rfl (lv_at hl 0 rfl) ?_
    refine lv_iload_n hx hb dX0_putField_18 rfl (lv_at hl 2 rfl) ?_
    refine x_ist (ws2 := mC cI cZ h a (su σ 0 n p0)) hx hb hK hP hD hS 1 0 rfl rfl n (rfl) (by omega) (by decide) rfl dX0_putField_19 (fun H locs hP hD hS => ?_)
    refine lv_aload_n hx hb dX0_putField_20 rfl (lv_at hl 1 rfl) ?_
    refine x_get (C := RX0) (T := TX0) (N := 16) hx hb hts in_wsX00 hown hK hP 0 rfl rfl 1 (by decide) q35 (v := .ref (a 1)) rfl dX0_putField_21 ?_
    refine lv_iload_n hx hb dX0_putField_24 rfl (lv_at hl 0 rfl) ?_
    refine lv_iload_n hx hb dX0_putField_25 rfl (lv_at hl 3 rfl) ?_
    refine x_ist (ws2 := mC cI cZ h a (su (su σ 0 n p0) 1 n p1)) hx hb hK hP hD hS 2 0 rfl rfl n (rfl) (by omega) (by decide) rfl dX0_putField_26 (fun H locs hP hD hS => ?_)
    refine lv_aload_n hx hb dX0_putField_27 rfl (lv_at hl 1 rfl) ?_
    refine lv_iload_n hx hb dX0_putField_28 rfl (lv_at hl 0 rfl) ?_
    refine lv_iconst (v := 1) hx hb dX0_putField_29 (by decide) ?_
    refine lv_iadd hx hb dX0_putField_30 ?_
    refine x_top (nI_add n 1) ?_
    refine x_put (C := RX0) (T := TX0) (N := 16) (ws2 := mC cI cZ h a (sc (su (su σ 0 n p0) 1 n p1) 0 (nI (n + 1)))) hx hb hts in_wsX00 tyX0_ok nmX0 hown hK hP hD hS 0 rfl rfl 11 (by decide) q53 rfl (by decide +kernel) (Nat.le_of_ble_eq_true rfl) rfl dX0_putField_31 (fun H locs hP hD hS => ?_)
    refine lv_iload_n hx hb dX0_putField_34 rfl (lv_at hl 0 rfl) ?_
    subst hQ
    exact ri hx hb hr hlocks hK hP hD hS dX0_putField_35 (by unfold putF; rw [if_neg (by omega)]) (by rw [if_neg (by omega)])
  · have hc_8 : 10 ≤ n := Nat.not_lt.mp (fun z => c_8 ((nI_ltI (a := n) (b := 10) (by omega) (by omega)).mpr z))
    refine lv_iconst (v := (-1)) hx hb dX0_putField_11 (by decide) ?_
    subst hQ
    exact ri hx hb hr hlocks hK hP hD hS dX0_putField_12 (by unfold putF; rw [if_pos hc_8]) (by rw [if_pos hc_8])

abbrev rmX0_putDrain : Room := { frames := 0, cells := 0, slots := 0, locals := 0 }
theorem b_X0_putDrain : Cond.instanceMethod yX0_putDrain ∈ LW ∧ Cond.selects RX0 yX0_putDrain yX0_putDrain ∈ LW ∧ Cond.initialized RX0 ∈ LW ∧ Cond.code yX0_putDrain cX0_putDrain 6 (some .int) ∈ LW := ⟨q575, q576, q10, q577⟩
set_option maxHeartbeats 4000000 in
set_option maxRecDepth 100000 in
theorem c_X0_putDrain (l : Launch) (D : va_G) (cI cZ cL : ClassId) {n k : Nat} (h : Nat) (a : Nat → Nat) (σ : Sg) (hst : Shp n k σ) (p0 p1 p2 b : Int32) (hb01 : b = 0 ∨ b = 1) : MC l yX0_putDrain cX0_putDrain 6 (some .int) rmX0_putDrain D (tZ cI cZ cL) [.ref h, .int p0, .int p1, .int p2, .int b] (mC cI cZ h a σ) (mC cI cZ h a (putD k p0 p1 p2 b σ)) (some (.int (if 16 ≤ k then -1 else nI k))) := by
  refine MC.of (by decide) (Nat.le_of_ble_eq_true rfl) ?_
  intro p e s m args below meth c A ls Q hx hb hml hr hts hown hlocks hA hP hD hK hS hl hQ
  have hown : s.vm.findClass RX0 = some m.cls := hown
  have hn10 := hst.1
  have hk16 := hst.2.1
  have hl : lv_has ls 6 [(0, .ref h), (1, .int p0), (2, .int p1), (3, .int p2), (4, .int b)] := hl
  refine lv_aload_n hx hb dX0_putDrain_0 rfl (lv_at hl 0 rfl) ?_
  refine x_get (C := RX0) (T := TX0) (N := 16) hx hb hts in_wsX00 hown hK hP 0 rfl rfl 12 (by decide) q55 (v := .int (nI k)) (congrArg (fun z => some (Value.int z)) (hst.f1)) dX0_putDrain_1 ?_
  refine lv_istore (lv' := [(5, .int (nI k)), (0, .ref h), (1, .int p0), (2, .int p1), (3, .int p2), (4, .int b)]) hx hb dX0_putDrain_4 hl (by decide) rfl (fun ls hl => ?_)
  refine lv_iload hx hb dX0_putDrain_6 (lv_at hl 0 rfl) ?_
  refine lv_bipush (v := 16) hx hb dX0_putDrain_8 (by decide) ?_
  refine lv_icmp_lt (tgt := 15) hx hb dX0_putDrain_10 (by decide) (fun c_10 => ?_) (fun c_10 => ?_)
  · have hc_10 : k < 16 := (nI_ltI (a := k) (b := 16) (by omega) (by omega)).mp c_10
    refine lv_aload_n hx hb dX0_putDrain_15 rfl (lv_at hl 1 rfl) ?_
    refine x_get (C := RX0) (T := TX0) (N := 16) hx hb hts in_wsX00 hown hK hP 0 rfl rfl 5 (by decide) q42 (v := .ref (a 5)) rfl dX0_putDrain_16 ?_
    refine lv_iload hx hb dX0_putDrain_19 (lv_at hl 0 rfl) ?_
    refine lv_iload_n hx hb dX0_putDrain_21 rfl (lv_at hl 2 rfl) ?_
    refine x_ist (ws2 := mC cI cZ h a (su σ 5 k p0)) hx hb hK hP hD hS 6 0 rfl rfl k (rfl) (by omega) (by decide) rfl dX0_putDrain_22 (fun H locs hP hD hS => ?_)
    refine lv_aload_n hx hb dX0_putDrain_23 rfl (lv_at hl 1 rfl) ?_
    refine x_get (C := RX0) (T := TX0) (N := 16) hx hb hts in_wsX00 hown hK hP 0 rfl rfl 6 (by decide) q44 (v := .ref (a 6)) rfl dX0_putDrain_24 ?_
    refine lv_iload hx hb dX0_putDrain_27 (lv_at hl 0 rfl) ?_
    refine lv_iload_n hx hb dX0_putDrain_29 rfl (lv_at hl 3 rfl) ?_
    refine x_ist (ws2 := mC cI cZ h a (su (su σ 5 k p0) 6 k p1)) hx hb hK hP hD hS 7 0 rfl rfl k (rfl) (by omega) (by decide) rfl dX0_putDrain_30 (fun H locs hP hD hS => ?_)
    refine lv_aload_n hx hb dX0_putDrain_31 rfl (lv_at hl 1 rfl) ?_
    refine x_get (C := RX0) (T := TX0) (N := 16) hx hb hts in_wsX00 hown hK hP 0 rfl rfl 7 (by decide) q46 (v := .ref (a 7)) rfl dX0_putDrain_32 ?_
    refine lv_iload hx hb dX0_putDrain_35 (lv_at hl 0 rfl) ?_
    refine lv_iload_n hx hb dX0_putDrain_37 rfl (lv_at hl 4 rfl) ?_
    refine x_ist (ws2 := mC cI cZ h a (su (su (su σ 5 k p0) 6 k p1) 7 k p2)) hx hb hK hP hD hS 8 0 rfl rfl k (rfl) (by omega) (by decide) rfl dX0_putDrain_38 (fun H locs hP hD hS => ?_)
    refine lv_aload_n hx hb dX0_putDrain_39 rfl (lv_at hl 1 rfl) ?_
    refine x_get (C := RX0) (T := TX0) (N := 16) hx hb hts in_wsX00 hown hK hP 0 rfl rfl 9 (by decide) q49 (v := .ref (a 9)) rfl dX0_putDrain_40 ?_
    refine lv_iload hx hb dX0_putDrain_43 (lv_at hl 0 rfl) ?_
    refine lv_iload hx hb dX0_putDrain_45 (lv_at hl 5 rfl) ?_
    refine x_zst (ws2 := mC cI cZ h a (su (su (su (su σ 5 k p0) 6 k p1) 7 k p2) 9 k b)) hx hb hK hP hD hS 10 1 rfl rfl k (rfl) (by omega) (by decide) hb01 rfl dX0_putDrain_47 (fun H locs hP hD hS => ?_)
    refine lv_aload_n hx hb dX0_putDrain_48 rfl (lv_at hl 1 rfl) ?_
    refine x_get (C := RX0) (T := TX0) (N := 16) hx hb hts in_wsX00 hown hK hP 0 rfl rfl 10 (by decide) q51 (v := .ref (a 10)) rfl dX0_putDrain_49 ?_
    refine lv_iload hx hb dX0_putDrain_52 (lv_at hl 0 rfl) ?_
    refine lv_iconst (v := 1) hx hb dX0_putDrain_54 (by decide) ?_
    refine x_zst (ws2 := mC cI cZ h a (su (su (su (su (su σ 5 k p0) 6 k p1) 7 k p2) 9 k b) 10 k 1)) hx hb hK hP hD hS 11 1 rfl rfl k (rfl) (by omega) (by decide) (Or.inr rfl) rfl dX0_putDrain_55 (fun H locs hP hD hS => ?_)
    refine lv_aload_n hx hb dX0_putDrain_56 rfl (lv_at hl 1 rfl) ?_
    refine lv_iload hx hb dX0_putDrain_57 (lv_at hl 0 rfl) ?_
    refine lv_iconst (v := 1) hx hb dX0_putDrain_59 (by decide) ?_
    refine lv_iadd hx hb dX0_putDrain_60 ?_
    refine x_top (nI_add k 1) ?_
    refine x_put (C := RX0) (T := TX0) (N := 16) (ws2 := mC cI cZ h a (sc (su (su (su (su (su σ 5 k p0) 6 k p1) 7 k p2) 9 k b) 10 k 1) 1 (nI (k + 1)))) hx hb hts in_wsX00 tyX0_ok nmX0 hown hK hP hD hS 0 rfl rfl 12 (by decide) q55 rfl (by decide +kernel) (Nat.le_of_ble_eq_true rfl) rfl dX0_putDrain_61 (fun H locs hP hD hS => ?_)
    refine lv_iload hx hb dX0_putDrain_64 (lv_at hl 0 rfl) ?_
    subst hQ
    exact ri hx hb hr hlocks hK hP hD hS dX0_putDrain_66 (by unfold putD; rw [if_neg (by omega)]) (by rw [if_neg (by omega)])
  · have hc_10 : 16 ≤ k := Nat.not_lt.mp (fun z => c_10 ((nI_ltI (a := k) (b := 16) (by omega) (by omega)).mpr z))
    refine lv_iconst (v := (-1)) hx hb dX0_putDrain_13 (by decide) ?_
    subst hQ
    exact ri hx hb hr hlocks hK hP hD hS dX0_putDrain_14 (by unfold putD; rw [if_pos hc_10]) (by rw [if_pos hc_10])

abbrev rmX0_turnDrain : Room := { frames := 1, cells := 0, slots := 0, locals := 21 }
theorem b_X0_turnDrain : Cond.instanceMethod yX0_turnDrain ∈ LW ∧ Cond.selects RX0 yX0_turnDrain yX0_turnDrain ∈ LW ∧ Cond.initialized RX0 ∈ LW ∧ Cond.code yX0_turnDrain cX0_turnDrain 2 none ∈ LW := ⟨q359, q360, q10, q361⟩
set_option maxHeartbeats 4000000 in
set_option maxRecDepth 100000 in
theorem c_X0_turnDrain (l : Launch) (D : va_G) (cI cZ cL : ClassId) {n k : Nat} (h : Nat) (a : Nat → Nat) (σ : Sg) (hst : Shp n k σ) (j : Nat) (hj : j < k) : MC l yX0_turnDrain cX0_turnDrain 2 none rmX0_turnDrain D (tZ cI cZ cL) [.ref h, .int (nI j)] (mC cI cZ h a σ) (mC cI cZ h a (turnS σ j)) (none) := by
  refine MC.of (by decide) (Nat.le_of_ble_eq_true rfl) ?_
  intro p e s m args below meth c A ls Q hx hb hml hr hts hown hlocks hA hP hD hK hS hl hQ
  have hown : s.vm.findClass RX0 = some m.cls := hown
  have hn10 := hst.1
  have hk16 := hst.2.1
  have hl : lv_has ls 2 [(0, .ref h), (1, .int (nI j))] := hl
  refine lv_aload_n hx hb dX0_turnDrain_0 rfl (lv_at hl 0 rfl) ?_
  refine lv_iload_n hx hb dX0_turnDrain_1 rfl (lv_at hl 1 rfl) ?_
  refine MC.callV (C := RX0) (T := TX0) (N := 16) (As := [.int (nI j)]) (rest := []) (wB := mC cI cZ h a σ) (c_X0_hasDrain l D cI cZ cL h a σ (nI j) 1 (hasF_1 (hst) (hj))) ⟨hx, hb, hml, hown, hts⟩ q196 b_X0_hasDrain (n := 1) (by decide +kernel) ⟨Nat.le_of_ble_eq_true rfl, Nat.le_of_ble_eq_true rfl⟩ hK hP hD hS hA (sp0 _) (sp0 _) (ci := 0) rfl (q0 := 0) rfl rfl hl.1 rfl (Nat.le_of_ble_eq_true rfl) dX0_turnDrain_2 ⟨Nat.le_of_ble_eq_true rfl, Nat.le_of_ble_eq_true rfl⟩ (fun H locs hP hD hS => ?_)
  refine lv_if_eq (tgt := 28) hx hb dX0_turnDrain_5 (by decide) (fun z => absurd z (by decide)) (fun c_5 => ?_)
  refine lv_aload_n hx hb dX0_turnDrain_8 rfl (lv_at hl 0 rfl) ?_
  refine x_get (C := RX0) (T := TX0) (N := 16) hx hb hts in_wsX00 hown hK hP 0 rfl rfl 10 (by decide) q51 (v := .ref (a 10)) rfl dX0_turnDrain_9 ?_
  refine lv_iload_n hx hb dX0_turnDrain_12 rfl (lv_at hl 1 rfl) ?_
  refine lv_aload_n hx hb dX0_turnDrain_13 rfl (lv_at hl 0 rfl) ?_
  refine x_get (C := RX0) (T := TX0) (N := 16) hx hb hts in_wsX00 hown hK hP 0 rfl rfl 10 (by decide) q51 (v := .ref (a 10)) rfl dX0_turnDrain_14 ?_
  refine lv_iload_n hx hb dX0_turnDrain_17 rfl (lv_at hl 1 rfl) ?_
  refine x_zld hx hb hK hP 11 1 rfl rfl j (rfl) (by omega) (by decide) (v := σ 10 j) rfl dX0_turnDrain_18 ?_
  refine lv_if_ne (tgt := 26) hx hb dX0_turnDrain_19 (by decide) (fun c_19 => ?_) (fun c_19 => ?_)
  · refine lv_iconst (v := 0) hx hb dX0_turnDrain_26 (by decide) ?_
    refine x_zst (ws2 := mC cI cZ h a (su σ 10 j 0)) hx hb hK hP hD hS 11 1 rfl rfl j (rfl) (by omega) (by decide) (by decide) rfl dX0_turnDrain_27 (fun H locs hP hD hS => ?_)
    subst hQ
    exact rv hx hb hr hlocks hK hP hD hS dX0_turnDrain_28 (by unfold turnS; rw [if_neg c_19])
  · refine lv_iconst (v := 1) hx hb dX0_turnDrain_22 (by decide) ?_
    refine lv_goto (tgt := 27) hx hb dX0_turnDrain_23 (by decide) ?_
    refine x_zst (ws2 := mC cI cZ h a (su σ 10 j 1)) hx hb hK hP hD hS 11 1 rfl rfl j (rfl) (by omega) (by decide) (by decide) rfl dX0_turnDrain_27 (fun H locs hP hD hS => ?_)
    subst hQ
    exact rv hx hb hr hlocks hK hP hD hS dX0_turnDrain_28 (by unfold turnS; rw [if_pos c_19])

abbrev rmX0_letWaterIn : Room := { frames := 1, cells := 0, slots := 0, locals := 21 }
theorem b_X0_letWaterIn : Cond.instanceMethod yX0_letWaterIn ∈ LW ∧ Cond.selects RX0 yX0_letWaterIn yX0_letWaterIn ∈ LW ∧ Cond.initialized RX0 ∈ LW ∧ Cond.code yX0_letWaterIn cX0_letWaterIn 3 none ∈ LW := ⟨q212, q213, q10, q214⟩
set_option maxHeartbeats 4000000 in
set_option maxRecDepth 100000 in
theorem c_X0_letWaterIn (l : Launch) (D : va_G) (cI cZ cL : ClassId) {n k : Nat} (h : Nat) (a : Nat → Nat) (σ : Sg) (hst : Shp n k σ) (j : Nat) (hj : j < n) (x : Int32) : MC l yX0_letWaterIn cX0_letWaterIn 3 none rmX0_letWaterIn D (tZ cI cZ cL) [.ref h, .int (nI j), .int x] (mC cI cZ h a σ) (mC cI cZ h a (addW σ j x)) (none) := by
  refine MC.of (by decide) (Nat.le_of_ble_eq_true rfl) ?_
  intro p e s m args below meth c A ls Q hx hb hml hr hts hown hlocks hA hP hD hK hS hl hQ
  have hown : s.vm.findClass RX0 = some m.cls := hown
  have hn10 := hst.1
  have hk16 := hst.2.1
  have hl : lv_has ls 3 [(0, .ref h), (1, .int (nI j)), (2, .int x)] := hl
  refine lv_aload_n hx hb dX0_letWaterIn_0 rfl (lv_at hl 0 rfl) ?_
  refine lv_iload_n hx hb dX0_letWaterIn_1 rfl (lv_at hl 1 rfl) ?_
  refine MC.callV (C := RX0) (T := TX0) (N := 16) (As := [.int (nI j)]) (rest := []) (wB := mC cI cZ h a σ) (c_X0_hasField l D cI cZ cL h a σ (nI j) 1 (hasF_0 (hst) (hj))) ⟨hx, hb, hml, hown, hts⟩ q200 b_X0_hasField (n := 1) (by decide +kernel) ⟨Nat.le_of_ble_eq_true rfl, Nat.le_of_ble_eq_true rfl⟩ hK hP hD hS hA (sp0 _) (sp0 _) (ci := 0) rfl (q0 := 0) rfl rfl hl.1 rfl (Nat.le_of_ble_eq_true rfl) dX0_letWaterIn_2 ⟨Nat.le_of_ble_eq_true rfl, Nat.le_of_ble_eq_true rfl⟩ (fun H locs hP hD hS => ?_)
  refine lv_if_eq (tgt := 18) hx hb dX0_letWaterIn_5 (by decide) (fun z => absurd z (by decide)) (fun c_5 => ?_)
  refine lv_aload_n hx hb dX0_letWaterIn_8 rfl (lv_at hl 0 rfl) ?_
  refine x_get (C := RX0) (T := TX0) (N := 16) hx hb hts in_wsX00 hown hK hP 0 rfl rfl 2 (by decide) q36 (v := .ref (a 2)) rfl dX0_letWaterIn_9 ?_
  refine lv_iload_n hx hb dX0_letWaterIn_12 rfl (lv_at hl 1 rfl) ?_
  refine lv_dup2_11 hx hb dX0_letWaterIn_13 rfl rfl ?_
  refine x_ild hx hb hK hP 3 0 rfl rfl j (rfl) (by omega) (by decide) (v := σ 2 j) rfl dX0_letWaterIn_14 ?_
  refine lv_iload_n hx hb dX0_letWaterIn_15 rfl (lv_at hl 2 rfl) ?_
  refine lv_iadd hx hb dX0_letWaterIn_16 ?_
  refine x_ist (ws2 := mC cI cZ h a (su σ 2 j ((σ 2 j) + x))) hx hb hK hP hD hS 3 0 rfl rfl j (rfl) (by omega) (by decide) rfl dX0_letWaterIn_17 (fun H locs hP hD hS => ?_)
  subst hQ
  exact rv hx hb hr hlocks hK hP hD hS dX0_letWaterIn_18 (rfl)

abbrev rmX0_levelAt : Room := { frames := 1, cells := 0, slots := 0, locals := 21 }
theorem b_X0_levelAt : Cond.instanceMethod yX0_levelAt ∈ LW ∧ Cond.selects RX0 yX0_levelAt yX0_levelAt ∈ LW ∧ Cond.initialized RX0 ∈ LW ∧ Cond.code yX0_levelAt cX0_levelAt 2 (some .int) ∈ LW := ⟨q284, q285, q10, q286⟩
set_option maxHeartbeats 4000000 in
set_option maxRecDepth 100000 in
theorem c_X0_levelAt (l : Launch) (D : va_G) (cI cZ cL : ClassId) {n k : Nat} (h : Nat) (a : Nat → Nat) (σ : Sg) (hst : Shp n k σ) (j : Nat) (hj : j < n) : MC l yX0_levelAt cX0_levelAt 2 (some .int) rmX0_levelAt D (tZ cI cZ cL) [.ref h, .int (nI j)] (mC cI cZ h a σ) (mC cI cZ h a σ) (some (.int (σ 0 j + σ 2 j))) := by
  refine MC.of (by decide) (Nat.le_of_ble_eq_true rfl) ?_
  intro p e s m args below meth c A ls Q hx hb hml hr hts hown hlocks hA hP hD hK hS hl hQ
  have hown : s.vm.findClass RX0 = some m.cls := hown
  have hn10 := hst.1
  have hk16 := hst.2.1
  have hl : lv_has ls 2 [(0, .ref h), (1, .int (nI j))] := hl
  refine lv_aload_n hx hb dX0_levelAt_0 rfl (lv_at hl 0 rfl) ?_
  refine lv_iload_n hx hb dX0_levelAt_1 rfl (lv_at hl 1 rfl) ?_
  refine MC.callV (C := RX0) (T := TX0) (N := 16) (As := [.int (nI j)]) (rest := []) (wB := mC cI cZ h a σ) (c_X0_hasField l D cI cZ cL h a σ (nI j) 1 (hasF_0 (hst) (hj))) ⟨hx, hb, hml, hown, hts⟩ q200 b_X0_hasField (n := 1) (by decide +kernel) ⟨Nat.le_of_ble_eq_true rfl, Nat.le_of_ble_eq_true rfl⟩ hK hP hD hS hA (sp0 _) (sp0 _) (ci := 0) rfl (q0 := 0) rfl rfl hl.1 rfl (Nat.le_of_ble_eq_true rfl) dX0_levelAt_2 ⟨Nat.le_of_ble_eq_true rfl, Nat.le_of_ble_eq_true rfl⟩ (fun H locs hP hD hS => ?_)
  refine lv_if_eq (tgt := 24) hx hb dX0_levelAt_5 (by decide) (fun z => absurd z (by decide)) (fun c_5 => ?_)
  refine lv_aload_n hx hb dX0_levelAt_8 rfl (lv_at hl 0 rfl) ?_
  refine x_get (C := RX0) (T := TX0) (N := 16) hx hb hts in_wsX00 hown hK hP 0 rfl rfl 0 (by decide) q34 (v := .ref (a 0)) rfl dX0_levelAt_9 ?_
  refine lv_iload_n hx hb dX0_levelAt_12 rfl (lv_at hl 1 rfl) ?_
  refine x_ild hx hb hK hP 1 0 rfl rfl j (rfl) (by omega) (by decide) (v := σ 0 j) rfl dX0_levelAt_13 ?_
  refine lv_aload_n hx hb dX0_levelAt_14 rfl (lv_at hl 0 rfl) ?_
  refine x_get (C := RX0) (T := TX0) (N := 16) hx hb hts in_wsX00 hown hK hP 0 rfl rfl 2 (by decide) q36 (v := .ref (a 2)) rfl dX0_levelAt_15 ?_
  refine lv_iload_n hx hb dX0_levelAt_18 rfl (lv_at hl 1 rfl) ?_
  refine x_ild hx hb hK hP 3 0 rfl rfl j (rfl) (by omega) (by decide) (v := σ 2 j) rfl dX0_levelAt_19 ?_
  refine lv_iadd hx hb dX0_levelAt_20 ?_
  refine lv_goto (tgt := 25) hx hb dX0_levelAt_21 (by decide) ?_
  subst hQ
  exact ri hx hb hr hlocks hK hP hD hS dX0_levelAt_25 (rfl) (rfl)

abbrev rmX0_isWet : Room := { frames := 1, cells := 0, slots := 0, locals := 21 }
theorem b_X0_isWet : Cond.instanceMethod yX0_isWet ∈ LW ∧ Cond.selects RX0 yX0_isWet yX0_isWet ∈ LW ∧ Cond.initialized RX0 ∈ LW ∧ Cond.code yX0_isWet cX0_isWet 2 (some .boolean) ∈ LW := ⟨q223, q224, q10, q225⟩
set_option maxHeartbeats 4000000 in
set_option maxRecDepth 100000 in
theorem c_X0_isWet (l : Launch) (D : va_G) (cI cZ cL : ClassId) {n k : Nat} (h : Nat) (a : Nat → Nat) (σ : Sg) (hst : Shp n k σ) (j : Nat) (hj : j < n) : MC l yX0_isWet cX0_isWet 2 (some .boolean) rmX0_isWet D (tZ cI cZ cL) [.ref h, .int (nI j)] (mC cI cZ h a σ) (mC cI cZ h a σ) (some (.int (isW σ j))) := by
  refine MC.of (by decide) (Nat.le_of_ble_eq_true rfl) ?_
  intro p e s m args below meth c A ls Q hx hb hml hr hts hown hlocks hA hP hD hK hS hl hQ
  have hown : s.vm.findClass RX0 = some m.cls := hown
  have hn10 := hst.1
  have hk16 := hst.2.1
  have hl : lv_has ls 2 [(0, .ref h), (1, .int (nI j))] := hl
  refine lv_aload_n hx hb dX0_isWet_0 rfl (lv_at hl 0 rfl) ?_
  refine lv_iload_n hx hb dX0_isWet_1 rfl (lv_at hl 1 rfl) ?_
  refine MC.callV (C := RX0) (T := TX0) (N := 16) (As := [.int (nI j)]) (rest := []) (wB := mC cI cZ h a σ) (c_X0_hasField l D cI cZ cL h a σ (nI j) 1 (hasF_0 (hst) (hj))) ⟨hx, hb, hml, hown, hts⟩ q200 b_X0_hasField (n := 1) (by decide +kernel) ⟨Nat.le_of_ble_eq_true rfl, Nat.le_of_ble_eq_true rfl⟩ hK hP hD hS hA (sp0 _) (sp0 _) (ci := 0) rfl (q0 := 0) rfl rfl hl.1 rfl (Nat.le_of_ble_eq_true rfl) dX0_isWet_2 ⟨Nat.le_of_ble_eq_true rfl, Nat.le_of_ble_eq_true rfl⟩ (fun H locs hP hD hS => ?_)
  refine lv_if_eq (tgt := 22) hx hb dX0_isWet_5 (by decide) (fun z => absurd z (by decide)) (fun c_5 => ?_)
  refine lv_aload_n hx hb dX0_isWet_8 rfl (lv_at hl 0 rfl) ?_
  refine x_get (C := RX0) (T := TX0) (N := 16) hx hb hts in_wsX00 hown hK hP 0 rfl rfl 2 (by decide) q36 (v := .ref (a 2)) rfl dX0_isWet_9 ?_
  refine lv_iload_n hx hb dX0_isWet_12 rfl (lv_at hl 1 rfl) ?_
  refine x_ild hx hb hK hP 3 0 rfl rfl j (rfl) (by omega) (by decide) (v := σ 2 j) rfl dX0_isWet_13 ?_
  refine lv_iconst (v := 4) hx hb dX0_isWet_14 (by decide) ?_
  refine lv_icmp_lt (tgt := 22) hx hb dX0_isWet_15 (by decide) (fun c_15 => ?_) (fun c_15 => ?_)
  · refine lv_iconst (v := 0) hx hb dX0_isWet_22 (by decide) ?_
    subst hQ
    exact rz hx hb hr hlocks hK hP hD hS dX0_isWet_23 (by decide) (rfl) (by unfold isW; rw [if_neg (Int32.not_le.mpr c_15)])
  · refine lv_iconst (v := 1) hx hb dX0_isWet_18 (by decide) ?_
    refine lv_goto (tgt := 23) hx hb dX0_isWet_19 (by decide) ?_
    subst hQ
    exact rz hx hb hr hlocks hK hP hD hS dX0_isWet_23 (by decide) (rfl) (by unfold isW; rw [if_pos (Int32.not_lt.mp c_15)])

abbrev rmX0_countRuined : Room := { frames := 0, cells := 0, slots := 0, locals := 0 }
theorem b_X0_countRuined : Cond.instanceMethod yX0_countRuined ∈ LW ∧ Cond.selects RX0 yX0_countRuined yX0_countRuined ∈ LW ∧ Cond.initialized RX0 ∈ LW ∧ Cond.code yX0_countRuined cX0_countRuined 3 (some .int) ∈ LW := ⟨q181, q182, q10, q183⟩
set_option maxHeartbeats 4000000 in
set_option maxRecDepth 100000 in
theorem c_X0_countRuined (l : Launch) (D : va_G) (cI cZ cL : ClassId) {n k : Nat} (h : Nat) (a : Nat → Nat) (σ : Sg) (hst : Shp n k σ) : MC l yX0_countRuined cX0_countRuined 3 (some .int) rmX0_countRuined D (tZ cI cZ cL) [.ref h] (mC cI cZ h a σ) (mC cI cZ h a σ) (some (.int (ruinN σ))) := by
  refine MC.of (by decide) (Nat.le_of_ble_eq_true rfl) ?_
  intro p e s m args below meth c A ls Q hx hb hml hr hts hown hlocks hA hP hD hK hS hl hQ
  have hown : s.vm.findClass RX0 = some m.cls := hown
  have hn10 := hst.1
  have hk16 := hst.2.1
  have hl : lv_has ls 3 [(0, .ref h)] := hl
  refine lv_iconst (v := 0) hx hb dX0_countRuined_0 (by decide) ?_
  refine lv_istore_n (lv' := [(1, .int 0), (0, .ref h)]) hx hb dX0_countRuined_1 rfl hl (by decide) rfl (fun ls hl => ?_)
  refine lv_iconst (v := 0) hx hb dX0_countRuined_2 (by decide) ?_
  refine lv_istore_n (lv' := [(2, .int 0), (1, .int 0), (0, .ref h)]) hx hb dX0_countRuined_3 rfl hl (by decide) rfl (fun ls hl => ?_)
  have hl : lv_has ls 3 [(2, .int (nI 0)), (1, .int (sumI (fun f => if σ 4 f = 0 then 0 else 1) 0)), (0, .ref h)] := hl
  have L4 : ∀ (f i : Nat), i ≤ n → n < i + f → ∀ (H : Heap) (locs : List Loc) (ls : Array Slot), va_P D vwCl (mC cI cZ h a σ) H → va_D A (mC cI cZ h a σ) → va_S A s.heap H locs → lv_has ls 3 [(0, .ref h), (1, .int (sumI (fun f => if σ 4 f = 0 then 0 else 1) i)), (2, .int (nI i))] → W p l e rmX0_countRuined s m args below meth c H locs 0 0 Q (F0 m 4 ls []) := by
    intro f
    induction f with
    | zero => intro i h1 h2; exact absurd h2 (by omega)
    | succ f ih_4 =>
      intro i hi_4 hf_4 H locs ls hP hD hS hl
      refine lv_iload_n hx hb dX0_countRuined_4 rfl (lv_at hl 2 rfl) ?_
      refine lv_aload_n hx hb dX0_countRuined_5 rfl (lv_at hl 0 rfl) ?_
      refine x_get (C := RX0) (T := TX0) (N := 16) hx hb hts in_wsX00 hown hK hP 0 rfl rfl 11 (by decide) q53 (v := .int (nI n)) (congrArg (fun z => some (Value.int z)) (hst.f0)) dX0_countRuined_6 ?_
      refine lv_icmp_ge (tgt := 30) hx hb dX0_countRuined_9 (by decide) (fun c_9 => ?_) (fun c_9 => ?_)
      · have hc_9 : n ≤ i := (nI_leI (a := n) (b := i) (by omega) (by omega)).mp c_9
        refine lv_iload_n hx hb dX0_countRuined_30 rfl (lv_at hl 1 rfl) ?_
        subst hQ
        exact ri hx hb hr hlocks hK hP hD hS dX0_countRuined_31 (rfl) (by unfold ruinN; rw [hst.eF, show i = n by omega])
      · have hc_9 : i < n := Nat.not_le.mp (fun z => c_9 ((nI_leI (a := n) (b := i) (by omega) (by omega)).mpr z))
        refine lv_aload_n hx hb dX0_countRuined_12 rfl (lv_at hl 0 rfl) ?_
        refine x_get (C := RX0) (T := TX0) (N := 16) hx hb hts in_wsX00 hown hK hP 0 rfl rfl 4 (by decide) q40 (v := .ref (a 4)) rfl dX0_countRuined_13 ?_
        refine lv_iload_n hx hb dX0_countRuined_16 rfl (lv_at hl 2 rfl) ?_
        refine x_zld hx hb hK hP 5 1 rfl rfl i (rfl) (by omega) (by decide) (v := σ 4 i) rfl dX0_countRuined_17 ?_
        refine lv_if_eq (tgt := 24) hx hb dX0_countRuined_18 (by decide) (fun c_18 => ?_) (fun c_18 => ?_)
        · refine lv_iinc (v := (nI (i + 1))) (lv' := [(2, .int (nI (i + 1))), (0, .ref h), (1, .int (sumI (fun f => if σ 4 f = 0 then 0 else 1) i))]) hx hb dX0_countRuined_24 hl (k := 2) rfl (nI_add i 1) (by decide) rfl (fun ls hl => ?_)
          refine lv_goto (tgt := 4) hx hb dX0_countRuined_27 (by decide) ?_
          have e8 : sumI (fun f => if σ 4 f = 0 then 0 else 1) i = sumI (fun f => if σ 4 f = 0 then 0 else 1) (i + 1) := by
            show _ = sumI (fun f => if σ 4 f = 0 then 0 else 1) i + (if σ 4 i = 0 then 0 else 1)
            rw [if_pos c_18, Int32.add_zero]
          rw [e8] at hl
          exact ih_4 (i + 1) (by omega) (by omega) _ _ _ hP hD hS (lv_sub hl [1, 2, 0] rfl)
        · refine lv_iinc (v := sumI (fun f => if σ 4 f = 0 then 0 else 1) i + 1) (lv' := [(1, .int (sumI (fun f => if σ 4 f = 0 then 0 else 1) i + 1)), (0, .ref h), (2, .int (nI i))]) hx hb dX0_countRuined_21 hl (k := 1) rfl (rfl) (by decide) rfl (fun ls hl => ?_)
          refine lv_iinc (v := (nI (i + 1))) (lv' := [(2, .int (nI (i + 1))), (1, .int (sumI (fun f => if σ 4 f = 0 then 0 else 1) i + 1)), (0, .ref h)]) hx hb dX0_countRuined_24 hl (k := 2) rfl (nI_add i 1) (by decide) rfl (fun ls hl => ?_)
          refine lv_goto (tgt := 4) hx hb dX0_countRuined_27 (by decide) ?_
          have e8 : sumI (fun f => if σ 4 f = 0 then 0 else 1) i + 1 = sumI (fun f => if σ 4 f = 0 then 0 else 1) (i + 1) := by
            show _ = sumI (fun f => if σ 4 f = 0 then 0 else 1) i + (if σ 4 i = 0 then 0 else 1)
            rw [if_neg c_18]
          rw [e8] at hl
          exact ih_4 (i + 1) (by omega) (by omega) _ _ _ hP hD hS (lv_sub hl [2, 1, 0] rfl)
  exact L4 (n + 1) 0 (by omega) (by omega) _ _ _ hP hD hS (lv_sub hl [2, 1, 0] rfl)

abbrev rmX0_lostWorth : Room := { frames := 0, cells := 0, slots := 0, locals := 0 }
theorem b_X0_lostWorth : Cond.instanceMethod yX0_lostWorth ∈ LW ∧ Cond.selects RX0 yX0_lostWorth yX0_lostWorth ∈ LW ∧ Cond.initialized RX0 ∈ LW ∧ Cond.code yX0_lostWorth cX0_lostWorth 3 (some .int) ∈ LW := ⟨q251, q252, q10, q253⟩
set_option maxHeartbeats 4000000 in
set_option maxRecDepth 100000 in
theorem c_X0_lostWorth (l : Launch) (D : va_G) (cI cZ cL : ClassId) {n k : Nat} (h : Nat) (a : Nat → Nat) (σ : Sg) (hst : Shp n k σ) : MC l yX0_lostWorth cX0_lostWorth 3 (some .int) rmX0_lostWorth D (tZ cI cZ cL) [.ref h] (mC cI cZ h a σ) (mC cI cZ h a σ) (some (.int (lost σ))) := by
  refine MC.of (by decide) (Nat.le_of_ble_eq_true rfl) ?_
  intro p e s m args below meth c A ls Q hx hb hml hr hts hown hlocks hA hP hD hK hS hl hQ
  have hown : s.vm.findClass RX0 = some m.cls := hown
  have hn10 := hst.1
  have hk16 := hst.2.1
  have hl : lv_has ls 3 [(0, .ref h)] := hl
  refine lv_iconst (v := 0) hx hb dX0_lostWorth_0 (by decide) ?_
  refine lv_istore_n (lv' := [(1, .int 0), (0, .ref h)]) hx hb dX0_lostWorth_1 rfl hl (by decide) rfl (fun ls hl => ?_)
  refine lv_iconst (v := 0) hx hb dX0_lostWorth_2 (by decide) ?_
  refine lv_istore_n (lv' := [(2, .int 0), (1, .int 0), (0, .ref h)]) hx hb dX0_lostWorth_3 rfl hl (by decide) rfl (fun ls hl => ?_)
  have hl : lv_has ls 3 [(2, .int (nI 0)), (1, .int (sumI (fun f => if σ 4 f = 0 then 0 else σ 1 f) 0)), (0, .ref h)] := hl
  have L4 : ∀ (f i : Nat), i ≤ n → n < i + f → ∀ (H : Heap) (locs : List Loc) (ls : Array Slot), va_P D vwCl (mC cI cZ h a σ) H → va_D A (mC cI cZ h a σ) → va_S A s.heap H locs → lv_has ls 3 [(0, .ref h), (1, .int (sumI (fun f => if σ 4 f = 0 then 0 else σ 1 f) i)), (2, .int (nI i))] → W p l e rmX0_lostWorth s m args below meth c H locs 0 0 Q (F0 m 4 ls []) := by
    intro f
    induction f with
    | zero => intro i h1 h2; exact absurd h2 (by omega)
    | succ f ih_4 =>
      intro i hi_4 hf_4 H locs ls hP hD hS hl
      refine lv_iload_n hx hb dX0_lostWorth_4 rfl (lv_at hl 2 rfl) ?_
      refine lv_aload_n hx hb dX0_lostWorth_5 rfl (lv_at hl 0 rfl) ?_
      refine x_get (C := RX0) (T := TX0) (N := 16) hx hb hts in_wsX00 hown hK hP 0 rfl rfl 11 (by decide) q53 (v := .int (nI n)) (congrArg (fun z => some (Value.int z)) (hst.f0)) dX0_lostWorth_6 ?_
      refine lv_icmp_ge (tgt := 36) hx hb dX0_lostWorth_9 (by decide) (fun c_9 => ?_) (fun c_9 => ?_)
      · have hc_9 : n ≤ i := (nI_leI (a := n) (b := i) (by omega) (by omega)).mp c_9
        refine lv_iload_n hx hb dX0_lostWorth_36 rfl (lv_at hl 1 rfl) ?_
        subst hQ
        exact ri hx hb hr hlocks hK hP hD hS dX0_lostWorth_37 (rfl) (by unfold lost; rw [hst.eF, show i = n by omega])
      · have hc_9 : i < n := Nat.not_le.mp (fun z => c_9 ((nI_leI (a := n) (b := i) (by omega) (by omega)).mpr z))
        refine lv_aload_n hx hb dX0_lostWorth_12 rfl (lv_at hl 0 rfl) ?_
        refine x_get (C := RX0) (T := TX0) (N := 16) hx hb hts in_wsX00 hown hK hP 0 rfl rfl 4 (by decide) q40 (v := .ref (a 4)) rfl dX0_lostWorth_13 ?_
        refine lv_iload_n hx hb dX0_lostWorth_16 rfl (lv_at hl 2 rfl) ?_
        refine x_zld hx hb hK hP 5 1 rfl rfl i (rfl) (by omega) (by decide) (v := σ 4 i) rfl dX0_lostWorth_17 ?_
        refine lv_if_eq (tgt := 30) hx hb dX0_lostWorth_18 (by decide) (fun c_18 => ?_) (fun c_18 => ?_)
        · refine lv_iinc (v := (nI (i + 1))) (lv' := [(2, .int (nI (i + 1))), (0, .ref h), (1, .int (sumI (fun f => if σ 4 f = 0 then 0 else σ 1 f) i))]) hx hb dX0_lostWorth_30 hl (k := 2) rfl (nI_add i 1) (by decide) rfl (fun ls hl => ?_)
          refine lv_goto (tgt := 4) hx hb dX0_lostWorth_33 (by decide) ?_
          have e8 : sumI (fun f => if σ 4 f = 0 then 0 else σ 1 f) i = sumI (fun f => if σ 4 f = 0 then 0 else σ 1 f) (i + 1) := by
            show _ = sumI (fun f => if σ 4 f = 0 then 0 else σ 1 f) i + (if σ 4 i = 0 then 0 else σ 1 i)
            rw [if_pos c_18, Int32.add_zero]
          rw [e8] at hl
          exact ih_4 (i + 1) (by omega) (by omega) _ _ _ hP hD hS (lv_sub hl [1, 2, 0] rfl)
        · refine lv_iload_n hx hb dX0_lostWorth_21 rfl (lv_at hl 1 rfl) ?_
          refine lv_aload_n hx hb dX0_lostWorth_22 rfl (lv_at hl 0 rfl) ?_
          refine x_get (C := RX0) (T := TX0) (N := 16) hx hb hts in_wsX00 hown hK hP 0 rfl rfl 1 (by decide) q35 (v := .ref (a 1)) rfl dX0_lostWorth_23 ?_
          refine lv_iload_n hx hb dX0_lostWorth_26 rfl (lv_at hl 2 rfl) ?_
          refine x_ild hx hb hK hP 2 0 rfl rfl i (rfl) (by omega) (by decide) (v := σ 1 i) rfl dX0_lostWorth_27 ?_
          refine lv_iadd hx hb dX0_lostWorth_28 ?_
          refine lv_topi (fun v_1 ev_1 => ?_)
          refine lv_istore_n (lv' := [(1, .int v_1), (0, .ref h), (2, .int (nI i))]) hx hb dX0_lostWorth_29 rfl hl (by decide) rfl (fun ls hl => ?_)
          refine lv_iinc (v := (nI (i + 1))) (lv' := [(2, .int (nI (i + 1))), (1, .int v_1), (0, .ref h)]) hx hb dX0_lostWorth_30 hl (k := 2) rfl (nI_add i 1) (by decide) rfl (fun ls hl => ?_)
          refine lv_goto (tgt := 4) hx hb dX0_lostWorth_33 (by decide) ?_
          have e8 : v_1 = sumI (fun f => if σ 4 f = 0 then 0 else σ 1 f) (i + 1) := by
            rw [ev_1]
            show _ = sumI (fun f => if σ 4 f = 0 then 0 else σ 1 f) i + (if σ 4 i = 0 then 0 else σ 1 i)
            rw [if_neg c_18]
          rw [e8] at hl
          exact ih_4 (i + 1) (by omega) (by omega) _ _ _ hP hD hS (lv_sub hl [2, 1, 0] rfl)
  exact L4 (n + 1) 0 (by omega) (by omega) _ _ _ hP hD hS (lv_sub hl [2, 1, 0] rfl)

abbrev rmX0_flowNow : Room := { frames := 1, cells := 0, slots := 0, locals := 60 }
theorem b_X0_flowNow : Cond.instanceMethod yX0_flowNow ∈ LW ∧ Cond.selects RX0 yX0_flowNow yX0_flowNow ∈ LW ∧ Cond.initialized RX0 ∈ LW ∧ Cond.code yX0_flowNow cX0_flowNow 5 (some .int) ∈ LW := ⟨q193, q194, q10, q195⟩
set_option maxHeartbeats 4000000 in
set_option maxRecDepth 100000 in
theorem c_X0_flowNow (l : Launch) (D : va_G) (cI cZ cL : ClassId) {n k : Nat} (h : Nat) (a : Nat → Nat) (σ : Sg) (hst : Shp n k σ) (j : Nat) (hj : j < k) : MC l yX0_flowNow cX0_flowNow 5 (some .int) rmX0_flowNow D (tZ cI cZ cL) [.ref h, .int (nI j)] (mC cI cZ h a σ) (mC cI cZ h a σ) (some (.int (flow σ j))) := by
  refine MC.of (by decide) (Nat.le_of_ble_eq_true rfl) ?_
  intro p e s m args below meth c A ls Q hx hb hml hr hts hown hlocks hA hP hD hK hS hl hQ
  have hown : s.vm.findClass RX0 = some m.cls := hown
  have hn10 := hst.1
  have hk16 := hst.2.1
  obtain ⟨a0, ha0, ea0⟩ := hst.2.2.2.2.1 j hj
  have hl : lv_has ls 5 [(0, .ref h), (1, .int (nI j))] := hl
  refine lv_aload_n hx hb dX0_flowNow_0 rfl (lv_at hl 0 rfl) ?_
  refine lv_iload_n hx hb dX0_flowNow_1 rfl (lv_at hl 1 rfl) ?_
  refine MC.callV (C := RX0) (T := TX0) (N := 16) (As := [.int (nI j)]) (rest := []) (wB := mC cI cZ h a σ) (c_X0_hasDrain l D cI cZ cL h a σ (nI j) 1 (hasF_1 (hst) (hj))) ⟨hx, hb, hml, hown, hts⟩ q196 b_X0_hasDrain (n := 1) (by decide +kernel) ⟨Nat.le_of_ble_eq_true rfl, Nat.le_of_ble_eq_true rfl⟩ hK hP hD hS hA (sp0 _) (sp0 _) (ci := 0) rfl (q0 := 0) rfl rfl hl.1 rfl (Nat.le_of_ble_eq_true rfl) dX0_flowNow_2 ⟨Nat.le_of_ble_eq_true rfl, Nat.le_of_ble_eq_true rfl⟩ (fun H locs hP hD hS => ?_)
  refine lv_if_eq (tgt := 30) hx hb dX0_flowNow_5 (by decide) (fun z => absurd z (by decide)) (fun c_5 => ?_)
  refine lv_aload_n hx hb dX0_flowNow_8 rfl (lv_at hl 0 rfl) ?_
  refine x_get (C := RX0) (T := TX0) (N := 16) hx hb hts in_wsX00 hown hK hP 0 rfl rfl 10 (by decide) q51 (v := .ref (a 10)) rfl dX0_flowNow_9 ?_
  refine lv_iload_n hx hb dX0_flowNow_12 rfl (lv_at hl 1 rfl) ?_
  refine x_zld hx hb hK hP 11 1 rfl rfl j (rfl) (by omega) (by decide) (v := σ 10 j) rfl dX0_flowNow_13 ?_
  refine lv_if_eq (tgt := 30) hx hb dX0_flowNow_14 (by decide) (fun c_14 => ?_) (fun c_14 => ?_)
  · refine lv_iconst (v := 0) hx hb dX0_flowNow_30 (by decide) ?_
    subst hQ
    exact ri hx hb hr hlocks hK hP hD hS dX0_flowNow_31 (rfl) (by unfold flow flA; rw [if_pos c_14])
  · refine lv_aload_n hx hb dX0_flowNow_17 rfl (lv_at hl 0 rfl) ?_
    refine lv_aload_n hx hb dX0_flowNow_18 rfl (lv_at hl 0 rfl) ?_
    refine x_get (C := RX0) (T := TX0) (N := 16) hx hb hts in_wsX00 hown hK hP 0 rfl rfl 5 (by decide) q42 (v := .ref (a 5)) rfl dX0_flowNow_19 ?_
    refine lv_iload_n hx hb dX0_flowNow_22 rfl (lv_at hl 1 rfl) ?_
    refine x_ild hx hb hK hP 6 0 rfl rfl j (rfl) (by omega) (by decide) (v := (nI a0)) (ea0) dX0_flowNow_23 ?_
    refine MC.callV (C := RX0) (T := TX0) (N := 16) (As := [.int (nI a0)]) (rest := []) (wB := mC cI cZ h a σ) (c_X0_hasField l D cI cZ cL h a σ (nI a0) 1 (hasF_0 (hst) (ha0))) ⟨hx, hb, hml, hown, hts⟩ q200 b_X0_hasField (n := 1) (by decide +kernel) ⟨Nat.le_of_ble_eq_true rfl, Nat.le_of_ble_eq_true rfl⟩ hK hP hD hS hA (sp0 _) (sp0 _) (ci := 0) rfl (q0 := 0) rfl rfl hl.1 rfl (Nat.le_of_ble_eq_true rfl) dX0_flowNow_24 ⟨Nat.le_of_ble_eq_true rfl, Nat.le_of_ble_eq_true rfl⟩ (fun H locs hP hD hS => ?_)
    refine lv_if_ne (tgt := 32) hx hb dX0_flowNow_27 (by decide) (fun c_27 => ?_) (fun z => absurd z (by decide))
    refine lv_aload_n hx hb dX0_flowNow_32 rfl (lv_at hl 0 rfl) ?_
    refine x_get (C := RX0) (T := TX0) (N := 16) hx hb hts in_wsX00 hown hK hP 0 rfl rfl 5 (by decide) q42 (v := .ref (a 5)) rfl dX0_flowNow_33 ?_
    refine lv_iload_n hx hb dX0_flowNow_36 rfl (lv_at hl 1 rfl) ?_
    refine x_ild hx hb hK hP 6 0 rfl rfl j (rfl) (by omega) (by decide) (v := (nI a0)) (ea0) dX0_flowNow_37 ?_
    refine lv_istore_n (lv' := [(2, .int (nI a0)), (0, .ref h), (1, .int (nI j))]) hx hb dX0_flowNow_38 rfl hl (by decide) rfl (fun ls hl => ?_)
    refine lv_aload_n hx hb dX0_flowNow_39 rfl (lv_at hl 1 rfl) ?_
    refine x_get (C := RX0) (T := TX0) (N := 16) hx hb hts in_wsX00 hown hK hP 0 rfl rfl 6 (by decide) q44 (v := .ref (a 6)) rfl dX0_flowNow_40 ?_
    refine lv_iload_n hx hb dX0_flowNow_43 rfl (lv_at hl 2 rfl) ?_
    refine x_ild hx hb hK hP 7 0 rfl rfl j (rfl) (by omega) (by decide) (v := σ 6 j) rfl dX0_flowNow_44 ?_
    refine lv_istore_n (lv' := [(3, .int (σ 6 j)), (2, .int (nI a0)), (0, .ref h), (1, .int (nI j))]) hx hb dX0_flowNow_45 rfl hl (by decide) rfl (fun ls hl => ?_)
    refine lv_aload_n hx hb dX0_flowNow_46 rfl (lv_at hl 2 rfl) ?_
    refine x_get (C := RX0) (T := TX0) (N := 16) hx hb hts in_wsX00 hown hK hP 0 rfl rfl 9 (by decide) q49 (v := .ref (a 9)) rfl dX0_flowNow_47 ?_
    refine lv_iload_n hx hb dX0_flowNow_50 rfl (lv_at hl 3 rfl) ?_
    refine x_zld hx hb hK hP 10 1 rfl rfl j (rfl) (by omega) (by decide) (v := σ 9 j) rfl dX0_flowNow_51 ?_
    refine lv_if_eq (tgt := 71) hx hb dX0_flowNow_52 (by decide) (fun c_52 => ?_) (fun c_52 => ?_)
    · obtain ⟨b0, hb0, eb0⟩ : ∃ b, b < n ∧ σ 6 j = nI b := by
        rcases hst.2.2.2.2.2 j hj with q | q
        · exact absurd c_52 q.2
        · exact q
      rw [eb0] at hl
      refine lv_aload_n hx hb dX0_flowNow_71 rfl (lv_at hl 2 rfl) ?_
      refine lv_iload_n hx hb dX0_flowNow_72 rfl (lv_at hl 0 rfl) ?_
      refine MC.callV (C := RX0) (T := TX0) (N := 16) (As := [.int (nI b0)]) (rest := []) (wB := mC cI cZ h a σ) (c_X0_hasField l D cI cZ cL h a σ (nI b0) 1 (hasF_0 (hst) (hb0))) ⟨hx, hb, hml, hown, hts⟩ q200 b_X0_hasField (n := 1) (by decide +kernel) ⟨Nat.le_of_ble_eq_true rfl, Nat.le_of_ble_eq_true rfl⟩ hK hP hD hS hA (sp0 _) (sp0 _) (ci := 0) rfl (q0 := 0) rfl rfl hl.1 rfl (Nat.le_of_ble_eq_true rfl) dX0_flowNow_73 ⟨Nat.le_of_ble_eq_true rfl, Nat.le_of_ble_eq_true rfl⟩ (fun H locs hP hD hS => ?_)
      refine lv_if_ne (tgt := 81) hx hb dX0_flowNow_76 (by decide) (fun c_76 => ?_) (fun z => absurd z (by decide))
      refine lv_aload_n hx hb dX0_flowNow_81 rfl (lv_at hl 2 rfl) ?_
      refine x_get (C := RX0) (T := TX0) (N := 16) hx hb hts in_wsX00 hown hK hP 0 rfl rfl 0 (by decide) q34 (v := .ref (a 0)) rfl dX0_flowNow_82 ?_
      refine lv_iload_n hx hb dX0_flowNow_85 rfl (lv_at hl 1 rfl) ?_
      refine x_ild hx hb hK hP 1 0 rfl rfl a0 (rfl) (by omega) (by decide) (v := σ 0 a0) rfl dX0_flowNow_86 ?_
      refine lv_aload_n hx hb dX0_flowNow_87 rfl (lv_at hl 2 rfl) ?_
      refine x_get (C := RX0) (T := TX0) (N := 16) hx hb hts in_wsX00 hown hK hP 0 rfl rfl 2 (by decide) q36 (v := .ref (a 2)) rfl dX0_flowNow_88 ?_
      refine lv_iload_n hx hb dX0_flowNow_91 rfl (lv_at hl 1 rfl) ?_
      refine x_ild hx hb hK hP 3 0 rfl rfl a0 (rfl) (by omega) (by decide) (v := σ 2 a0) rfl dX0_flowNow_92 ?_
      refine lv_iadd hx hb dX0_flowNow_93 ?_
      refine lv_aload_n hx hb dX0_flowNow_94 rfl (lv_at hl 2 rfl) ?_
      refine x_get (C := RX0) (T := TX0) (N := 16) hx hb hts in_wsX00 hown hK hP 0 rfl rfl 0 (by decide) q34 (v := .ref (a 0)) rfl dX0_flowNow_95 ?_
      refine lv_iload_n hx hb dX0_flowNow_98 rfl (lv_at hl 0 rfl) ?_
      refine x_ild hx hb hK hP 1 0 rfl rfl b0 (rfl) (by omega) (by decide) (v := σ 0 b0) rfl dX0_flowNow_99 ?_
      refine lv_isub hx hb dX0_flowNow_100 ?_
      refine lv_aload_n hx hb dX0_flowNow_101 rfl (lv_at hl 2 rfl) ?_
      refine x_get (C := RX0) (T := TX0) (N := 16) hx hb hts in_wsX00 hown hK hP 0 rfl rfl 2 (by decide) q36 (v := .ref (a 2)) rfl dX0_flowNow_102 ?_
      refine lv_iload_n hx hb dX0_flowNow_105 rfl (lv_at hl 0 rfl) ?_
      refine x_ild hx hb hK hP 3 0 rfl rfl b0 (rfl) (by omega) (by decide) (v := σ 2 b0) rfl dX0_flowNow_106 ?_
      refine lv_isub hx hb dX0_flowNow_107 ?_
      refine lv_iconst (v := 2) hx hb dX0_flowNow_108 (by decide) ?_
      refine lv_idiv hx hb dX0_flowNow_109 (by decide) ?_
      refine lv_topi (fun v_1 ev_1 => ?_)
      refine lv_istore (lv' := [(4, .int v_1), (3, .int (nI b0)), (2, .int (nI a0)), (0, .ref h), (1, .int (nI j))]) hx hb dX0_flowNow_110 hl (by decide) rfl (fun ls hl => ?_)
      refine lv_iload hx hb dX0_flowNow_112 (lv_at hl 0 rfl) ?_
      refine lv_if_lt (tgt := 138) hx hb dX0_flowNow_114 (by decide) (fun c_114 => ?_) (fun c_114 => ?_)
      · refine lv_iload hx hb dX0_flowNow_138 (lv_at hl 0 rfl) ?_
        refine lv_ineg hx hb dX0_flowNow_140 ?_
        refine lv_aload_n hx hb dX0_flowNow_141 rfl (lv_at hl 3 rfl) ?_
        refine x_get (C := RX0) (T := TX0) (N := 16) hx hb hts in_wsX00 hown hK hP 0 rfl rfl 7 (by decide) q46 (v := .ref (a 7)) rfl dX0_flowNow_142 ?_
        refine lv_iload_n hx hb dX0_flowNow_145 rfl (lv_at hl 4 rfl) ?_
        refine x_ild hx hb hK hP 8 0 rfl rfl j (rfl) (by omega) (by decide) (v := σ 7 j) rfl dX0_flowNow_146 ?_
        refine lv_aload_n hx hb dX0_flowNow_147 rfl (lv_at hl 3 rfl) ?_
        refine x_get (C := RX0) (T := TX0) (N := 16) hx hb hts in_wsX00 hown hK hP 0 rfl rfl 2 (by decide) q36 (v := .ref (a 2)) rfl dX0_flowNow_148 ?_
        refine lv_iload_n hx hb dX0_flowNow_151 rfl (lv_at hl 1 rfl) ?_
        refine x_ild hx hb hK hP 3 0 rfl rfl b0 (rfl) (by omega) (by decide) (v := σ 2 b0) rfl dX0_flowNow_152 ?_
        refine va_mmin hx hb (by rw [hml]; exact hl.1.symm) hown (hts _ q204) (hts _ q205) (hts _ q18) (hts _ q206) (by decide) (Nat.le_of_ble_eq_true rfl) (Nat.le_of_ble_eq_true rfl) (Nat.le_of_ble_eq_true rfl) dX0_flowNow_153 ?_
        refine x_top (show _ = mn (σ 7 j) (σ 2 b0) from rfl) ?_
        refine va_mmin hx hb (by rw [hml]; exact hl.1.symm) hown (hts _ q204) (hts _ q205) (hts _ q18) (hts _ q206) (by decide) (Nat.le_of_ble_eq_true rfl) (Nat.le_of_ble_eq_true rfl) (Nat.le_of_ble_eq_true rfl) dX0_flowNow_156 ?_
        refine x_top (show _ = mn (-v_1) (mn (σ 7 j) (σ 2 b0)) from rfl) ?_
        refine lv_ineg hx hb dX0_flowNow_159 ?_
        subst hQ
        exact ri hx hb hr hlocks hK hP hD hS dX0_flowNow_160 (rfl) (by rw [ev_1]; unfold flow; rw [ea0, nI_clamp (by omega), eb0, nI_clamp (by omega)]; unfold flA; rw [if_neg c_14, if_neg (fun z => z c_52), if_neg (show ¬ 0 ≤ flH σ a0 b0 by rw [show flH σ a0 b0 = v_1 from ev_1.symm]; exact Int32.not_le.mpr c_114)]; rfl)
      · refine lv_iload hx hb dX0_flowNow_117 (lv_at hl 0 rfl) ?_
        refine lv_aload_n hx hb dX0_flowNow_119 rfl (lv_at hl 3 rfl) ?_
        refine x_get (C := RX0) (T := TX0) (N := 16) hx hb hts in_wsX00 hown hK hP 0 rfl rfl 7 (by decide) q46 (v := .ref (a 7)) rfl dX0_flowNow_120 ?_
        refine lv_iload_n hx hb dX0_flowNow_123 rfl (lv_at hl 4 rfl) ?_
        refine x_ild hx hb hK hP 8 0 rfl rfl j (rfl) (by omega) (by decide) (v := σ 7 j) rfl dX0_flowNow_124 ?_
        refine lv_aload_n hx hb dX0_flowNow_125 rfl (lv_at hl 3 rfl) ?_
        refine x_get (C := RX0) (T := TX0) (N := 16) hx hb hts in_wsX00 hown hK hP 0 rfl rfl 2 (by decide) q36 (v := .ref (a 2)) rfl dX0_flowNow_126 ?_
        refine lv_iload_n hx hb dX0_flowNow_129 rfl (lv_at hl 2 rfl) ?_
        refine x_ild hx hb hK hP 3 0 rfl rfl a0 (rfl) (by omega) (by decide) (v := σ 2 a0) rfl dX0_flowNow_130 ?_
        refine va_mmin hx hb (by rw [hml]; exact hl.1.symm) hown (hts _ q204) (hts _ q205) (hts _ q18) (hts _ q206) (by decide) (Nat.le_of_ble_eq_true rfl) (Nat.le_of_ble_eq_true rfl) (Nat.le_of_ble_eq_true rfl) dX0_flowNow_131 ?_
        refine x_top (show _ = mn (σ 7 j) (σ 2 a0) from rfl) ?_
        refine va_mmin hx hb (by rw [hml]; exact hl.1.symm) hown (hts _ q204) (hts _ q205) (hts _ q18) (hts _ q206) (by decide) (Nat.le_of_ble_eq_true rfl) (Nat.le_of_ble_eq_true rfl) (Nat.le_of_ble_eq_true rfl) dX0_flowNow_134 ?_
        refine x_top (show _ = mn v_1 (mn (σ 7 j) (σ 2 a0)) from rfl) ?_
        subst hQ
        exact ri hx hb hr hlocks hK hP hD hS dX0_flowNow_137 (rfl) (by rw [ev_1]; unfold flow; rw [ea0, nI_clamp (by omega), eb0, nI_clamp (by omega)]; unfold flA; rw [if_neg c_14, if_neg (fun z => z c_52), if_pos (show 0 ≤ flH σ a0 b0 by rw [show flH σ a0 b0 = v_1 from ev_1.symm]; exact Int32.not_lt.mp c_114)]; rfl)
    · refine lv_aload_n hx hb dX0_flowNow_55 rfl (lv_at hl 2 rfl) ?_
      refine x_get (C := RX0) (T := TX0) (N := 16) hx hb hts in_wsX00 hown hK hP 0 rfl rfl 7 (by decide) q46 (v := .ref (a 7)) rfl dX0_flowNow_56 ?_
      refine lv_iload_n hx hb dX0_flowNow_59 rfl (lv_at hl 3 rfl) ?_
      refine x_ild hx hb hK hP 8 0 rfl rfl j (rfl) (by omega) (by decide) (v := σ 7 j) rfl dX0_flowNow_60 ?_
      refine lv_aload_n hx hb dX0_flowNow_61 rfl (lv_at hl 2 rfl) ?_
      refine x_get (C := RX0) (T := TX0) (N := 16) hx hb hts in_wsX00 hown hK hP 0 rfl rfl 2 (by decide) q36 (v := .ref (a 2)) rfl dX0_flowNow_62 ?_
      refine lv_iload_n hx hb dX0_flowNow_65 rfl (lv_at hl 1 rfl) ?_
      refine x_ild hx hb hK hP 3 0 rfl rfl a0 (rfl) (by omega) (by decide) (v := σ 2 a0) rfl dX0_flowNow_66 ?_
      refine va_mmin hx hb (by rw [hml]; exact hl.1.symm) hown (hts _ q204) (hts _ q205) (hts _ q18) (hts _ q206) (by decide) (Nat.le_of_ble_eq_true rfl) (Nat.le_of_ble_eq_true rfl) (Nat.le_of_ble_eq_true rfl) dX0_flowNow_67 ?_
      refine x_top (show _ = mn (σ 7 j) (σ 2 a0) from rfl) ?_
      subst hQ
      exact ri hx hb hr hlocks hK hP hD hS dX0_flowNow_70 (rfl) (by unfold flow; rw [ea0, nI_clamp (by omega)]; unfold flA; rw [if_neg c_14, if_pos c_52])

abbrev rmX0_letFlow : Room := { frames := 2, cells := 0, slots := 0, locals := 60 }
theorem b_X0_letFlow : Cond.instanceMethod yX0_letFlow ∈ LW ∧ Cond.selects RX0 yX0_letFlow yX0_letFlow ∈ LW ∧ Cond.initialized RX0 ∈ LW ∧ Cond.code yX0_letFlow cX0_letFlow 3 none ∈ LW := ⟨q209, q1, q10, q210⟩
set_option maxHeartbeats 4000000 in
set_option maxRecDepth 100000 in
theorem c_X0_letFlow (l : Launch) (D : va_G) (cI cZ cL : ClassId) {n k : Nat} (h : Nat) (a : Nat → Nat) (σ : Sg) (hst : Shp n k σ) (j : Nat) (hj : j < k) (w : Int32) : MC l yX0_letFlow cX0_letFlow 3 none rmX0_letFlow D (tZ cI cZ cL) [.ref h, .int (nI j), .int w] (mC cI cZ h a σ) (mC cI cZ h a (letF j w σ)) (none) := by
  refine MC.of (by decide) (Nat.le_of_ble_eq_true rfl) ?_
  intro p e s m args below meth c A ls Q hx hb hml hr hts hown hlocks hA hP hD hK hS hl hQ
  have hown : s.vm.findClass RX0 = some m.cls := hown
  have hn10 := hst.1
  have hk16 := hst.2.1
  obtain ⟨a0, ha0, ea0⟩ := hst.2.2.2.2.1 j hj
  have hl : lv_has ls 3 [(0, .ref h), (1, .int (nI j)), (2, .int w)] := hl
  refine lv_aload_n hx hb dX0_letFlow_0 rfl (lv_at hl 0 rfl) ?_
  refine lv_iload_n hx hb dX0_letFlow_1 rfl (lv_at hl 1 rfl) ?_
  refine MC.callV (C := RX0) (T := TX0) (N := 16) (As := [.int (nI j)]) (rest := []) (wB := mC cI cZ h a σ) (c_X0_hasDrain l D cI cZ cL h a σ (nI j) 1 (hasF_1 (hst) (hj))) ⟨hx, hb, hml, hown, hts⟩ q196 b_X0_hasDrain (n := 1) (by decide +kernel) ⟨Nat.le_of_ble_eq_true rfl, Nat.le_of_ble_eq_true rfl⟩ hK hP hD hS hA (sp0 _) (sp0 _) (ci := 0) rfl (q0 := 0) rfl rfl hl.1 rfl (Nat.le_of_ble_eq_true rfl) dX0_letFlow_2 ⟨Nat.le_of_ble_eq_true rfl, Nat.le_of_ble_eq_true rfl⟩ (fun H locs hP hD hS => ?_)
  refine lv_if_ne (tgt := 9) hx hb dX0_letFlow_5 (by decide) (fun c_5 => ?_) (fun z => absurd z (by decide))
  refine lv_aload_n hx hb dX0_letFlow_9 rfl (lv_at hl 0 rfl) ?_
  refine lv_aload_n hx hb dX0_letFlow_10 rfl (lv_at hl 0 rfl) ?_
  refine x_get (C := RX0) (T := TX0) (N := 16) hx hb hts in_wsX00 hown hK hP 0 rfl rfl 5 (by decide) q42 (v := .ref (a 5)) rfl dX0_letFlow_11 ?_
  refine lv_iload_n hx hb dX0_letFlow_14 rfl (lv_at hl 1 rfl) ?_
  refine x_ild hx hb hK hP 6 0 rfl rfl j (rfl) (by omega) (by decide) (v := (nI a0)) (ea0) dX0_letFlow_15 ?_
  refine lv_iload_n hx hb dX0_letFlow_16 rfl (lv_at hl 2 rfl) ?_
  refine lv_ineg hx hb dX0_letFlow_17 ?_
  refine MC.callV (C := RX0) (T := TX0) (N := 16) (As := [.int (nI a0), .int (-w)]) (rest := []) (wB := mC cI cZ h a (addW σ a0 (-w))) (c_X0_letWaterIn l D cI cZ cL h a σ (hst) a0 ha0 (-w)) ⟨hx, hb, hml, hown, hts⟩ q211 b_X0_letWaterIn (n := 2) (by decide +kernel) ⟨Nat.le_of_ble_eq_true rfl, Nat.le_of_ble_eq_true rfl⟩ hK hP hD hS hA (sp0 _) (sp0 _) (ci := 0) rfl (q0 := 0) rfl rfl hl.1 rfl (Nat.le_of_ble_eq_true rfl) dX0_letFlow_18 ⟨Nat.le_of_ble_eq_true rfl, Nat.le_of_ble_eq_true rfl⟩ (fun H locs hP hD hS => ?_)
  refine lv_aload_n hx hb dX0_letFlow_21 rfl (lv_at hl 0 rfl) ?_
  refine x_get (C := RX0) (T := TX0) (N := 16) hx hb hts in_wsX00 hown hK hP 0 rfl rfl 6 (by decide) q44 (v := .ref (a 6)) rfl dX0_letFlow_22 ?_
  refine lv_iload_n hx hb dX0_letFlow_25 rfl (lv_at hl 1 rfl) ?_
  refine x_ild hx hb hK hP 7 0 rfl rfl j (rfl) (by omega) (by decide) (v := σ 6 j) rfl dX0_letFlow_26 ?_
  refine lv_iconst (v := (-1)) hx hb dX0_letFlow_27 (by decide) ?_
  refine lv_icmp_ne (tgt := 44) hx hb dX0_letFlow_28 (by decide) (fun c_28 => ?_) (fun c_28 => ?_)
  · obtain ⟨b0, hb0, eb0⟩ : ∃ b, b < n ∧ σ 6 j = nI b := by
      rcases hst.2.2.2.2.2 j hj with q | q
      · exact absurd q.1 c_28
      · exact q
    refine lv_aload_n hx hb dX0_letFlow_44 rfl (lv_at hl 0 rfl) ?_
    refine lv_aload_n hx hb dX0_letFlow_45 rfl (lv_at hl 0 rfl) ?_
    refine x_get (C := RX0) (T := TX0) (N := 16) hx hb hts in_wsX00 hown hK hP 0 rfl rfl 6 (by decide) q44 (v := .ref (a 6)) rfl dX0_letFlow_46 ?_
    refine lv_iload_n hx hb dX0_letFlow_49 rfl (lv_at hl 1 rfl) ?_
    refine x_ild hx hb hK hP 7 0 rfl rfl j (rfl) (by omega) (by decide) (v := (nI b0)) eb0 dX0_letFlow_50 ?_
    refine lv_iload_n hx hb dX0_letFlow_51 rfl (lv_at hl 2 rfl) ?_
    refine MC.callV (C := RX0) (T := TX0) (N := 16) (As := [.int (nI b0), .int w]) (rest := []) (wB := mC cI cZ h a (addW (addW σ a0 (-w)) b0 w)) (c_X0_letWaterIn l D cI cZ cL h a (addW σ a0 (-w)) (hst.aw a0 (-w)) b0 hb0 w) ⟨hx, hb, hml, hown, hts⟩ q211 b_X0_letWaterIn (n := 2) (by decide +kernel) ⟨Nat.le_of_ble_eq_true rfl, Nat.le_of_ble_eq_true rfl⟩ hK hP hD hS hA (sp0 _) (sp0 _) (ci := 0) rfl (q0 := 0) rfl rfl hl.1 rfl (Nat.le_of_ble_eq_true rfl) dX0_letFlow_52 ⟨Nat.le_of_ble_eq_true rfl, Nat.le_of_ble_eq_true rfl⟩ (fun H locs hP hD hS => ?_)
    refine lv_aload_n hx hb dX0_letFlow_55 rfl (lv_at hl 0 rfl) ?_
    refine x_get (C := RX0) (T := TX0) (N := 16) hx hb hts in_wsX00 hown hK hP 0 rfl rfl 8 (by decide) q47 (v := .ref (a 8)) rfl dX0_letFlow_56 ?_
    refine lv_iload_n hx hb dX0_letFlow_59 rfl (lv_at hl 1 rfl) ?_
    refine lv_dup2_11 hx hb dX0_letFlow_60 rfl rfl ?_
    refine x_ild hx hb hK hP 9 0 rfl rfl j (rfl) (by omega) (by decide) (v := σ 8 j) rfl dX0_letFlow_61 ?_
    refine lv_iload_n hx hb dX0_letFlow_62 rfl (lv_at hl 2 rfl) ?_
    refine va_mabs hx hb (by rw [hml]; exact hl.1.symm) hown (hts _ q215) (hts _ q216) (hts _ q18) (hts _ q217) (by decide) (Nat.le_of_ble_eq_true rfl) (Nat.le_of_ble_eq_true rfl) (Nat.le_of_ble_eq_true rfl) dX0_letFlow_63 ?_
    refine x_top (show _ = ab w from rfl) ?_
    refine lv_iadd hx hb dX0_letFlow_66 ?_
    refine x_ist (ws2 := mC cI cZ h a (su (addW (addW σ a0 (-w)) b0 w) 8 j ((σ 8 j) + (ab w)))) hx hb hK hP hD hS 9 0 rfl rfl j (rfl) (by omega) (by decide) rfl dX0_letFlow_67 (fun H locs hP hD hS => ?_)
    subst hQ
    exact rv hx hb hr hlocks hK hP hD hS dX0_letFlow_68 (by unfold letF; rw [ea0, nI_clamp (by omega), if_neg c_28, eb0, nI_clamp (by omega)])
  · refine lv_aload_n hx hb dX0_letFlow_31 rfl (lv_at hl 0 rfl) ?_
    refine lv_dup hx hb dX0_letFlow_32 rfl ?_
    refine x_get (C := RX0) (T := TX0) (N := 16) hx hb hts in_wsX00 hown hK hP 0 rfl rfl 14 (by decide) q60 (v := .int (σ 11 3)) (congrArg (fun z => some (Value.int z)) (rfl)) dX0_letFlow_33 ?_
    refine lv_iload_n hx hb dX0_letFlow_36 rfl (lv_at hl 2 rfl) ?_
    refine lv_iadd hx hb dX0_letFlow_37 ?_
    refine x_put (C := RX0) (T := TX0) (N := 16) (ws2 := mC cI cZ h a (sc (addW σ a0 (-w)) 3 ((σ 11 3) + w))) hx hb hts in_wsX00 tyX0_ok nmX0 hown hK hP hD hS 0 rfl rfl 14 (by decide) q60 rfl (by decide +kernel) (Nat.le_of_ble_eq_true rfl) rfl dX0_letFlow_38 (fun H locs hP hD hS => ?_)
    refine lv_goto (tgt := 55) hx hb dX0_letFlow_41 (by decide) ?_
    refine lv_aload_n hx hb dX0_letFlow_55 rfl (lv_at hl 0 rfl) ?_
    refine x_get (C := RX0) (T := TX0) (N := 16) hx hb hts in_wsX00 hown hK hP 0 rfl rfl 8 (by decide) q47 (v := .ref (a 8)) rfl dX0_letFlow_56 ?_
    refine lv_iload_n hx hb dX0_letFlow_59 rfl (lv_at hl 1 rfl) ?_
    refine lv_dup2_11 hx hb dX0_letFlow_60 rfl rfl ?_
    refine x_ild hx hb hK hP 9 0 rfl rfl j (rfl) (by omega) (by decide) (v := σ 8 j) rfl dX0_letFlow_61 ?_
    refine lv_iload_n hx hb dX0_letFlow_62 rfl (lv_at hl 2 rfl) ?_
    refine va_mabs hx hb (by rw [hml]; exact hl.1.symm) hown (hts _ q215) (hts _ q216) (hts _ q18) (hts _ q217) (by decide) (Nat.le_of_ble_eq_true rfl) (Nat.le_of_ble_eq_true rfl) (Nat.le_of_ble_eq_true rfl) dX0_letFlow_63 ?_
    refine x_top (show _ = ab w from rfl) ?_
    refine lv_iadd hx hb dX0_letFlow_66 ?_
    refine x_ist (ws2 := mC cI cZ h a (su (sc (addW σ a0 (-w)) 3 ((σ 11 3) + w)) 8 j ((σ 8 j) + (ab w)))) hx hb hK hP hD hS 9 0 rfl rfl j (rfl) (by omega) (by decide) rfl dX0_letFlow_67 (fun H locs hP hD hS => ?_)
    subst hQ
    exact rv hx hb hr hlocks hK hP hD hS dX0_letFlow_68 (by unfold letF; rw [ea0, nI_clamp (by omega), if_pos c_28])

abbrev rmX0_countWetHours : Room := { frames := 2, cells := 0, slots := 0, locals := 42 }
theorem b_X0_countWetHours : Cond.instanceMethod yX0_countWetHours ∈ LW ∧ Cond.selects RX0 yX0_countWetHours yX0_countWetHours ∈ LW ∧ Cond.initialized RX0 ∈ LW ∧ Cond.code yX0_countWetHours cX0_countWetHours 2 none ∈ LW := ⟨q220, q2, q10, q221⟩
set_option maxHeartbeats 4000000 in
set_option maxRecDepth 100000 in
theorem c_X0_countWetHours (l : Launch) (D : va_G) (cI cZ cL : ClassId) {n k : Nat} (h : Nat) (a : Nat → Nat) (σ : Sg) (hst : Shp n k σ) : MC l yX0_countWetHours cX0_countWetHours 2 none rmX0_countWetHours D (tZ cI cZ cL) [.ref h] (mC cI cZ h a σ) (mC cI cZ h a (it wetB (nF σ) σ)) (none) := by
  refine MC.of (by decide) (Nat.le_of_ble_eq_true rfl) ?_
  intro p e s m args below meth c A ls Q hx hb hml hr hts hown hlocks hA hP hD hK hS hl hQ
  have hown : s.vm.findClass RX0 = some m.cls := hown
  have hn10 := hst.1
  have hk16 := hst.2.1
  have hl : lv_has ls 2 [(0, .ref h)] := hl
  refine lv_iconst (v := 0) hx hb dX0_countWetHours_0 (by decide) ?_
  refine lv_istore_n (lv' := [(1, .int 0), (0, .ref h)]) hx hb dX0_countWetHours_1 rfl hl (by decide) rfl (fun ls hl => ?_)
  have hl : lv_has ls 2 [(1, .int (nI 0)), (0, .ref h)] := hl
  have L2 : ∀ (f i : Nat), i ≤ n → n < i + f → ∀ (H : Heap) (locs : List Loc) (ls : Array Slot), va_P D vwCl (mC cI cZ h a (it wetB i σ)) H → va_D A (mC cI cZ h a (it wetB i σ)) → va_S A s.heap H locs → lv_has ls 2 [(0, .ref h), (1, .int (nI i))] → W p l e rmX0_countWetHours s m args below meth c H locs 0 0 Q (F0 m 2 ls []) := by
    intro f
    induction f with
    | zero => intro i h1 h2; exact absurd h2 (by omega)
    | succ f ih_2 =>
      intro i hi_2 hf_2 H locs ls hP hD hS hl
      obtain ⟨τ, eτ⟩ : ∃ z, z = it wetB i σ := ⟨_, rfl⟩
      rw [← eτ] at hP hD
      have hst9 : Shp n k τ := by rw [eτ]; exact hst.iter Shp.wet i
      refine lv_iload_n hx hb dX0_countWetHours_2 rfl (lv_at hl 1 rfl) ?_
      refine lv_aload_n hx hb dX0_countWetHours_3 rfl (lv_at hl 0 rfl) ?_
      refine x_get (C := RX0) (T := TX0) (N := 16) hx hb hts in_wsX00 hown hK hP 0 rfl rfl 11 (by decide) q53 (v := .int (nI n)) (congrArg (fun z => some (Value.int z)) (hst9.f0)) dX0_countWetHours_4 ?_
      refine lv_icmp_ge (tgt := 60) hx hb dX0_countWetHours_7 (by decide) (fun c_7 => ?_) (fun c_7 => ?_)
      · have hc_7 : n ≤ i := (nI_leI (a := n) (b := i) (by omega) (by omega)).mp c_7
        subst hQ
        exact rv hx hb hr hlocks hK hP hD hS dX0_countWetHours_60 (by rw [eτ, hst.eF, show i = n by omega])
      · have hc_7 : i < n := Nat.not_le.mp (fun z => c_7 ((nI_leI (a := n) (b := i) (by omega) (by omega)).mpr z))
        refine lv_aload_n hx hb dX0_countWetHours_10 rfl (lv_at hl 0 rfl) ?_
        refine x_get (C := RX0) (T := TX0) (N := 16) hx hb hts in_wsX00 hown hK hP 0 rfl rfl 3 (by decide) q38 (v := .ref (a 3)) rfl dX0_countWetHours_11 ?_
        refine lv_iload_n hx hb dX0_countWetHours_14 rfl (lv_at hl 1 rfl) ?_
        refine lv_aload_n hx hb dX0_countWetHours_15 rfl (lv_at hl 0 rfl) ?_
        refine lv_iload_n hx hb dX0_countWetHours_16 rfl (lv_at hl 1 rfl) ?_
        refine MC.callV (C := RX0) (T := TX0) (N := 16) (As := [.int (nI i)]) (rest := [.int (nI i), .ref (a 3)]) (wB := mC cI cZ h a τ) (c_X0_isWet l D cI cZ cL h a τ hst9 i (by omega)) ⟨hx, hb, hml, hown, hts⟩ q222 b_X0_isWet (n := 1) (by decide +kernel) ⟨Nat.le_of_ble_eq_true rfl, Nat.le_of_ble_eq_true rfl⟩ hK hP hD hS hA (sp0 _) (sp0 _) (ci := 0) rfl (q0 := 0) rfl rfl hl.1 rfl (Nat.le_of_ble_eq_true rfl) dX0_countWetHours_17 ⟨Nat.le_of_ble_eq_true rfl, Nat.le_of_ble_eq_true rfl⟩ (fun H locs hP hD hS => ?_)
        refine lv_if_eq (tgt := 34) hx hb dX0_countWetHours_20 (by decide) (fun c_20 => ?_) (fun c_20 => ?_)
        · refine lv_iconst (v := 0) hx hb dX0_countWetHours_34 (by decide) ?_
          refine x_top (wv_0 c_20).symm ?_
          refine x_ist (ws2 := mC cI cZ h a (su τ 3 i (wv τ i))) hx hb hK hP hD hS 4 0 rfl rfl i (rfl) (by omega) (by decide) rfl dX0_countWetHours_35 (fun H locs hP hD hS => ?_)
          refine lv_aload_n hx hb dX0_countWetHours_36 rfl (lv_at hl 0 rfl) ?_
          refine x_get (C := RX0) (T := TX0) (N := 16) hx hb hts in_wsX00 hown hK hP 0 rfl rfl 3 (by decide) q38 (v := .ref (a 3)) rfl dX0_countWetHours_37 ?_
          refine lv_iload_n hx hb dX0_countWetHours_40 rfl (lv_at hl 1 rfl) ?_
          refine x_ild hx hb hK hP 4 0 rfl rfl i (rfl) (by omega) (by decide) (v := wv τ i) pk_us dX0_countWetHours_41 ?_
          refine lv_bipush (v := 6) hx hb dX0_countWetHours_42 (by decide) ?_
          refine lv_icmp_lt (tgt := 54) hx hb dX0_countWetHours_44 (by decide) (fun c_44 => ?_) (fun c_44 => ?_)
          · refine lv_iinc (v := (nI (i + 1))) (lv' := [(1, .int (nI (i + 1))), (0, .ref h)]) hx hb dX0_countWetHours_54 hl (k := 1) rfl (nI_add i 1) (by decide) rfl (fun ls hl => ?_)
            refine lv_goto (tgt := 2) hx hb dX0_countWetHours_57 (by decide) ?_
            have e9 : su τ 3 i (wv τ i) = it wetB (i + 1) σ := by
              show _ = wetB i (it wetB i σ)
              rw [← eτ]
              unfold wetB
              rw [if_neg (Int32.not_le.mpr c_44)]
            rw [e9] at hP hD
            exact ih_2 (i + 1) (by omega) (by omega) _ _ _ hP hD hS (lv_sub hl [1, 0] rfl)
          · refine lv_aload_n hx hb dX0_countWetHours_47 rfl (lv_at hl 0 rfl) ?_
            refine x_get (C := RX0) (T := TX0) (N := 16) hx hb hts in_wsX00 hown hK hP 0 rfl rfl 4 (by decide) q40 (v := .ref (a 4)) rfl dX0_countWetHours_48 ?_
            refine lv_iload_n hx hb dX0_countWetHours_51 rfl (lv_at hl 1 rfl) ?_
            refine lv_iconst (v := 1) hx hb dX0_countWetHours_52 (by decide) ?_
            refine x_zst (ws2 := mC cI cZ h a (su (su τ 3 i (wv τ i)) 4 i 1)) hx hb hK hP hD hS 5 1 rfl rfl i (rfl) (by omega) (by decide) (Or.inr rfl) rfl dX0_countWetHours_53 (fun H locs hP hD hS => ?_)
            refine lv_iinc (v := (nI (i + 1))) (lv' := [(1, .int (nI (i + 1))), (0, .ref h)]) hx hb dX0_countWetHours_54 hl (k := 1) rfl (nI_add i 1) (by decide) rfl (fun ls hl => ?_)
            refine lv_goto (tgt := 2) hx hb dX0_countWetHours_57 (by decide) ?_
            have e9 : su (su τ 3 i (wv τ i)) 4 i 1 = it wetB (i + 1) σ := by
              show _ = wetB i (it wetB i σ)
              rw [← eτ]
              unfold wetB
              rw [if_pos (Int32.not_lt.mp c_44)]
            rw [e9] at hP hD
            exact ih_2 (i + 1) (by omega) (by omega) _ _ _ hP hD hS (lv_sub hl [1, 0] rfl)
        · refine lv_aload_n hx hb dX0_countWetHours_23 rfl (lv_at hl 0 rfl) ?_
          refine x_get (C := RX0) (T := TX0) (N := 16) hx hb hts in_wsX00 hown hK hP 0 rfl rfl 3 (by decide) q38 (v := .ref (a 3)) rfl dX0_countWetHours_24 ?_
          refine lv_iload_n hx hb dX0_countWetHours_27 rfl (lv_at hl 1 rfl) ?_
          refine x_ild hx hb hK hP 4 0 rfl rfl i (rfl) (by omega) (by decide) (v := τ 3 i) rfl dX0_countWetHours_28 ?_
          refine lv_iconst (v := 1) hx hb dX0_countWetHours_29 (by decide) ?_
          refine lv_iadd hx hb dX0_countWetHours_30 ?_
          refine lv_goto (tgt := 35) hx hb dX0_countWetHours_31 (by decide) ?_
          refine x_top (wv_1 c_20).symm ?_
          refine x_ist (ws2 := mC cI cZ h a (su τ 3 i (wv τ i))) hx hb hK hP hD hS 4 0 rfl rfl i (rfl) (by omega) (by decide) rfl dX0_countWetHours_35 (fun H locs hP hD hS => ?_)
          refine lv_aload_n hx hb dX0_countWetHours_36 rfl (lv_at hl 0 rfl) ?_
          refine x_get (C := RX0) (T := TX0) (N := 16) hx hb hts in_wsX00 hown hK hP 0 rfl rfl 3 (by decide) q38 (v := .ref (a 3)) rfl dX0_countWetHours_37 ?_
          refine lv_iload_n hx hb dX0_countWetHours_40 rfl (lv_at hl 1 rfl) ?_
          refine x_ild hx hb hK hP 4 0 rfl rfl i (rfl) (by omega) (by decide) (v := wv τ i) pk_us dX0_countWetHours_41 ?_
          refine lv_bipush (v := 6) hx hb dX0_countWetHours_42 (by decide) ?_
          refine lv_icmp_lt (tgt := 54) hx hb dX0_countWetHours_44 (by decide) (fun c_44 => ?_) (fun c_44 => ?_)
          · refine lv_iinc (v := (nI (i + 1))) (lv' := [(1, .int (nI (i + 1))), (0, .ref h)]) hx hb dX0_countWetHours_54 hl (k := 1) rfl (nI_add i 1) (by decide) rfl (fun ls hl => ?_)
            refine lv_goto (tgt := 2) hx hb dX0_countWetHours_57 (by decide) ?_
            have e9 : su τ 3 i (wv τ i) = it wetB (i + 1) σ := by
              show _ = wetB i (it wetB i σ)
              rw [← eτ]
              unfold wetB
              rw [if_neg (Int32.not_le.mpr c_44)]
            rw [e9] at hP hD
            exact ih_2 (i + 1) (by omega) (by omega) _ _ _ hP hD hS (lv_sub hl [1, 0] rfl)
          · refine lv_aload_n hx hb dX0_countWetHours_47 rfl (lv_at hl 0 rfl) ?_
            refine x_get (C := RX0) (T := TX0) (N := 16) hx hb hts in_wsX00 hown hK hP 0 rfl rfl 4 (by decide) q40 (v := .ref (a 4)) rfl dX0_countWetHours_48 ?_
            refine lv_iload_n hx hb dX0_countWetHours_51 rfl (lv_at hl 1 rfl) ?_
            refine lv_iconst (v := 1) hx hb dX0_countWetHours_52 (by decide) ?_
            refine x_zst (ws2 := mC cI cZ h a (su (su τ 3 i (wv τ i)) 4 i 1)) hx hb hK hP hD hS 5 1 rfl rfl i (rfl) (by omega) (by decide) (Or.inr rfl) rfl dX0_countWetHours_53 (fun H locs hP hD hS => ?_)
            refine lv_iinc (v := (nI (i + 1))) (lv' := [(1, .int (nI (i + 1))), (0, .ref h)]) hx hb dX0_countWetHours_54 hl (k := 1) rfl (nI_add i 1) (by decide) rfl (fun ls hl => ?_)
            refine lv_goto (tgt := 2) hx hb dX0_countWetHours_57 (by decide) ?_
            have e9 : su (su τ 3 i (wv τ i)) 4 i 1 = it wetB (i + 1) σ := by
              show _ = wetB i (it wetB i σ)
              rw [← eτ]
              unfold wetB
              rw [if_pos (Int32.not_lt.mp c_44)]
            rw [e9] at hP hD
            exact ih_2 (i + 1) (by omega) (by omega) _ _ _ hP hD hS (lv_sub hl [1, 0] rfl)
  exact L2 (n + 1) 0 (by omega) (by omega) _ _ _ hP hD hS (lv_sub hl [1, 0] rfl)

abbrev rmX0_passHour : Room := { frames := 3, cells := 0, slots := 0, locals := 84 }
theorem b_X0_passHour : Cond.instanceMethod yX0_passHour ∈ LW ∧ Cond.selects RX0 yX0_passHour yX0_passHour ∈ LW ∧ Cond.initialized RX0 ∈ LW ∧ Cond.code yX0_passHour cX0_passHour 2 none ∈ LW := ⟨q189, q190, q10, q191⟩
set_option maxHeartbeats 4000000 in
set_option maxRecDepth 100000 in
theorem c_X0_passHour (l : Launch) (D : va_G) (cI cZ cL : ClassId) {n k : Nat} (h : Nat) (a : Nat → Nat) (σ : Sg) (hst : Shp n k σ) : MC l yX0_passHour cX0_passHour 2 none rmX0_passHour D (tZ cI cZ cL) [.ref h] (mC cI cZ h a σ) (mC cI cZ h a (hour σ)) (none) := by
  refine MC.of (by decide) (Nat.le_of_ble_eq_true rfl) ?_
  intro p e s m args below meth c A ls Q hx hb hml hr hts hown hlocks hA hP hD hK hS hl hQ
  have hown : s.vm.findClass RX0 = some m.cls := hown
  have hn10 := hst.1
  have hk16 := hst.2.1
  have hl : lv_has ls 2 [(0, .ref h)] := hl
  refine lv_iconst (v := 0) hx hb dX0_passHour_0 (by decide) ?_
  refine lv_istore_n (lv' := [(1, .int 0), (0, .ref h)]) hx hb dX0_passHour_1 rfl hl (by decide) rfl (fun ls hl => ?_)
  have hl : lv_has ls 2 [(1, .int (nI 0)), (0, .ref h)] := hl
  have L2 : ∀ (f i : Nat), i ≤ n → n < i + f → ∀ (H : Heap) (locs : List Loc) (ls : Array Slot), va_P D vwCl (mC cI cZ h a (it rainB i σ)) H → va_D A (mC cI cZ h a (it rainB i σ)) → va_S A s.heap H locs → lv_has ls 2 [(0, .ref h), (1, .int (nI i))] → W p l e rmX0_passHour s m args below meth c H locs 0 0 Q (F0 m 2 ls []) := by
    intro f
    induction f with
    | zero => intro i h1 h2; exact absurd h2 (by omega)
    | succ f ih_2 =>
      intro i hi_2 hf_2 H locs ls hP hD hS hl
      obtain ⟨τ, eτ⟩ : ∃ z, z = it rainB i σ := ⟨_, rfl⟩
      rw [← eτ] at hP hD
      have hst9 : Shp n k τ := by rw [eτ]; exact hst.iter Shp.rain i
      refine lv_iload_n hx hb dX0_passHour_2 rfl (lv_at hl 1 rfl) ?_
      refine lv_aload_n hx hb dX0_passHour_3 rfl (lv_at hl 0 rfl) ?_
      refine x_get (C := RX0) (T := TX0) (N := 16) hx hb hts in_wsX00 hown hK hP 0 rfl rfl 11 (by decide) q53 (v := .int (nI n)) (congrArg (fun z => some (Value.int z)) (hst9.f0)) dX0_passHour_4 ?_
      refine lv_icmp_ge (tgt := 29) hx hb dX0_passHour_7 (by decide) (fun c_7 => ?_) (fun c_7 => ?_)
      · have hc_7 : n ≤ i := (nI_leI (a := n) (b := i) (by omega) (by omega)).mp c_7
        refine lv_iconst (v := 0) hx hb dX0_passHour_29 (by decide) ?_
        refine lv_istore_n (lv' := [(1, .int 0), (0, .ref h)]) hx hb dX0_passHour_30 rfl hl (by decide) rfl (fun ls hl => ?_)
        have eh1 : τ = hour1 σ := by rw [eτ]; unfold hour1; rw [hst.eF, show i = n by omega]
        rw [eh1] at hP hD
        have hs1 : Shp n k (hour1 σ) := hst.h1
        have hl : lv_has ls 2 [(1, .int (nI 0)), (0, .ref h)] := hl
        have L31 : ∀ (f j : Nat), j ≤ k → k < j + f → ∀ (H : Heap) (locs : List Loc) (ls : Array Slot), va_P D vwCl (mC cI cZ h a (it carryB j (hour1 σ))) H → va_D A (mC cI cZ h a (it carryB j (hour1 σ))) → va_S A s.heap H locs → lv_has ls 2 [(0, .ref h), (1, .int (nI j))] → W p l e rmX0_passHour s m args below meth c H locs 0 0 Q (F0 m 31 ls []) := by
          intro f
          induction f with
          | zero => intro j h1 h2; exact absurd h2 (by omega)
          | succ f ih_31 =>
            intro j hi_31 hf_31 H locs ls hP hD hS hl
            obtain ⟨τ2, eτ2⟩ : ∃ z, z = it carryB j (hour1 σ) := ⟨_, rfl⟩
            rw [← eτ2] at hP hD
            have hst8 : Shp n k τ2 := by rw [eτ2]; exact hs1.iter Shp.carry j
            refine lv_iload_n hx hb dX0_passHour_31 rfl (lv_at hl 1 rfl) ?_
            refine lv_aload_n hx hb dX0_passHour_32 rfl (lv_at hl 0 rfl) ?_
            refine x_get (C := RX0) (T := TX0) (N := 16) hx hb hts in_wsX00 hown hK hP 0 rfl rfl 12 (by decide) q55 (v := .int (nI k)) (congrArg (fun z => some (Value.int z)) (hst8.f1)) dX0_passHour_33 ?_
            refine lv_icmp_ge (tgt := 55) hx hb dX0_passHour_36 (by decide) (fun c_36 => ?_) (fun c_36 => ?_)
            · have hc_36 : k ≤ j := (nI_leI (a := k) (b := j) (by omega) (by omega)).mp c_36
              refine lv_aload_n hx hb dX0_passHour_55 rfl (lv_at hl 0 rfl) ?_
              have eh2 : τ2 = hour2 σ := by rw [eτ2]; unfold hour2; rw [hst.eD, show j = k by omega]
              rw [eh2] at hP hD
              refine MC.callV (C := RX0) (T := TX0) (N := 16) (As := []) (rest := []) (wB := mC cI cZ h a (it wetB (nF (hour2 σ)) (hour2 σ))) (c_X0_countWetHours l D cI cZ cL h a (hour2 σ) hst.h2) ⟨hx, hb, hml, hown, hts⟩ q218 b_X0_countWetHours (n := 0) (by decide +kernel) ⟨Nat.le_of_ble_eq_true rfl, Nat.le_of_ble_eq_true rfl⟩ hK hP hD hS hA (sp0 _) (sp0 _) (ci := 0) rfl (q0 := 0) rfl rfl hl.1 rfl (Nat.le_of_ble_eq_true rfl) dX0_passHour_56 ⟨Nat.le_of_ble_eq_true rfl, Nat.le_of_ble_eq_true rfl⟩ (fun H locs hP hD hS => ?_)
              have eh3 : it wetB (nF (hour2 σ)) (hour2 σ) = hour3 σ := by unfold hour3; rw [hst.eF, hst.h2.eF]
              rw [eh3] at hP hD
              refine lv_aload_n hx hb dX0_passHour_59 rfl (lv_at hl 0 rfl) ?_
              refine lv_dup hx hb dX0_passHour_60 rfl ?_
              refine x_get (C := RX0) (T := TX0) (N := 16) hx hb hts in_wsX00 hown hK hP 0 rfl rfl 15 (by decide) q62 (v := .int ((hour3 σ) 11 4)) rfl dX0_passHour_61 ?_
              refine lv_iconst (v := 1) hx hb dX0_passHour_64 (by decide) ?_
              refine lv_iadd hx hb dX0_passHour_65 ?_
              refine x_put (C := RX0) (T := TX0) (N := 16) (ws2 := mC cI cZ h a (sc (hour3 σ) 4 (((hour3 σ) 11 4) + 1))) hx hb hts in_wsX00 tyX0_ok nmX0 hown hK hP hD hS 0 rfl rfl 15 (by decide) q62 rfl (by decide +kernel) (Nat.le_of_ble_eq_true rfl) rfl dX0_passHour_66 (fun H locs hP hD hS => ?_)
              subst hQ
              exact rv hx hb hr hlocks hK hP hD hS dX0_passHour_69 (rfl)
            · have hc_36 : j < k := Nat.not_le.mp (fun z => c_36 ((nI_leI (a := k) (b := j) (by omega) (by omega)).mpr z))
              refine lv_aload_n hx hb dX0_passHour_39 rfl (lv_at hl 0 rfl) ?_
              refine lv_iload_n hx hb dX0_passHour_40 rfl (lv_at hl 1 rfl) ?_
              refine lv_aload_n hx hb dX0_passHour_41 rfl (lv_at hl 0 rfl) ?_
              refine lv_iload_n hx hb dX0_passHour_42 rfl (lv_at hl 1 rfl) ?_
              refine MC.callV (C := RX0) (T := TX0) (N := 16) (As := [.int (nI j)]) (rest := [.int (nI j), .ref h]) (wB := mC cI cZ h a τ2) (c_X0_flowNow l D cI cZ cL h a τ2 hst8 j (by omega)) ⟨hx, hb, hml, hown, hts⟩ q192 b_X0_flowNow (n := 1) (by decide +kernel) ⟨Nat.le_of_ble_eq_true rfl, Nat.le_of_ble_eq_true rfl⟩ hK hP hD hS hA (sp0 _) (sp0 _) (ci := 0) rfl (q0 := 0) rfl rfl hl.1 rfl (Nat.le_of_ble_eq_true rfl) dX0_passHour_43 ⟨Nat.le_of_ble_eq_true rfl, Nat.le_of_ble_eq_true rfl⟩ (fun H locs hP hD hS => ?_)
              refine MC.callV (C := RX0) (T := TX0) (N := 16) (As := [.int (nI j), .int (flow τ2 j)]) (rest := []) (wB := mC cI cZ h a (letF j (flow τ2 j) τ2)) (c_X0_letFlow l D cI cZ cL h a τ2 hst8 j (by omega) (flow τ2 j)) ⟨hx, hb, hml, hown, hts⟩ q207 b_X0_letFlow (n := 2) (by decide +kernel) ⟨Nat.le_of_ble_eq_true rfl, Nat.le_of_ble_eq_true rfl⟩ hK hP hD hS hA (sp0 _) (sp0 _) (ci := 0) rfl (q0 := 0) rfl rfl hl.1 rfl (Nat.le_of_ble_eq_true rfl) dX0_passHour_46 ⟨Nat.le_of_ble_eq_true rfl, Nat.le_of_ble_eq_true rfl⟩ (fun H locs hP hD hS => ?_)
              refine lv_iinc (v := (nI (j + 1))) (lv' := [(1, .int (nI (j + 1))), (0, .ref h)]) hx hb dX0_passHour_49 hl (k := 1) rfl (nI_add j 1) (by decide) rfl (fun ls hl => ?_)
              refine lv_goto (tgt := 31) hx hb dX0_passHour_52 (by decide) ?_
              have e9 : letF j (flow τ2 j) τ2 = it carryB (j + 1) (hour1 σ) := by rw [eτ2]; rfl
              rw [e9] at hP hD
              exact ih_31 (j + 1) (by omega) (by omega) _ _ _ hP hD hS (lv_sub hl [1, 0] rfl)
        exact L31 (k + 1) 0 (by omega) (by omega) _ _ _ hP hD hS (lv_sub hl [1, 0] rfl)
      · have hc_7 : i < n := Nat.not_le.mp (fun z => c_7 ((nI_leI (a := n) (b := i) (by omega) (by omega)).mpr z))
        refine lv_aload_n hx hb dX0_passHour_10 rfl (lv_at hl 0 rfl) ?_
        refine x_get (C := RX0) (T := TX0) (N := 16) hx hb hts in_wsX00 hown hK hP 0 rfl rfl 2 (by decide) q36 (v := .ref (a 2)) rfl dX0_passHour_11 ?_
        refine lv_iload_n hx hb dX0_passHour_14 rfl (lv_at hl 1 rfl) ?_
        refine lv_dup2_11 hx hb dX0_passHour_15 rfl rfl ?_
        refine x_ild hx hb hK hP 3 0 rfl rfl i (rfl) (by omega) (by decide) (v := τ 2 i) rfl dX0_passHour_16 ?_
        refine lv_aload_n hx hb dX0_passHour_17 rfl (lv_at hl 0 rfl) ?_
        refine x_get (C := RX0) (T := TX0) (N := 16) hx hb hts in_wsX00 hown hK hP 0 rfl rfl 13 (by decide) q58 (v := .int (τ 11 2)) rfl dX0_passHour_18 ?_
        refine lv_iadd hx hb dX0_passHour_21 ?_
        refine x_ist (ws2 := mC cI cZ h a (su τ 2 i ((τ 2 i) + (τ 11 2)))) hx hb hK hP hD hS 3 0 rfl rfl i (rfl) (by omega) (by decide) rfl dX0_passHour_22 (fun H locs hP hD hS => ?_)
        refine lv_iinc (v := (nI (i + 1))) (lv' := [(1, .int (nI (i + 1))), (0, .ref h)]) hx hb dX0_passHour_23 hl (k := 1) rfl (nI_add i 1) (by decide) rfl (fun ls hl => ?_)
        refine lv_goto (tgt := 2) hx hb dX0_passHour_26 (by decide) ?_
        have e9 : su τ 2 i ((τ 2 i) + (τ 11 2)) = it rainB (i + 1) σ := by rw [eτ]; rfl
        rw [e9] at hP hD
        exact ih_2 (i + 1) (by omega) (by omega) _ _ _ hP hD hS (lv_sub hl [1, 0] rfl)
  exact L2 (n + 1) 0 (by omega) (by omega) _ _ _ hP hD hS (lv_sub hl [1, 0] rfl)

abbrev rmX0_passHours : Room := { frames := 4, cells := 0, slots := 0, locals := 105 }
theorem b_X0_passHours : Cond.instanceMethod yX0_passHours ∈ LW ∧ Cond.selects RX0 yX0_passHours yX0_passHours ∈ LW ∧ Cond.initialized RX0 ∈ LW ∧ Cond.code yX0_passHours cX0_passHours 3 none ∈ LW := ⟨q185, q186, q10, q187⟩
set_option maxHeartbeats 4000000 in
set_option maxRecDepth 100000 in
theorem c_X0_passHours (l : Launch) (D : va_G) (cI cZ cL : ClassId) {n k : Nat} (h : Nat) (a : Nat → Nat) (σ : Sg) (hst : Shp n k σ) (t : Nat) (ht : t < 1000) : MC l yX0_passHours cX0_passHours 3 none rmX0_passHours D (tZ cI cZ cL) [.ref h, .int (nI t)] (mC cI cZ h a σ) (mC cI cZ h a (hours t σ)) (none) := by
  refine MC.of (by decide) (Nat.le_of_ble_eq_true rfl) ?_
  intro p e s m args below meth c A ls Q hx hb hml hr hts hown hlocks hA hP hD hK hS hl hQ
  have hown : s.vm.findClass RX0 = some m.cls := hown
  have hn10 := hst.1
  have hk16 := hst.2.1
  have hl : lv_has ls 3 [(0, .ref h), (1, .int (nI t))] := hl
  refine lv_iconst (v := 0) hx hb dX0_passHours_0 (by decide) ?_
  refine lv_istore_n (lv' := [(2, .int 0), (0, .ref h), (1, .int (nI t))]) hx hb dX0_passHours_1 rfl hl (by decide) rfl (fun ls hl => ?_)
  have hl : lv_has ls 3 [(2, .int (nI 0)), (0, .ref h), (1, .int (nI t))] := hl
  have L2 : ∀ (f i : Nat), i ≤ t → t < i + f → ∀ (H : Heap) (locs : List Loc) (ls : Array Slot), va_P D vwCl (mC cI cZ h a (hours i σ)) H → va_D A (mC cI cZ h a (hours i σ)) → va_S A s.heap H locs → lv_has ls 3 [(0, .ref h), (1, .int (nI t)), (2, .int (nI i))] → W p l e rmX0_passHours s m args below meth c H locs 0 0 Q (F0 m 2 ls []) := by
    intro f
    induction f with
    | zero => intro i h1 h2; exact absurd h2 (by omega)
    | succ f ih_2 =>
      intro i hi_2 hf_2 H locs ls hP hD hS hl
      obtain ⟨τ, eτ⟩ : ∃ z, z = hours i σ := ⟨_, rfl⟩
      rw [← eτ] at hP hD
      have hst9 : Shp n k τ := by rw [eτ]; exact hst.hrs i
      refine lv_iload_n hx hb dX0_passHours_2 rfl (lv_at hl 2 rfl) ?_
      refine lv_iload_n hx hb dX0_passHours_3 rfl (lv_at hl 1 rfl) ?_
      refine lv_icmp_ge (tgt := 17) hx hb dX0_passHours_4 (by decide) (fun c_4 => ?_) (fun c_4 => ?_)
      · have hc_4 : t ≤ i := (nI_leI (a := t) (b := i) (by omega) (by omega)).mp c_4
        subst hQ
        exact rv hx hb hr hlocks hK hP hD hS dX0_passHours_17 (by rw [eτ, show i = t by omega])
      · have hc_4 : i < t := Nat.not_le.mp (fun z => c_4 ((nI_leI (a := t) (b := i) (by omega) (by omega)).mpr z))
        refine lv_aload_n hx hb dX0_passHours_7 rfl (lv_at hl 0 rfl) ?_
        refine MC.callV (C := RX0) (T := TX0) (N := 16) (As := []) (rest := []) (wB := mC cI cZ h a (hour τ)) (c_X0_passHour l D cI cZ cL h a τ hst9) ⟨hx, hb, hml, hown, hts⟩ q188 b_X0_passHour (n := 0) (by decide +kernel) ⟨Nat.le_of_ble_eq_true rfl, Nat.le_of_ble_eq_true rfl⟩ hK hP hD hS hA (sp0 _) (sp0 _) (ci := 0) rfl (q0 := 0) rfl rfl hl.1 rfl (Nat.le_of_ble_eq_true rfl) dX0_passHours_8 ⟨Nat.le_of_ble_eq_true rfl, Nat.le_of_ble_eq_true rfl⟩ (fun H locs hP hD hS => ?_)
        refine lv_iinc (v := (nI (i + 1))) (lv' := [(2, .int (nI (i + 1))), (0, .ref h), (1, .int (nI t))]) hx hb dX0_passHours_11 hl (k := 2) rfl (nI_add i 1) (by decide) rfl (fun ls hl => ?_)
        refine lv_goto (tgt := 2) hx hb dX0_passHours_14 (by decide) ?_
        have e9 : hour τ = hours (i + 1) σ := by rw [eτ]; rfl
        rw [e9] at hP hD
        exact ih_2 (i + 1) (by omega) (by omega) _ _ _ hP hD hS (lv_sub hl [1, 2, 0] rfl)
  exact L2 (t + 1) 0 (by omega) (by omega) _ _ _ hP hD hS (lv_sub hl [1, 2, 0] rfl)
