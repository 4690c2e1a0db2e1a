abbrev rmX2_level : Room := { frames := 0, cells := 0, slots := 0, locals := 0 }
theorem b_X2_level : Cond.instanceMethod yX2_level ∈ LW ∧ Cond.selects RX2 yX2_level yX2_level ∈ LW ∧ Cond.initialized RX2 ∈ LW ∧ Cond.code yX2_level cX2_level 2 (some .int) ∈ LW := ⟨q472, q473, q11, q474⟩
set_option maxHeartbeats 4000000 in
set_option maxRecDepth 100000 in
theorem c_X2_level (l : Launch) (D : va_G) (cI cZ cL : ClassId) {n k : Nat} (sm : Nat) (q : SA) (σ : Sg) (hst : Shp n k σ) (j : Nat) (hj : j < n) : MC l yX2_level cX2_level 2 (some .int) rmX2_level D (tZ cI cZ cL) [.ref sm, .int (nI j)] (sC cI cL sm q σ n k) (sC cI cL sm q σ n k) (some (.int (σ 0 j + σ 2 j))) := by
  refine MC.of (by decide) (Nat.le_of_ble_eq_true rfl) ?_
  intro p e s m args below meth c A ls Q hx hb hml hr hts hown hlocks hA hP hD hK hS hl hQ
  have hown : s.vm.findClass RX2 = some m.cls := hown
  have hn10 := hst.1
  have hk16 := hst.2.1
  have hl : lv_has ls 2 [(0, .ref sm), (1, .int (nI j))] := hl
  refine lv_aload_n hx hb dX2_level_0 rfl (lv_at hl 0 rfl) ?_
  refine s_get hx hb hts hown hK hP (σ := σ) (n := n) (k := k) (q := q) (sm := sm) (w0 := []) (w2 := []) (sp0 _) 0 (by decide) q433 (v := .ref q.1.1) rfl dX2_level_1 ?_
  refine lv_iload_n hx hb dX2_level_4 rfl (lv_at hl 1 rfl) ?_
  refine s_alF hx hb hK hP (σ := σ) (n := n) (k := k) (q := q) (sm := sm) (w0 := []) (w2 := []) (sp0 _) j (rfl) (by omega) (by omega) dX2_level_5 ?_
  refine lv_iconst (v := 0) hx hb dX2_level_6 (by decide) ?_
  refine s_ldF hx hb hK hP (σ := σ) (n := n) (k := k) (q := q) (sm := sm) (w0 := []) (w2 := []) (sp0 _) j (by omega) 0 rfl (by decide) (v := σ 0 j) rfl dX2_level_7 ?_
  refine lv_aload_n hx hb dX2_level_8 rfl (lv_at hl 0 rfl) ?_
  refine s_get hx hb hts hown hK hP (σ := σ) (n := n) (k := k) (q := q) (sm := sm) (w0 := []) (w2 := []) (sp0 _) 0 (by decide) q433 (v := .ref q.1.1) rfl dX2_level_9 ?_
  refine lv_iload_n hx hb dX2_level_12 rfl (lv_at hl 1 rfl) ?_
  refine s_alF hx hb hK hP (σ := σ) (n := n) (k := k) (q := q) (sm := sm) (w0 := []) (w2 := []) (sp0 _) j (rfl) (by omega) (by omega) dX2_level_13 ?_
  refine lv_iconst (v := 2) hx hb dX2_level_14 (by decide) ?_
  refine s_ldF hx hb hK hP (σ := σ) (n := n) (k := k) (q := q) (sm := sm) (w0 := []) (w2 := []) (sp0 _) j (by omega) 2 rfl (by decide) (v := σ 2 j) rfl dX2_level_15 ?_
  refine lv_iadd hx hb dX2_level_16 ?_
  subst hQ
  exact ri hx hb hr hlocks hK hP hD hS dX2_level_17 (rfl) (rfl)

abbrev rmX2_isBack : Room := { frames := 1, cells := 0, slots := 0, locals := 21 }
theorem b_X2_isBack : Cond.instanceMethod yX2_isBack ∈ LW ∧ Cond.selects RX2 yX2_isBack yX2_isBack ∈ LW ∧ Cond.initialized RX2 ∈ LW ∧ Cond.code yX2_isBack cX2_isBack 2 (some .boolean) ∈ LW := ⟨q468, q469, q11, q470⟩
set_option maxHeartbeats 4000000 in
set_option maxRecDepth 100000 in
theorem c_X2_isBack (l : Launch) (D : va_G) (cI cZ cL : ClassId) {n k : Nat} (sm : Nat) (q : SA) (σ : Sg) (hst : Shp n k σ) (d : Nat) (hd : d < k) : MC l yX2_isBack cX2_isBack 2 (some .boolean) rmX2_isBack D (tZ cI cZ cL) [.ref sm, .ref (q.2.2 d)] (sC cI cL sm q σ n k) (sC cI cL sm q σ n k) (some (.int (bk σ d))) := by
  refine MC.of (by decide) (Nat.le_of_ble_eq_true rfl) ?_
  intro p e s m args below meth c A ls Q hx hb hml hr hts hown hlocks hA hP hD hK hS hl hQ
  have hown : s.vm.findClass RX2 = some m.cls := hown
  have hn10 := hst.1
  have hk16 := hst.2.1
  obtain ⟨a0, ha0, ea0⟩ := hst.2.2.2.2.1 d hd
  have hl : lv_has ls 2 [(0, .ref sm), (1, .ref (q.2.2 d))] := hl
  refine lv_aload_n hx hb dX2_isBack_0 rfl (lv_at hl 1 rfl) ?_
  refine lv_iconst (v := 3) hx hb dX2_isBack_1 (by decide) ?_
  refine s_ldD hx hb hK hP (σ := σ) (n := n) (k := k) (q := q) (sm := sm) (w0 := []) (w2 := []) (sp0 _) d (by omega) 3 rfl (by decide) (v := σ 9 d) rfl dX2_isBack_2 ?_
  refine lv_if_ne (tgt := 27) hx hb dX2_isBack_3 (by decide) (fun c_3 => ?_) (fun c_3 => ?_)
  · refine lv_iconst (v := 0) hx hb dX2_isBack_27 (by decide) ?_
    subst hQ
    exact rz hx hb hr hlocks hK hP hD hS dX2_isBack_28 (by decide) (rfl) (by rw [bk_p c_3])
  · obtain ⟨b0, hb0, eb0⟩ : ∃ b, b < n ∧ σ 6 d = nI b := by
      rcases hst.2.2.2.2.2 d hd with z | z
      · exact absurd c_3 z.2
      · exact z
    refine lv_aload_n hx hb dX2_isBack_6 rfl (lv_at hl 0 rfl) ?_
    refine lv_aload_n hx hb dX2_isBack_7 rfl (lv_at hl 1 rfl) ?_
    refine lv_iconst (v := 1) hx hb dX2_isBack_8 (by decide) ?_
    refine s_ldD hx hb hK hP (σ := σ) (n := n) (k := k) (q := q) (sm := sm) (w0 := []) (w2 := []) (sp0 _) d (by omega) 1 rfl (by decide) (v := (nI b0)) eb0 dX2_isBack_9 ?_
    refine MC.callV0 (C := RX2) (T := TX2) (N := 5) (As := [.int (nI b0)]) (rest := []) (w0 := []) (w2 := []) (wB := sC cI cL sm q σ n k) (c_X2_level l D cI cZ cL sm q σ hst b0 (by omega)) ⟨hx, hb, hml, hown, hts⟩ q471 b_X2_level (n := 1) (by decide +kernel) ⟨(Nat.le_of_ble_eq_true rfl), (Nat.le_of_ble_eq_true rfl)⟩ hK hP hD hS hA (sp0 _) (sp0 _) (ci := 2) rfl rfl rfl hl.1 rfl (Nat.le_of_ble_eq_true rfl) dX2_isBack_10 ⟨(Nat.le_of_ble_eq_true rfl), (Nat.le_of_ble_eq_true rfl)⟩ (fun H locs hP hD hS => ?_)
    refine lv_aload_n hx hb dX2_isBack_13 rfl (lv_at hl 0 rfl) ?_
    refine lv_aload_n hx hb dX2_isBack_14 rfl (lv_at hl 1 rfl) ?_
    refine lv_iconst (v := 0) hx hb dX2_isBack_15 (by decide) ?_
    refine s_ldD hx hb hK hP (σ := σ) (n := n) (k := k) (q := q) (sm := sm) (w0 := []) (w2 := []) (sp0 _) d (by omega) 0 rfl (by decide) (v := (nI a0)) ea0 dX2_isBack_16 ?_
    refine MC.callV0 (C := RX2) (T := TX2) (N := 5) (As := [.int (nI a0)]) (rest := [.int (σ 0 b0 + σ 2 b0)]) (w0 := []) (w2 := []) (wB := sC cI cL sm q σ n k) (c_X2_level l D cI cZ cL sm q σ hst a0 (by omega)) ⟨hx, hb, hml, hown, hts⟩ q471 b_X2_level (n := 1) (by decide +kernel) ⟨(Nat.le_of_ble_eq_true rfl), (Nat.le_of_ble_eq_true rfl)⟩ hK hP hD hS hA (sp0 _) (sp0 _) (ci := 2) rfl rfl rfl hl.1 rfl (Nat.le_of_ble_eq_true rfl) dX2_isBack_17 ⟨(Nat.le_of_ble_eq_true rfl), (Nat.le_of_ble_eq_true rfl)⟩ (fun H locs hP hD hS => ?_)
    refine lv_icmp_le (tgt := 27) hx hb dX2_isBack_20 (by decide) (fun c_20 => ?_) (fun c_20 => ?_)
    · refine lv_iconst (v := 0) hx hb dX2_isBack_27 (by decide) ?_
      subst hQ
      exact rz hx hb hr hlocks hK hP hD hS dX2_isBack_28 (by decide) (rfl) (by rw [bk_d c_3 ea0 eb0 (by omega) (by omega), if_neg (Int32.not_lt.mpr c_20)])
    · refine lv_iconst (v := 1) hx hb dX2_isBack_23 (by decide) ?_
      refine lv_goto (tgt := 28) hx hb dX2_isBack_24 (by decide) ?_
      subst hQ
      exact rz hx hb hr hlocks hK hP hD hS dX2_isBack_28 (by decide) (rfl) (by rw [bk_d c_3 ea0 eb0 (by omega) (by omega), if_pos (Int32.not_le.mp c_20)])

abbrev rmX2_amount : Room := { frames := 2, cells := 0, slots := 0, locals := 60 }
theorem b_X2_amount : Cond.instanceMethod yX2_amount ∈ LW ∧ Cond.selects RX2 yX2_amount yX2_amount ∈ LW ∧ Cond.initialized RX2 ∈ LW ∧ Cond.code yX2_amount cX2_amount 6 (some .int) ∈ LW := ⟨q464, q465, q11, q466⟩
set_option maxHeartbeats 4000000 in
set_option maxRecDepth 100000 in
theorem c_X2_amount (l : Launch) (D : va_G) (cI cZ cL : ClassId) {n k : Nat} (sm : Nat) (q : SA) (σ : Sg) (hst : Shp n k σ) {B : Nat} (hB : Bnd B σ) (hB2 : B < 2 ^ 29) (d : Nat) (hd : d < k) : MC l yX2_amount cX2_amount 6 (some .int) rmX2_amount D (tZ cI cZ cL) [.ref sm, .ref (q.2.2 d)] (sC cI cL sm q σ n k) (sC cI cL sm q σ n k) (some (.int (ab (flow σ d)))) := by
  refine MC.of (by decide) (Nat.le_of_ble_eq_true rfl) ?_
  intro p e s m args below meth c A ls Q hx hb hml hr hts hown hlocks hA hP hD hK hS hl hQ
  have hown : s.vm.findClass RX2 = some m.cls := hown
  have hn10 := hst.1
  have hk16 := hst.2.1
  obtain ⟨a0, ha0, ea0⟩ := hst.2.2.2.2.1 d hd
  obtain ⟨c0, hc9, ec⟩ := hB.2.2.1 d (by omega)
  obtain ⟨wa, hwa, ewa⟩ := hB.1 a0 (by omega)
  obtain ⟨fa, hfa, efa⟩ := hB.2.1 a0 (by omega)
  obtain ⟨la, ela0⟩ : ∃ la, la = fa + wa := ⟨_, rfl⟩
  have ela : σ 0 a0 + σ 2 a0 = nI la := by rw [efa, ewa, nI_add, ela0]
  have hl : lv_has ls 6 [(0, .ref sm), (1, .ref (q.2.2 d))] := hl
  by_cases h10 : σ 10 d = 0
  · refine lv_aload_n hx hb dX2_amount_0 rfl (lv_at hl 1 rfl) ?_
    refine lv_iconst (v := 4) hx hb dX2_amount_1 (by decide) ?_
    refine s_ldD hx hb hK hP (σ := σ) (n := n) (k := k) (q := q) (sm := sm) (w0 := []) (w2 := []) (sp0 _) d (by omega) 4 rfl (by decide) (v := σ 10 d) rfl dX2_amount_2 ?_
    refine lv_if_ne (tgt := 8) hx hb dX2_amount_3 (by decide) (fun z => absurd (h10) z) (fun c_3 => ?_)
    refine lv_iconst (v := 0) hx hb dX2_amount_6 (by decide) ?_
    subst hQ
    exact ri hx hb hr hlocks hK hP hD hS dX2_amount_7 (rfl) (by rw [flow_shut h10]; rfl)
  · rcases hst.2.2.2.2.2 d hd with ⟨h6, h9⟩ | ⟨b0, hb0, eb0⟩
    · refine lv_aload_n hx hb dX2_amount_0 rfl (lv_at hl 1 rfl) ?_
      refine lv_iconst (v := 4) hx hb dX2_amount_1 (by decide) ?_
      refine s_ldD hx hb hK hP (σ := σ) (n := n) (k := k) (q := q) (sm := sm) (w0 := []) (w2 := []) (sp0 _) d (by omega) 4 rfl (by decide) (v := σ 10 d) rfl dX2_amount_2 ?_
      refine lv_if_ne (tgt := 8) hx hb dX2_amount_3 (by decide) (fun c_3 => ?_) (fun z => absurd z (h10))
      refine lv_aload_n hx hb dX2_amount_8 rfl (lv_at hl 0 rfl) ?_
      refine lv_aload_n hx hb dX2_amount_9 rfl (lv_at hl 1 rfl) ?_
      refine MC.callV0 (C := RX2) (T := TX2) (N := 5) (As := [.ref (q.2.2 d)]) (rest := []) (w0 := []) (w2 := []) (wB := sC cI cL sm q σ n k) (c_X2_isBack l D cI cZ cL sm q σ hst d hd) ⟨hx, hb, hml, hown, hts⟩ q467 b_X2_isBack (n := 1) (by decide +kernel) ⟨(Nat.le_of_ble_eq_true rfl), (Nat.le_of_ble_eq_true rfl)⟩ hK hP hD hS hA (sp0 _) (sp0 _) (ci := 2) rfl rfl rfl hl.1 rfl (Nat.le_of_ble_eq_true rfl) dX2_amount_10 ⟨(Nat.le_of_ble_eq_true rfl), (Nat.le_of_ble_eq_true rfl)⟩ (fun H locs hP hD hS => ?_)
      refine x_top (bk_p h9) ?_
      refine lv_if_eq (tgt := 22) hx hb dX2_amount_13 (by decide) (fun c_13 => ?_) (fun z => absurd (by decide) z)
      refine lv_aload_n hx hb dX2_amount_22 rfl (lv_at hl 1 rfl) ?_
      refine lv_iconst (v := 0) hx hb dX2_amount_23 (by decide) ?_
      refine s_ldD hx hb hK hP (σ := σ) (n := n) (k := k) (q := q) (sm := sm) (w0 := []) (w2 := []) (sp0 _) d (by omega) 0 rfl (by decide) (v := (nI a0)) ea0 dX2_amount_24 ?_
      refine lv_istore_n (lv' := [(2, .int (nI a0)), (0, .ref sm), (1, .ref (q.2.2 d))]) hx hb dX2_amount_25 rfl hl (by decide) rfl (fun ls hl => ?_)
      refine lv_aload_n hx hb dX2_amount_26 rfl (lv_at hl 1 rfl) ?_
      refine lv_aload_n hx hb dX2_amount_27 rfl (lv_at hl 2 rfl) ?_
      refine MC.callV0 (C := RX2) (T := TX2) (N := 5) (As := [.ref (q.2.2 d)]) (rest := []) (w0 := []) (w2 := []) (wB := sC cI cL sm q σ n k) (c_X2_isBack l D cI cZ cL sm q σ hst d hd) ⟨hx, hb, hml, hown, hts⟩ q467 b_X2_isBack (n := 1) (by decide +kernel) ⟨(Nat.le_of_ble_eq_true rfl), (Nat.le_of_ble_eq_true rfl)⟩ hK hP hD hS hA (sp0 _) (sp0 _) (ci := 2) rfl rfl rfl hl.1 rfl (Nat.le_of_ble_eq_true rfl) dX2_amount_28 ⟨(Nat.le_of_ble_eq_true rfl), (Nat.le_of_ble_eq_true rfl)⟩ (fun H locs hP hD hS => ?_)
      refine x_top (bk_p h9) ?_
      refine lv_if_eq (tgt := 40) hx hb dX2_amount_31 (by decide) (fun c_31 => ?_) (fun z => absurd (by decide) z)
      refine lv_aload_n hx hb dX2_amount_40 rfl (lv_at hl 2 rfl) ?_
      refine lv_iconst (v := 1) hx hb dX2_amount_41 (by decide) ?_
      refine s_ldD hx hb hK hP (σ := σ) (n := n) (k := k) (q := q) (sm := sm) (w0 := []) (w2 := []) (sp0 _) d (by omega) 1 rfl (by decide) (v := (-1)) h6 dX2_amount_42 ?_
      refine lv_istore_n (lv' := [(3, .int (-1)), (2, .int (nI a0)), (0, .ref sm), (1, .ref (q.2.2 d))]) hx hb dX2_amount_43 rfl hl (by decide) rfl (fun ls hl => ?_)
      refine lv_aload_n hx hb dX2_amount_44 rfl (lv_at hl 3 rfl) ?_
      refine lv_iconst (v := 2) hx hb dX2_amount_45 (by decide) ?_
      refine s_ldD hx hb hK hP (σ := σ) (n := n) (k := k) (q := q) (sm := sm) (w0 := []) (w2 := []) (sp0 _) d (by omega) 2 rfl (by decide) (v := (nI c0)) ec dX2_amount_46 ?_
      refine lv_istore (lv' := [(4, .int (nI c0)), (3, .int (-1)), (2, .int (nI a0)), (0, .ref sm), (1, .ref (q.2.2 d))]) hx hb dX2_amount_47 hl (by decide) rfl (fun ls hl => ?_)
      refine lv_aload_n hx hb dX2_amount_49 rfl (lv_at hl 4 rfl) ?_
      refine lv_iconst (v := 3) hx hb dX2_amount_50 (by decide) ?_
      refine s_ldD hx hb hK hP (σ := σ) (n := n) (k := k) (q := q) (sm := sm) (w0 := []) (w2 := []) (sp0 _) d (by omega) 3 rfl (by decide) (v := σ 9 d) rfl dX2_amount_51 ?_
      refine lv_if_ne (tgt := 83) hx hb dX2_amount_52 (by decide) (fun c_52 => ?_) (fun z => absurd z (h9))
      refine lv_iload hx hb dX2_amount_83 (lv_at hl 0 rfl) ?_
      refine lv_aload_n hx hb dX2_amount_85 rfl (lv_at hl 3 rfl) ?_
      refine s_get hx hb hts hown hK hP (σ := σ) (n := n) (k := k) (q := q) (sm := sm) (w0 := []) (w2 := []) (sp0 _) 0 (by decide) q433 (v := .ref q.1.1) rfl dX2_amount_86 ?_
      refine lv_iload_n hx hb dX2_amount_89 rfl (lv_at hl 2 rfl) ?_
      refine s_alF hx hb hK hP (σ := σ) (n := n) (k := k) (q := q) (sm := sm) (w0 := []) (w2 := []) (sp0 _) a0 (rfl) (by omega) (by omega) dX2_amount_90 ?_
      refine lv_iconst (v := 2) hx hb dX2_amount_91 (by decide) ?_
      refine s_ldF hx hb hK hP (σ := σ) (n := n) (k := k) (q := q) (sm := sm) (w0 := []) (w2 := []) (sp0 _) a0 (by omega) 2 rfl (by decide) (v := (nI wa)) ewa dX2_amount_92 ?_
      refine va_mmin hx hb (by rw [hml]; exact hl.1.symm) hown (hts _ q475) (hts _ q205) (hts _ q18) (hts _ q206) (by decide) (Nat.le_of_ble_eq_true rfl) (Nat.le_of_ble_eq_true rfl) (Nat.le_of_ble_eq_true rfl) dX2_amount_93 ?_
      refine x_top (show _ = mn (nI c0) (nI wa) from rfl) ?_
      subst hQ
      exact ri hx hb hr hlocks hK hP hD hS dX2_amount_96 (rfl) (by rw [mn_nI (by omega) (by omega), flow_pump h10 h9 ea0 (by omega) ewa ec (by omega) (by omega), ab_nI (by omega)])
    · by_cases h9 : σ 9 d = 0
      · obtain ⟨wb, hwb, ewb⟩ := hB.1 b0 (by omega)
        obtain ⟨fb, hfb, efb⟩ := hB.2.1 b0 (by omega)
        obtain ⟨lb, elb0⟩ : ∃ lb, lb = fb + wb := ⟨_, rfl⟩
        have elb : σ 0 b0 + σ 2 b0 = nI lb := by rw [efb, ewb, nI_add, elb0]
        rcases Nat.lt_or_ge la lb with hlt | hge
        · refine lv_aload_n hx hb dX2_amount_0 rfl (lv_at hl 1 rfl) ?_
          refine lv_iconst (v := 4) hx hb dX2_amount_1 (by decide) ?_
          refine s_ldD hx hb hK hP (σ := σ) (n := n) (k := k) (q := q) (sm := sm) (w0 := []) (w2 := []) (sp0 _) d (by omega) 4 rfl (by decide) (v := σ 10 d) rfl dX2_amount_2 ?_
          refine lv_if_ne (tgt := 8) hx hb dX2_amount_3 (by decide) (fun c_3 => ?_) (fun z => absurd z (h10))
          refine lv_aload_n hx hb dX2_amount_8 rfl (lv_at hl 0 rfl) ?_
          refine lv_aload_n hx hb dX2_amount_9 rfl (lv_at hl 1 rfl) ?_
          refine MC.callV0 (C := RX2) (T := TX2) (N := 5) (As := [.ref (q.2.2 d)]) (rest := []) (w0 := []) (w2 := []) (wB := sC cI cL sm q σ n k) (c_X2_isBack l D cI cZ cL sm q σ hst d hd) ⟨hx, hb, hml, hown, hts⟩ q467 b_X2_isBack (n := 1) (by decide +kernel) ⟨(Nat.le_of_ble_eq_true rfl), (Nat.le_of_ble_eq_true rfl)⟩ hK hP hD hS hA (sp0 _) (sp0 _) (ci := 2) rfl rfl rfl hl.1 rfl (Nat.le_of_ble_eq_true rfl) dX2_amount_10 ⟨(Nat.le_of_ble_eq_true rfl), (Nat.le_of_ble_eq_true rfl)⟩ (fun H locs hP hD hS => ?_)
          refine x_top (bk_lt h9 ea0 eb0 (by omega) (by omega) ela elb (by omega) hlt) ?_
          refine lv_if_eq (tgt := 22) hx hb dX2_amount_13 (by decide) (fun z => absurd z (by decide)) (fun c_13 => ?_)
          refine lv_aload_n hx hb dX2_amount_16 rfl (lv_at hl 1 rfl) ?_
          refine lv_iconst (v := 1) hx hb dX2_amount_17 (by decide) ?_
          refine s_ldD hx hb hK hP (σ := σ) (n := n) (k := k) (q := q) (sm := sm) (w0 := []) (w2 := []) (sp0 _) d (by omega) 1 rfl (by decide) (v := (nI b0)) eb0 dX2_amount_18 ?_
          refine lv_goto (tgt := 25) hx hb dX2_amount_19 (by decide) ?_
          refine lv_istore_n (lv' := [(2, .int (nI b0)), (0, .ref sm), (1, .ref (q.2.2 d))]) hx hb dX2_amount_25 rfl hl (by decide) rfl (fun ls hl => ?_)
          refine lv_aload_n hx hb dX2_amount_26 rfl (lv_at hl 1 rfl) ?_
          refine lv_aload_n hx hb dX2_amount_27 rfl (lv_at hl 2 rfl) ?_
          refine MC.callV0 (C := RX2) (T := TX2) (N := 5) (As := [.ref (q.2.2 d)]) (rest := []) (w0 := []) (w2 := []) (wB := sC cI cL sm q σ n k) (c_X2_isBack l D cI cZ cL sm q σ hst d hd) ⟨hx, hb, hml, hown, hts⟩ q467 b_X2_isBack (n := 1) (by decide +kernel) ⟨(Nat.le_of_ble_eq_true rfl), (Nat.le_of_ble_eq_true rfl)⟩ hK hP hD hS hA (sp0 _) (sp0 _) (ci := 2) rfl rfl rfl hl.1 rfl (Nat.le_of_ble_eq_true rfl) dX2_amount_28 ⟨(Nat.le_of_ble_eq_true rfl), (Nat.le_of_ble_eq_true rfl)⟩ (fun H locs hP hD hS => ?_)
          refine x_top (bk_lt h9 ea0 eb0 (by omega) (by omega) ela elb (by omega) hlt) ?_
          refine lv_if_eq (tgt := 40) hx hb dX2_amount_31 (by decide) (fun z => absurd z (by decide)) (fun c_31 => ?_)
          refine lv_aload_n hx hb dX2_amount_34 rfl (lv_at hl 2 rfl) ?_
          refine lv_iconst (v := 0) hx hb dX2_amount_35 (by decide) ?_
          refine s_ldD hx hb hK hP (σ := σ) (n := n) (k := k) (q := q) (sm := sm) (w0 := []) (w2 := []) (sp0 _) d (by omega) 0 rfl (by decide) (v := (nI a0)) ea0 dX2_amount_36 ?_
          refine lv_goto (tgt := 43) hx hb dX2_amount_37 (by decide) ?_
          refine lv_istore_n (lv' := [(3, .int (nI a0)), (2, .int (nI b0)), (0, .ref sm), (1, .ref (q.2.2 d))]) hx hb dX2_amount_43 rfl hl (by decide) rfl (fun ls hl => ?_)
          refine lv_aload_n hx hb dX2_amount_44 rfl (lv_at hl 3 rfl) ?_
          refine lv_iconst (v := 2) hx hb dX2_amount_45 (by decide) ?_
          refine s_ldD hx hb hK hP (σ := σ) (n := n) (k := k) (q := q) (sm := sm) (w0 := []) (w2 := []) (sp0 _) d (by omega) 2 rfl (by decide) (v := (nI c0)) ec dX2_amount_46 ?_
          refine lv_istore (lv' := [(4, .int (nI c0)), (3, .int (nI a0)), (2, .int (nI b0)), (0, .ref sm), (1, .ref (q.2.2 d))]) hx hb dX2_amount_47 hl (by decide) rfl (fun ls hl => ?_)
          refine lv_aload_n hx hb dX2_amount_49 rfl (lv_at hl 4 rfl) ?_
          refine lv_iconst (v := 3) hx hb dX2_amount_50 (by decide) ?_
          refine s_ldD hx hb hK hP (σ := σ) (n := n) (k := k) (q := q) (sm := sm) (w0 := []) (w2 := []) (sp0 _) d (by omega) 3 rfl (by decide) (v := σ 9 d) rfl dX2_amount_51 ?_
          refine lv_if_ne (tgt := 83) hx hb dX2_amount_52 (by decide) (fun z => absurd (h9) z) (fun c_52 => ?_)
          refine lv_aload_n hx hb dX2_amount_55 rfl (lv_at hl 3 rfl) ?_
          refine lv_iload_n hx hb dX2_amount_56 rfl (lv_at hl 2 rfl) ?_
          refine MC.callV0 (C := RX2) (T := TX2) (N := 5) (As := [.int (nI b0)]) (rest := []) (w0 := []) (w2 := []) (wB := sC cI cL sm q σ n k) (c_X2_level l D cI cZ cL sm q σ hst b0 (by omega)) ⟨hx, hb, hml, hown, hts⟩ q471 b_X2_level (n := 1) (by decide +kernel) ⟨(Nat.le_of_ble_eq_true rfl), (Nat.le_of_ble_eq_true rfl)⟩ hK hP hD hS hA (sp0 _) (sp0 _) (ci := 2) rfl rfl rfl hl.1 rfl (Nat.le_of_ble_eq_true rfl) dX2_amount_57 ⟨(Nat.le_of_ble_eq_true rfl), (Nat.le_of_ble_eq_true rfl)⟩ (fun H locs hP hD hS => ?_)
          refine x_top elb ?_
          refine lv_aload_n hx hb dX2_amount_60 rfl (lv_at hl 3 rfl) ?_
          refine lv_iload_n hx hb dX2_amount_61 rfl (lv_at hl 1 rfl) ?_
          refine MC.callV0 (C := RX2) (T := TX2) (N := 5) (As := [.int (nI a0)]) (rest := [.int (nI lb)]) (w0 := []) (w2 := []) (wB := sC cI cL sm q σ n k) (c_X2_level l D cI cZ cL sm q σ hst a0 (by omega)) ⟨hx, hb, hml, hown, hts⟩ q471 b_X2_level (n := 1) (by decide +kernel) ⟨(Nat.le_of_ble_eq_true rfl), (Nat.le_of_ble_eq_true rfl)⟩ hK hP hD hS hA (sp0 _) (sp0 _) (ci := 2) rfl rfl rfl hl.1 rfl (Nat.le_of_ble_eq_true rfl) dX2_amount_62 ⟨(Nat.le_of_ble_eq_true rfl), (Nat.le_of_ble_eq_true rfl)⟩ (fun H locs hP hD hS => ?_)
          refine x_top ela ?_
          refine lv_isub hx hb dX2_amount_65 ?_
          refine x_top (pk_sub (Nat.le_of_lt hlt)) ?_
          refine lv_istore (lv' := [(5, .int (nI (lb - la))), (4, .int (nI c0)), (3, .int (nI a0)), (2, .int (nI b0)), (0, .ref sm), (1, .ref (q.2.2 d))]) hx hb dX2_amount_66 hl (by decide) rfl (fun ls hl => ?_)
          have hl : lv_has ls 6 [(5, .int (nI (lb - la))), (4, .int (nI (c0 - 0))), (3, .int (nI a0)), (2, .int (nI b0)), (0, .ref sm), (1, .ref (q.2.2 d))] := hl
          have L68 : ∀ (f i : Nat), i ≤ c0 → c0 < i + f → min (c0 - i) ((lb - la) / 2) = min c0 ((lb - la) / 2) → ∀ (H : Heap) (locs : List Loc) (ls : Array Slot), va_P D vwCl (sC cI cL sm q σ n k) H → va_D A (sC cI cL sm q σ n k) → va_S A s.heap H locs → lv_has ls 6 [(0, .ref sm), (1, .ref (q.2.2 d)), (2, .int (nI b0)), (3, .int (nI a0)), (4, .int (nI (c0 - i))), (5, .int (nI (lb - la)))] → W p l e rmX2_amount s m args below meth c H locs 0 0 Q (F0 m 68 ls []) := by
            intro f
            induction f with
            | zero => intro i h1 h2; exact absurd h2 (by omega)
            | succ f ih_68 =>
              intro i hi_68 hf_68 hm H locs ls hP hD hS hl
              refine lv_iconst (v := 2) hx hb dX2_amount_68 (by decide) ?_
              refine lv_iload hx hb dX2_amount_69 (lv_at hl 4 rfl) ?_
              refine lv_imul hx hb dX2_amount_71 ?_
              refine x_top (two_nI (c0 - i)) ?_
              refine lv_iload hx hb dX2_amount_72 (lv_at hl 5 rfl) ?_
              refine lv_icmp_le (tgt := 83) hx hb dX2_amount_74 (by decide) (fun c_74 => ?_) (fun c_74 => ?_)
              · have hc_74 : (2 * (c0 - i)) ≤ (lb - la) := (nI_leI (a := (2 * (c0 - i))) (b := (lb - la)) (by omega) (by omega)).mp c_74
                refine lv_iload hx hb dX2_amount_83 (lv_at hl 4 rfl) ?_
                refine lv_aload_n hx hb dX2_amount_85 rfl (lv_at hl 0 rfl) ?_
                refine s_get hx hb hts hown hK hP (σ := σ) (n := n) (k := k) (q := q) (sm := sm) (w0 := []) (w2 := []) (sp0 _) 0 (by decide) q433 (v := .ref q.1.1) rfl dX2_amount_86 ?_
                refine lv_iload_n hx hb dX2_amount_89 rfl (lv_at hl 2 rfl) ?_
                refine s_alF hx hb hK hP (σ := σ) (n := n) (k := k) (q := q) (sm := sm) (w0 := []) (w2 := []) (sp0 _) b0 (rfl) (by omega) (by omega) dX2_amount_90 ?_
                refine lv_iconst (v := 2) hx hb dX2_amount_91 (by decide) ?_
                refine s_ldF hx hb hK hP (σ := σ) (n := n) (k := k) (q := q) (sm := sm) (w0 := []) (w2 := []) (sp0 _) b0 (by omega) 2 rfl (by decide) (v := (nI wb)) ewb dX2_amount_92 ?_
                refine va_mmin hx hb (by rw [hml]; exact hl.1.symm) hown (hts _ q475) (hts _ q205) (hts _ q18) (hts _ q206) (by decide) (Nat.le_of_ble_eq_true rfl) (Nat.le_of_ble_eq_true rfl) (Nat.le_of_ble_eq_true rfl) dX2_amount_93 ?_
                refine x_top (show _ = mn (nI (c0 - i)) (nI wb) from rfl) ?_
                subst hQ
                exact ri hx hb hr hlocks hK hP hD hS dX2_amount_96 (rfl) (by rw [mn_nI (by omega) (by omega), flow_lt h10 h9 ea0 eb0 (by omega) (by omega) ela elb ewb ewa ec (by omega) (by omega) (by omega) (by omega) hlt, ab_neg (by omega), show c0 - i = min c0 ((lb - la) / 2) by omega])
              · have hc_74 : (lb - la) < (2 * (c0 - i)) := Nat.not_le.mp (fun z => c_74 ((nI_leI (a := (2 * (c0 - i))) (b := (lb - la)) (by omega) (by omega)).mpr z))
                refine lv_iinc (v := (nI (c0 - (i + 1)))) (lv' := [(4, .int (nI (c0 - (i + 1)))), (0, .ref sm), (1, .ref (q.2.2 d)), (2, .int (nI b0)), (3, .int (nI a0)), (5, .int (nI (lb - la)))]) hx hb dX2_amount_77 hl (k := 4) rfl ((dec_nI (a := c0 - i) (by omega)).trans (by rw [Nat.sub_sub])) (by decide) rfl (fun ls hl => ?_)
                refine lv_goto (tgt := 68) hx hb dX2_amount_80 (by decide) ?_
                exact ih_68 (i + 1) (by omega) (by omega) (by omega) _ _ _ hP hD hS (lv_sub hl [1, 2, 3, 4, 0, 5] rfl)
          exact L68 (c0 + 1) 0 (by omega) (by omega) rfl _ _ _ hP hD hS (lv_sub hl [4, 5, 3, 2, 1, 0] rfl)
        · refine lv_aload_n hx hb dX2_amount_0 rfl (lv_at hl 1 rfl) ?_
          refine lv_iconst (v := 4) hx hb dX2_amount_1 (by decide) ?_
          refine s_ldD hx hb hK hP (σ := σ) (n := n) (k := k) (q := q) (sm := sm) (w0 := []) (w2 := []) (sp0 _) d (by omega) 4 rfl (by decide) (v := σ 10 d) rfl dX2_amount_2 ?_
          refine lv_if_ne (tgt := 8) hx hb dX2_amount_3 (by decide) (fun c_3 => ?_) (fun z => absurd z (h10))
          refine lv_aload_n hx hb dX2_amount_8 rfl (lv_at hl 0 rfl) ?_
          refine lv_aload_n hx hb dX2_amount_9 rfl (lv_at hl 1 rfl) ?_
          refine MC.callV0 (C := RX2) (T := TX2) (N := 5) (As := [.ref (q.2.2 d)]) (rest := []) (w0 := []) (w2 := []) (wB := sC cI cL sm q σ n k) (c_X2_isBack l D cI cZ cL sm q σ hst d hd) ⟨hx, hb, hml, hown, hts⟩ q467 b_X2_isBack (n := 1) (by decide +kernel) ⟨(Nat.le_of_ble_eq_true rfl), (Nat.le_of_ble_eq_true rfl)⟩ hK hP hD hS hA (sp0 _) (sp0 _) (ci := 2) rfl rfl rfl hl.1 rfl (Nat.le_of_ble_eq_true rfl) dX2_amount_10 ⟨(Nat.le_of_ble_eq_true rfl), (Nat.le_of_ble_eq_true rfl)⟩ (fun H locs hP hD hS => ?_)
          refine x_top (bk_ge h9 ea0 eb0 (by omega) (by omega) ela elb (by omega) hge) ?_
          refine lv_if_eq (tgt := 22) hx hb dX2_amount_13 (by decide) (fun c_13 => ?_) (fun z => absurd (by decide) z)
          refine lv_aload_n hx hb dX2_amount_22 rfl (lv_at hl 1 rfl) ?_
          refine lv_iconst (v := 0) hx hb dX2_amount_23 (by decide) ?_
          refine s_ldD hx hb hK hP (σ := σ) (n := n) (k := k) (q := q) (sm := sm) (w0 := []) (w2 := []) (sp0 _) d (by omega) 0 rfl (by decide) (v := (nI a0)) ea0 dX2_amount_24 ?_
          refine lv_istore_n (lv' := [(2, .int (nI a0)), (0, .ref sm), (1, .ref (q.2.2 d))]) hx hb dX2_amount_25 rfl hl (by decide) rfl (fun ls hl => ?_)
          refine lv_aload_n hx hb dX2_amount_26 rfl (lv_at hl 1 rfl) ?_
          refine lv_aload_n hx hb dX2_amount_27 rfl (lv_at hl 2 rfl) ?_
          refine MC.callV0 (C := RX2) (T := TX2) (N := 5) (As := [.ref (q.2.2 d)]) (rest := []) (w0 := []) (w2 := []) (wB := sC cI cL sm q σ n k) (c_X2_isBack l D cI cZ cL sm q σ hst d hd) ⟨hx, hb, hml, hown, hts⟩ q467 b_X2_isBack (n := 1) (by decide +kernel) ⟨(Nat.le_of_ble_eq_true rfl), (Nat.le_of_ble_eq_true rfl)⟩ hK hP hD hS hA (sp0 _) (sp0 _) (ci := 2) rfl rfl rfl hl.1 rfl (Nat.le_of_ble_eq_true rfl) dX2_amount_28 ⟨(Nat.le_of_ble_eq_true rfl), (Nat.le_of_ble_eq_true rfl)⟩ (fun H locs hP hD hS => ?_)
          refine x_top (bk_ge h9 ea0 eb0 (by omega) (by omega) ela elb (by omega) hge) ?_
          refine lv_if_eq (tgt := 40) hx hb dX2_amount_31 (by decide) (fun c_31 => ?_) (fun z => absurd (by decide) z)
          refine lv_aload_n hx hb dX2_amount_40 rfl (lv_at hl 2 rfl) ?_
          refine lv_iconst (v := 1) hx hb dX2_amount_41 (by decide) ?_
          refine s_ldD hx hb hK hP (σ := σ) (n := n) (k := k) (q := q) (sm := sm) (w0 := []) (w2 := []) (sp0 _) d (by omega) 1 rfl (by decide) (v := (nI b0)) eb0 dX2_amount_42 ?_
          refine lv_istore_n (lv' := [(3, .int (nI b0)), (2, .int (nI a0)), (0, .ref sm), (1, .ref (q.2.2 d))]) hx hb dX2_amount_43 rfl hl (by decide) rfl (fun ls hl => ?_)
          refine lv_aload_n hx hb dX2_amount_44 rfl (lv_at hl 3 rfl) ?_
          refine lv_iconst (v := 2) hx hb dX2_amount_45 (by decide) ?_
          refine s_ldD hx hb hK hP (σ := σ) (n := n) (k := k) (q := q) (sm := sm) (w0 := []) (w2 := []) (sp0 _) d (by omega) 2 rfl (by decide) (v := (nI c0)) ec dX2_amount_46 ?_
          refine lv_istore (lv' := [(4, .int (nI c0)), (3, .int (nI b0)), (2, .int (nI a0)), (0, .ref sm), (1, .ref (q.2.2 d))]) hx hb dX2_amount_47 hl (by decide) rfl (fun ls hl => ?_)
          refine lv_aload_n hx hb dX2_amount_49 rfl (lv_at hl 4 rfl) ?_
          refine lv_iconst (v := 3) hx hb dX2_amount_50 (by decide) ?_
          refine s_ldD hx hb hK hP (σ := σ) (n := n) (k := k) (q := q) (sm := sm) (w0 := []) (w2 := []) (sp0 _) d (by omega) 3 rfl (by decide) (v := σ 9 d) rfl dX2_amount_51 ?_
          refine lv_if_ne (tgt := 83) hx hb dX2_amount_52 (by decide) (fun z => absurd (h9) z) (fun c_52 => ?_)
          refine lv_aload_n hx hb dX2_amount_55 rfl (lv_at hl 3 rfl) ?_
          refine lv_iload_n hx hb dX2_amount_56 rfl (lv_at hl 2 rfl) ?_
          refine MC.callV0 (C := RX2) (T := TX2) (N := 5) (As := [.int (nI a0)]) (rest := []) (w0 := []) (w2 := []) (wB := sC cI cL sm q σ n k) (c_X2_level l D cI cZ cL sm q σ hst a0 (by omega)) ⟨hx, hb, hml, hown, hts⟩ q471 b_X2_level (n := 1) (by decide +kernel) ⟨(Nat.le_of_ble_eq_true rfl), (Nat.le_of_ble_eq_true rfl)⟩ hK hP hD hS hA (sp0 _) (sp0 _) (ci := 2) rfl rfl rfl hl.1 rfl (Nat.le_of_ble_eq_true rfl) dX2_amount_57 ⟨(Nat.le_of_ble_eq_true rfl), (Nat.le_of_ble_eq_true rfl)⟩ (fun H locs hP hD hS => ?_)
          refine x_top ela ?_
          refine lv_aload_n hx hb dX2_amount_60 rfl (lv_at hl 3 rfl) ?_
          refine lv_iload_n hx hb dX2_amount_61 rfl (lv_at hl 1 rfl) ?_
          refine MC.callV0 (C := RX2) (T := TX2) (N := 5) (As := [.int (nI b0)]) (rest := [.int (nI la)]) (w0 := []) (w2 := []) (wB := sC cI cL sm q σ n k) (c_X2_level l D cI cZ cL sm q σ hst b0 (by omega)) ⟨hx, hb, hml, hown, hts⟩ q471 b_X2_level (n := 1) (by decide +kernel) ⟨(Nat.le_of_ble_eq_true rfl), (Nat.le_of_ble_eq_true rfl)⟩ hK hP hD hS hA (sp0 _) (sp0 _) (ci := 2) rfl rfl rfl hl.1 rfl (Nat.le_of_ble_eq_true rfl) dX2_amount_62 ⟨(Nat.le_of_ble_eq_true rfl), (Nat.le_of_ble_eq_true rfl)⟩ (fun H locs hP hD hS => ?_)
          refine x_top elb ?_
          refine lv_isub hx hb dX2_amount_65 ?_
          refine x_top (pk_sub hge) ?_
          refine lv_istore (lv' := [(5, .int (nI (la - lb))), (4, .int (nI c0)), (3, .int (nI b0)), (2, .int (nI a0)), (0, .ref sm), (1, .ref (q.2.2 d))]) hx hb dX2_amount_66 hl (by decide) rfl (fun ls hl => ?_)
          have hl : lv_has ls 6 [(5, .int (nI (la - lb))), (4, .int (nI (c0 - 0))), (3, .int (nI b0)), (2, .int (nI a0)), (0, .ref sm), (1, .ref (q.2.2 d))] := hl
          have L68 : ∀ (f i : Nat), i ≤ c0 → c0 < i + f → min (c0 - i) ((la - lb) / 2) = min c0 ((la - lb) / 2) → ∀ (H : Heap) (locs : List Loc) (ls : Array Slot), va_P D vwCl (sC cI cL sm q σ n k) H → va_D A (sC cI cL sm q σ n k) → va_S A s.heap H locs → lv_has ls 6 [(0, .ref sm), (1, .ref (q.2.2 d)), (2, .int (nI a0)), (3, .int (nI b0)), (4, .int (nI (c0 - i))), (5, .int (nI (la - lb)))] → W p l e rmX2_amount s m args below meth c H locs 0 0 Q (F0 m 68 ls []) := by
            intro f
            induction f with
            | zero => intro i h1 h2; exact absurd h2 (by omega)
            | succ f ih_68 =>
              intro i hi_68 hf_68 hm H locs ls hP hD hS hl
              refine lv_iconst (v := 2) hx hb dX2_amount_68 (by decide) ?_
              refine lv_iload hx hb dX2_amount_69 (lv_at hl 4 rfl) ?_
              refine lv_imul hx hb dX2_amount_71 ?_
              refine x_top (two_nI (c0 - i)) ?_
              refine lv_iload hx hb dX2_amount_72 (lv_at hl 5 rfl) ?_
              refine lv_icmp_le (tgt := 83) hx hb dX2_amount_74 (by decide) (fun c_74 => ?_) (fun c_74 => ?_)
              · have hc_74 : (2 * (c0 - i)) ≤ (la - lb) := (nI_leI (a := (2 * (c0 - i))) (b := (la - lb)) (by omega) (by omega)).mp c_74
                refine lv_iload hx hb dX2_amount_83 (lv_at hl 4 rfl) ?_
                refine lv_aload_n hx hb dX2_amount_85 rfl (lv_at hl 0 rfl) ?_
                refine s_get hx hb hts hown hK hP (σ := σ) (n := n) (k := k) (q := q) (sm := sm) (w0 := []) (w2 := []) (sp0 _) 0 (by decide) q433 (v := .ref q.1.1) rfl dX2_amount_86 ?_
                refine lv_iload_n hx hb dX2_amount_89 rfl (lv_at hl 2 rfl) ?_
                refine s_alF hx hb hK hP (σ := σ) (n := n) (k := k) (q := q) (sm := sm) (w0 := []) (w2 := []) (sp0 _) a0 (rfl) (by omega) (by omega) dX2_amount_90 ?_
                refine lv_iconst (v := 2) hx hb dX2_amount_91 (by decide) ?_
                refine s_ldF hx hb hK hP (σ := σ) (n := n) (k := k) (q := q) (sm := sm) (w0 := []) (w2 := []) (sp0 _) a0 (by omega) 2 rfl (by decide) (v := (nI wa)) ewa dX2_amount_92 ?_
                refine va_mmin hx hb (by rw [hml]; exact hl.1.symm) hown (hts _ q475) (hts _ q205) (hts _ q18) (hts _ q206) (by decide) (Nat.le_of_ble_eq_true rfl) (Nat.le_of_ble_eq_true rfl) (Nat.le_of_ble_eq_true rfl) dX2_amount_93 ?_
                refine x_top (show _ = mn (nI (c0 - i)) (nI wa) from rfl) ?_
                subst hQ
                exact ri hx hb hr hlocks hK hP hD hS dX2_amount_96 (rfl) (by rw [mn_nI (by omega) (by omega), flow_ge h10 h9 ea0 eb0 (by omega) (by omega) ela elb ewa ec (by omega) (by omega) (by omega) hge, ab_nI (by omega), show c0 - i = min c0 ((la - lb) / 2) by omega])
              · have hc_74 : (la - lb) < (2 * (c0 - i)) := Nat.not_le.mp (fun z => c_74 ((nI_leI (a := (2 * (c0 - i))) (b := (la - lb)) (by omega) (by omega)).mpr z))
                refine lv_iinc (v := (nI (c0 - (i + 1)))) (lv' := [(4, .int (nI (c0 - (i + 1)))), (0, .ref sm), (1, .ref (q.2.2 d)), (2, .int (nI a0)), (3, .int (nI b0)), (5, .int (nI (la - lb)))]) hx hb dX2_amount_77 hl (k := 4) rfl ((dec_nI (a := c0 - i) (by omega)).trans (by rw [Nat.sub_sub])) (by decide) rfl (fun ls hl => ?_)
                refine lv_goto (tgt := 68) hx hb dX2_amount_80 (by decide) ?_
                exact ih_68 (i + 1) (by omega) (by omega) (by omega) _ _ _ hP hD hS (lv_sub hl [1, 2, 3, 4, 0, 5] rfl)
          exact L68 (c0 + 1) 0 (by omega) (by omega) rfl _ _ _ hP hD hS (lv_sub hl [4, 5, 3, 2, 1, 0] rfl)
      · refine lv_aload_n hx hb dX2_amount_0 rfl (lv_at hl 1 rfl) ?_
        refine lv_iconst (v := 4) hx hb dX2_amount_1 (by decide) ?_
        refine s_ldD hx hb hK hP (σ := σ) (n := n) (k := k) (q := q) (sm := sm) (w0 := []) (w2 := []) (sp0 _) d (by omega) 4 rfl (by decide) (v := σ 10 d) rfl dX2_amount_2 ?_
        refine lv_if_ne (tgt := 8) hx hb dX2_amount_3 (by decide) (fun c_3 => ?_) (fun z => absurd z (h10))
        refine lv_aload_n hx hb dX2_amount_8 rfl (lv_at hl 0 rfl) ?_
        refine lv_aload_n hx hb dX2_amount_9 rfl (lv_at hl 1 rfl) ?_
        refine MC.callV0 (C := RX2) (T := TX2) (N := 5) (As := [.ref (q.2.2 d)]) (rest := []) (w0 := []) (w2 := []) (wB := sC cI cL sm q σ n k) (c_X2_isBack l D cI cZ cL sm q σ hst d hd) ⟨hx, hb, hml, hown, hts⟩ q467 b_X2_isBack (n := 1) (by decide +kernel) ⟨(Nat.le_of_ble_eq_true rfl), (Nat.le_of_ble_eq_true rfl)⟩ hK hP hD hS hA (sp0 _) (sp0 _) (ci := 2) rfl rfl rfl hl.1 rfl (Nat.le_of_ble_eq_true rfl) dX2_amount_10 ⟨(Nat.le_of_ble_eq_true rfl), (Nat.le_of_ble_eq_true rfl)⟩ (fun H locs hP hD hS => ?_)
        refine x_top (bk_p h9) ?_
        refine lv_if_eq (tgt := 22) hx hb dX2_amount_13 (by decide) (fun c_13 => ?_) (fun z => absurd (by decide) z)
        refine lv_aload_n hx hb dX2_amount_22 rfl (lv_at hl 1 rfl) ?_
        refine lv_iconst (v := 0) hx hb dX2_amount_23 (by decide) ?_
        refine s_ldD hx hb hK hP (σ := σ) (n := n) (k := k) (q := q) (sm := sm) (w0 := []) (w2 := []) (sp0 _) d (by omega) 0 rfl (by decide) (v := (nI a0)) ea0 dX2_amount_24 ?_
        refine lv_istore_n (lv' := [(2, .int (nI a0)), (0, .ref sm), (1, .ref (q.2.2 d))]) hx hb dX2_amount_25 rfl hl (by decide) rfl (fun ls hl => ?_)
        refine lv_aload_n hx hb dX2_amount_26 rfl (lv_at hl 1 rfl) ?_
        refine lv_aload_n hx hb dX2_amount_27 rfl (lv_at hl 2 rfl) ?_
        refine MC.callV0 (C := RX2) (T := TX2) (N := 5) (As := [.ref (q.2.2 d)]) (rest := []) (w0 := []) (w2 := []) (wB := sC cI cL sm q σ n k) (c_X2_isBack l D cI cZ cL sm q σ hst d hd) ⟨hx, hb, hml, hown, hts⟩ q467 b_X2_isBack (n := 1) (by decide +kernel) ⟨(Nat.le_of_ble_eq_true rfl), (Nat.le_of_ble_eq_true rfl)⟩ hK hP hD hS hA (sp0 _) (sp0 _) (ci := 2) rfl rfl rfl hl.1 rfl (Nat.le_of_ble_eq_true rfl) dX2_amount_28 ⟨(Nat.le_of_ble_eq_true rfl), (Nat.le_of_ble_eq_true rfl)⟩ (fun H locs hP hD hS => ?_)
        refine x_top (bk_p h9) ?_
        refine lv_if_eq (tgt := 40) hx hb dX2_amount_31 (by decide) (fun c_31 => ?_) (fun z => absurd (by decide) z)
        refine lv_aload_n hx hb dX2_amount_40 rfl (lv_at hl 2 rfl) ?_
        refine lv_iconst (v := 1) hx hb dX2_amount_41 (by decide) ?_
        refine s_ldD hx hb hK hP (σ := σ) (n := n) (k := k) (q := q) (sm := sm) (w0 := []) (w2 := []) (sp0 _) d (by omega) 1 rfl (by decide) (v := (nI b0)) eb0 dX2_amount_42 ?_
        refine lv_istore_n (lv' := [(3, .int (nI b0)), (2, .int (nI a0)), (0, .ref sm), (1, .ref (q.2.2 d))]) hx hb dX2_amount_43 rfl hl (by decide) rfl (fun ls hl => ?_)
        refine lv_aload_n hx hb dX2_amount_44 rfl (lv_at hl 3 rfl) ?_
        refine lv_iconst (v := 2) hx hb dX2_amount_45 (by decide) ?_
        refine s_ldD hx hb hK hP (σ := σ) (n := n) (k := k) (q := q) (sm := sm) (w0 := []) (w2 := []) (sp0 _) d (by omega) 2 rfl (by decide) (v := (nI c0)) ec dX2_amount_46 ?_
        refine lv_istore (lv' := [(4, .int (nI c0)), (3, .int (nI b0)), (2, .int (nI a0)), (0, .ref sm), (1, .ref (q.2.2 d))]) hx hb dX2_amount_47 hl (by decide) rfl (fun ls hl => ?_)
        refine lv_aload_n hx hb dX2_amount_49 rfl (lv_at hl 4 rfl) ?_
        refine lv_iconst (v := 3) hx hb dX2_amount_50 (by decide) ?_
        refine s_ldD hx hb hK hP (σ := σ) (n := n) (k := k) (q := q) (sm := sm) (w0 := []) (w2 := []) (sp0 _) d (by omega) 3 rfl (by decide) (v := σ 9 d) rfl dX2_amount_51 ?_
        refine lv_if_ne (tgt := 83) hx hb dX2_amount_52 (by decide) (fun c_52 => ?_) (fun z => absurd z (h9))
        refine lv_iload hx hb dX2_amount_83 (lv_at hl 0 rfl) ?_
        refine lv_aload_n hx hb dX2_amount_85 rfl (lv_at hl 3 rfl) ?_
        refine s_get hx hb hts hown hK hP (σ := σ) (n := n) (k := k) (q := q) (sm := sm) (w0 := []) (w2 := []) (sp0 _) 0 (by decide) q433 (v := .ref q.1.1) rfl dX2_amount_86 ?_
        refine lv_iload_n hx hb dX2_amount_89 rfl (lv_at hl 2 rfl) ?_
        refine s_alF hx hb hK hP (σ := σ) (n := n) (k := k) (q := q) (sm := sm) (w0 := []) (w2 := []) (sp0 _) a0 (rfl) (by omega) (by omega) dX2_amount_90 ?_
        refine lv_iconst (v := 2) hx hb dX2_amount_91 (by decide) ?_
        refine s_ldF hx hb hK hP (σ := σ) (n := n) (k := k) (q := q) (sm := sm) (w0 := []) (w2 := []) (sp0 _) a0 (by omega) 2 rfl (by decide) (v := (nI wa)) ewa dX2_amount_92 ?_
        refine va_mmin hx hb (by rw [hml]; exact hl.1.symm) hown (hts _ q475) (hts _ q205) (hts _ q18) (hts _ q206) (by decide) (Nat.le_of_ble_eq_true rfl) (Nat.le_of_ble_eq_true rfl) (Nat.le_of_ble_eq_true rfl) dX2_amount_93 ?_
        refine x_top (show _ = mn (nI c0) (nI wa) from rfl) ?_
        subst hQ
        exact ri hx hb hr hlocks hK hP hD hS dX2_amount_96 (rfl) (by rw [mn_nI (by omega) (by omega), flow_pump h10 h9 ea0 (by omega) ewa ec (by omega) (by omega), ab_nI (by omega)])

abbrev rmX2_carry : Room := { frames := 3, cells := 0, slots := 0, locals := 85 }
theorem b_X2_carry : Cond.instanceMethod yX2_carry ∈ LW ∧ Cond.selects RX2 yX2_carry yX2_carry ∈ LW ∧ Cond.initialized RX2 ∈ LW ∧ Cond.code yX2_carry cX2_carry 4 none ∈ LW := ⟨q460, q461, q11, q462⟩
set_option maxHeartbeats 4000000 in
set_option maxRecDepth 100000 in
theorem c_X2_carry (l : Launch) (D : va_G) (cI cZ cL : ClassId) {n k : Nat} (sm : Nat) (q : SA) (σ : Sg) (hst : Shp n k σ) {B : Nat} (hB : Bnd B σ) (hB2 : B < 2 ^ 29) (d : Nat) (hd : d < k) : MC l yX2_carry cX2_carry 4 none rmX2_carry D (tZ cI cZ cL) [.ref sm, .ref (q.2.2 d)] (sC cI cL sm q σ n k) (sC cI cL sm q (carryB d σ) n k) (none) := by
  refine MC.of (by decide) (Nat.le_of_ble_eq_true rfl) ?_
  intro p e s m args below meth c A ls Q hx hb hml hr hts hown hlocks hA hP hD hK hS hl hQ
  have hown : s.vm.findClass RX2 = some m.cls := hown
  have hn10 := hst.1
  have hk16 := hst.2.1
  obtain ⟨a0, ha0, ea0⟩ := hst.2.2.2.2.1 d hd
  obtain ⟨c0, hc9, ec⟩ := hB.2.2.1 d (by omega)
  obtain ⟨wa, hwa, ewa⟩ := hB.1 a0 (by omega)
  obtain ⟨fa, hfa, efa⟩ := hB.2.1 a0 (by omega)
  obtain ⟨la, ela0⟩ : ∃ la, la = fa + wa := ⟨_, rfl⟩
  have ela : σ 0 a0 + σ 2 a0 = nI la := by rw [efa, ewa, nI_add, ela0]
  have hl : lv_has ls 4 [(0, .ref sm), (1, .ref (q.2.2 d))] := hl
  rcases hst.2.2.2.2.2 d hd with ⟨h6, h9⟩ | ⟨b0, hb0, eb0⟩
  · obtain ⟨v, hv9, hfl⟩ : ∃ v, v ≤ 9 ∧ flow σ d = nI v := by
      by_cases h10 : σ 10 d = 0
      · exact ⟨0, by omega, flow_shut h10⟩
      · exact ⟨_, by omega, flow_pump h10 h9 ea0 (by omega) ewa ec (by omega) (by omega)⟩
    refine lv_aload_n hx hb dX2_carry_0 rfl (lv_at hl 0 rfl) ?_
    refine lv_aload_n hx hb dX2_carry_1 rfl (lv_at hl 1 rfl) ?_
    refine MC.callV0 (C := RX2) (T := TX2) (N := 5) (As := [.ref (q.2.2 d)]) (rest := []) (w0 := []) (w2 := []) (wB := sC cI cL sm q σ n k) (c_X2_amount l D cI cZ cL sm q σ hst hB hB2 d hd) ⟨hx, hb, hml, hown, hts⟩ q463 b_X2_amount (n := 1) (by decide +kernel) ⟨(Nat.le_of_ble_eq_true rfl), (Nat.le_of_ble_eq_true rfl)⟩ hK hP hD hS hA (sp0 _) (sp0 _) (ci := 2) rfl rfl rfl hl.1 rfl (Nat.le_of_ble_eq_true rfl) dX2_carry_2 ⟨(Nat.le_of_ble_eq_true rfl), (Nat.le_of_ble_eq_true rfl)⟩ (fun H locs hP hD hS => ?_)
    refine lv_istore_n (lv' := [(2, .int (ab (flow σ d))), (0, .ref sm), (1, .ref (q.2.2 d))]) hx hb dX2_carry_5 rfl hl (by decide) rfl (fun ls hl => ?_)
    refine lv_aload_n hx hb dX2_carry_6 rfl (lv_at hl 1 rfl) ?_
    refine lv_aload_n hx hb dX2_carry_7 rfl (lv_at hl 2 rfl) ?_
    refine MC.callV0 (C := RX2) (T := TX2) (N := 5) (As := [.ref (q.2.2 d)]) (rest := []) (w0 := []) (w2 := []) (wB := sC cI cL sm q σ n k) (c_X2_isBack l D cI cZ cL sm q σ hst d hd) ⟨hx, hb, hml, hown, hts⟩ q467 b_X2_isBack (n := 1) (by decide +kernel) ⟨(Nat.le_of_ble_eq_true rfl), (Nat.le_of_ble_eq_true rfl)⟩ hK hP hD hS hA (sp0 _) (sp0 _) (ci := 2) rfl rfl rfl hl.1 rfl (Nat.le_of_ble_eq_true rfl) dX2_carry_8 ⟨(Nat.le_of_ble_eq_true rfl), (Nat.le_of_ble_eq_true rfl)⟩ (fun H locs hP hD hS => ?_)
    refine x_top (bk_p h9) ?_
    refine lv_istore_n (lv' := [(3, .int 0), (2, .int (ab (flow σ d))), (0, .ref sm), (1, .ref (q.2.2 d))]) hx hb dX2_carry_11 rfl hl (by decide) rfl (fun ls hl => ?_)
    refine lv_aload_n hx hb dX2_carry_12 rfl (lv_at hl 2 rfl) ?_
    refine s_get hx hb hts hown hK hP (σ := σ) (n := n) (k := k) (q := q) (sm := sm) (w0 := []) (w2 := []) (sp0 _) 0 (by decide) q433 (v := .ref q.1.1) rfl dX2_carry_13 ?_
    refine lv_iload_n hx hb dX2_carry_16 rfl (lv_at hl 0 rfl) ?_
    refine lv_if_eq (tgt := 26) hx hb dX2_carry_17 (by decide) (fun c_17 => ?_) (fun z => absurd (by decide) z)
    refine lv_aload_n hx hb dX2_carry_26 rfl (lv_at hl 3 rfl) ?_
    refine lv_iconst (v := 0) hx hb dX2_carry_27 (by decide) ?_
    refine s_ldD hx hb hK hP (σ := σ) (n := n) (k := k) (q := q) (sm := sm) (w0 := []) (w2 := []) (sp0 _) d (by omega) 0 rfl (by decide) (v := (nI a0)) ea0 dX2_carry_28 ?_
    refine s_alF hx hb hK hP (σ := σ) (n := n) (k := k) (q := q) (sm := sm) (w0 := []) (w2 := []) (sp0 _) a0 (rfl) (by omega) (by omega) dX2_carry_29 ?_
    refine lv_iconst (v := 2) hx hb dX2_carry_30 (by decide) ?_
    refine lv_dup2_11 hx hb dX2_carry_31 rfl rfl ?_
    refine s_ldF hx hb hK hP (σ := σ) (n := n) (k := k) (q := q) (sm := sm) (w0 := []) (w2 := []) (sp0 _) a0 (by omega) 2 rfl (by decide) (v := σ 2 a0) rfl dX2_carry_32 ?_
    refine lv_iload_n hx hb dX2_carry_33 rfl (lv_at hl 1 rfl) ?_
    refine lv_isub hx hb dX2_carry_34 ?_
    refine s_stF hx hb hK hP hD hS (σ := σ) (n := n) (k := k) (q := q) (sm := sm) (w0 := []) (w2 := []) (sp0 _) a0 (by omega) 2 rfl (by decide) dX2_carry_35 (fun H locs hP hD hS => ?_)
    rw [List.append_nil] at hP hD
    have hP : va_P D vwCl (sC cI cL sm q (su σ 2 a0 ((σ 2 a0) - (ab (flow σ d)))) n k) H := hP
    have hD : va_D A (sC cI cL sm q (su σ 2 a0 ((σ 2 a0) - (ab (flow σ d)))) n k) := hD
    refine lv_aload_n hx hb dX2_carry_36 rfl (lv_at hl 3 rfl) ?_
    refine lv_iconst (v := 1) hx hb dX2_carry_37 (by decide) ?_
    refine s_ldD hx hb hK hP (σ := su σ 2 a0 ((σ 2 a0) - (ab (flow σ d)))) (n := n) (k := k) (q := q) (sm := sm) (w0 := []) (w2 := []) (sp0 _) d (by omega) 1 rfl (by decide) (v := (-1)) h6 dX2_carry_38 ?_
    refine lv_if_ge (tgt := 55) hx hb dX2_carry_39 (by decide) (fun z => absurd z (by decide)) (fun c_39 => ?_)
    refine lv_aload_n hx hb dX2_carry_42 rfl (lv_at hl 2 rfl) ?_
    refine lv_dup hx hb dX2_carry_43 rfl ?_
    refine s_get hx hb hts hown hK hP (σ := su σ 2 a0 ((σ 2 a0) - (ab (flow σ d)))) (n := n) (k := k) (q := q) (sm := sm) (w0 := []) (w2 := []) (sp0 _) 4 (by decide) q440 (v := .int ((su σ 2 a0 ((σ 2 a0) - (ab (flow σ d)))) 11 3)) rfl dX2_carry_44 ?_
    refine lv_iload_n hx hb dX2_carry_47 rfl (lv_at hl 1 rfl) ?_
    refine lv_iadd hx hb dX2_carry_48 ?_
    refine s_put hx hb hts hown hK hP hD hS (σ := su σ 2 a0 ((σ 2 a0) - (ab (flow σ d)))) (n := n) (k := k) (q := q) (sm := sm) (w0 := []) (w2 := []) (sp0 _) 4 3 (by decide) q440 dX2_carry_49 (fun H locs hP hD hS => ?_)
    rw [List.append_nil] at hP hD
    have hP : va_P D vwCl (sC cI cL sm q (sc (su σ 2 a0 ((σ 2 a0) - (ab (flow σ d)))) 3 (((su σ 2 a0 ((σ 2 a0) - (ab (flow σ d)))) 11 3) + (ab (flow σ d)))) n k) H := hP
    have hD : va_D A (sC cI cL sm q (sc (su σ 2 a0 ((σ 2 a0) - (ab (flow σ d)))) 3 (((su σ 2 a0 ((σ 2 a0) - (ab (flow σ d)))) 11 3) + (ab (flow σ d)))) n k) := hD
    refine lv_goto (tgt := 79) hx hb dX2_carry_52 (by decide) ?_
    refine lv_aload_n hx hb dX2_carry_79 rfl (lv_at hl 3 rfl) ?_
    refine lv_iconst (v := 5) hx hb dX2_carry_80 (by decide) ?_
    refine lv_dup2_11 hx hb dX2_carry_81 rfl rfl ?_
    refine s_ldD hx hb hK hP (σ := sc (su σ 2 a0 ((σ 2 a0) - (ab (flow σ d)))) 3 (((su σ 2 a0 ((σ 2 a0) - (ab (flow σ d)))) 11 3) + (ab (flow σ d)))) (n := n) (k := k) (q := q) (sm := sm) (w0 := []) (w2 := []) (sp0 _) d (by omega) 5 rfl (by decide) (v := (sc (su σ 2 a0 ((σ 2 a0) - (ab (flow σ d)))) 3 (((su σ 2 a0 ((σ 2 a0) - (ab (flow σ d)))) 11 3) + (ab (flow σ d)))) 8 d) rfl dX2_carry_82 ?_
    refine lv_iload_n hx hb dX2_carry_83 rfl (lv_at hl 1 rfl) ?_
    refine lv_iadd hx hb dX2_carry_84 ?_
    refine s_stD hx hb hK hP hD hS (σ := sc (su σ 2 a0 ((σ 2 a0) - (ab (flow σ d)))) 3 (((su σ 2 a0 ((σ 2 a0) - (ab (flow σ d)))) 11 3) + (ab (flow σ d)))) (n := n) (k := k) (q := q) (sm := sm) (w0 := []) (w2 := []) (sp0 _) d (by omega) 5 8 (by decide) rfl dX2_carry_85 (fun H locs hP hD hS => ?_)
    rw [List.append_nil] at hP hD
    have hP : va_P D vwCl (sC cI cL sm q (su (sc (su σ 2 a0 ((σ 2 a0) - (ab (flow σ d)))) 3 (((su σ 2 a0 ((σ 2 a0) - (ab (flow σ d)))) 11 3) + (ab (flow σ d)))) 8 d (((sc (su σ 2 a0 ((σ 2 a0) - (ab (flow σ d)))) 3 (((su σ 2 a0 ((σ 2 a0) - (ab (flow σ d)))) 11 3) + (ab (flow σ d)))) 8 d) + (ab (flow σ d)))) n k) H := hP
    have hD : va_D A (sC cI cL sm q (su (sc (su σ 2 a0 ((σ 2 a0) - (ab (flow σ d)))) 3 (((su σ 2 a0 ((σ 2 a0) - (ab (flow σ d)))) 11 3) + (ab (flow σ d)))) 8 d (((sc (su σ 2 a0 ((σ 2 a0) - (ab (flow σ d)))) 3 (((su σ 2 a0 ((σ 2 a0) - (ab (flow σ d)))) 11 3) + (ab (flow σ d)))) 8 d) + (ab (flow σ d)))) n k) := hD
    have e9 : su (sc (su σ 2 a0 ((σ 2 a0) - (ab (flow σ d)))) 3 (((su σ 2 a0 ((σ 2 a0) - (ab (flow σ d)))) 11 3) + (ab (flow σ d)))) 8 d (((sc (su σ 2 a0 ((σ 2 a0) - (ab (flow σ d)))) 3 (((su σ 2 a0 ((σ 2 a0) - (ab (flow σ d)))) 11 3) + (ab (flow σ d)))) 8 d) + (ab (flow σ d))) = carryB d σ := cy_sea h6 ea0 (by omega) hfl (by omega)
    rw [e9] at hP hD
    subst hQ
    exact rv hx hb hr hlocks hK hP hD hS dX2_carry_86 (rfl)
  · by_cases h9 : σ 9 d = 0
    · obtain ⟨wb, hwb, ewb⟩ := hB.1 b0 (by omega)
      obtain ⟨fb, hfb, efb⟩ := hB.2.1 b0 (by omega)
      obtain ⟨lb, elb0⟩ : ∃ lb, lb = fb + wb := ⟨_, rfl⟩
      have elb : σ 0 b0 + σ 2 b0 = nI lb := by rw [efb, ewb, nI_add, elb0]
      rcases Nat.lt_or_ge la lb with hlt | hge
      · obtain ⟨v, hv9, hfl⟩ : ∃ v, v ≤ 9 ∧ flow σ d = -nI v := by
          by_cases h10 : σ 10 d = 0
          · exact ⟨0, by omega, flow_shut h10⟩
          · exact ⟨_, by omega, flow_lt h10 h9 ea0 eb0 (by omega) (by omega) ela elb ewb ewa ec (by omega) (by omega) (by omega) (by omega) hlt⟩
        refine lv_aload_n hx hb dX2_carry_0 rfl (lv_at hl 0 rfl) ?_
        refine lv_aload_n hx hb dX2_carry_1 rfl (lv_at hl 1 rfl) ?_
        refine MC.callV0 (C := RX2) (T := TX2) (N := 5) (As := [.ref (q.2.2 d)]) (rest := []) (w0 := []) (w2 := []) (wB := sC cI cL sm q σ n k) (c_X2_amount l D cI cZ cL sm q σ hst hB hB2 d hd) ⟨hx, hb, hml, hown, hts⟩ q463 b_X2_amount (n := 1) (by decide +kernel) ⟨(Nat.le_of_ble_eq_true rfl), (Nat.le_of_ble_eq_true rfl)⟩ hK hP hD hS hA (sp0 _) (sp0 _) (ci := 2) rfl rfl rfl hl.1 rfl (Nat.le_of_ble_eq_true rfl) dX2_carry_2 ⟨(Nat.le_of_ble_eq_true rfl), (Nat.le_of_ble_eq_true rfl)⟩ (fun H locs hP hD hS => ?_)
        refine lv_istore_n (lv' := [(2, .int (ab (flow σ d))), (0, .ref sm), (1, .ref (q.2.2 d))]) hx hb dX2_carry_5 rfl hl (by decide) rfl (fun ls hl => ?_)
        refine lv_aload_n hx hb dX2_carry_6 rfl (lv_at hl 1 rfl) ?_
        refine lv_aload_n hx hb dX2_carry_7 rfl (lv_at hl 2 rfl) ?_
        refine MC.callV0 (C := RX2) (T := TX2) (N := 5) (As := [.ref (q.2.2 d)]) (rest := []) (w0 := []) (w2 := []) (wB := sC cI cL sm q σ n k) (c_X2_isBack l D cI cZ cL sm q σ hst d hd) ⟨hx, hb, hml, hown, hts⟩ q467 b_X2_isBack (n := 1) (by decide +kernel) ⟨(Nat.le_of_ble_eq_true rfl), (Nat.le_of_ble_eq_true rfl)⟩ hK hP hD hS hA (sp0 _) (sp0 _) (ci := 2) rfl rfl rfl hl.1 rfl (Nat.le_of_ble_eq_true rfl) dX2_carry_8 ⟨(Nat.le_of_ble_eq_true rfl), (Nat.le_of_ble_eq_true rfl)⟩ (fun H locs hP hD hS => ?_)
        refine x_top (bk_lt h9 ea0 eb0 (by omega) (by omega) ela elb (by omega) hlt) ?_
        refine lv_istore_n (lv' := [(3, .int 1), (2, .int (ab (flow σ d))), (0, .ref sm), (1, .ref (q.2.2 d))]) hx hb dX2_carry_11 rfl hl (by decide) rfl (fun ls hl => ?_)
        refine lv_aload_n hx hb dX2_carry_12 rfl (lv_at hl 2 rfl) ?_
        refine s_get hx hb hts hown hK hP (σ := σ) (n := n) (k := k) (q := q) (sm := sm) (w0 := []) (w2 := []) (sp0 _) 0 (by decide) q433 (v := .ref q.1.1) rfl dX2_carry_13 ?_
        refine lv_iload_n hx hb dX2_carry_16 rfl (lv_at hl 0 rfl) ?_
        refine lv_if_eq (tgt := 26) hx hb dX2_carry_17 (by decide) (fun z => absurd z (by decide)) (fun c_17 => ?_)
        refine lv_aload_n hx hb dX2_carry_20 rfl (lv_at hl 3 rfl) ?_
        refine lv_iconst (v := 1) hx hb dX2_carry_21 (by decide) ?_
        refine s_ldD hx hb hK hP (σ := σ) (n := n) (k := k) (q := q) (sm := sm) (w0 := []) (w2 := []) (sp0 _) d (by omega) 1 rfl (by decide) (v := (nI b0)) eb0 dX2_carry_22 ?_
        refine lv_goto (tgt := 29) hx hb dX2_carry_23 (by decide) ?_
        refine s_alF hx hb hK hP (σ := σ) (n := n) (k := k) (q := q) (sm := sm) (w0 := []) (w2 := []) (sp0 _) b0 (rfl) (by omega) (by omega) dX2_carry_29 ?_
        refine lv_iconst (v := 2) hx hb dX2_carry_30 (by decide) ?_
        refine lv_dup2_11 hx hb dX2_carry_31 rfl rfl ?_
        refine s_ldF hx hb hK hP (σ := σ) (n := n) (k := k) (q := q) (sm := sm) (w0 := []) (w2 := []) (sp0 _) b0 (by omega) 2 rfl (by decide) (v := σ 2 b0) rfl dX2_carry_32 ?_
        refine lv_iload_n hx hb dX2_carry_33 rfl (lv_at hl 1 rfl) ?_
        refine lv_isub hx hb dX2_carry_34 ?_
        refine s_stF hx hb hK hP hD hS (σ := σ) (n := n) (k := k) (q := q) (sm := sm) (w0 := []) (w2 := []) (sp0 _) b0 (by omega) 2 rfl (by decide) dX2_carry_35 (fun H locs hP hD hS => ?_)
        rw [List.append_nil] at hP hD
        have hP : va_P D vwCl (sC cI cL sm q (su σ 2 b0 ((σ 2 b0) - (ab (flow σ d)))) n k) H := hP
        have hD : va_D A (sC cI cL sm q (su σ 2 b0 ((σ 2 b0) - (ab (flow σ d)))) n k) := hD
        refine lv_aload_n hx hb dX2_carry_36 rfl (lv_at hl 3 rfl) ?_
        refine lv_iconst (v := 1) hx hb dX2_carry_37 (by decide) ?_
        refine s_ldD hx hb hK hP (σ := su σ 2 b0 ((σ 2 b0) - (ab (flow σ d)))) (n := n) (k := k) (q := q) (sm := sm) (w0 := []) (w2 := []) (sp0 _) d (by omega) 1 rfl (by decide) (v := (nI b0)) eb0 dX2_carry_38 ?_
        refine lv_if_ge (tgt := 55) hx hb dX2_carry_39 (by decide) (fun c_39 => ?_) (fun z => absurd (nI_pos' (by omega)) z)
        refine lv_aload_n hx hb dX2_carry_55 rfl (lv_at hl 2 rfl) ?_
        refine s_get hx hb hts hown hK hP (σ := su σ 2 b0 ((σ 2 b0) - (ab (flow σ d)))) (n := n) (k := k) (q := q) (sm := sm) (w0 := []) (w2 := []) (sp0 _) 0 (by decide) q433 (v := .ref q.1.1) rfl dX2_carry_56 ?_
        refine lv_iload_n hx hb dX2_carry_59 rfl (lv_at hl 0 rfl) ?_
        refine lv_if_eq (tgt := 69) hx hb dX2_carry_60 (by decide) (fun z => absurd z (by decide)) (fun c_60 => ?_)
        refine lv_aload_n hx hb dX2_carry_63 rfl (lv_at hl 3 rfl) ?_
        refine lv_iconst (v := 0) hx hb dX2_carry_64 (by decide) ?_
        refine s_ldD hx hb hK hP (σ := su σ 2 b0 ((σ 2 b0) - (ab (flow σ d)))) (n := n) (k := k) (q := q) (sm := sm) (w0 := []) (w2 := []) (sp0 _) d (by omega) 0 rfl (by decide) (v := (nI a0)) ea0 dX2_carry_65 ?_
        refine lv_goto (tgt := 72) hx hb dX2_carry_66 (by decide) ?_
        refine s_alF hx hb hK hP (σ := su σ 2 b0 ((σ 2 b0) - (ab (flow σ d)))) (n := n) (k := k) (q := q) (sm := sm) (w0 := []) (w2 := []) (sp0 _) a0 (rfl) (by omega) (by omega) dX2_carry_72 ?_
        refine lv_iconst (v := 2) hx hb dX2_carry_73 (by decide) ?_
        refine lv_dup2_11 hx hb dX2_carry_74 rfl rfl ?_
        refine s_ldF hx hb hK hP (σ := su σ 2 b0 ((σ 2 b0) - (ab (flow σ d)))) (n := n) (k := k) (q := q) (sm := sm) (w0 := []) (w2 := []) (sp0 _) a0 (by omega) 2 rfl (by decide) (v := (su σ 2 b0 ((σ 2 b0) - (ab (flow σ d)))) 2 a0) rfl dX2_carry_75 ?_
        refine lv_iload_n hx hb dX2_carry_76 rfl (lv_at hl 1 rfl) ?_
        refine lv_iadd hx hb dX2_carry_77 ?_
        refine s_stF hx hb hK hP hD hS (σ := su σ 2 b0 ((σ 2 b0) - (ab (flow σ d)))) (n := n) (k := k) (q := q) (sm := sm) (w0 := []) (w2 := []) (sp0 _) a0 (by omega) 2 rfl (by decide) dX2_carry_78 (fun H locs hP hD hS => ?_)
        rw [List.append_nil] at hP hD
        have hP : va_P D vwCl (sC cI cL sm q (su (su σ 2 b0 ((σ 2 b0) - (ab (flow σ d)))) 2 a0 (((su σ 2 b0 ((σ 2 b0) - (ab (flow σ d)))) 2 a0) + (ab (flow σ d)))) n k) H := hP
        have hD : va_D A (sC cI cL sm q (su (su σ 2 b0 ((σ 2 b0) - (ab (flow σ d)))) 2 a0 (((su σ 2 b0 ((σ 2 b0) - (ab (flow σ d)))) 2 a0) + (ab (flow σ d)))) n k) := hD
        refine lv_aload_n hx hb dX2_carry_79 rfl (lv_at hl 3 rfl) ?_
        refine lv_iconst (v := 5) hx hb dX2_carry_80 (by decide) ?_
        refine lv_dup2_11 hx hb dX2_carry_81 rfl rfl ?_
        refine s_ldD hx hb hK hP (σ := su (su σ 2 b0 ((σ 2 b0) - (ab (flow σ d)))) 2 a0 (((su σ 2 b0 ((σ 2 b0) - (ab (flow σ d)))) 2 a0) + (ab (flow σ d)))) (n := n) (k := k) (q := q) (sm := sm) (w0 := []) (w2 := []) (sp0 _) d (by omega) 5 rfl (by decide) (v := (su (su σ 2 b0 ((σ 2 b0) - (ab (flow σ d)))) 2 a0 (((su σ 2 b0 ((σ 2 b0) - (ab (flow σ d)))) 2 a0) + (ab (flow σ d)))) 8 d) rfl dX2_carry_82 ?_
        refine lv_iload_n hx hb dX2_carry_83 rfl (lv_at hl 1 rfl) ?_
        refine lv_iadd hx hb dX2_carry_84 ?_
        refine s_stD hx hb hK hP hD hS (σ := su (su σ 2 b0 ((σ 2 b0) - (ab (flow σ d)))) 2 a0 (((su σ 2 b0 ((σ 2 b0) - (ab (flow σ d)))) 2 a0) + (ab (flow σ d)))) (n := n) (k := k) (q := q) (sm := sm) (w0 := []) (w2 := []) (sp0 _) d (by omega) 5 8 (by decide) rfl dX2_carry_85 (fun H locs hP hD hS => ?_)
        rw [List.append_nil] at hP hD
        have hP : va_P D vwCl (sC cI cL sm q (su (su (su σ 2 b0 ((σ 2 b0) - (ab (flow σ d)))) 2 a0 (((su σ 2 b0 ((σ 2 b0) - (ab (flow σ d)))) 2 a0) + (ab (flow σ d)))) 8 d (((su (su σ 2 b0 ((σ 2 b0) - (ab (flow σ d)))) 2 a0 (((su σ 2 b0 ((σ 2 b0) - (ab (flow σ d)))) 2 a0) + (ab (flow σ d)))) 8 d) + (ab (flow σ d)))) n k) H := hP
        have hD : va_D A (sC cI cL sm q (su (su (su σ 2 b0 ((σ 2 b0) - (ab (flow σ d)))) 2 a0 (((su σ 2 b0 ((σ 2 b0) - (ab (flow σ d)))) 2 a0) + (ab (flow σ d)))) 8 d (((su (su σ 2 b0 ((σ 2 b0) - (ab (flow σ d)))) 2 a0 (((su σ 2 b0 ((σ 2 b0) - (ab (flow σ d)))) 2 a0) + (ab (flow σ d)))) 8 d) + (ab (flow σ d)))) n k) := hD
        have e9 : su (su (su σ 2 b0 ((σ 2 b0) - (ab (flow σ d)))) 2 a0 (((su σ 2 b0 ((σ 2 b0) - (ab (flow σ d)))) 2 a0) + (ab (flow σ d)))) 8 d (((su (su σ 2 b0 ((σ 2 b0) - (ab (flow σ d)))) 2 a0 (((su σ 2 b0 ((σ 2 b0) - (ab (flow σ d)))) 2 a0) + (ab (flow σ d)))) 8 d) + (ab (flow σ d))) = carryB d σ := cy_bck eb0 ea0 (by omega) (by omega) hfl (by omega)
        rw [e9] at hP hD
        subst hQ
        exact rv hx hb hr hlocks hK hP hD hS dX2_carry_86 (rfl)
      · obtain ⟨v, hv9, hfl⟩ : ∃ v, v ≤ 9 ∧ flow σ d = nI v := by
          by_cases h10 : σ 10 d = 0
          · exact ⟨0, by omega, flow_shut h10⟩
          · exact ⟨_, by omega, flow_ge h10 h9 ea0 eb0 (by omega) (by omega) ela elb ewa ec (by omega) (by omega) (by omega) hge⟩
        refine lv_aload_n hx hb dX2_carry_0 rfl (lv_at hl 0 rfl) ?_
        refine lv_aload_n hx hb dX2_carry_1 rfl (lv_at hl 1 rfl) ?_
        refine MC.callV0 (C := RX2) (T := TX2) (N := 5) (As := [.ref (q.2.2 d)]) (rest := []) (w0 := []) (w2 := []) (wB := sC cI cL sm q σ n k) (c_X2_amount l D cI cZ cL sm q σ hst hB hB2 d hd) ⟨hx, hb, hml, hown, hts⟩ q463 b_X2_amount (n := 1) (by decide +kernel) ⟨(Nat.le_of_ble_eq_true rfl), (Nat.le_of_ble_eq_true rfl)⟩ hK hP hD hS hA (sp0 _) (sp0 _) (ci := 2) rfl rfl rfl hl.1 rfl (Nat.le_of_ble_eq_true rfl) dX2_carry_2 ⟨(Nat.le_of_ble_eq_true rfl), (Nat.le_of_ble_eq_true rfl)⟩ (fun H locs hP hD hS => ?_)
        refine lv_istore_n (lv' := [(2, .int (ab (flow σ d))), (0, .ref sm), (1, .ref (q.2.2 d))]) hx hb dX2_carry_5 rfl hl (by decide) rfl (fun ls hl => ?_)
        refine lv_aload_n hx hb dX2_carry_6 rfl (lv_at hl 1 rfl) ?_
        refine lv_aload_n hx hb dX2_carry_7 rfl (lv_at hl 2 rfl) ?_
        refine MC.callV0 (C := RX2) (T := TX2) (N := 5) (As := [.ref (q.2.2 d)]) (rest := []) (w0 := []) (w2 := []) (wB := sC cI cL sm q σ n k) (c_X2_isBack l D cI cZ cL sm q σ hst d hd) ⟨hx, hb, hml, hown, hts⟩ q467 b_X2_isBack (n := 1) (by decide +kernel) ⟨(Nat.le_of_ble_eq_true rfl), (Nat.le_of_ble_eq_true rfl)⟩ hK hP hD hS hA (sp0 _) (sp0 _) (ci := 2) rfl rfl rfl hl.1 rfl (Nat.le_of_ble_eq_true rfl) dX2_carry_8 ⟨(Nat.le_of_ble_eq_true rfl), (Nat.le_of_ble_eq_true rfl)⟩ (fun H locs hP hD hS => ?_)
        refine x_top (bk_ge h9 ea0 eb0 (by omega) (by omega) ela elb (by omega) hge) ?_
        refine lv_istore_n (lv' := [(3, .int 0), (2, .int (ab (flow σ d))), (0, .ref sm), (1, .ref (q.2.2 d))]) hx hb dX2_carry_11 rfl hl (by decide) rfl (fun ls hl => ?_)
        refine lv_aload_n hx hb dX2_carry_12 rfl (lv_at hl 2 rfl) ?_
        refine s_get hx hb hts hown hK hP (σ := σ) (n := n) (k := k) (q := q) (sm := sm) (w0 := []) (w2 := []) (sp0 _) 0 (by decide) q433 (v := .ref q.1.1) rfl dX2_carry_13 ?_
        refine lv_iload_n hx hb dX2_carry_16 rfl (lv_at hl 0 rfl) ?_
        refine lv_if_eq (tgt := 26) hx hb dX2_carry_17 (by decide) (fun c_17 => ?_) (fun z => absurd (by decide) z)
        refine lv_aload_n hx hb dX2_carry_26 rfl (lv_at hl 3 rfl) ?_
        refine lv_iconst (v := 0) hx hb dX2_carry_27 (by decide) ?_
        refine s_ldD hx hb hK hP (σ := σ) (n := n) (k := k) (q := q) (sm := sm) (w0 := []) (w2 := []) (sp0 _) d (by omega) 0 rfl (by decide) (v := (nI a0)) ea0 dX2_carry_28 ?_
        refine s_alF hx hb hK hP (σ := σ) (n := n) (k := k) (q := q) (sm := sm) (w0 := []) (w2 := []) (sp0 _) a0 (rfl) (by omega) (by omega) dX2_carry_29 ?_
        refine lv_iconst (v := 2) hx hb dX2_carry_30 (by decide) ?_
        refine lv_dup2_11 hx hb dX2_carry_31 rfl rfl ?_
        refine s_ldF hx hb hK hP (σ := σ) (n := n) (k := k) (q := q) (sm := sm) (w0 := []) (w2 := []) (sp0 _) a0 (by omega) 2 rfl (by decide) (v := σ 2 a0) rfl dX2_carry_32 ?_
        refine lv_iload_n hx hb dX2_carry_33 rfl (lv_at hl 1 rfl) ?_
        refine lv_isub hx hb dX2_carry_34 ?_
        refine s_stF hx hb hK hP hD hS (σ := σ) (n := n) (k := k) (q := q) (sm := sm) (w0 := []) (w2 := []) (sp0 _) a0 (by omega) 2 rfl (by decide) dX2_carry_35 (fun H locs hP hD hS => ?_)
        rw [List.append_nil] at hP hD
        have hP : va_P D vwCl (sC cI cL sm q (su σ 2 a0 ((σ 2 a0) - (ab (flow σ d)))) n k) H := hP
        have hD : va_D A (sC cI cL sm q (su σ 2 a0 ((σ 2 a0) - (ab (flow σ d)))) n k) := hD
        refine lv_aload_n hx hb dX2_carry_36 rfl (lv_at hl 3 rfl) ?_
        refine lv_iconst (v := 1) hx hb dX2_carry_37 (by decide) ?_
        refine s_ldD hx hb hK hP (σ := su σ 2 a0 ((σ 2 a0) - (ab (flow σ d)))) (n := n) (k := k) (q := q) (sm := sm) (w0 := []) (w2 := []) (sp0 _) d (by omega) 1 rfl (by decide) (v := (nI b0)) eb0 dX2_carry_38 ?_
        refine lv_if_ge (tgt := 55) hx hb dX2_carry_39 (by decide) (fun c_39 => ?_) (fun z => absurd (nI_pos' (by omega)) z)
        refine lv_aload_n hx hb dX2_carry_55 rfl (lv_at hl 2 rfl) ?_
        refine s_get hx hb hts hown hK hP (σ := su σ 2 a0 ((σ 2 a0) - (ab (flow σ d)))) (n := n) (k := k) (q := q) (sm := sm) (w0 := []) (w2 := []) (sp0 _) 0 (by decide) q433 (v := .ref q.1.1) rfl dX2_carry_56 ?_
        refine lv_iload_n hx hb dX2_carry_59 rfl (lv_at hl 0 rfl) ?_
        refine lv_if_eq (tgt := 69) hx hb dX2_carry_60 (by decide) (fun c_60 => ?_) (fun z => absurd (by decide) z)
        refine lv_aload_n hx hb dX2_carry_69 rfl (lv_at hl 3 rfl) ?_
        refine lv_iconst (v := 1) hx hb dX2_carry_70 (by decide) ?_
        refine s_ldD hx hb hK hP (σ := su σ 2 a0 ((σ 2 a0) - (ab (flow σ d)))) (n := n) (k := k) (q := q) (sm := sm) (w0 := []) (w2 := []) (sp0 _) d (by omega) 1 rfl (by decide) (v := (nI b0)) eb0 dX2_carry_71 ?_
        refine s_alF hx hb hK hP (σ := su σ 2 a0 ((σ 2 a0) - (ab (flow σ d)))) (n := n) (k := k) (q := q) (sm := sm) (w0 := []) (w2 := []) (sp0 _) b0 (rfl) (by omega) (by omega) dX2_carry_72 ?_
        refine lv_iconst (v := 2) hx hb dX2_carry_73 (by decide) ?_
        refine lv_dup2_11 hx hb dX2_carry_74 rfl rfl ?_
        refine s_ldF hx hb hK hP (σ := su σ 2 a0 ((σ 2 a0) - (ab (flow σ d)))) (n := n) (k := k) (q := q) (sm := sm) (w0 := []) (w2 := []) (sp0 _) b0 (by omega) 2 rfl (by decide) (v := (su σ 2 a0 ((σ 2 a0) - (ab (flow σ d)))) 2 b0) rfl dX2_carry_75 ?_
        refine lv_iload_n hx hb dX2_carry_76 rfl (lv_at hl 1 rfl) ?_
        refine lv_iadd hx hb dX2_carry_77 ?_
        refine s_stF hx hb hK hP hD hS (σ := su σ 2 a0 ((σ 2 a0) - (ab (flow σ d)))) (n := n) (k := k) (q := q) (sm := sm) (w0 := []) (w2 := []) (sp0 _) b0 (by omega) 2 rfl (by decide) dX2_carry_78 (fun H locs hP hD hS => ?_)
        rw [List.append_nil] at hP hD
        have hP : va_P D vwCl (sC cI cL sm q (su (su σ 2 a0 ((σ 2 a0) - (ab (flow σ d)))) 2 b0 (((su σ 2 a0 ((σ 2 a0) - (ab (flow σ d)))) 2 b0) + (ab (flow σ d)))) n k) H := hP
        have hD : va_D A (sC cI cL sm q (su (su σ 2 a0 ((σ 2 a0) - (ab (flow σ d)))) 2 b0 (((su σ 2 a0 ((σ 2 a0) - (ab (flow σ d)))) 2 b0) + (ab (flow σ d)))) n k) := hD
        refine lv_aload_n hx hb dX2_carry_79 rfl (lv_at hl 3 rfl) ?_
        refine lv_iconst (v := 5) hx hb dX2_carry_80 (by decide) ?_
        refine lv_dup2_11 hx hb dX2_carry_81 rfl rfl ?_
        refine s_ldD hx hb hK hP (σ := su (su σ 2 a0 ((σ 2 a0) - (ab (flow σ d)))) 2 b0 (((su σ 2 a0 ((σ 2 a0) - (ab (flow σ d)))) 2 b0) + (ab (flow σ d)))) (n := n) (k := k) (q := q) (sm := sm) (w0 := []) (w2 := []) (sp0 _) d (by omega) 5 rfl (by decide) (v := (su (su σ 2 a0 ((σ 2 a0) - (ab (flow σ d)))) 2 b0 (((su σ 2 a0 ((σ 2 a0) - (ab (flow σ d)))) 2 b0) + (ab (flow σ d)))) 8 d) rfl dX2_carry_82 ?_
        refine lv_iload_n hx hb dX2_carry_83 rfl (lv_at hl 1 rfl) ?_
        refine lv_iadd hx hb dX2_carry_84 ?_
        refine s_stD hx hb hK hP hD hS (σ := su (su σ 2 a0 ((σ 2 a0) - (ab (flow σ d)))) 2 b0 (((su σ 2 a0 ((σ 2 a0) - (ab (flow σ d)))) 2 b0) + (ab (flow σ d)))) (n := n) (k := k) (q := q) (sm := sm) (w0 := []) (w2 := []) (sp0 _) d (by omega) 5 8 (by decide) rfl dX2_carry_85 (fun H locs hP hD hS => ?_)
        rw [List.append_nil] at hP hD
        have hP : va_P D vwCl (sC cI cL sm q (su (su (su σ 2 a0 ((σ 2 a0) - (ab (flow σ d)))) 2 b0 (((su σ 2 a0 ((σ 2 a0) - (ab (flow σ d)))) 2 b0) + (ab (flow σ d)))) 8 d (((su (su σ 2 a0 ((σ 2 a0) - (ab (flow σ d)))) 2 b0 (((su σ 2 a0 ((σ 2 a0) - (ab (flow σ d)))) 2 b0) + (ab (flow σ d)))) 8 d) + (ab (flow σ d)))) n k) H := hP
        have hD : va_D A (sC cI cL sm q (su (su (su σ 2 a0 ((σ 2 a0) - (ab (flow σ d)))) 2 b0 (((su σ 2 a0 ((σ 2 a0) - (ab (flow σ d)))) 2 b0) + (ab (flow σ d)))) 8 d (((su (su σ 2 a0 ((σ 2 a0) - (ab (flow σ d)))) 2 b0 (((su σ 2 a0 ((σ 2 a0) - (ab (flow σ d)))) 2 b0) + (ab (flow σ d)))) 8 d) + (ab (flow σ d)))) n k) := hD
        have e9 : su (su (su σ 2 a0 ((σ 2 a0) - (ab (flow σ d)))) 2 b0 (((su σ 2 a0 ((σ 2 a0) - (ab (flow σ d)))) 2 b0) + (ab (flow σ d)))) 8 d (((su (su σ 2 a0 ((σ 2 a0) - (ab (flow σ d)))) 2 b0 (((su σ 2 a0 ((σ 2 a0) - (ab (flow σ d)))) 2 b0) + (ab (flow σ d)))) 8 d) + (ab (flow σ d))) = carryB d σ := cy_fld eb0 ea0 (by omega) (by omega) hfl (by omega)
        rw [e9] at hP hD
        subst hQ
        exact rv hx hb hr hlocks hK hP hD hS dX2_carry_86 (rfl)
    · obtain ⟨v, hv9, hfl⟩ : ∃ v, v ≤ 9 ∧ flow σ d = nI v := by
        by_cases h10 : σ 10 d = 0
        · exact ⟨0, by omega, flow_shut h10⟩
        · exact ⟨_, by omega, flow_pump h10 h9 ea0 (by omega) ewa ec (by omega) (by omega)⟩
      refine lv_aload_n hx hb dX2_carry_0 rfl (lv_at hl 0 rfl) ?_
      refine lv_aload_n hx hb dX2_carry_1 rfl (lv_at hl 1 rfl) ?_
      refine MC.callV0 (C := RX2) (T := TX2) (N := 5) (As := [.ref (q.2.2 d)]) (rest := []) (w0 := []) (w2 := []) (wB := sC cI cL sm q σ n k) (c_X2_amount l D cI cZ cL sm q σ hst hB hB2 d hd) ⟨hx, hb, hml, hown, hts⟩ q463 b_X2_amount (n := 1) (by decide +kernel) ⟨(Nat.le_of_ble_eq_true rfl), (Nat.le_of_ble_eq_true rfl)⟩ hK hP hD hS hA (sp0 _) (sp0 _) (ci := 2) rfl rfl rfl hl.1 rfl (Nat.le_of_ble_eq_true rfl) dX2_carry_2 ⟨(Nat.le_of_ble_eq_true rfl), (Nat.le_of_ble_eq_true rfl)⟩ (fun H locs hP hD hS => ?_)
      refine lv_istore_n (lv' := [(2, .int (ab (flow σ d))), (0, .ref sm), (1, .ref (q.2.2 d))]) hx hb dX2_carry_5 rfl hl (by decide) rfl (fun ls hl => ?_)
      refine lv_aload_n hx hb dX2_carry_6 rfl (lv_at hl 1 rfl) ?_
      refine lv_aload_n hx hb dX2_carry_7 rfl (lv_at hl 2 rfl) ?_
      refine MC.callV0 (C := RX2) (T := TX2) (N := 5) (As := [.ref (q.2.2 d)]) (rest := []) (w0 := []) (w2 := []) (wB := sC cI cL sm q σ n k) (c_X2_isBack l D cI cZ cL sm q σ hst d hd) ⟨hx, hb, hml, hown, hts⟩ q467 b_X2_isBack (n := 1) (by decide +kernel) ⟨(Nat.le_of_ble_eq_true rfl), (Nat.le_of_ble_eq_true rfl)⟩ hK hP hD hS hA (sp0 _) (sp0 _) (ci := 2) rfl rfl rfl hl.1 rfl (Nat.le_of_ble_eq_true rfl) dX2_carry_8 ⟨(Nat.le_of_ble_eq_true rfl), (Nat.le_of_ble_eq_true rfl)⟩ (fun H locs hP hD hS => ?_)
      refine x_top (bk_p h9) ?_
      refine lv_istore_n (lv' := [(3, .int 0), (2, .int (ab (flow σ d))), (0, .ref sm), (1, .ref (q.2.2 d))]) hx hb dX2_carry_11 rfl hl (by decide) rfl (fun ls hl => ?_)
      refine lv_aload_n hx hb dX2_carry_12 rfl (lv_at hl 2 rfl) ?_
      refine s_get hx hb hts hown hK hP (σ := σ) (n := n) (k := k) (q := q) (sm := sm) (w0 := []) (w2 := []) (sp0 _) 0 (by decide) q433 (v := .ref q.1.1) rfl dX2_carry_13 ?_
      refine lv_iload_n hx hb dX2_carry_16 rfl (lv_at hl 0 rfl) ?_
      refine lv_if_eq (tgt := 26) hx hb dX2_carry_17 (by decide) (fun c_17 => ?_) (fun z => absurd (by decide) z)
      refine lv_aload_n hx hb dX2_carry_26 rfl (lv_at hl 3 rfl) ?_
      refine lv_iconst (v := 0) hx hb dX2_carry_27 (by decide) ?_
      refine s_ldD hx hb hK hP (σ := σ) (n := n) (k := k) (q := q) (sm := sm) (w0 := []) (w2 := []) (sp0 _) d (by omega) 0 rfl (by decide) (v := (nI a0)) ea0 dX2_carry_28 ?_
      refine s_alF hx hb hK hP (σ := σ) (n := n) (k := k) (q := q) (sm := sm) (w0 := []) (w2 := []) (sp0 _) a0 (rfl) (by omega) (by omega) dX2_carry_29 ?_
      refine lv_iconst (v := 2) hx hb dX2_carry_30 (by decide) ?_
      refine lv_dup2_11 hx hb dX2_carry_31 rfl rfl ?_
      refine s_ldF hx hb hK hP (σ := σ) (n := n) (k := k) (q := q) (sm := sm) (w0 := []) (w2 := []) (sp0 _) a0 (by omega) 2 rfl (by decide) (v := σ 2 a0) rfl dX2_carry_32 ?_
      refine lv_iload_n hx hb dX2_carry_33 rfl (lv_at hl 1 rfl) ?_
      refine lv_isub hx hb dX2_carry_34 ?_
      refine s_stF hx hb hK hP hD hS (σ := σ) (n := n) (k := k) (q := q) (sm := sm) (w0 := []) (w2 := []) (sp0 _) a0 (by omega) 2 rfl (by decide) dX2_carry_35 (fun H locs hP hD hS => ?_)
      rw [List.append_nil] at hP hD
      have hP : va_P D vwCl (sC cI cL sm q (su σ 2 a0 ((σ 2 a0) - (ab (flow σ d)))) n k) H := hP
      have hD : va_D A (sC cI cL sm q (su σ 2 a0 ((σ 2 a0) - (ab (flow σ d)))) n k) := hD
      refine lv_aload_n hx hb dX2_carry_36 rfl (lv_at hl 3 rfl) ?_
      refine lv_iconst (v := 1) hx hb dX2_carry_37 (by decide) ?_
      refine s_ldD hx hb hK hP (σ := su σ 2 a0 ((σ 2 a0) - (ab (flow σ d)))) (n := n) (k := k) (q := q) (sm := sm) (w0 := []) (w2 := []) (sp0 _) d (by omega) 1 rfl (by decide) (v := (nI b0)) eb0 dX2_carry_38 ?_
      refine lv_if_ge (tgt := 55) hx hb dX2_carry_39 (by decide) (fun c_39 => ?_) (fun z => absurd (nI_pos' (by omega)) z)
      refine lv_aload_n hx hb dX2_carry_55 rfl (lv_at hl 2 rfl) ?_
      refine s_get hx hb hts hown hK hP (σ := su σ 2 a0 ((σ 2 a0) - (ab (flow σ d)))) (n := n) (k := k) (q := q) (sm := sm) (w0 := []) (w2 := []) (sp0 _) 0 (by decide) q433 (v := .ref q.1.1) rfl dX2_carry_56 ?_
      refine lv_iload_n hx hb dX2_carry_59 rfl (lv_at hl 0 rfl) ?_
      refine lv_if_eq (tgt := 69) hx hb dX2_carry_60 (by decide) (fun c_60 => ?_) (fun z => absurd (by decide) z)
      refine lv_aload_n hx hb dX2_carry_69 rfl (lv_at hl 3 rfl) ?_
      refine lv_iconst (v := 1) hx hb dX2_carry_70 (by decide) ?_
      refine s_ldD hx hb hK hP (σ := su σ 2 a0 ((σ 2 a0) - (ab (flow σ d)))) (n := n) (k := k) (q := q) (sm := sm) (w0 := []) (w2 := []) (sp0 _) d (by omega) 1 rfl (by decide) (v := (nI b0)) eb0 dX2_carry_71 ?_
      refine s_alF hx hb hK hP (σ := su σ 2 a0 ((σ 2 a0) - (ab (flow σ d)))) (n := n) (k := k) (q := q) (sm := sm) (w0 := []) (w2 := []) (sp0 _) b0 (rfl) (by omega) (by omega) dX2_carry_72 ?_
      refine lv_iconst (v := 2) hx hb dX2_carry_73 (by decide) ?_
      refine lv_dup2_11 hx hb dX2_carry_74 rfl rfl ?_
      refine s_ldF hx hb hK hP (σ := su σ 2 a0 ((σ 2 a0) - (ab (flow σ d)))) (n := n) (k := k) (q := q) (sm := sm) (w0 := []) (w2 := []) (sp0 _) b0 (by omega) 2 rfl (by decide) (v := (su σ 2 a0 ((σ 2 a0) - (ab (flow σ d)))) 2 b0) rfl dX2_carry_75 ?_
      refine lv_iload_n hx hb dX2_carry_76 rfl (lv_at hl 1 rfl) ?_
      refine lv_iadd hx hb dX2_carry_77 ?_
      refine s_stF hx hb hK hP hD hS (σ := su σ 2 a0 ((σ 2 a0) - (ab (flow σ d)))) (n := n) (k := k) (q := q) (sm := sm) (w0 := []) (w2 := []) (sp0 _) b0 (by omega) 2 rfl (by decide) dX2_carry_78 (fun H locs hP hD hS => ?_)
      rw [List.append_nil] at hP hD
      have hP : va_P D vwCl (sC cI cL sm q (su (su σ 2 a0 ((σ 2 a0) - (ab (flow σ d)))) 2 b0 (((su σ 2 a0 ((σ 2 a0) - (ab (flow σ d)))) 2 b0) + (ab (flow σ d)))) n k) H := hP
      have hD : va_D A (sC cI cL sm q (su (su σ 2 a0 ((σ 2 a0) - (ab (flow σ d)))) 2 b0 (((su σ 2 a0 ((σ 2 a0) - (ab (flow σ d)))) 2 b0) + (ab (flow σ d)))) n k) := hD
      refine lv_aload_n hx hb dX2_carry_79 rfl (lv_at hl 3 rfl) ?_
      refine lv_iconst (v := 5) hx hb dX2_carry_80 (by decide) ?_
      refine lv_dup2_11 hx hb dX2_carry_81 rfl rfl ?_
      refine s_ldD hx hb hK hP (σ := su (su σ 2 a0 ((σ 2 a0) - (ab (flow σ d)))) 2 b0 (((su σ 2 a0 ((σ 2 a0) - (ab (flow σ d)))) 2 b0) + (ab (flow σ d)))) (n := n) (k := k) (q := q) (sm := sm) (w0 := []) (w2 := []) (sp0 _) d (by omega) 5 rfl (by decide) (v := (su (su σ 2 a0 ((σ 2 a0) - (ab (flow σ d)))) 2 b0 (((su σ 2 a0 ((σ 2 a0) - (ab (flow σ d)))) 2 b0) + (ab (flow σ d)))) 8 d) rfl dX2_carry_82 ?_
      refine lv_iload_n hx hb dX2_carry_83 rfl (lv_at hl 1 rfl) ?_
      refine lv_iadd hx hb dX2_carry_84 ?_
      refine s_stD hx hb hK hP hD hS (σ := su (su σ 2 a0 ((σ 2 a0) - (ab (flow σ d)))) 2 b0 (((su σ 2 a0 ((σ 2 a0) - (ab (flow σ d)))) 2 b0) + (ab (flow σ d)))) (n := n) (k := k) (q := q) (sm := sm) (w0 := []) (w2 := []) (sp0 _) d (by omega) 5 8 (by decide) rfl dX2_carry_85 (fun H locs hP hD hS => ?_)
      rw [List.append_nil] at hP hD
      have hP : va_P D vwCl (sC cI cL sm q (su (su (su σ 2 a0 ((σ 2 a0) - (ab (flow σ d)))) 2 b0 (((su σ 2 a0 ((σ 2 a0) - (ab (flow σ d)))) 2 b0) + (ab (flow σ d)))) 8 d (((su (su σ 2 a0 ((σ 2 a0) - (ab (flow σ d)))) 2 b0 (((su σ 2 a0 ((σ 2 a0) - (ab (flow σ d)))) 2 b0) + (ab (flow σ d)))) 8 d) + (ab (flow σ d)))) n k) H := hP
      have hD : va_D A (sC cI cL sm q (su (su (su σ 2 a0 ((σ 2 a0) - (ab (flow σ d)))) 2 b0 (((su σ 2 a0 ((σ 2 a0) - (ab (flow σ d)))) 2 b0) + (ab (flow σ d)))) 8 d (((su (su σ 2 a0 ((σ 2 a0) - (ab (flow σ d)))) 2 b0 (((su σ 2 a0 ((σ 2 a0) - (ab (flow σ d)))) 2 b0) + (ab (flow σ d)))) 8 d) + (ab (flow σ d)))) n k) := hD
      have e9 : su (su (su σ 2 a0 ((σ 2 a0) - (ab (flow σ d)))) 2 b0 (((su σ 2 a0 ((σ 2 a0) - (ab (flow σ d)))) 2 b0) + (ab (flow σ d)))) 8 d (((su (su σ 2 a0 ((σ 2 a0) - (ab (flow σ d)))) 2 b0 (((su σ 2 a0 ((σ 2 a0) - (ab (flow σ d)))) 2 b0) + (ab (flow σ d)))) 8 d) + (ab (flow σ d))) = carryB d σ := cy_fld eb0 ea0 (by omega) (by omega) hfl (by omega)
      rw [e9] at hP hD
      subst hQ
      exact rv hx hb hr hlocks hK hP hD hS dX2_carry_86 (rfl)

abbrev rmX2_pass : Room := { frames := 4, cells := 0, slots := 0, locals := 108 }
theorem b_X2_pass : Cond.instanceMethod yX2_pass ∈ LW ∧ Cond.selects RX2 yX2_pass yX2_pass ∈ LW ∧ Cond.initialized RX2 ∈ LW ∧ Cond.code yX2_pass cX2_pass 6 (some .int) ∈ LW := ⟨q456, q457, q11, q458⟩
set_option maxHeartbeats 8000000 in
set_option maxRecDepth 100000 in
theorem c_X2_pass (l : Launch) (D : va_G) (cI cZ cL : ClassId) {n k : Nat} (sm : Nat) (q : SA) (σ : Sg) (hst : Shp n k σ) {B : Nat} (hB : Bnd B σ) (hB2 : B + 400 < 2 ^ 29) : MC l yX2_pass cX2_pass 6 (some .int) rmX2_pass D (tZ cI cZ cL) [.ref sm] (sC cI cL sm q σ n k) (sC cI cL sm q (hour σ) n k) (some (.int (ruinN (hour σ) - ruinN σ))) := by
  refine MC.of (by decide) (Nat.le_of_ble_eq_true rfl) ?_
  intro p e s m args below meth c A ls Q hx hb hml hr hts hown hlocks hA hP hD hK hS hl hQ
  have hown : s.vm.findClass RX2 = some m.cls := hown
  have hn10 := hst.1
  have hk16 := hst.2.1
  have hl : lv_has ls 6 [(0, .ref sm)] := hl
  refine lv_iconst (v := 0) hx hb dX2_pass_0 (by decide) ?_
  refine lv_istore_n (lv' := [(1, .int 0), (0, .ref sm)]) hx hb dX2_pass_1 rfl hl (by decide) rfl (fun ls hl => ?_)
  refine lv_aload_n hx hb dX2_pass_2 rfl (lv_at hl 1 rfl) ?_
  refine s_get hx hb hts hown hK hP (σ := σ) (n := n) (k := k) (q := q) (sm := sm) (w0 := []) (w2 := []) (sp0 _) 0 (by decide) q433 (v := .ref q.1.1) rfl dX2_pass_3 ?_
  refine lv_astore_n (lv' := [(2, .ref q.1.1), (1, .int 0), (0, .ref sm)]) hx hb dX2_pass_6 rfl hl (by decide) rfl (fun ls hl => ?_)
  refine lv_aload_n hx hb dX2_pass_7 rfl (lv_at hl 0 rfl) ?_
  refine s_lnF hx hb hK hP (σ := σ) (n := n) (k := k) (q := q) (sm := sm) (w0 := []) (w2 := []) (sp0 _) dX2_pass_8 ?_
  refine lv_istore_n (lv' := [(3, .int (nI n)), (2, .ref q.1.1), (1, .int 0), (0, .ref sm)]) hx hb dX2_pass_9 rfl hl (by decide) rfl (fun ls hl => ?_)
  refine lv_iconst (v := 0) hx hb dX2_pass_10 (by decide) ?_
  refine lv_istore (lv' := [(4, .int 0), (3, .int (nI n)), (2, .ref q.1.1), (1, .int 0), (0, .ref sm)]) hx hb dX2_pass_11 hl (by decide) rfl (fun ls hl => ?_)
  have hl : lv_has ls 6 [(4, .int (nI 0)), (3, .int (nI n)), (2, .ref q.1.1), (1, .int 0), (0, .ref sm)] := hl
  have L13 : ∀ (f i : Nat), i ≤ n → n < i + f → ∀ (H : Heap) (locs : List Loc) (ls : Array Slot), va_P D vwCl (sC cI cL sm q (it rainB i σ) n k) H → va_D A (sC cI cL sm q (it rainB i σ) n k) → va_S A s.heap H locs → lv_has ls 6 [(0, .ref sm), (1, .int 0), (2, .ref q.1.1), (3, .int (nI n)), (4, .int (nI i))] → W p l e rmX2_pass s m args below meth c H locs 0 0 Q (F0 m 13 ls []) := by
    intro f
    induction f with
    | zero => intro i h1 h2; exact absurd h2 (by omega)
    | succ f ih_13 =>
      intro i hi_13 hf_13 H locs ls hP hD hS hl
      obtain ⟨τ, eτ⟩ : ∃ z, z = it rainB i σ := ⟨_, rfl⟩
      rw [← eτ] at hP hD
      refine lv_iload hx hb dX2_pass_13 (lv_at hl 4 rfl) ?_
      refine lv_iload_n hx hb dX2_pass_15 rfl (lv_at hl 3 rfl) ?_
      refine lv_icmp_ge (tgt := 42) hx hb dX2_pass_16 (by decide) (fun c_16 => ?_) (fun c_16 => ?_)
      · have hc_16 : n ≤ i := (nI_leI (a := n) (b := i) (by omega) (by omega)).mp c_16
        refine lv_aload_n hx hb dX2_pass_42 rfl (lv_at hl 0 rfl) ?_
        refine s_get hx hb hts hown hK hP (σ := τ) (n := n) (k := k) (q := q) (sm := sm) (w0 := []) (w2 := []) (sp0 _) 1 (by decide) q435 (v := .ref q.1.2) rfl dX2_pass_43 ?_
        refine lv_astore_n (lv' := [(2, .ref q.1.2), (0, .ref sm), (1, .int 0), (3, .int (nI n)), (4, .int (nI i))]) hx hb dX2_pass_46 rfl hl (by decide) rfl (fun ls hl => ?_)
        refine lv_aload_n hx hb dX2_pass_47 rfl (lv_at hl 0 rfl) ?_
        refine s_lnD hx hb hK hP (σ := τ) (n := n) (k := k) (q := q) (sm := sm) (w0 := []) (w2 := []) (sp0 _) dX2_pass_48 ?_
        refine lv_istore_n (lv' := [(3, .int (nI k)), (2, .ref q.1.2), (0, .ref sm), (1, .int 0), (4, .int (nI i))]) hx hb dX2_pass_49 rfl hl (by decide) rfl (fun ls hl => ?_)
        refine lv_iconst (v := 0) hx hb dX2_pass_50 (by decide) ?_
        refine lv_istore (lv' := [(4, .int 0), (3, .int (nI k)), (2, .ref q.1.2), (0, .ref sm), (1, .int 0)]) hx hb dX2_pass_51 hl (by decide) rfl (fun ls hl => ?_)
        have eh1 : τ = hour1 σ := by rw [eτ]; unfold hour1; rw [hst.eF, show i = n by omega]
        rw [eh1] at hP hD
        have hl : lv_has ls 6 [(4, .int (nI 0)), (3, .int (nI k)), (2, .ref q.1.2), (0, .ref sm), (1, .int 0)] := hl
        have L53 : ∀ (f j : Nat), j ≤ k → k < j + f → ∀ (H : Heap) (locs : List Loc) (ls : Array Slot), va_P D vwCl (sC cI cL sm q (it carryB j (hour1 σ)) n k) H → va_D A (sC cI cL sm q (it carryB j (hour1 σ)) n k) → va_S A s.heap H locs → lv_has ls 6 [(0, .ref sm), (1, .int 0), (2, .ref q.1.2), (3, .int (nI k)), (4, .int (nI j))] → W p l e rmX2_pass s m args below meth c H locs 0 0 Q (F0 m 53 ls []) := by
          intro f
          induction f with
          | zero => intro j h1 h2; exact absurd h2 (by omega)
          | succ f ih_53 =>
            intro j hi_53 hf_53 H locs ls hP hD hS hl
            obtain ⟨τ2, eτ2⟩ : ∃ z, z = it carryB j (hour1 σ) := ⟨_, rfl⟩
            rw [← eτ2] at hP hD
            have hst8 : Shp n k τ2 := by rw [eτ2]; exact hst.h1.iter Shp.carry j
            have hB8 : Bnd (B + 90 + 9 * j) τ2 := by rw [eτ2]; exact Bnd.h2 hst.h1 (hB.hr1 hst) (by omega) j (by omega)
            refine lv_iload hx hb dX2_pass_53 (lv_at hl 4 rfl) ?_
            refine lv_iload_n hx hb dX2_pass_55 rfl (lv_at hl 3 rfl) ?_
            refine lv_icmp_ge (tgt := 77) hx hb dX2_pass_56 (by decide) (fun c_56 => ?_) (fun c_56 => ?_)
            · have hc_56 : k ≤ j := (nI_leI (a := k) (b := j) (by omega) (by omega)).mp c_56
              refine lv_aload_n hx hb dX2_pass_77 rfl (lv_at hl 0 rfl) ?_
              refine s_get hx hb hts hown hK hP (σ := τ2) (n := n) (k := k) (q := q) (sm := sm) (w0 := []) (w2 := []) (sp0 _) 0 (by decide) q433 (v := .ref q.1.1) rfl dX2_pass_78 ?_
              refine lv_astore_n (lv' := [(2, .ref q.1.1), (0, .ref sm), (1, .int 0), (3, .int (nI k)), (4, .int (nI j))]) hx hb dX2_pass_81 rfl hl (by decide) rfl (fun ls hl => ?_)
              refine lv_aload_n hx hb dX2_pass_82 rfl (lv_at hl 0 rfl) ?_
              refine s_lnF hx hb hK hP (σ := τ2) (n := n) (k := k) (q := q) (sm := sm) (w0 := []) (w2 := []) (sp0 _) dX2_pass_83 ?_
              refine lv_istore_n (lv' := [(3, .int (nI n)), (2, .ref q.1.1), (0, .ref sm), (1, .int 0), (4, .int (nI j))]) hx hb dX2_pass_84 rfl hl (by decide) rfl (fun ls hl => ?_)
              refine lv_iconst (v := 0) hx hb dX2_pass_85 (by decide) ?_
              refine lv_istore (lv' := [(4, .int 0), (3, .int (nI n)), (2, .ref q.1.1), (0, .ref sm), (1, .int 0)]) hx hb dX2_pass_86 hl (by decide) rfl (fun ls hl => ?_)
              have eh2 : τ2 = hour2 σ := by rw [eτ2]; unfold hour2; rw [hst.eD, show j = k by omega]
              rw [eh2] at hP hD
              have hl : lv_has ls 6 [(4, .int (nI 0)), (3, .int (nI n)), (2, .ref q.1.1), (0, .ref sm), (1, .int (sumI (nrB (hour2 σ)) 0))] := hl
              have L88 : ∀ (f u : Nat), u ≤ n → n < u + f → ∀ (H : Heap) (locs : List Loc) (ls : Array Slot), va_P D vwCl (sC cI cL sm q (it wetB u (hour2 σ)) n k) H → va_D A (sC cI cL sm q (it wetB u (hour2 σ)) n k) → va_S A s.heap H locs → lv_has ls 6 [(0, .ref sm), (1, .int (sumI (nrB (hour2 σ)) u)), (2, .ref q.1.1), (3, .int (nI n)), (4, .int (nI u))] → W p l e rmX2_pass s m args below meth c H locs 0 0 Q (F0 m 88 ls []) := by
                intro f
                induction f with
                | zero => intro u h1 h2; exact absurd h2 (by omega)
                | succ f ih_88 =>
                  intro u hi_88 hf_88 H locs ls hP hD hS hl
                  obtain ⟨τ3, eτ3⟩ : ∃ z, z = it wetB u (hour2 σ) := ⟨_, rfl⟩
                  rw [← eτ3] at hP hD
                  refine lv_iload hx hb dX2_pass_88 (lv_at hl 4 rfl) ?_
                  refine lv_iload_n hx hb dX2_pass_90 rfl (lv_at hl 3 rfl) ?_
                  refine lv_icmp_ge (tgt := 156) hx hb dX2_pass_91 (by decide) (fun c_91 => ?_) (fun c_91 => ?_)
                  · have hc_91 : n ≤ u := (nI_leI (a := n) (b := u) (by omega) (by omega)).mp c_91
                    have eh3 : τ3 = hour3 σ := by rw [eτ3]; unfold hour3; rw [hst.eF, show u = n by omega]
                    rw [eh3] at hP hD
                    refine lv_aload_n hx hb dX2_pass_156 rfl (lv_at hl 0 rfl) ?_
                    refine lv_dup hx hb dX2_pass_157 rfl ?_
                    refine s_get hx hb hts hown hK hP (σ := hour3 σ) (n := n) (k := k) (q := q) (sm := sm) (w0 := []) (w2 := []) (sp0 _) 3 (by decide) q439 (v := .int ((hour3 σ) 11 4)) rfl dX2_pass_158 ?_
                    refine lv_iconst (v := 1) hx hb dX2_pass_161 (by decide) ?_
                    refine lv_iadd hx hb dX2_pass_162 ?_
                    refine s_put hx hb hts hown hK hP hD hS (σ := hour3 σ) (n := n) (k := k) (q := q) (sm := sm) (w0 := []) (w2 := []) (sp0 _) 3 4 (by decide) q439 dX2_pass_163 (fun H locs hP hD hS => ?_)
                    rw [List.append_nil] at hP hD
                    have hP : va_P D vwCl (sC cI cL sm q (sc (hour3 σ) 4 (((hour3 σ) 11 4) + 1)) n k) H := hP
                    have hD : va_D A (sC cI cL sm q (sc (hour3 σ) 4 (((hour3 σ) 11 4) + 1)) n k) := hD
                    refine lv_iload_n hx hb dX2_pass_166 rfl (lv_at hl 1 rfl) ?_
                    subst hQ
                    exact ri hx hb hr hlocks hK hP hD hS dX2_pass_167 (rfl) (by rw [show u = n by omega]; exact nr_sum hst hB)
                  · have hc_91 : u < n := Nat.not_le.mp (fun z => c_91 ((nI_leI (a := n) (b := u) (by omega) (by omega)).mpr z))
                    refine lv_aload_n hx hb dX2_pass_94 rfl (lv_at hl 2 rfl) ?_
                    refine lv_iload hx hb dX2_pass_95 (lv_at hl 4 rfl) ?_
                    refine s_alF hx hb hK hP (σ := τ3) (n := n) (k := k) (q := q) (sm := sm) (w0 := []) (w2 := []) (sp0 _) u (rfl) (by omega) (by omega) dX2_pass_97 ?_
                    refine lv_astore (lv' := [(5, .ref (q.2.1 u)), (0, .ref sm), (1, .int (sumI (nrB (hour2 σ)) u)), (2, .ref q.1.1), (3, .int (nI n)), (4, .int (nI u))]) hx hb dX2_pass_98 hl (by decide) rfl (fun ls hl => ?_)
                    refine lv_aload hx hb dX2_pass_100 (lv_at hl 0 rfl) ?_
                    refine lv_iconst (v := 3) hx hb dX2_pass_102 (by decide) ?_
                    refine lv_aload hx hb dX2_pass_103 (lv_at hl 0 rfl) ?_
                    refine lv_iconst (v := 2) hx hb dX2_pass_105 (by decide) ?_
                    refine s_ldF hx hb hK hP (σ := τ3) (n := n) (k := k) (q := q) (sm := sm) (w0 := []) (w2 := []) (sp0 _) u (by omega) 2 rfl (by decide) (v := τ3 2 u) rfl dX2_pass_106 ?_
                    refine lv_iconst (v := 3) hx hb dX2_pass_107 (by decide) ?_
                    refine lv_icmp_le (tgt := 120) hx hb dX2_pass_108 (by decide) (fun c_108 => ?_) (fun c_108 => ?_)
                    · refine lv_iconst (v := 0) hx hb dX2_pass_120 (by decide) ?_
                      refine x_top (show (0 : Int32) = wv τ3 u from by unfold wv; rw [if_neg (le3_n c_108)]) ?_
                      refine s_stF hx hb hK hP hD hS (σ := τ3) (n := n) (k := k) (q := q) (sm := sm) (w0 := []) (w2 := []) (sp0 _) u (by omega) 3 rfl (by decide) dX2_pass_121 (fun H locs hP hD hS => ?_)
                      rw [List.append_nil] at hP hD
                      have hP : va_P D vwCl (sC cI cL sm q (su τ3 3 u (wv τ3 u)) n k) H := hP
                      have hD : va_D A (sC cI cL sm q (su τ3 3 u (wv τ3 u)) n k) := hD
                      refine lv_aload hx hb dX2_pass_122 (lv_at hl 0 rfl) ?_
                      refine lv_iconst (v := 3) hx hb dX2_pass_124 (by decide) ?_
                      refine s_ldF hx hb hK hP (σ := su τ3 3 u (wv τ3 u)) (n := n) (k := k) (q := q) (sm := sm) (w0 := []) (w2 := []) (sp0 _) u (by omega) 3 rfl (by decide) (v := wv τ3 u) (su_in τ3 3 u (wv τ3 u)) dX2_pass_125 ?_
                      refine lv_bipush (v := 6) hx hb dX2_pass_126 (by decide) ?_
                      refine lv_icmp_lt (tgt := 150) hx hb dX2_pass_128 (by decide) (fun c_128 => ?_) (fun c_128 => ?_)
                      · refine lv_iinc (v := (nI (u + 1))) (lv' := [(4, .int (nI (u + 1))), (5, .ref (q.2.1 u)), (0, .ref sm), (1, .int (sumI (nrB (hour2 σ)) u)), (2, .ref q.1.1), (3, .int (nI n))]) hx hb dX2_pass_150 hl (k := 5) rfl (nI_add u 1) (by decide) rfl (fun ls hl => ?_)
                        refine lv_goto (tgt := 88) hx hb dX2_pass_153 (by decide) ?_
                        have e9 : su τ3 3 u (wv τ3 u) = it wetB (u + 1) (hour2 σ) := by
                          show _ = wetB u (it wetB u (hour2 σ))
                          rw [← eτ3]
                          unfold wetB
                          rw [if_neg (Int32.not_le.mpr c_128)]
                        rw [e9] at hP hD
                        have e8 : sumI (nrB (hour2 σ)) u = sumI (nrB (hour2 σ)) (u + 1) := sum_0 (g := nrB (hour2 σ)) (nr_0a (by rw [← eτ3]; exact c_128))
                        rw [e8] at hl
                        exact ih_88 (u + 1) (by omega) (by omega) _ _ _ hP hD hS (lv_sub hl [2, 3, 4, 5, 0] rfl)
                      · refine lv_aload hx hb dX2_pass_131 (lv_at hl 0 rfl) ?_
                        refine lv_iconst (v := 4) hx hb dX2_pass_133 (by decide) ?_
                        refine s_ldF hx hb hK hP (σ := su τ3 3 u (wv τ3 u)) (n := n) (k := k) (q := q) (sm := sm) (w0 := []) (w2 := []) (sp0 _) u (by omega) 4 rfl (by decide) (v := (su τ3 3 u (wv τ3 u)) 4 u) rfl dX2_pass_134 ?_
                        refine lv_iconst (v := 1) hx hb dX2_pass_135 (by decide) ?_
                        refine lv_icmp_ne (tgt := 142) hx hb dX2_pass_136 (by decide) (fun c_136 => ?_) (fun c_136 => ?_)
                        · refine lv_aload hx hb dX2_pass_142 (lv_at hl 0 rfl) ?_
                          refine lv_iconst (v := 4) hx hb dX2_pass_144 (by decide) ?_
                          refine lv_iconst (v := 1) hx hb dX2_pass_145 (by decide) ?_
                          refine s_stF hx hb hK hP hD hS (σ := su τ3 3 u (wv τ3 u)) (n := n) (k := k) (q := q) (sm := sm) (w0 := []) (w2 := []) (sp0 _) u (by omega) 4 rfl (by decide) dX2_pass_146 (fun H locs hP hD hS => ?_)
                          rw [List.append_nil] at hP hD
                          have hP : va_P D vwCl (sC cI cL sm q (su (su τ3 3 u (wv τ3 u)) 4 u 1) n k) H := hP
                          have hD : va_D A (sC cI cL sm q (su (su τ3 3 u (wv τ3 u)) 4 u 1) n k) := hD
                          refine lv_iinc (v := sumI (nrB (hour2 σ)) u + 1) (lv' := [(1, .int (sumI (nrB (hour2 σ)) u + 1)), (5, .ref (q.2.1 u)), (0, .ref sm), (2, .ref q.1.1), (3, .int (nI n)), (4, .int (nI u))]) hx hb dX2_pass_147 hl (k := 2) rfl (rfl) (by decide) rfl (fun ls hl => ?_)
                          refine lv_iinc (v := (nI (u + 1))) (lv' := [(4, .int (nI (u + 1))), (1, .int (sumI (nrB (hour2 σ)) u + 1)), (5, .ref (q.2.1 u)), (0, .ref sm), (2, .ref q.1.1), (3, .int (nI n))]) hx hb dX2_pass_150 hl (k := 5) rfl (nI_add u 1) (by decide) rfl (fun ls hl => ?_)
                          refine lv_goto (tgt := 88) hx hb dX2_pass_153 (by decide) ?_
                          have e9 : su (su τ3 3 u (wv τ3 u)) 4 u 1 = it wetB (u + 1) (hour2 σ) := by
                            show _ = wetB u (it wetB u (hour2 σ))
                            rw [← eτ3]
                            unfold wetB
                            rw [if_pos (Int32.not_lt.mp c_128)]
                          rw [e9] at hP hD
                          have e8 : sumI (nrB (hour2 σ)) u + 1 = sumI (nrB (hour2 σ)) (u + 1) := sum_1 (g := nrB (hour2 σ)) (nr_1 (by rw [← eτ3]; exact c_128) (by rw [← eτ3]; exact c_136))
                          rw [e8] at hl
                          exact ih_88 (u + 1) (by omega) (by omega) _ _ _ hP hD hS (lv_sub hl [3, 1, 4, 5, 0] rfl)
                        · refine lv_goto (tgt := 150) hx hb dX2_pass_139 (by decide) ?_
                          refine lv_iinc (v := (nI (u + 1))) (lv' := [(4, .int (nI (u + 1))), (5, .ref (q.2.1 u)), (0, .ref sm), (1, .int (sumI (nrB (hour2 σ)) u)), (2, .ref q.1.1), (3, .int (nI n))]) hx hb dX2_pass_150 hl (k := 5) rfl (nI_add u 1) (by decide) rfl (fun ls hl => ?_)
                          refine lv_goto (tgt := 88) hx hb dX2_pass_153 (by decide) ?_
                          have e9 : su τ3 3 u (wv τ3 u) = it wetB (u + 1) (hour2 σ) := by
                            show _ = wetB u (it wetB u (hour2 σ))
                            rw [← eτ3]
                            unfold wetB
                            rw [if_pos (Int32.not_lt.mp c_128)]
                            exact (su_same (su τ3 3 u (wv τ3 u)) 4 u c_136).symm
                          rw [e9] at hP hD
                          have e8 : sumI (nrB (hour2 σ)) u = sumI (nrB (hour2 σ)) (u + 1) := sum_0 (g := nrB (hour2 σ)) (nr_0b (by rw [← eτ3]; exact c_136))
                          rw [e8] at hl
                          exact ih_88 (u + 1) (by omega) (by omega) _ _ _ hP hD hS (lv_sub hl [2, 3, 4, 5, 0] rfl)
                    · refine lv_aload hx hb dX2_pass_111 (lv_at hl 0 rfl) ?_
                      refine lv_iconst (v := 3) hx hb dX2_pass_113 (by decide) ?_
                      refine s_ldF hx hb hK hP (σ := τ3) (n := n) (k := k) (q := q) (sm := sm) (w0 := []) (w2 := []) (sp0 _) u (by omega) 3 rfl (by decide) (v := τ3 3 u) rfl dX2_pass_114 ?_
                      refine lv_iconst (v := 1) hx hb dX2_pass_115 (by decide) ?_
                      refine lv_iadd hx hb dX2_pass_116 ?_
                      refine lv_goto (tgt := 121) hx hb dX2_pass_117 (by decide) ?_
                      refine x_top (show τ3 3 u + 1 = wv τ3 u from by unfold wv; rw [if_pos (le3_4 c_108)]) ?_
                      refine s_stF hx hb hK hP hD hS (σ := τ3) (n := n) (k := k) (q := q) (sm := sm) (w0 := []) (w2 := []) (sp0 _) u (by omega) 3 rfl (by decide) dX2_pass_121 (fun H locs hP hD hS => ?_)
                      rw [List.append_nil] at hP hD
                      have hP : va_P D vwCl (sC cI cL sm q (su τ3 3 u (wv τ3 u)) n k) H := hP
                      have hD : va_D A (sC cI cL sm q (su τ3 3 u (wv τ3 u)) n k) := hD
                      refine lv_aload hx hb dX2_pass_122 (lv_at hl 0 rfl) ?_
                      refine lv_iconst (v := 3) hx hb dX2_pass_124 (by decide) ?_
                      refine s_ldF hx hb hK hP (σ := su τ3 3 u (wv τ3 u)) (n := n) (k := k) (q := q) (sm := sm) (w0 := []) (w2 := []) (sp0 _) u (by omega) 3 rfl (by decide) (v := wv τ3 u) (su_in τ3 3 u (wv τ3 u)) dX2_pass_125 ?_
                      refine lv_bipush (v := 6) hx hb dX2_pass_126 (by decide) ?_
                      refine lv_icmp_lt (tgt := 150) hx hb dX2_pass_128 (by decide) (fun c_128 => ?_) (fun c_128 => ?_)
                      · refine lv_iinc (v := (nI (u + 1))) (lv' := [(4, .int (nI (u + 1))), (5, .ref (q.2.1 u)), (0, .ref sm), (1, .int (sumI (nrB (hour2 σ)) u)), (2, .ref q.1.1), (3, .int (nI n))]) hx hb dX2_pass_150 hl (k := 5) rfl (nI_add u 1) (by decide) rfl (fun ls hl => ?_)
                        refine lv_goto (tgt := 88) hx hb dX2_pass_153 (by decide) ?_
                        have e9 : su τ3 3 u (wv τ3 u) = it wetB (u + 1) (hour2 σ) := by
                          show _ = wetB u (it wetB u (hour2 σ))
                          rw [← eτ3]
                          unfold wetB
                          rw [if_neg (Int32.not_le.mpr c_128)]
                        rw [e9] at hP hD
                        have e8 : sumI (nrB (hour2 σ)) u = sumI (nrB (hour2 σ)) (u + 1) := sum_0 (g := nrB (hour2 σ)) (nr_0a (by rw [← eτ3]; exact c_128))
                        rw [e8] at hl
                        exact ih_88 (u + 1) (by omega) (by omega) _ _ _ hP hD hS (lv_sub hl [2, 3, 4, 5, 0] rfl)
                      · refine lv_aload hx hb dX2_pass_131 (lv_at hl 0 rfl) ?_
                        refine lv_iconst (v := 4) hx hb dX2_pass_133 (by decide) ?_
                        refine s_ldF hx hb hK hP (σ := su τ3 3 u (wv τ3 u)) (n := n) (k := k) (q := q) (sm := sm) (w0 := []) (w2 := []) (sp0 _) u (by omega) 4 rfl (by decide) (v := (su τ3 3 u (wv τ3 u)) 4 u) rfl dX2_pass_134 ?_
                        refine lv_iconst (v := 1) hx hb dX2_pass_135 (by decide) ?_
                        refine lv_icmp_ne (tgt := 142) hx hb dX2_pass_136 (by decide) (fun c_136 => ?_) (fun c_136 => ?_)
                        · refine lv_aload hx hb dX2_pass_142 (lv_at hl 0 rfl) ?_
                          refine lv_iconst (v := 4) hx hb dX2_pass_144 (by decide) ?_
                          refine lv_iconst (v := 1) hx hb dX2_pass_145 (by decide) ?_
                          refine s_stF hx hb hK hP hD hS (σ := su τ3 3 u (wv τ3 u)) (n := n) (k := k) (q := q) (sm := sm) (w0 := []) (w2 := []) (sp0 _) u (by omega) 4 rfl (by decide) dX2_pass_146 (fun H locs hP hD hS => ?_)
                          rw [List.append_nil] at hP hD
                          have hP : va_P D vwCl (sC cI cL sm q (su (su τ3 3 u (wv τ3 u)) 4 u 1) n k) H := hP
                          have hD : va_D A (sC cI cL sm q (su (su τ3 3 u (wv τ3 u)) 4 u 1) n k) := hD
                          refine lv_iinc (v := sumI (nrB (hour2 σ)) u + 1) (lv' := [(1, .int (sumI (nrB (hour2 σ)) u + 1)), (5, .ref (q.2.1 u)), (0, .ref sm), (2, .ref q.1.1), (3, .int (nI n)), (4, .int (nI u))]) hx hb dX2_pass_147 hl (k := 2) rfl (rfl) (by decide) rfl (fun ls hl => ?_)
                          refine lv_iinc (v := (nI (u + 1))) (lv' := [(4, .int (nI (u + 1))), (1, .int (sumI (nrB (hour2 σ)) u + 1)), (5, .ref (q.2.1 u)), (0, .ref sm), (2, .ref q.1.1), (3, .int (nI n))]) hx hb dX2_pass_150 hl (k := 5) rfl (nI_add u 1) (by decide) rfl (fun ls hl => ?_)
                          refine lv_goto (tgt := 88) hx hb dX2_pass_153 (by decide) ?_
                          have e9 : su (su τ3 3 u (wv τ3 u)) 4 u 1 = it wetB (u + 1) (hour2 σ) := by
                            show _ = wetB u (it wetB u (hour2 σ))
                            rw [← eτ3]
                            unfold wetB
                            rw [if_pos (Int32.not_lt.mp c_128)]
                          rw [e9] at hP hD
                          have e8 : sumI (nrB (hour2 σ)) u + 1 = sumI (nrB (hour2 σ)) (u + 1) := sum_1 (g := nrB (hour2 σ)) (nr_1 (by rw [← eτ3]; exact c_128) (by rw [← eτ3]; exact c_136))
                          rw [e8] at hl
                          exact ih_88 (u + 1) (by omega) (by omega) _ _ _ hP hD hS (lv_sub hl [3, 1, 4, 5, 0] rfl)
                        · refine lv_goto (tgt := 150) hx hb dX2_pass_139 (by decide) ?_
                          refine lv_iinc (v := (nI (u + 1))) (lv' := [(4, .int (nI (u + 1))), (5, .ref (q.2.1 u)), (0, .ref sm), (1, .int (sumI (nrB (hour2 σ)) u)), (2, .ref q.1.1), (3, .int (nI n))]) hx hb dX2_pass_150 hl (k := 5) rfl (nI_add u 1) (by decide) rfl (fun ls hl => ?_)
                          refine lv_goto (tgt := 88) hx hb dX2_pass_153 (by decide) ?_
                          have e9 : su τ3 3 u (wv τ3 u) = it wetB (u + 1) (hour2 σ) := by
                            show _ = wetB u (it wetB u (hour2 σ))
                            rw [← eτ3]
                            unfold wetB
                            rw [if_pos (Int32.not_lt.mp c_128)]
                            exact (su_same (su τ3 3 u (wv τ3 u)) 4 u c_136).symm
                          rw [e9] at hP hD
                          have e8 : sumI (nrB (hour2 σ)) u = sumI (nrB (hour2 σ)) (u + 1) := sum_0 (g := nrB (hour2 σ)) (nr_0b (by rw [← eτ3]; exact c_136))
                          rw [e8] at hl
                          exact ih_88 (u + 1) (by omega) (by omega) _ _ _ hP hD hS (lv_sub hl [2, 3, 4, 5, 0] rfl)
              exact L88 (n + 1) 0 (by omega) (by omega) _ _ _ hP hD hS (lv_sub hl [3, 4, 2, 1, 0] rfl)
            · have hc_56 : j < k := Nat.not_le.mp (fun z => c_56 ((nI_leI (a := k) (b := j) (by omega) (by omega)).mpr z))
              refine lv_aload_n hx hb dX2_pass_59 rfl (lv_at hl 2 rfl) ?_
              refine lv_iload hx hb dX2_pass_60 (lv_at hl 4 rfl) ?_
              refine s_alD hx hb hK hP (σ := τ2) (n := n) (k := k) (q := q) (sm := sm) (w0 := []) (w2 := []) (sp0 _) j (rfl) (by omega) (by omega) dX2_pass_62 ?_
              refine lv_astore (lv' := [(5, .ref (q.2.2 j)), (0, .ref sm), (1, .int 0), (2, .ref q.1.2), (3, .int (nI k)), (4, .int (nI j))]) hx hb dX2_pass_63 hl (by decide) rfl (fun ls hl => ?_)
              refine lv_aload_n hx hb dX2_pass_65 rfl (lv_at hl 1 rfl) ?_
              refine lv_aload hx hb dX2_pass_66 (lv_at hl 0 rfl) ?_
              refine MC.callV0 (C := RX2) (T := TX2) (N := 5) (As := [.ref (q.2.2 j)]) (rest := []) (w0 := []) (w2 := []) (wB := sC cI cL sm q (carryB j τ2) n k) (c_X2_carry l D cI cZ cL sm q τ2 hst8 hB8 (by omega) j (by omega)) ⟨hx, hb, hml, hown, hts⟩ q459 b_X2_carry (n := 1) (by decide +kernel) ⟨(Nat.le_of_ble_eq_true rfl), (Nat.le_of_ble_eq_true rfl)⟩ hK hP hD hS hA (sp0 _) (sp0 _) (ci := 2) rfl rfl rfl hl.1 rfl (Nat.le_of_ble_eq_true rfl) dX2_pass_68 ⟨(Nat.le_of_ble_eq_true rfl), (Nat.le_of_ble_eq_true rfl)⟩ (fun H locs hP hD hS => ?_)
              refine lv_iinc (v := (nI (j + 1))) (lv' := [(4, .int (nI (j + 1))), (5, .ref (q.2.2 j)), (0, .ref sm), (1, .int 0), (2, .ref q.1.2), (3, .int (nI k))]) hx hb dX2_pass_71 hl (k := 5) rfl (nI_add j 1) (by decide) rfl (fun ls hl => ?_)
              refine lv_goto (tgt := 53) hx hb dX2_pass_74 (by decide) ?_
              have e9 : carryB j τ2 = it carryB (j + 1) (hour1 σ) := by rw [eτ2]; rfl
              rw [e9] at hP hD
              exact ih_53 (j + 1) (by omega) (by omega) _ _ _ hP hD hS (lv_sub hl [2, 3, 4, 5, 0] rfl)
        exact L53 (k + 1) 0 (by omega) (by omega) _ _ _ hP hD hS (lv_sub hl [3, 4, 2, 1, 0] rfl)
      · have hc_16 : i < n := Nat.not_le.mp (fun z => c_16 ((nI_leI (a := n) (b := i) (by omega) (by omega)).mpr z))
        refine lv_aload_n hx hb dX2_pass_19 rfl (lv_at hl 2 rfl) ?_
        refine lv_iload hx hb dX2_pass_20 (lv_at hl 4 rfl) ?_
        refine s_alF hx hb hK hP (σ := τ) (n := n) (k := k) (q := q) (sm := sm) (w0 := []) (w2 := []) (sp0 _) i (rfl) (by omega) (by omega) dX2_pass_22 ?_
        refine lv_astore (lv' := [(5, .ref (q.2.1 i)), (0, .ref sm), (1, .int 0), (2, .ref q.1.1), (3, .int (nI n)), (4, .int (nI i))]) hx hb dX2_pass_23 hl (by decide) rfl (fun ls hl => ?_)
        refine lv_aload hx hb dX2_pass_25 (lv_at hl 0 rfl) ?_
        refine lv_iconst (v := 2) hx hb dX2_pass_27 (by decide) ?_
        refine lv_dup2_11 hx hb dX2_pass_28 rfl rfl ?_
        refine s_ldF hx hb hK hP (σ := τ) (n := n) (k := k) (q := q) (sm := sm) (w0 := []) (w2 := []) (sp0 _) i (by omega) 2 rfl (by decide) (v := τ 2 i) rfl dX2_pass_29 ?_
        refine lv_aload_n hx hb dX2_pass_30 rfl (lv_at hl 1 rfl) ?_
        refine s_get hx hb hts hown hK hP (σ := τ) (n := n) (k := k) (q := q) (sm := sm) (w0 := []) (w2 := []) (sp0 _) 2 (by decide) q437 (v := .int (τ 11 2)) rfl dX2_pass_31 ?_
        refine lv_iadd hx hb dX2_pass_34 ?_
        refine s_stF hx hb hK hP hD hS (σ := τ) (n := n) (k := k) (q := q) (sm := sm) (w0 := []) (w2 := []) (sp0 _) i (by omega) 2 rfl (by decide) dX2_pass_35 (fun H locs hP hD hS => ?_)
        rw [List.append_nil] at hP hD
        have hP : va_P D vwCl (sC cI cL sm q (su τ 2 i ((τ 2 i) + (τ 11 2))) n k) H := hP
        have hD : va_D A (sC cI cL sm q (su τ 2 i ((τ 2 i) + (τ 11 2))) n k) := hD
        refine lv_iinc (v := (nI (i + 1))) (lv' := [(4, .int (nI (i + 1))), (5, .ref (q.2.1 i)), (0, .ref sm), (1, .int 0), (2, .ref q.1.1), (3, .int (nI n))]) hx hb dX2_pass_36 hl (k := 5) rfl (nI_add i 1) (by decide) rfl (fun ls hl => ?_)
        refine lv_goto (tgt := 13) hx hb dX2_pass_39 (by decide) ?_
        have e9 : su τ 2 i ((τ 2 i) + (τ 11 2)) = it rainB (i + 1) σ := by rw [eτ]; rfl
        rw [e9] at hP hD
        exact ih_13 (i + 1) (by omega) (by omega) _ _ _ hP hD hS (lv_sub hl [2, 3, 4, 5, 0] rfl)
  exact L13 (n + 1) 0 (by omega) (by omega) _ _ _ hP hD hS (lv_sub hl [4, 3, 2, 1, 0] rfl)

abbrev rmX2_pass_ : Room := { frames := 5, cells := 0, slots := 0, locals := 133 }
theorem b_X2_pass_ : Cond.instanceMethod yX2_pass_ ∈ LW ∧ Cond.selects RX2 yX2_pass_ yX2_pass_ ∈ LW ∧ Cond.initialized RX2 ∈ LW ∧ Cond.code yX2_pass_ cX2_pass_ 4 (some .int) ∈ LW := ⟨q482, q483, q11, q484⟩
set_option maxHeartbeats 4000000 in
set_option maxRecDepth 100000 in
theorem c_X2_pass_ (l : Launch) (D : va_G) (cI cZ cL : ClassId) {n k : Nat} (sm : Nat) (q : SA) (σ : Sg) (hst : Shp n k σ) {B : Nat} (hB : Bnd B σ) (t : Nat) (ht : t < 1000) (hB2 : B + 234 * t + 400 < 2 ^ 29) : MC l yX2_pass_ cX2_pass_ 4 (some .int) rmX2_pass_ D (tZ cI cZ cL) [.ref sm, .int (nI t)] (sC cI cL sm q σ n k) (sC cI cL sm q (hours t σ) n k) (some (.int (ruinN (hours t σ) - ruinN σ))) := by
  refine MC.of (by decide) (Nat.le_of_ble_eq_true rfl) ?_
  intro p e s m args below meth c A ls Q hx hb hml hr hts hown hlocks hA hP hD hK hS hl hQ
  have hown : s.vm.findClass RX2 = some m.cls := hown
  have hn10 := hst.1
  have hk16 := hst.2.1
  have hl : lv_has ls 4 [(0, .ref sm), (1, .int (nI t))] := hl
  refine lv_iconst (v := 0) hx hb dX2_pass__0 (by decide) ?_
  refine lv_istore_n (lv' := [(2, .int 0), (0, .ref sm), (1, .int (nI t))]) hx hb dX2_pass__1 rfl hl (by decide) rfl (fun ls hl => ?_)
  refine lv_iconst (v := 0) hx hb dX2_pass__2 (by decide) ?_
  refine lv_istore_n (lv' := [(3, .int 0), (2, .int 0), (0, .ref sm), (1, .int (nI t))]) hx hb dX2_pass__3 rfl hl (by decide) rfl (fun ls hl => ?_)
  have e7 : (0 : Int32) = ruinN (hours 0 σ) - ruinN σ := (Int32.sub_self _).symm
  have hl : lv_has ls 4 [(3, .int (nI 0)), (2, .int (ruinN (hours 0 σ) - ruinN σ)), (0, .ref sm), (1, .int (nI t))] := (congrArg (fun z => lv_has ls 4 [(3, .int (nI 0)), (2, .int z), (0, .ref sm), (1, .int (nI t))]) e7).mp hl
  have L4 : ∀ (f i : Nat), i ≤ t → t < i + f → ∀ (H : Heap) (locs : List Loc) (ls : Array Slot), va_P D vwCl (sC cI cL sm q (hours i σ) n k) H → va_D A (sC cI cL sm q (hours i σ) n k) → va_S A s.heap H locs → lv_has ls 4 [(0, .ref sm), (1, .int (nI t)), (2, .int (ruinN (hours i σ) - ruinN σ)), (3, .int (nI i))] → W p l e rmX2_pass_ s m args below meth c H locs 0 0 Q (F0 m 4 ls []) := by
    intro f
    induction f with
    | zero => intro i h1 h2; exact absurd h2 (by omega)
    | succ f ih_4 =>
      intro i hi_4 hf_4 H locs ls hP hD hS hl
      obtain ⟨τ, eτ⟩ : ∃ z, z = hours i σ := ⟨_, rfl⟩
      rw [← eτ] at hP hD
      have hst9 : Shp n k τ := by rw [eτ]; exact hst.hrs i
      have hB9 : Bnd (B + 234 * i) τ := by rw [eτ]; exact Bnd.hrs hst hB i (by omega)
      refine lv_iload_n hx hb dX2_pass__4 rfl (lv_at hl 3 rfl) ?_
      refine lv_iload_n hx hb dX2_pass__5 rfl (lv_at hl 1 rfl) ?_
      refine lv_icmp_ge (tgt := 22) hx hb dX2_pass__6 (by decide) (fun c_6 => ?_) (fun c_6 => ?_)
      · have hc_6 : t ≤ i := (nI_leI (a := t) (b := i) (by omega) (by omega)).mp c_6
        refine lv_iload_n hx hb dX2_pass__22 rfl (lv_at hl 2 rfl) ?_
        subst hQ
        exact ri hx hb hr hlocks hK hP hD hS dX2_pass__23 (by rw [eτ, show i = t by omega]) (by rw [show i = t by omega])
      · have hc_6 : i < t := Nat.not_le.mp (fun z => c_6 ((nI_leI (a := t) (b := i) (by omega) (by omega)).mpr z))
        refine lv_iload_n hx hb dX2_pass__9 rfl (lv_at hl 2 rfl) ?_
        refine lv_aload_n hx hb dX2_pass__10 rfl (lv_at hl 0 rfl) ?_
        refine MC.callV0 (C := RX2) (T := TX2) (N := 5) (As := []) (rest := [.int (ruinN (hours i σ) - ruinN σ)]) (w0 := []) (w2 := []) (wB := sC cI cL sm q (hour τ) n k) (c_X2_pass l D cI cZ cL sm q τ hst9 hB9 (by omega)) ⟨hx, hb, hml, hown, hts⟩ q485 b_X2_pass (n := 0) (by decide +kernel) ⟨(Nat.le_of_ble_eq_true rfl), (Nat.le_of_ble_eq_true rfl)⟩ hK hP hD hS hA (sp0 _) (sp0 _) (ci := 2) rfl rfl rfl hl.1 rfl (Nat.le_of_ble_eq_true rfl) dX2_pass__11 ⟨(Nat.le_of_ble_eq_true rfl), (Nat.le_of_ble_eq_true rfl)⟩ (fun H locs hP hD hS => ?_)
        refine lv_iadd hx hb dX2_pass__14 ?_
        refine lv_topi (fun v_1 ev_1 => ?_)
        refine lv_istore_n (lv' := [(2, .int v_1), (0, .ref sm), (1, .int (nI t)), (3, .int (nI i))]) hx hb dX2_pass__15 rfl hl (by decide) rfl (fun ls hl => ?_)
        refine lv_iinc (v := (nI (i + 1))) (lv' := [(3, .int (nI (i + 1))), (2, .int v_1), (0, .ref sm), (1, .int (nI t))]) hx hb dX2_pass__16 hl (k := 3) rfl (nI_add i 1) (by decide) rfl (fun ls hl => ?_)
        refine lv_goto (tgt := 4) hx hb dX2_pass__19 (by decide) ?_
        have e9 : hour τ = hours (i + 1) σ := by rw [eτ]; rfl
        rw [e9] at hP hD
        have e8 : v_1 = ruinN (hours (i + 1) σ) - ruinN σ := by
          rw [ev_1]
          rw [← e9, eτ]; exact rn_step _ _ _
        rw [e8] at hl
        exact ih_4 (i + 1) (by omega) (by omega) _ _ _ hP hD hS (lv_sub hl [2, 3, 1, 0] rfl)
  exact L4 (t + 1) 0 (by omega) (by omega) _ _ _ hP hD hS (lv_sub hl [2, 3, 1, 0] rfl)

abbrev rmX2_loss : Room := { frames := 0, cells := 0, slots := 0, locals := 0 }
theorem b_X2_loss : Cond.instanceMethod yX2_loss ∈ LW ∧ Cond.selects RX2 yX2_loss yX2_loss ∈ LW ∧ Cond.initialized RX2 ∈ LW ∧ Cond.code yX2_loss cX2_loss 6 (some .int) ∈ LW := ⟨q487, q488, q11, q489⟩
set_option maxHeartbeats 4000000 in
set_option maxRecDepth 100000 in
theorem c_X2_loss (l : Launch) (D : va_G) (cI cZ cL : ClassId) {n k : Nat} (sm : Nat) (q : SA) (σ : Sg) (hst : Shp n k σ) {B : Nat} (hB : Bnd B σ) : MC l yX2_loss cX2_loss 6 (some .int) rmX2_loss D (tZ cI cZ cL) [.ref sm] (sC cI cL sm q σ n k) (sC cI cL sm q σ n k) (some (.int (lost σ))) := by
  refine MC.of (by decide) (Nat.le_of_ble_eq_true rfl) ?_
  intro p e s m args below meth c A ls Q hx hb hml hr hts hown hlocks hA hP hD hK hS hl hQ
  have hown : s.vm.findClass RX2 = some m.cls := hown
  have hn10 := hst.1
  have hk16 := hst.2.1
  have hl : lv_has ls 6 [(0, .ref sm)] := hl
  refine lv_iconst (v := 0) hx hb dX2_loss_0 (by decide) ?_
  refine lv_istore_n (lv' := [(1, .int 0), (0, .ref sm)]) hx hb dX2_loss_1 rfl hl (by decide) rfl (fun ls hl => ?_)
  refine lv_aload_n hx hb dX2_loss_2 rfl (lv_at hl 1 rfl) ?_
  refine s_get hx hb hts hown hK hP (σ := σ) (n := n) (k := k) (q := q) (sm := sm) (w0 := []) (w2 := []) (sp0 _) 0 (by decide) q433 (v := .ref q.1.1) rfl dX2_loss_3 ?_
  refine lv_astore_n (lv' := [(2, .ref q.1.1), (1, .int 0), (0, .ref sm)]) hx hb dX2_loss_6 rfl hl (by decide) rfl (fun ls hl => ?_)
  refine lv_aload_n hx hb dX2_loss_7 rfl (lv_at hl 0 rfl) ?_
  refine s_lnF hx hb hK hP (σ := σ) (n := n) (k := k) (q := q) (sm := sm) (w0 := []) (w2 := []) (sp0 _) dX2_loss_8 ?_
  refine lv_istore_n (lv' := [(3, .int (nI n)), (2, .ref q.1.1), (1, .int 0), (0, .ref sm)]) hx hb dX2_loss_9 rfl hl (by decide) rfl (fun ls hl => ?_)
  refine lv_iconst (v := 0) hx hb dX2_loss_10 (by decide) ?_
  refine lv_istore (lv' := [(4, .int 0), (3, .int (nI n)), (2, .ref q.1.1), (1, .int 0), (0, .ref sm)]) hx hb dX2_loss_11 hl (by decide) rfl (fun ls hl => ?_)
  have hl : lv_has ls 6 [(4, .int (nI 0)), (3, .int (nI n)), (2, .ref q.1.1), (1, .int (sumI (fun f => if σ 4 f = 0 then (0 : Int32) else σ 1 f) 0)), (0, .ref sm)] := hl
  have L13 : ∀ (f i : Nat), i ≤ n → n < i + f → ∀ (H : Heap) (locs : List Loc) (ls : Array Slot), va_P D vwCl (sC cI cL sm q σ n k) H → va_D A (sC cI cL sm q σ n k) → va_S A s.heap H locs → lv_has ls 6 [(0, .ref sm), (1, .int (sumI (fun f => if σ 4 f = 0 then (0 : Int32) else σ 1 f) i)), (2, .ref q.1.1), (3, .int (nI n)), (4, .int (nI i))] → W p l e rmX2_loss s m args below meth c H locs 0 0 Q (F0 m 13 ls []) := by
    intro f
    induction f with
    | zero => intro i h1 h2; exact absurd h2 (by omega)
    | succ f ih_13 =>
      intro i hi_13 hf_13 H locs ls hP hD hS hl
      refine lv_iload hx hb dX2_loss_13 (lv_at hl 4 rfl) ?_
      refine lv_iload_n hx hb dX2_loss_15 rfl (lv_at hl 3 rfl) ?_
      refine lv_icmp_ge (tgt := 43) hx hb dX2_loss_16 (by decide) (fun c_16 => ?_) (fun c_16 => ?_)
      · have hc_16 : n ≤ i := (nI_leI (a := n) (b := i) (by omega) (by omega)).mp c_16
        refine lv_iload_n hx hb dX2_loss_43 rfl (lv_at hl 1 rfl) ?_
        subst hQ
        exact ri hx hb hr hlocks hK hP hD hS dX2_loss_44 (rfl) (by unfold lost; rw [hst.eF, show i = n by omega])
      · have hc_16 : i < n := Nat.not_le.mp (fun z => c_16 ((nI_leI (a := n) (b := i) (by omega) (by omega)).mpr z))
        refine lv_aload_n hx hb dX2_loss_19 rfl (lv_at hl 2 rfl) ?_
        refine lv_iload hx hb dX2_loss_20 (lv_at hl 4 rfl) ?_
        refine s_alF hx hb hK hP (σ := σ) (n := n) (k := k) (q := q) (sm := sm) (w0 := []) (w2 := []) (sp0 _) i (rfl) (by omega) (by omega) dX2_loss_22 ?_
        refine lv_astore (lv' := [(5, .ref (q.2.1 i)), (0, .ref sm), (1, .int (sumI (fun f => if σ 4 f = 0 then (0 : Int32) else σ 1 f) i)), (2, .ref q.1.1), (3, .int (nI n)), (4, .int (nI i))]) hx hb dX2_loss_23 hl (by decide) rfl (fun ls hl => ?_)
        refine lv_iload_n hx hb dX2_loss_25 rfl (lv_at hl 2 rfl) ?_
        refine lv_aload hx hb dX2_loss_26 (lv_at hl 0 rfl) ?_
        refine lv_iconst (v := 4) hx hb dX2_loss_28 (by decide) ?_
        refine s_ldF hx hb hK hP (σ := σ) (n := n) (k := k) (q := q) (sm := sm) (w0 := []) (w2 := []) (sp0 _) i (by omega) 4 rfl (by decide) (v := σ 4 i) rfl dX2_loss_29 ?_
        refine lv_aload hx hb dX2_loss_30 (lv_at hl 0 rfl) ?_
        refine lv_iconst (v := 1) hx hb dX2_loss_32 (by decide) ?_
        refine s_ldF hx hb hK hP (σ := σ) (n := n) (k := k) (q := q) (sm := sm) (w0 := []) (w2 := []) (sp0 _) i (by omega) 1 rfl (by decide) (v := σ 1 i) rfl dX2_loss_33 ?_
        refine lv_imul hx hb dX2_loss_34 ?_
        refine lv_iadd hx hb dX2_loss_35 ?_
        refine lv_topi (fun v_1 ev_1 => ?_)
        refine lv_istore_n (lv' := [(1, .int v_1), (5, .ref (q.2.1 i)), (0, .ref sm), (2, .ref q.1.1), (3, .int (nI n)), (4, .int (nI i))]) hx hb dX2_loss_36 rfl hl (by decide) rfl (fun ls hl => ?_)
        refine lv_iinc (v := (nI (i + 1))) (lv' := [(4, .int (nI (i + 1))), (1, .int v_1), (5, .ref (q.2.1 i)), (0, .ref sm), (2, .ref q.1.1), (3, .int (nI n))]) hx hb dX2_loss_37 hl (k := 5) rfl (nI_add i 1) (by decide) rfl (fun ls hl => ?_)
        refine lv_goto (tgt := 13) hx hb dX2_loss_40 (by decide) ?_
        have e8 : v_1 = sumI (fun f => if σ 4 f = 0 then (0 : Int32) else σ 1 f) (i + 1) := by
          rw [ev_1]
          exact sum_1 (g := (fun f => if σ 4 f = 0 then (0 : Int32) else σ 1 f)) (b_mul (hB.2.2.2.2.1 i (by omega))).symm
        rw [e8] at hl
        exact ih_13 (i + 1) (by omega) (by omega) _ _ _ hP hD hS (lv_sub hl [3, 1, 4, 5, 0] rfl)
  exact L13 (n + 1) 0 (by omega) (by omega) _ _ _ hP hD hS (lv_sub hl [4, 3, 2, 1, 0] rfl)
