abbrev rmL_below : Room := { frames := 0, cells := 0, slots := 0, locals := 0 }
theorem b_L_below : Cond.static yL_below ∈ LW ∧ Cond.initialized yL_below.cls ∈ LW ∧ Cond.code yL_below cL_below 2 (some .int) ∈ LW := ⟨q530, q8, q531⟩
set_option maxHeartbeats 4000000 in
set_option maxRecDepth 100000 in
theorem c_L_below (l : Launch) (D : va_G) (cI cZ cL : ClassId) (x : Int32) (n : Nat) (h0 : 0 < n) (hn : n < 2 ^ 31) : MC l yL_below cL_below 2 (some .int) rmL_below D (tZ cI cZ cL) [.int x, .int (nI n)] ([]) ([]) (some (.int (nI (bel x n)))) := by
  refine MC.of (by decide) (Nat.le_of_ble_eq_true rfl) ?_
  intro p e s m args below meth c A ls Q hx hb hml hr hts hown hlocks hA hP hD hK hS hl hQ
  have hown : s.vm.findClass RL = some m.cls := hown
  have hl : lv_has ls 2 [(0, .int x), (1, .int (nI n))] := hl
  refine lv_iload_n hx hb dL_below_0 rfl (lv_at hl 0 rfl) ?_
  refine lv_ldc hx hb hown (hts _ q532) dL_below_1 ?_
  refine lv_iand hx hb dL_below_3 ?_
  refine lv_iload_n hx hb dL_below_4 rfl (lv_at hl 1 rfl) ?_
  refine lv_irem hx hb dL_below_5 (nI_nz h0 hn) ?_
  subst hQ
  exact ri hx hb hr hlocks hK hP hD hS dL_below_6 (rfl) (by rw [bel_is h0 hn])

abbrev rmL_cell : Room := { frames := 0, cells := 0, slots := 0, locals := 0 }
theorem b_L_cell : Cond.static yL_cell ∈ LW ∧ Cond.initialized yL_cell.cls ∈ LW ∧ Cond.code yL_cell cL_cell 2 (some .int) ∈ LW := ⟨q534, q8, q535⟩
set_option maxHeartbeats 8000000 in
set_option maxRecDepth 100000 in
theorem c_L_cell (l : Launch) (D : va_G) (cI cZ cL : ClassId) (b L : Nat) (xs : Nat → Int32) (hL : L ≤ 260) (kk : Nat) (hkk : kk < 1000) : MY (ι := Int32) (some (b, L, xs)) l yL_cell cL_cell 2 (some .int) rmL_cell D (tZ cI cZ cL) [.ref b, .int (nI kk)] ([]) (fun y => []) (fun y => some (.int y)) := by
  refine MY.of (by decide) (Nat.le_of_ble_eq_true rfl) ?_
  intro p e s m args below meth c A ls Q hx hb hml hr hts hown hlocks hA hP hD hK hS hl hQ hE9 hnm
  have hE : EX A s s.heap := hE9.1
  have hown : s.vm.findClass RL = some m.cls := hown
  obtain ⟨hX, hbl, hbA⟩ := hE9.2
  have hX : va_X b L xs s s.heap := hX
  have hbl : b < s.heap.size := hbl
  have hbA : ¬ A b := hbA
  have hl : lv_has ls 2 [(0, .ref b), (1, .int (nI kk))] := hl
  refine lv_iload_n hx hb dL_cell_0 rfl (lv_at hl 1 rfl) ?_
  refine lv_aload_n hx hb dL_cell_1 rfl (lv_at hl 0 rfl) ?_
  refine va_slen hx hb hX hbl hbA hS dL_cell_2 ?_
  refine lv_icmp_ge (tgt := 12) hx hb dL_cell_3 (by decide) (fun c_3 => ?_) (fun c_3 => ?_)
  · have hc_3 : L ≤ kk := (nI_leI (a := L) (b := kk) (by omega) (by omega)).mp c_3
    refine lv_ldc hx hb hown (hts _ q536) dL_cell_12 ?_
    refine lv_iload_n hx hb dL_cell_14 rfl (lv_at hl 1 rfl) ?_
    refine lv_iconst (v := 3) hx hb dL_cell_15 (by decide) ?_
    refine lv_iadd hx hb dL_cell_16 ?_
    refine lv_imul hx hb dL_cell_17 ?_
    subst hQ
    exact yi _ hx hb hr hlocks hK hP hD hS dL_cell_18 rfl rfl
  · have hc_3 : kk < L := Nat.not_le.mp (fun z => c_3 ((nI_leI (a := L) (b := kk) (by omega) (by omega)).mpr z))
    refine lv_aload_n hx hb dL_cell_6 rfl (lv_at hl 0 rfl) ?_
    refine lv_iload_n hx hb dL_cell_7 rfl (lv_at hl 1 rfl) ?_
    refine va_sld hx hb hX hbl hbA hS (vp_in_nI (n := kk) hc_3 (by omega)) dL_cell_8 ?_
    refine lv_goto (tgt := 18) hx hb dL_cell_9 (by decide) ?_
    subst hQ
    exact yi _ hx hb hr hlocks hK hP hD hS dL_cell_18 rfl rfl

abbrev rmL_act : Room := { frames := 6, cells := 2, slots := 23, locals := 156 }
theorem b_L_act : Cond.static yL_act ∈ LW ∧ Cond.initialized yL_act.cls ∈ LW ∧ Cond.code yL_act cL_act 10 (some .boolean) ∈ LW := ⟨q538, q8, q539⟩
set_option maxHeartbeats 16000000 in
set_option maxRecDepth 100000 in
theorem c_L_act (l : Launch) (D : va_G) (cI cZ cL : ClassId) {n k : Nat} (sm : Nat) (q : SA) (σ : Sg) {t : Nat} (hI : Iv n k (12000 * t) σ) (ht : t ≤ 100) (ob h : Nat) (a : Nat → Nat) (h2 : Nat) (a2 : Nat → Nat) (τ : Sg) (x : Int32) : MY (ι := {y : ((Nat × Nat) × (Sg × Sg)) × SA // Iv y.1.1.1 y.1.1.2 (12000 * (t + 1)) y.1.2.1 ∧ n ≤ y.1.1.1 ∧ (n < 2 → n < y.1.1.1)}) none l yL_act cL_act 10 (some .boolean) rmL_act D (tZ cI cZ cL) [.ref ob, .ref sm, .int x] ((sC cI cL sm q σ n k) ++ ((oC ob h h2) ++ ((mC cI cZ h a σ) ++ (mC cI cZ h2 a2 τ)))) (fun y => (sC cI cL sm y.1.2 y.1.1.2.1 y.1.1.1.1 y.1.1.1.2) ++ ((oC ob h h2) ++ ((mC cI cZ h a y.1.1.2.1) ++ (mC cI cZ h2 a2 y.1.1.2.2)))) (fun y => some (.int 1)) := by
  refine MY.of (by decide) (Nat.le_of_ble_eq_true rfl) ?_
  intro p e s m args below meth c A ls Q hx hb hml hr hts hown hlocks hA hP hD hK hS hl hQ hE9 hnm
  have hE : EX A s s.heap := hE9.1
  have hown : s.vm.findClass RL = some m.cls := hown
  have hst : Shp n k σ := hI.1
  have hst_B : Bnd (12000 * t) σ := hI.2.1
  have hn10 := hst.1
  have hk16 := hst.2.1
  have hl : lv_has ls 10 [(0, .ref ob), (1, .ref sm), (2, .int x)] := hl
  refine lv_aload_n hx hb dL_act_0 rfl (lv_at hl 1 rfl) ?_
  refine s_get hx hb hts hown hK hP (σ := σ) (n := n) (k := k) (q := q) (sm := sm) (w0 := []) (w2 := (oC ob h h2) ++ ((mC cI cZ h a σ) ++ (mC cI cZ h2 a2 τ))) rfl 0 (by decide) q434 (v := .ref q.1.1) rfl dL_act_1 ?_
  refine s_lnF hx hb hK hP (σ := σ) (n := n) (k := k) (q := q) (sm := sm) (w0 := []) (w2 := (oC ob h h2) ++ ((mC cI cZ h a σ) ++ (mC cI cZ h2 a2 τ))) rfl dL_act_4 ?_
  refine lv_istore_n (lv' := [(3, .int (nI n)), (0, .ref ob), (1, .ref sm), (2, .int x)]) hx hb dL_act_5 rfl hl (by decide) rfl (fun ls hl => ?_)
  refine lv_aload_n hx hb dL_act_6 rfl (lv_at hl 2 rfl) ?_
  refine s_get hx hb hts hown hK hP (σ := σ) (n := n) (k := k) (q := q) (sm := sm) (w0 := []) (w2 := (oC ob h h2) ++ ((mC cI cZ h a σ) ++ (mC cI cZ h2 a2 τ))) rfl 1 (by decide) q436 (v := .ref q.1.2) rfl dL_act_7 ?_
  refine s_lnD hx hb hK hP (σ := σ) (n := n) (k := k) (q := q) (sm := sm) (w0 := []) (w2 := (oC ob h h2) ++ ((mC cI cZ h a σ) ++ (mC cI cZ h2 a2 τ))) rfl dL_act_10 ?_
  refine lv_istore (lv' := [(4, .int (nI k)), (3, .int (nI n)), (0, .ref ob), (1, .ref sm), (2, .int x)]) hx hb dL_act_11 hl (by decide) rfl (fun ls hl => ?_)
  refine lv_iload_n hx hb dL_act_13 rfl (lv_at hl 4 rfl) ?_
  refine lv_bipush (v := 14) hx hb dL_act_14 (by decide) ?_
  refine MC.callS (As := [.int x, .int 14]) (rest := []) (wB := (sC cI cL sm q σ n k) ++ ((oC ob h h2) ++ ((mC cI cZ h a σ) ++ (mC cI cZ h2 a2 τ)))) (c_L_below l D cI cZ cL x 14 (by omega) (by omega)) ⟨hx, hb, hml, hown, hts⟩ q529 b_L_below (n := 2) (by decide +kernel) ⟨Nat.le_of_ble_eq_true rfl, Nat.le_of_ble_eq_true rfl⟩ hK hP hD hS hA (spE _) (spE _) rfl hl.1 rfl (Nat.le_of_ble_eq_true rfl) dL_act_16 ⟨Nat.le_of_ble_eq_true rfl, Nat.le_of_ble_eq_true rfl⟩ (fun H locs hP hD hS => ?_)
  refine W.wide (k := 0) (n := 0) (Nat.le_refl _) (Nat.le_refl _) ?_
  have hb_16 : bel x 14 < 14 := bel_lt (by omega)
  refine lv_istore (lv' := [(5, .int (nI (bel x 14))), (4, .int (nI k)), (3, .int (nI n)), (0, .ref ob), (1, .ref sm), (2, .int x)]) hx hb dL_act_19 hl (by decide) rfl (fun ls hl => ?_)
  refine lv_iload_n hx hb dL_act_21 rfl (lv_at hl 2 rfl) ?_
  refine lv_iconst (v := 2) hx hb dL_act_22 (by decide) ?_
  refine lv_icmp_lt (tgt := 31) hx hb dL_act_23 (by decide) (fun c_23 => ?_) (fun c_23 => ?_)
  · have hc_23 : n < 2 := (nI_ltI (a := n) (b := 2) (by omega) (by omega)).mp c_23
    refine lv_iload_n hx hb dL_act_31 rfl (lv_at hl 2 rfl) ?_
    refine lv_bipush (v := 10) hx hb dL_act_32 (by decide) ?_
    refine lv_icmp_ne (tgt := 39) hx hb dL_act_34 (by decide) (fun c_34 => ?_) (fun c_34 => ?_)
    · have hc_34 : ¬ n = 10 := fun z => c_34 ((nI_eq (a := n) (b := 10) (by omega) (by omega)).mpr z)
      refine lv_iconst (v := 5) hx hb dL_act_39 (by decide) ?_
      refine x_new (atype := .int) (ty := .int) rfl rfl ra_int hx hb (hts _ q96) hK hP hD hS hA 0 rfl (N' := 5) (by decide) (by decide) (by decide) (by show _ + 1 ≤ 2; omega) (by show _ + _ ≤ 23; omega) dL_act_40 (fun t9 H hP hD hS => ?_)
      obtain ⟨hP, hD⟩ := p_perm (b := tC cI t9 5 (fun _ => 0) ++ ((sC cI cL sm q σ n k) ++ ((oC ob h h2) ++ ((mC cI cZ h a σ) ++ (mC cI cZ h2 a2 τ))))) List.perm_append_comm hP hD
      have hP : va_P D vwCl ((tC cI t9 5 (fun _ => 0)) ++ ((sC cI cL sm q σ n k) ++ ((oC ob h h2) ++ ((mC cI cZ h a σ) ++ (mC cI cZ h2 a2 τ))))) H := hP
      have hD : va_D A ((tC cI t9 5 (fun _ => 0)) ++ ((sC cI cL sm q σ n k) ++ ((oC ob h h2) ++ ((mC cI cZ h a σ) ++ (mC cI cZ h2 a2 τ))))) := hD
      refine lv_dup hx hb dL_act_42 rfl ?_
      refine lv_iconst (v := 0) hx hb dL_act_43 (by decide) ?_
      refine lv_iload_n hx hb dL_act_44 rfl (lv_at hl 5 rfl) ?_
      refine lv_iconst (v := 4) hx hb dL_act_45 (by decide) ?_
      refine lv_ishr hx hb dL_act_46 ?_
      refine lv_iload_n hx hb dL_act_47 rfl (lv_at hl 5 rfl) ?_
      refine lv_bipush (v := 8) hx hb dL_act_48 (by decide) ?_
      refine lv_ishr hx hb dL_act_50 ?_
      refine lv_iconst (v := 2) hx hb dL_act_51 (by decide) ?_
      refine MC.callS (As := [.int (x >>> (8 &&& 31)), .int 2]) (rest := [.int (x >>> (4 &&& 31)), .int 0, .ref t9, .ref t9]) (wB := (tC cI t9 5 (fun _ => 0)) ++ ((sC cI cL sm q σ n k) ++ ((oC ob h h2) ++ ((mC cI cZ h a σ) ++ (mC cI cZ h2 a2 τ))))) (c_L_below l D cI cZ cL (x >>> (8 &&& 31)) 2 (by omega) (by omega)) ⟨hx, hb, hml, hown, hts⟩ q529 b_L_below (n := 2) (by decide +kernel) ⟨Nat.le_of_ble_eq_true rfl, Nat.le_of_ble_eq_true rfl⟩ hK hP hD hS hA (spE _) (spE _) rfl hl.1 rfl (Nat.le_of_ble_eq_true rfl) dL_act_52 ⟨Nat.le_of_ble_eq_true rfl, Nat.le_of_ble_eq_true rfl⟩ (fun H locs hP hD hS => ?_)
      refine W.wide (k := (0 + 1)) (n := (0 + 5)) (by show (0 + 1) + 0 ≤ (0 + 1); omega) (by show (0 + 5) + 0 ≤ (0 + 5); omega) ?_
      have hb_52 : bel (x >>> (8 &&& 31)) 2 < 2 := bel_lt (by omega)
      refine lv_if_ne (tgt := 63) hx hb dL_act_55 (by decide) (fun c_55 => ?_) (fun c_55 => ?_)
      · have hc_55 : ¬ (bel (x >>> (8 &&& 31)) 2) = 0 := fun z => c_55 ((nI_eq (a := (bel (x >>> (8 &&& 31)) 2)) (b := 0) (by omega) (by omega)).mpr z)
        refine lv_bipush (v := 6) hx hb dL_act_63 (by decide) ?_
        refine MC.callS (As := [.int (x >>> (4 &&& 31)), .int 6]) (rest := [.int 0, .ref t9, .ref t9]) (wB := (tC cI t9 5 (fun _ => 0)) ++ ((sC cI cL sm q σ n k) ++ ((oC ob h h2) ++ ((mC cI cZ h a σ) ++ (mC cI cZ h2 a2 τ))))) (c_L_below l D cI cZ cL (x >>> (4 &&& 31)) 6 (by omega) (by omega)) ⟨hx, hb, hml, hown, hts⟩ q529 b_L_below (n := 2) (by decide +kernel) ⟨Nat.le_of_ble_eq_true rfl, Nat.le_of_ble_eq_true rfl⟩ hK hP hD hS hA (spE _) (spE _) rfl hl.1 rfl (Nat.le_of_ble_eq_true rfl) dL_act_65 ⟨Nat.le_of_ble_eq_true rfl, Nat.le_of_ble_eq_true rfl⟩ (fun H locs hP hD hS => ?_)
        refine W.wide (k := (0 + 1)) (n := (0 + 5)) (by show (0 + 1) + 0 ≤ (0 + 1); omega) (by show (0 + 5) + 0 ≤ (0 + 5); omega) ?_
        have hb_65 : bel (x >>> (4 &&& 31)) 6 < 6 := bel_lt (by omega)
        refine x_ist (ws2 := (tC cI t9 5 (upd (fun _ => 0) 0 (nI (bel (x >>> (4 &&& 31)) 6)))) ++ ((sC cI cL sm q σ n k) ++ ((oC ob h h2) ++ ((mC cI cZ h a σ) ++ (mC cI cZ h2 a2 τ))))) hx hb hK hP hD hS 0 0 rfl rfl 0 (rfl) (by omega) (by decide) rfl dL_act_68 (fun H locs hP hD hS => ?_)
        refine lv_dup hx hb dL_act_69 rfl ?_
        refine lv_iconst (v := 1) hx hb dL_act_70 (by decide) ?_
        refine lv_iload_n hx hb dL_act_71 rfl (lv_at hl 5 rfl) ?_
        refine lv_iconst (v := 3) hx hb dL_act_72 (by decide) ?_
        refine lv_ishr hx hb dL_act_73 ?_
        refine lv_bipush (v := 100) hx hb dL_act_74 (by decide) ?_
        refine MC.callS (As := [.int (x >>> (3 &&& 31)), .int 100]) (rest := [.int 1, .ref t9, .ref t9]) (wB := (tC cI t9 5 (upd (fun _ => 0) 0 (nI (bel (x >>> (4 &&& 31)) 6)))) ++ ((sC cI cL sm q σ n k) ++ ((oC ob h h2) ++ ((mC cI cZ h a σ) ++ (mC cI cZ h2 a2 τ))))) (c_L_below l D cI cZ cL (x >>> (3 &&& 31)) 100 (by omega) (by omega)) ⟨hx, hb, hml, hown, hts⟩ q529 b_L_below (n := 2) (by decide +kernel) ⟨Nat.le_of_ble_eq_true rfl, Nat.le_of_ble_eq_true rfl⟩ hK hP hD hS hA (spE _) (spE _) rfl hl.1 rfl (Nat.le_of_ble_eq_true rfl) dL_act_76 ⟨Nat.le_of_ble_eq_true rfl, Nat.le_of_ble_eq_true rfl⟩ (fun H locs hP hD hS => ?_)
        refine W.wide (k := (0 + 1)) (n := (0 + 5)) (by show (0 + 1) + 0 ≤ (0 + 1); omega) (by show (0 + 5) + 0 ≤ (0 + 5); omega) ?_
        have hb_76 : bel (x >>> (3 &&& 31)) 100 < 100 := bel_lt (by omega)
        refine x_ist (ws2 := (tC cI t9 5 (upd (upd (fun _ => 0) 0 (nI (bel (x >>> (4 &&& 31)) 6))) 1 (nI (bel (x >>> (3 &&& 31)) 100)))) ++ ((sC cI cL sm q σ n k) ++ ((oC ob h h2) ++ ((mC cI cZ h a σ) ++ (mC cI cZ h2 a2 τ))))) hx hb hK hP hD hS 0 0 rfl rfl 1 (rfl) (by omega) (by decide) rfl dL_act_79 (fun H locs hP hD hS => ?_)
        refine lv_dup hx hb dL_act_80 rfl ?_
        refine lv_iconst (v := 2) hx hb dL_act_81 (by decide) ?_
        refine lv_iconst (v := 0) hx hb dL_act_82 (by decide) ?_
        refine x_ist (ws2 := (tC cI t9 5 (upd (upd (upd (fun _ => 0) 0 (nI (bel (x >>> (4 &&& 31)) 6))) 1 (nI (bel (x >>> (3 &&& 31)) 100))) 2 0)) ++ ((sC cI cL sm q σ n k) ++ ((oC ob h h2) ++ ((mC cI cZ h a σ) ++ (mC cI cZ h2 a2 τ))))) hx hb hK hP hD hS 0 0 rfl rfl 2 (rfl) (by omega) (by decide) rfl dL_act_83 (fun H locs hP hD hS => ?_)
        refine lv_dup hx hb dL_act_84 rfl ?_
        refine lv_iconst (v := 3) hx hb dL_act_85 (by decide) ?_
        refine lv_iconst (v := 0) hx hb dL_act_86 (by decide) ?_
        refine x_ist (ws2 := (tC cI t9 5 (upd (upd (upd (upd (fun _ => 0) 0 (nI (bel (x >>> (4 &&& 31)) 6))) 1 (nI (bel (x >>> (3 &&& 31)) 100))) 2 0) 3 0)) ++ ((sC cI cL sm q σ n k) ++ ((oC ob h h2) ++ ((mC cI cZ h a σ) ++ (mC cI cZ h2 a2 τ))))) hx hb hK hP hD hS 0 0 rfl rfl 3 (rfl) (by omega) (by decide) rfl dL_act_87 (fun H locs hP hD hS => ?_)
        refine lv_dup hx hb dL_act_88 rfl ?_
        refine lv_iconst (v := 4) hx hb dL_act_89 (by decide) ?_
        refine lv_iconst (v := 0) hx hb dL_act_90 (by decide) ?_
        refine x_ist (ws2 := (tC cI t9 5 (upd (upd (upd (upd (upd (fun _ => 0) 0 (nI (bel (x >>> (4 &&& 31)) 6))) 1 (nI (bel (x >>> (3 &&& 31)) 100))) 2 0) 3 0) 4 0)) ++ ((sC cI cL sm q σ n k) ++ ((oC ob h h2) ++ ((mC cI cZ h a σ) ++ (mC cI cZ h2 a2 τ))))) hx hb hK hP hD hS 0 0 rfl rfl 4 (rfl) (by omega) (by decide) rfl dL_act_91 (fun H locs hP hD hS => ?_)
        refine lv_astore (lv' := [(6, .ref t9), (5, .int (nI (bel x 14))), (4, .int (nI k)), (3, .int (nI n)), (0, .ref ob), (1, .ref sm), (2, .int x)]) hx hb dL_act_92 hl (by decide) rfl (fun ls hl => ?_)
        refine lv_aload_n hx hb dL_act_94 rfl (lv_at hl 5 rfl) ?_
        refine lv_aload_n hx hb dL_act_95 rfl (lv_at hl 5 rfl) ?_
        refine s_get hx hb hts hown hK hP (σ := σ) (n := n) (k := k) (q := q) (sm := sm) (w0 := tC cI t9 5 (upd (upd (upd (upd (upd (fun _ => 0) 0 (nI (bel (x >>> (4 &&& 31)) 6))) 1 (nI (bel (x >>> (3 &&& 31)) 100))) 2 0) 3 0) 4 0)) (w2 := (oC ob h h2) ++ ((mC cI cZ h a σ) ++ (mC cI cZ h2 a2 τ))) rfl 0 (by decide) q434 (v := .ref q.1.1) rfl dL_act_96 ?_
        refine lv_aload hx hb dL_act_99 (lv_at hl 0 rfl) ?_
        refine s_growF cZ (σ := σ) (n := n) (k := k) (q := q) (w0 := []) (w2 := (oC ob h h2) ++ ((mC cI cZ h a σ) ++ (mC cI cZ h2 a2 τ))) (τ := putF n (nI (bel (x >>> (4 &&& 31)) 6)) (nI (bel (x >>> (3 &&& 31)) 100)) σ) hx hb hml hown hts hK hA hE q540 q434 (by simp only [List.append_assoc, List.append_nil, List.nil_append]) hP hD hS (by omega) (pF_row hI (by omega) _ _) (fun j hj => pF_f _ _ σ hj) (fun j _ => pF_d _ _ σ) (pF_11 _ _ σ (by decide)) (pF_11 _ _ σ (by decide)) (pF_11 _ _ σ (by decide)) hl.1 ⟨(Nat.le_of_ble_eq_true rfl), (Nat.le_of_ble_eq_true rfl)⟩ (Nat.le_of_ble_eq_true rfl) dL_act_101 dL_act_104 ⟨by show _ + 1 ≤ 2; omega, by show _ + 17 ≤ 23; omega⟩ (fun x9 H locs hP hD hS => ?_)
        have hP : va_P D vwCl ((sC cI cL sm ((x9, q.1.2), (va_up q.2.1 n t9, q.2.2)) (putF n (nI (bel (x >>> (4 &&& 31)) 6)) (nI (bel (x >>> (3 &&& 31)) 100)) σ) (n + 1) k) ++ ((oC ob h h2) ++ ((mC cI cZ h a σ) ++ (mC cI cZ h2 a2 τ)))) H := hP
        have hD : va_D A ((sC cI cL sm ((x9, q.1.2), (va_up q.2.1 n t9, q.2.2)) (putF n (nI (bel (x >>> (4 &&& 31)) 6)) (nI (bel (x >>> (3 &&& 31)) 100)) σ) (n + 1) k) ++ ((oC ob h h2) ++ ((mC cI cZ h a σ) ++ (mC cI cZ h2 a2 τ)))) := hD
        refine lv_aload_n hx hb dL_act_107 rfl (lv_at hl 4 rfl) ?_
        refine lv_aload hx hb dL_act_108 (lv_at hl 0 rfl) ?_
        refine lv_iconst (v := 0) hx hb dL_act_110 (by decide) ?_
        refine s_ldFx hx hb hK hP (σ := putF n (nI (bel (x >>> (4 &&& 31)) 6)) (nI (bel (x >>> (3 &&& 31)) 100)) σ) (n := n + 1) (k := k) (q := ((x9, q.1.2), (va_up q.2.1 n t9, q.2.2))) (sm := sm) (w0 := []) (w2 := (oC ob h h2) ++ ((mC cI cZ h a σ) ++ (mC cI cZ h2 a2 τ))) rfl n (by omega) (va_up_self _ _ _) 0 rfl (by decide) (v := (nI (bel (x >>> (4 &&& 31)) 6))) (by rw [← pF_row hI (by omega) (nI (bel (x >>> (4 &&& 31)) 6)) (nI (bel (x >>> (3 &&& 31)) 100))]; rfl) dL_act_111 ?_
        refine lv_aload hx hb dL_act_112 (lv_at hl 0 rfl) ?_
        refine lv_iconst (v := 1) hx hb dL_act_114 (by decide) ?_
        refine s_ldFx hx hb hK hP (σ := putF n (nI (bel (x >>> (4 &&& 31)) 6)) (nI (bel (x >>> (3 &&& 31)) 100)) σ) (n := n + 1) (k := k) (q := ((x9, q.1.2), (va_up q.2.1 n t9, q.2.2))) (sm := sm) (w0 := []) (w2 := (oC ob h h2) ++ ((mC cI cZ h a σ) ++ (mC cI cZ h2 a2 τ))) rfl n (by omega) (va_up_self _ _ _) 1 rfl (by decide) (v := (nI (bel (x >>> (3 &&& 31)) 100))) (by rw [← pF_row hI (by omega) (nI (bel (x >>> (4 &&& 31)) 6)) (nI (bel (x >>> (3 &&& 31)) 100))]; rfl) dL_act_115 ?_
        refine MX.callV0 (C := RX1) (T := TX1) (N := 2) (As := [.int (nI (bel (x >>> (4 &&& 31)) 6)), .int (nI (bel (x >>> (3 &&& 31)) 100))]) (rest := []) (w0 := sC cI cL sm ((x9, q.1.2), (va_up q.2.1 n t9, q.2.2)) (putF n (nI (bel (x >>> (4 &&& 31)) 6)) (nI (bel (x >>> (3 &&& 31)) 100)) σ) (n + 1) k) (w2 := []) (wB := fun ρ => (sC cI cL sm ((x9, q.1.2), (va_up q.2.1 n t9, q.2.2)) (putF n (nI (bel (x >>> (4 &&& 31)) 6)) (nI (bel (x >>> (3 &&& 31)) 100)) σ) (n + 1) k) ++ ((oC ob h h2) ++ ((mC cI cZ h a (putF n (nI (bel (x >>> (4 &&& 31)) 6)) (nI (bel (x >>> (3 &&& 31)) 100)) σ)) ++ (mC cI cZ h2 a2 ρ)))) (c_X1_addField_d l D cI cZ cL ob h a h2 a2 σ τ hst (nI (bel (x >>> (4 &&& 31)) 6)) (nI (bel (x >>> (3 &&& 31)) 100)) (inR_t 0 20 (by decide) (Nat.zero_le _) (by omega)) (inR_t 0 99 (by decide) (Nat.zero_le _) (by omega)) (by omega)) ⟨hx, hb, hml, hown, hts⟩ q541 b_X1_addField (n := 2) (by decide +kernel) ⟨(Nat.le_of_ble_eq_true rfl), (Nat.le_of_ble_eq_true rfl)⟩ hK hP hD hS hA hE (by rw [List.append_nil]) (fun _ => by rw [List.append_nil]) (ci := 1) rfl rfl rfl hl.1 rfl (Nat.le_of_ble_eq_true rfl) dL_act_116 ⟨by show ((0 + 1) + 1) + 0 ≤ 2; omega, by show ((0 + 5) + 17) + 0 ≤ 23; omega⟩ (fun ρ_1 H locs hP hD hS => ?_)
        have hP : va_P D vwCl ((sC cI cL sm ((x9, q.1.2), (va_up q.2.1 n t9, q.2.2)) (putF n (nI (bel (x >>> (4 &&& 31)) 6)) (nI (bel (x >>> (3 &&& 31)) 100)) σ) (n + 1) k) ++ ((oC ob h h2) ++ ((mC cI cZ h a (putF n (nI (bel (x >>> (4 &&& 31)) 6)) (nI (bel (x >>> (3 &&& 31)) 100)) σ)) ++ (mC cI cZ h2 a2 ρ_1)))) H := hP
        have hD : va_D A ((sC cI cL sm ((x9, q.1.2), (va_up q.2.1 n t9, q.2.2)) (putF n (nI (bel (x >>> (4 &&& 31)) 6)) (nI (bel (x >>> (3 &&& 31)) 100)) σ) (n + 1) k) ++ ((oC ob h h2) ++ ((mC cI cZ h a (putF n (nI (bel (x >>> (4 &&& 31)) 6)) (nI (bel (x >>> (3 &&& 31)) 100)) σ)) ++ (mC cI cZ h2 a2 ρ_1)))) := hD
        refine W.wide (k := ((0 + 1) + 1)) (n := ((0 + 5) + 17)) (by show ((0 + 1) + 1) + 0 ≤ ((0 + 1) + 1); omega) (by show ((0 + 5) + 17) + 0 ≤ ((0 + 5) + 17); omega) ?_
        refine lv_iload_n hx hb dL_act_119 rfl (lv_at hl 3 rfl) ?_
        refine lv_icmp_ne (tgt := 127) hx hb dL_act_120 (by decide) (fun z => absurd (rfl) z) (fun c_120 => ?_)
        refine lv_iconst (v := 1) hx hb dL_act_123 (by decide) ?_
        refine lv_goto (tgt := 128) hx hb dL_act_124 (by decide) ?_
        refine W.wide (k := 2) (n := 23) (Nat.le_of_ble_eq_true rfl) (Nat.le_of_ble_eq_true rfl) ?_
        subst hQ
        exact yz ⟨((((n + 1), k), (putF n (nI (bel (x >>> (4 &&& 31)) 6)) (nI (bel (x >>> (3 &&& 31)) 100)) σ, ρ_1)), ((x9, q.1.2), (va_up q.2.1 n t9, q.2.2))), ⟨((hI.pF (by omega) (by omega) (by omega)).mono (by omega)), by show n ≤ (n + 1); omega, by show n < 2 → n < (n + 1); omega⟩⟩ hx hb hr hlocks hK hP hD hS dL_act_128 (Or.inr rfl) rfl rfl
      · have hc_55 : (bel (x >>> (8 &&& 31)) 2) = 0 := (nI_eq (a := (bel (x >>> (8 &&& 31)) 2)) (b := 0) (by omega) (by omega)).mp c_55
        refine lv_bipush (v := 21) hx hb dL_act_58 (by decide) ?_
        refine lv_goto (tgt := 65) hx hb dL_act_60 (by decide) ?_
        refine MC.callS (As := [.int (x >>> (4 &&& 31)), .int 21]) (rest := [.int 0, .ref t9, .ref t9]) (wB := (tC cI t9 5 (fun _ => 0)) ++ ((sC cI cL sm q σ n k) ++ ((oC ob h h2) ++ ((mC cI cZ h a σ) ++ (mC cI cZ h2 a2 τ))))) (c_L_below l D cI cZ cL (x >>> (4 &&& 31)) 21 (by omega) (by omega)) ⟨hx, hb, hml, hown, hts⟩ q529 b_L_below (n := 2) (by decide +kernel) ⟨Nat.le_of_ble_eq_true rfl, Nat.le_of_ble_eq_true rfl⟩ hK hP hD hS hA (spE _) (spE _) rfl hl.1 rfl (Nat.le_of_ble_eq_true rfl) dL_act_65 ⟨Nat.le_of_ble_eq_true rfl, Nat.le_of_ble_eq_true rfl⟩ (fun H locs hP hD hS => ?_)
        refine W.wide (k := (0 + 1)) (n := (0 + 5)) (by show (0 + 1) + 0 ≤ (0 + 1); omega) (by show (0 + 5) + 0 ≤ (0 + 5); omega) ?_
        have hb_65 : bel (x >>> (4 &&& 31)) 21 < 21 := bel_lt (by omega)
        refine x_ist (ws2 := (tC cI t9 5 (upd (fun _ => 0) 0 (nI (bel (x >>> (4 &&& 31)) 21)))) ++ ((sC cI cL sm q σ n k) ++ ((oC ob h h2) ++ ((mC cI cZ h a σ) ++ (mC cI cZ h2 a2 τ))))) hx hb hK hP hD hS 0 0 rfl rfl 0 (rfl) (by omega) (by decide) rfl dL_act_68 (fun H locs hP hD hS => ?_)
        refine lv_dup hx hb dL_act_69 rfl ?_
        refine lv_iconst (v := 1) hx hb dL_act_70 (by decide) ?_
        refine lv_iload_n hx hb dL_act_71 rfl (lv_at hl 5 rfl) ?_
        refine lv_iconst (v := 3) hx hb dL_act_72 (by decide) ?_
        refine lv_ishr hx hb dL_act_73 ?_
        refine lv_bipush (v := 100) hx hb dL_act_74 (by decide) ?_
        refine MC.callS (As := [.int (x >>> (3 &&& 31)), .int 100]) (rest := [.int 1, .ref t9, .ref t9]) (wB := (tC cI t9 5 (upd (fun _ => 0) 0 (nI (bel (x >>> (4 &&& 31)) 21)))) ++ ((sC cI cL sm q σ n k) ++ ((oC ob h h2) ++ ((mC cI cZ h a σ) ++ (mC cI cZ h2 a2 τ))))) (c_L_below l D cI cZ cL (x >>> (3 &&& 31)) 100 (by omega) (by omega)) ⟨hx, hb, hml, hown, hts⟩ q529 b_L_below (n := 2) (by decide +kernel) ⟨Nat.le_of_ble_eq_true rfl, Nat.le_of_ble_eq_true rfl⟩ hK hP hD hS hA (spE _) (spE _) rfl hl.1 rfl (Nat.le_of_ble_eq_true rfl) dL_act_76 ⟨Nat.le_of_ble_eq_true rfl, Nat.le_of_ble_eq_true rfl⟩ (fun H locs hP hD hS => ?_)
        refine W.wide (k := (0 + 1)) (n := (0 + 5)) (by show (0 + 1) + 0 ≤ (0 + 1); omega) (by show (0 + 5) + 0 ≤ (0 + 5); omega) ?_
        have hb_76 : bel (x >>> (3 &&& 31)) 100 < 100 := bel_lt (by omega)
        refine x_ist (ws2 := (tC cI t9 5 (upd (upd (fun _ => 0) 0 (nI (bel (x >>> (4 &&& 31)) 21))) 1 (nI (bel (x >>> (3 &&& 31)) 100)))) ++ ((sC cI cL sm q σ n k) ++ ((oC ob h h2) ++ ((mC cI cZ h a σ) ++ (mC cI cZ h2 a2 τ))))) hx hb hK hP hD hS 0 0 rfl rfl 1 (rfl) (by omega) (by decide) rfl dL_act_79 (fun H locs hP hD hS => ?_)
        refine lv_dup hx hb dL_act_80 rfl ?_
        refine lv_iconst (v := 2) hx hb dL_act_81 (by decide) ?_
        refine lv_iconst (v := 0) hx hb dL_act_82 (by decide) ?_
        refine x_ist (ws2 := (tC cI t9 5 (upd (upd (upd (fun _ => 0) 0 (nI (bel (x >>> (4 &&& 31)) 21))) 1 (nI (bel (x >>> (3 &&& 31)) 100))) 2 0)) ++ ((sC cI cL sm q σ n k) ++ ((oC ob h h2) ++ ((mC cI cZ h a σ) ++ (mC cI cZ h2 a2 τ))))) hx hb hK hP hD hS 0 0 rfl rfl 2 (rfl) (by omega) (by decide) rfl dL_act_83 (fun H locs hP hD hS => ?_)
        refine lv_dup hx hb dL_act_84 rfl ?_
        refine lv_iconst (v := 3) hx hb dL_act_85 (by decide) ?_
        refine lv_iconst (v := 0) hx hb dL_act_86 (by decide) ?_
        refine x_ist (ws2 := (tC cI t9 5 (upd (upd (upd (upd (fun _ => 0) 0 (nI (bel (x >>> (4 &&& 31)) 21))) 1 (nI (bel (x >>> (3 &&& 31)) 100))) 2 0) 3 0)) ++ ((sC cI cL sm q σ n k) ++ ((oC ob h h2) ++ ((mC cI cZ h a σ) ++ (mC cI cZ h2 a2 τ))))) hx hb hK hP hD hS 0 0 rfl rfl 3 (rfl) (by omega) (by decide) rfl dL_act_87 (fun H locs hP hD hS => ?_)
        refine lv_dup hx hb dL_act_88 rfl ?_
        refine lv_iconst (v := 4) hx hb dL_act_89 (by decide) ?_
        refine lv_iconst (v := 0) hx hb dL_act_90 (by decide) ?_
        refine x_ist (ws2 := (tC cI t9 5 (upd (upd (upd (upd (upd (fun _ => 0) 0 (nI (bel (x >>> (4 &&& 31)) 21))) 1 (nI (bel (x >>> (3 &&& 31)) 100))) 2 0) 3 0) 4 0)) ++ ((sC cI cL sm q σ n k) ++ ((oC ob h h2) ++ ((mC cI cZ h a σ) ++ (mC cI cZ h2 a2 τ))))) hx hb hK hP hD hS 0 0 rfl rfl 4 (rfl) (by omega) (by decide) rfl dL_act_91 (fun H locs hP hD hS => ?_)
        refine lv_astore (lv' := [(6, .ref t9), (5, .int (nI (bel x 14))), (4, .int (nI k)), (3, .int (nI n)), (0, .ref ob), (1, .ref sm), (2, .int x)]) hx hb dL_act_92 hl (by decide) rfl (fun ls hl => ?_)
        refine lv_aload_n hx hb dL_act_94 rfl (lv_at hl 5 rfl) ?_
        refine lv_aload_n hx hb dL_act_95 rfl (lv_at hl 5 rfl) ?_
        refine s_get hx hb hts hown hK hP (σ := σ) (n := n) (k := k) (q := q) (sm := sm) (w0 := tC cI t9 5 (upd (upd (upd (upd (upd (fun _ => 0) 0 (nI (bel (x >>> (4 &&& 31)) 21))) 1 (nI (bel (x >>> (3 &&& 31)) 100))) 2 0) 3 0) 4 0)) (w2 := (oC ob h h2) ++ ((mC cI cZ h a σ) ++ (mC cI cZ h2 a2 τ))) rfl 0 (by decide) q434 (v := .ref q.1.1) rfl dL_act_96 ?_
        refine lv_aload hx hb dL_act_99 (lv_at hl 0 rfl) ?_
        refine s_growF cZ (σ := σ) (n := n) (k := k) (q := q) (w0 := []) (w2 := (oC ob h h2) ++ ((mC cI cZ h a σ) ++ (mC cI cZ h2 a2 τ))) (τ := putF n (nI (bel (x >>> (4 &&& 31)) 21)) (nI (bel (x >>> (3 &&& 31)) 100)) σ) hx hb hml hown hts hK hA hE q540 q434 (by simp only [List.append_assoc, List.append_nil, List.nil_append]) hP hD hS (by omega) (pF_row hI (by omega) _ _) (fun j hj => pF_f _ _ σ hj) (fun j _ => pF_d _ _ σ) (pF_11 _ _ σ (by decide)) (pF_11 _ _ σ (by decide)) (pF_11 _ _ σ (by decide)) hl.1 ⟨(Nat.le_of_ble_eq_true rfl), (Nat.le_of_ble_eq_true rfl)⟩ (Nat.le_of_ble_eq_true rfl) dL_act_101 dL_act_104 ⟨by show _ + 1 ≤ 2; omega, by show _ + 17 ≤ 23; omega⟩ (fun x9 H locs hP hD hS => ?_)
        have hP : va_P D vwCl ((sC cI cL sm ((x9, q.1.2), (va_up q.2.1 n t9, q.2.2)) (putF n (nI (bel (x >>> (4 &&& 31)) 21)) (nI (bel (x >>> (3 &&& 31)) 100)) σ) (n + 1) k) ++ ((oC ob h h2) ++ ((mC cI cZ h a σ) ++ (mC cI cZ h2 a2 τ)))) H := hP
        have hD : va_D A ((sC cI cL sm ((x9, q.1.2), (va_up q.2.1 n t9, q.2.2)) (putF n (nI (bel (x >>> (4 &&& 31)) 21)) (nI (bel (x >>> (3 &&& 31)) 100)) σ) (n + 1) k) ++ ((oC ob h h2) ++ ((mC cI cZ h a σ) ++ (mC cI cZ h2 a2 τ)))) := hD
        refine lv_aload_n hx hb dL_act_107 rfl (lv_at hl 4 rfl) ?_
        refine lv_aload hx hb dL_act_108 (lv_at hl 0 rfl) ?_
        refine lv_iconst (v := 0) hx hb dL_act_110 (by decide) ?_
        refine s_ldFx hx hb hK hP (σ := putF n (nI (bel (x >>> (4 &&& 31)) 21)) (nI (bel (x >>> (3 &&& 31)) 100)) σ) (n := n + 1) (k := k) (q := ((x9, q.1.2), (va_up q.2.1 n t9, q.2.2))) (sm := sm) (w0 := []) (w2 := (oC ob h h2) ++ ((mC cI cZ h a σ) ++ (mC cI cZ h2 a2 τ))) rfl n (by omega) (va_up_self _ _ _) 0 rfl (by decide) (v := (nI (bel (x >>> (4 &&& 31)) 21))) (by rw [← pF_row hI (by omega) (nI (bel (x >>> (4 &&& 31)) 21)) (nI (bel (x >>> (3 &&& 31)) 100))]; rfl) dL_act_111 ?_
        refine lv_aload hx hb dL_act_112 (lv_at hl 0 rfl) ?_
        refine lv_iconst (v := 1) hx hb dL_act_114 (by decide) ?_
        refine s_ldFx hx hb hK hP (σ := putF n (nI (bel (x >>> (4 &&& 31)) 21)) (nI (bel (x >>> (3 &&& 31)) 100)) σ) (n := n + 1) (k := k) (q := ((x9, q.1.2), (va_up q.2.1 n t9, q.2.2))) (sm := sm) (w0 := []) (w2 := (oC ob h h2) ++ ((mC cI cZ h a σ) ++ (mC cI cZ h2 a2 τ))) rfl n (by omega) (va_up_self _ _ _) 1 rfl (by decide) (v := (nI (bel (x >>> (3 &&& 31)) 100))) (by rw [← pF_row hI (by omega) (nI (bel (x >>> (4 &&& 31)) 21)) (nI (bel (x >>> (3 &&& 31)) 100))]; rfl) dL_act_115 ?_
        refine MX.callV0 (C := RX1) (T := TX1) (N := 2) (As := [.int (nI (bel (x >>> (4 &&& 31)) 21)), .int (nI (bel (x >>> (3 &&& 31)) 100))]) (rest := []) (w0 := sC cI cL sm ((x9, q.1.2), (va_up q.2.1 n t9, q.2.2)) (putF n (nI (bel (x >>> (4 &&& 31)) 21)) (nI (bel (x >>> (3 &&& 31)) 100)) σ) (n + 1) k) (w2 := []) (wB := fun ρ => (sC cI cL sm ((x9, q.1.2), (va_up q.2.1 n t9, q.2.2)) (putF n (nI (bel (x >>> (4 &&& 31)) 21)) (nI (bel (x >>> (3 &&& 31)) 100)) σ) (n + 1) k) ++ ((oC ob h h2) ++ ((mC cI cZ h a (putF n (nI (bel (x >>> (4 &&& 31)) 21)) (nI (bel (x >>> (3 &&& 31)) 100)) σ)) ++ (mC cI cZ h2 a2 ρ)))) (c_X1_addField_d l D cI cZ cL ob h a h2 a2 σ τ hst (nI (bel (x >>> (4 &&& 31)) 21)) (nI (bel (x >>> (3 &&& 31)) 100)) (inR_t 0 20 (by decide) (Nat.zero_le _) (by omega)) (inR_t 0 99 (by decide) (Nat.zero_le _) (by omega)) (by omega)) ⟨hx, hb, hml, hown, hts⟩ q541 b_X1_addField (n := 2) (by decide +kernel) ⟨(Nat.le_of_ble_eq_true rfl), (Nat.le_of_ble_eq_true rfl)⟩ hK hP hD hS hA hE (by rw [List.append_nil]) (fun _ => by rw [List.append_nil]) (ci := 1) rfl rfl rfl hl.1 rfl (Nat.le_of_ble_eq_true rfl) dL_act_116 ⟨by show ((0 + 1) + 1) + 0 ≤ 2; omega, by show ((0 + 5) + 17) + 0 ≤ 23; omega⟩ (fun ρ_2 H locs hP hD hS => ?_)
        have hP : va_P D vwCl ((sC cI cL sm ((x9, q.1.2), (va_up q.2.1 n t9, q.2.2)) (putF n (nI (bel (x >>> (4 &&& 31)) 21)) (nI (bel (x >>> (3 &&& 31)) 100)) σ) (n + 1) k) ++ ((oC ob h h2) ++ ((mC cI cZ h a (putF n (nI (bel (x >>> (4 &&& 31)) 21)) (nI (bel (x >>> (3 &&& 31)) 100)) σ)) ++ (mC cI cZ h2 a2 ρ_2)))) H := hP
        have hD : va_D A ((sC cI cL sm ((x9, q.1.2), (va_up q.2.1 n t9, q.2.2)) (putF n (nI (bel (x >>> (4 &&& 31)) 21)) (nI (bel (x >>> (3 &&& 31)) 100)) σ) (n + 1) k) ++ ((oC ob h h2) ++ ((mC cI cZ h a (putF n (nI (bel (x >>> (4 &&& 31)) 21)) (nI (bel (x >>> (3 &&& 31)) 100)) σ)) ++ (mC cI cZ h2 a2 ρ_2)))) := hD
        refine W.wide (k := ((0 + 1) + 1)) (n := ((0 + 5) + 17)) (by show ((0 + 1) + 1) + 0 ≤ ((0 + 1) + 1); omega) (by show ((0 + 5) + 17) + 0 ≤ ((0 + 5) + 17); omega) ?_
        refine lv_iload_n hx hb dL_act_119 rfl (lv_at hl 3 rfl) ?_
        refine lv_icmp_ne (tgt := 127) hx hb dL_act_120 (by decide) (fun z => absurd (rfl) z) (fun c_120 => ?_)
        refine lv_iconst (v := 1) hx hb dL_act_123 (by decide) ?_
        refine lv_goto (tgt := 128) hx hb dL_act_124 (by decide) ?_
        refine W.wide (k := 2) (n := 23) (Nat.le_of_ble_eq_true rfl) (Nat.le_of_ble_eq_true rfl) ?_
        subst hQ
        exact yz ⟨((((n + 1), k), (putF n (nI (bel (x >>> (4 &&& 31)) 21)) (nI (bel (x >>> (3 &&& 31)) 100)) σ, ρ_2)), ((x9, q.1.2), (va_up q.2.1 n t9, q.2.2))), ⟨((hI.pF (by omega) (by omega) (by omega)).mono (by omega)), by show n ≤ (n + 1); omega, by show n < 2 → n < (n + 1); omega⟩⟩ hx hb hr hlocks hK hP hD hS dL_act_128 (Or.inr rfl) rfl rfl
    · have hc_34 : n = 10 := (nI_eq (a := n) (b := 10) (by omega) (by omega)).mp c_34
      refine lv_iconst (v := 1) hx hb dL_act_37 (by decide) ?_
      refine W.wide (k := 2) (n := 23) (Nat.le_of_ble_eq_true rfl) (Nat.le_of_ble_eq_true rfl) ?_
      subst hQ
      exact yz ⟨(((n, k), (σ, τ)), q), ⟨(hI.mono (by omega)), by show n ≤ n; omega, by show n < 2 → n < n; omega⟩⟩ hx hb hr hlocks hK hP hD hS dL_act_38 (Or.inr rfl) rfl rfl
  · have hc_23 : 2 ≤ n := Nat.not_lt.mp (fun z => c_23 ((nI_ltI (a := n) (b := 2) (by omega) (by omega)).mpr z))
    refine lv_iload hx hb dL_act_26 (lv_at hl 0 rfl) ?_
    refine lv_if_ne (tgt := 129) hx hb dL_act_28 (by decide) (fun c_28 => ?_) (fun c_28 => ?_)
    · have hc_28 : ¬ (bel x 14) = 0 := fun z => c_28 ((nI_eq (a := (bel x 14)) (b := 0) (by omega) (by omega)).mpr z)
      refine lv_iload_n hx hb dL_act_129 rfl (lv_at hl 5 rfl) ?_
      refine lv_iconst (v := 4) hx hb dL_act_130 (by decide) ?_
      refine lv_ishr hx hb dL_act_131 ?_
      refine lv_iload_n hx hb dL_act_132 rfl (lv_at hl 2 rfl) ?_
      refine MC.callS (As := [.int (x >>> (4 &&& 31)), .int (nI n)]) (rest := []) (wB := (sC cI cL sm q σ n k) ++ ((oC ob h h2) ++ ((mC cI cZ h a σ) ++ (mC cI cZ h2 a2 τ)))) (c_L_below l D cI cZ cL (x >>> (4 &&& 31)) n (by omega) (by omega)) ⟨hx, hb, hml, hown, hts⟩ q529 b_L_below (n := 2) (by decide +kernel) ⟨Nat.le_of_ble_eq_true rfl, Nat.le_of_ble_eq_true rfl⟩ hK hP hD hS hA (spE _) (spE _) rfl hl.1 rfl (Nat.le_of_ble_eq_true rfl) dL_act_133 ⟨Nat.le_of_ble_eq_true rfl, Nat.le_of_ble_eq_true rfl⟩ (fun H locs hP hD hS => ?_)
      refine W.wide (k := 0) (n := 0) (Nat.le_refl _) (Nat.le_refl _) ?_
      have hb_133 : bel (x >>> (4 &&& 31)) n < n := bel_lt (by omega)
      refine lv_istore (lv' := [(6, .int (nI (bel (x >>> (4 &&& 31)) n))), (5, .int (nI (bel x 14))), (4, .int (nI k)), (3, .int (nI n)), (0, .ref ob), (1, .ref sm), (2, .int x)]) hx hb dL_act_136 hl (by decide) rfl (fun ls hl => ?_)
      refine lv_iload_n hx hb dL_act_138 rfl (lv_at hl 6 rfl) ?_
      refine lv_bipush (v := 6) hx hb dL_act_139 (by decide) ?_
      refine lv_ishr hx hb dL_act_141 ?_
      refine lv_iload_n hx hb dL_act_142 rfl (lv_at hl 3 rfl) ?_
      refine MC.callS (As := [.int (x >>> (6 &&& 31)), .int (nI n)]) (rest := []) (wB := (sC cI cL sm q σ n k) ++ ((oC ob h h2) ++ ((mC cI cZ h a σ) ++ (mC cI cZ h2 a2 τ)))) (c_L_below l D cI cZ cL (x >>> (6 &&& 31)) n (by omega) (by omega)) ⟨hx, hb, hml, hown, hts⟩ q529 b_L_below (n := 2) (by decide +kernel) ⟨Nat.le_of_ble_eq_true rfl, Nat.le_of_ble_eq_true rfl⟩ hK hP hD hS hA (spE _) (spE _) rfl hl.1 rfl (Nat.le_of_ble_eq_true rfl) dL_act_143 ⟨Nat.le_of_ble_eq_true rfl, Nat.le_of_ble_eq_true rfl⟩ (fun H locs hP hD hS => ?_)
      refine W.wide (k := 0) (n := 0) (Nat.le_refl _) (Nat.le_refl _) ?_
      have hb_143 : bel (x >>> (6 &&& 31)) n < n := bel_lt (by omega)
      refine lv_istore (lv' := [(7, .int (nI (bel (x >>> (6 &&& 31)) n))), (6, .int (nI (bel (x >>> (4 &&& 31)) n))), (5, .int (nI (bel x 14))), (4, .int (nI k)), (3, .int (nI n)), (0, .ref ob), (1, .ref sm), (2, .int x)]) hx hb dL_act_146 hl (by decide) rfl (fun ls hl => ?_)
      refine lv_iconst (v := 1) hx hb dL_act_148 (by decide) ?_
      refine lv_iload_n hx hb dL_act_149 rfl (lv_at hl 7 rfl) ?_
      refine lv_iconst (v := 5) hx hb dL_act_150 (by decide) ?_
      refine lv_ishr hx hb dL_act_151 ?_
      refine lv_bipush (v := 9) hx hb dL_act_152 (by decide) ?_
      refine MC.callS (As := [.int (x >>> (5 &&& 31)), .int 9]) (rest := [.int 1]) (wB := (sC cI cL sm q σ n k) ++ ((oC ob h h2) ++ ((mC cI cZ h a σ) ++ (mC cI cZ h2 a2 τ)))) (c_L_below l D cI cZ cL (x >>> (5 &&& 31)) 9 (by omega) (by omega)) ⟨hx, hb, hml, hown, hts⟩ q529 b_L_below (n := 2) (by decide +kernel) ⟨Nat.le_of_ble_eq_true rfl, Nat.le_of_ble_eq_true rfl⟩ hK hP hD hS hA (spE _) (spE _) rfl hl.1 rfl (Nat.le_of_ble_eq_true rfl) dL_act_154 ⟨Nat.le_of_ble_eq_true rfl, Nat.le_of_ble_eq_true rfl⟩ (fun H locs hP hD hS => ?_)
      refine W.wide (k := 0) (n := 0) (Nat.le_refl _) (Nat.le_refl _) ?_
      have hb_154 : bel (x >>> (5 &&& 31)) 9 < 9 := bel_lt (by omega)
      refine lv_iadd hx hb dL_act_157 ?_
      refine x_top (nI_add 1 (bel (x >>> (5 &&& 31)) 9)) ?_
      refine lv_istore (lv' := [(8, .int (nI (1 + (bel (x >>> (5 &&& 31)) 9)))), (7, .int (nI (bel (x >>> (6 &&& 31)) n))), (6, .int (nI (bel (x >>> (4 &&& 31)) n))), (5, .int (nI (bel x 14))), (4, .int (nI k)), (3, .int (nI n)), (0, .ref ob), (1, .ref sm), (2, .int x)]) hx hb dL_act_158 hl (by decide) rfl (fun ls hl => ?_)
      refine lv_iload hx hb dL_act_160 (lv_at hl 3 rfl) ?_
      have T212 : W p l e rmL_act s m args below meth c H locs 0 0 Q (F0 m 212 ls []) := by
        refine lv_iload hx hb dL_act_212 (lv_at hl 2 rfl) ?_
        refine lv_iload hx hb dL_act_214 (lv_at hl 1 rfl) ?_
        refine lv_icmp_eq (tgt := 226) hx hb dL_act_216 (by decide) (fun c_216 => ?_) (fun c_216 => ?_)
        · have hc_216 : (bel (x >>> (4 &&& 31)) n) = (bel (x >>> (6 &&& 31)) n) := (nI_eq (a := (bel (x >>> (4 &&& 31)) n)) (b := (bel (x >>> (6 &&& 31)) n)) (by omega) (by omega)).mp c_216
          refine lv_iconst (v := 1) hx hb dL_act_226 (by decide) ?_
          refine W.wide (k := 2) (n := 23) (Nat.le_of_ble_eq_true rfl) (Nat.le_of_ble_eq_true rfl) ?_
          subst hQ
          exact yz ⟨(((n, k), (σ, τ)), q), ⟨(hI.mono (by omega)), by show n ≤ n; omega, by show n < 2 → n < n; omega⟩⟩ hx hb hr hlocks hK hP hD hS dL_act_227 (Or.inr rfl) rfl rfl
        · have hc_216 : ¬ (bel (x >>> (4 &&& 31)) n) = (bel (x >>> (6 &&& 31)) n) := fun z => c_216 ((nI_eq (a := (bel (x >>> (4 &&& 31)) n)) (b := (bel (x >>> (6 &&& 31)) n)) (by omega) (by omega)).mpr z)
          refine lv_iload hx hb dL_act_219 (lv_at hl 4 rfl) ?_
          refine lv_bipush (v := 16) hx hb dL_act_221 (by decide) ?_
          refine lv_icmp_ne (tgt := 228) hx hb dL_act_223 (by decide) (fun c_223 => ?_) (fun c_223 => ?_)
          · have hc_223 : ¬ k = 16 := fun z => c_223 ((nI_eq (a := k) (b := 16) (by omega) (by omega)).mpr z)
            refine lv_aload_n hx hb dL_act_228 rfl (lv_at hl 7 rfl) ?_
            refine lv_aload_n hx hb dL_act_229 rfl (lv_at hl 7 rfl) ?_
            refine s_get hx hb hts hown hK hP (σ := σ) (n := n) (k := k) (q := q) (sm := sm) (w0 := []) (w2 := (oC ob h h2) ++ ((mC cI cZ h a σ) ++ (mC cI cZ h2 a2 τ))) rfl 1 (by decide) q436 (v := .ref q.1.2) rfl dL_act_230 ?_
            refine lv_bipush (v := 6) hx hb dL_act_233 (by decide) ?_
            refine x_new (atype := .int) (ty := .int) rfl rfl ra_int hx hb (hts _ q96) hK hP hD hS hA 0 rfl (N' := 6) (by decide) (by decide) (by decide) (by show _ + 1 ≤ 2; omega) (by show _ + _ ≤ 23; omega) dL_act_235 (fun t9 H hP hD hS => ?_)
            obtain ⟨hP, hD⟩ := p_perm (b := tC cI t9 6 (fun _ => 0) ++ ((sC cI cL sm q σ n k) ++ ((oC ob h h2) ++ ((mC cI cZ h a σ) ++ (mC cI cZ h2 a2 τ))))) List.perm_append_comm hP hD
            have hP : va_P D vwCl ((tC cI t9 6 (fun _ => 0)) ++ ((sC cI cL sm q σ n k) ++ ((oC ob h h2) ++ ((mC cI cZ h a σ) ++ (mC cI cZ h2 a2 τ))))) H := hP
            have hD : va_D A ((tC cI t9 6 (fun _ => 0)) ++ ((sC cI cL sm q σ n k) ++ ((oC ob h h2) ++ ((mC cI cZ h a σ) ++ (mC cI cZ h2 a2 τ))))) := hD
            refine lv_dup hx hb dL_act_237 rfl ?_
            refine lv_iconst (v := 0) hx hb dL_act_238 (by decide) ?_
            refine lv_iload hx hb dL_act_239 (lv_at hl 2 rfl) ?_
            refine x_ist (ws2 := (tC cI t9 6 (upd (fun _ => 0) 0 (nI (bel (x >>> (4 &&& 31)) n)))) ++ ((sC cI cL sm q σ n k) ++ ((oC ob h h2) ++ ((mC cI cZ h a σ) ++ (mC cI cZ h2 a2 τ))))) hx hb hK hP hD hS 0 0 rfl rfl 0 (rfl) (by omega) (by decide) rfl dL_act_241 (fun H locs hP hD hS => ?_)
            refine lv_dup hx hb dL_act_242 rfl ?_
            refine lv_iconst (v := 1) hx hb dL_act_243 (by decide) ?_
            refine lv_iload hx hb dL_act_244 (lv_at hl 1 rfl) ?_
            refine x_ist (ws2 := (tC cI t9 6 (upd (upd (fun _ => 0) 0 (nI (bel (x >>> (4 &&& 31)) n))) 1 (nI (bel (x >>> (6 &&& 31)) n)))) ++ ((sC cI cL sm q σ n k) ++ ((oC ob h h2) ++ ((mC cI cZ h a σ) ++ (mC cI cZ h2 a2 τ))))) hx hb hK hP hD hS 0 0 rfl rfl 1 (rfl) (by omega) (by decide) rfl dL_act_246 (fun H locs hP hD hS => ?_)
            refine lv_dup hx hb dL_act_247 rfl ?_
            refine lv_iconst (v := 2) hx hb dL_act_248 (by decide) ?_
            refine lv_iload hx hb dL_act_249 (lv_at hl 0 rfl) ?_
            refine x_ist (ws2 := (tC cI t9 6 (upd (upd (upd (fun _ => 0) 0 (nI (bel (x >>> (4 &&& 31)) n))) 1 (nI (bel (x >>> (6 &&& 31)) n))) 2 (nI (1 + (bel (x >>> (5 &&& 31)) 9))))) ++ ((sC cI cL sm q σ n k) ++ ((oC ob h h2) ++ ((mC cI cZ h a σ) ++ (mC cI cZ h2 a2 τ))))) hx hb hK hP hD hS 0 0 rfl rfl 2 (rfl) (by omega) (by decide) rfl dL_act_251 (fun H locs hP hD hS => ?_)
            refine lv_dup hx hb dL_act_252 rfl ?_
            refine lv_iconst (v := 3) hx hb dL_act_253 (by decide) ?_
            refine lv_iconst (v := 0) hx hb dL_act_254 (by decide) ?_
            refine x_ist (ws2 := (tC cI t9 6 (upd (upd (upd (upd (fun _ => 0) 0 (nI (bel (x >>> (4 &&& 31)) n))) 1 (nI (bel (x >>> (6 &&& 31)) n))) 2 (nI (1 + (bel (x >>> (5 &&& 31)) 9)))) 3 0)) ++ ((sC cI cL sm q σ n k) ++ ((oC ob h h2) ++ ((mC cI cZ h a σ) ++ (mC cI cZ h2 a2 τ))))) hx hb hK hP hD hS 0 0 rfl rfl 3 (rfl) (by omega) (by decide) rfl dL_act_255 (fun H locs hP hD hS => ?_)
            refine lv_dup hx hb dL_act_256 rfl ?_
            refine lv_iconst (v := 4) hx hb dL_act_257 (by decide) ?_
            refine lv_iconst (v := 1) hx hb dL_act_258 (by decide) ?_
            refine x_ist (ws2 := (tC cI t9 6 (upd (upd (upd (upd (upd (fun _ => 0) 0 (nI (bel (x >>> (4 &&& 31)) n))) 1 (nI (bel (x >>> (6 &&& 31)) n))) 2 (nI (1 + (bel (x >>> (5 &&& 31)) 9)))) 3 0) 4 1)) ++ ((sC cI cL sm q σ n k) ++ ((oC ob h h2) ++ ((mC cI cZ h a σ) ++ (mC cI cZ h2 a2 τ))))) hx hb hK hP hD hS 0 0 rfl rfl 4 (rfl) (by omega) (by decide) rfl dL_act_259 (fun H locs hP hD hS => ?_)
            refine lv_dup hx hb dL_act_260 rfl ?_
            refine lv_iconst (v := 5) hx hb dL_act_261 (by decide) ?_
            refine lv_iconst (v := 0) hx hb dL_act_262 (by decide) ?_
            refine x_ist (ws2 := (tC cI t9 6 (upd (upd (upd (upd (upd (upd (fun _ => 0) 0 (nI (bel (x >>> (4 &&& 31)) n))) 1 (nI (bel (x >>> (6 &&& 31)) n))) 2 (nI (1 + (bel (x >>> (5 &&& 31)) 9)))) 3 0) 4 1) 5 0)) ++ ((sC cI cL sm q σ n k) ++ ((oC ob h h2) ++ ((mC cI cZ h a σ) ++ (mC cI cZ h2 a2 τ))))) hx hb hK hP hD hS 0 0 rfl rfl 5 (rfl) (by omega) (by decide) rfl dL_act_263 (fun H locs hP hD hS => ?_)
            refine s_growD cZ (σ := σ) (n := n) (k := k) (q := q) (w0 := []) (w2 := (oC ob h h2) ++ ((mC cI cZ h a σ) ++ (mC cI cZ h2 a2 τ))) (τ := putD k (nI (bel (x >>> (4 &&& 31)) n)) (nI (bel (x >>> (6 &&& 31)) n)) (nI (1 + (bel (x >>> (5 &&& 31)) 9))) 0 σ) hx hb hml hown hts hK hA hE q540 q436 (by simp only [List.append_assoc, List.append_nil, List.nil_append]) hP hD hS (by omega) (pD_row hI (by omega) _ _ _ _) (fun j hj => pD_d _ _ _ _ σ hj) (fun j _ => pD_f _ _ _ _ σ) (pD_11 _ _ _ _ σ (by decide)) (pD_11 _ _ _ _ σ (by decide)) (pD_11 _ _ _ _ σ (by decide)) hl.1 ⟨(Nat.le_of_ble_eq_true rfl), (Nat.le_of_ble_eq_true rfl)⟩ (Nat.le_of_ble_eq_true rfl) dL_act_264 dL_act_267 ⟨by show _ + 1 ≤ 2; omega, by show _ + 17 ≤ 23; omega⟩ (fun x9 H locs hP hD hS => ?_)
            have hP : va_P D vwCl ((sC cI cL sm ((q.1.1, x9), (q.2.1, va_up q.2.2 k t9)) (putD k (nI (bel (x >>> (4 &&& 31)) n)) (nI (bel (x >>> (6 &&& 31)) n)) (nI (1 + (bel (x >>> (5 &&& 31)) 9))) 0 σ) n (k + 1)) ++ ((oC ob h h2) ++ ((mC cI cZ h a σ) ++ (mC cI cZ h2 a2 τ)))) H := hP
            have hD : va_D A ((sC cI cL sm ((q.1.1, x9), (q.2.1, va_up q.2.2 k t9)) (putD k (nI (bel (x >>> (4 &&& 31)) n)) (nI (bel (x >>> (6 &&& 31)) n)) (nI (1 + (bel (x >>> (5 &&& 31)) 9))) 0 σ) n (k + 1)) ++ ((oC ob h h2) ++ ((mC cI cZ h a σ) ++ (mC cI cZ h2 a2 τ)))) := hD
            refine lv_aload_n hx hb dL_act_270 rfl (lv_at hl 6 rfl) ?_
            refine lv_iload hx hb dL_act_271 (lv_at hl 2 rfl) ?_
            refine lv_iload hx hb dL_act_273 (lv_at hl 1 rfl) ?_
            refine lv_iload hx hb dL_act_275 (lv_at hl 0 rfl) ?_
            refine MX.callV0 (C := RX1) (T := TX1) (N := 2) (As := [.int (nI (bel (x >>> (4 &&& 31)) n)), .int (nI (bel (x >>> (6 &&& 31)) n)), .int (nI (1 + (bel (x >>> (5 &&& 31)) 9)))]) (rest := []) (w0 := sC cI cL sm ((q.1.1, x9), (q.2.1, va_up q.2.2 k t9)) (putD k (nI (bel (x >>> (4 &&& 31)) n)) (nI (bel (x >>> (6 &&& 31)) n)) (nI (1 + (bel (x >>> (5 &&& 31)) 9))) 0 σ) n (k + 1)) (w2 := []) (wB := fun ρ => (sC cI cL sm ((q.1.1, x9), (q.2.1, va_up q.2.2 k t9)) (putD k (nI (bel (x >>> (4 &&& 31)) n)) (nI (bel (x >>> (6 &&& 31)) n)) (nI (1 + (bel (x >>> (5 &&& 31)) 9))) 0 σ) n (k + 1)) ++ ((oC ob h h2) ++ ((mC cI cZ h a (putD k (nI (bel (x >>> (4 &&& 31)) n)) (nI (bel (x >>> (6 &&& 31)) n)) (nI (1 + (bel (x >>> (5 &&& 31)) 9))) 0 σ)) ++ (mC cI cZ h2 a2 ρ)))) (c_X1_addDitch_d l D cI cZ cL ob h a h2 a2 σ τ hst (nI (bel (x >>> (4 &&& 31)) n)) (nI (bel (x >>> (6 &&& 31)) n)) (nI (1 + (bel (x >>> (5 &&& 31)) 9))) (hasF_0 hst (j := bel (x >>> (4 &&& 31)) n) (by omega)) (hasF_0 hst (j := bel (x >>> (6 &&& 31)) n) (by omega)) c_216 (inR_t 1 9 (by decide) (by omega) (by omega)) (by omega)) ⟨hx, hb, hml, hown, hts⟩ q565 b_X1_addDitch (n := 3) (by decide +kernel) ⟨(Nat.le_of_ble_eq_true rfl), (Nat.le_of_ble_eq_true rfl)⟩ hK hP hD hS hA hE (by rw [List.append_nil]) (fun _ => by rw [List.append_nil]) (ci := 1) rfl rfl rfl hl.1 rfl (Nat.le_of_ble_eq_true rfl) dL_act_277 ⟨by show ((0 + 1) + 1) + 0 ≤ 2; omega, by show ((0 + 6) + 17) + 0 ≤ 23; omega⟩ (fun ρ_3 H locs hP hD hS => ?_)
            have hP : va_P D vwCl ((sC cI cL sm ((q.1.1, x9), (q.2.1, va_up q.2.2 k t9)) (putD k (nI (bel (x >>> (4 &&& 31)) n)) (nI (bel (x >>> (6 &&& 31)) n)) (nI (1 + (bel (x >>> (5 &&& 31)) 9))) 0 σ) n (k + 1)) ++ ((oC ob h h2) ++ ((mC cI cZ h a (putD k (nI (bel (x >>> (4 &&& 31)) n)) (nI (bel (x >>> (6 &&& 31)) n)) (nI (1 + (bel (x >>> (5 &&& 31)) 9))) 0 σ)) ++ (mC cI cZ h2 a2 ρ_3)))) H := hP
            have hD : va_D A ((sC cI cL sm ((q.1.1, x9), (q.2.1, va_up q.2.2 k t9)) (putD k (nI (bel (x >>> (4 &&& 31)) n)) (nI (bel (x >>> (6 &&& 31)) n)) (nI (1 + (bel (x >>> (5 &&& 31)) 9))) 0 σ) n (k + 1)) ++ ((oC ob h h2) ++ ((mC cI cZ h a (putD k (nI (bel (x >>> (4 &&& 31)) n)) (nI (bel (x >>> (6 &&& 31)) n)) (nI (1 + (bel (x >>> (5 &&& 31)) 9))) 0 σ)) ++ (mC cI cZ h2 a2 ρ_3)))) := hD
            refine W.wide (k := ((0 + 1) + 1)) (n := ((0 + 6) + 17)) (by show ((0 + 1) + 1) + 0 ≤ ((0 + 1) + 1); omega) (by show ((0 + 6) + 17) + 0 ≤ ((0 + 6) + 17); omega) ?_
            refine lv_iload hx hb dL_act_280 (lv_at hl 4 rfl) ?_
            refine lv_icmp_ne (tgt := 289) hx hb dL_act_282 (by decide) (fun z => absurd (rfl) z) (fun c_282 => ?_)
            refine lv_iconst (v := 1) hx hb dL_act_285 (by decide) ?_
            refine lv_goto (tgt := 290) hx hb dL_act_286 (by decide) ?_
            refine W.wide (k := 2) (n := 23) (Nat.le_of_ble_eq_true rfl) (Nat.le_of_ble_eq_true rfl) ?_
            subst hQ
            exact yz ⟨(((n, (k + 1)), (putD k (nI (bel (x >>> (4 &&& 31)) n)) (nI (bel (x >>> (6 &&& 31)) n)) (nI (1 + (bel (x >>> (5 &&& 31)) 9))) 0 σ, ρ_3)), ((q.1.1, x9), (q.2.1, va_up q.2.2 k t9))), ⟨((hI.pD (by omega) (by omega) (Or.inl rfl) ⟨_, by omega, rfl⟩ (Or.inr ⟨_, by omega, rfl⟩)).mono (by omega)), by show n ≤ n; omega, by show n < 2 → n < n; omega⟩⟩ hx hb hr hlocks hK hP hD hS dL_act_290 (Or.inr rfl) rfl rfl
          · have hc_223 : k = 16 := (nI_eq (a := k) (b := 16) (by omega) (by omega)).mp c_223
            refine lv_iconst (v := 1) hx hb dL_act_226 (by decide) ?_
            refine W.wide (k := 2) (n := 23) (Nat.le_of_ble_eq_true rfl) (Nat.le_of_ble_eq_true rfl) ?_
            subst hQ
            exact yz ⟨(((n, k), (σ, τ)), q), ⟨(hI.mono (by omega)), by show n ≤ n; omega, by show n < 2 → n < n; omega⟩⟩ hx hb hr hlocks hK hP hD hS dL_act_227 (Or.inr rfl) rfl rfl
      have T291 : W p l e rmL_act s m args below meth c H locs 0 0 Q (F0 m 291 ls []) := by
        refine lv_iload_n hx hb dL_act_291 rfl (lv_at hl 8 rfl) ?_
        refine lv_bipush (v := 8) hx hb dL_act_292 (by decide) ?_
        refine lv_ishr hx hb dL_act_294 ?_
        refine lv_iconst (v := 3) hx hb dL_act_295 (by decide) ?_
        refine MC.callS (As := [.int (x >>> (8 &&& 31)), .int 3]) (rest := []) (wB := (sC cI cL sm q σ n k) ++ ((oC ob h h2) ++ ((mC cI cZ h a σ) ++ (mC cI cZ h2 a2 τ)))) (c_L_below l D cI cZ cL (x >>> (8 &&& 31)) 3 (by omega) (by omega)) ⟨hx, hb, hml, hown, hts⟩ q529 b_L_below (n := 2) (by decide +kernel) ⟨Nat.le_of_ble_eq_true rfl, Nat.le_of_ble_eq_true rfl⟩ hK hP hD hS hA (spE _) (spE _) rfl hl.1 rfl (Nat.le_of_ble_eq_true rfl) dL_act_296 ⟨Nat.le_of_ble_eq_true rfl, Nat.le_of_ble_eq_true rfl⟩ (fun H locs hP hD hS => ?_)
        refine W.wide (k := 0) (n := 0) (Nat.le_refl _) (Nat.le_refl _) ?_
        have hb_296 : bel (x >>> (8 &&& 31)) 3 < 3 := bel_lt (by omega)
        refine lv_if_ne (tgt := 305) hx hb dL_act_299 (by decide) (fun c_299 => ?_) (fun c_299 => ?_)
        · have hc_299 : ¬ (bel (x >>> (8 &&& 31)) 3) = 0 := fun z => c_299 ((nI_eq (a := (bel (x >>> (8 &&& 31)) 3)) (b := 0) (by omega) (by omega)).mpr z)
          refine lv_iload hx hb dL_act_305 (lv_at hl 2 rfl) ?_
          refine lv_iload hx hb dL_act_307 (lv_at hl 1 rfl) ?_
          refine lv_icmp_eq (tgt := 319) hx hb dL_act_309 (by decide) (fun c_309 => ?_) (fun c_309 => ?_)
          · have hc_309 : (bel (x >>> (4 &&& 31)) n) = (bel (x >>> (6 &&& 31)) n) := (nI_eq (a := (bel (x >>> (4 &&& 31)) n)) (b := (bel (x >>> (6 &&& 31)) n)) (by omega) (by omega)).mp c_309
            refine lv_iconst (v := 1) hx hb dL_act_319 (by decide) ?_
            refine W.wide (k := 2) (n := 23) (Nat.le_of_ble_eq_true rfl) (Nat.le_of_ble_eq_true rfl) ?_
            subst hQ
            exact yz ⟨(((n, k), (σ, τ)), q), ⟨(hI.mono (by omega)), by show n ≤ n; omega, by show n < 2 → n < n; omega⟩⟩ hx hb hr hlocks hK hP hD hS dL_act_320 (Or.inr rfl) rfl rfl
          · have hc_309 : ¬ (bel (x >>> (4 &&& 31)) n) = (bel (x >>> (6 &&& 31)) n) := fun z => c_309 ((nI_eq (a := (bel (x >>> (4 &&& 31)) n)) (b := (bel (x >>> (6 &&& 31)) n)) (by omega) (by omega)).mpr z)
            refine lv_iload hx hb dL_act_312 (lv_at hl 4 rfl) ?_
            refine lv_bipush (v := 16) hx hb dL_act_314 (by decide) ?_
            refine lv_icmp_ne (tgt := 321) hx hb dL_act_316 (by decide) (fun c_316 => ?_) (fun c_316 => ?_)
            · have hc_316 : ¬ k = 16 := fun z => c_316 ((nI_eq (a := k) (b := 16) (by omega) (by omega)).mpr z)
              refine lv_aload_n hx hb dL_act_321 rfl (lv_at hl 7 rfl) ?_
              refine lv_aload_n hx hb dL_act_322 rfl (lv_at hl 7 rfl) ?_
              refine s_get hx hb hts hown hK hP (σ := σ) (n := n) (k := k) (q := q) (sm := sm) (w0 := []) (w2 := (oC ob h h2) ++ ((mC cI cZ h a σ) ++ (mC cI cZ h2 a2 τ))) rfl 1 (by decide) q436 (v := .ref q.1.2) rfl dL_act_323 ?_
              refine lv_bipush (v := 6) hx hb dL_act_326 (by decide) ?_
              refine x_new (atype := .int) (ty := .int) rfl rfl ra_int hx hb (hts _ q96) hK hP hD hS hA 0 rfl (N' := 6) (by decide) (by decide) (by decide) (by show _ + 1 ≤ 2; omega) (by show _ + _ ≤ 23; omega) dL_act_328 (fun t9 H hP hD hS => ?_)
              obtain ⟨hP, hD⟩ := p_perm (b := tC cI t9 6 (fun _ => 0) ++ ((sC cI cL sm q σ n k) ++ ((oC ob h h2) ++ ((mC cI cZ h a σ) ++ (mC cI cZ h2 a2 τ))))) List.perm_append_comm hP hD
              have hP : va_P D vwCl ((tC cI t9 6 (fun _ => 0)) ++ ((sC cI cL sm q σ n k) ++ ((oC ob h h2) ++ ((mC cI cZ h a σ) ++ (mC cI cZ h2 a2 τ))))) H := hP
              have hD : va_D A ((tC cI t9 6 (fun _ => 0)) ++ ((sC cI cL sm q σ n k) ++ ((oC ob h h2) ++ ((mC cI cZ h a σ) ++ (mC cI cZ h2 a2 τ))))) := hD
              refine lv_dup hx hb dL_act_330 rfl ?_
              refine lv_iconst (v := 0) hx hb dL_act_331 (by decide) ?_
              refine lv_iload hx hb dL_act_332 (lv_at hl 2 rfl) ?_
              refine x_ist (ws2 := (tC cI t9 6 (upd (fun _ => 0) 0 (nI (bel (x >>> (4 &&& 31)) n)))) ++ ((sC cI cL sm q σ n k) ++ ((oC ob h h2) ++ ((mC cI cZ h a σ) ++ (mC cI cZ h2 a2 τ))))) hx hb hK hP hD hS 0 0 rfl rfl 0 (rfl) (by omega) (by decide) rfl dL_act_334 (fun H locs hP hD hS => ?_)
              refine lv_dup hx hb dL_act_335 rfl ?_
              refine lv_iconst (v := 1) hx hb dL_act_336 (by decide) ?_
              refine lv_iload hx hb dL_act_337 (lv_at hl 1 rfl) ?_
              refine x_ist (ws2 := (tC cI t9 6 (upd (upd (fun _ => 0) 0 (nI (bel (x >>> (4 &&& 31)) n))) 1 (nI (bel (x >>> (6 &&& 31)) n)))) ++ ((sC cI cL sm q σ n k) ++ ((oC ob h h2) ++ ((mC cI cZ h a σ) ++ (mC cI cZ h2 a2 τ))))) hx hb hK hP hD hS 0 0 rfl rfl 1 (rfl) (by omega) (by decide) rfl dL_act_339 (fun H locs hP hD hS => ?_)
              refine lv_dup hx hb dL_act_340 rfl ?_
              refine lv_iconst (v := 2) hx hb dL_act_341 (by decide) ?_
              refine lv_iload hx hb dL_act_342 (lv_at hl 0 rfl) ?_
              refine x_ist (ws2 := (tC cI t9 6 (upd (upd (upd (fun _ => 0) 0 (nI (bel (x >>> (4 &&& 31)) n))) 1 (nI (bel (x >>> (6 &&& 31)) n))) 2 (nI (1 + (bel (x >>> (5 &&& 31)) 9))))) ++ ((sC cI cL sm q σ n k) ++ ((oC ob h h2) ++ ((mC cI cZ h a σ) ++ (mC cI cZ h2 a2 τ))))) hx hb hK hP hD hS 0 0 rfl rfl 2 (rfl) (by omega) (by decide) rfl dL_act_344 (fun H locs hP hD hS => ?_)
              refine lv_dup hx hb dL_act_345 rfl ?_
              refine lv_iconst (v := 3) hx hb dL_act_346 (by decide) ?_
              refine lv_iconst (v := 1) hx hb dL_act_347 (by decide) ?_
              refine x_ist (ws2 := (tC cI t9 6 (upd (upd (upd (upd (fun _ => 0) 0 (nI (bel (x >>> (4 &&& 31)) n))) 1 (nI (bel (x >>> (6 &&& 31)) n))) 2 (nI (1 + (bel (x >>> (5 &&& 31)) 9)))) 3 1)) ++ ((sC cI cL sm q σ n k) ++ ((oC ob h h2) ++ ((mC cI cZ h a σ) ++ (mC cI cZ h2 a2 τ))))) hx hb hK hP hD hS 0 0 rfl rfl 3 (rfl) (by omega) (by decide) rfl dL_act_348 (fun H locs hP hD hS => ?_)
              refine lv_dup hx hb dL_act_349 rfl ?_
              refine lv_iconst (v := 4) hx hb dL_act_350 (by decide) ?_
              refine lv_iconst (v := 1) hx hb dL_act_351 (by decide) ?_
              refine x_ist (ws2 := (tC cI t9 6 (upd (upd (upd (upd (upd (fun _ => 0) 0 (nI (bel (x >>> (4 &&& 31)) n))) 1 (nI (bel (x >>> (6 &&& 31)) n))) 2 (nI (1 + (bel (x >>> (5 &&& 31)) 9)))) 3 1) 4 1)) ++ ((sC cI cL sm q σ n k) ++ ((oC ob h h2) ++ ((mC cI cZ h a σ) ++ (mC cI cZ h2 a2 τ))))) hx hb hK hP hD hS 0 0 rfl rfl 4 (rfl) (by omega) (by decide) rfl dL_act_352 (fun H locs hP hD hS => ?_)
              refine lv_dup hx hb dL_act_353 rfl ?_
              refine lv_iconst (v := 5) hx hb dL_act_354 (by decide) ?_
              refine lv_iconst (v := 0) hx hb dL_act_355 (by decide) ?_
              refine x_ist (ws2 := (tC cI t9 6 (upd (upd (upd (upd (upd (upd (fun _ => 0) 0 (nI (bel (x >>> (4 &&& 31)) n))) 1 (nI (bel (x >>> (6 &&& 31)) n))) 2 (nI (1 + (bel (x >>> (5 &&& 31)) 9)))) 3 1) 4 1) 5 0)) ++ ((sC cI cL sm q σ n k) ++ ((oC ob h h2) ++ ((mC cI cZ h a σ) ++ (mC cI cZ h2 a2 τ))))) hx hb hK hP hD hS 0 0 rfl rfl 5 (rfl) (by omega) (by decide) rfl dL_act_356 (fun H locs hP hD hS => ?_)
              refine s_growD cZ (σ := σ) (n := n) (k := k) (q := q) (w0 := []) (w2 := (oC ob h h2) ++ ((mC cI cZ h a σ) ++ (mC cI cZ h2 a2 τ))) (τ := putD k (nI (bel (x >>> (4 &&& 31)) n)) (nI (bel (x >>> (6 &&& 31)) n)) (nI (1 + (bel (x >>> (5 &&& 31)) 9))) 1 σ) hx hb hml hown hts hK hA hE q540 q436 (by simp only [List.append_assoc, List.append_nil, List.nil_append]) hP hD hS (by omega) (pD_row hI (by omega) _ _ _ _) (fun j hj => pD_d _ _ _ _ σ hj) (fun j _ => pD_f _ _ _ _ σ) (pD_11 _ _ _ _ σ (by decide)) (pD_11 _ _ _ _ σ (by decide)) (pD_11 _ _ _ _ σ (by decide)) hl.1 ⟨(Nat.le_of_ble_eq_true rfl), (Nat.le_of_ble_eq_true rfl)⟩ (Nat.le_of_ble_eq_true rfl) dL_act_357 dL_act_360 ⟨by show _ + 1 ≤ 2; omega, by show _ + 17 ≤ 23; omega⟩ (fun x9 H locs hP hD hS => ?_)
              have hP : va_P D vwCl ((sC cI cL sm ((q.1.1, x9), (q.2.1, va_up q.2.2 k t9)) (putD k (nI (bel (x >>> (4 &&& 31)) n)) (nI (bel (x >>> (6 &&& 31)) n)) (nI (1 + (bel (x >>> (5 &&& 31)) 9))) 1 σ) n (k + 1)) ++ ((oC ob h h2) ++ ((mC cI cZ h a σ) ++ (mC cI cZ h2 a2 τ)))) H := hP
              have hD : va_D A ((sC cI cL sm ((q.1.1, x9), (q.2.1, va_up q.2.2 k t9)) (putD k (nI (bel (x >>> (4 &&& 31)) n)) (nI (bel (x >>> (6 &&& 31)) n)) (nI (1 + (bel (x >>> (5 &&& 31)) 9))) 1 σ) n (k + 1)) ++ ((oC ob h h2) ++ ((mC cI cZ h a σ) ++ (mC cI cZ h2 a2 τ)))) := hD
              refine lv_aload_n hx hb dL_act_363 rfl (lv_at hl 6 rfl) ?_
              refine lv_iload hx hb dL_act_364 (lv_at hl 2 rfl) ?_
              refine lv_iload hx hb dL_act_366 (lv_at hl 1 rfl) ?_
              refine lv_iload hx hb dL_act_368 (lv_at hl 0 rfl) ?_
              refine MX.callV0 (C := RX1) (T := TX1) (N := 2) (As := [.int (nI (bel (x >>> (4 &&& 31)) n)), .int (nI (bel (x >>> (6 &&& 31)) n)), .int (nI (1 + (bel (x >>> (5 &&& 31)) 9)))]) (rest := []) (w0 := sC cI cL sm ((q.1.1, x9), (q.2.1, va_up q.2.2 k t9)) (putD k (nI (bel (x >>> (4 &&& 31)) n)) (nI (bel (x >>> (6 &&& 31)) n)) (nI (1 + (bel (x >>> (5 &&& 31)) 9))) 1 σ) n (k + 1)) (w2 := []) (wB := fun ρ => (sC cI cL sm ((q.1.1, x9), (q.2.1, va_up q.2.2 k t9)) (putD k (nI (bel (x >>> (4 &&& 31)) n)) (nI (bel (x >>> (6 &&& 31)) n)) (nI (1 + (bel (x >>> (5 &&& 31)) 9))) 1 σ) n (k + 1)) ++ ((oC ob h h2) ++ ((mC cI cZ h a (putD k (nI (bel (x >>> (4 &&& 31)) n)) (nI (bel (x >>> (6 &&& 31)) n)) (nI (1 + (bel (x >>> (5 &&& 31)) 9))) 1 σ)) ++ (mC cI cZ h2 a2 ρ)))) (c_X1_addPump_d l D cI cZ cL ob h a h2 a2 σ τ hst (nI (bel (x >>> (4 &&& 31)) n)) (nI (bel (x >>> (6 &&& 31)) n)) (nI (1 + (bel (x >>> (5 &&& 31)) 9))) (hasF_0 hst (j := bel (x >>> (4 &&& 31)) n) (by omega)) (nI_ne_m1 (by omega)) (hasF_0 hst (j := bel (x >>> (6 &&& 31)) n) (by omega)) c_309 (inR_t 1 9 (by decide) (by omega) (by omega)) (by omega)) ⟨hx, hb, hml, hown, hts⟩ q579 b_X1_addPump (n := 3) (by decide +kernel) ⟨(Nat.le_of_ble_eq_true rfl), (Nat.le_of_ble_eq_true rfl)⟩ hK hP hD hS hA hE (by rw [List.append_nil]) (fun _ => by rw [List.append_nil]) (ci := 1) rfl rfl rfl hl.1 rfl (Nat.le_of_ble_eq_true rfl) dL_act_370 ⟨by show ((0 + 1) + 1) + 0 ≤ 2; omega, by show ((0 + 6) + 17) + 0 ≤ 23; omega⟩ (fun ρ_4 H locs hP hD hS => ?_)
              have hP : va_P D vwCl ((sC cI cL sm ((q.1.1, x9), (q.2.1, va_up q.2.2 k t9)) (putD k (nI (bel (x >>> (4 &&& 31)) n)) (nI (bel (x >>> (6 &&& 31)) n)) (nI (1 + (bel (x >>> (5 &&& 31)) 9))) 1 σ) n (k + 1)) ++ ((oC ob h h2) ++ ((mC cI cZ h a (putD k (nI (bel (x >>> (4 &&& 31)) n)) (nI (bel (x >>> (6 &&& 31)) n)) (nI (1 + (bel (x >>> (5 &&& 31)) 9))) 1 σ)) ++ (mC cI cZ h2 a2 ρ_4)))) H := hP
              have hD : va_D A ((sC cI cL sm ((q.1.1, x9), (q.2.1, va_up q.2.2 k t9)) (putD k (nI (bel (x >>> (4 &&& 31)) n)) (nI (bel (x >>> (6 &&& 31)) n)) (nI (1 + (bel (x >>> (5 &&& 31)) 9))) 1 σ) n (k + 1)) ++ ((oC ob h h2) ++ ((mC cI cZ h a (putD k (nI (bel (x >>> (4 &&& 31)) n)) (nI (bel (x >>> (6 &&& 31)) n)) (nI (1 + (bel (x >>> (5 &&& 31)) 9))) 1 σ)) ++ (mC cI cZ h2 a2 ρ_4)))) := hD
              refine W.wide (k := ((0 + 1) + 1)) (n := ((0 + 6) + 17)) (by show ((0 + 1) + 1) + 0 ≤ ((0 + 1) + 1); omega) (by show ((0 + 6) + 17) + 0 ≤ ((0 + 6) + 17); omega) ?_
              refine lv_iload hx hb dL_act_373 (lv_at hl 4 rfl) ?_
              refine lv_icmp_ne (tgt := 382) hx hb dL_act_375 (by decide) (fun z => absurd (rfl) z) (fun c_375 => ?_)
              refine lv_iconst (v := 1) hx hb dL_act_378 (by decide) ?_
              refine lv_goto (tgt := 383) hx hb dL_act_379 (by decide) ?_
              refine W.wide (k := 2) (n := 23) (Nat.le_of_ble_eq_true rfl) (Nat.le_of_ble_eq_true rfl) ?_
              subst hQ
              exact yz ⟨(((n, (k + 1)), (putD k (nI (bel (x >>> (4 &&& 31)) n)) (nI (bel (x >>> (6 &&& 31)) n)) (nI (1 + (bel (x >>> (5 &&& 31)) 9))) 1 σ, ρ_4)), ((q.1.1, x9), (q.2.1, va_up q.2.2 k t9))), ⟨((hI.pD (by omega) (by omega) (Or.inr rfl) ⟨_, by omega, rfl⟩ (Or.inr ⟨_, by omega, rfl⟩)).mono (by omega)), by show n ≤ n; omega, by show n < 2 → n < n; omega⟩⟩ hx hb hr hlocks hK hP hD hS dL_act_383 (Or.inr rfl) rfl rfl
            · have hc_316 : k = 16 := (nI_eq (a := k) (b := 16) (by omega) (by omega)).mp c_316
              refine lv_iconst (v := 1) hx hb dL_act_319 (by decide) ?_
              refine W.wide (k := 2) (n := 23) (Nat.le_of_ble_eq_true rfl) (Nat.le_of_ble_eq_true rfl) ?_
              subst hQ
              exact yz ⟨(((n, k), (σ, τ)), q), ⟨(hI.mono (by omega)), by show n ≤ n; omega, by show n < 2 → n < n; omega⟩⟩ hx hb hr hlocks hK hP hD hS dL_act_320 (Or.inr rfl) rfl rfl
        · have hc_299 : (bel (x >>> (8 &&& 31)) 3) = 0 := (nI_eq (a := (bel (x >>> (8 &&& 31)) 3)) (b := 0) (by omega) (by omega)).mp c_299
          refine lv_iconst (v := (-1)) hx hb dL_act_302 (by decide) ?_
          refine lv_istore (lv' := [(7, .int (-1)), (8, .int (nI (1 + (bel (x >>> (5 &&& 31)) 9)))), (6, .int (nI (bel (x >>> (4 &&& 31)) n))), (5, .int (nI (bel x 14))), (4, .int (nI k)), (3, .int (nI n)), (0, .ref ob), (1, .ref sm), (2, .int x)]) hx hb dL_act_303 hl (by decide) rfl (fun ls hl => ?_)
          refine lv_iload hx hb dL_act_305 (lv_at hl 2 rfl) ?_
          refine lv_iload hx hb dL_act_307 (lv_at hl 0 rfl) ?_
          refine lv_icmp_eq (tgt := 319) hx hb dL_act_309 (by decide) (fun z => absurd z (nI_ne_m1 (by omega))) (fun c_309 => ?_)
          refine lv_iload hx hb dL_act_312 (lv_at hl 4 rfl) ?_
          refine lv_bipush (v := 16) hx hb dL_act_314 (by decide) ?_
          refine lv_icmp_ne (tgt := 321) hx hb dL_act_316 (by decide) (fun c_316 => ?_) (fun c_316 => ?_)
          · have hc_316 : ¬ k = 16 := fun z => c_316 ((nI_eq (a := k) (b := 16) (by omega) (by omega)).mpr z)
            refine lv_aload_n hx hb dL_act_321 rfl (lv_at hl 7 rfl) ?_
            refine lv_aload_n hx hb dL_act_322 rfl (lv_at hl 7 rfl) ?_
            refine s_get hx hb hts hown hK hP (σ := σ) (n := n) (k := k) (q := q) (sm := sm) (w0 := []) (w2 := (oC ob h h2) ++ ((mC cI cZ h a σ) ++ (mC cI cZ h2 a2 τ))) rfl 1 (by decide) q436 (v := .ref q.1.2) rfl dL_act_323 ?_
            refine lv_bipush (v := 6) hx hb dL_act_326 (by decide) ?_
            refine x_new (atype := .int) (ty := .int) rfl rfl ra_int hx hb (hts _ q96) hK hP hD hS hA 0 rfl (N' := 6) (by decide) (by decide) (by decide) (by show _ + 1 ≤ 2; omega) (by show _ + _ ≤ 23; omega) dL_act_328 (fun t9 H hP hD hS => ?_)
            obtain ⟨hP, hD⟩ := p_perm (b := tC cI t9 6 (fun _ => 0) ++ ((sC cI cL sm q σ n k) ++ ((oC ob h h2) ++ ((mC cI cZ h a σ) ++ (mC cI cZ h2 a2 τ))))) List.perm_append_comm hP hD
            have hP : va_P D vwCl ((tC cI t9 6 (fun _ => 0)) ++ ((sC cI cL sm q σ n k) ++ ((oC ob h h2) ++ ((mC cI cZ h a σ) ++ (mC cI cZ h2 a2 τ))))) H := hP
            have hD : va_D A ((tC cI t9 6 (fun _ => 0)) ++ ((sC cI cL sm q σ n k) ++ ((oC ob h h2) ++ ((mC cI cZ h a σ) ++ (mC cI cZ h2 a2 τ))))) := hD
            refine lv_dup hx hb dL_act_330 rfl ?_
            refine lv_iconst (v := 0) hx hb dL_act_331 (by decide) ?_
            refine lv_iload hx hb dL_act_332 (lv_at hl 2 rfl) ?_
            refine x_ist (ws2 := (tC cI t9 6 (upd (fun _ => 0) 0 (nI (bel (x >>> (4 &&& 31)) n)))) ++ ((sC cI cL sm q σ n k) ++ ((oC ob h h2) ++ ((mC cI cZ h a σ) ++ (mC cI cZ h2 a2 τ))))) hx hb hK hP hD hS 0 0 rfl rfl 0 (rfl) (by omega) (by decide) rfl dL_act_334 (fun H locs hP hD hS => ?_)
            refine lv_dup hx hb dL_act_335 rfl ?_
            refine lv_iconst (v := 1) hx hb dL_act_336 (by decide) ?_
            refine lv_iload hx hb dL_act_337 (lv_at hl 0 rfl) ?_
            refine x_ist (ws2 := (tC cI t9 6 (upd (upd (fun _ => 0) 0 (nI (bel (x >>> (4 &&& 31)) n))) 1 (-1))) ++ ((sC cI cL sm q σ n k) ++ ((oC ob h h2) ++ ((mC cI cZ h a σ) ++ (mC cI cZ h2 a2 τ))))) hx hb hK hP hD hS 0 0 rfl rfl 1 (rfl) (by omega) (by decide) rfl dL_act_339 (fun H locs hP hD hS => ?_)
            refine lv_dup hx hb dL_act_340 rfl ?_
            refine lv_iconst (v := 2) hx hb dL_act_341 (by decide) ?_
            refine lv_iload hx hb dL_act_342 (lv_at hl 1 rfl) ?_
            refine x_ist (ws2 := (tC cI t9 6 (upd (upd (upd (fun _ => 0) 0 (nI (bel (x >>> (4 &&& 31)) n))) 1 (-1)) 2 (nI (1 + (bel (x >>> (5 &&& 31)) 9))))) ++ ((sC cI cL sm q σ n k) ++ ((oC ob h h2) ++ ((mC cI cZ h a σ) ++ (mC cI cZ h2 a2 τ))))) hx hb hK hP hD hS 0 0 rfl rfl 2 (rfl) (by omega) (by decide) rfl dL_act_344 (fun H locs hP hD hS => ?_)
            refine lv_dup hx hb dL_act_345 rfl ?_
            refine lv_iconst (v := 3) hx hb dL_act_346 (by decide) ?_
            refine lv_iconst (v := 1) hx hb dL_act_347 (by decide) ?_
            refine x_ist (ws2 := (tC cI t9 6 (upd (upd (upd (upd (fun _ => 0) 0 (nI (bel (x >>> (4 &&& 31)) n))) 1 (-1)) 2 (nI (1 + (bel (x >>> (5 &&& 31)) 9)))) 3 1)) ++ ((sC cI cL sm q σ n k) ++ ((oC ob h h2) ++ ((mC cI cZ h a σ) ++ (mC cI cZ h2 a2 τ))))) hx hb hK hP hD hS 0 0 rfl rfl 3 (rfl) (by omega) (by decide) rfl dL_act_348 (fun H locs hP hD hS => ?_)
            refine lv_dup hx hb dL_act_349 rfl ?_
            refine lv_iconst (v := 4) hx hb dL_act_350 (by decide) ?_
            refine lv_iconst (v := 1) hx hb dL_act_351 (by decide) ?_
            refine x_ist (ws2 := (tC cI t9 6 (upd (upd (upd (upd (upd (fun _ => 0) 0 (nI (bel (x >>> (4 &&& 31)) n))) 1 (-1)) 2 (nI (1 + (bel (x >>> (5 &&& 31)) 9)))) 3 1) 4 1)) ++ ((sC cI cL sm q σ n k) ++ ((oC ob h h2) ++ ((mC cI cZ h a σ) ++ (mC cI cZ h2 a2 τ))))) hx hb hK hP hD hS 0 0 rfl rfl 4 (rfl) (by omega) (by decide) rfl dL_act_352 (fun H locs hP hD hS => ?_)
            refine lv_dup hx hb dL_act_353 rfl ?_
            refine lv_iconst (v := 5) hx hb dL_act_354 (by decide) ?_
            refine lv_iconst (v := 0) hx hb dL_act_355 (by decide) ?_
            refine x_ist (ws2 := (tC cI t9 6 (upd (upd (upd (upd (upd (upd (fun _ => 0) 0 (nI (bel (x >>> (4 &&& 31)) n))) 1 (-1)) 2 (nI (1 + (bel (x >>> (5 &&& 31)) 9)))) 3 1) 4 1) 5 0)) ++ ((sC cI cL sm q σ n k) ++ ((oC ob h h2) ++ ((mC cI cZ h a σ) ++ (mC cI cZ h2 a2 τ))))) hx hb hK hP hD hS 0 0 rfl rfl 5 (rfl) (by omega) (by decide) rfl dL_act_356 (fun H locs hP hD hS => ?_)
            refine s_growD cZ (σ := σ) (n := n) (k := k) (q := q) (w0 := []) (w2 := (oC ob h h2) ++ ((mC cI cZ h a σ) ++ (mC cI cZ h2 a2 τ))) (τ := putD k (nI (bel (x >>> (4 &&& 31)) n)) (-1) (nI (1 + (bel (x >>> (5 &&& 31)) 9))) 1 σ) hx hb hml hown hts hK hA hE q540 q436 (by simp only [List.append_assoc, List.append_nil, List.nil_append]) hP hD hS (by omega) (pD_row hI (by omega) _ _ _ _) (fun j hj => pD_d _ _ _ _ σ hj) (fun j _ => pD_f _ _ _ _ σ) (pD_11 _ _ _ _ σ (by decide)) (pD_11 _ _ _ _ σ (by decide)) (pD_11 _ _ _ _ σ (by decide)) hl.1 ⟨(Nat.le_of_ble_eq_true rfl), (Nat.le_of_ble_eq_true rfl)⟩ (Nat.le_of_ble_eq_true rfl) dL_act_357 dL_act_360 ⟨by show _ + 1 ≤ 2; omega, by show _ + 17 ≤ 23; omega⟩ (fun x9 H locs hP hD hS => ?_)
            have hP : va_P D vwCl ((sC cI cL sm ((q.1.1, x9), (q.2.1, va_up q.2.2 k t9)) (putD k (nI (bel (x >>> (4 &&& 31)) n)) (-1) (nI (1 + (bel (x >>> (5 &&& 31)) 9))) 1 σ) n (k + 1)) ++ ((oC ob h h2) ++ ((mC cI cZ h a σ) ++ (mC cI cZ h2 a2 τ)))) H := hP
            have hD : va_D A ((sC cI cL sm ((q.1.1, x9), (q.2.1, va_up q.2.2 k t9)) (putD k (nI (bel (x >>> (4 &&& 31)) n)) (-1) (nI (1 + (bel (x >>> (5 &&& 31)) 9))) 1 σ) n (k + 1)) ++ ((oC ob h h2) ++ ((mC cI cZ h a σ) ++ (mC cI cZ h2 a2 τ)))) := hD
            refine lv_aload_n hx hb dL_act_363 rfl (lv_at hl 6 rfl) ?_
            refine lv_iload hx hb dL_act_364 (lv_at hl 2 rfl) ?_
            refine lv_iload hx hb dL_act_366 (lv_at hl 0 rfl) ?_
            refine lv_iload hx hb dL_act_368 (lv_at hl 1 rfl) ?_
            refine MX.callV0 (C := RX1) (T := TX1) (N := 2) (As := [.int (nI (bel (x >>> (4 &&& 31)) n)), .int (-1), .int (nI (1 + (bel (x >>> (5 &&& 31)) 9)))]) (rest := []) (w0 := sC cI cL sm ((q.1.1, x9), (q.2.1, va_up q.2.2 k t9)) (putD k (nI (bel (x >>> (4 &&& 31)) n)) (-1) (nI (1 + (bel (x >>> (5 &&& 31)) 9))) 1 σ) n (k + 1)) (w2 := []) (wB := fun ρ => (sC cI cL sm ((q.1.1, x9), (q.2.1, va_up q.2.2 k t9)) (putD k (nI (bel (x >>> (4 &&& 31)) n)) (-1) (nI (1 + (bel (x >>> (5 &&& 31)) 9))) 1 σ) n (k + 1)) ++ ((oC ob h h2) ++ ((mC cI cZ h a (putD k (nI (bel (x >>> (4 &&& 31)) n)) (-1) (nI (1 + (bel (x >>> (5 &&& 31)) 9))) 1 σ)) ++ (mC cI cZ h2 a2 ρ)))) (c_X1_addPump_sd l D cI cZ cL ob h a h2 a2 σ τ hst (nI (bel (x >>> (4 &&& 31)) n)) (-1) (nI (1 + (bel (x >>> (5 &&& 31)) 9))) (hasF_0 hst (j := bel (x >>> (4 &&& 31)) n) (by omega)) rfl (nI_ne_m1 (by omega)) (inR_t 1 9 (by decide) (by omega) (by omega)) (by omega)) ⟨hx, hb, hml, hown, hts⟩ q579 b_X1_addPump (n := 3) (by decide +kernel) ⟨(Nat.le_of_ble_eq_true rfl), (Nat.le_of_ble_eq_true rfl)⟩ hK hP hD hS hA hE (by rw [List.append_nil]) (fun _ => by rw [List.append_nil]) (ci := 1) rfl rfl rfl hl.1 rfl (Nat.le_of_ble_eq_true rfl) dL_act_370 ⟨by show ((0 + 1) + 1) + 0 ≤ 2; omega, by show ((0 + 6) + 17) + 0 ≤ 23; omega⟩ (fun ρ_5 H locs hP hD hS => ?_)
            have hP : va_P D vwCl ((sC cI cL sm ((q.1.1, x9), (q.2.1, va_up q.2.2 k t9)) (putD k (nI (bel (x >>> (4 &&& 31)) n)) (-1) (nI (1 + (bel (x >>> (5 &&& 31)) 9))) 1 σ) n (k + 1)) ++ ((oC ob h h2) ++ ((mC cI cZ h a (putD k (nI (bel (x >>> (4 &&& 31)) n)) (-1) (nI (1 + (bel (x >>> (5 &&& 31)) 9))) 1 σ)) ++ (mC cI cZ h2 a2 ρ_5)))) H := hP
            have hD : va_D A ((sC cI cL sm ((q.1.1, x9), (q.2.1, va_up q.2.2 k t9)) (putD k (nI (bel (x >>> (4 &&& 31)) n)) (-1) (nI (1 + (bel (x >>> (5 &&& 31)) 9))) 1 σ) n (k + 1)) ++ ((oC ob h h2) ++ ((mC cI cZ h a (putD k (nI (bel (x >>> (4 &&& 31)) n)) (-1) (nI (1 + (bel (x >>> (5 &&& 31)) 9))) 1 σ)) ++ (mC cI cZ h2 a2 ρ_5)))) := hD
            refine W.wide (k := ((0 + 1) + 1)) (n := ((0 + 6) + 17)) (by show ((0 + 1) + 1) + 0 ≤ ((0 + 1) + 1); omega) (by show ((0 + 6) + 17) + 0 ≤ ((0 + 6) + 17); omega) ?_
            refine lv_iload hx hb dL_act_373 (lv_at hl 4 rfl) ?_
            refine lv_icmp_ne (tgt := 382) hx hb dL_act_375 (by decide) (fun z => absurd (rfl) z) (fun c_375 => ?_)
            refine lv_iconst (v := 1) hx hb dL_act_378 (by decide) ?_
            refine lv_goto (tgt := 383) hx hb dL_act_379 (by decide) ?_
            refine W.wide (k := 2) (n := 23) (Nat.le_of_ble_eq_true rfl) (Nat.le_of_ble_eq_true rfl) ?_
            subst hQ
            exact yz ⟨(((n, (k + 1)), (putD k (nI (bel (x >>> (4 &&& 31)) n)) (-1) (nI (1 + (bel (x >>> (5 &&& 31)) 9))) 1 σ, ρ_5)), ((q.1.1, x9), (q.2.1, va_up q.2.2 k t9))), ⟨((hI.pD (by omega) (by omega) (Or.inr rfl) ⟨_, by omega, rfl⟩ (Or.inl ⟨rfl, by decide⟩)).mono (by omega)), by show n ≤ n; omega, by show n < 2 → n < n; omega⟩⟩ hx hb hr hlocks hK hP hD hS dL_act_383 (Or.inr rfl) rfl rfl
          · have hc_316 : k = 16 := (nI_eq (a := k) (b := 16) (by omega) (by omega)).mp c_316
            refine lv_iconst (v := 1) hx hb dL_act_319 (by decide) ?_
            refine W.wide (k := 2) (n := 23) (Nat.le_of_ble_eq_true rfl) (Nat.le_of_ble_eq_true rfl) ?_
            subst hQ
            exact yz ⟨(((n, k), (σ, τ)), q), ⟨(hI.mono (by omega)), by show n ≤ n; omega, by show n < 2 → n < n; omega⟩⟩ hx hb hr hlocks hK hP hD hS dL_act_320 (Or.inr rfl) rfl rfl
      have T384 : W p l e rmL_act s m args below meth c H locs 0 0 Q (F0 m 384 ls []) := by
        refine lv_iload hx hb dL_act_384 (lv_at hl 4 rfl) ?_
        refine lv_if_ne (tgt := 391) hx hb dL_act_386 (by decide) (fun c_386 => ?_) (fun c_386 => ?_)
        · have hc_386 : ¬ k = 0 := fun z => c_386 ((nI_eq (a := k) (b := 0) (by omega) (by omega)).mpr z)
          refine lv_aload_n hx hb dL_act_391 rfl (lv_at hl 7 rfl) ?_
          refine s_get hx hb hts hown hK hP (σ := σ) (n := n) (k := k) (q := q) (sm := sm) (w0 := []) (w2 := (oC ob h h2) ++ ((mC cI cZ h a σ) ++ (mC cI cZ h2 a2 τ))) rfl 1 (by decide) q436 (v := .ref q.1.2) rfl dL_act_392 ?_
          refine lv_iload_n hx hb dL_act_395 rfl (lv_at hl 8 rfl) ?_
          refine lv_iconst (v := 4) hx hb dL_act_396 (by decide) ?_
          refine lv_ishr hx hb dL_act_397 ?_
          refine lv_iload hx hb dL_act_398 (lv_at hl 4 rfl) ?_
          refine MC.callS (As := [.int (x >>> (4 &&& 31)), .int (nI k)]) (rest := [.ref q.1.2]) (wB := (sC cI cL sm q σ n k) ++ ((oC ob h h2) ++ ((mC cI cZ h a σ) ++ (mC cI cZ h2 a2 τ)))) (c_L_below l D cI cZ cL (x >>> (4 &&& 31)) k (by omega) (by omega)) ⟨hx, hb, hml, hown, hts⟩ q529 b_L_below (n := 2) (by decide +kernel) ⟨Nat.le_of_ble_eq_true rfl, Nat.le_of_ble_eq_true rfl⟩ hK hP hD hS hA (spE _) (spE _) rfl hl.1 rfl (Nat.le_of_ble_eq_true rfl) dL_act_400 ⟨Nat.le_of_ble_eq_true rfl, Nat.le_of_ble_eq_true rfl⟩ (fun H locs hP hD hS => ?_)
          refine W.wide (k := 0) (n := 0) (Nat.le_refl _) (Nat.le_refl _) ?_
          have hb_400 : bel (x >>> (4 &&& 31)) k < k := bel_lt (by omega)
          refine s_alD hx hb hK hP (σ := σ) (n := n) (k := k) (q := q) (sm := sm) (w0 := []) (w2 := (oC ob h h2) ++ ((mC cI cZ h a σ) ++ (mC cI cZ h2 a2 τ))) rfl (bel (x >>> (4 &&& 31)) k) (rfl) (by omega) (by omega) dL_act_403 ?_
          refine lv_astore (lv' := [(9, .ref (q.2.2 (bel (x >>> (4 &&& 31)) k))), (8, .int (nI (1 + (bel (x >>> (5 &&& 31)) 9)))), (7, .int (nI (bel (x >>> (6 &&& 31)) n))), (6, .int (nI (bel (x >>> (4 &&& 31)) n))), (5, .int (nI (bel x 14))), (4, .int (nI k)), (3, .int (nI n)), (0, .ref ob), (1, .ref sm), (2, .int x)]) hx hb dL_act_404 hl (by decide) rfl (fun ls hl => ?_)
          refine lv_aload hx hb dL_act_406 (lv_at hl 0 rfl) ?_
          refine lv_iconst (v := 4) hx hb dL_act_408 (by decide) ?_
          refine lv_iconst (v := 1) hx hb dL_act_409 (by decide) ?_
          refine lv_aload hx hb dL_act_410 (lv_at hl 0 rfl) ?_
          refine lv_iconst (v := 4) hx hb dL_act_412 (by decide) ?_
          refine s_ldD hx hb hK hP (σ := σ) (n := n) (k := k) (q := q) (sm := sm) (w0 := []) (w2 := (oC ob h h2) ++ ((mC cI cZ h a σ) ++ (mC cI cZ h2 a2 τ))) rfl (bel (x >>> (4 &&& 31)) k) (by omega) 4 rfl (by decide) (v := σ 10 (bel (x >>> (4 &&& 31)) k)) rfl dL_act_413 ?_
          refine lv_isub hx hb dL_act_414 ?_
          refine s_stD hx hb hK hP hD hS (σ := σ) (n := n) (k := k) (q := q) (sm := sm) (w0 := []) (w2 := (oC ob h h2) ++ ((mC cI cZ h a σ) ++ (mC cI cZ h2 a2 τ))) rfl (bel (x >>> (4 &&& 31)) k) (by omega) 4 10 (by decide) rfl dL_act_415 (fun H locs hP hD hS => ?_)
          have hP : va_P D vwCl ((sC cI cL sm q (su σ 10 (bel (x >>> (4 &&& 31)) k) ((1 : Int32) - (σ 10 (bel (x >>> (4 &&& 31)) k)))) n k) ++ ((oC ob h h2) ++ ((mC cI cZ h a σ) ++ (mC cI cZ h2 a2 τ)))) H := hP
          have hD : va_D A ((sC cI cL sm q (su σ 10 (bel (x >>> (4 &&& 31)) k) ((1 : Int32) - (σ 10 (bel (x >>> (4 &&& 31)) k)))) n k) ++ ((oC ob h h2) ++ ((mC cI cZ h a σ) ++ (mC cI cZ h2 a2 τ)))) := hD
          rw [tu_is (k := k) hst_B (d := bel (x >>> (4 &&& 31)) k) (by omega)] at hP hD
          have hP : va_P D vwCl ((sC cI cL sm q (turnS σ (bel (x >>> (4 &&& 31)) k)) n k) ++ ((oC ob h h2) ++ ((mC cI cZ h a σ) ++ (mC cI cZ h2 a2 τ)))) H := hP
          have hD : va_D A ((sC cI cL sm q (turnS σ (bel (x >>> (4 &&& 31)) k)) n k) ++ ((oC ob h h2) ++ ((mC cI cZ h a σ) ++ (mC cI cZ h2 a2 τ)))) := hD
          refine lv_aload_n hx hb dL_act_416 rfl (lv_at hl 7 rfl) ?_
          refine lv_iload_n hx hb dL_act_417 rfl (lv_at hl 9 rfl) ?_
          refine lv_iconst (v := 4) hx hb dL_act_418 (by decide) ?_
          refine lv_ishr hx hb dL_act_419 ?_
          refine lv_iload hx hb dL_act_420 (lv_at hl 5 rfl) ?_
          refine MC.callS (As := [.int (x >>> (4 &&& 31)), .int (nI k)]) (rest := [.ref ob]) (wB := (sC cI cL sm q (turnS σ (bel (x >>> (4 &&& 31)) k)) n k) ++ ((oC ob h h2) ++ ((mC cI cZ h a σ) ++ (mC cI cZ h2 a2 τ)))) (c_L_below l D cI cZ cL (x >>> (4 &&& 31)) k (by omega) (by omega)) ⟨hx, hb, hml, hown, hts⟩ q529 b_L_below (n := 2) (by decide +kernel) ⟨Nat.le_of_ble_eq_true rfl, Nat.le_of_ble_eq_true rfl⟩ hK hP hD hS hA (spE _) (spE _) rfl hl.1 rfl (Nat.le_of_ble_eq_true rfl) dL_act_422 ⟨Nat.le_of_ble_eq_true rfl, Nat.le_of_ble_eq_true rfl⟩ (fun H locs hP hD hS => ?_)
          refine W.wide (k := 0) (n := 0) (Nat.le_refl _) (Nat.le_refl _) ?_
          have hb_422 : bel (x >>> (4 &&& 31)) k < k := bel_lt (by omega)
          refine MX.callV0 (C := RX1) (T := TX1) (N := 2) (As := [.int (nI (bel (x >>> (4 &&& 31)) k))]) (rest := []) (w0 := sC cI cL sm q (turnS σ (bel (x >>> (4 &&& 31)) k)) n k) (w2 := []) (wB := fun ρ => (sC cI cL sm q (turnS σ (bel (x >>> (4 &&& 31)) k)) n k) ++ ((oC ob h h2) ++ ((mC cI cZ h a (turnS σ (bel (x >>> (4 &&& 31)) k))) ++ (mC cI cZ h2 a2 ρ)))) (c_X1_turn l D cI cZ cL ob h a h2 a2 σ τ hst hst_B (bel (x >>> (4 &&& 31)) k) (by omega)) ⟨hx, hb, hml, hown, hts⟩ q583 b_X1_turn (n := 1) (by decide +kernel) ⟨(Nat.le_of_ble_eq_true rfl), (Nat.le_of_ble_eq_true rfl)⟩ hK hP hD hS hA hE (by rw [List.append_nil]) (fun _ => by rw [List.append_nil]) (ci := 1) rfl rfl rfl hl.1 rfl (Nat.le_of_ble_eq_true rfl) dL_act_425 ⟨by show 0 + 0 ≤ 2; omega, by show 0 + 0 ≤ 23; omega⟩ (fun ρ_6 H locs hP hD hS => ?_)
          have hP : va_P D vwCl ((sC cI cL sm q (turnS σ (bel (x >>> (4 &&& 31)) k)) n k) ++ ((oC ob h h2) ++ ((mC cI cZ h a (turnS σ (bel (x >>> (4 &&& 31)) k))) ++ (mC cI cZ h2 a2 ρ_6)))) H := hP
          have hD : va_D A ((sC cI cL sm q (turnS σ (bel (x >>> (4 &&& 31)) k)) n k) ++ ((oC ob h h2) ++ ((mC cI cZ h a (turnS σ (bel (x >>> (4 &&& 31)) k))) ++ (mC cI cZ h2 a2 ρ_6)))) := hD
          refine W.wide (k := 0) (n := 0) (Nat.le_refl _) (Nat.le_refl _) ?_
          refine lv_aload hx hb dL_act_428 (lv_at hl 0 rfl) ?_
          refine lv_iconst (v := 4) hx hb dL_act_430 (by decide) ?_
          refine s_ldD hx hb hK hP (σ := turnS σ (bel (x >>> (4 &&& 31)) k)) (n := n) (k := k) (q := q) (sm := sm) (w0 := []) (w2 := (oC ob h h2) ++ ((mC cI cZ h a (turnS σ (bel (x >>> (4 &&& 31)) k))) ++ (mC cI cZ h2 a2 ρ_6))) rfl (bel (x >>> (4 &&& 31)) k) (by omega) 4 rfl (by decide) (v := (turnS σ (bel (x >>> (4 &&& 31)) k)) 10 (bel (x >>> (4 &&& 31)) k)) rfl dL_act_431 ?_
          refine lv_iconst (v := 1) hx hb dL_act_432 (by decide) ?_
          refine lv_icmp_ne (tgt := 440) hx hb dL_act_433 (by decide) (fun c_433 => ?_) (fun c_433 => ?_)
          · refine lv_iconst (v := 0) hx hb dL_act_440 (by decide) ?_
            refine lv_icmp_ne (tgt := 448) hx hb dL_act_441 (by decide) (fun z => absurd (b01_0 ((hst_B.tu (bel (x >>> (4 &&& 31)) k)).2.2.2.2.2.2 (bel (x >>> (4 &&& 31)) k) (by omega)) c_433) z) (fun c_441 => ?_)
            refine lv_iconst (v := 1) hx hb dL_act_444 (by decide) ?_
            refine lv_goto (tgt := 449) hx hb dL_act_445 (by decide) ?_
            refine W.wide (k := 2) (n := 23) (Nat.le_of_ble_eq_true rfl) (Nat.le_of_ble_eq_true rfl) ?_
            subst hQ
            exact yz ⟨(((n, k), (turnS σ (bel (x >>> (4 &&& 31)) k), ρ_6)), q), ⟨((hI.tu _).mono (by omega)), by show n ≤ n; omega, by show n < 2 → n < n; omega⟩⟩ hx hb hr hlocks hK hP hD hS dL_act_449 (Or.inr rfl) rfl rfl
          · refine lv_iconst (v := 1) hx hb dL_act_436 (by decide) ?_
            refine lv_goto (tgt := 441) hx hb dL_act_437 (by decide) ?_
            refine lv_icmp_ne (tgt := 448) hx hb dL_act_441 (by decide) (fun z => absurd (c_433) z) (fun c_441 => ?_)
            refine lv_iconst (v := 1) hx hb dL_act_444 (by decide) ?_
            refine lv_goto (tgt := 449) hx hb dL_act_445 (by decide) ?_
            refine W.wide (k := 2) (n := 23) (Nat.le_of_ble_eq_true rfl) (Nat.le_of_ble_eq_true rfl) ?_
            subst hQ
            exact yz ⟨(((n, k), (turnS σ (bel (x >>> (4 &&& 31)) k), ρ_6)), q), ⟨((hI.tu _).mono (by omega)), by show n ≤ n; omega, by show n < 2 → n < n; omega⟩⟩ hx hb hr hlocks hK hP hD hS dL_act_449 (Or.inr rfl) rfl rfl
        · have hc_386 : k = 0 := (nI_eq (a := k) (b := 0) (by omega) (by omega)).mp c_386
          refine lv_iconst (v := 1) hx hb dL_act_389 (by decide) ?_
          refine W.wide (k := 2) (n := 23) (Nat.le_of_ble_eq_true rfl) (Nat.le_of_ble_eq_true rfl) ?_
          subst hQ
          exact yz ⟨(((n, k), (σ, τ)), q), ⟨(hI.mono (by omega)), by show n ≤ n; omega, by show n < 2 → n < n; omega⟩⟩ hx hb hr hlocks hK hP hD hS dL_act_390 (Or.inr rfl) rfl rfl
      have T450 : W p l e rmL_act s m args below meth c H locs 0 0 Q (F0 m 450 ls []) := by
        refine lv_aload_n hx hb dL_act_450 rfl (lv_at hl 7 rfl) ?_
        refine s_get hx hb hts hown hK hP (σ := σ) (n := n) (k := k) (q := q) (sm := sm) (w0 := []) (w2 := (oC ob h h2) ++ ((mC cI cZ h a σ) ++ (mC cI cZ h2 a2 τ))) rfl 2 (by decide) q438 (v := .int (σ 11 2)) rfl dL_act_451 ?_
        refine lv_istore (lv' := [(9, .int (σ 11 2)), (8, .int (nI (1 + (bel (x >>> (5 &&& 31)) 9)))), (7, .int (nI (bel (x >>> (6 &&& 31)) n))), (6, .int (nI (bel (x >>> (4 &&& 31)) n))), (5, .int (nI (bel x 14))), (4, .int (nI k)), (3, .int (nI n)), (0, .ref ob), (1, .ref sm), (2, .int x)]) hx hb dL_act_454 hl (by decide) rfl (fun ls hl => ?_)
        refine lv_aload_n hx hb dL_act_456 rfl (lv_at hl 8 rfl) ?_
        refine lv_iload_n hx hb dL_act_457 rfl (lv_at hl 9 rfl) ?_
        refine lv_iconst (v := 4) hx hb dL_act_458 (by decide) ?_
        refine lv_ishr hx hb dL_act_459 ?_
        refine lv_iload_n hx hb dL_act_460 rfl (lv_at hl 9 rfl) ?_
        refine lv_bipush (v := 7) hx hb dL_act_461 (by decide) ?_
        refine lv_ishr hx hb dL_act_463 ?_
        refine lv_iconst (v := 3) hx hb dL_act_464 (by decide) ?_
        refine MC.callS (As := [.int (x >>> (7 &&& 31)), .int 3]) (rest := [.int (x >>> (4 &&& 31)), .ref sm]) (wB := (sC cI cL sm q σ n k) ++ ((oC ob h h2) ++ ((mC cI cZ h a σ) ++ (mC cI cZ h2 a2 τ)))) (c_L_below l D cI cZ cL (x >>> (7 &&& 31)) 3 (by omega) (by omega)) ⟨hx, hb, hml, hown, hts⟩ q529 b_L_below (n := 2) (by decide +kernel) ⟨Nat.le_of_ble_eq_true rfl, Nat.le_of_ble_eq_true rfl⟩ hK hP hD hS hA (spE _) (spE _) rfl hl.1 rfl (Nat.le_of_ble_eq_true rfl) dL_act_465 ⟨Nat.le_of_ble_eq_true rfl, Nat.le_of_ble_eq_true rfl⟩ (fun H locs hP hD hS => ?_)
        refine W.wide (k := 0) (n := 0) (Nat.le_refl _) (Nat.le_refl _) ?_
        have hb_465 : bel (x >>> (7 &&& 31)) 3 < 3 := bel_lt (by omega)
        refine lv_if_ne (tgt := 476) hx hb dL_act_468 (by decide) (fun c_468 => ?_) (fun c_468 => ?_)
        · have hc_468 : ¬ (bel (x >>> (7 &&& 31)) 3) = 0 := fun z => c_468 ((nI_eq (a := (bel (x >>> (7 &&& 31)) 3)) (b := 0) (by omega) (by omega)).mpr z)
          refine lv_iconst (v := 3) hx hb dL_act_476 (by decide) ?_
          refine MC.callS (As := [.int (x >>> (4 &&& 31)), .int 3]) (rest := [.ref sm]) (wB := (sC cI cL sm q σ n k) ++ ((oC ob h h2) ++ ((mC cI cZ h a σ) ++ (mC cI cZ h2 a2 τ)))) (c_L_below l D cI cZ cL (x >>> (4 &&& 31)) 3 (by omega) (by omega)) ⟨hx, hb, hml, hown, hts⟩ q529 b_L_below (n := 2) (by decide +kernel) ⟨Nat.le_of_ble_eq_true rfl, Nat.le_of_ble_eq_true rfl⟩ hK hP hD hS hA (spE _) (spE _) rfl hl.1 rfl (Nat.le_of_ble_eq_true rfl) dL_act_477 ⟨Nat.le_of_ble_eq_true rfl, Nat.le_of_ble_eq_true rfl⟩ (fun H locs hP hD hS => ?_)
          refine W.wide (k := 0) (n := 0) (Nat.le_refl _) (Nat.le_refl _) ?_
          have hb_477 : bel (x >>> (4 &&& 31)) 3 < 3 := bel_lt (by omega)
          refine s_put hx hb hts hown hK hP hD hS (σ := σ) (n := n) (k := k) (q := q) (sm := sm) (w0 := []) (w2 := (oC ob h h2) ++ ((mC cI cZ h a σ) ++ (mC cI cZ h2 a2 τ))) rfl 2 2 (by decide) q438 dL_act_480 (fun H locs hP hD hS => ?_)
          have hP : va_P D vwCl ((sC cI cL sm q (sc σ 2 (nI (bel (x >>> (4 &&& 31)) 3))) n k) ++ ((oC ob h h2) ++ ((mC cI cZ h a σ) ++ (mC cI cZ h2 a2 τ)))) H := hP
          have hD : va_D A ((sC cI cL sm q (sc σ 2 (nI (bel (x >>> (4 &&& 31)) 3))) n k) ++ ((oC ob h h2) ++ ((mC cI cZ h a σ) ++ (mC cI cZ h2 a2 τ)))) := hD
          refine lv_aload_n hx hb dL_act_483 rfl (lv_at hl 7 rfl) ?_
          refine lv_aload_n hx hb dL_act_484 rfl (lv_at hl 8 rfl) ?_
          refine s_get hx hb hts hown hK hP (σ := sc σ 2 (nI (bel (x >>> (4 &&& 31)) 3))) (n := n) (k := k) (q := q) (sm := sm) (w0 := []) (w2 := (oC ob h h2) ++ ((mC cI cZ h a σ) ++ (mC cI cZ h2 a2 τ))) rfl 2 (by decide) q438 (v := .int ((sc σ 2 (nI (bel (x >>> (4 &&& 31)) 3))) 11 2)) rfl dL_act_485 ?_
          refine MX.callV0 (C := RX1) (T := TX1) (N := 2) (As := [.int (nI (bel (x >>> (4 &&& 31)) 3))]) (rest := []) (w0 := sC cI cL sm q (sc σ 2 (nI (bel (x >>> (4 &&& 31)) 3))) n k) (w2 := []) (wB := fun ρ => (sC cI cL sm q (sc σ 2 (nI (bel (x >>> (4 &&& 31)) 3))) n k) ++ ((oC ob h h2) ++ ((mC cI cZ h a (sc σ 2 (nI (bel (x >>> (4 &&& 31)) 3)))) ++ (mC cI cZ h2 a2 ρ)))) (c_X1_setRain l D cI cZ cL ob h a h2 a2 σ τ (nI (bel (x >>> (4 &&& 31)) 3)) (inR_t 0 9 (by decide) (Nat.zero_le _) (by omega))) ⟨hx, hb, hml, hown, hts⟩ q587 b_X1_setRain (n := 1) (by decide +kernel) ⟨(Nat.le_of_ble_eq_true rfl), (Nat.le_of_ble_eq_true rfl)⟩ hK hP hD hS hA hE (by rw [List.append_nil]) (fun _ => by rw [List.append_nil]) (ci := 1) rfl rfl rfl hl.1 rfl (Nat.le_of_ble_eq_true rfl) dL_act_488 ⟨by show 0 + 0 ≤ 2; omega, by show 0 + 0 ≤ 23; omega⟩ (fun ρ_7 H locs hP hD hS => ?_)
          have hP : va_P D vwCl ((sC cI cL sm q (sc σ 2 (nI (bel (x >>> (4 &&& 31)) 3))) n k) ++ ((oC ob h h2) ++ ((mC cI cZ h a (sc σ 2 (nI (bel (x >>> (4 &&& 31)) 3)))) ++ (mC cI cZ h2 a2 ρ_7)))) H := hP
          have hD : va_D A ((sC cI cL sm q (sc σ 2 (nI (bel (x >>> (4 &&& 31)) 3))) n k) ++ ((oC ob h h2) ++ ((mC cI cZ h a (sc σ 2 (nI (bel (x >>> (4 &&& 31)) 3)))) ++ (mC cI cZ h2 a2 ρ_7)))) := hD
          refine W.wide (k := 0) (n := 0) (Nat.le_refl _) (Nat.le_refl _) ?_
          refine lv_iload hx hb dL_act_491 (lv_at hl 0 rfl) ?_
          refine lv_icmp_ne (tgt := 500) hx hb dL_act_493 (by decide) (fun z => absurd (rfl) z) (fun c_493 => ?_)
          refine lv_iconst (v := 1) hx hb dL_act_496 (by decide) ?_
          refine lv_goto (tgt := 501) hx hb dL_act_497 (by decide) ?_
          refine W.wide (k := 2) (n := 23) (Nat.le_of_ble_eq_true rfl) (Nat.le_of_ble_eq_true rfl) ?_
          subst hQ
          exact yz ⟨(((n, k), (sc σ 2 (nI (bel (x >>> (4 &&& 31)) 3)), ρ_7)), q), ⟨((hI.ra (by omega)).mono (by omega)), by show n ≤ n; omega, by show n < 2 → n < n; omega⟩⟩ hx hb hr hlocks hK hP hD hS dL_act_501 (Or.inr rfl) rfl rfl
        · have hc_468 : (bel (x >>> (7 &&& 31)) 3) = 0 := (nI_eq (a := (bel (x >>> (7 &&& 31)) 3)) (b := 0) (by omega) (by omega)).mp c_468
          refine lv_bipush (v := 10) hx hb dL_act_471 (by decide) ?_
          refine lv_goto (tgt := 477) hx hb dL_act_473 (by decide) ?_
          refine MC.callS (As := [.int (x >>> (4 &&& 31)), .int 10]) (rest := [.ref sm]) (wB := (sC cI cL sm q σ n k) ++ ((oC ob h h2) ++ ((mC cI cZ h a σ) ++ (mC cI cZ h2 a2 τ)))) (c_L_below l D cI cZ cL (x >>> (4 &&& 31)) 10 (by omega) (by omega)) ⟨hx, hb, hml, hown, hts⟩ q529 b_L_below (n := 2) (by decide +kernel) ⟨Nat.le_of_ble_eq_true rfl, Nat.le_of_ble_eq_true rfl⟩ hK hP hD hS hA (spE _) (spE _) rfl hl.1 rfl (Nat.le_of_ble_eq_true rfl) dL_act_477 ⟨Nat.le_of_ble_eq_true rfl, Nat.le_of_ble_eq_true rfl⟩ (fun H locs hP hD hS => ?_)
          refine W.wide (k := 0) (n := 0) (Nat.le_refl _) (Nat.le_refl _) ?_
          have hb_477 : bel (x >>> (4 &&& 31)) 10 < 10 := bel_lt (by omega)
          refine s_put hx hb hts hown hK hP hD hS (σ := σ) (n := n) (k := k) (q := q) (sm := sm) (w0 := []) (w2 := (oC ob h h2) ++ ((mC cI cZ h a σ) ++ (mC cI cZ h2 a2 τ))) rfl 2 2 (by decide) q438 dL_act_480 (fun H locs hP hD hS => ?_)
          have hP : va_P D vwCl ((sC cI cL sm q (sc σ 2 (nI (bel (x >>> (4 &&& 31)) 10))) n k) ++ ((oC ob h h2) ++ ((mC cI cZ h a σ) ++ (mC cI cZ h2 a2 τ)))) H := hP
          have hD : va_D A ((sC cI cL sm q (sc σ 2 (nI (bel (x >>> (4 &&& 31)) 10))) n k) ++ ((oC ob h h2) ++ ((mC cI cZ h a σ) ++ (mC cI cZ h2 a2 τ)))) := hD
          refine lv_aload_n hx hb dL_act_483 rfl (lv_at hl 7 rfl) ?_
          refine lv_aload_n hx hb dL_act_484 rfl (lv_at hl 8 rfl) ?_
          refine s_get hx hb hts hown hK hP (σ := sc σ 2 (nI (bel (x >>> (4 &&& 31)) 10))) (n := n) (k := k) (q := q) (sm := sm) (w0 := []) (w2 := (oC ob h h2) ++ ((mC cI cZ h a σ) ++ (mC cI cZ h2 a2 τ))) rfl 2 (by decide) q438 (v := .int ((sc σ 2 (nI (bel (x >>> (4 &&& 31)) 10))) 11 2)) rfl dL_act_485 ?_
          refine MX.callV0 (C := RX1) (T := TX1) (N := 2) (As := [.int (nI (bel (x >>> (4 &&& 31)) 10))]) (rest := []) (w0 := sC cI cL sm q (sc σ 2 (nI (bel (x >>> (4 &&& 31)) 10))) n k) (w2 := []) (wB := fun ρ => (sC cI cL sm q (sc σ 2 (nI (bel (x >>> (4 &&& 31)) 10))) n k) ++ ((oC ob h h2) ++ ((mC cI cZ h a (sc σ 2 (nI (bel (x >>> (4 &&& 31)) 10)))) ++ (mC cI cZ h2 a2 ρ)))) (c_X1_setRain l D cI cZ cL ob h a h2 a2 σ τ (nI (bel (x >>> (4 &&& 31)) 10)) (inR_t 0 9 (by decide) (Nat.zero_le _) (by omega))) ⟨hx, hb, hml, hown, hts⟩ q587 b_X1_setRain (n := 1) (by decide +kernel) ⟨(Nat.le_of_ble_eq_true rfl), (Nat.le_of_ble_eq_true rfl)⟩ hK hP hD hS hA hE (by rw [List.append_nil]) (fun _ => by rw [List.append_nil]) (ci := 1) rfl rfl rfl hl.1 rfl (Nat.le_of_ble_eq_true rfl) dL_act_488 ⟨by show 0 + 0 ≤ 2; omega, by show 0 + 0 ≤ 23; omega⟩ (fun ρ_8 H locs hP hD hS => ?_)
          have hP : va_P D vwCl ((sC cI cL sm q (sc σ 2 (nI (bel (x >>> (4 &&& 31)) 10))) n k) ++ ((oC ob h h2) ++ ((mC cI cZ h a (sc σ 2 (nI (bel (x >>> (4 &&& 31)) 10)))) ++ (mC cI cZ h2 a2 ρ_8)))) H := hP
          have hD : va_D A ((sC cI cL sm q (sc σ 2 (nI (bel (x >>> (4 &&& 31)) 10))) n k) ++ ((oC ob h h2) ++ ((mC cI cZ h a (sc σ 2 (nI (bel (x >>> (4 &&& 31)) 10)))) ++ (mC cI cZ h2 a2 ρ_8)))) := hD
          refine W.wide (k := 0) (n := 0) (Nat.le_refl _) (Nat.le_refl _) ?_
          refine lv_iload hx hb dL_act_491 (lv_at hl 0 rfl) ?_
          refine lv_icmp_ne (tgt := 500) hx hb dL_act_493 (by decide) (fun z => absurd (rfl) z) (fun c_493 => ?_)
          refine lv_iconst (v := 1) hx hb dL_act_496 (by decide) ?_
          refine lv_goto (tgt := 501) hx hb dL_act_497 (by decide) ?_
          refine W.wide (k := 2) (n := 23) (Nat.le_of_ble_eq_true rfl) (Nat.le_of_ble_eq_true rfl) ?_
          subst hQ
          exact yz ⟨(((n, k), (sc σ 2 (nI (bel (x >>> (4 &&& 31)) 10)), ρ_8)), q), ⟨((hI.ra (by omega)).mono (by omega)), by show n ≤ n; omega, by show n < 2 → n < n; omega⟩⟩ hx hb hr hlocks hK hP hD hS dL_act_501 (Or.inr rfl) rfl rfl
      have T502 : W p l e rmL_act s m args below meth c H locs 0 0 Q (F0 m 502 ls []) := by
        refine lv_iconst (v := 1) hx hb dL_act_502 (by decide) ?_
        refine lv_iload_n hx hb dL_act_503 rfl (lv_at hl 8 rfl) ?_
        refine lv_iconst (v := 5) hx hb dL_act_504 (by decide) ?_
        refine lv_ishr hx hb dL_act_505 ?_
        refine lv_iload_n hx hb dL_act_506 rfl (lv_at hl 8 rfl) ?_
        refine lv_bipush (v := 9) hx hb dL_act_507 (by decide) ?_
        refine lv_ishr hx hb dL_act_509 ?_
        refine lv_iconst (v := 2) hx hb dL_act_510 (by decide) ?_
        refine MC.callS (As := [.int (x >>> (9 &&& 31)), .int 2]) (rest := [.int (x >>> (5 &&& 31)), .int 1]) (wB := (sC cI cL sm q σ n k) ++ ((oC ob h h2) ++ ((mC cI cZ h a σ) ++ (mC cI cZ h2 a2 τ)))) (c_L_below l D cI cZ cL (x >>> (9 &&& 31)) 2 (by omega) (by omega)) ⟨hx, hb, hml, hown, hts⟩ q529 b_L_below (n := 2) (by decide +kernel) ⟨Nat.le_of_ble_eq_true rfl, Nat.le_of_ble_eq_true rfl⟩ hK hP hD hS hA (spE _) (spE _) rfl hl.1 rfl (Nat.le_of_ble_eq_true rfl) dL_act_511 ⟨Nat.le_of_ble_eq_true rfl, Nat.le_of_ble_eq_true rfl⟩ (fun H locs hP hD hS => ?_)
        refine W.wide (k := 0) (n := 0) (Nat.le_refl _) (Nat.le_refl _) ?_
        have hb_511 : bel (x >>> (9 &&& 31)) 2 < 2 := bel_lt (by omega)
        refine lv_if_ne (tgt := 522) hx hb dL_act_514 (by decide) (fun c_514 => ?_) (fun c_514 => ?_)
        · have hc_514 : ¬ (bel (x >>> (9 &&& 31)) 2) = 0 := fun z => c_514 ((nI_eq (a := (bel (x >>> (9 &&& 31)) 2)) (b := 0) (by omega) (by omega)).mpr z)
          refine lv_bipush (v := 8) hx hb dL_act_522 (by decide) ?_
          refine MC.callS (As := [.int (x >>> (5 &&& 31)), .int 8]) (rest := [.int 1]) (wB := (sC cI cL sm q σ n k) ++ ((oC ob h h2) ++ ((mC cI cZ h a σ) ++ (mC cI cZ h2 a2 τ)))) (c_L_below l D cI cZ cL (x >>> (5 &&& 31)) 8 (by omega) (by omega)) ⟨hx, hb, hml, hown, hts⟩ q529 b_L_below (n := 2) (by decide +kernel) ⟨Nat.le_of_ble_eq_true rfl, Nat.le_of_ble_eq_true rfl⟩ hK hP hD hS hA (spE _) (spE _) rfl hl.1 rfl (Nat.le_of_ble_eq_true rfl) dL_act_524 ⟨Nat.le_of_ble_eq_true rfl, Nat.le_of_ble_eq_true rfl⟩ (fun H locs hP hD hS => ?_)
          refine W.wide (k := 0) (n := 0) (Nat.le_refl _) (Nat.le_refl _) ?_
          have hb_524 : bel (x >>> (5 &&& 31)) 8 < 8 := bel_lt (by omega)
          refine lv_iadd hx hb dL_act_527 ?_
          refine x_top (nI_add 1 (bel (x >>> (5 &&& 31)) 8)) ?_
          refine lv_istore (lv' := [(9, .int (nI (1 + (bel (x >>> (5 &&& 31)) 8)))), (8, .int (nI (1 + (bel (x >>> (5 &&& 31)) 9)))), (7, .int (nI (bel (x >>> (6 &&& 31)) n))), (6, .int (nI (bel (x >>> (4 &&& 31)) n))), (5, .int (nI (bel x 14))), (4, .int (nI k)), (3, .int (nI n)), (0, .ref ob), (1, .ref sm), (2, .int x)]) hx hb dL_act_528 hl (by decide) rfl (fun ls hl => ?_)
          refine lv_aload_n hx hb dL_act_530 rfl (lv_at hl 8 rfl) ?_
          refine s_get hx hb hts hown hK hP (σ := σ) (n := n) (k := k) (q := q) (sm := sm) (w0 := []) (w2 := (oC ob h h2) ++ ((mC cI cZ h a σ) ++ (mC cI cZ h2 a2 τ))) rfl 0 (by decide) q434 (v := .ref q.1.1) rfl dL_act_531 ?_
          refine lv_iload hx hb dL_act_534 (lv_at hl 3 rfl) ?_
          refine s_alF hx hb hK hP (σ := σ) (n := n) (k := k) (q := q) (sm := sm) (w0 := []) (w2 := (oC ob h h2) ++ ((mC cI cZ h a σ) ++ (mC cI cZ h2 a2 τ))) rfl (bel (x >>> (4 &&& 31)) n) (rfl) (by omega) (by omega) dL_act_536 ?_
          refine lv_iconst (v := 2) hx hb dL_act_537 (by decide) ?_
          refine lv_dup2_11 hx hb dL_act_538 rfl rfl ?_
          refine s_ldF hx hb hK hP (σ := σ) (n := n) (k := k) (q := q) (sm := sm) (w0 := []) (w2 := (oC ob h h2) ++ ((mC cI cZ h a σ) ++ (mC cI cZ h2 a2 τ))) rfl (bel (x >>> (4 &&& 31)) n) (by omega) 2 rfl (by decide) (v := σ 2 (bel (x >>> (4 &&& 31)) n)) rfl dL_act_539 ?_
          refine lv_iload hx hb dL_act_540 (lv_at hl 0 rfl) ?_
          refine lv_iadd hx hb dL_act_542 ?_
          refine s_stF hx hb hK hP hD hS (σ := σ) (n := n) (k := k) (q := q) (sm := sm) (w0 := []) (w2 := (oC ob h h2) ++ ((mC cI cZ h a σ) ++ (mC cI cZ h2 a2 τ))) rfl (bel (x >>> (4 &&& 31)) n) (by omega) 2 rfl (by decide) dL_act_543 (fun H locs hP hD hS => ?_)
          have hP : va_P D vwCl ((sC cI cL sm q (su σ 2 (bel (x >>> (4 &&& 31)) n) ((σ 2 (bel (x >>> (4 &&& 31)) n)) + (nI (1 + (bel (x >>> (5 &&& 31)) 8))))) n k) ++ ((oC ob h h2) ++ ((mC cI cZ h a σ) ++ (mC cI cZ h2 a2 τ)))) H := hP
          have hD : va_D A ((sC cI cL sm q (su σ 2 (bel (x >>> (4 &&& 31)) n) ((σ 2 (bel (x >>> (4 &&& 31)) n)) + (nI (1 + (bel (x >>> (5 &&& 31)) 8))))) n k) ++ ((oC ob h h2) ++ ((mC cI cZ h a σ) ++ (mC cI cZ h2 a2 τ)))) := hD
          refine lv_aload_n hx hb dL_act_544 rfl (lv_at hl 7 rfl) ?_
          refine lv_iload hx hb dL_act_545 (lv_at hl 3 rfl) ?_
          refine lv_iload hx hb dL_act_547 (lv_at hl 0 rfl) ?_
          refine MX.callV0 (C := RX1) (T := TX1) (N := 2) (As := [.int (nI (bel (x >>> (4 &&& 31)) n)), .int (nI (1 + (bel (x >>> (5 &&& 31)) 8)))]) (rest := []) (w0 := sC cI cL sm q (su σ 2 (bel (x >>> (4 &&& 31)) n) ((σ 2 (bel (x >>> (4 &&& 31)) n)) + (nI (1 + (bel (x >>> (5 &&& 31)) 8))))) n k) (w2 := []) (wB := fun ρ => (sC cI cL sm q (su σ 2 (bel (x >>> (4 &&& 31)) n) ((σ 2 (bel (x >>> (4 &&& 31)) n)) + (nI (1 + (bel (x >>> (5 &&& 31)) 8))))) n k) ++ ((oC ob h h2) ++ ((mC cI cZ h a (addW σ (bel (x >>> (4 &&& 31)) n) (nI (1 + (bel (x >>> (5 &&& 31)) 8))))) ++ (mC cI cZ h2 a2 ρ)))) (c_X1_flood l D cI cZ cL ob h a h2 a2 σ τ hst (bel (x >>> (4 &&& 31)) n) (by omega) (nI (1 + (bel (x >>> (5 &&& 31)) 8))) (inR_t 1 50 (by decide) (by omega) (by omega))) ⟨hx, hb, hml, hown, hts⟩ q591 b_X1_flood (n := 2) (by decide +kernel) ⟨(Nat.le_of_ble_eq_true rfl), (Nat.le_of_ble_eq_true rfl)⟩ hK hP hD hS hA hE (by rw [List.append_nil]) (fun _ => by rw [List.append_nil]) (ci := 1) rfl rfl rfl hl.1 rfl (Nat.le_of_ble_eq_true rfl) dL_act_549 ⟨by show 0 + 0 ≤ 2; omega, by show 0 + 0 ≤ 23; omega⟩ (fun ρ_9 H locs hP hD hS => ?_)
          have hP : va_P D vwCl ((sC cI cL sm q (su σ 2 (bel (x >>> (4 &&& 31)) n) ((σ 2 (bel (x >>> (4 &&& 31)) n)) + (nI (1 + (bel (x >>> (5 &&& 31)) 8))))) n k) ++ ((oC ob h h2) ++ ((mC cI cZ h a (addW σ (bel (x >>> (4 &&& 31)) n) (nI (1 + (bel (x >>> (5 &&& 31)) 8))))) ++ (mC cI cZ h2 a2 ρ_9)))) H := hP
          have hD : va_D A ((sC cI cL sm q (su σ 2 (bel (x >>> (4 &&& 31)) n) ((σ 2 (bel (x >>> (4 &&& 31)) n)) + (nI (1 + (bel (x >>> (5 &&& 31)) 8))))) n k) ++ ((oC ob h h2) ++ ((mC cI cZ h a (addW σ (bel (x >>> (4 &&& 31)) n) (nI (1 + (bel (x >>> (5 &&& 31)) 8))))) ++ (mC cI cZ h2 a2 ρ_9)))) := hD
          refine W.wide (k := 0) (n := 0) (Nat.le_refl _) (Nat.le_refl _) ?_
          refine lv_aload_n hx hb dL_act_552 rfl (lv_at hl 8 rfl) ?_
          refine s_get hx hb hts hown hK hP (σ := su σ 2 (bel (x >>> (4 &&& 31)) n) ((σ 2 (bel (x >>> (4 &&& 31)) n)) + (nI (1 + (bel (x >>> (5 &&& 31)) 8))))) (n := n) (k := k) (q := q) (sm := sm) (w0 := []) (w2 := (oC ob h h2) ++ ((mC cI cZ h a (addW σ (bel (x >>> (4 &&& 31)) n) (nI (1 + (bel (x >>> (5 &&& 31)) 8))))) ++ (mC cI cZ h2 a2 ρ_9))) rfl 0 (by decide) q434 (v := .ref q.1.1) rfl dL_act_553 ?_
          refine lv_iload hx hb dL_act_556 (lv_at hl 3 rfl) ?_
          refine s_alF hx hb hK hP (σ := su σ 2 (bel (x >>> (4 &&& 31)) n) ((σ 2 (bel (x >>> (4 &&& 31)) n)) + (nI (1 + (bel (x >>> (5 &&& 31)) 8))))) (n := n) (k := k) (q := q) (sm := sm) (w0 := []) (w2 := (oC ob h h2) ++ ((mC cI cZ h a (addW σ (bel (x >>> (4 &&& 31)) n) (nI (1 + (bel (x >>> (5 &&& 31)) 8))))) ++ (mC cI cZ h2 a2 ρ_9))) rfl (bel (x >>> (4 &&& 31)) n) (rfl) (by omega) (by omega) dL_act_558 ?_
          refine lv_iconst (v := 2) hx hb dL_act_559 (by decide) ?_
          refine s_ldF hx hb hK hP (σ := su σ 2 (bel (x >>> (4 &&& 31)) n) ((σ 2 (bel (x >>> (4 &&& 31)) n)) + (nI (1 + (bel (x >>> (5 &&& 31)) 8))))) (n := n) (k := k) (q := q) (sm := sm) (w0 := []) (w2 := (oC ob h h2) ++ ((mC cI cZ h a (addW σ (bel (x >>> (4 &&& 31)) n) (nI (1 + (bel (x >>> (5 &&& 31)) 8))))) ++ (mC cI cZ h2 a2 ρ_9))) rfl (bel (x >>> (4 &&& 31)) n) (by omega) 2 rfl (by decide) (v := (su σ 2 (bel (x >>> (4 &&& 31)) n) ((σ 2 (bel (x >>> (4 &&& 31)) n)) + (nI (1 + (bel (x >>> (5 &&& 31)) 8))))) 2 (bel (x >>> (4 &&& 31)) n)) rfl dL_act_560 ?_
          refine lv_icmp_ne (tgt := 568) hx hb dL_act_561 (by decide) (fun z => absurd (rfl) z) (fun c_561 => ?_)
          refine lv_iconst (v := 1) hx hb dL_act_564 (by decide) ?_
          refine lv_goto (tgt := 569) hx hb dL_act_565 (by decide) ?_
          refine W.wide (k := 2) (n := 23) (Nat.le_of_ble_eq_true rfl) (Nat.le_of_ble_eq_true rfl) ?_
          subst hQ
          exact yz ⟨(((n, k), (addW σ (bel (x >>> (4 &&& 31)) n) (nI (1 + (bel (x >>> (5 &&& 31)) 8))), ρ_9)), q), ⟨((hI.fl (by omega) (by omega)).mono (by omega)), by show n ≤ n; omega, by show n < 2 → n < n; omega⟩⟩ hx hb hr hlocks hK hP hD hS dL_act_569 (Or.inr rfl) rfl rfl
        · have hc_514 : (bel (x >>> (9 &&& 31)) 2) = 0 := (nI_eq (a := (bel (x >>> (9 &&& 31)) 2)) (b := 0) (by omega) (by omega)).mp c_514
          refine lv_bipush (v := 50) hx hb dL_act_517 (by decide) ?_
          refine lv_goto (tgt := 524) hx hb dL_act_519 (by decide) ?_
          refine MC.callS (As := [.int (x >>> (5 &&& 31)), .int 50]) (rest := [.int 1]) (wB := (sC cI cL sm q σ n k) ++ ((oC ob h h2) ++ ((mC cI cZ h a σ) ++ (mC cI cZ h2 a2 τ)))) (c_L_below l D cI cZ cL (x >>> (5 &&& 31)) 50 (by omega) (by omega)) ⟨hx, hb, hml, hown, hts⟩ q529 b_L_below (n := 2) (by decide +kernel) ⟨Nat.le_of_ble_eq_true rfl, Nat.le_of_ble_eq_true rfl⟩ hK hP hD hS hA (spE _) (spE _) rfl hl.1 rfl (Nat.le_of_ble_eq_true rfl) dL_act_524 ⟨Nat.le_of_ble_eq_true rfl, Nat.le_of_ble_eq_true rfl⟩ (fun H locs hP hD hS => ?_)
          refine W.wide (k := 0) (n := 0) (Nat.le_refl _) (Nat.le_refl _) ?_
          have hb_524 : bel (x >>> (5 &&& 31)) 50 < 50 := bel_lt (by omega)
          refine lv_iadd hx hb dL_act_527 ?_
          refine x_top (nI_add 1 (bel (x >>> (5 &&& 31)) 50)) ?_
          refine lv_istore (lv' := [(9, .int (nI (1 + (bel (x >>> (5 &&& 31)) 50)))), (8, .int (nI (1 + (bel (x >>> (5 &&& 31)) 9)))), (7, .int (nI (bel (x >>> (6 &&& 31)) n))), (6, .int (nI (bel (x >>> (4 &&& 31)) n))), (5, .int (nI (bel x 14))), (4, .int (nI k)), (3, .int (nI n)), (0, .ref ob), (1, .ref sm), (2, .int x)]) hx hb dL_act_528 hl (by decide) rfl (fun ls hl => ?_)
          refine lv_aload_n hx hb dL_act_530 rfl (lv_at hl 8 rfl) ?_
          refine s_get hx hb hts hown hK hP (σ := σ) (n := n) (k := k) (q := q) (sm := sm) (w0 := []) (w2 := (oC ob h h2) ++ ((mC cI cZ h a σ) ++ (mC cI cZ h2 a2 τ))) rfl 0 (by decide) q434 (v := .ref q.1.1) rfl dL_act_531 ?_
          refine lv_iload hx hb dL_act_534 (lv_at hl 3 rfl) ?_
          refine s_alF hx hb hK hP (σ := σ) (n := n) (k := k) (q := q) (sm := sm) (w0 := []) (w2 := (oC ob h h2) ++ ((mC cI cZ h a σ) ++ (mC cI cZ h2 a2 τ))) rfl (bel (x >>> (4 &&& 31)) n) (rfl) (by omega) (by omega) dL_act_536 ?_
          refine lv_iconst (v := 2) hx hb dL_act_537 (by decide) ?_
          refine lv_dup2_11 hx hb dL_act_538 rfl rfl ?_
          refine s_ldF hx hb hK hP (σ := σ) (n := n) (k := k) (q := q) (sm := sm) (w0 := []) (w2 := (oC ob h h2) ++ ((mC cI cZ h a σ) ++ (mC cI cZ h2 a2 τ))) rfl (bel (x >>> (4 &&& 31)) n) (by omega) 2 rfl (by decide) (v := σ 2 (bel (x >>> (4 &&& 31)) n)) rfl dL_act_539 ?_
          refine lv_iload hx hb dL_act_540 (lv_at hl 0 rfl) ?_
          refine lv_iadd hx hb dL_act_542 ?_
          refine s_stF hx hb hK hP hD hS (σ := σ) (n := n) (k := k) (q := q) (sm := sm) (w0 := []) (w2 := (oC ob h h2) ++ ((mC cI cZ h a σ) ++ (mC cI cZ h2 a2 τ))) rfl (bel (x >>> (4 &&& 31)) n) (by omega) 2 rfl (by decide) dL_act_543 (fun H locs hP hD hS => ?_)
          have hP : va_P D vwCl ((sC cI cL sm q (su σ 2 (bel (x >>> (4 &&& 31)) n) ((σ 2 (bel (x >>> (4 &&& 31)) n)) + (nI (1 + (bel (x >>> (5 &&& 31)) 50))))) n k) ++ ((oC ob h h2) ++ ((mC cI cZ h a σ) ++ (mC cI cZ h2 a2 τ)))) H := hP
          have hD : va_D A ((sC cI cL sm q (su σ 2 (bel (x >>> (4 &&& 31)) n) ((σ 2 (bel (x >>> (4 &&& 31)) n)) + (nI (1 + (bel (x >>> (5 &&& 31)) 50))))) n k) ++ ((oC ob h h2) ++ ((mC cI cZ h a σ) ++ (mC cI cZ h2 a2 τ)))) := hD
          refine lv_aload_n hx hb dL_act_544 rfl (lv_at hl 7 rfl) ?_
          refine lv_iload hx hb dL_act_545 (lv_at hl 3 rfl) ?_
          refine lv_iload hx hb dL_act_547 (lv_at hl 0 rfl) ?_
          refine MX.callV0 (C := RX1) (T := TX1) (N := 2) (As := [.int (nI (bel (x >>> (4 &&& 31)) n)), .int (nI (1 + (bel (x >>> (5 &&& 31)) 50)))]) (rest := []) (w0 := sC cI cL sm q (su σ 2 (bel (x >>> (4 &&& 31)) n) ((σ 2 (bel (x >>> (4 &&& 31)) n)) + (nI (1 + (bel (x >>> (5 &&& 31)) 50))))) n k) (w2 := []) (wB := fun ρ => (sC cI cL sm q (su σ 2 (bel (x >>> (4 &&& 31)) n) ((σ 2 (bel (x >>> (4 &&& 31)) n)) + (nI (1 + (bel (x >>> (5 &&& 31)) 50))))) n k) ++ ((oC ob h h2) ++ ((mC cI cZ h a (addW σ (bel (x >>> (4 &&& 31)) n) (nI (1 + (bel (x >>> (5 &&& 31)) 50))))) ++ (mC cI cZ h2 a2 ρ)))) (c_X1_flood l D cI cZ cL ob h a h2 a2 σ τ hst (bel (x >>> (4 &&& 31)) n) (by omega) (nI (1 + (bel (x >>> (5 &&& 31)) 50))) (inR_t 1 50 (by decide) (by omega) (by omega))) ⟨hx, hb, hml, hown, hts⟩ q591 b_X1_flood (n := 2) (by decide +kernel) ⟨(Nat.le_of_ble_eq_true rfl), (Nat.le_of_ble_eq_true rfl)⟩ hK hP hD hS hA hE (by rw [List.append_nil]) (fun _ => by rw [List.append_nil]) (ci := 1) rfl rfl rfl hl.1 rfl (Nat.le_of_ble_eq_true rfl) dL_act_549 ⟨by show 0 + 0 ≤ 2; omega, by show 0 + 0 ≤ 23; omega⟩ (fun ρ_10 H locs hP hD hS => ?_)
          have hP : va_P D vwCl ((sC cI cL sm q (su σ 2 (bel (x >>> (4 &&& 31)) n) ((σ 2 (bel (x >>> (4 &&& 31)) n)) + (nI (1 + (bel (x >>> (5 &&& 31)) 50))))) n k) ++ ((oC ob h h2) ++ ((mC cI cZ h a (addW σ (bel (x >>> (4 &&& 31)) n) (nI (1 + (bel (x >>> (5 &&& 31)) 50))))) ++ (mC cI cZ h2 a2 ρ_10)))) H := hP
          have hD : va_D A ((sC cI cL sm q (su σ 2 (bel (x >>> (4 &&& 31)) n) ((σ 2 (bel (x >>> (4 &&& 31)) n)) + (nI (1 + (bel (x >>> (5 &&& 31)) 50))))) n k) ++ ((oC ob h h2) ++ ((mC cI cZ h a (addW σ (bel (x >>> (4 &&& 31)) n) (nI (1 + (bel (x >>> (5 &&& 31)) 50))))) ++ (mC cI cZ h2 a2 ρ_10)))) := hD
          refine W.wide (k := 0) (n := 0) (Nat.le_refl _) (Nat.le_refl _) ?_
          refine lv_aload_n hx hb dL_act_552 rfl (lv_at hl 8 rfl) ?_
          refine s_get hx hb hts hown hK hP (σ := su σ 2 (bel (x >>> (4 &&& 31)) n) ((σ 2 (bel (x >>> (4 &&& 31)) n)) + (nI (1 + (bel (x >>> (5 &&& 31)) 50))))) (n := n) (k := k) (q := q) (sm := sm) (w0 := []) (w2 := (oC ob h h2) ++ ((mC cI cZ h a (addW σ (bel (x >>> (4 &&& 31)) n) (nI (1 + (bel (x >>> (5 &&& 31)) 50))))) ++ (mC cI cZ h2 a2 ρ_10))) rfl 0 (by decide) q434 (v := .ref q.1.1) rfl dL_act_553 ?_
          refine lv_iload hx hb dL_act_556 (lv_at hl 3 rfl) ?_
          refine s_alF hx hb hK hP (σ := su σ 2 (bel (x >>> (4 &&& 31)) n) ((σ 2 (bel (x >>> (4 &&& 31)) n)) + (nI (1 + (bel (x >>> (5 &&& 31)) 50))))) (n := n) (k := k) (q := q) (sm := sm) (w0 := []) (w2 := (oC ob h h2) ++ ((mC cI cZ h a (addW σ (bel (x >>> (4 &&& 31)) n) (nI (1 + (bel (x >>> (5 &&& 31)) 50))))) ++ (mC cI cZ h2 a2 ρ_10))) rfl (bel (x >>> (4 &&& 31)) n) (rfl) (by omega) (by omega) dL_act_558 ?_
          refine lv_iconst (v := 2) hx hb dL_act_559 (by decide) ?_
          refine s_ldF hx hb hK hP (σ := su σ 2 (bel (x >>> (4 &&& 31)) n) ((σ 2 (bel (x >>> (4 &&& 31)) n)) + (nI (1 + (bel (x >>> (5 &&& 31)) 50))))) (n := n) (k := k) (q := q) (sm := sm) (w0 := []) (w2 := (oC ob h h2) ++ ((mC cI cZ h a (addW σ (bel (x >>> (4 &&& 31)) n) (nI (1 + (bel (x >>> (5 &&& 31)) 50))))) ++ (mC cI cZ h2 a2 ρ_10))) rfl (bel (x >>> (4 &&& 31)) n) (by omega) 2 rfl (by decide) (v := (su σ 2 (bel (x >>> (4 &&& 31)) n) ((σ 2 (bel (x >>> (4 &&& 31)) n)) + (nI (1 + (bel (x >>> (5 &&& 31)) 50))))) 2 (bel (x >>> (4 &&& 31)) n)) rfl dL_act_560 ?_
          refine lv_icmp_ne (tgt := 568) hx hb dL_act_561 (by decide) (fun z => absurd (rfl) z) (fun c_561 => ?_)
          refine lv_iconst (v := 1) hx hb dL_act_564 (by decide) ?_
          refine lv_goto (tgt := 569) hx hb dL_act_565 (by decide) ?_
          refine W.wide (k := 2) (n := 23) (Nat.le_of_ble_eq_true rfl) (Nat.le_of_ble_eq_true rfl) ?_
          subst hQ
          exact yz ⟨(((n, k), (addW σ (bel (x >>> (4 &&& 31)) n) (nI (1 + (bel (x >>> (5 &&& 31)) 50))), ρ_10)), q), ⟨((hI.fl (by omega) (by omega)).mono (by omega)), by show n ≤ n; omega, by show n < 2 → n < n; omega⟩⟩ hx hb hr hlocks hK hP hD hS dL_act_569 (Or.inr rfl) rfl rfl
      have T570 : W p l e rmL_act s m args below meth c H locs 0 0 Q (F0 m 570 ls []) := by
        refine lv_iconst (v := 1) hx hb dL_act_570 (by decide) ?_
        refine lv_iload_n hx hb dL_act_571 rfl (lv_at hl 8 rfl) ?_
        refine lv_iconst (v := 4) hx hb dL_act_572 (by decide) ?_
        refine lv_ishr hx hb dL_act_573 ?_
        refine lv_iload_n hx hb dL_act_574 rfl (lv_at hl 8 rfl) ?_
        refine lv_bipush (v := 8) hx hb dL_act_575 (by decide) ?_
        refine lv_ishr hx hb dL_act_577 ?_
        refine lv_bipush (v := 6) hx hb dL_act_578 (by decide) ?_
        refine MC.callS (As := [.int (x >>> (8 &&& 31)), .int 6]) (rest := [.int (x >>> (4 &&& 31)), .int 1]) (wB := (sC cI cL sm q σ n k) ++ ((oC ob h h2) ++ ((mC cI cZ h a σ) ++ (mC cI cZ h2 a2 τ)))) (c_L_below l D cI cZ cL (x >>> (8 &&& 31)) 6 (by omega) (by omega)) ⟨hx, hb, hml, hown, hts⟩ q529 b_L_below (n := 2) (by decide +kernel) ⟨Nat.le_of_ble_eq_true rfl, Nat.le_of_ble_eq_true rfl⟩ hK hP hD hS hA (spE _) (spE _) rfl hl.1 rfl (Nat.le_of_ble_eq_true rfl) dL_act_580 ⟨Nat.le_of_ble_eq_true rfl, Nat.le_of_ble_eq_true rfl⟩ (fun H locs hP hD hS => ?_)
        refine W.wide (k := 0) (n := 0) (Nat.le_refl _) (Nat.le_refl _) ?_
        have hb_580 : bel (x >>> (8 &&& 31)) 6 < 6 := bel_lt (by omega)
        refine lv_if_ne (tgt := 591) hx hb dL_act_583 (by decide) (fun c_583 => ?_) (fun c_583 => ?_)
        · have hc_583 : ¬ (bel (x >>> (8 &&& 31)) 6) = 0 := fun z => c_583 ((nI_eq (a := (bel (x >>> (8 &&& 31)) 6)) (b := 0) (by omega) (by omega)).mpr z)
          refine lv_iconst (v := 4) hx hb dL_act_591 (by decide) ?_
          refine MC.callS (As := [.int (x >>> (4 &&& 31)), .int 4]) (rest := [.int 1]) (wB := (sC cI cL sm q σ n k) ++ ((oC ob h h2) ++ ((mC cI cZ h a σ) ++ (mC cI cZ h2 a2 τ)))) (c_L_below l D cI cZ cL (x >>> (4 &&& 31)) 4 (by omega) (by omega)) ⟨hx, hb, hml, hown, hts⟩ q529 b_L_below (n := 2) (by decide +kernel) ⟨Nat.le_of_ble_eq_true rfl, Nat.le_of_ble_eq_true rfl⟩ hK hP hD hS hA (spE _) (spE _) rfl hl.1 rfl (Nat.le_of_ble_eq_true rfl) dL_act_592 ⟨Nat.le_of_ble_eq_true rfl, Nat.le_of_ble_eq_true rfl⟩ (fun H locs hP hD hS => ?_)
          refine W.wide (k := 0) (n := 0) (Nat.le_refl _) (Nat.le_refl _) ?_
          have hb_592 : bel (x >>> (4 &&& 31)) 4 < 4 := bel_lt (by omega)
          refine lv_iadd hx hb dL_act_595 ?_
          refine x_top (nI_add 1 (bel (x >>> (4 &&& 31)) 4)) ?_
          refine lv_istore (lv' := [(9, .int (nI (1 + (bel (x >>> (4 &&& 31)) 4)))), (8, .int (nI (1 + (bel (x >>> (5 &&& 31)) 9)))), (7, .int (nI (bel (x >>> (6 &&& 31)) n))), (6, .int (nI (bel (x >>> (4 &&& 31)) n))), (5, .int (nI (bel x 14))), (4, .int (nI k)), (3, .int (nI n)), (0, .ref ob), (1, .ref sm), (2, .int x)]) hx hb dL_act_596 hl (by decide) rfl (fun ls hl => ?_)
          refine lv_aload_n hx hb dL_act_598 rfl (lv_at hl 7 rfl) ?_
          refine lv_iload hx hb dL_act_599 (lv_at hl 0 rfl) ?_
          refine MX.callV0 (C := RX1) (T := TX1) (N := 2) (As := [.int (nI (1 + (bel (x >>> (4 &&& 31)) 4)))]) (rest := []) (w0 := sC cI cL sm q σ n k) (w2 := []) (wB := fun ρ => (sC cI cL sm q σ n k) ++ ((oC ob h h2) ++ ((mC cI cZ h a (hours (1 + (bel (x >>> (4 &&& 31)) 4)) σ)) ++ (mC cI cZ h2 a2 ρ)))) (c_X1_pass l D cI cZ cL ob h a h2 a2 σ τ hst (1 + (bel (x >>> (4 &&& 31)) 4)) (by omega) (by omega)) ⟨hx, hb, hml, hown, hts⟩ q105 b_X1_pass (n := 1) (by decide +kernel) ⟨(Nat.le_of_ble_eq_true rfl), (Nat.le_of_ble_eq_true rfl)⟩ hK hP hD hS hA hE (by rw [List.append_nil]) (fun _ => by rw [List.append_nil]) (ci := 1) rfl rfl rfl hl.1 rfl (Nat.le_of_ble_eq_true rfl) dL_act_601 ⟨by show 0 + 0 ≤ 2; omega, by show 0 + 0 ≤ 23; omega⟩ (fun ρ_11 H locs hP hD hS => ?_)
          have hP : va_P D vwCl ((sC cI cL sm q σ n k) ++ ((oC ob h h2) ++ ((mC cI cZ h a (hours (1 + (bel (x >>> (4 &&& 31)) 4)) σ)) ++ (mC cI cZ h2 a2 ρ_11)))) H := hP
          have hD : va_D A ((sC cI cL sm q σ n k) ++ ((oC ob h h2) ++ ((mC cI cZ h a (hours (1 + (bel (x >>> (4 &&& 31)) 4)) σ)) ++ (mC cI cZ h2 a2 ρ_11)))) := hD
          refine W.wide (k := 0) (n := 0) (Nat.le_refl _) (Nat.le_refl _) ?_
          refine lv_aload_n hx hb dL_act_604 rfl (lv_at hl 8 rfl) ?_
          refine lv_iload hx hb dL_act_605 (lv_at hl 0 rfl) ?_
          refine MC.callV0 (C := RX2) (T := TX2) (N := 5) (As := [.int (nI (1 + (bel (x >>> (4 &&& 31)) 4)))]) (rest := [.int (ruinN (hours (1 + (bel (x >>> (4 &&& 31)) 4)) σ) - ruinN σ)]) (w0 := []) (w2 := (oC ob h h2) ++ ((mC cI cZ h a (hours (1 + (bel (x >>> (4 &&& 31)) 4)) σ)) ++ (mC cI cZ h2 a2 ρ_11))) (wB := (sC cI cL sm q (hours (1 + (bel (x >>> (4 &&& 31)) 4)) σ) n k) ++ ((oC ob h h2) ++ ((mC cI cZ h a (hours (1 + (bel (x >>> (4 &&& 31)) 4)) σ)) ++ (mC cI cZ h2 a2 ρ_11)))) (c_X2_pass_ l D cI cZ cL sm q σ hst hst_B (1 + (bel (x >>> (4 &&& 31)) 4)) (by omega) (by omega)) ⟨hx, hb, hml, hown, hts⟩ q595 b_X2_pass_ (n := 1) (by decide +kernel) ⟨(Nat.le_of_ble_eq_true rfl), (Nat.le_of_ble_eq_true rfl)⟩ hK hP hD hS hA rfl rfl (ci := 2) rfl rfl rfl hl.1 rfl (Nat.le_of_ble_eq_true rfl) dL_act_607 ⟨by show 0 + 0 ≤ 2; omega, by show 0 + 0 ≤ 23; omega⟩ (fun H locs hP hD hS => ?_)
          refine W.wide (k := 0) (n := 0) (Nat.le_refl _) (Nat.le_refl _) ?_
          refine lv_icmp_ne (tgt := 617) hx hb dL_act_610 (by decide) (fun z => absurd (rfl) z) (fun c_610 => ?_)
          refine lv_iconst (v := 1) hx hb dL_act_613 (by decide) ?_
          refine lv_goto (tgt := 618) hx hb dL_act_614 (by decide) ?_
          refine W.wide (k := 2) (n := 23) (Nat.le_of_ble_eq_true rfl) (Nat.le_of_ble_eq_true rfl) ?_
          subst hQ
          exact yz ⟨(((n, k), (hours (1 + (bel (x >>> (4 &&& 31)) 4)) σ, ρ_11)), q), ⟨((hI.hrs (1 + (bel (x >>> (4 &&& 31)) 4)) (by omega)).mono (by omega)), by show n ≤ n; omega, by show n < 2 → n < n; omega⟩⟩ hx hb hr hlocks hK hP hD hS dL_act_618 (Or.inr rfl) rfl rfl
        · have hc_583 : (bel (x >>> (8 &&& 31)) 6) = 0 := (nI_eq (a := (bel (x >>> (8 &&& 31)) 6)) (b := 0) (by omega) (by omega)).mp c_583
          refine lv_bipush (v := 48) hx hb dL_act_586 (by decide) ?_
          refine lv_goto (tgt := 592) hx hb dL_act_588 (by decide) ?_
          refine MC.callS (As := [.int (x >>> (4 &&& 31)), .int 48]) (rest := [.int 1]) (wB := (sC cI cL sm q σ n k) ++ ((oC ob h h2) ++ ((mC cI cZ h a σ) ++ (mC cI cZ h2 a2 τ)))) (c_L_below l D cI cZ cL (x >>> (4 &&& 31)) 48 (by omega) (by omega)) ⟨hx, hb, hml, hown, hts⟩ q529 b_L_below (n := 2) (by decide +kernel) ⟨Nat.le_of_ble_eq_true rfl, Nat.le_of_ble_eq_true rfl⟩ hK hP hD hS hA (spE _) (spE _) rfl hl.1 rfl (Nat.le_of_ble_eq_true rfl) dL_act_592 ⟨Nat.le_of_ble_eq_true rfl, Nat.le_of_ble_eq_true rfl⟩ (fun H locs hP hD hS => ?_)
          refine W.wide (k := 0) (n := 0) (Nat.le_refl _) (Nat.le_refl _) ?_
          have hb_592 : bel (x >>> (4 &&& 31)) 48 < 48 := bel_lt (by omega)
          refine lv_iadd hx hb dL_act_595 ?_
          refine x_top (nI_add 1 (bel (x >>> (4 &&& 31)) 48)) ?_
          refine lv_istore (lv' := [(9, .int (nI (1 + (bel (x >>> (4 &&& 31)) 48)))), (8, .int (nI (1 + (bel (x >>> (5 &&& 31)) 9)))), (7, .int (nI (bel (x >>> (6 &&& 31)) n))), (6, .int (nI (bel (x >>> (4 &&& 31)) n))), (5, .int (nI (bel x 14))), (4, .int (nI k)), (3, .int (nI n)), (0, .ref ob), (1, .ref sm), (2, .int x)]) hx hb dL_act_596 hl (by decide) rfl (fun ls hl => ?_)
          refine lv_aload_n hx hb dL_act_598 rfl (lv_at hl 7 rfl) ?_
          refine lv_iload hx hb dL_act_599 (lv_at hl 0 rfl) ?_
          refine MX.callV0 (C := RX1) (T := TX1) (N := 2) (As := [.int (nI (1 + (bel (x >>> (4 &&& 31)) 48)))]) (rest := []) (w0 := sC cI cL sm q σ n k) (w2 := []) (wB := fun ρ => (sC cI cL sm q σ n k) ++ ((oC ob h h2) ++ ((mC cI cZ h a (hours (1 + (bel (x >>> (4 &&& 31)) 48)) σ)) ++ (mC cI cZ h2 a2 ρ)))) (c_X1_pass l D cI cZ cL ob h a h2 a2 σ τ hst (1 + (bel (x >>> (4 &&& 31)) 48)) (by omega) (by omega)) ⟨hx, hb, hml, hown, hts⟩ q105 b_X1_pass (n := 1) (by decide +kernel) ⟨(Nat.le_of_ble_eq_true rfl), (Nat.le_of_ble_eq_true rfl)⟩ hK hP hD hS hA hE (by rw [List.append_nil]) (fun _ => by rw [List.append_nil]) (ci := 1) rfl rfl rfl hl.1 rfl (Nat.le_of_ble_eq_true rfl) dL_act_601 ⟨by show 0 + 0 ≤ 2; omega, by show 0 + 0 ≤ 23; omega⟩ (fun ρ_12 H locs hP hD hS => ?_)
          have hP : va_P D vwCl ((sC cI cL sm q σ n k) ++ ((oC ob h h2) ++ ((mC cI cZ h a (hours (1 + (bel (x >>> (4 &&& 31)) 48)) σ)) ++ (mC cI cZ h2 a2 ρ_12)))) H := hP
          have hD : va_D A ((sC cI cL sm q σ n k) ++ ((oC ob h h2) ++ ((mC cI cZ h a (hours (1 + (bel (x >>> (4 &&& 31)) 48)) σ)) ++ (mC cI cZ h2 a2 ρ_12)))) := hD
          refine W.wide (k := 0) (n := 0) (Nat.le_refl _) (Nat.le_refl _) ?_
          refine lv_aload_n hx hb dL_act_604 rfl (lv_at hl 8 rfl) ?_
          refine lv_iload hx hb dL_act_605 (lv_at hl 0 rfl) ?_
          refine MC.callV0 (C := RX2) (T := TX2) (N := 5) (As := [.int (nI (1 + (bel (x >>> (4 &&& 31)) 48)))]) (rest := [.int (ruinN (hours (1 + (bel (x >>> (4 &&& 31)) 48)) σ) - ruinN σ)]) (w0 := []) (w2 := (oC ob h h2) ++ ((mC cI cZ h a (hours (1 + (bel (x >>> (4 &&& 31)) 48)) σ)) ++ (mC cI cZ h2 a2 ρ_12))) (wB := (sC cI cL sm q (hours (1 + (bel (x >>> (4 &&& 31)) 48)) σ) n k) ++ ((oC ob h h2) ++ ((mC cI cZ h a (hours (1 + (bel (x >>> (4 &&& 31)) 48)) σ)) ++ (mC cI cZ h2 a2 ρ_12)))) (c_X2_pass_ l D cI cZ cL sm q σ hst hst_B (1 + (bel (x >>> (4 &&& 31)) 48)) (by omega) (by omega)) ⟨hx, hb, hml, hown, hts⟩ q595 b_X2_pass_ (n := 1) (by decide +kernel) ⟨(Nat.le_of_ble_eq_true rfl), (Nat.le_of_ble_eq_true rfl)⟩ hK hP hD hS hA rfl rfl (ci := 2) rfl rfl rfl hl.1 rfl (Nat.le_of_ble_eq_true rfl) dL_act_607 ⟨by show 0 + 0 ≤ 2; omega, by show 0 + 0 ≤ 23; omega⟩ (fun H locs hP hD hS => ?_)
          refine W.wide (k := 0) (n := 0) (Nat.le_refl _) (Nat.le_refl _) ?_
          refine lv_icmp_ne (tgt := 617) hx hb dL_act_610 (by decide) (fun z => absurd (rfl) z) (fun c_610 => ?_)
          refine lv_iconst (v := 1) hx hb dL_act_613 (by decide) ?_
          refine lv_goto (tgt := 618) hx hb dL_act_614 (by decide) ?_
          refine W.wide (k := 2) (n := 23) (Nat.le_of_ble_eq_true rfl) (Nat.le_of_ble_eq_true rfl) ?_
          subst hQ
          exact yz ⟨(((n, k), (hours (1 + (bel (x >>> (4 &&& 31)) 48)) σ, ρ_12)), q), ⟨((hI.hrs (1 + (bel (x >>> (4 &&& 31)) 48)) (by omega)).mono (by omega)), by show n ≤ n; omega, by show n < 2 → n < n; omega⟩⟩ hx hb hr hlocks hK hP hD hS dL_act_618 (Or.inr rfl) rfl rfl
      obtain ⟨r9, hr9, er9⟩ : ∃ r, r < 14 ∧ bel x 14 = r := ⟨_, hb_16, rfl⟩
      have hr0 : ¬ r9 = 0 := by rw [← er9]; exact hc_28
      refine x_top (congrArg nI er9) ?_
      by_cases h10 : 10 ≤ r9
      · exact lv_tableOut (tgt := 570) hx hb dL_act_162 (Or.inr (by rw [nI_toInt (by omega)]; omega)) (by decide) T570
      · clear er9
        match r9, hr0, h10 with
        | 0, z, _ => exact absurd rfl z
        | 1, _, _ => exact lv_tableIn (off := 50) (tgt := 212) hx hb dL_act_162 (by decide) (by decide) (by decide) (by decide) T212
        | 2, _, _ => exact lv_tableIn (off := 50) (tgt := 212) hx hb dL_act_162 (by decide) (by decide) (by decide) (by decide) T212
        | 3, _, _ => exact lv_tableIn (off := 129) (tgt := 291) hx hb dL_act_162 (by decide) (by decide) (by decide) (by decide) T291
        | 4, _, _ => exact lv_tableIn (off := 129) (tgt := 291) hx hb dL_act_162 (by decide) (by decide) (by decide) (by decide) T291
        | 5, _, _ => exact lv_tableIn (off := 222) (tgt := 384) hx hb dL_act_162 (by decide) (by decide) (by decide) (by decide) T384
        | 6, _, _ => exact lv_tableIn (off := 288) (tgt := 450) hx hb dL_act_162 (by decide) (by decide) (by decide) (by decide) T450
        | 7, _, _ => exact lv_tableIn (off := 340) (tgt := 502) hx hb dL_act_162 (by decide) (by decide) (by decide) (by decide) T502
        | 8, _, _ => exact lv_tableIn (off := 340) (tgt := 502) hx hb dL_act_162 (by decide) (by decide) (by decide) (by decide) T502
        | 9, _, _ => exact lv_tableIn (off := 340) (tgt := 502) hx hb dL_act_162 (by decide) (by decide) (by decide) (by decide) T502
        | r + 10, _, z => exact absurd (Nat.le_add_left 10 r) z
    · have hc_28 : (bel x 14) = 0 := (nI_eq (a := (bel x 14)) (b := 0) (by omega) (by omega)).mp c_28
      refine lv_iload_n hx hb dL_act_31 rfl (lv_at hl 2 rfl) ?_
      refine lv_bipush (v := 10) hx hb dL_act_32 (by decide) ?_
      refine lv_icmp_ne (tgt := 39) hx hb dL_act_34 (by decide) (fun c_34 => ?_) (fun c_34 => ?_)
      · have hc_34 : ¬ n = 10 := fun z => c_34 ((nI_eq (a := n) (b := 10) (by omega) (by omega)).mpr z)
        refine lv_iconst (v := 5) hx hb dL_act_39 (by decide) ?_
        refine x_new (atype := .int) (ty := .int) rfl rfl ra_int hx hb (hts _ q96) hK hP hD hS hA 0 rfl (N' := 5) (by decide) (by decide) (by decide) (by show _ + 1 ≤ 2; omega) (by show _ + _ ≤ 23; omega) dL_act_40 (fun t9 H hP hD hS => ?_)
        obtain ⟨hP, hD⟩ := p_perm (b := tC cI t9 5 (fun _ => 0) ++ ((sC cI cL sm q σ n k) ++ ((oC ob h h2) ++ ((mC cI cZ h a σ) ++ (mC cI cZ h2 a2 τ))))) List.perm_append_comm hP hD
        have hP : va_P D vwCl ((tC cI t9 5 (fun _ => 0)) ++ ((sC cI cL sm q σ n k) ++ ((oC ob h h2) ++ ((mC cI cZ h a σ) ++ (mC cI cZ h2 a2 τ))))) H := hP
        have hD : va_D A ((tC cI t9 5 (fun _ => 0)) ++ ((sC cI cL sm q σ n k) ++ ((oC ob h h2) ++ ((mC cI cZ h a σ) ++ (mC cI cZ h2 a2 τ))))) := hD
        refine lv_dup hx hb dL_act_42 rfl ?_
        refine lv_iconst (v := 0) hx hb dL_act_43 (by decide) ?_
        refine lv_iload_n hx hb dL_act_44 rfl (lv_at hl 5 rfl) ?_
        refine lv_iconst (v := 4) hx hb dL_act_45 (by decide) ?_
        refine lv_ishr hx hb dL_act_46 ?_
        refine lv_iload_n hx hb dL_act_47 rfl (lv_at hl 5 rfl) ?_
        refine lv_bipush (v := 8) hx hb dL_act_48 (by decide) ?_
        refine lv_ishr hx hb dL_act_50 ?_
        refine lv_iconst (v := 2) hx hb dL_act_51 (by decide) ?_
        refine MC.callS (As := [.int (x >>> (8 &&& 31)), .int 2]) (rest := [.int (x >>> (4 &&& 31)), .int 0, .ref t9, .ref t9]) (wB := (tC cI t9 5 (fun _ => 0)) ++ ((sC cI cL sm q σ n k) ++ ((oC ob h h2) ++ ((mC cI cZ h a σ) ++ (mC cI cZ h2 a2 τ))))) (c_L_below l D cI cZ cL (x >>> (8 &&& 31)) 2 (by omega) (by omega)) ⟨hx, hb, hml, hown, hts⟩ q529 b_L_below (n := 2) (by decide +kernel) ⟨Nat.le_of_ble_eq_true rfl, Nat.le_of_ble_eq_true rfl⟩ hK hP hD hS hA (spE _) (spE _) rfl hl.1 rfl (Nat.le_of_ble_eq_true rfl) dL_act_52 ⟨Nat.le_of_ble_eq_true rfl, Nat.le_of_ble_eq_true rfl⟩ (fun H locs hP hD hS => ?_)
        refine W.wide (k := (0 + 1)) (n := (0 + 5)) (by show (0 + 1) + 0 ≤ (0 + 1); omega) (by show (0 + 5) + 0 ≤ (0 + 5); omega) ?_
        have hb_52 : bel (x >>> (8 &&& 31)) 2 < 2 := bel_lt (by omega)
        refine lv_if_ne (tgt := 63) hx hb dL_act_55 (by decide) (fun c_55 => ?_) (fun c_55 => ?_)
        · have hc_55 : ¬ (bel (x >>> (8 &&& 31)) 2) = 0 := fun z => c_55 ((nI_eq (a := (bel (x >>> (8 &&& 31)) 2)) (b := 0) (by omega) (by omega)).mpr z)
          refine lv_bipush (v := 6) hx hb dL_act_63 (by decide) ?_
          refine MC.callS (As := [.int (x >>> (4 &&& 31)), .int 6]) (rest := [.int 0, .ref t9, .ref t9]) (wB := (tC cI t9 5 (fun _ => 0)) ++ ((sC cI cL sm q σ n k) ++ ((oC ob h h2) ++ ((mC cI cZ h a σ) ++ (mC cI cZ h2 a2 τ))))) (c_L_below l D cI cZ cL (x >>> (4 &&& 31)) 6 (by omega) (by omega)) ⟨hx, hb, hml, hown, hts⟩ q529 b_L_below (n := 2) (by decide +kernel) ⟨Nat.le_of_ble_eq_true rfl, Nat.le_of_ble_eq_true rfl⟩ hK hP hD hS hA (spE _) (spE _) rfl hl.1 rfl (Nat.le_of_ble_eq_true rfl) dL_act_65 ⟨Nat.le_of_ble_eq_true rfl, Nat.le_of_ble_eq_true rfl⟩ (fun H locs hP hD hS => ?_)
          refine W.wide (k := (0 + 1)) (n := (0 + 5)) (by show (0 + 1) + 0 ≤ (0 + 1); omega) (by show (0 + 5) + 0 ≤ (0 + 5); omega) ?_
          have hb_65 : bel (x >>> (4 &&& 31)) 6 < 6 := bel_lt (by omega)
          refine x_ist (ws2 := (tC cI t9 5 (upd (fun _ => 0) 0 (nI (bel (x >>> (4 &&& 31)) 6)))) ++ ((sC cI cL sm q σ n k) ++ ((oC ob h h2) ++ ((mC cI cZ h a σ) ++ (mC cI cZ h2 a2 τ))))) hx hb hK hP hD hS 0 0 rfl rfl 0 (rfl) (by omega) (by decide) rfl dL_act_68 (fun H locs hP hD hS => ?_)
          refine lv_dup hx hb dL_act_69 rfl ?_
          refine lv_iconst (v := 1) hx hb dL_act_70 (by decide) ?_
          refine lv_iload_n hx hb dL_act_71 rfl (lv_at hl 5 rfl) ?_
          refine lv_iconst (v := 3) hx hb dL_act_72 (by decide) ?_
          refine lv_ishr hx hb dL_act_73 ?_
          refine lv_bipush (v := 100) hx hb dL_act_74 (by decide) ?_
          refine MC.callS (As := [.int (x >>> (3 &&& 31)), .int 100]) (rest := [.int 1, .ref t9, .ref t9]) (wB := (tC cI t9 5 (upd (fun _ => 0) 0 (nI (bel (x >>> (4 &&& 31)) 6)))) ++ ((sC cI cL sm q σ n k) ++ ((oC ob h h2) ++ ((mC cI cZ h a σ) ++ (mC cI cZ h2 a2 τ))))) (c_L_below l D cI cZ cL (x >>> (3 &&& 31)) 100 (by omega) (by omega)) ⟨hx, hb, hml, hown, hts⟩ q529 b_L_below (n := 2) (by decide +kernel) ⟨Nat.le_of_ble_eq_true rfl, Nat.le_of_ble_eq_true rfl⟩ hK hP hD hS hA (spE _) (spE _) rfl hl.1 rfl (Nat.le_of_ble_eq_true rfl) dL_act_76 ⟨Nat.le_of_ble_eq_true rfl, Nat.le_of_ble_eq_true rfl⟩ (fun H locs hP hD hS => ?_)
          refine W.wide (k := (0 + 1)) (n := (0 + 5)) (by show (0 + 1) + 0 ≤ (0 + 1); omega) (by show (0 + 5) + 0 ≤ (0 + 5); omega) ?_
          have hb_76 : bel (x >>> (3 &&& 31)) 100 < 100 := bel_lt (by omega)
          refine x_ist (ws2 := (tC cI t9 5 (upd (upd (fun _ => 0) 0 (nI (bel (x >>> (4 &&& 31)) 6))) 1 (nI (bel (x >>> (3 &&& 31)) 100)))) ++ ((sC cI cL sm q σ n k) ++ ((oC ob h h2) ++ ((mC cI cZ h a σ) ++ (mC cI cZ h2 a2 τ))))) hx hb hK hP hD hS 0 0 rfl rfl 1 (rfl) (by omega) (by decide) rfl dL_act_79 (fun H locs hP hD hS => ?_)
          refine lv_dup hx hb dL_act_80 rfl ?_
          refine lv_iconst (v := 2) hx hb dL_act_81 (by decide) ?_
          refine lv_iconst (v := 0) hx hb dL_act_82 (by decide) ?_
          refine x_ist (ws2 := (tC cI t9 5 (upd (upd (upd (fun _ => 0) 0 (nI (bel (x >>> (4 &&& 31)) 6))) 1 (nI (bel (x >>> (3 &&& 31)) 100))) 2 0)) ++ ((sC cI cL sm q σ n k) ++ ((oC ob h h2) ++ ((mC cI cZ h a σ) ++ (mC cI cZ h2 a2 τ))))) hx hb hK hP hD hS 0 0 rfl rfl 2 (rfl) (by omega) (by decide) rfl dL_act_83 (fun H locs hP hD hS => ?_)
          refine lv_dup hx hb dL_act_84 rfl ?_
          refine lv_iconst (v := 3) hx hb dL_act_85 (by decide) ?_
          refine lv_iconst (v := 0) hx hb dL_act_86 (by decide) ?_
          refine x_ist (ws2 := (tC cI t9 5 (upd (upd (upd (upd (fun _ => 0) 0 (nI (bel (x >>> (4 &&& 31)) 6))) 1 (nI (bel (x >>> (3 &&& 31)) 100))) 2 0) 3 0)) ++ ((sC cI cL sm q σ n k) ++ ((oC ob h h2) ++ ((mC cI cZ h a σ) ++ (mC cI cZ h2 a2 τ))))) hx hb hK hP hD hS 0 0 rfl rfl 3 (rfl) (by omega) (by decide) rfl dL_act_87 (fun H locs hP hD hS => ?_)
          refine lv_dup hx hb dL_act_88 rfl ?_
          refine lv_iconst (v := 4) hx hb dL_act_89 (by decide) ?_
          refine lv_iconst (v := 0) hx hb dL_act_90 (by decide) ?_
          refine x_ist (ws2 := (tC cI t9 5 (upd (upd (upd (upd (upd (fun _ => 0) 0 (nI (bel (x >>> (4 &&& 31)) 6))) 1 (nI (bel (x >>> (3 &&& 31)) 100))) 2 0) 3 0) 4 0)) ++ ((sC cI cL sm q σ n k) ++ ((oC ob h h2) ++ ((mC cI cZ h a σ) ++ (mC cI cZ h2 a2 τ))))) hx hb hK hP hD hS 0 0 rfl rfl 4 (rfl) (by omega) (by decide) rfl dL_act_91 (fun H locs hP hD hS => ?_)
          refine lv_astore (lv' := [(6, .ref t9), (5, .int (nI (bel x 14))), (4, .int (nI k)), (3, .int (nI n)), (0, .ref ob), (1, .ref sm), (2, .int x)]) hx hb dL_act_92 hl (by decide) rfl (fun ls hl => ?_)
          refine lv_aload_n hx hb dL_act_94 rfl (lv_at hl 5 rfl) ?_
          refine lv_aload_n hx hb dL_act_95 rfl (lv_at hl 5 rfl) ?_
          refine s_get hx hb hts hown hK hP (σ := σ) (n := n) (k := k) (q := q) (sm := sm) (w0 := tC cI t9 5 (upd (upd (upd (upd (upd (fun _ => 0) 0 (nI (bel (x >>> (4 &&& 31)) 6))) 1 (nI (bel (x >>> (3 &&& 31)) 100))) 2 0) 3 0) 4 0)) (w2 := (oC ob h h2) ++ ((mC cI cZ h a σ) ++ (mC cI cZ h2 a2 τ))) rfl 0 (by decide) q434 (v := .ref q.1.1) rfl dL_act_96 ?_
          refine lv_aload hx hb dL_act_99 (lv_at hl 0 rfl) ?_
          refine s_growF cZ (σ := σ) (n := n) (k := k) (q := q) (w0 := []) (w2 := (oC ob h h2) ++ ((mC cI cZ h a σ) ++ (mC cI cZ h2 a2 τ))) (τ := putF n (nI (bel (x >>> (4 &&& 31)) 6)) (nI (bel (x >>> (3 &&& 31)) 100)) σ) hx hb hml hown hts hK hA hE q540 q434 (by simp only [List.append_assoc, List.append_nil, List.nil_append]) hP hD hS (by omega) (pF_row hI (by omega) _ _) (fun j hj => pF_f _ _ σ hj) (fun j _ => pF_d _ _ σ) (pF_11 _ _ σ (by decide)) (pF_11 _ _ σ (by decide)) (pF_11 _ _ σ (by decide)) hl.1 ⟨(Nat.le_of_ble_eq_true rfl), (Nat.le_of_ble_eq_true rfl)⟩ (Nat.le_of_ble_eq_true rfl) dL_act_101 dL_act_104 ⟨by show _ + 1 ≤ 2; omega, by show _ + 17 ≤ 23; omega⟩ (fun x9 H locs hP hD hS => ?_)
          have hP : va_P D vwCl ((sC cI cL sm ((x9, q.1.2), (va_up q.2.1 n t9, q.2.2)) (putF n (nI (bel (x >>> (4 &&& 31)) 6)) (nI (bel (x >>> (3 &&& 31)) 100)) σ) (n + 1) k) ++ ((oC ob h h2) ++ ((mC cI cZ h a σ) ++ (mC cI cZ h2 a2 τ)))) H := hP
          have hD : va_D A ((sC cI cL sm ((x9, q.1.2), (va_up q.2.1 n t9, q.2.2)) (putF n (nI (bel (x >>> (4 &&& 31)) 6)) (nI (bel (x >>> (3 &&& 31)) 100)) σ) (n + 1) k) ++ ((oC ob h h2) ++ ((mC cI cZ h a σ) ++ (mC cI cZ h2 a2 τ)))) := hD
          refine lv_aload_n hx hb dL_act_107 rfl (lv_at hl 4 rfl) ?_
          refine lv_aload hx hb dL_act_108 (lv_at hl 0 rfl) ?_
          refine lv_iconst (v := 0) hx hb dL_act_110 (by decide) ?_
          refine s_ldFx hx hb hK hP (σ := putF n (nI (bel (x >>> (4 &&& 31)) 6)) (nI (bel (x >>> (3 &&& 31)) 100)) σ) (n := n + 1) (k := k) (q := ((x9, q.1.2), (va_up q.2.1 n t9, q.2.2))) (sm := sm) (w0 := []) (w2 := (oC ob h h2) ++ ((mC cI cZ h a σ) ++ (mC cI cZ h2 a2 τ))) rfl n (by omega) (va_up_self _ _ _) 0 rfl (by decide) (v := (nI (bel (x >>> (4 &&& 31)) 6))) (by rw [← pF_row hI (by omega) (nI (bel (x >>> (4 &&& 31)) 6)) (nI (bel (x >>> (3 &&& 31)) 100))]; rfl) dL_act_111 ?_
          refine lv_aload hx hb dL_act_112 (lv_at hl 0 rfl) ?_
          refine lv_iconst (v := 1) hx hb dL_act_114 (by decide) ?_
          refine s_ldFx hx hb hK hP (σ := putF n (nI (bel (x >>> (4 &&& 31)) 6)) (nI (bel (x >>> (3 &&& 31)) 100)) σ) (n := n + 1) (k := k) (q := ((x9, q.1.2), (va_up q.2.1 n t9, q.2.2))) (sm := sm) (w0 := []) (w2 := (oC ob h h2) ++ ((mC cI cZ h a σ) ++ (mC cI cZ h2 a2 τ))) rfl n (by omega) (va_up_self _ _ _) 1 rfl (by decide) (v := (nI (bel (x >>> (3 &&& 31)) 100))) (by rw [← pF_row hI (by omega) (nI (bel (x >>> (4 &&& 31)) 6)) (nI (bel (x >>> (3 &&& 31)) 100))]; rfl) dL_act_115 ?_
          refine MX.callV0 (C := RX1) (T := TX1) (N := 2) (As := [.int (nI (bel (x >>> (4 &&& 31)) 6)), .int (nI (bel (x >>> (3 &&& 31)) 100))]) (rest := []) (w0 := sC cI cL sm ((x9, q.1.2), (va_up q.2.1 n t9, q.2.2)) (putF n (nI (bel (x >>> (4 &&& 31)) 6)) (nI (bel (x >>> (3 &&& 31)) 100)) σ) (n + 1) k) (w2 := []) (wB := fun ρ => (sC cI cL sm ((x9, q.1.2), (va_up q.2.1 n t9, q.2.2)) (putF n (nI (bel (x >>> (4 &&& 31)) 6)) (nI (bel (x >>> (3 &&& 31)) 100)) σ) (n + 1) k) ++ ((oC ob h h2) ++ ((mC cI cZ h a (putF n (nI (bel (x >>> (4 &&& 31)) 6)) (nI (bel (x >>> (3 &&& 31)) 100)) σ)) ++ (mC cI cZ h2 a2 ρ)))) (c_X1_addField_d l D cI cZ cL ob h a h2 a2 σ τ hst (nI (bel (x >>> (4 &&& 31)) 6)) (nI (bel (x >>> (3 &&& 31)) 100)) (inR_t 0 20 (by decide) (Nat.zero_le _) (by omega)) (inR_t 0 99 (by decide) (Nat.zero_le _) (by omega)) (by omega)) ⟨hx, hb, hml, hown, hts⟩ q541 b_X1_addField (n := 2) (by decide +kernel) ⟨(Nat.le_of_ble_eq_true rfl), (Nat.le_of_ble_eq_true rfl)⟩ hK hP hD hS hA hE (by rw [List.append_nil]) (fun _ => by rw [List.append_nil]) (ci := 1) rfl rfl rfl hl.1 rfl (Nat.le_of_ble_eq_true rfl) dL_act_116 ⟨by show ((0 + 1) + 1) + 0 ≤ 2; omega, by show ((0 + 5) + 17) + 0 ≤ 23; omega⟩ (fun ρ_13 H locs hP hD hS => ?_)
          have hP : va_P D vwCl ((sC cI cL sm ((x9, q.1.2), (va_up q.2.1 n t9, q.2.2)) (putF n (nI (bel (x >>> (4 &&& 31)) 6)) (nI (bel (x >>> (3 &&& 31)) 100)) σ) (n + 1) k) ++ ((oC ob h h2) ++ ((mC cI cZ h a (putF n (nI (bel (x >>> (4 &&& 31)) 6)) (nI (bel (x >>> (3 &&& 31)) 100)) σ)) ++ (mC cI cZ h2 a2 ρ_13)))) H := hP
          have hD : va_D A ((sC cI cL sm ((x9, q.1.2), (va_up q.2.1 n t9, q.2.2)) (putF n (nI (bel (x >>> (4 &&& 31)) 6)) (nI (bel (x >>> (3 &&& 31)) 100)) σ) (n + 1) k) ++ ((oC ob h h2) ++ ((mC cI cZ h a (putF n (nI (bel (x >>> (4 &&& 31)) 6)) (nI (bel (x >>> (3 &&& 31)) 100)) σ)) ++ (mC cI cZ h2 a2 ρ_13)))) := hD
          refine W.wide (k := ((0 + 1) + 1)) (n := ((0 + 5) + 17)) (by show ((0 + 1) + 1) + 0 ≤ ((0 + 1) + 1); omega) (by show ((0 + 5) + 17) + 0 ≤ ((0 + 5) + 17); omega) ?_
          refine lv_iload_n hx hb dL_act_119 rfl (lv_at hl 3 rfl) ?_
          refine lv_icmp_ne (tgt := 127) hx hb dL_act_120 (by decide) (fun z => absurd (rfl) z) (fun c_120 => ?_)
          refine lv_iconst (v := 1) hx hb dL_act_123 (by decide) ?_
          refine lv_goto (tgt := 128) hx hb dL_act_124 (by decide) ?_
          refine W.wide (k := 2) (n := 23) (Nat.le_of_ble_eq_true rfl) (Nat.le_of_ble_eq_true rfl) ?_
          subst hQ
          exact yz ⟨((((n + 1), k), (putF n (nI (bel (x >>> (4 &&& 31)) 6)) (nI (bel (x >>> (3 &&& 31)) 100)) σ, ρ_13)), ((x9, q.1.2), (va_up q.2.1 n t9, q.2.2))), ⟨((hI.pF (by omega) (by omega) (by omega)).mono (by omega)), by show n ≤ (n + 1); omega, by show n < 2 → n < (n + 1); omega⟩⟩ hx hb hr hlocks hK hP hD hS dL_act_128 (Or.inr rfl) rfl rfl
        · have hc_55 : (bel (x >>> (8 &&& 31)) 2) = 0 := (nI_eq (a := (bel (x >>> (8 &&& 31)) 2)) (b := 0) (by omega) (by omega)).mp c_55
          refine lv_bipush (v := 21) hx hb dL_act_58 (by decide) ?_
          refine lv_goto (tgt := 65) hx hb dL_act_60 (by decide) ?_
          refine MC.callS (As := [.int (x >>> (4 &&& 31)), .int 21]) (rest := [.int 0, .ref t9, .ref t9]) (wB := (tC cI t9 5 (fun _ => 0)) ++ ((sC cI cL sm q σ n k) ++ ((oC ob h h2) ++ ((mC cI cZ h a σ) ++ (mC cI cZ h2 a2 τ))))) (c_L_below l D cI cZ cL (x >>> (4 &&& 31)) 21 (by omega) (by omega)) ⟨hx, hb, hml, hown, hts⟩ q529 b_L_below (n := 2) (by decide +kernel) ⟨Nat.le_of_ble_eq_true rfl, Nat.le_of_ble_eq_true rfl⟩ hK hP hD hS hA (spE _) (spE _) rfl hl.1 rfl (Nat.le_of_ble_eq_true rfl) dL_act_65 ⟨Nat.le_of_ble_eq_true rfl, Nat.le_of_ble_eq_true rfl⟩ (fun H locs hP hD hS => ?_)
          refine W.wide (k := (0 + 1)) (n := (0 + 5)) (by show (0 + 1) + 0 ≤ (0 + 1); omega) (by show (0 + 5) + 0 ≤ (0 + 5); omega) ?_
          have hb_65 : bel (x >>> (4 &&& 31)) 21 < 21 := bel_lt (by omega)
          refine x_ist (ws2 := (tC cI t9 5 (upd (fun _ => 0) 0 (nI (bel (x >>> (4 &&& 31)) 21)))) ++ ((sC cI cL sm q σ n k) ++ ((oC ob h h2) ++ ((mC cI cZ h a σ) ++ (mC cI cZ h2 a2 τ))))) hx hb hK hP hD hS 0 0 rfl rfl 0 (rfl) (by omega) (by decide) rfl dL_act_68 (fun H locs hP hD hS => ?_)
          refine lv_dup hx hb dL_act_69 rfl ?_
          refine lv_iconst (v := 1) hx hb dL_act_70 (by decide) ?_
          refine lv_iload_n hx hb dL_act_71 rfl (lv_at hl 5 rfl) ?_
          refine lv_iconst (v := 3) hx hb dL_act_72 (by decide) ?_
          refine lv_ishr hx hb dL_act_73 ?_
          refine lv_bipush (v := 100) hx hb dL_act_74 (by decide) ?_
          refine MC.callS (As := [.int (x >>> (3 &&& 31)), .int 100]) (rest := [.int 1, .ref t9, .ref t9]) (wB := (tC cI t9 5 (upd (fun _ => 0) 0 (nI (bel (x >>> (4 &&& 31)) 21)))) ++ ((sC cI cL sm q σ n k) ++ ((oC ob h h2) ++ ((mC cI cZ h a σ) ++ (mC cI cZ h2 a2 τ))))) (c_L_below l D cI cZ cL (x >>> (3 &&& 31)) 100 (by omega) (by omega)) ⟨hx, hb, hml, hown, hts⟩ q529 b_L_below (n := 2) (by decide +kernel) ⟨Nat.le_of_ble_eq_true rfl, Nat.le_of_ble_eq_true rfl⟩ hK hP hD hS hA (spE _) (spE _) rfl hl.1 rfl (Nat.le_of_ble_eq_true rfl) dL_act_76 ⟨Nat.le_of_ble_eq_true rfl, Nat.le_of_ble_eq_true rfl⟩ (fun H locs hP hD hS => ?_)
          refine W.wide (k := (0 + 1)) (n := (0 + 5)) (by show (0 + 1) + 0 ≤ (0 + 1); omega) (by show (0 + 5) + 0 ≤ (0 + 5); omega) ?_
          have hb_76 : bel (x >>> (3 &&& 31)) 100 < 100 := bel_lt (by omega)
          refine x_ist (ws2 := (tC cI t9 5 (upd (upd (fun _ => 0) 0 (nI (bel (x >>> (4 &&& 31)) 21))) 1 (nI (bel (x >>> (3 &&& 31)) 100)))) ++ ((sC cI cL sm q σ n k) ++ ((oC ob h h2) ++ ((mC cI cZ h a σ) ++ (mC cI cZ h2 a2 τ))))) hx hb hK hP hD hS 0 0 rfl rfl 1 (rfl) (by omega) (by decide) rfl dL_act_79 (fun H locs hP hD hS => ?_)
          refine lv_dup hx hb dL_act_80 rfl ?_
          refine lv_iconst (v := 2) hx hb dL_act_81 (by decide) ?_
          refine lv_iconst (v := 0) hx hb dL_act_82 (by decide) ?_
          refine x_ist (ws2 := (tC cI t9 5 (upd (upd (upd (fun _ => 0) 0 (nI (bel (x >>> (4 &&& 31)) 21))) 1 (nI (bel (x >>> (3 &&& 31)) 100))) 2 0)) ++ ((sC cI cL sm q σ n k) ++ ((oC ob h h2) ++ ((mC cI cZ h a σ) ++ (mC cI cZ h2 a2 τ))))) hx hb hK hP hD hS 0 0 rfl rfl 2 (rfl) (by omega) (by decide) rfl dL_act_83 (fun H locs hP hD hS => ?_)
          refine lv_dup hx hb dL_act_84 rfl ?_
          refine lv_iconst (v := 3) hx hb dL_act_85 (by decide) ?_
          refine lv_iconst (v := 0) hx hb dL_act_86 (by decide) ?_
          refine x_ist (ws2 := (tC cI t9 5 (upd (upd (upd (upd (fun _ => 0) 0 (nI (bel (x >>> (4 &&& 31)) 21))) 1 (nI (bel (x >>> (3 &&& 31)) 100))) 2 0) 3 0)) ++ ((sC cI cL sm q σ n k) ++ ((oC ob h h2) ++ ((mC cI cZ h a σ) ++ (mC cI cZ h2 a2 τ))))) hx hb hK hP hD hS 0 0 rfl rfl 3 (rfl) (by omega) (by decide) rfl dL_act_87 (fun H locs hP hD hS => ?_)
          refine lv_dup hx hb dL_act_88 rfl ?_
          refine lv_iconst (v := 4) hx hb dL_act_89 (by decide) ?_
          refine lv_iconst (v := 0) hx hb dL_act_90 (by decide) ?_
          refine x_ist (ws2 := (tC cI t9 5 (upd (upd (upd (upd (upd (fun _ => 0) 0 (nI (bel (x >>> (4 &&& 31)) 21))) 1 (nI (bel (x >>> (3 &&& 31)) 100))) 2 0) 3 0) 4 0)) ++ ((sC cI cL sm q σ n k) ++ ((oC ob h h2) ++ ((mC cI cZ h a σ) ++ (mC cI cZ h2 a2 τ))))) hx hb hK hP hD hS 0 0 rfl rfl 4 (rfl) (by omega) (by decide) rfl dL_act_91 (fun H locs hP hD hS => ?_)
          refine lv_astore (lv' := [(6, .ref t9), (5, .int (nI (bel x 14))), (4, .int (nI k)), (3, .int (nI n)), (0, .ref ob), (1, .ref sm), (2, .int x)]) hx hb dL_act_92 hl (by decide) rfl (fun ls hl => ?_)
          refine lv_aload_n hx hb dL_act_94 rfl (lv_at hl 5 rfl) ?_
          refine lv_aload_n hx hb dL_act_95 rfl (lv_at hl 5 rfl) ?_
          refine s_get hx hb hts hown hK hP (σ := σ) (n := n) (k := k) (q := q) (sm := sm) (w0 := tC cI t9 5 (upd (upd (upd (upd (upd (fun _ => 0) 0 (nI (bel (x >>> (4 &&& 31)) 21))) 1 (nI (bel (x >>> (3 &&& 31)) 100))) 2 0) 3 0) 4 0)) (w2 := (oC ob h h2) ++ ((mC cI cZ h a σ) ++ (mC cI cZ h2 a2 τ))) rfl 0 (by decide) q434 (v := .ref q.1.1) rfl dL_act_96 ?_
          refine lv_aload hx hb dL_act_99 (lv_at hl 0 rfl) ?_
          refine s_growF cZ (σ := σ) (n := n) (k := k) (q := q) (w0 := []) (w2 := (oC ob h h2) ++ ((mC cI cZ h a σ) ++ (mC cI cZ h2 a2 τ))) (τ := putF n (nI (bel (x >>> (4 &&& 31)) 21)) (nI (bel (x >>> (3 &&& 31)) 100)) σ) hx hb hml hown hts hK hA hE q540 q434 (by simp only [List.append_assoc, List.append_nil, List.nil_append]) hP hD hS (by omega) (pF_row hI (by omega) _ _) (fun j hj => pF_f _ _ σ hj) (fun j _ => pF_d _ _ σ) (pF_11 _ _ σ (by decide)) (pF_11 _ _ σ (by decide)) (pF_11 _ _ σ (by decide)) hl.1 ⟨(Nat.le_of_ble_eq_true rfl), (Nat.le_of_ble_eq_true rfl)⟩ (Nat.le_of_ble_eq_true rfl) dL_act_101 dL_act_104 ⟨by show _ + 1 ≤ 2; omega, by show _ + 17 ≤ 23; omega⟩ (fun x9 H locs hP hD hS => ?_)
          have hP : va_P D vwCl ((sC cI cL sm ((x9, q.1.2), (va_up q.2.1 n t9, q.2.2)) (putF n (nI (bel (x >>> (4 &&& 31)) 21)) (nI (bel (x >>> (3 &&& 31)) 100)) σ) (n + 1) k) ++ ((oC ob h h2) ++ ((mC cI cZ h a σ) ++ (mC cI cZ h2 a2 τ)))) H := hP
          have hD : va_D A ((sC cI cL sm ((x9, q.1.2), (va_up q.2.1 n t9, q.2.2)) (putF n (nI (bel (x >>> (4 &&& 31)) 21)) (nI (bel (x >>> (3 &&& 31)) 100)) σ) (n + 1) k) ++ ((oC ob h h2) ++ ((mC cI cZ h a σ) ++ (mC cI cZ h2 a2 τ)))) := hD
          refine lv_aload_n hx hb dL_act_107 rfl (lv_at hl 4 rfl) ?_
          refine lv_aload hx hb dL_act_108 (lv_at hl 0 rfl) ?_
          refine lv_iconst (v := 0) hx hb dL_act_110 (by decide) ?_
          refine s_ldFx hx hb hK hP (σ := putF n (nI (bel (x >>> (4 &&& 31)) 21)) (nI (bel (x >>> (3 &&& 31)) 100)) σ) (n := n + 1) (k := k) (q := ((x9, q.1.2), (va_up q.2.1 n t9, q.2.2))) (sm := sm) (w0 := []) (w2 := (oC ob h h2) ++ ((mC cI cZ h a σ) ++ (mC cI cZ h2 a2 τ))) rfl n (by omega) (va_up_self _ _ _) 0 rfl (by decide) (v := (nI (bel (x >>> (4 &&& 31)) 21))) (by rw [← pF_row hI (by omega) (nI (bel (x >>> (4 &&& 31)) 21)) (nI (bel (x >>> (3 &&& 31)) 100))]; rfl) dL_act_111 ?_
          refine lv_aload hx hb dL_act_112 (lv_at hl 0 rfl) ?_
          refine lv_iconst (v := 1) hx hb dL_act_114 (by decide) ?_
          refine s_ldFx hx hb hK hP (σ := putF n (nI (bel (x >>> (4 &&& 31)) 21)) (nI (bel (x >>> (3 &&& 31)) 100)) σ) (n := n + 1) (k := k) (q := ((x9, q.1.2), (va_up q.2.1 n t9, q.2.2))) (sm := sm) (w0 := []) (w2 := (oC ob h h2) ++ ((mC cI cZ h a σ) ++ (mC cI cZ h2 a2 τ))) rfl n (by omega) (va_up_self _ _ _) 1 rfl (by decide) (v := (nI (bel (x >>> (3 &&& 31)) 100))) (by rw [← pF_row hI (by omega) (nI (bel (x >>> (4 &&& 31)) 21)) (nI (bel (x >>> (3 &&& 31)) 100))]; rfl) dL_act_115 ?_
          refine MX.callV0 (C := RX1) (T := TX1) (N := 2) (As := [.int (nI (bel (x >>> (4 &&& 31)) 21)), .int (nI (bel (x >>> (3 &&& 31)) 100))]) (rest := []) (w0 := sC cI cL sm ((x9, q.1.2), (va_up q.2.1 n t9, q.2.2)) (putF n (nI (bel (x >>> (4 &&& 31)) 21)) (nI (bel (x >>> (3 &&& 31)) 100)) σ) (n + 1) k) (w2 := []) (wB := fun ρ => (sC cI cL sm ((x9, q.1.2), (va_up q.2.1 n t9, q.2.2)) (putF n (nI (bel (x >>> (4 &&& 31)) 21)) (nI (bel (x >>> (3 &&& 31)) 100)) σ) (n + 1) k) ++ ((oC ob h h2) ++ ((mC cI cZ h a (putF n (nI (bel (x >>> (4 &&& 31)) 21)) (nI (bel (x >>> (3 &&& 31)) 100)) σ)) ++ (mC cI cZ h2 a2 ρ)))) (c_X1_addField_d l D cI cZ cL ob h a h2 a2 σ τ hst (nI (bel (x >>> (4 &&& 31)) 21)) (nI (bel (x >>> (3 &&& 31)) 100)) (inR_t 0 20 (by decide) (Nat.zero_le _) (by omega)) (inR_t 0 99 (by decide) (Nat.zero_le _) (by omega)) (by omega)) ⟨hx, hb, hml, hown, hts⟩ q541 b_X1_addField (n := 2) (by decide +kernel) ⟨(Nat.le_of_ble_eq_true rfl), (Nat.le_of_ble_eq_true rfl)⟩ hK hP hD hS hA hE (by rw [List.append_nil]) (fun _ => by rw [List.append_nil]) (ci := 1) rfl rfl rfl hl.1 rfl (Nat.le_of_ble_eq_true rfl) dL_act_116 ⟨by show ((0 + 1) + 1) + 0 ≤ 2; omega, by show ((0 + 5) + 17) + 0 ≤ 23; omega⟩ (fun ρ_14 H locs hP hD hS => ?_)
          have hP : va_P D vwCl ((sC cI cL sm ((x9, q.1.2), (va_up q.2.1 n t9, q.2.2)) (putF n (nI (bel (x >>> (4 &&& 31)) 21)) (nI (bel (x >>> (3 &&& 31)) 100)) σ) (n + 1) k) ++ ((oC ob h h2) ++ ((mC cI cZ h a (putF n (nI (bel (x >>> (4 &&& 31)) 21)) (nI (bel (x >>> (3 &&& 31)) 100)) σ)) ++ (mC cI cZ h2 a2 ρ_14)))) H := hP
          have hD : va_D A ((sC cI cL sm ((x9, q.1.2), (va_up q.2.1 n t9, q.2.2)) (putF n (nI (bel (x >>> (4 &&& 31)) 21)) (nI (bel (x >>> (3 &&& 31)) 100)) σ) (n + 1) k) ++ ((oC ob h h2) ++ ((mC cI cZ h a (putF n (nI (bel (x >>> (4 &&& 31)) 21)) (nI (bel (x >>> (3 &&& 31)) 100)) σ)) ++ (mC cI cZ h2 a2 ρ_14)))) := hD
          refine W.wide (k := ((0 + 1) + 1)) (n := ((0 + 5) + 17)) (by show ((0 + 1) + 1) + 0 ≤ ((0 + 1) + 1); omega) (by show ((0 + 5) + 17) + 0 ≤ ((0 + 5) + 17); omega) ?_
          refine lv_iload_n hx hb dL_act_119 rfl (lv_at hl 3 rfl) ?_
          refine lv_icmp_ne (tgt := 127) hx hb dL_act_120 (by decide) (fun z => absurd (rfl) z) (fun c_120 => ?_)
          refine lv_iconst (v := 1) hx hb dL_act_123 (by decide) ?_
          refine lv_goto (tgt := 128) hx hb dL_act_124 (by decide) ?_
          refine W.wide (k := 2) (n := 23) (Nat.le_of_ble_eq_true rfl) (Nat.le_of_ble_eq_true rfl) ?_
          subst hQ
          exact yz ⟨((((n + 1), k), (putF n (nI (bel (x >>> (4 &&& 31)) 21)) (nI (bel (x >>> (3 &&& 31)) 100)) σ, ρ_14)), ((x9, q.1.2), (va_up q.2.1 n t9, q.2.2))), ⟨((hI.pF (by omega) (by omega) (by omega)).mono (by omega)), by show n ≤ (n + 1); omega, by show n < 2 → n < (n + 1); omega⟩⟩ hx hb hr hlocks hK hP hD hS dL_act_128 (Or.inr rfl) rfl rfl
      · have hc_34 : n = 10 := (nI_eq (a := n) (b := 10) (by omega) (by omega)).mp c_34
        refine lv_iconst (v := 1) hx hb dL_act_37 (by decide) ?_
        refine W.wide (k := 2) (n := 23) (Nat.le_of_ble_eq_true rfl) (Nat.le_of_ble_eq_true rfl) ?_
        subst hQ
        exact yz ⟨(((n, k), (σ, τ)), q), ⟨(hI.mono (by omega)), by show n ≤ n; omega, by show n < 2 → n < n; omega⟩⟩ hx hb hr hlocks hK hP hD hS dL_act_38 (Or.inr rfl) rfl rfl
