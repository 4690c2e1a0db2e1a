abbrev rmX1_reaches : Room := { frames := 2, cells := 0, slots := 0, locals := 81 }
theorem b_X1_reaches : Cond.instanceMethod yX1_reaches ∈ LW ∧ Cond.selects RX1 yX1_reaches yX1_reaches ∈ LW ∧ Cond.initialized RX1 ∈ LW ∧ Cond.code yX1_reaches cX1_reaches 4 (some .int) ∈ LW := ⟨q300, q301, q9, q302⟩
set_option maxHeartbeats 4000000 in
set_option maxRecDepth 100000 in
theorem c_X1_reaches (l : Launch) (D : va_G) (cI cZ cL : ClassId) {n k : Nat} (ob h : Nat) (a : Nat → Nat) (h2 : Nat) (a2 : Nat → Nat) (σ τ : Sg) (hst : Shp n k σ) (j : Nat) (hj : j < n) : MX l yX1_reaches cX1_reaches 4 (some .int) rmX1_reaches D (tZ cI cZ cL) [.ref ob, .int (nI j)] ((oC ob h h2) ++ ((mC cI cZ h a σ) ++ (mC cI cZ h2 a2 τ))) (fun ρ => (oC ob h h2) ++ ((mC cI cZ h a σ) ++ (mC cI cZ h2 a2 ρ))) (some (.int (reachS σ j))) := by
  refine MX.of (by decide) (Nat.le_of_ble_eq_true rfl) ?_
  intro p e s m args below meth c A ls Q hx hb hml hr hts hown hlocks hA hP hD hK hS hl hQ hE
  have hown : s.vm.findClass RX1 = some m.cls := hown
  have hn10 := hst.1
  have hk16 := hst.2.1
  have hl : lv_has ls 4 [(0, .ref ob), (1, .int (nI j))] := hl
  refine lv_aload_n hx hb dX1_reaches_0 rfl (lv_at hl 0 rfl) ?_
  refine lv_iload_n hx hb dX1_reaches_1 rfl (lv_at hl 1 rfl) ?_
  refine MC.callV (C := RX1) (T := TX1) (N := 2) (As := [.int (nI j)]) (rest := []) (wB := (oC ob h h2) ++ ((mC cI cZ h a σ) ++ (mC cI cZ h2 a2 τ))) (c_X1_requireField_ok l D cI cZ cL ob h a h2 a2 σ τ (nI j) (hasF_0 hst hj)) ⟨hx, hb, hml, hown, hts⟩ q258 b_X1_requireField (n := 1) (by decide +kernel) ⟨Nat.le_of_ble_eq_true rfl, Nat.le_of_ble_eq_true rfl⟩ hK hP hD hS hA (sp0 _) (sp0 _) (ci := 1) rfl (q0 := 0) rfl rfl hl.1 rfl (Nat.le_of_ble_eq_true rfl) dX1_reaches_2 ⟨Nat.le_of_ble_eq_true rfl, Nat.le_of_ble_eq_true rfl⟩ (fun H locs hP hD hS => ?_)
  refine lv_iconst (v := 1) hx hb dX1_reaches_5 (by decide) ?_
  refine lv_iload_n hx hb dX1_reaches_6 rfl (lv_at hl 1 rfl) ?_
  refine lv_ishl hx hb dX1_reaches_7 ?_
  refine x_top (mk_shl j (by omega)) ?_
  refine lv_istore_n (lv' := [(2, .int (nI (2 ^ j))), (0, .ref ob), (1, .int (nI j))]) hx hb dX1_reaches_8 rfl hl (by decide) rfl (fun ls hl => ?_)
  refine lv_iconst (v := 1) hx hb dX1_reaches_9 (by decide) ?_
  refine lv_istore_n (lv' := [(3, .int 1), (2, .int (nI (2 ^ j))), (0, .ref ob), (1, .int (nI j))]) hx hb dX1_reaches_10 rfl hl (by decide) rfl (fun ls hl => ?_)
  have hl : lv_has ls 4 [(3, .int (nI 1)), (2, .int (nI (rnd σ (2 ^ j) (1 - 1)))), (0, .ref ob), (1, .int (nI j))] := hl
  have L11 : ∀ (f i : Nat), i ≤ n → n < i + f → 1 ≤ i → ∀ (H : Heap) (locs : List Loc) (ls : Array Slot), va_P D vwCl ((oC ob h h2) ++ ((mC cI cZ h a σ) ++ (mC cI cZ h2 a2 τ))) H → va_D A ((oC ob h h2) ++ ((mC cI cZ h a σ) ++ (mC cI cZ h2 a2 τ))) → va_S A s.heap H locs → lv_has ls 4 [(0, .ref ob), (2, .int (nI (rnd σ (2 ^ j) (i - 1)))), (3, .int (nI i))] → W p l e rmX1_reaches s m args below meth c H locs 0 0 Q (F0 m 11 ls []) := by
    intro f
    induction f with
    | zero => intro i h1 h2; exact absurd h2 (by omega)
    | succ f ih_11 =>
      intro i hi_11 hf_11 h1i H locs ls hP hD hS hl
      refine lv_iload_n hx hb dX1_reaches_11 rfl (lv_at hl 2 rfl) ?_
      refine lv_aload_n hx hb dX1_reaches_12 rfl (lv_at hl 0 rfl) ?_
      refine x_get (C := RX1) (T := TX1) (N := 2) hx hb hts in_wsX10 hown hK hP 0 rfl rfl 0 (by decide) q98 (v := .ref h) rfl dX1_reaches_13 ?_
      refine x_getN (C := RX0) (T := TX0) (N := 16) hx hb hts in_wsX00 hown hK hP 1 rfl rfl 11 (by decide) (hE.w 4 rfl) (v := .int (nI n)) (congrArg (fun z => some (Value.int z)) (hst.f0)) dX1_reaches_16 ?_
      refine lv_icmp_ge (tgt := 37) hx hb dX1_reaches_19 (by decide) (fun c_19 => ?_) (fun c_19 => ?_)
      · have hc_19 : n ≤ i := (nI_leI (a := n) (b := i) (by omega) (by omega)).mp c_19
        refine lv_iload_n hx hb dX1_reaches_37 rfl (lv_at hl 1 rfl) ?_
        refine MC.callS (As := [.int (nI (rnd σ (2 ^ j) (i - 1)))]) (rest := []) (wB := (oC ob h h2) ++ ((mC cI cZ h a σ) ++ (mC cI cZ h2 a2 τ))) (c_J6_bitCount_0f7a4 l D cI cZ cL (nI (rnd σ (2 ^ j) (i - 1)))) ⟨hx, hb, hml, hown, hts⟩ q307 b_J6_bitCount_0f7a4 (n := 1) (by decide +kernel) ⟨Nat.le_of_ble_eq_true rfl, Nat.le_of_ble_eq_true rfl⟩ hK hP hD hS hA (spE _) (spE _) rfl hl.1 rfl (Nat.le_of_ble_eq_true rfl) dX1_reaches_38 ⟨Nat.le_of_ble_eq_true rfl, Nat.le_of_ble_eq_true rfl⟩ (fun H locs hP hD hS => ?_)
        refine lv_iconst (v := 1) hx hb dX1_reaches_41 (by decide) ?_
        refine lv_isub hx hb dX1_reaches_42 ?_
        subst hQ
        exact xri τ hx hb hr hlocks hK hP hD hS dX1_reaches_43 (rfl) (by unfold reachS cloM; rw [hst.eF, bc_is (p10 hn10 (rn_lt hst (Nat.pow_lt_pow_right (by decide) hj) (i - 1))), show i = n by omega])
      · have hc_19 : i < n := Nat.not_le.mp (fun z => c_19 ((nI_leI (a := n) (b := i) (by omega) (by omega)).mpr z))
        refine lv_aload_n hx hb dX1_reaches_22 rfl (lv_at hl 0 rfl) ?_
        refine x_get (C := RX1) (T := TX1) (N := 2) hx hb hts in_wsX10 hown hK hP 0 rfl rfl 0 (by decide) q98 (v := .ref h) rfl dX1_reaches_23 ?_
        refine lv_iload_n hx hb dX1_reaches_26 rfl (lv_at hl 1 rfl) ?_
        refine MC.callV (C := RX0) (T := TX0) (N := 16) (As := [.int (nI (rnd σ (2 ^ j) (i - 1)))]) (rest := []) (wB := (oC ob h h2) ++ ((mC cI cZ h a σ) ++ (mC cI cZ h2 a2 τ))) (c_X0_spreadByDrains l D cI cZ cL h a σ hst (rnd σ (2 ^ j) (i - 1)) (rn_lt hst (Nat.pow_lt_pow_right (by decide) hj) (i - 1))) ⟨hx, hb, hml, hown, hts⟩ q303 b_X0_spreadByDrains (n := 1) (by decide +kernel) ⟨Nat.le_of_ble_eq_true rfl, Nat.le_of_ble_eq_true rfl⟩ hK hP hD hS hA (sp1 _ _ _) (sp1 _ _ _) (ci := 0) rfl (q0 := 1) rfl rfl hl.1 rfl (Nat.le_of_ble_eq_true rfl) dX1_reaches_27 ⟨Nat.le_of_ble_eq_true rfl, Nat.le_of_ble_eq_true rfl⟩ (fun H locs hP hD hS => ?_)
        refine x_top (rfl) ?_
        refine lv_istore_n (lv' := [(2, .int (nI (passM σ (rnd σ (2 ^ j) (i - 1))))), (0, .ref ob), (3, .int (nI i))]) hx hb dX1_reaches_30 rfl hl (by decide) rfl (fun ls hl => ?_)
        refine lv_iinc (v := (nI (i + 1))) (lv' := [(3, .int (nI (i + 1))), (2, .int (nI (passM σ (rnd σ (2 ^ j) (i - 1))))), (0, .ref ob)]) hx hb dX1_reaches_31 hl (k := 2) rfl (nI_add i 1) (by decide) rfl (fun ls hl => ?_)
        refine lv_goto (tgt := 11) hx hb dX1_reaches_34 (by decide) ?_
        have e8 : (nI (passM σ (rnd σ (2 ^ j) (i - 1)))) = nI (rnd σ (2 ^ j) (i + 1 - 1)) := by
          rw [show i + 1 - 1 = (i - 1) + 1 by omega]; rfl
        rw [e8] at hl
        exact ih_11 (i + 1) (by omega) (by omega) (by omega) _ _ _ hP hD hS (lv_sub hl [2, 1, 0] rfl)
  exact L11 (n + 1) 1 (by omega) (by omega) (Nat.le_refl 1) _ _ _ hP hD hS (lv_sub hl [2, 1, 0] rfl)

abbrev rmX1_mix : Room := { frames := 0, cells := 0, slots := 0, locals := 0 }
theorem b_X1_mix : Cond.static yX1_mix ∈ LW ∧ Cond.initialized yX1_mix.cls ∈ LW ∧ Cond.code yX1_mix cX1_mix 3 (some .long) ∈ LW := ⟨q381, q9, q382⟩
set_option maxHeartbeats 4000000 in
set_option maxRecDepth 100000 in
theorem c_X1_mix (l : Launch) (D : va_G) (cI cZ cL : ClassId) (d : Int64) (x : Int32) : MC l yX1_mix cX1_mix 3 (some .long) rmX1_mix D (tZ cI cZ cL) [.long d, .int x] ([]) ([]) (some (.long (mx d x))) := by
  refine MC.of (by decide) (Nat.le_of_ble_eq_true rfl) ?_
  intro p e s m args below meth c A ls Q hx hb hml hr hts hown hlocks hA hP hD hK hS hl hQ
  have hown : s.vm.findClass RX1 = some m.cls := hown
  have hl : lv_has ls 3 [(0, .long d), (2, .int x)] := hl
  refine lv_lload_n hx hb dX1_mix_0 rfl (lv_at hl 0 rfl) ?_
  refine lv_ldc2 hx hb hown (hts _ q383) dX1_mix_1 ?_
  refine lv_lmul hx hb dX1_mix_4 ?_
  refine lv_iload_n hx hb dX1_mix_5 rfl (lv_at hl 1 rfl) ?_
  refine lv_i2l hx hb dX1_mix_6 rfl ?_
  refine lv_ladd hx hb dX1_mix_7 ?_
  subst hQ
  exact rl hx hb hr hlocks hK hP hD hS dX1_mix_8 (rfl) (rfl)

abbrev rmX1_mixFields : Room := { frames := 5, cells := 0, slots := 0, locals := 127 }
theorem b_X1_mixFields : Cond.instanceMethod yX1_mixFields ∈ LW ∧ Cond.selects RX1 yX1_mixFields yX1_mixFields ∈ LW ∧ Cond.initialized RX1 ∈ LW ∧ Cond.code yX1_mixFields cX1_mixFields 6 (some .long) ∈ LW := ⟨q406, q5, q9, q407⟩
set_option maxHeartbeats 4000000 in
set_option maxRecDepth 100000 in
theorem c_X1_mixFields (l : Launch) (D : va_G) (cI cZ cL : ClassId) {n k : Nat} (ob h : Nat) (a : Nat → Nat) (h2 : Nat) (a2 : Nat → Nat) (σ τ : Sg) (hst : Shp n k σ) {B : Nat} (hB : Bnd B σ) (d : Int64) : MX l yX1_mixFields cX1_mixFields 6 (some .long) rmX1_mixFields D (tZ cI cZ cL) [.ref ob, .long d] ((oC ob h h2) ++ ((mC cI cZ h a σ) ++ (mC cI cZ h2 a2 τ))) (fun ρ => (oC ob h h2) ++ ((mC cI cZ h a σ) ++ (mC cI cZ h2 a2 ρ))) (some (.long (fldsD σ d n))) := by
  refine MX.of (by decide) (Nat.le_of_ble_eq_true rfl) ?_
  intro p e s m args below meth c A ls Q hx hb hml hr hts hown hlocks hA hP hD hK hS hl hQ hE
  have hown : s.vm.findClass RX1 = some m.cls := hown
  have hn10 := hst.1
  have hk16 := hst.2.1
  have hl : lv_has ls 6 [(0, .ref ob), (1, .long d)] := hl
  refine lv_lload_n hx hb dX1_mixFields_0 rfl (lv_at hl 1 rfl) ?_
  refine lv_lstore_n (lv' := [(3, .long d), (0, .ref ob), (1, .long d)]) hx hb dX1_mixFields_1 rfl hl (by decide) rfl (fun ls hl => ?_)
  refine lv_iconst (v := 0) hx hb dX1_mixFields_2 (by decide) ?_
  refine lv_istore (lv' := [(5, .int 0), (3, .long d), (0, .ref ob), (1, .long d)]) hx hb dX1_mixFields_3 hl (by decide) rfl (fun ls hl => ?_)
  have hl : lv_has ls 6 [(5, .int (nI 0)), (3, .long (fldsD σ d 0)), (0, .ref ob), (1, .long d)] := hl
  have L5 : ∀ (f i : Nat) (ρ : Sg), i ≤ n → n < i + f → ∀ (H : Heap) (locs : List Loc) (ls : Array Slot), va_P D vwCl ((oC ob h h2) ++ ((mC cI cZ h a σ) ++ (mC cI cZ h2 a2 ρ))) H → va_D A ((oC ob h h2) ++ ((mC cI cZ h a σ) ++ (mC cI cZ h2 a2 ρ))) → va_S A s.heap H locs → lv_has ls 6 [(0, .ref ob), (3, .long (fldsD σ d i)), (5, .int (nI i))] → W p l e rmX1_mixFields s m args below meth c H locs 0 0 Q (F0 m 5 ls []) := by
    intro f
    induction f with
    | zero => intro i ρ h1 h2; exact absurd h2 (by omega)
    | succ f ih_5 =>
      intro i ρ hi_5 hf_5 H locs ls hP hD hS hl
      refine lv_iload hx hb dX1_mixFields_5 (lv_at hl 2 rfl) ?_
      refine lv_aload_n hx hb dX1_mixFields_7 rfl (lv_at hl 0 rfl) ?_
      refine x_get (C := RX1) (T := TX1) (N := 2) hx hb hts in_wsX10 hown hK hP 0 rfl rfl 0 (by decide) q98 (v := .ref h) rfl dX1_mixFields_8 ?_
      refine x_getN (C := RX0) (T := TX0) (N := 16) hx hb hts in_wsX00 hown hK hP 1 rfl rfl 11 (by decide) (hE.w 4 rfl) (v := .int (nI n)) (congrArg (fun z => some (Value.int z)) (hst.f0)) dX1_mixFields_11 ?_
      refine lv_icmp_ge (tgt := 97) hx hb dX1_mixFields_14 (by decide) (fun c_14 => ?_) (fun c_14 => ?_)
      · have hc_14 : n ≤ i := (nI_leI (a := n) (b := i) (by omega) (by omega)).mp c_14
        refine lv_lload_n hx hb dX1_mixFields_97 rfl (lv_at hl 1 rfl) ?_
        subst hQ
        exact xrl ρ hx hb hr hlocks hK hP hD hS dX1_mixFields_98 (rfl) (by rw [show i = n by omega])
      · have hc_14 : i < n := Nat.not_le.mp (fun z => c_14 ((nI_leI (a := n) (b := i) (by omega) (by omega)).mpr z))
        refine lv_lload_n hx hb dX1_mixFields_17 rfl (lv_at hl 1 rfl) ?_
        refine lv_aload_n hx hb dX1_mixFields_18 rfl (lv_at hl 0 rfl) ?_
        refine lv_iload hx hb dX1_mixFields_19 (lv_at hl 2 rfl) ?_
        refine MX.callV (C := RX1) (T := TX1) (N := 2) (As := [.int (nI i)]) (rest := [.long (fldsD σ d i)]) (wB := (fun ρ => (oC ob h h2) ++ ((mC cI cZ h a σ) ++ (mC cI cZ h2 a2 ρ)))) (c_X1_waterOn l D cI cZ cL ob h a h2 a2 σ ρ hst i (by omega)) ⟨hx, hb, hml, hown, hts⟩ q408 b_X1_waterOn (n := 1) (by decide +kernel) ⟨Nat.le_of_ble_eq_true rfl, Nat.le_of_ble_eq_true rfl⟩ hK hP hD hS hA hE (sp0 _) (fun _ => sp0 _) (ci := 1) rfl (q0 := 0) rfl rfl hl.1 rfl (Nat.le_of_ble_eq_true rfl) dX1_mixFields_21 ⟨Nat.le_of_ble_eq_true rfl, Nat.le_of_ble_eq_true rfl⟩ (fun ρ_1 H locs hP hD hS => ?_)
        have hP : va_P D vwCl ((oC ob h h2) ++ ((mC cI cZ h a σ) ++ (mC cI cZ h2 a2 ρ_1))) H := hP
        have hD : va_D A ((oC ob h h2) ++ ((mC cI cZ h a σ) ++ (mC cI cZ h2 a2 ρ_1))) := hD
        refine MC.callS (As := [.long (fldsD σ d i), .int (σ 2 i)]) (rest := []) (wB := (oC ob h h2) ++ ((mC cI cZ h a σ) ++ (mC cI cZ h2 a2 ρ_1))) (c_X1_mix l D cI cZ cL (fldsD σ d i) (σ 2 i)) ⟨hx, hb, hml, hown, hts⟩ q380 b_X1_mix (n := 2) (by decide +kernel) ⟨Nat.le_of_ble_eq_true rfl, Nat.le_of_ble_eq_true rfl⟩ hK hP hD hS hA (spE _) (spE _) rfl hl.1 rfl (Nat.le_of_ble_eq_true rfl) dX1_mixFields_24 ⟨Nat.le_of_ble_eq_true rfl, Nat.le_of_ble_eq_true rfl⟩ (fun H locs hP hD hS => ?_)
        refine lv_lstore_n (lv' := [(3, .long (mx (fldsD σ d i) (σ 2 i))), (0, .ref ob), (5, .int (nI i))]) hx hb dX1_mixFields_27 rfl hl (by decide) rfl (fun ls hl => ?_)
        refine lv_lload_n hx hb dX1_mixFields_28 rfl (lv_at hl 0 rfl) ?_
        refine lv_aload_n hx hb dX1_mixFields_29 rfl (lv_at hl 1 rfl) ?_
        refine lv_iload hx hb dX1_mixFields_30 (lv_at hl 2 rfl) ?_
        refine MX.callV (C := RX1) (T := TX1) (N := 2) (As := [.int (nI i)]) (rest := [.long (mx (fldsD σ d i) (σ 2 i))]) (wB := (fun ρ => (oC ob h h2) ++ ((mC cI cZ h a σ) ++ (mC cI cZ h2 a2 ρ)))) (c_X1_wetFor l D cI cZ cL ob h a h2 a2 σ ρ_1 hst i (by omega)) ⟨hx, hb, hml, hown, hts⟩ q409 b_X1_wetFor (n := 1) (by decide +kernel) ⟨Nat.le_of_ble_eq_true rfl, Nat.le_of_ble_eq_true rfl⟩ hK hP hD hS hA hE (sp0 _) (fun _ => sp0 _) (ci := 1) rfl (q0 := 0) rfl rfl hl.1 rfl (Nat.le_of_ble_eq_true rfl) dX1_mixFields_32 ⟨Nat.le_of_ble_eq_true rfl, Nat.le_of_ble_eq_true rfl⟩ (fun ρ_2 H locs hP hD hS => ?_)
        have hP : va_P D vwCl ((oC ob h h2) ++ ((mC cI cZ h a σ) ++ (mC cI cZ h2 a2 ρ_2))) H := hP
        have hD : va_D A ((oC ob h h2) ++ ((mC cI cZ h a σ) ++ (mC cI cZ h2 a2 ρ_2))) := hD
        refine MC.callS (As := [.long (mx (fldsD σ d i) (σ 2 i)), .int (σ 3 i)]) (rest := []) (wB := (oC ob h h2) ++ ((mC cI cZ h a σ) ++ (mC cI cZ h2 a2 ρ_2))) (c_X1_mix l D cI cZ cL (mx (fldsD σ d i) (σ 2 i)) (σ 3 i)) ⟨hx, hb, hml, hown, hts⟩ q380 b_X1_mix (n := 2) (by decide +kernel) ⟨Nat.le_of_ble_eq_true rfl, Nat.le_of_ble_eq_true rfl⟩ hK hP hD hS hA (spE _) (spE _) rfl hl.1 rfl (Nat.le_of_ble_eq_true rfl) dX1_mixFields_35 ⟨Nat.le_of_ble_eq_true rfl, Nat.le_of_ble_eq_true rfl⟩ (fun H locs hP hD hS => ?_)
        refine lv_lstore_n (lv' := [(3, .long (mx (mx (fldsD σ d i) (σ 2 i)) (σ 3 i))), (0, .ref ob), (5, .int (nI i))]) hx hb dX1_mixFields_38 rfl hl (by decide) rfl (fun ls hl => ?_)
        refine lv_lload_n hx hb dX1_mixFields_39 rfl (lv_at hl 0 rfl) ?_
        refine lv_aload_n hx hb dX1_mixFields_40 rfl (lv_at hl 1 rfl) ?_
        refine lv_iload hx hb dX1_mixFields_41 (lv_at hl 2 rfl) ?_
        refine MX.callV (C := RX1) (T := TX1) (N := 2) (As := [.int (nI i)]) (rest := [.long (mx (mx (fldsD σ d i) (σ 2 i)) (σ 3 i))]) (wB := (fun ρ => (oC ob h h2) ++ ((mC cI cZ h a σ) ++ (mC cI cZ h2 a2 ρ)))) (c_X1_isRuined l D cI cZ cL ob h a h2 a2 σ ρ_2 hst hB i (by omega)) ⟨hx, hb, hml, hown, hts⟩ q410 b_X1_isRuined (n := 1) (by decide +kernel) ⟨Nat.le_of_ble_eq_true rfl, Nat.le_of_ble_eq_true rfl⟩ hK hP hD hS hA hE (sp0 _) (fun _ => sp0 _) (ci := 1) rfl (q0 := 0) rfl rfl hl.1 rfl (Nat.le_of_ble_eq_true rfl) dX1_mixFields_43 ⟨Nat.le_of_ble_eq_true rfl, Nat.le_of_ble_eq_true rfl⟩ (fun ρ_3 H locs hP hD hS => ?_)
        have hP : va_P D vwCl ((oC ob h h2) ++ ((mC cI cZ h a σ) ++ (mC cI cZ h2 a2 ρ_3))) H := hP
        have hD : va_D A ((oC ob h h2) ++ ((mC cI cZ h a σ) ++ (mC cI cZ h2 a2 ρ_3))) := hD
        have J54_1 : W p l e rmX1_mixFields s m args below meth c H locs 0 0 Q (F0 m 54 ls [.int (σ 4 i), .long (mx (mx (fldsD σ d i) (σ 2 i)) (σ 3 i))]) := by
          refine MC.callS (As := [.long (mx (mx (fldsD σ d i) (σ 2 i)) (σ 3 i)), .int (σ 4 i)]) (rest := []) (wB := (oC ob h h2) ++ ((mC cI cZ h a σ) ++ (mC cI cZ h2 a2 ρ_3))) (c_X1_mix l D cI cZ cL (mx (mx (fldsD σ d i) (σ 2 i)) (σ 3 i)) (σ 4 i)) ⟨hx, hb, hml, hown, hts⟩ q380 b_X1_mix (n := 2) (by decide +kernel) ⟨Nat.le_of_ble_eq_true rfl, Nat.le_of_ble_eq_true rfl⟩ hK hP hD hS hA (spE _) (spE _) rfl hl.1 rfl (Nat.le_of_ble_eq_true rfl) dX1_mixFields_54 ⟨Nat.le_of_ble_eq_true rfl, Nat.le_of_ble_eq_true rfl⟩ (fun H locs hP hD hS => ?_)
          refine lv_lstore_n (lv' := [(3, .long (mx (mx (mx (fldsD σ d i) (σ 2 i)) (σ 3 i)) (σ 4 i))), (0, .ref ob), (5, .int (nI i))]) hx hb dX1_mixFields_57 rfl hl (by decide) rfl (fun ls hl => ?_)
          refine lv_lload_n hx hb dX1_mixFields_58 rfl (lv_at hl 0 rfl) ?_
          refine lv_aload_n hx hb dX1_mixFields_59 rfl (lv_at hl 1 rfl) ?_
          refine lv_iload hx hb dX1_mixFields_60 (lv_at hl 2 rfl) ?_
          refine MX.callV (C := RX1) (T := TX1) (N := 2) (As := [.int (nI i)]) (rest := [.long (mx (mx (mx (fldsD σ d i) (σ 2 i)) (σ 3 i)) (σ 4 i))]) (wB := (fun ρ => (oC ob h h2) ++ ((mC cI cZ h a σ) ++ (mC cI cZ h2 a2 ρ)))) (c_X1_drainsAt l D cI cZ cL ob h a h2 a2 σ ρ_3 hst i (by omega)) ⟨hx, hb, hml, hown, hts⟩ q411 b_X1_drainsAt (n := 1) (by decide +kernel) ⟨Nat.le_of_ble_eq_true rfl, Nat.le_of_ble_eq_true rfl⟩ hK hP hD hS hA hE (sp0 _) (fun _ => sp0 _) (ci := 1) rfl (q0 := 0) rfl rfl hl.1 rfl (Nat.le_of_ble_eq_true rfl) dX1_mixFields_62 ⟨Nat.le_of_ble_eq_true rfl, Nat.le_of_ble_eq_true rfl⟩ (fun ρ_4 H locs hP hD hS => ?_)
          have hP : va_P D vwCl ((oC ob h h2) ++ ((mC cI cZ h a σ) ++ (mC cI cZ h2 a2 ρ_4))) H := hP
          have hD : va_D A ((oC ob h h2) ++ ((mC cI cZ h a σ) ++ (mC cI cZ h2 a2 ρ_4))) := hD
          refine MC.callS (As := [.long (mx (mx (mx (fldsD σ d i) (σ 2 i)) (σ 3 i)) (σ 4 i)), .int (openS σ i)]) (rest := []) (wB := (oC ob h h2) ++ ((mC cI cZ h a σ) ++ (mC cI cZ h2 a2 ρ_4))) (c_X1_mix l D cI cZ cL (mx (mx (mx (fldsD σ d i) (σ 2 i)) (σ 3 i)) (σ 4 i)) (openS σ i)) ⟨hx, hb, hml, hown, hts⟩ q380 b_X1_mix (n := 2) (by decide +kernel) ⟨Nat.le_of_ble_eq_true rfl, Nat.le_of_ble_eq_true rfl⟩ hK hP hD hS hA (spE _) (spE _) rfl hl.1 rfl (Nat.le_of_ble_eq_true rfl) dX1_mixFields_65 ⟨Nat.le_of_ble_eq_true rfl, Nat.le_of_ble_eq_true rfl⟩ (fun H locs hP hD hS => ?_)
          refine lv_lstore_n (lv' := [(3, .long (mx (mx (mx (mx (fldsD σ d i) (σ 2 i)) (σ 3 i)) (σ 4 i)) (openS σ i))), (0, .ref ob), (5, .int (nI i))]) hx hb dX1_mixFields_68 rfl hl (by decide) rfl (fun ls hl => ?_)
          refine lv_lload_n hx hb dX1_mixFields_69 rfl (lv_at hl 0 rfl) ?_
          refine lv_aload_n hx hb dX1_mixFields_70 rfl (lv_at hl 1 rfl) ?_
          refine lv_iload hx hb dX1_mixFields_71 (lv_at hl 2 rfl) ?_
          refine MX.callV (C := RX1) (T := TX1) (N := 2) (As := [.int (nI i)]) (rest := [.long (mx (mx (mx (mx (fldsD σ d i) (σ 2 i)) (σ 3 i)) (σ 4 i)) (openS σ i))]) (wB := (fun ρ => (oC ob h h2) ++ ((mC cI cZ h a σ) ++ (mC cI cZ h2 a2 ρ)))) (c_X1_reaches l D cI cZ cL ob h a h2 a2 σ ρ_4 hst i (by omega)) ⟨hx, hb, hml, hown, hts⟩ q412 b_X1_reaches (n := 1) (by decide +kernel) ⟨Nat.le_of_ble_eq_true rfl, Nat.le_of_ble_eq_true rfl⟩ hK hP hD hS hA hE (sp0 _) (fun _ => sp0 _) (ci := 1) rfl (q0 := 0) rfl rfl hl.1 rfl (Nat.le_of_ble_eq_true rfl) dX1_mixFields_73 ⟨Nat.le_of_ble_eq_true rfl, Nat.le_of_ble_eq_true rfl⟩ (fun ρ_5 H locs hP hD hS => ?_)
          have hP : va_P D vwCl ((oC ob h h2) ++ ((mC cI cZ h a σ) ++ (mC cI cZ h2 a2 ρ_5))) H := hP
          have hD : va_D A ((oC ob h h2) ++ ((mC cI cZ h a σ) ++ (mC cI cZ h2 a2 ρ_5))) := hD
          refine MC.callS (As := [.long (mx (mx (mx (mx (fldsD σ d i) (σ 2 i)) (σ 3 i)) (σ 4 i)) (openS σ i)), .int (reachS σ i)]) (rest := []) (wB := (oC ob h h2) ++ ((mC cI cZ h a σ) ++ (mC cI cZ h2 a2 ρ_5))) (c_X1_mix l D cI cZ cL (mx (mx (mx (mx (fldsD σ d i) (σ 2 i)) (σ 3 i)) (σ 4 i)) (openS σ i)) (reachS σ i)) ⟨hx, hb, hml, hown, hts⟩ q380 b_X1_mix (n := 2) (by decide +kernel) ⟨Nat.le_of_ble_eq_true rfl, Nat.le_of_ble_eq_true rfl⟩ hK hP hD hS hA (spE _) (spE _) rfl hl.1 rfl (Nat.le_of_ble_eq_true rfl) dX1_mixFields_76 ⟨Nat.le_of_ble_eq_true rfl, Nat.le_of_ble_eq_true rfl⟩ (fun H locs hP hD hS => ?_)
          refine lv_lstore_n (lv' := [(3, .long (mx (mx (mx (mx (mx (fldsD σ d i) (σ 2 i)) (σ 3 i)) (σ 4 i)) (openS σ i)) (reachS σ i))), (0, .ref ob), (5, .int (nI i))]) hx hb dX1_mixFields_79 rfl hl (by decide) rfl (fun ls hl => ?_)
          refine lv_lload_n hx hb dX1_mixFields_80 rfl (lv_at hl 0 rfl) ?_
          refine lv_aload_n hx hb dX1_mixFields_81 rfl (lv_at hl 1 rfl) ?_
          refine lv_iload hx hb dX1_mixFields_82 (lv_at hl 2 rfl) ?_
          refine MX.callV (C := RX1) (T := TX1) (N := 2) (As := [.int (nI i)]) (rest := [.long (mx (mx (mx (mx (mx (fldsD σ d i) (σ 2 i)) (σ 3 i)) (σ 4 i)) (openS σ i)) (reachS σ i))]) (wB := (fun ρ => (oC ob h h2) ++ ((mC cI cZ h a σ) ++ (mC cI cZ h2 a2 ρ)))) (c_X1_hoursUntilRuined l D cI cZ cL ob h a h2 a2 σ ρ_5 hst hB i (by omega)) ⟨hx, hb, hml, hown, hts⟩ q413 b_X1_hoursUntilRuined (n := 1) (by decide +kernel) ⟨Nat.le_of_ble_eq_true rfl, Nat.le_of_ble_eq_true rfl⟩ hK hP hD hS hA hE (sp0 _) (fun _ => sp0 _) (ci := 1) rfl (q0 := 0) rfl rfl hl.1 rfl (Nat.le_of_ble_eq_true rfl) dX1_mixFields_84 ⟨Nat.le_of_ble_eq_true rfl, Nat.le_of_ble_eq_true rfl⟩ (fun ρ_6 H locs hP hD hS => ?_)
          have hP : va_P D vwCl ((oC ob h h2) ++ ((mC cI cZ h a σ) ++ (mC cI cZ h2 a2 ρ_6))) H := hP
          have hD : va_D A ((oC ob h h2) ++ ((mC cI cZ h a σ) ++ (mC cI cZ h2 a2 ρ_6))) := hD
          refine MC.callS (As := [.long (mx (mx (mx (mx (mx (fldsD σ d i) (σ 2 i)) (σ 3 i)) (σ 4 i)) (openS σ i)) (reachS σ i)), .int (untilS σ i)]) (rest := []) (wB := (oC ob h h2) ++ ((mC cI cZ h a σ) ++ (mC cI cZ h2 a2 ρ_6))) (c_X1_mix l D cI cZ cL (mx (mx (mx (mx (mx (fldsD σ d i) (σ 2 i)) (σ 3 i)) (σ 4 i)) (openS σ i)) (reachS σ i)) (untilS σ i)) ⟨hx, hb, hml, hown, hts⟩ q380 b_X1_mix (n := 2) (by decide +kernel) ⟨Nat.le_of_ble_eq_true rfl, Nat.le_of_ble_eq_true rfl⟩ hK hP hD hS hA (spE _) (spE _) rfl hl.1 rfl (Nat.le_of_ble_eq_true rfl) dX1_mixFields_87 ⟨Nat.le_of_ble_eq_true rfl, Nat.le_of_ble_eq_true rfl⟩ (fun H locs hP hD hS => ?_)
          refine lv_lstore_n (lv' := [(3, .long (mx (mx (mx (mx (mx (mx (fldsD σ d i) (σ 2 i)) (σ 3 i)) (σ 4 i)) (openS σ i)) (reachS σ i)) (untilS σ i))), (0, .ref ob), (5, .int (nI i))]) hx hb dX1_mixFields_90 rfl hl (by decide) rfl (fun ls hl => ?_)
          refine lv_iinc (v := (nI (i + 1))) (lv' := [(5, .int (nI (i + 1))), (3, .long (mx (mx (mx (mx (mx (mx (fldsD σ d i) (σ 2 i)) (σ 3 i)) (σ 4 i)) (openS σ i)) (reachS σ i)) (untilS σ i))), (0, .ref ob)]) hx hb dX1_mixFields_91 hl (k := 2) rfl (nI_add i 1) (by decide) rfl (fun ls hl => ?_)
          refine lv_goto (tgt := 5) hx hb dX1_mixFields_94 (by decide) ?_
          have hl : lv_has ls 6 [(5, .int (nI (i + 1))), (3, .long (fldsD σ d (i + 1))), (0, .ref ob)] := hl
          exact ih_5 (i + 1) ρ_6 (by omega) (by omega) _ _ _ hP hD hS (lv_sub hl [2, 1, 0] rfl)
        refine lv_if_eq (tgt := 53) hx hb dX1_mixFields_46 (by decide) (fun c_46 => ?_) (fun c_46 => ?_)
        · refine lv_iconst (v := 0) hx hb dX1_mixFields_53 (by decide) ?_
          exact x_top (show 0 = σ 4 i from c_46.symm) J54_1
        · refine lv_iconst (v := 1) hx hb dX1_mixFields_49 (by decide) ?_
          refine lv_goto (tgt := 54) hx hb dX1_mixFields_50 (by decide) ?_
          exact x_top (show 1 = σ 4 i from ((hB.2.2.2.2.1 i (by omega)).resolve_left c_46).symm) J54_1
  exact L5 (n + 1) 0 τ (by omega) (by omega) _ _ _ hP hD hS (lv_sub hl [2, 1, 0] rfl)

abbrev rmX1_mixDrains : Room := { frames := 3, cells := 0, slots := 0, locals := 105 }
theorem b_X1_mixDrains : Cond.instanceMethod yX1_mixDrains ∈ LW ∧ Cond.selects RX1 yX1_mixDrains yX1_mixDrains ∈ LW ∧ Cond.initialized RX1 ∈ LW ∧ Cond.code yX1_mixDrains cX1_mixDrains 6 (some .long) ∈ LW := ⟨q416, q6, q9, q417⟩
set_option maxHeartbeats 4000000 in
set_option maxRecDepth 100000 in
theorem c_X1_mixDrains (l : Launch) (D : va_G) (cI cZ cL : ClassId) {n k : Nat} (ob h : Nat) (a : Nat → Nat) (h2 : Nat) (a2 : Nat → Nat) (σ τ : Sg) (hst : Shp n k σ) {B : Nat} (hB : Bnd B σ) (d : Int64) : MX l yX1_mixDrains cX1_mixDrains 6 (some .long) rmX1_mixDrains D (tZ cI cZ cL) [.ref ob, .long d] ((oC ob h h2) ++ ((mC cI cZ h a σ) ++ (mC cI cZ h2 a2 τ))) (fun ρ => (oC ob h h2) ++ ((mC cI cZ h a σ) ++ (mC cI cZ h2 a2 ρ))) (some (.long (drnsD σ d k))) := by
  refine MX.of (by decide) (Nat.le_of_ble_eq_true rfl) ?_
  intro p e s m args below meth c A ls Q hx hb hml hr hts hown hlocks hA hP hD hK hS hl hQ hE
  have hown : s.vm.findClass RX1 = some m.cls := hown
  have hn10 := hst.1
  have hk16 := hst.2.1
  have hl : lv_has ls 6 [(0, .ref ob), (1, .long d)] := hl
  refine lv_lload_n hx hb dX1_mixDrains_0 rfl (lv_at hl 1 rfl) ?_
  refine lv_lstore_n (lv' := [(3, .long d), (0, .ref ob), (1, .long d)]) hx hb dX1_mixDrains_1 rfl hl (by decide) rfl (fun ls hl => ?_)
  refine lv_iconst (v := 0) hx hb dX1_mixDrains_2 (by decide) ?_
  refine lv_istore (lv' := [(5, .int 0), (3, .long d), (0, .ref ob), (1, .long d)]) hx hb dX1_mixDrains_3 hl (by decide) rfl (fun ls hl => ?_)
  have hl : lv_has ls 6 [(5, .int (nI 0)), (3, .long (drnsD σ d 0)), (0, .ref ob), (1, .long d)] := hl
  have L5 : ∀ (f i : Nat) (ρ : Sg), i ≤ k → k < i + f → ∀ (H : Heap) (locs : List Loc) (ls : Array Slot), va_P D vwCl ((oC ob h h2) ++ ((mC cI cZ h a σ) ++ (mC cI cZ h2 a2 ρ))) H → va_D A ((oC ob h h2) ++ ((mC cI cZ h a σ) ++ (mC cI cZ h2 a2 ρ))) → va_S A s.heap H locs → lv_has ls 6 [(0, .ref ob), (3, .long (drnsD σ d i)), (5, .int (nI i))] → W p l e rmX1_mixDrains s m args below meth c H locs 0 0 Q (F0 m 5 ls []) := by
    intro f
    induction f with
    | zero => intro i ρ h1 h2; exact absurd h2 (by omega)
    | succ f ih_5 =>
      intro i ρ hi_5 hf_5 H locs ls hP hD hS hl
      refine lv_iload hx hb dX1_mixDrains_5 (lv_at hl 2 rfl) ?_
      refine lv_aload_n hx hb dX1_mixDrains_7 rfl (lv_at hl 0 rfl) ?_
      refine x_get (C := RX1) (T := TX1) (N := 2) hx hb hts in_wsX10 hown hK hP 0 rfl rfl 0 (by decide) q98 (v := .ref h) rfl dX1_mixDrains_8 ?_
      refine x_getN (C := RX0) (T := TX0) (N := 16) hx hb hts in_wsX00 hown hK hP 1 rfl rfl 12 (by decide) (hE.w 5 rfl) (v := .int (nI k)) (congrArg (fun z => some (Value.int z)) (hst.f1)) dX1_mixDrains_11 ?_
      refine lv_icmp_ge (tgt := 64) hx hb dX1_mixDrains_14 (by decide) (fun c_14 => ?_) (fun c_14 => ?_)
      · have hc_14 : k ≤ i := (nI_leI (a := k) (b := i) (by omega) (by omega)).mp c_14
        refine lv_lload_n hx hb dX1_mixDrains_64 rfl (lv_at hl 1 rfl) ?_
        subst hQ
        exact xrl ρ hx hb hr hlocks hK hP hD hS dX1_mixDrains_65 (rfl) (by rw [show i = k by omega])
      · have hc_14 : i < k := Nat.not_le.mp (fun z => c_14 ((nI_leI (a := k) (b := i) (by omega) (by omega)).mpr z))
        refine lv_lload_n hx hb dX1_mixDrains_17 rfl (lv_at hl 1 rfl) ?_
        refine lv_aload_n hx hb dX1_mixDrains_18 rfl (lv_at hl 0 rfl) ?_
        refine lv_iload hx hb dX1_mixDrains_19 (lv_at hl 2 rfl) ?_
        refine MX.callV (C := RX1) (T := TX1) (N := 2) (As := [.int (nI i)]) (rest := [.long (drnsD σ d i)]) (wB := (fun ρ => (oC ob h h2) ++ ((mC cI cZ h a σ) ++ (mC cI cZ h2 a2 ρ)))) (c_X1_isOpen l D cI cZ cL ob h a h2 a2 σ ρ hst hB i (by omega)) ⟨hx, hb, hml, hown, hts⟩ q418 b_X1_isOpen (n := 1) (by decide +kernel) ⟨Nat.le_of_ble_eq_true rfl, Nat.le_of_ble_eq_true rfl⟩ hK hP hD hS hA hE (sp0 _) (fun _ => sp0 _) (ci := 1) rfl (q0 := 0) rfl rfl hl.1 rfl (Nat.le_of_ble_eq_true rfl) dX1_mixDrains_21 ⟨Nat.le_of_ble_eq_true rfl, Nat.le_of_ble_eq_true rfl⟩ (fun ρ_1 H locs hP hD hS => ?_)
        have hP : va_P D vwCl ((oC ob h h2) ++ ((mC cI cZ h a σ) ++ (mC cI cZ h2 a2 ρ_1))) H := hP
        have hD : va_D A ((oC ob h h2) ++ ((mC cI cZ h a σ) ++ (mC cI cZ h2 a2 ρ_1))) := hD
        have J32_1 : W p l e rmX1_mixDrains s m args below meth c H locs 0 0 Q (F0 m 32 ls [.int (σ 10 i), .long (drnsD σ d i)]) := by
          refine MC.callS (As := [.long (drnsD σ d i), .int (σ 10 i)]) (rest := []) (wB := (oC ob h h2) ++ ((mC cI cZ h a σ) ++ (mC cI cZ h2 a2 ρ_1))) (c_X1_mix l D cI cZ cL (drnsD σ d i) (σ 10 i)) ⟨hx, hb, hml, hown, hts⟩ q380 b_X1_mix (n := 2) (by decide +kernel) ⟨Nat.le_of_ble_eq_true rfl, Nat.le_of_ble_eq_true rfl⟩ hK hP hD hS hA (spE _) (spE _) rfl hl.1 rfl (Nat.le_of_ble_eq_true rfl) dX1_mixDrains_32 ⟨Nat.le_of_ble_eq_true rfl, Nat.le_of_ble_eq_true rfl⟩ (fun H locs hP hD hS => ?_)
          refine lv_lstore_n (lv' := [(3, .long (mx (drnsD σ d i) (σ 10 i))), (0, .ref ob), (5, .int (nI i))]) hx hb dX1_mixDrains_35 rfl hl (by decide) rfl (fun ls hl => ?_)
          refine lv_lload_n hx hb dX1_mixDrains_36 rfl (lv_at hl 0 rfl) ?_
          refine lv_aload_n hx hb dX1_mixDrains_37 rfl (lv_at hl 1 rfl) ?_
          refine lv_iload hx hb dX1_mixDrains_38 (lv_at hl 2 rfl) ?_
          refine MX.callV (C := RX1) (T := TX1) (N := 2) (As := [.int (nI i)]) (rest := [.long (mx (drnsD σ d i) (σ 10 i))]) (wB := (fun ρ => (oC ob h h2) ++ ((mC cI cZ h a σ) ++ (mC cI cZ h2 a2 ρ)))) (c_X1_carriedBy l D cI cZ cL ob h a h2 a2 σ ρ_1 hst i (by omega)) ⟨hx, hb, hml, hown, hts⟩ q419 b_X1_carriedBy (n := 1) (by decide +kernel) ⟨Nat.le_of_ble_eq_true rfl, Nat.le_of_ble_eq_true rfl⟩ hK hP hD hS hA hE (sp0 _) (fun _ => sp0 _) (ci := 1) rfl (q0 := 0) rfl rfl hl.1 rfl (Nat.le_of_ble_eq_true rfl) dX1_mixDrains_40 ⟨Nat.le_of_ble_eq_true rfl, Nat.le_of_ble_eq_true rfl⟩ (fun ρ_2 H locs hP hD hS => ?_)
          have hP : va_P D vwCl ((oC ob h h2) ++ ((mC cI cZ h a σ) ++ (mC cI cZ h2 a2 ρ_2))) H := hP
          have hD : va_D A ((oC ob h h2) ++ ((mC cI cZ h a σ) ++ (mC cI cZ h2 a2 ρ_2))) := hD
          refine MC.callS (As := [.long (mx (drnsD σ d i) (σ 10 i)), .int (σ 8 i)]) (rest := []) (wB := (oC ob h h2) ++ ((mC cI cZ h a σ) ++ (mC cI cZ h2 a2 ρ_2))) (c_X1_mix l D cI cZ cL (mx (drnsD σ d i) (σ 10 i)) (σ 8 i)) ⟨hx, hb, hml, hown, hts⟩ q380 b_X1_mix (n := 2) (by decide +kernel) ⟨Nat.le_of_ble_eq_true rfl, Nat.le_of_ble_eq_true rfl⟩ hK hP hD hS hA (spE _) (spE _) rfl hl.1 rfl (Nat.le_of_ble_eq_true rfl) dX1_mixDrains_43 ⟨Nat.le_of_ble_eq_true rfl, Nat.le_of_ble_eq_true rfl⟩ (fun H locs hP hD hS => ?_)
          refine lv_lstore_n (lv' := [(3, .long (mx (mx (drnsD σ d i) (σ 10 i)) (σ 8 i))), (0, .ref ob), (5, .int (nI i))]) hx hb dX1_mixDrains_46 rfl hl (by decide) rfl (fun ls hl => ?_)
          refine lv_lload_n hx hb dX1_mixDrains_47 rfl (lv_at hl 0 rfl) ?_
          refine lv_aload_n hx hb dX1_mixDrains_48 rfl (lv_at hl 1 rfl) ?_
          refine lv_iload hx hb dX1_mixDrains_49 (lv_at hl 2 rfl) ?_
          refine MX.callV (C := RX1) (T := TX1) (N := 2) (As := [.int (nI i)]) (rest := [.long (mx (mx (drnsD σ d i) (σ 10 i)) (σ 8 i))]) (wB := (fun ρ => (oC ob h h2) ++ ((mC cI cZ h a σ) ++ (mC cI cZ h2 a2 ρ)))) (c_X1_wouldCarry l D cI cZ cL ob h a h2 a2 σ ρ_2 hst i (by omega)) ⟨hx, hb, hml, hown, hts⟩ q420 b_X1_wouldCarry (n := 1) (by decide +kernel) ⟨Nat.le_of_ble_eq_true rfl, Nat.le_of_ble_eq_true rfl⟩ hK hP hD hS hA hE (sp0 _) (fun _ => sp0 _) (ci := 1) rfl (q0 := 0) rfl rfl hl.1 rfl (Nat.le_of_ble_eq_true rfl) dX1_mixDrains_51 ⟨Nat.le_of_ble_eq_true rfl, Nat.le_of_ble_eq_true rfl⟩ (fun ρ_3 H locs hP hD hS => ?_)
          have hP : va_P D vwCl ((oC ob h h2) ++ ((mC cI cZ h a σ) ++ (mC cI cZ h2 a2 ρ_3))) H := hP
          have hD : va_D A ((oC ob h h2) ++ ((mC cI cZ h a σ) ++ (mC cI cZ h2 a2 ρ_3))) := hD
          refine MC.callS (As := [.long (mx (mx (drnsD σ d i) (σ 10 i)) (σ 8 i)), .int (ab (flow σ i))]) (rest := []) (wB := (oC ob h h2) ++ ((mC cI cZ h a σ) ++ (mC cI cZ h2 a2 ρ_3))) (c_X1_mix l D cI cZ cL (mx (mx (drnsD σ d i) (σ 10 i)) (σ 8 i)) (ab (flow σ i))) ⟨hx, hb, hml, hown, hts⟩ q380 b_X1_mix (n := 2) (by decide +kernel) ⟨Nat.le_of_ble_eq_true rfl, Nat.le_of_ble_eq_true rfl⟩ hK hP hD hS hA (spE _) (spE _) rfl hl.1 rfl (Nat.le_of_ble_eq_true rfl) dX1_mixDrains_54 ⟨Nat.le_of_ble_eq_true rfl, Nat.le_of_ble_eq_true rfl⟩ (fun H locs hP hD hS => ?_)
          refine lv_lstore_n (lv' := [(3, .long (mx (mx (mx (drnsD σ d i) (σ 10 i)) (σ 8 i)) (ab (flow σ i)))), (0, .ref ob), (5, .int (nI i))]) hx hb dX1_mixDrains_57 rfl hl (by decide) rfl (fun ls hl => ?_)
          refine lv_iinc (v := (nI (i + 1))) (lv' := [(5, .int (nI (i + 1))), (3, .long (mx (mx (mx (drnsD σ d i) (σ 10 i)) (σ 8 i)) (ab (flow σ i)))), (0, .ref ob)]) hx hb dX1_mixDrains_58 hl (k := 2) rfl (nI_add i 1) (by decide) rfl (fun ls hl => ?_)
          refine lv_goto (tgt := 5) hx hb dX1_mixDrains_61 (by decide) ?_
          have hl : lv_has ls 6 [(5, .int (nI (i + 1))), (3, .long (drnsD σ d (i + 1))), (0, .ref ob)] := hl
          exact ih_5 (i + 1) ρ_3 (by omega) (by omega) _ _ _ hP hD hS (lv_sub hl [2, 1, 0] rfl)
        refine lv_if_eq (tgt := 31) hx hb dX1_mixDrains_24 (by decide) (fun c_24 => ?_) (fun c_24 => ?_)
        · refine lv_iconst (v := 0) hx hb dX1_mixDrains_31 (by decide) ?_
          exact x_top (show 0 = σ 10 i from c_24.symm) J32_1
        · refine lv_iconst (v := 1) hx hb dX1_mixDrains_27 (by decide) ?_
          refine lv_goto (tgt := 32) hx hb dX1_mixDrains_28 (by decide) ?_
          exact x_top (show 1 = σ 10 i from ((hB.2.2.2.2.2.2 i (by omega)).resolve_left c_24).symm) J32_1
  exact L5 (k + 1) 0 τ (by omega) (by omega) _ _ _ hP hD hS (lv_sub hl [2, 1, 0] rfl)

abbrev rmX1_digest : Room := { frames := 6, cells := 0, slots := 0, locals := 152 }
theorem b_X1_digest : Cond.instanceMethod yX1_digest ∈ LW ∧ Cond.selects RX1 yX1_digest yX1_digest ∈ LW ∧ Cond.initialized RX1 ∈ LW ∧ Cond.code yX1_digest cX1_digest 3 (some .long) ∈ LW := ⟨q372, q373, q9, q374⟩
set_option maxHeartbeats 4000000 in
set_option maxRecDepth 100000 in
theorem c_X1_digest (l : Launch) (D : va_G) (cI cZ cL : ClassId) {n k : Nat} (ob h : Nat) (a : Nat → Nat) (h2 : Nat) (a2 : Nat → Nat) (σ τ : Sg) (hst : Shp n k σ) {B : Nat} (hB : Bnd B σ) : MX l yX1_digest cX1_digest 3 (some .long) rmX1_digest D (tZ cI cZ cL) [.ref ob] ((oC ob h h2) ++ ((mC cI cZ h a σ) ++ (mC cI cZ h2 a2 τ))) (fun ρ => (oC ob h h2) ++ ((mC cI cZ h a σ) ++ (mC cI cZ h2 a2 ρ))) (some (.long (digS σ))) := by
  refine MX.of (by decide) (Nat.le_of_ble_eq_true rfl) ?_
  intro p e s m args below meth c A ls Q hx hb hml hr hts hown hlocks hA hP hD hK hS hl hQ hE
  have hown : s.vm.findClass RX1 = some m.cls := hown
  have hn10 := hst.1
  have hk16 := hst.2.1
  have hl : lv_has ls 3 [(0, .ref ob)] := hl
  refine lv_ldc2 hx hb hown (hts _ q375) dX1_digest_0 ?_
  refine lv_lstore_n (lv' := [(1, .long 2341), (0, .ref ob)]) hx hb dX1_digest_3 rfl hl (by decide) rfl (fun ls hl => ?_)
  refine lv_lload_n hx hb dX1_digest_4 rfl (lv_at hl 0 rfl) ?_
  refine lv_aload_n hx hb dX1_digest_5 rfl (lv_at hl 1 rfl) ?_
  refine MX.callV (C := RX1) (T := TX1) (N := 2) (As := []) (rest := [.long 2341]) (wB := (fun ρ => (oC ob h h2) ++ ((mC cI cZ h a σ) ++ (mC cI cZ h2 a2 ρ)))) (c_X1_hour l D cI cZ cL ob h a h2 a2 σ τ ) ⟨hx, hb, hml, hown, hts⟩ q376 b_X1_hour (n := 0) (by decide +kernel) ⟨Nat.le_of_ble_eq_true rfl, Nat.le_of_ble_eq_true rfl⟩ hK hP hD hS hA hE (sp0 _) (fun _ => sp0 _) (ci := 1) rfl (q0 := 0) rfl rfl hl.1 rfl (Nat.le_of_ble_eq_true rfl) dX1_digest_6 ⟨Nat.le_of_ble_eq_true rfl, Nat.le_of_ble_eq_true rfl⟩ (fun ρ_1 H locs hP hD hS => ?_)
  have hP : va_P D vwCl ((oC ob h h2) ++ ((mC cI cZ h a σ) ++ (mC cI cZ h2 a2 ρ_1))) H := hP
  have hD : va_D A ((oC ob h h2) ++ ((mC cI cZ h a σ) ++ (mC cI cZ h2 a2 ρ_1))) := hD
  refine MC.callS (As := [.long 2341, .int (σ 11 4)]) (rest := []) (wB := (oC ob h h2) ++ ((mC cI cZ h a σ) ++ (mC cI cZ h2 a2 ρ_1))) (c_X1_mix l D cI cZ cL 2341 (σ 11 4)) ⟨hx, hb, hml, hown, hts⟩ q380 b_X1_mix (n := 2) (by decide +kernel) ⟨Nat.le_of_ble_eq_true rfl, Nat.le_of_ble_eq_true rfl⟩ hK hP hD hS hA (spE _) (spE _) rfl hl.1 rfl (Nat.le_of_ble_eq_true rfl) dX1_digest_9 ⟨Nat.le_of_ble_eq_true rfl, Nat.le_of_ble_eq_true rfl⟩ (fun H locs hP hD hS => ?_)
  refine lv_lstore_n (lv' := [(1, .long (mx 2341 (σ 11 4))), (0, .ref ob)]) hx hb dX1_digest_12 rfl hl (by decide) rfl (fun ls hl => ?_)
  refine lv_lload_n hx hb dX1_digest_13 rfl (lv_at hl 0 rfl) ?_
  refine lv_aload_n hx hb dX1_digest_14 rfl (lv_at hl 1 rfl) ?_
  refine MX.callV (C := RX1) (T := TX1) (N := 2) (As := []) (rest := [.long (mx 2341 (σ 11 4))]) (wB := (fun ρ => (oC ob h h2) ++ ((mC cI cZ h a σ) ++ (mC cI cZ h2 a2 ρ)))) (c_X1_fields l D cI cZ cL ob h a h2 a2 σ ρ_1 ) ⟨hx, hb, hml, hown, hts⟩ q384 b_X1_fields (n := 0) (by decide +kernel) ⟨Nat.le_of_ble_eq_true rfl, Nat.le_of_ble_eq_true rfl⟩ hK hP hD hS hA hE (sp0 _) (fun _ => sp0 _) (ci := 1) rfl (q0 := 0) rfl rfl hl.1 rfl (Nat.le_of_ble_eq_true rfl) dX1_digest_15 ⟨Nat.le_of_ble_eq_true rfl, Nat.le_of_ble_eq_true rfl⟩ (fun ρ_2 H locs hP hD hS => ?_)
  have hP : va_P D vwCl ((oC ob h h2) ++ ((mC cI cZ h a σ) ++ (mC cI cZ h2 a2 ρ_2))) H := hP
  have hD : va_D A ((oC ob h h2) ++ ((mC cI cZ h a σ) ++ (mC cI cZ h2 a2 ρ_2))) := hD
  refine MC.callS (As := [.long (mx 2341 (σ 11 4)), .int (σ 11 0)]) (rest := []) (wB := (oC ob h h2) ++ ((mC cI cZ h a σ) ++ (mC cI cZ h2 a2 ρ_2))) (c_X1_mix l D cI cZ cL (mx 2341 (σ 11 4)) (σ 11 0)) ⟨hx, hb, hml, hown, hts⟩ q380 b_X1_mix (n := 2) (by decide +kernel) ⟨Nat.le_of_ble_eq_true rfl, Nat.le_of_ble_eq_true rfl⟩ hK hP hD hS hA (spE _) (spE _) rfl hl.1 rfl (Nat.le_of_ble_eq_true rfl) dX1_digest_18 ⟨Nat.le_of_ble_eq_true rfl, Nat.le_of_ble_eq_true rfl⟩ (fun H locs hP hD hS => ?_)
  refine lv_lstore_n (lv' := [(1, .long (mx (mx 2341 (σ 11 4)) (σ 11 0))), (0, .ref ob)]) hx hb dX1_digest_21 rfl hl (by decide) rfl (fun ls hl => ?_)
  refine lv_lload_n hx hb dX1_digest_22 rfl (lv_at hl 0 rfl) ?_
  refine lv_aload_n hx hb dX1_digest_23 rfl (lv_at hl 1 rfl) ?_
  refine MX.callV (C := RX1) (T := TX1) (N := 2) (As := []) (rest := [.long (mx (mx 2341 (σ 11 4)) (σ 11 0))]) (wB := (fun ρ => (oC ob h h2) ++ ((mC cI cZ h a σ) ++ (mC cI cZ h2 a2 ρ)))) (c_X1_drains l D cI cZ cL ob h a h2 a2 σ ρ_2 ) ⟨hx, hb, hml, hown, hts⟩ q385 b_X1_drains (n := 0) (by decide +kernel) ⟨Nat.le_of_ble_eq_true rfl, Nat.le_of_ble_eq_true rfl⟩ hK hP hD hS hA hE (sp0 _) (fun _ => sp0 _) (ci := 1) rfl (q0 := 0) rfl rfl hl.1 rfl (Nat.le_of_ble_eq_true rfl) dX1_digest_24 ⟨Nat.le_of_ble_eq_true rfl, Nat.le_of_ble_eq_true rfl⟩ (fun ρ_3 H locs hP hD hS => ?_)
  have hP : va_P D vwCl ((oC ob h h2) ++ ((mC cI cZ h a σ) ++ (mC cI cZ h2 a2 ρ_3))) H := hP
  have hD : va_D A ((oC ob h h2) ++ ((mC cI cZ h a σ) ++ (mC cI cZ h2 a2 ρ_3))) := hD
  refine MC.callS (As := [.long (mx (mx 2341 (σ 11 4)) (σ 11 0)), .int (σ 11 1)]) (rest := []) (wB := (oC ob h h2) ++ ((mC cI cZ h a σ) ++ (mC cI cZ h2 a2 ρ_3))) (c_X1_mix l D cI cZ cL (mx (mx 2341 (σ 11 4)) (σ 11 0)) (σ 11 1)) ⟨hx, hb, hml, hown, hts⟩ q380 b_X1_mix (n := 2) (by decide +kernel) ⟨Nat.le_of_ble_eq_true rfl, Nat.le_of_ble_eq_true rfl⟩ hK hP hD hS hA (spE _) (spE _) rfl hl.1 rfl (Nat.le_of_ble_eq_true rfl) dX1_digest_27 ⟨Nat.le_of_ble_eq_true rfl, Nat.le_of_ble_eq_true rfl⟩ (fun H locs hP hD hS => ?_)
  refine lv_lstore_n (lv' := [(1, .long (mx (mx (mx 2341 (σ 11 4)) (σ 11 0)) (σ 11 1))), (0, .ref ob)]) hx hb dX1_digest_30 rfl hl (by decide) rfl (fun ls hl => ?_)
  refine lv_lload_n hx hb dX1_digest_31 rfl (lv_at hl 0 rfl) ?_
  refine lv_aload_n hx hb dX1_digest_32 rfl (lv_at hl 1 rfl) ?_
  refine MX.callV (C := RX1) (T := TX1) (N := 2) (As := []) (rest := [.long (mx (mx (mx 2341 (σ 11 4)) (σ 11 0)) (σ 11 1))]) (wB := (fun ρ => (oC ob h h2) ++ ((mC cI cZ h a σ) ++ (mC cI cZ h2 a2 ρ)))) (c_X1_rain l D cI cZ cL ob h a h2 a2 σ ρ_3 ) ⟨hx, hb, hml, hown, hts⟩ q386 b_X1_rain (n := 0) (by decide +kernel) ⟨Nat.le_of_ble_eq_true rfl, Nat.le_of_ble_eq_true rfl⟩ hK hP hD hS hA hE (sp0 _) (fun _ => sp0 _) (ci := 1) rfl (q0 := 0) rfl rfl hl.1 rfl (Nat.le_of_ble_eq_true rfl) dX1_digest_33 ⟨Nat.le_of_ble_eq_true rfl, Nat.le_of_ble_eq_true rfl⟩ (fun ρ_4 H locs hP hD hS => ?_)
  have hP : va_P D vwCl ((oC ob h h2) ++ ((mC cI cZ h a σ) ++ (mC cI cZ h2 a2 ρ_4))) H := hP
  have hD : va_D A ((oC ob h h2) ++ ((mC cI cZ h a σ) ++ (mC cI cZ h2 a2 ρ_4))) := hD
  refine MC.callS (As := [.long (mx (mx (mx 2341 (σ 11 4)) (σ 11 0)) (σ 11 1)), .int (σ 11 2)]) (rest := []) (wB := (oC ob h h2) ++ ((mC cI cZ h a σ) ++ (mC cI cZ h2 a2 ρ_4))) (c_X1_mix l D cI cZ cL (mx (mx (mx 2341 (σ 11 4)) (σ 11 0)) (σ 11 1)) (σ 11 2)) ⟨hx, hb, hml, hown, hts⟩ q380 b_X1_mix (n := 2) (by decide +kernel) ⟨Nat.le_of_ble_eq_true rfl, Nat.le_of_ble_eq_true rfl⟩ hK hP hD hS hA (spE _) (spE _) rfl hl.1 rfl (Nat.le_of_ble_eq_true rfl) dX1_digest_36 ⟨Nat.le_of_ble_eq_true rfl, Nat.le_of_ble_eq_true rfl⟩ (fun H locs hP hD hS => ?_)
  refine lv_lstore_n (lv' := [(1, .long (mx (mx (mx (mx 2341 (σ 11 4)) (σ 11 0)) (σ 11 1)) (σ 11 2))), (0, .ref ob)]) hx hb dX1_digest_39 rfl hl (by decide) rfl (fun ls hl => ?_)
  refine lv_lload_n hx hb dX1_digest_40 rfl (lv_at hl 0 rfl) ?_
  refine lv_aload_n hx hb dX1_digest_41 rfl (lv_at hl 1 rfl) ?_
  refine MX.callV (C := RX1) (T := TX1) (N := 2) (As := []) (rest := [.long (mx (mx (mx (mx 2341 (σ 11 4)) (σ 11 0)) (σ 11 1)) (σ 11 2))]) (wB := (fun ρ => (oC ob h h2) ++ ((mC cI cZ h a σ) ++ (mC cI cZ h2 a2 ρ)))) (c_X1_water l D cI cZ cL ob h a h2 a2 σ ρ_4 hst) ⟨hx, hb, hml, hown, hts⟩ q387 b_X1_water (n := 0) (by decide +kernel) ⟨Nat.le_of_ble_eq_true rfl, Nat.le_of_ble_eq_true rfl⟩ hK hP hD hS hA hE (sp0 _) (fun _ => sp0 _) (ci := 1) rfl (q0 := 0) rfl rfl hl.1 rfl (Nat.le_of_ble_eq_true rfl) dX1_digest_42 ⟨Nat.le_of_ble_eq_true rfl, Nat.le_of_ble_eq_true rfl⟩ (fun ρ_5 H locs hP hD hS => ?_)
  have hP : va_P D vwCl ((oC ob h h2) ++ ((mC cI cZ h a σ) ++ (mC cI cZ h2 a2 ρ_5))) H := hP
  have hD : va_D A ((oC ob h h2) ++ ((mC cI cZ h a σ) ++ (mC cI cZ h2 a2 ρ_5))) := hD
  refine MC.callS (As := [.long (mx (mx (mx (mx 2341 (σ 11 4)) (σ 11 0)) (σ 11 1)) (σ 11 2)), .int (waterS σ)]) (rest := []) (wB := (oC ob h h2) ++ ((mC cI cZ h a σ) ++ (mC cI cZ h2 a2 ρ_5))) (c_X1_mix l D cI cZ cL (mx (mx (mx (mx 2341 (σ 11 4)) (σ 11 0)) (σ 11 1)) (σ 11 2)) (waterS σ)) ⟨hx, hb, hml, hown, hts⟩ q380 b_X1_mix (n := 2) (by decide +kernel) ⟨Nat.le_of_ble_eq_true rfl, Nat.le_of_ble_eq_true rfl⟩ hK hP hD hS hA (spE _) (spE _) rfl hl.1 rfl (Nat.le_of_ble_eq_true rfl) dX1_digest_45 ⟨Nat.le_of_ble_eq_true rfl, Nat.le_of_ble_eq_true rfl⟩ (fun H locs hP hD hS => ?_)
  refine lv_lstore_n (lv' := [(1, .long (mx (mx (mx (mx (mx 2341 (σ 11 4)) (σ 11 0)) (σ 11 1)) (σ 11 2)) (waterS σ))), (0, .ref ob)]) hx hb dX1_digest_48 rfl hl (by decide) rfl (fun ls hl => ?_)
  refine lv_lload_n hx hb dX1_digest_49 rfl (lv_at hl 0 rfl) ?_
  refine lv_aload_n hx hb dX1_digest_50 rfl (lv_at hl 1 rfl) ?_
  refine MX.callV (C := RX1) (T := TX1) (N := 2) (As := []) (rest := [.long (mx (mx (mx (mx (mx 2341 (σ 11 4)) (σ 11 0)) (σ 11 1)) (σ 11 2)) (waterS σ))]) (wB := (fun ρ => (oC ob h h2) ++ ((mC cI cZ h a σ) ++ (mC cI cZ h2 a2 ρ)))) (c_X1_drained l D cI cZ cL ob h a h2 a2 σ ρ_5 ) ⟨hx, hb, hml, hown, hts⟩ q388 b_X1_drained (n := 0) (by decide +kernel) ⟨Nat.le_of_ble_eq_true rfl, Nat.le_of_ble_eq_true rfl⟩ hK hP hD hS hA hE (sp0 _) (fun _ => sp0 _) (ci := 1) rfl (q0 := 0) rfl rfl hl.1 rfl (Nat.le_of_ble_eq_true rfl) dX1_digest_51 ⟨Nat.le_of_ble_eq_true rfl, Nat.le_of_ble_eq_true rfl⟩ (fun ρ_6 H locs hP hD hS => ?_)
  have hP : va_P D vwCl ((oC ob h h2) ++ ((mC cI cZ h a σ) ++ (mC cI cZ h2 a2 ρ_6))) H := hP
  have hD : va_D A ((oC ob h h2) ++ ((mC cI cZ h a σ) ++ (mC cI cZ h2 a2 ρ_6))) := hD
  refine MC.callS (As := [.long (mx (mx (mx (mx (mx 2341 (σ 11 4)) (σ 11 0)) (σ 11 1)) (σ 11 2)) (waterS σ)), .int (σ 11 3)]) (rest := []) (wB := (oC ob h h2) ++ ((mC cI cZ h a σ) ++ (mC cI cZ h2 a2 ρ_6))) (c_X1_mix l D cI cZ cL (mx (mx (mx (mx (mx 2341 (σ 11 4)) (σ 11 0)) (σ 11 1)) (σ 11 2)) (waterS σ)) (σ 11 3)) ⟨hx, hb, hml, hown, hts⟩ q380 b_X1_mix (n := 2) (by decide +kernel) ⟨Nat.le_of_ble_eq_true rfl, Nat.le_of_ble_eq_true rfl⟩ hK hP hD hS hA (spE _) (spE _) rfl hl.1 rfl (Nat.le_of_ble_eq_true rfl) dX1_digest_54 ⟨Nat.le_of_ble_eq_true rfl, Nat.le_of_ble_eq_true rfl⟩ (fun H locs hP hD hS => ?_)
  refine lv_lstore_n (lv' := [(1, .long (mx (mx (mx (mx (mx (mx 2341 (σ 11 4)) (σ 11 0)) (σ 11 1)) (σ 11 2)) (waterS σ)) (σ 11 3))), (0, .ref ob)]) hx hb dX1_digest_57 rfl hl (by decide) rfl (fun ls hl => ?_)
  refine lv_lload_n hx hb dX1_digest_58 rfl (lv_at hl 0 rfl) ?_
  refine lv_aload_n hx hb dX1_digest_59 rfl (lv_at hl 1 rfl) ?_
  refine MX.callV (C := RX1) (T := TX1) (N := 2) (As := []) (rest := [.long (mx (mx (mx (mx (mx (mx 2341 (σ 11 4)) (σ 11 0)) (σ 11 1)) (σ 11 2)) (waterS σ)) (σ 11 3))]) (wB := (fun ρ => (oC ob h h2) ++ ((mC cI cZ h a σ) ++ (mC cI cZ h2 a2 ρ)))) (c_X1_wetFields l D cI cZ cL ob h a h2 a2 σ ρ_6 hst) ⟨hx, hb, hml, hown, hts⟩ q389 b_X1_wetFields (n := 0) (by decide +kernel) ⟨Nat.le_of_ble_eq_true rfl, Nat.le_of_ble_eq_true rfl⟩ hK hP hD hS hA hE (sp0 _) (fun _ => sp0 _) (ci := 1) rfl (q0 := 0) rfl rfl hl.1 rfl (Nat.le_of_ble_eq_true rfl) dX1_digest_60 ⟨Nat.le_of_ble_eq_true rfl, Nat.le_of_ble_eq_true rfl⟩ (fun ρ_7 H locs hP hD hS => ?_)
  have hP : va_P D vwCl ((oC ob h h2) ++ ((mC cI cZ h a σ) ++ (mC cI cZ h2 a2 ρ_7))) H := hP
  have hD : va_D A ((oC ob h h2) ++ ((mC cI cZ h a σ) ++ (mC cI cZ h2 a2 ρ_7))) := hD
  refine MC.callS (As := [.long (mx (mx (mx (mx (mx (mx 2341 (σ 11 4)) (σ 11 0)) (σ 11 1)) (σ 11 2)) (waterS σ)) (σ 11 3)), .int (wetN σ)]) (rest := []) (wB := (oC ob h h2) ++ ((mC cI cZ h a σ) ++ (mC cI cZ h2 a2 ρ_7))) (c_X1_mix l D cI cZ cL (mx (mx (mx (mx (mx (mx 2341 (σ 11 4)) (σ 11 0)) (σ 11 1)) (σ 11 2)) (waterS σ)) (σ 11 3)) (wetN σ)) ⟨hx, hb, hml, hown, hts⟩ q380 b_X1_mix (n := 2) (by decide +kernel) ⟨Nat.le_of_ble_eq_true rfl, Nat.le_of_ble_eq_true rfl⟩ hK hP hD hS hA (spE _) (spE _) rfl hl.1 rfl (Nat.le_of_ble_eq_true rfl) dX1_digest_63 ⟨Nat.le_of_ble_eq_true rfl, Nat.le_of_ble_eq_true rfl⟩ (fun H locs hP hD hS => ?_)
  refine lv_lstore_n (lv' := [(1, .long (mx (mx (mx (mx (mx (mx (mx 2341 (σ 11 4)) (σ 11 0)) (σ 11 1)) (σ 11 2)) (waterS σ)) (σ 11 3)) (wetN σ))), (0, .ref ob)]) hx hb dX1_digest_66 rfl hl (by decide) rfl (fun ls hl => ?_)
  refine lv_lload_n hx hb dX1_digest_67 rfl (lv_at hl 0 rfl) ?_
  refine lv_aload_n hx hb dX1_digest_68 rfl (lv_at hl 1 rfl) ?_
  refine MX.callV (C := RX1) (T := TX1) (N := 2) (As := []) (rest := [.long (mx (mx (mx (mx (mx (mx (mx 2341 (σ 11 4)) (σ 11 0)) (σ 11 1)) (σ 11 2)) (waterS σ)) (σ 11 3)) (wetN σ))]) (wB := (fun ρ => (oC ob h h2) ++ ((mC cI cZ h a σ) ++ (mC cI cZ h2 a2 ρ)))) (c_X1_loss l D cI cZ cL ob h a h2 a2 σ ρ_7 hst) ⟨hx, hb, hml, hown, hts⟩ q394 b_X1_loss (n := 0) (by decide +kernel) ⟨Nat.le_of_ble_eq_true rfl, Nat.le_of_ble_eq_true rfl⟩ hK hP hD hS hA hE (sp0 _) (fun _ => sp0 _) (ci := 1) rfl (q0 := 0) rfl rfl hl.1 rfl (Nat.le_of_ble_eq_true rfl) dX1_digest_69 ⟨Nat.le_of_ble_eq_true rfl, Nat.le_of_ble_eq_true rfl⟩ (fun ρ_8 H locs hP hD hS => ?_)
  have hP : va_P D vwCl ((oC ob h h2) ++ ((mC cI cZ h a σ) ++ (mC cI cZ h2 a2 ρ_8))) H := hP
  have hD : va_D A ((oC ob h h2) ++ ((mC cI cZ h a σ) ++ (mC cI cZ h2 a2 ρ_8))) := hD
  refine MC.callS (As := [.long (mx (mx (mx (mx (mx (mx (mx 2341 (σ 11 4)) (σ 11 0)) (σ 11 1)) (σ 11 2)) (waterS σ)) (σ 11 3)) (wetN σ)), .int (lost σ)]) (rest := []) (wB := (oC ob h h2) ++ ((mC cI cZ h a σ) ++ (mC cI cZ h2 a2 ρ_8))) (c_X1_mix l D cI cZ cL (mx (mx (mx (mx (mx (mx (mx 2341 (σ 11 4)) (σ 11 0)) (σ 11 1)) (σ 11 2)) (waterS σ)) (σ 11 3)) (wetN σ)) (lost σ)) ⟨hx, hb, hml, hown, hts⟩ q380 b_X1_mix (n := 2) (by decide +kernel) ⟨Nat.le_of_ble_eq_true rfl, Nat.le_of_ble_eq_true rfl⟩ hK hP hD hS hA (spE _) (spE _) rfl hl.1 rfl (Nat.le_of_ble_eq_true rfl) dX1_digest_72 ⟨Nat.le_of_ble_eq_true rfl, Nat.le_of_ble_eq_true rfl⟩ (fun H locs hP hD hS => ?_)
  refine lv_lstore_n (lv' := [(1, .long (mx (mx (mx (mx (mx (mx (mx (mx 2341 (σ 11 4)) (σ 11 0)) (σ 11 1)) (σ 11 2)) (waterS σ)) (σ 11 3)) (wetN σ)) (lost σ))), (0, .ref ob)]) hx hb dX1_digest_75 rfl hl (by decide) rfl (fun ls hl => ?_)
  refine lv_lload_n hx hb dX1_digest_76 rfl (lv_at hl 0 rfl) ?_
  refine lv_aload_n hx hb dX1_digest_77 rfl (lv_at hl 1 rfl) ?_
  refine MX.callV (C := RX1) (T := TX1) (N := 2) (As := []) (rest := [.long (mx (mx (mx (mx (mx (mx (mx (mx 2341 (σ 11 4)) (σ 11 0)) (σ 11 1)) (σ 11 2)) (waterS σ)) (σ 11 3)) (wetN σ)) (lost σ))]) (wB := (fun ρ => (oC ob h h2) ++ ((mC cI cZ h a σ) ++ (mC cI cZ h2 a2 ρ)))) (c_X1_highest l D cI cZ cL ob h a h2 a2 σ ρ_8 hst) ⟨hx, hb, hml, hown, hts⟩ q395 b_X1_highest (n := 0) (by decide +kernel) ⟨Nat.le_of_ble_eq_true rfl, Nat.le_of_ble_eq_true rfl⟩ hK hP hD hS hA hE (sp0 _) (fun _ => sp0 _) (ci := 1) rfl (q0 := 0) rfl rfl hl.1 rfl (Nat.le_of_ble_eq_true rfl) dX1_digest_78 ⟨Nat.le_of_ble_eq_true rfl, Nat.le_of_ble_eq_true rfl⟩ (fun ρ_9 H locs hP hD hS => ?_)
  have hP : va_P D vwCl ((oC ob h h2) ++ ((mC cI cZ h a σ) ++ (mC cI cZ h2 a2 ρ_9))) H := hP
  have hD : va_D A ((oC ob h h2) ++ ((mC cI cZ h a σ) ++ (mC cI cZ h2 a2 ρ_9))) := hD
  refine MC.callS (As := [.long (mx (mx (mx (mx (mx (mx (mx (mx 2341 (σ 11 4)) (σ 11 0)) (σ 11 1)) (σ 11 2)) (waterS σ)) (σ 11 3)) (wetN σ)) (lost σ)), .int (amax (fun q => σ 0 q + σ 2 q) (nF σ))]) (rest := []) (wB := (oC ob h h2) ++ ((mC cI cZ h a σ) ++ (mC cI cZ h2 a2 ρ_9))) (c_X1_mix l D cI cZ cL (mx (mx (mx (mx (mx (mx (mx (mx 2341 (σ 11 4)) (σ 11 0)) (σ 11 1)) (σ 11 2)) (waterS σ)) (σ 11 3)) (wetN σ)) (lost σ)) (amax (fun q => σ 0 q + σ 2 q) (nF σ))) ⟨hx, hb, hml, hown, hts⟩ q380 b_X1_mix (n := 2) (by decide +kernel) ⟨Nat.le_of_ble_eq_true rfl, Nat.le_of_ble_eq_true rfl⟩ hK hP hD hS hA (spE _) (spE _) rfl hl.1 rfl (Nat.le_of_ble_eq_true rfl) dX1_digest_81 ⟨Nat.le_of_ble_eq_true rfl, Nat.le_of_ble_eq_true rfl⟩ (fun H locs hP hD hS => ?_)
  refine lv_lstore_n (lv' := [(1, .long (mx (mx (mx (mx (mx (mx (mx (mx (mx 2341 (σ 11 4)) (σ 11 0)) (σ 11 1)) (σ 11 2)) (waterS σ)) (σ 11 3)) (wetN σ)) (lost σ)) (amax (fun q => σ 0 q + σ 2 q) (nF σ)))), (0, .ref ob)]) hx hb dX1_digest_84 rfl hl (by decide) rfl (fun ls hl => ?_)
  refine lv_lload_n hx hb dX1_digest_85 rfl (lv_at hl 0 rfl) ?_
  refine lv_aload_n hx hb dX1_digest_86 rfl (lv_at hl 1 rfl) ?_
  refine MX.callV (C := RX1) (T := TX1) (N := 2) (As := []) (rest := [.long (mx (mx (mx (mx (mx (mx (mx (mx (mx 2341 (σ 11 4)) (σ 11 0)) (σ 11 1)) (σ 11 2)) (waterS σ)) (σ 11 3)) (wetN σ)) (lost σ)) (amax (fun q => σ 0 q + σ 2 q) (nF σ)))]) (wB := (fun ρ => (oC ob h h2) ++ ((mC cI cZ h a σ) ++ (mC cI cZ h2 a2 ρ)))) (c_X1_busiest l D cI cZ cL ob h a h2 a2 σ ρ_9 hst) ⟨hx, hb, hml, hown, hts⟩ q396 b_X1_busiest (n := 0) (by decide +kernel) ⟨Nat.le_of_ble_eq_true rfl, Nat.le_of_ble_eq_true rfl⟩ hK hP hD hS hA hE (sp0 _) (fun _ => sp0 _) (ci := 1) rfl (q0 := 0) rfl rfl hl.1 rfl (Nat.le_of_ble_eq_true rfl) dX1_digest_87 ⟨Nat.le_of_ble_eq_true rfl, Nat.le_of_ble_eq_true rfl⟩ (fun ρ_10 H locs hP hD hS => ?_)
  have hP : va_P D vwCl ((oC ob h h2) ++ ((mC cI cZ h a σ) ++ (mC cI cZ h2 a2 ρ_10))) H := hP
  have hD : va_D A ((oC ob h h2) ++ ((mC cI cZ h a σ) ++ (mC cI cZ h2 a2 ρ_10))) := hD
  refine MC.callS (As := [.long (mx (mx (mx (mx (mx (mx (mx (mx (mx 2341 (σ 11 4)) (σ 11 0)) (σ 11 1)) (σ 11 2)) (waterS σ)) (σ 11 3)) (wetN σ)) (lost σ)) (amax (fun q => σ 0 q + σ 2 q) (nF σ))), .int (amax (fun q => σ 8 q) (nD σ))]) (rest := []) (wB := (oC ob h h2) ++ ((mC cI cZ h a σ) ++ (mC cI cZ h2 a2 ρ_10))) (c_X1_mix l D cI cZ cL (mx (mx (mx (mx (mx (mx (mx (mx (mx 2341 (σ 11 4)) (σ 11 0)) (σ 11 1)) (σ 11 2)) (waterS σ)) (σ 11 3)) (wetN σ)) (lost σ)) (amax (fun q => σ 0 q + σ 2 q) (nF σ))) (amax (fun q => σ 8 q) (nD σ))) ⟨hx, hb, hml, hown, hts⟩ q380 b_X1_mix (n := 2) (by decide +kernel) ⟨Nat.le_of_ble_eq_true rfl, Nat.le_of_ble_eq_true rfl⟩ hK hP hD hS hA (spE _) (spE _) rfl hl.1 rfl (Nat.le_of_ble_eq_true rfl) dX1_digest_90 ⟨Nat.le_of_ble_eq_true rfl, Nat.le_of_ble_eq_true rfl⟩ (fun H locs hP hD hS => ?_)
  refine lv_lstore_n (lv' := [(1, .long (mx (mx (mx (mx (mx (mx (mx (mx (mx (mx 2341 (σ 11 4)) (σ 11 0)) (σ 11 1)) (σ 11 2)) (waterS σ)) (σ 11 3)) (wetN σ)) (lost σ)) (amax (fun q => σ 0 q + σ 2 q) (nF σ))) (amax (fun q => σ 8 q) (nD σ)))), (0, .ref ob)]) hx hb dX1_digest_93 rfl hl (by decide) rfl (fun ls hl => ?_)
  refine lv_lload_n hx hb dX1_digest_94 rfl (lv_at hl 0 rfl) ?_
  refine lv_aload_n hx hb dX1_digest_95 rfl (lv_at hl 1 rfl) ?_
  refine lv_bipush (v := 12) hx hb dX1_digest_96 (by decide) ?_
  refine MX.callV (C := RX1) (T := TX1) (N := 2) (As := [.int 12]) (rest := [.long (mx (mx (mx (mx (mx (mx (mx (mx (mx (mx 2341 (σ 11 4)) (σ 11 0)) (σ 11 1)) (σ 11 2)) (waterS σ)) (σ 11 3)) (wetN σ)) (lost σ)) (amax (fun q => σ 0 q + σ 2 q) (nF σ))) (amax (fun q => σ 8 q) (nD σ)))]) (wB := (fun ρ => (oC ob h h2) ++ ((mC cI cZ h a σ) ++ (mC cI cZ h2 a2 ρ)))) (c_X1_lossIn l D cI cZ cL ob h a h2 a2 σ ρ_10 hst hB 12 (by decide) (by decide)) ⟨hx, hb, hml, hown, hts⟩ q400 b_X1_lossIn (n := 1) (by decide +kernel) ⟨Nat.le_of_ble_eq_true rfl, Nat.le_of_ble_eq_true rfl⟩ hK hP hD hS hA hE (sp0 _) (fun _ => sp0 _) (ci := 1) rfl (q0 := 0) rfl rfl hl.1 rfl (Nat.le_of_ble_eq_true rfl) dX1_digest_98 ⟨Nat.le_of_ble_eq_true rfl, Nat.le_of_ble_eq_true rfl⟩ (fun ρ_11 H locs hP hD hS => ?_)
  have hP : va_P D vwCl ((oC ob h h2) ++ ((mC cI cZ h a σ) ++ (mC cI cZ h2 a2 ρ_11))) H := hP
  have hD : va_D A ((oC ob h h2) ++ ((mC cI cZ h a σ) ++ (mC cI cZ h2 a2 ρ_11))) := hD
  refine MC.callS (As := [.long (mx (mx (mx (mx (mx (mx (mx (mx (mx (mx 2341 (σ 11 4)) (σ 11 0)) (σ 11 1)) (σ 11 2)) (waterS σ)) (σ 11 3)) (wetN σ)) (lost σ)) (amax (fun q => σ 0 q + σ 2 q) (nF σ))) (amax (fun q => σ 8 q) (nD σ))), .int (lossH 12 σ)]) (rest := []) (wB := (oC ob h h2) ++ ((mC cI cZ h a σ) ++ (mC cI cZ h2 a2 ρ_11))) (c_X1_mix l D cI cZ cL (mx (mx (mx (mx (mx (mx (mx (mx (mx (mx 2341 (σ 11 4)) (σ 11 0)) (σ 11 1)) (σ 11 2)) (waterS σ)) (σ 11 3)) (wetN σ)) (lost σ)) (amax (fun q => σ 0 q + σ 2 q) (nF σ))) (amax (fun q => σ 8 q) (nD σ))) (lossH 12 σ)) ⟨hx, hb, hml, hown, hts⟩ q380 b_X1_mix (n := 2) (by decide +kernel) ⟨Nat.le_of_ble_eq_true rfl, Nat.le_of_ble_eq_true rfl⟩ hK hP hD hS hA (spE _) (spE _) rfl hl.1 rfl (Nat.le_of_ble_eq_true rfl) dX1_digest_101 ⟨Nat.le_of_ble_eq_true rfl, Nat.le_of_ble_eq_true rfl⟩ (fun H locs hP hD hS => ?_)
  refine lv_lstore_n (lv' := [(1, .long (mx (mx (mx (mx (mx (mx (mx (mx (mx (mx (mx 2341 (σ 11 4)) (σ 11 0)) (σ 11 1)) (σ 11 2)) (waterS σ)) (σ 11 3)) (wetN σ)) (lost σ)) (amax (fun q => σ 0 q + σ 2 q) (nF σ))) (amax (fun q => σ 8 q) (nD σ))) (lossH 12 σ))), (0, .ref ob)]) hx hb dX1_digest_104 rfl hl (by decide) rfl (fun ls hl => ?_)
  refine lv_lload_n hx hb dX1_digest_105 rfl (lv_at hl 0 rfl) ?_
  refine lv_aload_n hx hb dX1_digest_106 rfl (lv_at hl 1 rfl) ?_
  refine MX.callV (C := RX1) (T := TX1) (N := 2) (As := []) (rest := [.long (mx (mx (mx (mx (mx (mx (mx (mx (mx (mx (mx 2341 (σ 11 4)) (σ 11 0)) (σ 11 1)) (σ 11 2)) (waterS σ)) (σ 11 3)) (wetN σ)) (lost σ)) (amax (fun q => σ 0 q + σ 2 q) (nF σ))) (amax (fun q => σ 8 q) (nD σ))) (lossH 12 σ))]) (wB := (fun ρ => (oC ob h h2) ++ ((mC cI cZ h a σ) ++ (mC cI cZ h2 a2 ρ)))) (c_X1_bestToTurn l D cI cZ cL ob h a h2 a2 σ ρ_11 hst hB) ⟨hx, hb, hml, hown, hts⟩ q401 b_X1_bestToTurn (n := 0) (by decide +kernel) ⟨Nat.le_of_ble_eq_true rfl, Nat.le_of_ble_eq_true rfl⟩ hK hP hD hS hA hE (sp0 _) (fun _ => sp0 _) (ci := 1) rfl (q0 := 0) rfl rfl hl.1 rfl (Nat.le_of_ble_eq_true rfl) dX1_digest_107 ⟨Nat.le_of_ble_eq_true rfl, Nat.le_of_ble_eq_true rfl⟩ (fun ρ_12 H locs hP hD hS => ?_)
  have hP : va_P D vwCl ((oC ob h h2) ++ ((mC cI cZ h a σ) ++ (mC cI cZ h2 a2 ρ_12))) H := hP
  have hD : va_D A ((oC ob h h2) ++ ((mC cI cZ h a σ) ++ (mC cI cZ h2 a2 ρ_12))) := hD
  refine MC.callS (As := [.long (mx (mx (mx (mx (mx (mx (mx (mx (mx (mx (mx 2341 (σ 11 4)) (σ 11 0)) (σ 11 1)) (σ 11 2)) (waterS σ)) (σ 11 3)) (wetN σ)) (lost σ)) (amax (fun q => σ 0 q + σ 2 q) (nF σ))) (amax (fun q => σ 8 q) (nD σ))) (lossH 12 σ)), .int (turnB σ)]) (rest := []) (wB := (oC ob h h2) ++ ((mC cI cZ h a σ) ++ (mC cI cZ h2 a2 ρ_12))) (c_X1_mix l D cI cZ cL (mx (mx (mx (mx (mx (mx (mx (mx (mx (mx (mx 2341 (σ 11 4)) (σ 11 0)) (σ 11 1)) (σ 11 2)) (waterS σ)) (σ 11 3)) (wetN σ)) (lost σ)) (amax (fun q => σ 0 q + σ 2 q) (nF σ))) (amax (fun q => σ 8 q) (nD σ))) (lossH 12 σ)) (turnB σ)) ⟨hx, hb, hml, hown, hts⟩ q380 b_X1_mix (n := 2) (by decide +kernel) ⟨Nat.le_of_ble_eq_true rfl, Nat.le_of_ble_eq_true rfl⟩ hK hP hD hS hA (spE _) (spE _) rfl hl.1 rfl (Nat.le_of_ble_eq_true rfl) dX1_digest_110 ⟨Nat.le_of_ble_eq_true rfl, Nat.le_of_ble_eq_true rfl⟩ (fun H locs hP hD hS => ?_)
  refine lv_lstore_n (lv' := [(1, .long (mx (mx (mx (mx (mx (mx (mx (mx (mx (mx (mx (mx 2341 (σ 11 4)) (σ 11 0)) (σ 11 1)) (σ 11 2)) (waterS σ)) (σ 11 3)) (wetN σ)) (lost σ)) (amax (fun q => σ 0 q + σ 2 q) (nF σ))) (amax (fun q => σ 8 q) (nD σ))) (lossH 12 σ)) (turnB σ))), (0, .ref ob)]) hx hb dX1_digest_113 rfl hl (by decide) rfl (fun ls hl => ?_)
  refine lv_lload_n hx hb dX1_digest_114 rfl (lv_at hl 0 rfl) ?_
  refine lv_aload_n hx hb dX1_digest_115 rfl (lv_at hl 1 rfl) ?_
  refine lv_bipush (v := 10) hx hb dX1_digest_116 (by decide) ?_
  refine MX.callV (C := RX1) (T := TX1) (N := 2) (As := [.int 10]) (rest := [.long (mx (mx (mx (mx (mx (mx (mx (mx (mx (mx (mx (mx 2341 (σ 11 4)) (σ 11 0)) (σ 11 1)) (σ 11 2)) (waterS σ)) (σ 11 3)) (wetN σ)) (lost σ)) (amax (fun q => σ 0 q + σ 2 q) (nF σ))) (amax (fun q => σ 8 q) (nD σ))) (lossH 12 σ)) (turnB σ))]) (wB := (fun ρ => (oC ob h h2) ++ ((mC cI cZ h a σ) ++ (mC cI cZ h2 a2 ρ)))) (c_X1_bestToFlood l D cI cZ cL ob h a h2 a2 σ ρ_12 hst hB 10 (by decide) (by decide)) ⟨hx, hb, hml, hown, hts⟩ q402 b_X1_bestToFlood (n := 1) (by decide +kernel) ⟨Nat.le_of_ble_eq_true rfl, Nat.le_of_ble_eq_true rfl⟩ hK hP hD hS hA hE (sp0 _) (fun _ => sp0 _) (ci := 1) rfl (q0 := 0) rfl rfl hl.1 rfl (Nat.le_of_ble_eq_true rfl) dX1_digest_118 ⟨Nat.le_of_ble_eq_true rfl, Nat.le_of_ble_eq_true rfl⟩ (fun ρ_13 H locs hP hD hS => ?_)
  have hP : va_P D vwCl ((oC ob h h2) ++ ((mC cI cZ h a σ) ++ (mC cI cZ h2 a2 ρ_13))) H := hP
  have hD : va_D A ((oC ob h h2) ++ ((mC cI cZ h a σ) ++ (mC cI cZ h2 a2 ρ_13))) := hD
  refine MC.callS (As := [.long (mx (mx (mx (mx (mx (mx (mx (mx (mx (mx (mx (mx 2341 (σ 11 4)) (σ 11 0)) (σ 11 1)) (σ 11 2)) (waterS σ)) (σ 11 3)) (wetN σ)) (lost σ)) (amax (fun q => σ 0 q + σ 2 q) (nF σ))) (amax (fun q => σ 8 q) (nD σ))) (lossH 12 σ)) (turnB σ)), .int (floodB σ (nI 10))]) (rest := []) (wB := (oC ob h h2) ++ ((mC cI cZ h a σ) ++ (mC cI cZ h2 a2 ρ_13))) (c_X1_mix l D cI cZ cL (mx (mx (mx (mx (mx (mx (mx (mx (mx (mx (mx (mx 2341 (σ 11 4)) (σ 11 0)) (σ 11 1)) (σ 11 2)) (waterS σ)) (σ 11 3)) (wetN σ)) (lost σ)) (amax (fun q => σ 0 q + σ 2 q) (nF σ))) (amax (fun q => σ 8 q) (nD σ))) (lossH 12 σ)) (turnB σ)) (floodB σ (nI 10))) ⟨hx, hb, hml, hown, hts⟩ q380 b_X1_mix (n := 2) (by decide +kernel) ⟨Nat.le_of_ble_eq_true rfl, Nat.le_of_ble_eq_true rfl⟩ hK hP hD hS hA (spE _) (spE _) rfl hl.1 rfl (Nat.le_of_ble_eq_true rfl) dX1_digest_121 ⟨Nat.le_of_ble_eq_true rfl, Nat.le_of_ble_eq_true rfl⟩ (fun H locs hP hD hS => ?_)
  refine lv_lstore_n (lv' := [(1, .long (mx (mx (mx (mx (mx (mx (mx (mx (mx (mx (mx (mx (mx 2341 (σ 11 4)) (σ 11 0)) (σ 11 1)) (σ 11 2)) (waterS σ)) (σ 11 3)) (wetN σ)) (lost σ)) (amax (fun q => σ 0 q + σ 2 q) (nF σ))) (amax (fun q => σ 8 q) (nD σ))) (lossH 12 σ)) (turnB σ)) (floodB σ (nI 10)))), (0, .ref ob)]) hx hb dX1_digest_124 rfl hl (by decide) rfl (fun ls hl => ?_)
  refine lv_lload_n hx hb dX1_digest_125 rfl (lv_at hl 0 rfl) ?_
  refine lv_aload_n hx hb dX1_digest_126 rfl (lv_at hl 1 rfl) ?_
  refine MX.callV (C := RX1) (T := TX1) (N := 2) (As := []) (rest := [.long (mx (mx (mx (mx (mx (mx (mx (mx (mx (mx (mx (mx (mx 2341 (σ 11 4)) (σ 11 0)) (σ 11 1)) (σ 11 2)) (waterS σ)) (σ 11 3)) (wetN σ)) (lost σ)) (amax (fun q => σ 0 q + σ 2 q) (nF σ))) (amax (fun q => σ 8 q) (nD σ))) (lossH 12 σ)) (turnB σ)) (floodB σ (nI 10)))]) (wB := (fun ρ => (oC ob h h2) ++ ((mC cI cZ h a σ) ++ (mC cI cZ h2 a2 ρ)))) (c_X1_rainBorne l D cI cZ cL ob h a h2 a2 σ ρ_13 hst hB) ⟨hx, hb, hml, hown, hts⟩ q403 b_X1_rainBorne (n := 0) (by decide +kernel) ⟨Nat.le_of_ble_eq_true rfl, Nat.le_of_ble_eq_true rfl⟩ hK hP hD hS hA hE (sp0 _) (fun _ => sp0 _) (ci := 1) rfl (q0 := 0) rfl rfl hl.1 rfl (Nat.le_of_ble_eq_true rfl) dX1_digest_127 ⟨Nat.le_of_ble_eq_true rfl, Nat.le_of_ble_eq_true rfl⟩ (fun ρ_14 H locs hP hD hS => ?_)
  have hP : va_P D vwCl ((oC ob h h2) ++ ((mC cI cZ h a σ) ++ (mC cI cZ h2 a2 ρ_14))) H := hP
  have hD : va_D A ((oC ob h h2) ++ ((mC cI cZ h a σ) ++ (mC cI cZ h2 a2 ρ_14))) := hD
  refine MC.callS (As := [.long (mx (mx (mx (mx (mx (mx (mx (mx (mx (mx (mx (mx (mx 2341 (σ 11 4)) (σ 11 0)) (σ 11 1)) (σ 11 2)) (waterS σ)) (σ 11 3)) (wetN σ)) (lost σ)) (amax (fun q => σ 0 q + σ 2 q) (nF σ))) (amax (fun q => σ 8 q) (nD σ))) (lossH 12 σ)) (turnB σ)) (floodB σ (nI 10))), .int (borneS σ)]) (rest := []) (wB := (oC ob h h2) ++ ((mC cI cZ h a σ) ++ (mC cI cZ h2 a2 ρ_14))) (c_X1_mix l D cI cZ cL (mx (mx (mx (mx (mx (mx (mx (mx (mx (mx (mx (mx (mx 2341 (σ 11 4)) (σ 11 0)) (σ 11 1)) (σ 11 2)) (waterS σ)) (σ 11 3)) (wetN σ)) (lost σ)) (amax (fun q => σ 0 q + σ 2 q) (nF σ))) (amax (fun q => σ 8 q) (nD σ))) (lossH 12 σ)) (turnB σ)) (floodB σ (nI 10))) (borneS σ)) ⟨hx, hb, hml, hown, hts⟩ q380 b_X1_mix (n := 2) (by decide +kernel) ⟨Nat.le_of_ble_eq_true rfl, Nat.le_of_ble_eq_true rfl⟩ hK hP hD hS hA (spE _) (spE _) rfl hl.1 rfl (Nat.le_of_ble_eq_true rfl) dX1_digest_130 ⟨Nat.le_of_ble_eq_true rfl, Nat.le_of_ble_eq_true rfl⟩ (fun H locs hP hD hS => ?_)
  refine lv_lstore_n (lv' := [(1, .long (mx (mx (mx (mx (mx (mx (mx (mx (mx (mx (mx (mx (mx (mx 2341 (σ 11 4)) (σ 11 0)) (σ 11 1)) (σ 11 2)) (waterS σ)) (σ 11 3)) (wetN σ)) (lost σ)) (amax (fun q => σ 0 q + σ 2 q) (nF σ))) (amax (fun q => σ 8 q) (nD σ))) (lossH 12 σ)) (turnB σ)) (floodB σ (nI 10))) (borneS σ))), (0, .ref ob)]) hx hb dX1_digest_133 rfl hl (by decide) rfl (fun ls hl => ?_)
  refine lv_aload_n hx hb dX1_digest_134 rfl (lv_at hl 1 rfl) ?_
  refine lv_lload_n hx hb dX1_digest_135 rfl (lv_at hl 0 rfl) ?_
  refine MX.callV (C := RX1) (T := TX1) (N := 2) (As := [.long (mx (mx (mx (mx (mx (mx (mx (mx (mx (mx (mx (mx (mx (mx 2341 (σ 11 4)) (σ 11 0)) (σ 11 1)) (σ 11 2)) (waterS σ)) (σ 11 3)) (wetN σ)) (lost σ)) (amax (fun q => σ 0 q + σ 2 q) (nF σ))) (amax (fun q => σ 8 q) (nD σ))) (lossH 12 σ)) (turnB σ)) (floodB σ (nI 10))) (borneS σ))]) (rest := []) (wB := (fun ρ => (oC ob h h2) ++ ((mC cI cZ h a σ) ++ (mC cI cZ h2 a2 ρ)))) (c_X1_mixFields l D cI cZ cL ob h a h2 a2 σ ρ_14 hst hB (mx (mx (mx (mx (mx (mx (mx (mx (mx (mx (mx (mx (mx (mx 2341 (σ 11 4)) (σ 11 0)) (σ 11 1)) (σ 11 2)) (waterS σ)) (σ 11 3)) (wetN σ)) (lost σ)) (amax (fun q => σ 0 q + σ 2 q) (nF σ))) (amax (fun q => σ 8 q) (nD σ))) (lossH 12 σ)) (turnB σ)) (floodB σ (nI 10))) (borneS σ))) ⟨hx, hb, hml, hown, hts⟩ q404 b_X1_mixFields (n := 1) (by decide +kernel) ⟨Nat.le_of_ble_eq_true rfl, Nat.le_of_ble_eq_true rfl⟩ hK hP hD hS hA hE (sp0 _) (fun _ => sp0 _) (ci := 1) rfl (q0 := 0) rfl rfl hl.1 rfl (Nat.le_of_ble_eq_true rfl) dX1_digest_136 ⟨Nat.le_of_ble_eq_true rfl, Nat.le_of_ble_eq_true rfl⟩ (fun ρ_15 H locs hP hD hS => ?_)
  have hP : va_P D vwCl ((oC ob h h2) ++ ((mC cI cZ h a σ) ++ (mC cI cZ h2 a2 ρ_15))) H := hP
  have hD : va_D A ((oC ob h h2) ++ ((mC cI cZ h a σ) ++ (mC cI cZ h2 a2 ρ_15))) := hD
  refine lv_lstore_n (lv' := [(1, .long (fldsD σ (mx (mx (mx (mx (mx (mx (mx (mx (mx (mx (mx (mx (mx (mx 2341 (σ 11 4)) (σ 11 0)) (σ 11 1)) (σ 11 2)) (waterS σ)) (σ 11 3)) (wetN σ)) (lost σ)) (amax (fun q => σ 0 q + σ 2 q) (nF σ))) (amax (fun q => σ 8 q) (nD σ))) (lossH 12 σ)) (turnB σ)) (floodB σ (nI 10))) (borneS σ)) n)), (0, .ref ob)]) hx hb dX1_digest_139 rfl hl (by decide) rfl (fun ls hl => ?_)
  refine lv_aload_n hx hb dX1_digest_140 rfl (lv_at hl 1 rfl) ?_
  refine lv_lload_n hx hb dX1_digest_141 rfl (lv_at hl 0 rfl) ?_
  refine MX.callV (C := RX1) (T := TX1) (N := 2) (As := [.long (fldsD σ (mx (mx (mx (mx (mx (mx (mx (mx (mx (mx (mx (mx (mx (mx 2341 (σ 11 4)) (σ 11 0)) (σ 11 1)) (σ 11 2)) (waterS σ)) (σ 11 3)) (wetN σ)) (lost σ)) (amax (fun q => σ 0 q + σ 2 q) (nF σ))) (amax (fun q => σ 8 q) (nD σ))) (lossH 12 σ)) (turnB σ)) (floodB σ (nI 10))) (borneS σ)) n)]) (rest := []) (wB := (fun ρ => (oC ob h h2) ++ ((mC cI cZ h a σ) ++ (mC cI cZ h2 a2 ρ)))) (c_X1_mixDrains l D cI cZ cL ob h a h2 a2 σ ρ_15 hst hB (fldsD σ (mx (mx (mx (mx (mx (mx (mx (mx (mx (mx (mx (mx (mx (mx 2341 (σ 11 4)) (σ 11 0)) (σ 11 1)) (σ 11 2)) (waterS σ)) (σ 11 3)) (wetN σ)) (lost σ)) (amax (fun q => σ 0 q + σ 2 q) (nF σ))) (amax (fun q => σ 8 q) (nD σ))) (lossH 12 σ)) (turnB σ)) (floodB σ (nI 10))) (borneS σ)) n)) ⟨hx, hb, hml, hown, hts⟩ q414 b_X1_mixDrains (n := 1) (by decide +kernel) ⟨Nat.le_of_ble_eq_true rfl, Nat.le_of_ble_eq_true rfl⟩ hK hP hD hS hA hE (sp0 _) (fun _ => sp0 _) (ci := 1) rfl (q0 := 0) rfl rfl hl.1 rfl (Nat.le_of_ble_eq_true rfl) dX1_digest_142 ⟨Nat.le_of_ble_eq_true rfl, Nat.le_of_ble_eq_true rfl⟩ (fun ρ_16 H locs hP hD hS => ?_)
  have hP : va_P D vwCl ((oC ob h h2) ++ ((mC cI cZ h a σ) ++ (mC cI cZ h2 a2 ρ_16))) H := hP
  have hD : va_D A ((oC ob h h2) ++ ((mC cI cZ h a σ) ++ (mC cI cZ h2 a2 ρ_16))) := hD
  subst hQ
  exact xrl ρ_16 hx hb hr hlocks hK hP hD hS dX1_digest_145 (rfl) (by unfold digS headD; rw [hst.eF, hst.eD])
