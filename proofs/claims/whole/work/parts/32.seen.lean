theorem chg_x0 (p q : Nat) : chg p q ||| 0 = chg p q := by
  unfold chg
  split <;> decide
abbrev rmX2_spreads : Room := { frames := 0, cells := 0, slots := 0, locals := 0 }
theorem b_X2_spreads : Cond.instanceMethod yX2_spreads ∈ LW ∧ Cond.selects RX2 yX2_spreads yX2_spreads ∈ LW ∧ Cond.initialized RX2 ∈ LW ∧ Cond.code yX2_spreads cX2_spreads 3 (some .boolean) ∈ LW := ⟨q810, q27, q40, q811⟩
set_option maxHeartbeats 4000000 in
set_option maxRecDepth 100000 in
theorem c_X2_spreads_s (l : Launch) (D : va_G) (cI cZ cL : ClassId) {n k : Nat} (o : Nat) (b : Nat → Nat) (σ : Sg) (κ ζ : Nat → Int32) (th : Int32) (x : Int32) : MC l yX2_spreads cX2_spreads 3 (some .boolean) rmX2_spreads D (tZ cI cZ cL) [.ref o, .int x, .int (-1)] (rC cI cZ o b σ κ ζ th) (rC cI cZ o b σ κ ζ th) (some (.int 0)) := by
  refine MC.of (by decide) (Nat.le_of_ble_eq_true rfl) ?_
  intro p e s m args below meth c A ls Q hx hb hml hr hts hown hlocks hA hP hD hK hS hl hQ
  have hown : s.vm.findClass RX2 = some m.cls := hown
  have hl : lv_has ls 3 [(0, .ref o), (1, .int x), (2, .int (-1))] := hl
  refine lv_iload_n hx hb dX2_spreads_0 rfl (lv_at hl 2 rfl) ?_
  refine lv_iconst (v := (-1)) hx hb dX2_spreads_1 (by decide) ?_
  refine lv_icmp_eq (tgt := 23) hx hb dX2_spreads_2 (by decide) (fun c_2 => ?_) (fun z => absurd (by decide) z)
  refine lv_iconst (v := 0) hx hb dX2_spreads_23 (by decide) ?_
  subst hQ
  exact rz hx hb hr hlocks hK hP hD hS dX2_spreads_24 (by decide) (rfl) (rfl)

set_option maxHeartbeats 4000000 in
set_option maxRecDepth 100000 in
theorem c_X2_spreads_n (l : Launch) (D : va_G) (cI cZ cL : ClassId) {n : Nat} (o : Nat) (b : Nat → Nat) (σ : Sg) (κ ζ : Nat → Int32) (th : Int32) (hn10 : n ≤ 10) (q a0 b0 : Nat) (ha0 : a0 < n) (hb0 : b0 < n) : MC l yX2_spreads cX2_spreads 3 (some .boolean) rmX2_spreads D (tZ cI cZ cL) [.ref o, .int (nI a0), .int (nI b0)] (rC cI cZ o b σ κ (seenF n q ζ) th) (rC cI cZ o b σ κ (seenF n (fw a0 b0 q) ζ) th) (some (.int (chg (fw a0 b0 q) q))) := by
  refine MC.of (by decide) (Nat.le_of_ble_eq_true rfl) ?_
  intro p e s m args below meth c A ls Q hx hb hml hr hts hown hlocks hA hP hD hK hS hl hQ
  have hown : s.vm.findClass RX2 = some m.cls := hown
  have hl : lv_has ls 3 [(0, .ref o), (1, .int (nI a0)), (2, .int (nI b0))] := hl
  refine lv_iload_n hx hb dX2_spreads_0 rfl (lv_at hl 2 rfl) ?_
  refine lv_iconst (v := (-1)) hx hb dX2_spreads_1 (by decide) ?_
  refine lv_icmp_eq (tgt := 23) hx hb dX2_spreads_2 (by decide) (fun z => absurd z (nI_ne_m1 (by omega))) (fun c_2 => ?_)
  refine lv_aload_n hx hb dX2_spreads_5 rfl (lv_at hl 0 rfl) ?_
  refine x_get (C := RX2) (T := TX2) (N := 14) hx hb hts in_wsX20 hown hK hP 0 rfl rfl 13 (by decide) q605 (v := .ref (b 9)) rfl dX2_spreads_6 ?_
  refine lv_iload_n hx hb dX2_spreads_9 rfl (lv_at hl 1 rfl) ?_
  refine x_zld hx hb hK hP 10 1 rfl rfl a0 (rfl) (by omega) (by decide) (v := bI (q.testBit a0)) (seenF_at ha0) dX2_spreads_10 ?_
  refine lv_if_eq (tgt := 23) hx hb dX2_spreads_11 (by decide) (fun c_11 => ?_) (fun c_11 => ?_)
  · refine lv_iconst (v := 0) hx hb dX2_spreads_23 (by decide) ?_
    subst hQ
    exact rz hx hb hr hlocks hK hP hD hS dX2_spreads_24 (by decide) (by rw [fw_f (bI_0 c_11)]) (by rw [fw_f (bI_0 c_11)]; exact (chg_0 q).symm)
  · refine lv_aload_n hx hb dX2_spreads_14 rfl (lv_at hl 0 rfl) ?_
    refine x_get (C := RX2) (T := TX2) (N := 14) hx hb hts in_wsX20 hown hK hP 0 rfl rfl 13 (by decide) q605 (v := .ref (b 9)) rfl dX2_spreads_15 ?_
    refine lv_iload_n hx hb dX2_spreads_18 rfl (lv_at hl 2 rfl) ?_
    refine x_zld hx hb hK hP 10 1 rfl rfl b0 (rfl) (by omega) (by decide) (v := bI (q.testBit b0)) (seenF_at hb0) dX2_spreads_19 ?_
    refine lv_if_eq (tgt := 25) hx hb dX2_spreads_20 (by decide) (fun c_20 => ?_) (fun c_20 => ?_)
    · refine lv_aload_n hx hb dX2_spreads_25 rfl (lv_at hl 0 rfl) ?_
      refine x_get (C := RX2) (T := TX2) (N := 14) hx hb hts in_wsX20 hown hK hP 0 rfl rfl 13 (by decide) q605 (v := .ref (b 9)) rfl dX2_spreads_26 ?_
      refine lv_iload_n hx hb dX2_spreads_29 rfl (lv_at hl 2 rfl) ?_
      refine lv_iconst (v := 1) hx hb dX2_spreads_30 (by decide) ?_
      refine x_zst (ws2 := rC cI cZ o b σ κ (upd (seenF n q ζ) b0 1) th) hx hb hK hP hD hS 10 1 rfl rfl b0 (rfl) (by omega) (by decide) (Or.inr rfl) rfl dX2_spreads_31 (fun H locs hP hD hS => ?_)
      refine lv_iconst (v := 1) hx hb dX2_spreads_32 (by decide) ?_
      subst hQ
      exact rz hx hb hr hlocks hK hP hD hS dX2_spreads_33 (by decide) (by rw [fw_t (bI_1 c_11), seenF_up ζ hb0]) (by rw [fw_t (bI_1 c_11)]; exact (chg_new (bI_0 c_20)).symm)
    · refine lv_iconst (v := 0) hx hb dX2_spreads_23 (by decide) ?_
      subst hQ
      exact rz hx hb hr hlocks hK hP hD hS dX2_spreads_24 (by decide) (by rw [fw_t (bI_1 c_11), or_same (bI_1 c_20)]) (by rw [fw_t (bI_1 c_11), or_same (bI_1 c_20)]; exact (chg_0 q).symm)

abbrev rmX2_spread : Room := { frames := 1, cells := 0, slots := 0, locals := 22 }
theorem b_X2_spread : Cond.instanceMethod yX2_spread ∈ LW ∧ Cond.selects RX2 yX2_spread yX2_spread ∈ LW ∧ Cond.initialized RX2 ∈ LW ∧ Cond.code yX2_spread cX2_spread 5 (some .int) ∈ LW := ⟨q806, q26, q40, q807⟩
set_option maxHeartbeats 4000000 in
set_option maxRecDepth 100000 in
theorem c_X2_spread (l : Launch) (D : va_G) (cI cZ cL : ClassId) {n k : Nat} (o : Nat) (b : Nat → Nat) (σ : Sg) (κ ζ : Nat → Int32) (th : Int32) (hst : Shp n k σ) (j : Nat) (hj : j < n) : MC l yX2_spread cX2_spread 5 (some .int) rmX2_spread D (tZ cI cZ cL) [.ref o, .int (nI j)] (rC cI cZ o b σ κ ζ th) (rC cI cZ o b σ κ (seenF n (cloM σ j) ζ) th) (some (.int (reachS σ j))) := by
  refine MC.of (by decide) (Nat.le_of_ble_eq_true rfl) ?_
  intro p e s m args below meth c A ls Q hx hb hml hr hts hown hlocks hA hP hD hK hS hl hQ
  have hown : s.vm.findClass RX2 = some m.cls := hown
  have hn10 := hst.1
  have hk16 := hst.2.1
  have hl : lv_has ls 5 [(0, .ref o), (1, .int (nI j))] := hl
  refine lv_iconst (v := 0) hx hb dX2_spread_0 (by decide) ?_
  refine lv_istore_n (lv' := [(2, .int 0), (0, .ref o), (1, .int (nI j))]) hx hb dX2_spread_1 rfl hl (by decide) rfl (fun ls hl => ?_)
  rw [← seen0_0 j ζ] at hP hD
  have hl : lv_has ls 5 [(2, .int (nI 0)), (0, .ref o), (1, .int (nI j))] := hl
  have L2 : ∀ (f i : Nat), i ≤ n → n < i + f → ∀ (H : Heap) (locs : List Loc) (ls : Array Slot), va_P D vwCl (rC cI cZ o b σ κ (seen0 j ζ i) th) H → va_D A (rC cI cZ o b σ κ (seen0 j ζ i) th) → va_S A s.heap H locs → lv_has ls 5 [(0, .ref o), (1, .int (nI j)), (2, .int (nI i))] → W p l e rmX2_spread s m args below meth c H locs 0 0 Q (F0 m 2 ls []) := by
    intro f
    induction f with
    | zero => intro i h1 h2; exact absurd h2 (by omega)
    | succ f ih_2 =>
      intro i hi_2 hf_2 H locs ls hP hD hS hl
      refine lv_iload_n hx hb dX2_spread_2 rfl (lv_at hl 2 rfl) ?_
      refine lv_aload_n hx hb dX2_spread_3 rfl (lv_at hl 0 rfl) ?_
      refine x_get (C := RX2) (T := TX2) (N := 14) hx hb hts in_wsX20 hown hK hP 0 rfl rfl 1 (by decide) q593 (v := .int (nI n)) (congrArg (fun z => some (Value.int z)) (hst.f0)) dX2_spread_4 ?_
      refine lv_icmp_ge (tgt := 32) hx hb dX2_spread_7 (by decide) (fun c_7 => ?_) (fun c_7 => ?_)
      · have hc_7 : n ≤ i := (nI_leI (a := n) (b := i) (by omega) (by omega)).mp c_7
        refine lv_iconst (v := 1) hx hb dX2_spread_32 (by decide) ?_
        refine lv_istore_n (lv' := [(2, .int 1), (0, .ref o), (1, .int (nI j))]) hx hb dX2_spread_33 rfl hl (by decide) rfl (fun ls hl => ?_)
        have hi9 : i = n := by omega
        rw [hi9, seen0_n] at hP hD
        have hpj : 2 ^ j < 2 ^ n := Nat.pow_lt_pow_right (by decide) hj
        have L34 : ∀ (f t : Nat), 2 ^ n ≤ rnd σ (2 ^ j) t + f → ∀ (H : Heap) (locs : List Loc) (ls : Array Slot), va_P D vwCl (rC cI cZ o b σ κ (seenF n (rnd σ (2 ^ j) t) ζ) th) H → va_D A (rC cI cZ o b σ κ (seenF n (rnd σ (2 ^ j) t) ζ) th) → va_S A s.heap H locs → lv_has ls 5 [(0, .ref o), (2, .int 1)] → W p l e rmX2_spread s m args below meth c H locs 0 0 Q (F0 m 34 ls []) := by
          intro f
          induction f with
          | zero => intro t h1; exact absurd (rn_lt hst hpj t) (by omega)
          | succ f ih34 =>
            intro t hf_34 H locs ls hP hD hS hl
            obtain ⟨q, eq⟩ : ∃ z, z = rnd σ (2 ^ j) t := ⟨_, rfl⟩
            rw [← eq] at hP hD hf_34
            have hq : q < 2 ^ n := by rw [eq]; exact rn_lt hst hpj t
            refine lv_iload_n hx hb dX2_spread_34 rfl (lv_at hl 1 rfl) ?_
            refine lv_if_eq (tgt := 118) hx hb dX2_spread_35 (by decide) (fun z => absurd z (by decide)) (fun c_35 => ?_)
            refine lv_iconst (v := 0) hx hb dX2_spread_38 (by decide) ?_
            refine lv_istore_n (lv' := [(2, .int 0), (0, .ref o)]) hx hb dX2_spread_39 rfl hl (by decide) rfl (fun ls hl => ?_)
            refine lv_iconst (v := 0) hx hb dX2_spread_40 (by decide) ?_
            refine lv_istore_n (lv' := [(3, .int 0), (2, .int 0), (0, .ref o)]) hx hb dX2_spread_41 rfl hl (by decide) rfl (fun ls hl => ?_)
            have hl : lv_has ls 5 [(3, .int (nI 0)), (2, .int (chg (passN σ q 0) q)), (0, .ref o)] := by rw [show passN σ q 0 = q from rfl, chg_0]; exact hl
            have L42 : ∀ (f i : Nat), i ≤ k → k < i + f → ∀ (H : Heap) (locs : List Loc) (ls : Array Slot), va_P D vwCl (rC cI cZ o b σ κ (seenF n (passN σ q i) ζ) th) H → va_D A (rC cI cZ o b σ κ (seenF n (passN σ q i) ζ) th) → va_S A s.heap H locs → lv_has ls 5 [(0, .ref o), (2, .int (chg (passN σ q i) q)), (3, .int (nI i))] → W p l e rmX2_spread s m args below meth c H locs 0 0 Q (F0 m 42 ls []) := by
              intro f
              induction f with
              | zero => intro i h1 h2; exact absurd h2 (by omega)
              | succ f ih_42 =>
                intro i hi_42 hf_42 H locs ls hP hD hS hl
                refine lv_iload_n hx hb dX2_spread_42 rfl (lv_at hl 2 rfl) ?_
                refine lv_aload_n hx hb dX2_spread_43 rfl (lv_at hl 0 rfl) ?_
                refine x_get (C := RX2) (T := TX2) (N := 14) hx hb hts in_wsX20 hown hK hP 0 rfl rfl 2 (by decide) q594 (v := .int (nI k)) (congrArg (fun z => some (Value.int z)) (hst.f1)) dX2_spread_44 ?_
                refine lv_icmp_ge (tgt := 115) hx hb dX2_spread_47 (by decide) (fun c_47 => ?_) (fun c_47 => ?_)
                · have hc_47 : k ≤ i := (nI_leI (a := k) (b := i) (by omega) (by omega)).mp c_47
                  refine lv_goto (tgt := 34) hx hb dX2_spread_115 (by decide) ?_
                  have hk9 : passN σ q i = passM σ q := by unfold passM; rw [hst.eD, show i = k by omega]
                  rw [hk9] at hP hD hl
                  by_cases hcq : passM σ q = q
                  · rw [hcq] at hP hD hl
                    rw [chg_0] at hl
                    have hclo : q = cloM σ j := by rw [eq]; exact clo_of hst hj (by rw [← eq]; exact hcq)
                    rw [hclo] at hP hD
                    refine lv_iload_n hx hb dX2_spread_34 rfl (lv_at hl 1 rfl) ?_
                    refine lv_if_eq (tgt := 118) hx hb dX2_spread_35 (by decide) (fun c_35 => ?_) (fun z => absurd (by decide) z)
                    refine lv_iconst (v := 0) hx hb dX2_spread_118 (by decide) ?_
                    refine lv_istore_n (lv' := [(3, .int 0), (0, .ref o), (2, .int 0)]) hx hb dX2_spread_119 rfl hl (by decide) rfl (fun ls hl => ?_)
                    refine lv_iconst (v := 0) hx hb dX2_spread_120 (by decide) ?_
                    refine lv_istore (lv' := [(4, .int 0), (3, .int 0), (0, .ref o), (2, .int 0)]) hx hb dX2_spread_121 hl (by decide) rfl (fun ls hl => ?_)
                    have hl : lv_has ls 5 [(4, .int (nI 0)), (3, .int (sumI (fun f => bI ((cloM σ j).testBit f)) 0)), (0, .ref o), (2, .int 0)] := hl
                    have L123 : ∀ (f i : Nat), i ≤ n → n < i + f → ∀ (H : Heap) (locs : List Loc) (ls : Array Slot), va_P D vwCl (rC cI cZ o b σ κ (seenF n (cloM σ j) ζ) th) H → va_D A (rC cI cZ o b σ κ (seenF n (cloM σ j) ζ) th) → va_S A s.heap H locs → lv_has ls 5 [(0, .ref o), (3, .int (sumI (fun f => bI ((cloM σ j).testBit f)) i)), (4, .int (nI i))] → W p l e rmX2_spread s m args below meth c H locs 0 0 Q (F0 m 123 ls []) := by
                      intro f
                      induction f with
                      | zero => intro i h1 h2; exact absurd h2 (by omega)
                      | succ f ih_123 =>
                        intro i hi_123 hf_123 H locs ls hP hD hS hl
                        refine lv_iload hx hb dX2_spread_123 (lv_at hl 2 rfl) ?_
                        refine lv_aload_n hx hb dX2_spread_125 rfl (lv_at hl 0 rfl) ?_
                        refine x_get (C := RX2) (T := TX2) (N := 14) hx hb hts in_wsX20 hown hK hP 0 rfl rfl 1 (by decide) q593 (v := .int (nI n)) (congrArg (fun z => some (Value.int z)) (hst.f0)) dX2_spread_126 ?_
                        refine lv_icmp_ge (tgt := 156) hx hb dX2_spread_129 (by decide) (fun c_129 => ?_) (fun c_129 => ?_)
                        · have hc_129 : n ≤ i := (nI_leI (a := n) (b := i) (by omega) (by omega)).mp c_129
                          refine lv_iload_n hx hb dX2_spread_156 rfl (lv_at hl 1 rfl) ?_
                          refine lv_iconst (v := 1) hx hb dX2_spread_157 (by decide) ?_
                          refine lv_isub hx hb dX2_spread_158 ?_
                          subst hQ
                          exact ri hx hb hr hlocks hK hP hD hS dX2_spread_159 (rfl) (by rw [show i = n by omega]; exact reach_of hst hj)
                        · have hc_129 : i < n := Nat.not_le.mp (fun z => c_129 ((nI_leI (a := n) (b := i) (by omega) (by omega)).mpr z))
                          refine lv_iload_n hx hb dX2_spread_132 rfl (lv_at hl 1 rfl) ?_
                          refine lv_aload_n hx hb dX2_spread_133 rfl (lv_at hl 0 rfl) ?_
                          refine x_get (C := RX2) (T := TX2) (N := 14) hx hb hts in_wsX20 hown hK hP 0 rfl rfl 13 (by decide) q605 (v := .ref (b 9)) rfl dX2_spread_134 ?_
                          refine lv_iload hx hb dX2_spread_137 (lv_at hl 2 rfl) ?_
                          refine x_zld hx hb hK hP 10 1 rfl rfl i (rfl) (by omega) (by decide) (v := bI ((cloM σ j).testBit i)) (seenF_at (by omega)) dX2_spread_139 ?_
                          have J148_1 : W p l e rmX2_spread s m args below meth c H locs 0 0 Q (F0 m 148 ls [.int (bI ((cloM σ j).testBit i)), .int (sumI (fun f => bI ((cloM σ j).testBit f)) i)]) := by
                            refine lv_iadd hx hb dX2_spread_148 ?_
                            refine lv_topi (fun v_1 ev_1 => ?_)
                            refine lv_istore_n (lv' := [(3, .int v_1), (0, .ref o), (4, .int (nI i))]) hx hb dX2_spread_149 rfl hl (by decide) rfl (fun ls hl => ?_)
                            refine lv_iinc (v := (nI (i + 1))) (lv' := [(4, .int (nI (i + 1))), (3, .int v_1), (0, .ref o)]) hx hb dX2_spread_150 hl (k := 2) rfl (nI_add i 1) (by decide) rfl (fun ls hl => ?_)
                            refine lv_goto (tgt := 123) hx hb dX2_spread_153 (by decide) ?_
                            have e8 : v_1 = sumI (fun f => bI ((cloM σ j).testBit f)) (i + 1) := by
                              rw [ev_1]
                              rfl
                            rw [e8] at hl
                            exact ih_123 (i + 1) (by omega) (by omega) _ _ _ hP hD hS (lv_sub hl [2, 1, 0] rfl)
                          refine lv_if_eq (tgt := 147) hx hb dX2_spread_140 (by decide) (fun c_140 => ?_) (fun c_140 => ?_)
                          · refine lv_iconst (v := 0) hx hb dX2_spread_147 (by decide) ?_
                            exact x_top (show 0 = bI ((cloM σ j).testBit i) from c_140.symm) J148_1
                          · refine lv_iconst (v := 1) hx hb dX2_spread_143 (by decide) ?_
                            refine lv_goto (tgt := 148) hx hb dX2_spread_144 (by decide) ?_
                            exact x_top (show 1 = bI ((cloM σ j).testBit i) from bI_1v c_140) J148_1
                    exact L123 (n + 1) 0 (by omega) (by omega) _ _ _ hP hD hS (lv_sub hl [2, 1, 0] rfl)
                  · rw [chg_1 hcq] at hl
                    have hle : q ≤ passM σ q := by unfold passM; rw [hst.eD]; exact pn_le hst k (Nat.le_refl _)
                    have ert : rnd σ (2 ^ j) (t + 1) = passM σ q := by rw [eq]; rfl
                    exact ih34 (t + 1) (by rw [ert]; omega) _ _ _ (by rw [ert]; exact hP) (by rw [ert]; exact hD) hS (lv_sub hl [0, 1] rfl)
                · have hc_47 : i < k := Nat.not_le.mp (fun z => c_47 ((nI_leI (a := k) (b := i) (by omega) (by omega)).mpr z))
                  refine lv_aload_n hx hb dX2_spread_50 rfl (lv_at hl 0 rfl) ?_
                  refine x_get (C := RX2) (T := TX2) (N := 14) hx hb hts in_wsX20 hown hK hP 0 rfl rfl 10 (by decide) q602 (v := .ref (b 6)) rfl dX2_spread_51 ?_
                  refine lv_iload_n hx hb dX2_spread_54 rfl (lv_at hl 2 rfl) ?_
                  refine x_zld hx hb hK hP 7 1 rfl rfl i (rfl) (by omega) (by decide) (v := σ 10 i) rfl dX2_spread_55 ?_
                  refine lv_if_ne (tgt := 62) hx hb dX2_spread_56 (by decide) (fun c_56 => ?_) (fun c_56 => ?_)
                  · obtain ⟨a0, ha0, ea0⟩ := hst.2.2.2.2.1 i (by omega)
                    rcases hst.2.2.2.2.2 i (by omega) with ⟨hs6, hpu⟩ | ⟨b0, hb0, eb0⟩
                    · refine lv_iload_n hx hb dX2_spread_62 rfl (lv_at hl 1 rfl) ?_
                      refine lv_aload_n hx hb dX2_spread_63 rfl (lv_at hl 0 rfl) ?_
                      refine lv_aload_n hx hb dX2_spread_64 rfl (lv_at hl 0 rfl) ?_
                      refine x_get (C := RX2) (T := TX2) (N := 14) hx hb hts in_wsX20 hown hK hP 0 rfl rfl 6 (by decide) q598 (v := .ref (b 2)) rfl dX2_spread_65 ?_
                      refine lv_iload_n hx hb dX2_spread_68 rfl (lv_at hl 2 rfl) ?_
                      refine x_ild hx hb hK hP 3 0 rfl rfl i (rfl) (by omega) (by decide) (v := (nI a0)) (ea0) dX2_spread_69 ?_
                      refine lv_aload_n hx hb dX2_spread_70 rfl (lv_at hl 0 rfl) ?_
                      refine x_get (C := RX2) (T := TX2) (N := 14) hx hb hts in_wsX20 hown hK hP 0 rfl rfl 7 (by decide) q599 (v := .ref (b 3)) rfl dX2_spread_71 ?_
                      refine lv_iload_n hx hb dX2_spread_74 rfl (lv_at hl 2 rfl) ?_
                      refine x_ild hx hb hK hP 4 0 rfl rfl i (rfl) (by omega) (by decide) (v := (-1)) (hs6) dX2_spread_75 ?_
                      refine MC.callV (C := RX2) (T := TX2) (N := 14) (As := [.int (nI a0), .int (-1)]) (rest := [.int (chg (passN σ q i) q)]) (wB := rC cI cZ o b σ κ (seenF n (passN σ q i) ζ) th) (c_X2_spreads_s (n := n) (k := k) l D cI cZ cL o b σ κ (seenF n (passN σ q i) ζ) th (nI a0)) ⟨hx, hb, hml, hown, hts⟩ q808 b_X2_spreads (n := 2) (by decide +kernel) ⟨Nat.le_of_ble_eq_true rfl, Nat.le_of_ble_eq_true rfl⟩ hK hP hD hS hA (sp0 _) (sp0 _) (ci := 2) rfl (q0 := 0) rfl rfl hl.1 rfl (Nat.le_of_ble_eq_true rfl) dX2_spread_76 ⟨Nat.le_of_ble_eq_true rfl, Nat.le_of_ble_eq_true rfl⟩ (fun H locs hP hD hS => ?_)
                      refine lv_ior hx hb dX2_spread_79 ?_
                      refine x_top (by exact chg_x0 _ _) ?_
                      refine lv_istore_n (lv' := [(2, .int (chg (passN σ q i) q)), (0, .ref o), (3, .int (nI i))]) hx hb dX2_spread_80 rfl hl (by decide) rfl (fun ls hl => ?_)
                      refine lv_aload_n hx hb dX2_spread_81 rfl (lv_at hl 1 rfl) ?_
                      refine x_get (C := RX2) (T := TX2) (N := 14) hx hb hts in_wsX20 hown hK hP 0 rfl rfl 9 (by decide) q601 (v := .ref (b 5)) rfl dX2_spread_82 ?_
                      refine lv_iload_n hx hb dX2_spread_85 rfl (lv_at hl 2 rfl) ?_
                      refine x_zld hx hb hK hP 6 1 rfl rfl i (rfl) (by omega) (by decide) (v := σ 9 i) rfl dX2_spread_86 ?_
                      refine lv_if_ne (tgt := 109) hx hb dX2_spread_87 (by decide) (fun c_87 => ?_) (fun z => absurd z (hpu))
                      refine lv_iinc (v := (nI (i + 1))) (lv' := [(3, .int (nI (i + 1))), (2, .int (chg (passN σ q i) q)), (0, .ref o)]) hx hb dX2_spread_109 hl (k := 2) rfl (nI_add i 1) (by decide) rfl (fun ls hl => ?_)
                      refine lv_goto (tgt := 42) hx hb dX2_spread_112 (by decide) ?_
                      have e9 : passN σ q i = passN σ q (i + 1) := by
                        show _ = stepM σ i (passN σ q i)
                        rw [sm_sea hs6]
                      rw [e9] at hP hD hl
                      exact ih_42 (i + 1) (by omega) (by omega) _ _ _ hP hD hS (lv_sub hl [2, 1, 0] rfl)
                    · refine lv_iload_n hx hb dX2_spread_62 rfl (lv_at hl 1 rfl) ?_
                      refine lv_aload_n hx hb dX2_spread_63 rfl (lv_at hl 0 rfl) ?_
                      refine lv_aload_n hx hb dX2_spread_64 rfl (lv_at hl 0 rfl) ?_
                      refine x_get (C := RX2) (T := TX2) (N := 14) hx hb hts in_wsX20 hown hK hP 0 rfl rfl 6 (by decide) q598 (v := .ref (b 2)) rfl dX2_spread_65 ?_
                      refine lv_iload_n hx hb dX2_spread_68 rfl (lv_at hl 2 rfl) ?_
                      refine x_ild hx hb hK hP 3 0 rfl rfl i (rfl) (by omega) (by decide) (v := (nI a0)) (ea0) dX2_spread_69 ?_
                      refine lv_aload_n hx hb dX2_spread_70 rfl (lv_at hl 0 rfl) ?_
                      refine x_get (C := RX2) (T := TX2) (N := 14) hx hb hts in_wsX20 hown hK hP 0 rfl rfl 7 (by decide) q599 (v := .ref (b 3)) rfl dX2_spread_71 ?_
                      refine lv_iload_n hx hb dX2_spread_74 rfl (lv_at hl 2 rfl) ?_
                      refine x_ild hx hb hK hP 4 0 rfl rfl i (rfl) (by omega) (by decide) (v := (nI b0)) (eb0) dX2_spread_75 ?_
                      refine MC.callV (C := RX2) (T := TX2) (N := 14) (As := [.int (nI a0), .int (nI b0)]) (rest := [.int (chg (passN σ q i) q)]) (wB := rC cI cZ o b σ κ (seenF n (fw a0 b0 (passN σ q i)) ζ) th) (c_X2_spreads_n l D cI cZ cL o b σ κ ζ th hn10 (passN σ q i) a0 b0 ha0 hb0) ⟨hx, hb, hml, hown, hts⟩ q808 b_X2_spreads (n := 2) (by decide +kernel) ⟨Nat.le_of_ble_eq_true rfl, Nat.le_of_ble_eq_true rfl⟩ hK hP hD hS hA (sp0 _) (sp0 _) (ci := 2) rfl (q0 := 0) rfl rfl hl.1 rfl (Nat.le_of_ble_eq_true rfl) dX2_spread_76 ⟨Nat.le_of_ble_eq_true rfl, Nat.le_of_ble_eq_true rfl⟩ (fun H locs hP hD hS => ?_)
                      refine lv_ior hx hb dX2_spread_79 ?_
                      refine x_top (chg_or (pn_le hst i (by omega)) (fw_le _ _ _)) ?_
                      refine lv_istore_n (lv' := [(2, .int (chg (fw a0 b0 (passN σ q i)) q)), (0, .ref o), (3, .int (nI i))]) hx hb dX2_spread_80 rfl hl (by decide) rfl (fun ls hl => ?_)
                      refine lv_aload_n hx hb dX2_spread_81 rfl (lv_at hl 1 rfl) ?_
                      refine x_get (C := RX2) (T := TX2) (N := 14) hx hb hts in_wsX20 hown hK hP 0 rfl rfl 9 (by decide) q601 (v := .ref (b 5)) rfl dX2_spread_82 ?_
                      refine lv_iload_n hx hb dX2_spread_85 rfl (lv_at hl 2 rfl) ?_
                      refine x_zld hx hb hK hP 6 1 rfl rfl i (rfl) (by omega) (by decide) (v := σ 9 i) rfl dX2_spread_86 ?_
                      refine lv_if_ne (tgt := 109) hx hb dX2_spread_87 (by decide) (fun c_87 => ?_) (fun c_87 => ?_)
                      · refine lv_iinc (v := (nI (i + 1))) (lv' := [(3, .int (nI (i + 1))), (2, .int (chg (fw a0 b0 (passN σ q i)) q)), (0, .ref o)]) hx hb dX2_spread_109 hl (k := 2) rfl (nI_add i 1) (by decide) rfl (fun ls hl => ?_)
                        refine lv_goto (tgt := 42) hx hb dX2_spread_112 (by decide) ?_
                        have e9 : fw a0 b0 (passN σ q i) = passN σ q (i + 1) := by
                          show _ = stepM σ i (passN σ q i)
                          rw [sm_p c_56 (by rw [eb0]; exact nI_ne_m1 (by omega)) c_87 ea0 eb0 (by omega) (by omega)]
                        rw [e9] at hP hD hl
                        exact ih_42 (i + 1) (by omega) (by omega) _ _ _ hP hD hS (lv_sub hl [2, 1, 0] rfl)
                      · refine lv_iload_n hx hb dX2_spread_90 rfl (lv_at hl 0 rfl) ?_
                        refine lv_aload_n hx hb dX2_spread_91 rfl (lv_at hl 1 rfl) ?_
                        refine lv_aload_n hx hb dX2_spread_92 rfl (lv_at hl 1 rfl) ?_
                        refine x_get (C := RX2) (T := TX2) (N := 14) hx hb hts in_wsX20 hown hK hP 0 rfl rfl 7 (by decide) q599 (v := .ref (b 3)) rfl dX2_spread_93 ?_
                        refine lv_iload_n hx hb dX2_spread_96 rfl (lv_at hl 2 rfl) ?_
                        refine x_ild hx hb hK hP 4 0 rfl rfl i (rfl) (by omega) (by decide) (v := (nI b0)) (eb0) dX2_spread_97 ?_
                        refine lv_aload_n hx hb dX2_spread_98 rfl (lv_at hl 1 rfl) ?_
                        refine x_get (C := RX2) (T := TX2) (N := 14) hx hb hts in_wsX20 hown hK hP 0 rfl rfl 6 (by decide) q598 (v := .ref (b 2)) rfl dX2_spread_99 ?_
                        refine lv_iload_n hx hb dX2_spread_102 rfl (lv_at hl 2 rfl) ?_
                        refine x_ild hx hb hK hP 3 0 rfl rfl i (rfl) (by omega) (by decide) (v := (nI a0)) (ea0) dX2_spread_103 ?_
                        refine MC.callV (C := RX2) (T := TX2) (N := 14) (As := [.int (nI b0), .int (nI a0)]) (rest := [.int (chg (fw a0 b0 (passN σ q i)) q)]) (wB := rC cI cZ o b σ κ (seenF n (fw b0 a0 (fw a0 b0 (passN σ q i))) ζ) th) (c_X2_spreads_n l D cI cZ cL o b σ κ ζ th hn10 (fw a0 b0 (passN σ q i)) b0 a0 hb0 ha0) ⟨hx, hb, hml, hown, hts⟩ q808 b_X2_spreads (n := 2) (by decide +kernel) ⟨Nat.le_of_ble_eq_true rfl, Nat.le_of_ble_eq_true rfl⟩ hK hP hD hS hA (sp0 _) (sp0 _) (ci := 2) rfl (q0 := 0) rfl rfl hl.1 rfl (Nat.le_of_ble_eq_true rfl) dX2_spread_104 ⟨Nat.le_of_ble_eq_true rfl, Nat.le_of_ble_eq_true rfl⟩ (fun H locs hP hD hS => ?_)
                        refine lv_ior hx hb dX2_spread_107 ?_
                        refine x_top (chg_or (Nat.le_trans (pn_le hst i (by omega)) (fw_le _ _ _)) (fw_le _ _ _)) ?_
                        refine lv_istore_n (lv' := [(2, .int (chg (fw b0 a0 (fw a0 b0 (passN σ q i))) q)), (0, .ref o), (3, .int (nI i))]) hx hb dX2_spread_108 rfl hl (by decide) rfl (fun ls hl => ?_)
                        refine lv_iinc (v := (nI (i + 1))) (lv' := [(3, .int (nI (i + 1))), (2, .int (chg (fw b0 a0 (fw a0 b0 (passN σ q i))) q)), (0, .ref o)]) hx hb dX2_spread_109 hl (k := 2) rfl (nI_add i 1) (by decide) rfl (fun ls hl => ?_)
                        refine lv_goto (tgt := 42) hx hb dX2_spread_112 (by decide) ?_
                        have e9 : fw b0 a0 (fw a0 b0 (passN σ q i)) = passN σ q (i + 1) := by
                          show _ = stepM σ i (passN σ q i)
                          rw [sm_d c_56 (by rw [eb0]; exact nI_ne_m1 (by omega)) c_87 ea0 eb0 (by omega) (by omega)]
                        rw [e9] at hP hD hl
                        exact ih_42 (i + 1) (by omega) (by omega) _ _ _ hP hD hS (lv_sub hl [2, 1, 0] rfl)
                  · refine lv_goto (tgt := 109) hx hb dX2_spread_59 (by decide) ?_
                    refine lv_iinc (v := (nI (i + 1))) (lv' := [(3, .int (nI (i + 1))), (0, .ref o), (2, .int (chg (passN σ q i) q))]) hx hb dX2_spread_109 hl (k := 2) rfl (nI_add i 1) (by decide) rfl (fun ls hl => ?_)
                    refine lv_goto (tgt := 42) hx hb dX2_spread_112 (by decide) ?_
                    have e9 : passN σ q i = passN σ q (i + 1) := by
                      show _ = stepM σ i (passN σ q i)
                      rw [sm_0 c_56]
                    rw [e9] at hP hD hl
                    exact ih_42 (i + 1) (by omega) (by omega) _ _ _ hP hD hS (lv_sub hl [1, 2, 0] rfl)
            exact L42 (k + 1) 0 (by omega) (by omega) _ _ _ hP hD hS (lv_sub hl [2, 1, 0] rfl)
        exact L34 (2 ^ n) 0 (by omega) _ _ _ hP hD hS (lv_sub hl [1, 0] rfl)
      · have hc_7 : i < n := Nat.not_le.mp (fun z => c_7 ((nI_leI (a := n) (b := i) (by omega) (by omega)).mpr z))
        refine lv_aload_n hx hb dX2_spread_10 rfl (lv_at hl 0 rfl) ?_
        refine x_get (C := RX2) (T := TX2) (N := 14) hx hb hts in_wsX20 hown hK hP 0 rfl rfl 13 (by decide) q605 (v := .ref (b 9)) rfl dX2_spread_11 ?_
        refine lv_iload_n hx hb dX2_spread_14 rfl (lv_at hl 2 rfl) ?_
        refine lv_iload_n hx hb dX2_spread_15 rfl (lv_at hl 2 rfl) ?_
        refine lv_iload_n hx hb dX2_spread_16 rfl (lv_at hl 1 rfl) ?_
        have J25_1 : W p l e rmX2_spread s m args below meth c H locs 0 0 Q (F0 m 25 ls [.int (if i = j then 1 else 0), .int (nI i), .ref (b 9)]) := by
          refine x_zst (ws2 := rC cI cZ o b σ κ (upd (seen0 j ζ i) i (if i = j then 1 else 0)) th) hx hb hK hP hD hS 10 1 rfl rfl i (rfl) (by omega) (by decide) (by split; exact Or.inr rfl; exact Or.inl rfl) rfl dX2_spread_25 (fun H locs hP hD hS => ?_)
          refine lv_iinc (v := (nI (i + 1))) (lv' := [(2, .int (nI (i + 1))), (0, .ref o), (1, .int (nI j))]) hx hb dX2_spread_26 hl (k := 2) rfl (nI_add i 1) (by decide) rfl (fun ls hl => ?_)
          refine lv_goto (tgt := 2) hx hb dX2_spread_29 (by decide) ?_
          rw [seen0_1] at hP hD
          exact ih_2 (i + 1) (by omega) (by omega) _ _ _ hP hD hS (lv_sub hl [1, 2, 0] rfl)
        refine lv_icmp_ne (tgt := 24) hx hb dX2_spread_17 (by decide) (fun c_17 => ?_) (fun c_17 => ?_)
        · have hc_17 : ¬ i = j := fun z => c_17 ((nI_eq (a := i) (b := j) (by omega) (by omega)).mpr z)
          refine lv_iconst (v := 0) hx hb dX2_spread_24 (by decide) ?_
          exact x_top (show 0 = if i = j then 1 else 0 from (if_neg hc_17).symm) J25_1
        · have hc_17 : i = j := (nI_eq (a := i) (b := j) (by omega) (by omega)).mp c_17
          refine lv_iconst (v := 1) hx hb dX2_spread_20 (by decide) ?_
          refine lv_goto (tgt := 25) hx hb dX2_spread_21 (by decide) ?_
          exact x_top (show 1 = if i = j then 1 else 0 from (if_pos hc_17).symm) J25_1
  exact L2 (n + 1) 0 (by omega) (by omega) _ _ _ hP hD hS (lv_sub hl [1, 2, 0] rfl)

abbrev rmX2_reaches : Room := { frames := 2, cells := 0, slots := 0, locals := 46 }
theorem b_X2_reaches : Cond.instanceMethod yX2_reaches ∈ LW ∧ Cond.selects RX2 yX2_reaches yX2_reaches ∈ LW ∧ Cond.initialized RX2 ∈ LW ∧ Cond.code yX2_reaches cX2_reaches 2 (some .int) ∈ LW := ⟨q801, q802, q40, q803⟩
set_option maxHeartbeats 4000000 in
set_option maxRecDepth 100000 in
theorem c_X2_reaches (l : Launch) (D : va_G) (cI cZ cL : ClassId) {n k : Nat} (o : Nat) (b : Nat → Nat) (σ : Sg) (κ ζ : Nat → Int32) (th : Int32) (hst : Shp n k σ) (x : Int32) : MC l yX2_reaches cX2_reaches 2 (some .int) rmX2_reaches D (tZ cI cZ cL) [.ref o, .int x] (rC cI cZ o b σ κ ζ th) (rC cI cZ o b σ κ (if hasF 0 σ x = 0 then ζ else seenF n (cloM σ x.toNatClampNeg) ζ) (if hasF 0 σ x = 0 then 1 else 0)) (some (.int (if hasF 0 σ x = 0 then 0 else reachS σ x.toNatClampNeg))) := by
  refine MC.of (by decide) (Nat.le_of_ble_eq_true rfl) ?_
  intro p e s m args below meth c A ls Q hx hb hml hr hts hown hlocks hA hP hD hK hS hl hQ
  have hown : s.vm.findClass RX2 = some m.cls := hown
  have hn10 := hst.1
  have hk16 := hst.2.1
  have hl : lv_has ls 2 [(0, .ref o), (1, .int x)] := hl
  refine lv_aload_n hx hb dX2_reaches_0 rfl (lv_at hl 0 rfl) ?_
  refine lv_iconst (v := 0) hx hb dX2_reaches_1 (by decide) ?_
  refine x_put (C := RX2) (T := TX2) (N := 14) (ws2 := rC cI cZ o b σ κ ζ 0) hx hb hts in_wsX20 tyX2_ok nmX2 hown hK hP hD hS 0 rfl rfl 0 (by decide) q592 rfl (by decide +kernel) (Nat.le_of_ble_eq_true rfl) rfl dX2_reaches_2 (fun H locs hP hD hS => ?_)
  refine lv_aload_n hx hb dX2_reaches_5 rfl (lv_at hl 0 rfl) ?_
  refine lv_iload_n hx hb dX2_reaches_6 rfl (lv_at hl 1 rfl) ?_
  refine MC.callV (C := RX2) (T := TX2) (N := 14) (As := [.int x]) (rest := []) (wB := rC cI cZ o b σ κ ζ 0) (c_X2_isField l D cI cZ cL o b σ κ ζ 0 hst x _ rfl) ⟨hx, hb, hml, hown, hts⟩ q654 b_X2_isField (n := 1) (by decide +kernel) ⟨Nat.le_of_ble_eq_true rfl, Nat.le_of_ble_eq_true rfl⟩ hK hP hD hS hA (sp0 _) (sp0 _) (ci := 2) rfl (q0 := 0) rfl rfl hl.1 rfl (Nat.le_of_ble_eq_true rfl) dX2_reaches_7 ⟨Nat.le_of_ble_eq_true rfl, Nat.le_of_ble_eq_true rfl⟩ (fun H locs hP hD hS => ?_)
  refine lv_if_eq (tgt := 21) hx hb dX2_reaches_10 (by decide) (fun c_10 => ?_) (fun c_10 => ?_)
  · refine lv_aload_n hx hb dX2_reaches_21 rfl (lv_at hl 0 rfl) ?_
    refine lv_iconst (v := 1) hx hb dX2_reaches_22 (by decide) ?_
    refine MC.callV (C := RX2) (T := TX2) (N := 14) (As := [.int 1]) (rest := []) (wB := rC cI cZ o b σ κ ζ 1) (c_X2_no l D cI cZ cL o b σ κ ζ 0 1) ⟨hx, hb, hml, hown, hts⟩ q646 b_X2_no (n := 1) (by decide +kernel) ⟨Nat.le_of_ble_eq_true rfl, Nat.le_of_ble_eq_true rfl⟩ hK hP hD hS hA (sp0 _) (sp0 _) (ci := 2) rfl (q0 := 0) rfl rfl hl.1 rfl (Nat.le_of_ble_eq_true rfl) dX2_reaches_23 ⟨Nat.le_of_ble_eq_true rfl, Nat.le_of_ble_eq_true rfl⟩ (fun H locs hP hD hS => ?_)
    subst hQ
    exact ri hx hb hr hlocks hK hP hD hS dX2_reaches_26 (by rw [if_pos c_10, if_pos c_10]) (by rw [if_pos c_10])
  · obtain ⟨j, hj, ej⟩ : ∃ j, j < n ∧ x = nI j := by
      rcases hasF_iff hst.f0 (by omega) x with q | q
      · exact absurd q.1 c_10
      · exact q.2
    subst ej
    refine lv_aload_n hx hb dX2_reaches_13 rfl (lv_at hl 0 rfl) ?_
    refine lv_iload_n hx hb dX2_reaches_14 rfl (lv_at hl 1 rfl) ?_
    refine MC.callV (C := RX2) (T := TX2) (N := 14) (As := [.int (nI j)]) (rest := []) (wB := rC cI cZ o b σ κ (seenF n (cloM σ j) ζ) 0) (c_X2_spread l D cI cZ cL o b σ κ ζ 0 hst j hj) ⟨hx, hb, hml, hown, hts⟩ q804 b_X2_spread (n := 1) (by decide +kernel) ⟨Nat.le_of_ble_eq_true rfl, Nat.le_of_ble_eq_true rfl⟩ hK hP hD hS hA (sp0 _) (sp0 _) (ci := 2) rfl (q0 := 0) rfl rfl hl.1 rfl (Nat.le_of_ble_eq_true rfl) dX2_reaches_15 ⟨Nat.le_of_ble_eq_true rfl, Nat.le_of_ble_eq_true rfl⟩ (fun H locs hP hD hS => ?_)
    refine lv_goto (tgt := 26) hx hb dX2_reaches_18 (by decide) ?_
    subst hQ
    exact ri hx hb hr hlocks hK hP hD hS dX2_reaches_26 (by rw [if_neg c_10, if_neg c_10, nI_clamp (by omega)]) (by rw [if_neg c_10, nI_clamp (by omega)])

abbrev rmX2_meanWater : Room := { frames := 2, cells := 0, slots := 0, locals := 43 }
theorem b_X2_meanWater : Cond.instanceMethod yX2_meanWater ∈ LW ∧ Cond.selects RX2 yX2_meanWater yX2_meanWater ∈ LW ∧ Cond.initialized RX2 ∈ LW ∧ Cond.code yX2_meanWater cX2_meanWater 1 (some .double) ∈ LW := ⟨q900, q901, q40, q902⟩
set_option maxHeartbeats 4000000 in
set_option maxRecDepth 100000 in
theorem c_X2_meanWater (l : Launch) (D : va_G) (cI cZ cL : ClassId) {n k : Nat} (o : Nat) (b : Nat → Nat) (σ : Sg) (κ ζ : Nat → Int32) (th : Int32) (hst : Shp n k σ) : MC l yX2_meanWater cX2_meanWater 1 (some .double) rmX2_meanWater D (tZ cI cZ cL) [.ref o] (rC cI cZ o b σ κ ζ th) (rC cI cZ o b σ κ ζ 0) (some (.double (meanS σ))) := by
  refine MC.of (by decide) (Nat.le_of_ble_eq_true rfl) ?_
  intro p e s m args below meth c A ls Q hx hb hml hr hts hown hlocks hA hP hD hK hS hl hQ
  have hown : s.vm.findClass RX2 = some m.cls := hown
  have hn10 := hst.1
  have hk16 := hst.2.1
  have hl : lv_has ls 1 [(0, .ref o)] := hl
  refine lv_aload_n hx hb dX2_meanWater_0 rfl (lv_at hl 0 rfl) ?_
  refine lv_iconst (v := 0) hx hb dX2_meanWater_1 (by decide) ?_
  refine x_put (C := RX2) (T := TX2) (N := 14) (ws2 := rC cI cZ o b σ κ ζ 0) hx hb hts in_wsX20 tyX2_ok nmX2 hown hK hP hD hS 0 rfl rfl 0 (by decide) q592 rfl (by decide +kernel) (Nat.le_of_ble_eq_true rfl) rfl dX2_meanWater_2 (fun H locs hP hD hS => ?_)
  refine lv_aload_n hx hb dX2_meanWater_5 rfl (lv_at hl 0 rfl) ?_
  refine x_get (C := RX2) (T := TX2) (N := 14) hx hb hts in_wsX20 hown hK hP 0 rfl rfl 1 (by decide) q593 (v := .int (nI n)) (congrArg (fun z => some (Value.int z)) (hst.f0)) dX2_meanWater_6 ?_
  refine lv_if_ne (tgt := 16) hx hb dX2_meanWater_9 (by decide) (fun c_9 => ?_) (fun c_9 => ?_)
  · have hc_9 : ¬ n = 0 := fun z => c_9 ((nI_eq (a := n) (b := 0) (by omega) (by omega)).mpr z)
    refine lv_aload_n hx hb dX2_meanWater_16 rfl (lv_at hl 0 rfl) ?_
    refine MC.callV (C := RX2) (T := TX2) (N := 14) (As := []) (rest := []) (wB := rC cI cZ o b σ κ ζ 0) (c_X2_allWater l D cI cZ cL o b σ κ ζ 0 hst) ⟨hx, hb, hml, hown, hts⟩ q744 b_X2_allWater (n := 0) (by decide +kernel) ⟨Nat.le_of_ble_eq_true rfl, Nat.le_of_ble_eq_true rfl⟩ hK hP hD hS hA (sp0 _) (sp0 _) (ci := 2) rfl (q0 := 0) rfl rfl hl.1 rfl (Nat.le_of_ble_eq_true rfl) dX2_meanWater_17 ⟨Nat.le_of_ble_eq_true rfl, Nat.le_of_ble_eq_true rfl⟩ (fun H locs hP hD hS => ?_)
    refine lv_i2d hx hb dX2_meanWater_20 ?_
    refine lv_aload_n hx hb dX2_meanWater_21 rfl (lv_at hl 0 rfl) ?_
    refine x_get (C := RX2) (T := TX2) (N := 14) hx hb hts in_wsX20 hown hK hP 0 rfl rfl 1 (by decide) q593 (v := .int (nI n)) (congrArg (fun z => some (Value.int z)) (hst.f0)) dX2_meanWater_22 ?_
    refine lv_i2d hx hb dX2_meanWater_25 ?_
    refine lv_ddiv hx hb dX2_meanWater_26 (mean_num _ (nI_ne0 (by omega) (by omega))) ?_
    subst hQ
    exact rd hx hb hr hlocks hK hP hD hS dX2_meanWater_27 (rfl) (by unfold meanS; rw [hst.eF, if_neg hc_9])
  · have hc_9 : n = 0 := (nI_eq (a := n) (b := 0) (by omega) (by omega)).mp c_9
    refine lv_dconst0 hx hb dX2_meanWater_12 ?_
    refine lv_goto (tgt := 27) hx hb dX2_meanWater_13 (by decide) ?_
    subst hQ
    exact rd hx hb hr hlocks hK hP hD hS dX2_meanWater_27 (rfl) (by unfold meanS; rw [hst.eF, if_pos hc_9])
