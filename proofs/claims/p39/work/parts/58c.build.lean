abbrev rmL_build : Room := { frames := 7, cells := 70, slots := 700, locals := 185 }
theorem b_L_build : Cond.static yL_build ∈ LW ∧ Cond.initialized yL_build.cls ∈ LW ∧ Cond.code yL_build cL_build 6 (some (.object "MarshDrainsLaw$Sim")) ∈ LW := ⟨q597, q8, q598⟩
set_option maxHeartbeats 4000000 in
set_option maxRecDepth 100000 in
theorem c_L_build (l : Launch) (D : va_G) (cI cZ cL : ClassId) (b L : Nat) (xs : Nat → Int32) (hL : L ≤ 260) (ob h : Nat) (a : Nat → Nat) (h2 : Nat) (a2 : Nat → Nat) (τ : Sg) : MY (ι := {y : ((Nat × (Nat × Nat)) × (Sg × Sg)) × SA // Iv y.1.1.2.1 y.1.1.2.2 (12000 * 40) y.1.2.1 ∧ 2 ≤ y.1.1.2.1}) (some (b, L, xs)) l yL_build cL_build 6 (some (.object "MarshDrainsLaw$Sim")) rmL_build D (tZ cI cZ cL) [.ref ob, .ref b] ((oC ob h h2) ++ ((mC cI cZ h a S0) ++ (mC cI cZ h2 a2 τ))) (fun y => (sC cI cL y.1.1.1.1 y.1.2 y.1.1.2.1 y.1.1.1.2.1 y.1.1.1.2.2) ++ ((oC ob h h2) ++ ((mC cI cZ h a y.1.1.2.1) ++ (mC cI cZ h2 a2 y.1.1.2.2)))) (fun y => some (.ref y.1.1.1.1)) := by
  refine MY.of (by decide) (Nat.le_of_ble_eq_true rfl) ?_
  intro p e s m args below meth c A ls Q hx hb hml hr hts hown hlocks hA hP hD hK hS hl hQ hE9 hnm
  have hE : EX A s s.heap := hE9.1
  have hown : s.vm.findClass RL = some m.cls := hown
  have hl : lv_has ls 6 [(0, .ref ob), (1, .ref b)] := hl
  refine va_new (ci := 2) (C := RX2) (T := TX2) (N := 5) (fs := [.null, .null, .int 0, .int 0, .int 0]) hx hb hts in_wsX20 tyX2 tyX2_ok hown (hts _ q599) (hts _ q426) (hts _ q11) hK hP hD hS hA rfl (by decide) (Nat.le_of_ble_eq_true rfl) (Nat.le_of_ble_eq_true rfl) dL_build_0 (fun so H hP hD hS => ?_)
  refine lv_dup hx hb dL_build_3 rfl ?_
  refine MY.callIN (b := so) (As := []) (rest := [.ref so]) (w0 := (oC ob h h2) ++ ((mC cI cZ h a S0) ++ (mC cI cZ h2 a2 τ))) (w2 := []) (wB := fun qo => (oC ob h h2) ++ ((mC cI cZ h a S0) ++ ((mC cI cZ h2 a2 τ) ++ (sC cI cL so qo S0 0 0)))) (c_X2_init l D cI cZ cL so) ⟨hx, hb, hml, hown, hts⟩ (hE.w 14 rfl) b_X2_init rfl (n := 0) (by decide +kernel) ⟨(Nat.le_of_ble_eq_true rfl), (Nat.le_of_ble_eq_true rfl)⟩ hK hP hD hS hA (EY.non hE) (by simp only [List.append_assoc, List.append_nil, List.nil_append]) (fun _ => by simp only [List.append_assoc, List.append_nil, List.nil_append]) rfl hl.1 rfl (Nat.le_of_ble_eq_true rfl) dL_build_4 ⟨(Nat.le_of_ble_eq_true rfl), (Nat.le_of_ble_eq_true rfl)⟩ (fun qo H locs hP hD hS => ?_)
  have hP : va_P D vwCl ((oC ob h h2) ++ ((mC cI cZ h a S0) ++ ((mC cI cZ h2 a2 τ) ++ (sC cI cL so qo S0 0 0)))) H := hP
  have hD : va_D A ((oC ob h h2) ++ ((mC cI cZ h a S0) ++ ((mC cI cZ h2 a2 τ) ++ (sC cI cL so qo S0 0 0)))) := hD
  obtain ⟨hP, hD⟩ := p_perm (b := (sC cI cL so qo S0 0 0) ++ ((oC ob h h2) ++ ((mC cI cZ h a S0) ++ (mC cI cZ h2 a2 τ)))) (pm (fun i y => by simp only [List.count_append]; omega)) hP hD
  refine W.wide (k := 3) (n := 5) (by first | omega | exact Nat.le_of_ble_eq_true rfl) (by first | omega | exact Nat.le_of_ble_eq_true rfl) ?_
  refine lv_astore_n (lv' := [(2, .ref so), (0, .ref ob), (1, .ref b)]) hx hb dL_build_7 rfl hl (by decide) rfl (fun ls hl => ?_)
  refine lv_iconst (v := 2) hx hb dL_build_8 (by decide) ?_
  refine lv_aload_n hx hb dL_build_9 rfl (lv_at hl 2 rfl) ?_
  refine lv_iconst (v := 0) hx hb dL_build_10 (by decide) ?_
  refine MY.callS (As := [.ref b, .int (nI (0))]) (rest := [.int 2]) (w0 := (sC cI cL so qo S0 0 0) ++ ((oC ob h h2) ++ ((mC cI cZ h a S0) ++ (mC cI cZ h2 a2 τ)))) (w2 := []) (wB := fun _ => (sC cI cL so qo S0 0 0) ++ ((oC ob h h2) ++ ((mC cI cZ h a S0) ++ (mC cI cZ h2 a2 τ)))) (c_L_cell l D cI cZ cL b L xs hL (0) (by omega)) ⟨hx, hb, hml, hown, hts⟩ q533 b_L_cell (n := 2) (by decide +kernel) ⟨(Nat.le_of_ble_eq_true rfl), (Nat.le_of_ble_eq_true rfl)⟩ hK hP hD hS hA hE9 (spE _) (fun _ => spE _) rfl hl.1 rfl (Nat.le_of_ble_eq_true rfl) dL_build_11 ⟨by show (3) + 0 ≤ 70; omega, by show (5) + 0 ≤ 700; omega⟩ (fun x_1 H locs hP hD hS => ?_)
  refine W.wide (k := (3)) (n := (5)) (by show (3) + 0 ≤ (3); omega) (by show (5) + 0 ≤ (5); omega) ?_
  refine lv_bipush (v := 9) hx hb dL_build_14 (by decide) ?_
  refine MC.callS (As := [.int x_1, .int 9]) (rest := [.int 2]) (wB := (sC cI cL so qo S0 0 0) ++ ((oC ob h h2) ++ ((mC cI cZ h a S0) ++ (mC cI cZ h2 a2 τ)))) (c_L_below l D cI cZ cL x_1 9 (by omega) (by omega)) ⟨hx, hb, hml, hown, hts⟩ q529 b_L_below (n := 2) (by decide +kernel) ⟨Nat.le_of_ble_eq_true rfl, Nat.le_of_ble_eq_true rfl⟩ hK hP hD hS hA (spE _) (spE _) rfl hl.1 rfl (Nat.le_of_ble_eq_true rfl) dL_build_16 ⟨Nat.le_of_ble_eq_true rfl, Nat.le_of_ble_eq_true rfl⟩ (fun H locs hP hD hS => ?_)
  refine W.wide (k := (3)) (n := (5)) (by show (3) + 0 ≤ (3); omega) (by show (5) + 0 ≤ (5); omega) ?_
  have hb_16 : bel x_1 9 < 9 := bel_lt (by omega)
  refine lv_iadd hx hb dL_build_19 ?_
  refine x_top (nI_add 2 (bel x_1 9)) ?_
  refine lv_istore_n (lv' := [(3, .int (nI (2 + (bel x_1 9)))), (2, .ref so), (0, .ref ob), (1, .ref b)]) hx hb dL_build_20 rfl hl (by decide) rfl (fun ls hl => ?_)
  refine lv_aload_n hx hb dL_build_21 rfl (lv_at hl 3 rfl) ?_
  refine lv_iconst (v := 1) hx hb dL_build_22 (by decide) ?_
  refine MY.callS (As := [.ref b, .int (nI (1))]) (rest := []) (w0 := (sC cI cL so qo S0 0 0) ++ ((oC ob h h2) ++ ((mC cI cZ h a S0) ++ (mC cI cZ h2 a2 τ)))) (w2 := []) (wB := fun _ => (sC cI cL so qo S0 0 0) ++ ((oC ob h h2) ++ ((mC cI cZ h a S0) ++ (mC cI cZ h2 a2 τ)))) (c_L_cell l D cI cZ cL b L xs hL (1) (by omega)) ⟨hx, hb, hml, hown, hts⟩ q533 b_L_cell (n := 2) (by decide +kernel) ⟨(Nat.le_of_ble_eq_true rfl), (Nat.le_of_ble_eq_true rfl)⟩ hK hP hD hS hA hE9 (spE _) (fun _ => spE _) rfl hl.1 rfl (Nat.le_of_ble_eq_true rfl) dL_build_23 ⟨by show (3) + 0 ≤ 70; omega, by show (5) + 0 ≤ 700; omega⟩ (fun x_2 H locs hP hD hS => ?_)
  refine W.wide (k := (3)) (n := (5)) (by show (3) + 0 ≤ (3); omega) (by show (5) + 0 ≤ (5); omega) ?_
  refine lv_bipush (v := 12) hx hb dL_build_26 (by decide) ?_
  refine MC.callS (As := [.int x_2, .int 12]) (rest := []) (wB := (sC cI cL so qo S0 0 0) ++ ((oC ob h h2) ++ ((mC cI cZ h a S0) ++ (mC cI cZ h2 a2 τ)))) (c_L_below l D cI cZ cL x_2 12 (by omega) (by omega)) ⟨hx, hb, hml, hown, hts⟩ q529 b_L_below (n := 2) (by decide +kernel) ⟨Nat.le_of_ble_eq_true rfl, Nat.le_of_ble_eq_true rfl⟩ hK hP hD hS hA (spE _) (spE _) rfl hl.1 rfl (Nat.le_of_ble_eq_true rfl) dL_build_28 ⟨Nat.le_of_ble_eq_true rfl, Nat.le_of_ble_eq_true rfl⟩ (fun H locs hP hD hS => ?_)
  refine W.wide (k := (3)) (n := (5)) (by show (3) + 0 ≤ (3); omega) (by show (5) + 0 ≤ (5); omega) ?_
  have hb_28 : bel x_2 12 < 12 := bel_lt (by omega)
  refine lv_istore (lv' := [(4, .int (nI (bel x_2 12))), (3, .int (nI (2 + (bel x_1 9)))), (2, .ref so), (0, .ref ob), (1, .ref b)]) hx hb dL_build_31 hl (by decide) rfl (fun ls hl => ?_)
  refine lv_iconst (v := 0) hx hb dL_build_33 (by decide) ?_
  refine lv_istore (lv' := [(5, .int 0), (4, .int (nI (bel x_2 12))), (3, .int (nI (2 + (bel x_1 9)))), (2, .ref so), (0, .ref ob), (1, .ref b)]) hx hb dL_build_34 hl (by decide) rfl (fun ls hl => ?_)
  have hl : lv_has ls 6 [(5, .int (nI 0)), (4, .int (nI (bel x_2 12))), (3, .int (nI (2 + (bel x_1 9)))), (2, .ref so), (0, .ref ob), (1, .ref b)] := hl
  refine W.wide (k := 3 + 2 * 0) (n := 5 + 23 * 0) (by first | omega | exact Nat.le_of_ble_eq_true rfl) (by first | omega | exact Nat.le_of_ble_eq_true rfl) ?_
  have L36 : ∀ (f i : Nat) (n : Nat) (k : Nat) (σ : Sg) (ρ : Sg) (q : SA), i ≤ 2 + (bel x_1 9) → 2 + (bel x_1 9) < i + f → Iv n k (12000 * (0 + i)) σ → min i 2 ≤ n → ∀ (H : Heap) (locs : List Loc) (ls : Array Slot), va_P D vwCl ((sC cI cL so q σ n k) ++ ((oC ob h h2) ++ ((mC cI cZ h a σ) ++ (mC cI cZ h2 a2 ρ)))) H → va_D A ((sC cI cL so q σ n k) ++ ((oC ob h h2) ++ ((mC cI cZ h a σ) ++ (mC cI cZ h2 a2 ρ)))) → va_S A s.heap H locs → lv_has ls 6 [(0, .ref ob), (1, .ref b), (2, .ref so), (3, .int (nI (2 + (bel x_1 9)))), (4, .int (nI (bel x_2 12))), (5, .int (nI i))] → W p l e rmL_build s m args below meth c H locs (3 + 2 * i) (5 + 23 * i) Q (F0 m 36 ls []) := by
    intro f
    induction f with
    | zero => intro i n k σ ρ q h1 h2; exact absurd h2 (by omega)
    | succ f ih_36 =>
      intro i n k σ ρ q hi_36 hf_36 hI hmn H locs ls hP hD hS hl
      refine lv_iload hx hb dL_build_36 (lv_at hl 5 rfl) ?_
      refine lv_iload_n hx hb dL_build_38 rfl (lv_at hl 3 rfl) ?_
      refine lv_icmp_ge (tgt := 74) hx hb dL_build_39 (by decide) (fun c_39 => ?_) (fun c_39 => ?_)
      · have hc_39 : (2 + (bel x_1 9)) ≤ i := (nI_leI (a := (2 + (bel x_1 9))) (b := i) (by omega) (by omega)).mp c_39
        refine lv_iconst (v := 0) hx hb dL_build_74 (by decide) ?_
        refine lv_istore (lv' := [(5, .int 0), (0, .ref ob), (1, .ref b), (2, .ref so), (3, .int (nI (2 + (bel x_1 9)))), (4, .int (nI (bel x_2 12)))]) hx hb dL_build_75 hl (by decide) rfl (fun ls hl => ?_)
        have hl : lv_has ls 6 [(5, .int (nI 0)), (0, .ref ob), (1, .ref b), (2, .ref so), (3, .int (nI (2 + (bel x_1 9)))), (4, .int (nI (bel x_2 12)))] := hl
        refine W.wide (k := 23 + 2 * 0) (n := 235 + 23 * 0) (by first | omega | exact Nat.le_of_ble_eq_true rfl) (by first | omega | exact Nat.le_of_ble_eq_true rfl) ?_
        have L77 : ∀ (f j : Nat) (n : Nat) (k : Nat) (σ : Sg) (ρ : Sg) (q : SA), j ≤ bel x_2 12 → bel x_2 12 < j + f → Iv n k (12000 * (10 + j)) σ → min 2 2 ≤ n → ∀ (H : Heap) (locs : List Loc) (ls : Array Slot), va_P D vwCl ((sC cI cL so q σ n k) ++ ((oC ob h h2) ++ ((mC cI cZ h a σ) ++ (mC cI cZ h2 a2 ρ)))) H → va_D A ((sC cI cL so q σ n k) ++ ((oC ob h h2) ++ ((mC cI cZ h a σ) ++ (mC cI cZ h2 a2 ρ)))) → va_S A s.heap H locs → lv_has ls 6 [(0, .ref ob), (1, .ref b), (2, .ref so), (3, .int (nI (2 + (bel x_1 9)))), (4, .int (nI (bel x_2 12))), (5, .int (nI j))] → W p l e rmL_build s m args below meth c H locs (23 + 2 * j) (235 + 23 * j) Q (F0 m 77 ls []) := by
          intro f
          induction f with
          | zero => intro j n k σ ρ q h1 h2; exact absurd h2 (by omega)
          | succ f ih_77 =>
            intro j n k σ ρ q hi_77 hf_77 hI hmn H locs ls hP hD hS hl
            refine lv_iload hx hb dL_build_77 (lv_at hl 5 rfl) ?_
            refine lv_iload hx hb dL_build_79 (lv_at hl 4 rfl) ?_
            refine lv_icmp_ge (tgt := 127) hx hb dL_build_81 (by decide) (fun c_81 => ?_) (fun c_81 => ?_)
            · have hc_81 : (bel x_2 12) ≤ j := (nI_leI (a := (bel x_2 12)) (b := j) (by omega) (by omega)).mp c_81
              refine lv_iconst (v := 0) hx hb dL_build_127 (by decide) ?_
              refine lv_istore (lv' := [(5, .int 0), (0, .ref ob), (1, .ref b), (2, .ref so), (3, .int (nI (2 + (bel x_1 9)))), (4, .int (nI (bel x_2 12)))]) hx hb dL_build_128 hl (by decide) rfl (fun ls hl => ?_)
              have hl : lv_has ls 6 [(5, .int (nI 0)), (0, .ref ob), (1, .ref b), (2, .ref so), (3, .int (nI (2 + (bel x_1 9)))), (4, .int (nI (bel x_2 12)))] := hl
              refine W.wide (k := 47 + 2 * 0) (n := 511 + 23 * 0) (by first | omega | exact Nat.le_of_ble_eq_true rfl) (by first | omega | exact Nat.le_of_ble_eq_true rfl) ?_
              have L130 : ∀ (f u : Nat) (n : Nat) (k : Nat) (σ : Sg) (ρ : Sg) (q : SA), u ≤ 8 → 8 < u + f → Iv n k (12000 * (22 + u)) σ → min 2 2 ≤ n → ∀ (H : Heap) (locs : List Loc) (ls : Array Slot), va_P D vwCl ((sC cI cL so q σ n k) ++ ((oC ob h h2) ++ ((mC cI cZ h a σ) ++ (mC cI cZ h2 a2 ρ)))) H → va_D A ((sC cI cL so q σ n k) ++ ((oC ob h h2) ++ ((mC cI cZ h a σ) ++ (mC cI cZ h2 a2 ρ)))) → va_S A s.heap H locs → lv_has ls 6 [(0, .ref ob), (1, .ref b), (2, .ref so), (5, .int (nI u))] → W p l e rmL_build s m args below meth c H locs (47 + 2 * u) (511 + 23 * u) Q (F0 m 130 ls []) := by
                intro f
                induction f with
                | zero => intro u n k σ ρ q h1 h2; exact absurd h2 (by omega)
                | succ f ih_130 =>
                  intro u n k σ ρ q hi_130 hf_130 hI hmn H locs ls hP hD hS hl
                  refine lv_iload hx hb dL_build_130 (lv_at hl 3 rfl) ?_
                  refine lv_bipush (v := 8) hx hb dL_build_132 (by decide) ?_
                  refine lv_icmp_ge (tgt := 167) hx hb dL_build_134 (by decide) (fun c_134 => ?_) (fun c_134 => ?_)
                  · have hc_134 : 8 ≤ u := (nI_leI (a := 8) (b := u) (by omega) (by omega)).mp c_134
                    refine lv_aload_n hx hb dL_build_167 rfl (lv_at hl 2 rfl) ?_
                    refine W.wide (k := 70) (n := 700) (by first | omega | exact Nat.le_of_ble_eq_true rfl) (by first | omega | exact Nat.le_of_ble_eq_true rfl) ?_
                    subst hQ
                    exact ya ⟨(((so, (n, k)), (σ, ρ)), q), ⟨hI.mono (by omega), by show 2 ≤ n; omega⟩⟩ hx hb hr (Or.inl ⟨_, rfl⟩) hlocks hK hP hD hS dL_build_168 rfl rfl
                  · have hc_134 : u < 8 := Nat.not_le.mp (fun z => c_134 ((nI_leI (a := 8) (b := u) (by omega) (by omega)).mpr z))
                    refine lv_aload_n hx hb dL_build_137 rfl (lv_at hl 0 rfl) ?_
                    refine lv_aload_n hx hb dL_build_138 rfl (lv_at hl 2 rfl) ?_
                    refine lv_aload_n hx hb dL_build_139 rfl (lv_at hl 1 rfl) ?_
                    refine lv_iload hx hb dL_build_140 (lv_at hl 3 rfl) ?_
                    refine MY.callS (As := [.ref b, .int (nI (u))]) (rest := [.ref so, .ref ob]) (w0 := (sC cI cL so q σ n k) ++ ((oC ob h h2) ++ ((mC cI cZ h a σ) ++ (mC cI cZ h2 a2 ρ)))) (w2 := []) (wB := fun _ => (sC cI cL so q σ n k) ++ ((oC ob h h2) ++ ((mC cI cZ h a σ) ++ (mC cI cZ h2 a2 ρ)))) (c_L_cell l D cI cZ cL b L xs hL (u) (by omega)) ⟨hx, hb, hml, hown, hts⟩ q533 b_L_cell (n := 2) (by decide +kernel) ⟨(Nat.le_of_ble_eq_true rfl), (Nat.le_of_ble_eq_true rfl)⟩ hK hP hD hS hA hE9 (spE _) (fun _ => spE _) rfl hl.1 rfl (Nat.le_of_ble_eq_true rfl) dL_build_142 ⟨by show (47 + 2 * u) + 0 ≤ 70; omega, by show (511 + 23 * u) + 0 ≤ 700; omega⟩ (fun x_3 H locs hP hD hS => ?_)
                    refine W.wide (k := (47 + 2 * u)) (n := (511 + 23 * u)) (by show (47 + 2 * u) + 0 ≤ (47 + 2 * u); omega) (by show (511 + 23 * u) + 0 ≤ (511 + 23 * u); omega) ?_
                    refine lv_iconst (v := 2) hx hb dL_build_145 (by decide) ?_
                    refine lv_ishr hx hb dL_build_146 ?_
                    refine lv_bipush (v := 41) hx hb dL_build_147 (by decide) ?_
                    refine lv_iload hx hb dL_build_149 (lv_at hl 3 rfl) ?_
                    refine lv_imul hx hb dL_build_151 ?_
                    refine lv_iadd hx hb dL_build_152 ?_
                    refine MY.callS (As := [.ref ob, .ref so, .int ((x_3 >>> (2 &&& 31)) + ((41 : Int32) * (nI u)))]) (rest := []) (w0 := []) (w2 := []) (wB := fun y => (sC cI cL so y.1.2 y.1.1.2.1 y.1.1.1.1 y.1.1.1.2) ++ ((oC ob h h2) ++ ((mC cI cZ h a y.1.1.2.1) ++ (mC cI cZ h2 a2 y.1.1.2.2)))) (c_L_act l D cI cZ cL so q σ hI (by omega) ob h a h2 a2 ρ ((x_3 >>> (2 &&& 31)) + ((41 : Int32) * (nI u)))) ⟨hx, hb, hml, hown, hts⟩ q537 b_L_act (n := 3) (by decide +kernel) ⟨(Nat.le_of_ble_eq_true rfl), (Nat.le_of_ble_eq_true rfl)⟩ hK hP hD hS hA (EY.non hE) (sp0 _) (fun _ => sp0 _) rfl hl.1 rfl (Nat.le_of_ble_eq_true rfl) dL_build_153 ⟨by show (47 + 2 * u) + 2 ≤ 70; omega, by show (511 + 23 * u) + 23 ≤ 700; omega⟩ (fun y H locs hP hD hS => ?_)
                    have hP : va_P D vwCl ((sC cI cL so y.1.2 y.1.1.2.1 y.1.1.1.1 y.1.1.1.2) ++ ((oC ob h h2) ++ ((mC cI cZ h a y.1.1.2.1) ++ (mC cI cZ h2 a2 y.1.1.2.2)))) H := hP
                    have hD : va_D A ((sC cI cL so y.1.2 y.1.1.2.1 y.1.1.1.1 y.1.1.1.2) ++ ((oC ob h h2) ++ ((mC cI cZ h a y.1.1.2.1) ++ (mC cI cZ h2 a2 y.1.1.2.2)))) := hD
                    refine W.wide (k := ((47 + 2 * u) + 2)) (n := ((511 + 23 * u) + 23)) (by show (47 + 2 * u) + 2 ≤ ((47 + 2 * u) + 2); omega) (by show (511 + 23 * u) + 23 ≤ ((511 + 23 * u) + 23); omega) ?_
                    have y2 := y.2.2.1
                    have y3 := y.2.2.2
                    refine lv_if_ne (tgt := 161) hx hb dL_build_156 (by decide) (fun c_156 => ?_) (fun z => absurd z (by decide))
                    refine lv_iinc (v := (nI (u + 1))) (lv' := [(5, .int (nI (u + 1))), (0, .ref ob), (1, .ref b), (2, .ref so)]) hx hb dL_build_161 hl (k := 3) rfl (nI_add u 1) (by decide) rfl (fun ls hl => ?_)
                    refine lv_goto (tgt := 130) hx hb dL_build_164 (by decide) ?_
                    refine W.wide (k := 47 + 2 * (u + 1)) (n := 511 + 23 * (u + 1)) (by first | omega | exact Nat.le_of_ble_eq_true rfl) (by first | omega | exact Nat.le_of_ble_eq_true rfl) ?_
                    exact ih_130 (u + 1) y.1.1.1.1 y.1.1.1.2 y.1.1.2.1 y.1.1.2.2 y.1.2 (by omega) (by omega) (y.2.1.mono (by omega)) (by omega) _ _ _ hP hD hS (lv_sub hl [1, 2, 3, 0] rfl)
              exact L130 (8 + 1) 0 n k σ ρ q (by omega) (by omega) (hI.mono (by omega)) (by omega) _ _ _ hP hD hS (lv_sub hl [1, 2, 3, 0] rfl)
            · have hc_81 : j < (bel x_2 12) := Nat.not_le.mp (fun z => c_81 ((nI_leI (a := (bel x_2 12)) (b := j) (by omega) (by omega)).mpr z))
              refine lv_aload_n hx hb dL_build_84 rfl (lv_at hl 0 rfl) ?_
              refine lv_aload_n hx hb dL_build_85 rfl (lv_at hl 2 rfl) ?_
              refine lv_bipush (v := 14) hx hb dL_build_86 (by decide) ?_
              refine lv_aload_n hx hb dL_build_88 rfl (lv_at hl 1 rfl) ?_
              refine lv_iload hx hb dL_build_89 (lv_at hl 5 rfl) ?_
              refine MY.callS (As := [.ref b, .int (nI (j))]) (rest := [.int 14, .ref so, .ref ob]) (w0 := (sC cI cL so q σ n k) ++ ((oC ob h h2) ++ ((mC cI cZ h a σ) ++ (mC cI cZ h2 a2 ρ)))) (w2 := []) (wB := fun _ => (sC cI cL so q σ n k) ++ ((oC ob h h2) ++ ((mC cI cZ h a σ) ++ (mC cI cZ h2 a2 ρ)))) (c_L_cell l D cI cZ cL b L xs hL (j) (by omega)) ⟨hx, hb, hml, hown, hts⟩ q533 b_L_cell (n := 2) (by decide +kernel) ⟨(Nat.le_of_ble_eq_true rfl), (Nat.le_of_ble_eq_true rfl)⟩ hK hP hD hS hA hE9 (spE _) (fun _ => spE _) rfl hl.1 rfl (Nat.le_of_ble_eq_true rfl) dL_build_91 ⟨by show (23 + 2 * j) + 0 ≤ 70; omega, by show (235 + 23 * j) + 0 ≤ 700; omega⟩ (fun x_4 H locs hP hD hS => ?_)
              refine W.wide (k := (23 + 2 * j)) (n := (235 + 23 * j)) (by show (23 + 2 * j) + 0 ≤ (23 + 2 * j); omega) (by show (235 + 23 * j) + 0 ≤ (235 + 23 * j); omega) ?_
              refine lv_iconst (v := 4) hx hb dL_build_94 (by decide) ?_
              refine lv_ishr hx hb dL_build_95 ?_
              refine lv_bipush (v := 97) hx hb dL_build_96 (by decide) ?_
              refine lv_iload hx hb dL_build_98 (lv_at hl 5 rfl) ?_
              refine lv_imul hx hb dL_build_100 ?_
              refine lv_iadd hx hb dL_build_101 ?_
              refine lv_ldc hx hb hown (hts _ q601) dL_build_102 ?_
              refine lv_iand hx hb dL_build_104 ?_
              refine lv_imul hx hb dL_build_105 ?_
              refine lv_iconst (v := 1) hx hb dL_build_106 (by decide) ?_
              refine lv_iadd hx hb dL_build_107 ?_
              refine lv_iload hx hb dL_build_108 (lv_at hl 5 rfl) ?_
              refine lv_iconst (v := 4) hx hb dL_build_110 (by decide) ?_
              refine lv_irem hx hb dL_build_111 (by decide) ?_
              refine lv_iadd hx hb dL_build_112 ?_
              refine MY.callS (As := [.ref ob, .ref so, .int ((((14 : Int32) * (((x_4 >>> (4 &&& 31)) + ((97 : Int32) * (nI j))) &&& 16777215)) + 1) + ((nI j) - (nI j) / 4 * 4))]) (rest := []) (w0 := []) (w2 := []) (wB := fun y => (sC cI cL so y.1.2 y.1.1.2.1 y.1.1.1.1 y.1.1.1.2) ++ ((oC ob h h2) ++ ((mC cI cZ h a y.1.1.2.1) ++ (mC cI cZ h2 a2 y.1.1.2.2)))) (c_L_act l D cI cZ cL so q σ hI (by omega) ob h a h2 a2 ρ ((((14 : Int32) * (((x_4 >>> (4 &&& 31)) + ((97 : Int32) * (nI j))) &&& 16777215)) + 1) + ((nI j) - (nI j) / 4 * 4))) ⟨hx, hb, hml, hown, hts⟩ q537 b_L_act (n := 3) (by decide +kernel) ⟨(Nat.le_of_ble_eq_true rfl), (Nat.le_of_ble_eq_true rfl)⟩ hK hP hD hS hA (EY.non hE) (sp0 _) (fun _ => sp0 _) rfl hl.1 rfl (Nat.le_of_ble_eq_true rfl) dL_build_113 ⟨by show (23 + 2 * j) + 2 ≤ 70; omega, by show (235 + 23 * j) + 23 ≤ 700; omega⟩ (fun y H locs hP hD hS => ?_)
              have hP : va_P D vwCl ((sC cI cL so y.1.2 y.1.1.2.1 y.1.1.1.1 y.1.1.1.2) ++ ((oC ob h h2) ++ ((mC cI cZ h a y.1.1.2.1) ++ (mC cI cZ h2 a2 y.1.1.2.2)))) H := hP
              have hD : va_D A ((sC cI cL so y.1.2 y.1.1.2.1 y.1.1.1.1 y.1.1.1.2) ++ ((oC ob h h2) ++ ((mC cI cZ h a y.1.1.2.1) ++ (mC cI cZ h2 a2 y.1.1.2.2)))) := hD
              refine W.wide (k := ((23 + 2 * j) + 2)) (n := ((235 + 23 * j) + 23)) (by show (23 + 2 * j) + 2 ≤ ((23 + 2 * j) + 2); omega) (by show (235 + 23 * j) + 23 ≤ ((235 + 23 * j) + 23); omega) ?_
              have y2 := y.2.2.1
              have y3 := y.2.2.2
              refine lv_if_ne (tgt := 121) hx hb dL_build_116 (by decide) (fun c_116 => ?_) (fun z => absurd z (by decide))
              refine lv_iinc (v := (nI (j + 1))) (lv' := [(5, .int (nI (j + 1))), (0, .ref ob), (1, .ref b), (2, .ref so), (3, .int (nI (2 + (bel x_1 9)))), (4, .int (nI (bel x_2 12)))]) hx hb dL_build_121 hl (k := 5) rfl (nI_add j 1) (by decide) rfl (fun ls hl => ?_)
              refine lv_goto (tgt := 77) hx hb dL_build_124 (by decide) ?_
              refine W.wide (k := 23 + 2 * (j + 1)) (n := 235 + 23 * (j + 1)) (by first | omega | exact Nat.le_of_ble_eq_true rfl) (by first | omega | exact Nat.le_of_ble_eq_true rfl) ?_
              exact ih_77 (j + 1) y.1.1.1.1 y.1.1.1.2 y.1.1.2.1 y.1.1.2.2 y.1.2 (by omega) (by omega) (y.2.1.mono (by omega)) (by omega) _ _ _ hP hD hS (lv_sub hl [1, 2, 3, 4, 5, 0] rfl)
        exact L77 (bel x_2 12 + 1) 0 n k σ ρ q (by omega) (by omega) (hI.mono (by omega)) (by omega) _ _ _ hP hD hS (lv_sub hl [1, 2, 3, 4, 5, 0] rfl)
      · have hc_39 : i < (2 + (bel x_1 9)) := Nat.not_le.mp (fun z => c_39 ((nI_leI (a := (2 + (bel x_1 9))) (b := i) (by omega) (by omega)).mpr z))
        refine lv_aload_n hx hb dL_build_42 rfl (lv_at hl 0 rfl) ?_
        refine lv_aload_n hx hb dL_build_43 rfl (lv_at hl 2 rfl) ?_
        refine lv_bipush (v := 14) hx hb dL_build_44 (by decide) ?_
        refine lv_aload_n hx hb dL_build_46 rfl (lv_at hl 1 rfl) ?_
        refine lv_iconst (v := 2) hx hb dL_build_47 (by decide) ?_
        refine lv_iload hx hb dL_build_48 (lv_at hl 5 rfl) ?_
        refine lv_iadd hx hb dL_build_50 ?_
        refine x_top (nI_add 2 i) ?_
        refine MY.callS (As := [.ref b, .int (nI (2 + i))]) (rest := [.int 14, .ref so, .ref ob]) (w0 := (sC cI cL so q σ n k) ++ ((oC ob h h2) ++ ((mC cI cZ h a σ) ++ (mC cI cZ h2 a2 ρ)))) (w2 := []) (wB := fun _ => (sC cI cL so q σ n k) ++ ((oC ob h h2) ++ ((mC cI cZ h a σ) ++ (mC cI cZ h2 a2 ρ)))) (c_L_cell l D cI cZ cL b L xs hL (2 + i) (by omega)) ⟨hx, hb, hml, hown, hts⟩ q533 b_L_cell (n := 2) (by decide +kernel) ⟨(Nat.le_of_ble_eq_true rfl), (Nat.le_of_ble_eq_true rfl)⟩ hK hP hD hS hA hE9 (spE _) (fun _ => spE _) rfl hl.1 rfl (Nat.le_of_ble_eq_true rfl) dL_build_51 ⟨by show (3 + 2 * i) + 0 ≤ 70; omega, by show (5 + 23 * i) + 0 ≤ 700; omega⟩ (fun x_5 H locs hP hD hS => ?_)
        refine W.wide (k := (3 + 2 * i)) (n := (5 + 23 * i)) (by show (3 + 2 * i) + 0 ≤ (3 + 2 * i); omega) (by show (5 + 23 * i) + 0 ≤ (5 + 23 * i); omega) ?_
        refine lv_iconst (v := 5) hx hb dL_build_54 (by decide) ?_
        refine lv_ishr hx hb dL_build_55 ?_
        refine lv_ldc hx hb hown (hts _ q601) dL_build_56 ?_
        refine lv_iand hx hb dL_build_58 ?_
        refine lv_imul hx hb dL_build_59 ?_
        refine MY.callS (As := [.ref ob, .ref so, .int ((14 : Int32) * ((x_5 >>> (5 &&& 31)) &&& 16777215))]) (rest := []) (w0 := []) (w2 := []) (wB := fun y => (sC cI cL so y.1.2 y.1.1.2.1 y.1.1.1.1 y.1.1.1.2) ++ ((oC ob h h2) ++ ((mC cI cZ h a y.1.1.2.1) ++ (mC cI cZ h2 a2 y.1.1.2.2)))) (c_L_act l D cI cZ cL so q σ hI (by omega) ob h a h2 a2 ρ ((14 : Int32) * ((x_5 >>> (5 &&& 31)) &&& 16777215))) ⟨hx, hb, hml, hown, hts⟩ q537 b_L_act (n := 3) (by decide +kernel) ⟨(Nat.le_of_ble_eq_true rfl), (Nat.le_of_ble_eq_true rfl)⟩ hK hP hD hS hA (EY.non hE) (sp0 _) (fun _ => sp0 _) rfl hl.1 rfl (Nat.le_of_ble_eq_true rfl) dL_build_60 ⟨by show (3 + 2 * i) + 2 ≤ 70; omega, by show (5 + 23 * i) + 23 ≤ 700; omega⟩ (fun y H locs hP hD hS => ?_)
        have hP : va_P D vwCl ((sC cI cL so y.1.2 y.1.1.2.1 y.1.1.1.1 y.1.1.1.2) ++ ((oC ob h h2) ++ ((mC cI cZ h a y.1.1.2.1) ++ (mC cI cZ h2 a2 y.1.1.2.2)))) H := hP
        have hD : va_D A ((sC cI cL so y.1.2 y.1.1.2.1 y.1.1.1.1 y.1.1.1.2) ++ ((oC ob h h2) ++ ((mC cI cZ h a y.1.1.2.1) ++ (mC cI cZ h2 a2 y.1.1.2.2)))) := hD
        refine W.wide (k := ((3 + 2 * i) + 2)) (n := ((5 + 23 * i) + 23)) (by show (3 + 2 * i) + 2 ≤ ((3 + 2 * i) + 2); omega) (by show (5 + 23 * i) + 23 ≤ ((5 + 23 * i) + 23); omega) ?_
        have y2 := y.2.2.1
        have y3 := y.2.2.2
        refine lv_if_ne (tgt := 68) hx hb dL_build_63 (by decide) (fun c_63 => ?_) (fun z => absurd z (by decide))
        refine lv_iinc (v := (nI (i + 1))) (lv' := [(5, .int (nI (i + 1))), (0, .ref ob), (1, .ref b), (2, .ref so), (3, .int (nI (2 + (bel x_1 9)))), (4, .int (nI (bel x_2 12)))]) hx hb dL_build_68 hl (k := 5) rfl (nI_add i 1) (by decide) rfl (fun ls hl => ?_)
        refine lv_goto (tgt := 36) hx hb dL_build_71 (by decide) ?_
        refine W.wide (k := 3 + 2 * (i + 1)) (n := 5 + 23 * (i + 1)) (by first | omega | exact Nat.le_of_ble_eq_true rfl) (by first | omega | exact Nat.le_of_ble_eq_true rfl) ?_
        exact ih_36 (i + 1) y.1.1.1.1 y.1.1.1.2 y.1.1.2.1 y.1.1.2.2 y.1.2 (by omega) (by omega) (y.2.1.mono (by omega)) (by omega) _ _ _ hP hD hS (lv_sub hl [1, 2, 3, 4, 5, 0] rfl)
  exact L36 (2 + (bel x_1 9) + 1) 0 0 0 S0 τ qo (by omega) (by omega) (Iv.zero _) (by omega) _ _ _ hP hD hS (lv_sub hl [4, 5, 3, 2, 1, 0] rfl)
