set_option maxHeartbeats 16000000 in
set_option maxRecDepth 100000 in
theorem law_H (l : Launch) {p : Program} {e : Env} {s : State} {m : MethodId} {args : Array Value} {below : List Frame} {meth : Method} {c : Code} {Q : State → Prop} (D : va_G) (cI cZ cL : ClassId) {A : Nat → Prop} {b L : Nat} {xs : Nat → Int32} (sm ob h : Nat) (a : Nat → Nat) (h2 : Nat) (a2 : Nat → Nat) (hx : p.tables.exec = Jvm.exec) (hb : c.code = cL_law) (hml : c.maxLocals = 30) (hown : s.vm.findClass RL = some m.cls) (hts : ∀ w ∈ LW, w.before args s = true) (hE9 : EY (some (b, L, xs)) A s s.heap) (hK : va_K D vwCl (tZ cI cZ cL) s) (hA : ∀ q : Nat, s.heap.size ≤ q → A q) (hL : L ≤ 260) {t : Nat} (ht : t < 5) {c0 s0 : Nat} (hc0 : c0 + 700 ≤ 650901) (hs0 : s0 + 7000 ≤ 7148764) {n k B : Nat} (q : SA) (σ : Sg) (hI : Iv n k B σ) (hn2 : 2 ≤ n) (hB9 : B + 100000 < 2 ^ 28) (xv : Int32) (hh fj : Nat) (hh1 : 1 ≤ hh) (hh12 : hh ≤ 12) (hfj : fj < n) (NX : (∀ (ρ : Sg) (H : Heap) (locs : List Loc) (ls : Array Slot), va_P D vwCl ((sC cI cL sm q (hours hh σ) n k) ++ ((oC ob h h2) ++ ((mC cI cZ h a (hours hh σ)) ++ (mC cI cZ h2 a2 ρ)))) H → va_D A ((sC cI cL sm q (hours hh σ) n k) ++ ((oC ob h h2) ++ ((mC cI cZ h a (hours hh σ)) ++ (mC cI cZ h2 a2 ρ)))) → va_S A s.heap H locs → lv_has ls 30 [(0, .ref b), (1, .ref ob), (2, .ref sm), (3, .int (nI t))] → W p l e room_1 s m args below meth c H locs (c0 + 700) (s0 + 7000) Q (F0 m 1038 ls []))) (τ : Sg) {H : Heap} {locs : List Loc} {ls : Array Slot} (hP : va_P D vwCl ((sC cI cL sm q σ n k) ++ ((oC ob h h2) ++ ((mC cI cZ h a σ) ++ (mC cI cZ h2 a2 τ)))) H) (hD : va_D A ((sC cI cL sm q σ n k) ++ ((oC ob h h2) ++ ((mC cI cZ h a σ) ++ (mC cI cZ h2 a2 τ))))) (hS : va_S A s.heap H locs) (hl : lv_has ls 30 [(0, .ref b), (1, .ref ob), (2, .ref sm), (3, .int (nI t)), (4, .int xv), (5, .long (digS σ)), (7, .int (nI n)), (8, .int (lost σ)), (20, .int (nI hh)), (21, .int (nI fj)), (22, .int (untilS σ fj)), (23, .int (hours hh σ 2 fj)), (24, .int (lossH hh σ))]) : W p l e room_1 s m args below meth c H locs (c0 + 640) (s0 + 6400) Q (F0 m 793 ls []) := by
  have hst : Shp n k σ := hI.1
  have hB : Bnd B σ := hI.2.1
  have hn10 := hst.1
  have hk16 := hst.2.1
  have hE : EX A s s.heap := hE9.1
  refine lv_iconst (v := 1) hx hb dL_law_793 (by decide) ?_
  refine lv_istore (lv' := [(25, .int 1), (0, .ref b), (1, .ref ob), (2, .ref sm), (3, .int (nI t)), (4, .int xv), (5, .long (digS σ)), (7, .int (nI n)), (8, .int (lost σ)), (20, .int (nI hh)), (21, .int (nI fj)), (22, .int (untilS σ fj)), (23, .int (hours hh σ 2 fj)), (24, .int (lossH hh σ))]) hx hb dL_law_794 hl (by decide) rfl (fun ls hl => ?_)
  have hl := lv_sub hl [1, 2, 3, 4, 5, 6, 7, 8, 9, 10, 11, 12, 13, 0] rfl
  have hl : lv_has ls 30 [(0, .ref b), (1, .ref ob), (2, .ref sm), (3, .int (nI t)), (4, .int xv), (5, .long (digS σ)), (7, .int (nI n)), (8, .int (lost σ)), (20, .int (nI hh)), (21, .int (nI fj)), (22, .int (untilS σ fj)), (23, .int (hours hh σ 2 fj)), (24, .int (lossH hh σ)), (25, .int (nI (0 + 1)))] := hl
  refine W.wide (k := c0 + 640 + 0) (n := s0 + 6400 + 10 * 0) (by first | omega | exact Nat.le_of_ble_eq_true rfl) (by first | omega | exact Nat.le_of_ble_eq_true rfl) ?_
  have L796 : ∀ (f j : Nat) (ρ : Sg), j ≤ hh → hh < j + f → ∀ (H : Heap) (locs : List Loc) (ls : Array Slot), va_P D vwCl ((sC cI cL sm q (hours j σ) n k) ++ ((oC ob h h2) ++ ((mC cI cZ h a (hours j σ)) ++ (mC cI cZ h2 a2 ρ)))) H → va_D A ((sC cI cL sm q (hours j σ) n k) ++ ((oC ob h h2) ++ ((mC cI cZ h a (hours j σ)) ++ (mC cI cZ h2 a2 ρ)))) → va_S A s.heap H locs → lv_has ls 30 [(0, .ref b), (1, .ref ob), (2, .ref sm), (3, .int (nI t)), (4, .int xv), (5, .long (digS σ)), (7, .int (nI n)), (8, .int (lost σ)), (20, .int (nI hh)), (21, .int (nI fj)), (22, .int (untilS σ fj)), (23, .int (hours hh σ 2 fj)), (24, .int (lossH hh σ)), (25, .int (nI (j + 1)))] → W p l e room_1 s m args below meth c H locs (c0 + 640 + j) (s0 + 6400 + 10 * j) Q (F0 m 796 ls []) := by
    intro f
    induction f with
    | zero => intro j ρ h1 h2; exact absurd h2 (by omega)
    | succ f ih_796 =>
      intro j ρ hi_796 hf_796 H locs ls hP hD hS hl
      refine lv_iload hx hb dL_law_796 (lv_at hl 13 rfl) ?_
      refine lv_iload hx hb dL_law_798 (lv_at hl 8 rfl) ?_
      refine lv_icmp_gt (tgt := 1016) hx hb dL_law_800 (by decide) (fun c_800 => ?_) (fun c_800 => ?_)
      · have hc_800 : hh < (j + 1) := (nI_ltI (a := hh) (b := (j + 1)) (by omega) (by omega)).mp c_800
        rw [show j = hh by omega] at hP hD
        have hP : va_P D vwCl ((sC cI cL sm q (hours hh σ) n k) ++ ((oC ob h h2) ++ ((mC cI cZ h a (hours hh σ)) ++ (mC cI cZ h2 a2 ρ)))) H := hP
        have hD : va_D A ((sC cI cL sm q (hours hh σ) n k) ++ ((oC ob h h2) ++ ((mC cI cZ h a (hours hh σ)) ++ (mC cI cZ h2 a2 ρ)))) := hD
        refine lv_aload_n hx hb dL_law_1016 rfl (lv_at hl 1 rfl) ?_
        refine lv_iload hx hb dL_law_1017 (lv_at hl 9 rfl) ?_
        refine MX.callV0 (C := RX1) (T := TX1) (N := 2) (As := [.int (nI fj)]) (rest := []) (w0 := sC cI cL sm q (hours hh σ) n k) (w2 := []) (wB := fun ρ => (sC cI cL sm q (hours hh σ) n k) ++ ((oC ob h h2) ++ ((mC cI cZ h a (hours hh σ)) ++ (mC cI cZ h2 a2 ρ)))) (c_X1_waterOn l D cI cZ cL ob h a h2 a2 (hours hh σ) ρ (hst.hrs hh) fj hfj) ⟨hx, hb, hml, hown, hts⟩ q254 b_X1_waterOn (n := 1) (by decide +kernel) ⟨(Nat.le_of_ble_eq_true rfl), (Nat.le_of_ble_eq_true rfl)⟩ hK hP hD hS hA hE (by rw [List.append_nil]) (fun _ => by rw [List.append_nil]) (ci := 1) rfl rfl rfl hl.1 rfl (Nat.le_of_ble_eq_true rfl) dL_law_1019 ⟨by show (c0 + 640 + j) + 0 ≤ 650901; omega, by show (s0 + 6400 + 10 * j) + 0 ≤ 7148764; omega⟩ (fun ρ_1 H locs hP hD hS => ?_)
        have hP : va_P D vwCl ((sC cI cL sm q (hours hh σ) n k) ++ ((oC ob h h2) ++ ((mC cI cZ h a (hours hh σ)) ++ (mC cI cZ h2 a2 ρ_1)))) H := hP
        have hD : va_D A ((sC cI cL sm q (hours hh σ) n k) ++ ((oC ob h h2) ++ ((mC cI cZ h a (hours hh σ)) ++ (mC cI cZ h2 a2 ρ_1)))) := hD
        refine W.wide (k := (c0 + 640 + j)) (n := (s0 + 6400 + 10 * j)) (by show (c0 + 640 + j) + 0 ≤ (c0 + 640 + j); omega) (by show (s0 + 6400 + 10 * j) + 0 ≤ (s0 + 6400 + 10 * j); omega) ?_
        refine lv_iload hx hb dL_law_1022 (lv_at hl 11 rfl) ?_
        refine lv_icmp_ne (tgt := 1036) hx hb dL_law_1024 (by decide) (fun z => absurd (rfl) z) (fun c_1024 => ?_)
        refine lv_aload_n hx hb dL_law_1027 rfl (lv_at hl 1 rfl) ?_
        refine MX.callV0 (C := RX1) (T := TX1) (N := 2) (As := []) (rest := []) (w0 := sC cI cL sm q (hours hh σ) n k) (w2 := []) (wB := fun ρ => (sC cI cL sm q (hours hh σ) n k) ++ ((oC ob h h2) ++ ((mC cI cZ h a (hours hh σ)) ++ (mC cI cZ h2 a2 ρ)))) (c_X1_loss l D cI cZ cL ob h a h2 a2 (hours hh σ) ρ_1 (hst.hrs hh)) ⟨hx, hb, hml, hown, hts⟩ q246 b_X1_loss (n := 0) (by decide +kernel) ⟨(Nat.le_of_ble_eq_true rfl), (Nat.le_of_ble_eq_true rfl)⟩ hK hP hD hS hA hE (by rw [List.append_nil]) (fun _ => by rw [List.append_nil]) (ci := 1) rfl rfl rfl hl.1 rfl (Nat.le_of_ble_eq_true rfl) dL_law_1028 ⟨by show (c0 + 640 + j) + 0 ≤ 650901; omega, by show (s0 + 6400 + 10 * j) + 0 ≤ 7148764; omega⟩ (fun ρ_2 H locs hP hD hS => ?_)
        have hP : va_P D vwCl ((sC cI cL sm q (hours hh σ) n k) ++ ((oC ob h h2) ++ ((mC cI cZ h a (hours hh σ)) ++ (mC cI cZ h2 a2 ρ_2)))) H := hP
        have hD : va_D A ((sC cI cL sm q (hours hh σ) n k) ++ ((oC ob h h2) ++ ((mC cI cZ h a (hours hh σ)) ++ (mC cI cZ h2 a2 ρ_2)))) := hD
        refine W.wide (k := (c0 + 640 + j)) (n := (s0 + 6400 + 10 * j)) (by show (c0 + 640 + j) + 0 ≤ (c0 + 640 + j); omega) (by show (s0 + 6400 + 10 * j) + 0 ≤ (s0 + 6400 + 10 * j); omega) ?_
        refine lv_iload hx hb dL_law_1031 (lv_at hl 12 rfl) ?_
        refine lv_icmp_eq (tgt := 1038) hx hb dL_law_1033 (by decide) (fun c_1033 => ?_) (fun z => absurd (rfl) z)
        refine W.wide (k := (c0 + 700)) (n := (s0 + 7000)) (by first | omega | exact Nat.le_of_ble_eq_true rfl) (by first | omega | exact Nat.le_of_ble_eq_true rfl) ?_
        have hP : va_P D vwCl ((sC cI cL sm q (hours hh σ) n k) ++ ((oC ob h h2) ++ ((mC cI cZ h a (hours hh σ)) ++ (mC cI cZ h2 a2 ρ_2)))) H := hP
        have hD : va_D A ((sC cI cL sm q (hours hh σ) n k) ++ ((oC ob h h2) ++ ((mC cI cZ h a (hours hh σ)) ++ (mC cI cZ h2 a2 ρ_2)))) := hD
        exact NX ρ_2 _ _ _ hP hD hS (lv_sub hl [0, 1, 2, 3] rfl)
      · have hc_800 : (j + 1) ≤ hh := Nat.not_lt.mp (fun z => c_800 ((nI_ltI (a := hh) (b := (j + 1)) (by omega) (by omega)).mpr z))
        obtain ⟨υ, eυ⟩ : ∃ z, z = hours j σ := ⟨_, rfl⟩
        rw [← eυ] at hP hD
        have hJ : Iv n k (B + 234 * j) υ := by rw [eυ]; exact hI.hrs j (by omega)
        have hsj : Shp n k υ := hJ.1
        have hbj : Bnd (B + 234 * j) υ := hJ.2.1
        refine lv_aload_n hx hb dL_law_803 rfl (lv_at hl 1 rfl) ?_
        refine MX.callV0 (C := RX1) (T := TX1) (N := 2) (As := []) (rest := []) (w0 := sC cI cL sm q υ n k) (w2 := []) (wB := fun ρ => (sC cI cL sm q υ n k) ++ ((oC ob h h2) ++ ((mC cI cZ h a υ) ++ (mC cI cZ h2 a2 ρ)))) (c_X1_water l D cI cZ cL ob h a h2 a2 υ ρ hsj) ⟨hx, hb, hml, hown, hts⟩ q238 b_X1_water (n := 0) (by decide +kernel) ⟨(Nat.le_of_ble_eq_true rfl), (Nat.le_of_ble_eq_true rfl)⟩ hK hP hD hS hA hE (by rw [List.append_nil]) (fun _ => by rw [List.append_nil]) (ci := 1) rfl rfl rfl hl.1 rfl (Nat.le_of_ble_eq_true rfl) dL_law_804 ⟨by show (c0 + 640 + j) + 0 ≤ 650901; omega, by show (s0 + 6400 + 10 * j) + 0 ≤ 7148764; omega⟩ (fun ρ_3 H locs hP hD hS => ?_)
        have hP : va_P D vwCl ((sC cI cL sm q υ n k) ++ ((oC ob h h2) ++ ((mC cI cZ h a υ) ++ (mC cI cZ h2 a2 ρ_3)))) H := hP
        have hD : va_D A ((sC cI cL sm q υ n k) ++ ((oC ob h h2) ++ ((mC cI cZ h a υ) ++ (mC cI cZ h2 a2 ρ_3)))) := hD
        refine W.wide (k := (c0 + 640 + j)) (n := (s0 + 6400 + 10 * j)) (by show (c0 + 640 + j) + 0 ≤ (c0 + 640 + j); omega) (by show (s0 + 6400 + 10 * j) + 0 ≤ (s0 + 6400 + 10 * j); omega) ?_
        refine lv_aload_n hx hb dL_law_807 rfl (lv_at hl 1 rfl) ?_
        refine MX.callV0 (C := RX1) (T := TX1) (N := 2) (As := []) (rest := [.int (waterS υ)]) (w0 := sC cI cL sm q υ n k) (w2 := []) (wB := fun ρ => (sC cI cL sm q υ n k) ++ ((oC ob h h2) ++ ((mC cI cZ h a υ) ++ (mC cI cZ h2 a2 ρ)))) (c_X1_drained l D cI cZ cL ob h a h2 a2 υ ρ_3 ) ⟨hx, hb, hml, hown, hts⟩ q242 b_X1_drained (n := 0) (by decide +kernel) ⟨(Nat.le_of_ble_eq_true rfl), (Nat.le_of_ble_eq_true rfl)⟩ hK hP hD hS hA hE (by rw [List.append_nil]) (fun _ => by rw [List.append_nil]) (ci := 1) rfl rfl rfl hl.1 rfl (Nat.le_of_ble_eq_true rfl) dL_law_808 ⟨by show (c0 + 640 + j) + 0 ≤ 650901; omega, by show (s0 + 6400 + 10 * j) + 0 ≤ 7148764; omega⟩ (fun ρ_4 H locs hP hD hS => ?_)
        have hP : va_P D vwCl ((sC cI cL sm q υ n k) ++ ((oC ob h h2) ++ ((mC cI cZ h a υ) ++ (mC cI cZ h2 a2 ρ_4)))) H := hP
        have hD : va_D A ((sC cI cL sm q υ n k) ++ ((oC ob h h2) ++ ((mC cI cZ h a υ) ++ (mC cI cZ h2 a2 ρ_4)))) := hD
        refine W.wide (k := (c0 + 640 + j)) (n := (s0 + 6400 + 10 * j)) (by show (c0 + 640 + j) + 0 ≤ (c0 + 640 + j); omega) (by show (s0 + 6400 + 10 * j) + 0 ≤ (s0 + 6400 + 10 * j); omega) ?_
        refine lv_iadd hx hb dL_law_811 ?_
        refine lv_iload hx hb dL_law_812 (lv_at hl 6 rfl) ?_
        refine lv_aload_n hx hb dL_law_814 rfl (lv_at hl 1 rfl) ?_
        refine MX.callV0 (C := RX1) (T := TX1) (N := 2) (As := []) (rest := [.int (nI n), .int ((waterS υ) + (υ 11 3))]) (w0 := sC cI cL sm q υ n k) (w2 := []) (wB := fun ρ => (sC cI cL sm q υ n k) ++ ((oC ob h h2) ++ ((mC cI cZ h a υ) ++ (mC cI cZ h2 a2 ρ)))) (c_X1_rain l D cI cZ cL ob h a h2 a2 υ ρ_4 ) ⟨hx, hb, hml, hown, hts⟩ q234 b_X1_rain (n := 0) (by decide +kernel) ⟨(Nat.le_of_ble_eq_true rfl), (Nat.le_of_ble_eq_true rfl)⟩ hK hP hD hS hA hE (by rw [List.append_nil]) (fun _ => by rw [List.append_nil]) (ci := 1) rfl rfl rfl hl.1 rfl (Nat.le_of_ble_eq_true rfl) dL_law_815 ⟨by show (c0 + 640 + j) + 0 ≤ 650901; omega, by show (s0 + 6400 + 10 * j) + 0 ≤ 7148764; omega⟩ (fun ρ_5 H locs hP hD hS => ?_)
        have hP : va_P D vwCl ((sC cI cL sm q υ n k) ++ ((oC ob h h2) ++ ((mC cI cZ h a υ) ++ (mC cI cZ h2 a2 ρ_5)))) H := hP
        have hD : va_D A ((sC cI cL sm q υ n k) ++ ((oC ob h h2) ++ ((mC cI cZ h a υ) ++ (mC cI cZ h2 a2 ρ_5)))) := hD
        refine W.wide (k := (c0 + 640 + j)) (n := (s0 + 6400 + 10 * j)) (by show (c0 + 640 + j) + 0 ≤ (c0 + 640 + j); omega) (by show (s0 + 6400 + 10 * j) + 0 ≤ (s0 + 6400 + 10 * j); omega) ?_
        refine lv_imul hx hb dL_law_818 ?_
        refine lv_iadd hx hb dL_law_819 ?_
        refine lv_istore (lv' := [(26, .int (((waterS υ) + (υ 11 3)) + ((nI n) * (υ 11 2)))), (0, .ref b), (1, .ref ob), (2, .ref sm), (3, .int (nI t)), (4, .int xv), (5, .long (digS σ)), (7, .int (nI n)), (8, .int (lost σ)), (20, .int (nI hh)), (21, .int (nI fj)), (22, .int (untilS σ fj)), (23, .int (hours hh σ 2 fj)), (24, .int (lossH hh σ)), (25, .int (nI (j + 1)))]) hx hb dL_law_820 hl (by decide) rfl (fun ls hl => ?_)
        refine lv_iload hx hb dL_law_822 (lv_at hl 7 rfl) ?_
        refine x_new (atype := .boolean) (ty := .boolean) rfl rfl ra_bool hx hb (hts _ q97) hK hP hD hS hA 1 rfl (N' := n) (Int32.not_lt.mpr (nI_pos' (by omega))) (nI_clamp (by omega)) (by show n * 1 ≤ 536870912; omega) (by show _ + 1 ≤ 650901; omega) (by show _ + _ ≤ 7148764; omega) dL_law_824 (fun z9 H hP hD hS => ?_)
        obtain ⟨hP, hD⟩ := p_perm (b := tC cZ z9 n (fun _ => 0) ++ ((sC cI cL sm q υ n k) ++ ((oC ob h h2) ++ ((mC cI cZ h a υ) ++ (mC cI cZ h2 a2 ρ_5))))) List.perm_append_comm hP hD
        have hP : va_P D vwCl ((tC cZ z9 n (fun _ => 0)) ++ ((sC cI cL sm q υ n k) ++ ((oC ob h h2) ++ ((mC cI cZ h a υ) ++ (mC cI cZ h2 a2 ρ_5))))) H := hP
        have hD : va_D A ((tC cZ z9 n (fun _ => 0)) ++ ((sC cI cL sm q υ n k) ++ ((oC ob h h2) ++ ((mC cI cZ h a υ) ++ (mC cI cZ h2 a2 ρ_5))))) := hD
        refine lv_astore (lv' := [(27, .ref z9), (26, .int (((waterS υ) + (υ 11 3)) + ((nI n) * (υ 11 2)))), (0, .ref b), (1, .ref ob), (2, .ref sm), (3, .int (nI t)), (4, .int xv), (5, .long (digS σ)), (7, .int (nI n)), (8, .int (lost σ)), (20, .int (nI hh)), (21, .int (nI fj)), (22, .int (untilS σ fj)), (23, .int (hours hh σ 2 fj)), (24, .int (lossH hh σ)), (25, .int (nI (j + 1)))]) hx hb dL_law_826 hl (by decide) rfl (fun ls hl => ?_)
        refine lv_iconst (v := 0) hx hb dL_law_828 (by decide) ?_
        refine lv_istore (lv' := [(28, .int 0), (27, .ref z9), (26, .int (((waterS υ) + (υ 11 3)) + ((nI n) * (υ 11 2)))), (0, .ref b), (1, .ref ob), (2, .ref sm), (3, .int (nI t)), (4, .int xv), (5, .long (digS σ)), (7, .int (nI n)), (8, .int (lost σ)), (20, .int (nI hh)), (21, .int (nI fj)), (22, .int (untilS σ fj)), (23, .int (hours hh σ 2 fj)), (24, .int (lossH hh σ)), (25, .int (nI (j + 1)))]) hx hb dL_law_829 hl (by decide) rfl (fun ls hl => ?_)
        refine W.wide (k := c0 + 640 + j + 1) (n := s0 + 6400 + 10 * j + 10) (by first | omega | exact Nat.le_of_ble_eq_true rfl) (by first | omega | exact Nat.le_of_ble_eq_true rfl) ?_
        rw [show (fun _ => (0 : Int32)) = wzF υ 0 from (wz_0 υ).symm] at hP hD
        have hP : va_P D vwCl ((tC cZ z9 n (wzF υ 0)) ++ ((sC cI cL sm q υ n k) ++ ((oC ob h h2) ++ ((mC cI cZ h a υ) ++ (mC cI cZ h2 a2 ρ_5))))) H := hP
        have hD : va_D A ((tC cZ z9 n (wzF υ 0)) ++ ((sC cI cL sm q υ n k) ++ ((oC ob h h2) ++ ((mC cI cZ h a υ) ++ (mC cI cZ h2 a2 ρ_5))))) := hD
        have hl := lv_sub hl [3, 4, 5, 6, 7, 8, 9, 10, 11, 12, 13, 14, 15, 16, 2, 1, 0] rfl
        have hl : lv_has ls 30 [(0, .ref b), (1, .ref ob), (2, .ref sm), (3, .int (nI t)), (4, .int xv), (5, .long (digS σ)), (7, .int (nI n)), (8, .int (lost σ)), (20, .int (nI hh)), (21, .int (nI fj)), (22, .int (untilS σ fj)), (23, .int (hours hh σ 2 fj)), (24, .int (lossH hh σ)), (25, .int (nI (j + 1))), (26, .int ((waterS υ + υ 11 3) + nI n * υ 11 2)), (27, .ref z9), (28, .int (nI 0))] := hl
        have L831 : ∀ (f i : Nat) (ρ : Sg), i ≤ n → n < i + f → ∀ (H : Heap) (locs : List Loc) (ls : Array Slot), va_P D vwCl ((tC cZ z9 n (wzF υ i)) ++ ((sC cI cL sm q υ n k) ++ ((oC ob h h2) ++ ((mC cI cZ h a υ) ++ (mC cI cZ h2 a2 ρ))))) H → va_D A ((tC cZ z9 n (wzF υ i)) ++ ((sC cI cL sm q υ n k) ++ ((oC ob h h2) ++ ((mC cI cZ h a υ) ++ (mC cI cZ h2 a2 ρ))))) → va_S A s.heap H locs → lv_has ls 30 [(0, .ref b), (1, .ref ob), (2, .ref sm), (3, .int (nI t)), (4, .int xv), (5, .long (digS σ)), (7, .int (nI n)), (8, .int (lost σ)), (20, .int (nI hh)), (21, .int (nI fj)), (22, .int (untilS σ fj)), (23, .int (hours hh σ 2 fj)), (24, .int (lossH hh σ)), (25, .int (nI (j + 1))), (26, .int ((waterS υ + υ 11 3) + nI n * υ 11 2)), (27, .ref z9), (28, .int (nI i))] → W p l e room_1 s m args below meth c H locs (c0 + 640 + j + 1) (s0 + 6400 + 10 * j + 10) Q (F0 m 831 ls []) := by
          intro f
          induction f with
          | zero => intro i ρ h1 h2; exact absurd h2 (by omega)
          | succ f ih_831 =>
            intro i ρ hi_831 hf_831 H locs ls hP hD hS hl
            refine lv_iload hx hb dL_law_831 (lv_at hl 16 rfl) ?_
            refine lv_iload hx hb dL_law_833 (lv_at hl 6 rfl) ?_
            refine lv_icmp_ge (tgt := 855) hx hb dL_law_835 (by decide) (fun c_835 => ?_) (fun c_835 => ?_)
            · have hc_835 : n ≤ i := (nI_leI (a := n) (b := i) (by omega) (by omega)).mp c_835
              rw [show i = n by omega] at hP hD
              refine lv_aload_n hx hb dL_law_855 rfl (lv_at hl 1 rfl) ?_
              refine lv_iconst (v := 1) hx hb dL_law_856 (by decide) ?_
              refine MX.callV0 (C := RX1) (T := TX1) (N := 2) (As := [.int 1]) (rest := []) (w0 := (tC cZ z9 n (wzF υ n)) ++ (sC cI cL sm q υ n k)) (w2 := []) (wB := fun ρ => (tC cZ z9 n (wzF υ n)) ++ ((sC cI cL sm q υ n k) ++ ((oC ob h h2) ++ ((mC cI cZ h a (hours 1 υ)) ++ (mC cI cZ h2 a2 ρ))))) (c_X1_pass l D cI cZ cL ob h a h2 a2 υ ρ hsj 1 (by decide) (by decide)) ⟨hx, hb, hml, hown, hts⟩ q105 b_X1_pass (n := 1) (by decide +kernel) ⟨(Nat.le_of_ble_eq_true rfl), (Nat.le_of_ble_eq_true rfl)⟩ hK hP hD hS hA hE (by simp only [List.append_assoc, List.append_nil, List.nil_append]) (fun _ => by simp only [List.append_assoc, List.append_nil, List.nil_append]) (ci := 1) rfl rfl rfl hl.1 rfl (Nat.le_of_ble_eq_true rfl) dL_law_857 ⟨by show (c0 + 640 + j + 1) + 0 ≤ 650901; omega, by show (s0 + 6400 + 10 * j + 10) + 0 ≤ 7148764; omega⟩ (fun ρ_6 H locs hP hD hS => ?_)
              have hP : va_P D vwCl ((tC cZ z9 n (wzF υ n)) ++ ((sC cI cL sm q υ n k) ++ ((oC ob h h2) ++ ((mC cI cZ h a (hours 1 υ)) ++ (mC cI cZ h2 a2 ρ_6))))) H := hP
              have hD : va_D A ((tC cZ z9 n (wzF υ n)) ++ ((sC cI cL sm q υ n k) ++ ((oC ob h h2) ++ ((mC cI cZ h a (hours 1 υ)) ++ (mC cI cZ h2 a2 ρ_6))))) := hD
              refine W.wide (k := (c0 + 640 + j + 1)) (n := (s0 + 6400 + 10 * j + 10)) (by show (c0 + 640 + j + 1) + 0 ≤ (c0 + 640 + j + 1); omega) (by show (s0 + 6400 + 10 * j + 10) + 0 ≤ (s0 + 6400 + 10 * j + 10); omega) ?_
              have hP : va_P D vwCl ((tC cZ z9 n (wzF υ n)) ++ ((sC cI cL sm q υ n k) ++ ((oC ob h h2) ++ ((mC cI cZ h a (hour υ)) ++ (mC cI cZ h2 a2 ρ_6))))) H := hP
              have hD : va_D A ((tC cZ z9 n (wzF υ n)) ++ ((sC cI cL sm q υ n k) ++ ((oC ob h h2) ++ ((mC cI cZ h a (hour υ)) ++ (mC cI cZ h2 a2 ρ_6))))) := hD
              refine lv_istore (lv' := [(28, .int (ruinN (hour υ) - ruinN υ)), (0, .ref b), (1, .ref ob), (2, .ref sm), (3, .int (nI t)), (4, .int xv), (5, .long (digS σ)), (7, .int (nI n)), (8, .int (lost σ)), (20, .int (nI hh)), (21, .int (nI fj)), (22, .int (untilS σ fj)), (23, .int (hours hh σ 2 fj)), (24, .int (lossH hh σ)), (25, .int (nI (j + 1))), (26, .int ((waterS υ + υ 11 3) + nI n * υ 11 2)), (27, .ref z9)]) hx hb dL_law_860 hl (by decide) rfl (fun ls hl => ?_)
              refine lv_iload hx hb dL_law_862 (lv_at hl 0 rfl) ?_
              refine lv_aload_n hx hb dL_law_864 rfl (lv_at hl 3 rfl) ?_
              refine MC.callV0 (C := RX2) (T := TX2) (N := 5) (As := []) (rest := [.int (ruinN (hour υ) - ruinN υ)]) (w0 := tC cZ z9 n (wzF υ n)) (w2 := (oC ob h h2) ++ ((mC cI cZ h a (hour υ)) ++ (mC cI cZ h2 a2 ρ_6))) (wB := (tC cZ z9 n (wzF υ n)) ++ ((sC cI cL sm q (hour υ) n k) ++ ((oC ob h h2) ++ ((mC cI cZ h a (hour υ)) ++ (mC cI cZ h2 a2 ρ_6))))) (c_X2_pass l D cI cZ cL sm q υ hsj hbj (by omega)) ⟨hx, hb, hml, hown, hts⟩ q455 b_X2_pass (n := 0) (by decide +kernel) ⟨(Nat.le_of_ble_eq_true rfl), (Nat.le_of_ble_eq_true rfl)⟩ hK hP hD hS hA rfl rfl (ci := 2) rfl rfl rfl hl.1 rfl (Nat.le_of_ble_eq_true rfl) dL_law_865 ⟨by show (c0 + 640 + j + 1) + 0 ≤ 650901; omega, by show (s0 + 6400 + 10 * j + 10) + 0 ≤ 7148764; omega⟩ (fun H locs hP hD hS => ?_)
              refine W.wide (k := (c0 + 640 + j + 1)) (n := (s0 + 6400 + 10 * j + 10)) (by show (c0 + 640 + j + 1) + 0 ≤ (c0 + 640 + j + 1); omega) (by show (s0 + 6400 + 10 * j + 10) + 0 ≤ (s0 + 6400 + 10 * j + 10); omega) ?_
              refine lv_icmp_ne (tgt := 885) hx hb dL_law_868 (by decide) (fun z => absurd (rfl) z) (fun c_868 => ?_)
              refine lv_aload_n hx hb dL_law_871 rfl (lv_at hl 2 rfl) ?_
              refine MX.callV0 (C := RX1) (T := TX1) (N := 2) (As := []) (rest := []) (w0 := (tC cZ z9 n (wzF υ n)) ++ (sC cI cL sm q (hour υ) n k)) (w2 := []) (wB := fun ρ => (tC cZ z9 n (wzF υ n)) ++ ((sC cI cL sm q (hour υ) n k) ++ ((oC ob h h2) ++ ((mC cI cZ h a (hour υ)) ++ (mC cI cZ h2 a2 ρ))))) (c_X1_water l D cI cZ cL ob h a h2 a2 (hour υ) ρ_6 hsj.hr) ⟨hx, hb, hml, hown, hts⟩ q238 b_X1_water (n := 0) (by decide +kernel) ⟨(Nat.le_of_ble_eq_true rfl), (Nat.le_of_ble_eq_true rfl)⟩ hK hP hD hS hA hE (by simp only [List.append_assoc, List.append_nil, List.nil_append]) (fun _ => by simp only [List.append_assoc, List.append_nil, List.nil_append]) (ci := 1) rfl rfl rfl hl.1 rfl (Nat.le_of_ble_eq_true rfl) dL_law_872 ⟨by show (c0 + 640 + j + 1) + 0 ≤ 650901; omega, by show (s0 + 6400 + 10 * j + 10) + 0 ≤ 7148764; omega⟩ (fun ρ_7 H locs hP hD hS => ?_)
              have hP : va_P D vwCl ((tC cZ z9 n (wzF υ n)) ++ ((sC cI cL sm q (hour υ) n k) ++ ((oC ob h h2) ++ ((mC cI cZ h a (hour υ)) ++ (mC cI cZ h2 a2 ρ_7))))) H := hP
              have hD : va_D A ((tC cZ z9 n (wzF υ n)) ++ ((sC cI cL sm q (hour υ) n k) ++ ((oC ob h h2) ++ ((mC cI cZ h a (hour υ)) ++ (mC cI cZ h2 a2 ρ_7))))) := hD
              refine W.wide (k := (c0 + 640 + j + 1)) (n := (s0 + 6400 + 10 * j + 10)) (by show (c0 + 640 + j + 1) + 0 ≤ (c0 + 640 + j + 1); omega) (by show (s0 + 6400 + 10 * j + 10) + 0 ≤ (s0 + 6400 + 10 * j + 10); omega) ?_
              refine lv_aload_n hx hb dL_law_875 rfl (lv_at hl 2 rfl) ?_
              refine MX.callV0 (C := RX1) (T := TX1) (N := 2) (As := []) (rest := [.int (waterS (hour υ))]) (w0 := (tC cZ z9 n (wzF υ n)) ++ (sC cI cL sm q (hour υ) n k)) (w2 := []) (wB := fun ρ => (tC cZ z9 n (wzF υ n)) ++ ((sC cI cL sm q (hour υ) n k) ++ ((oC ob h h2) ++ ((mC cI cZ h a (hour υ)) ++ (mC cI cZ h2 a2 ρ))))) (c_X1_drained l D cI cZ cL ob h a h2 a2 (hour υ) ρ_7 ) ⟨hx, hb, hml, hown, hts⟩ q242 b_X1_drained (n := 0) (by decide +kernel) ⟨(Nat.le_of_ble_eq_true rfl), (Nat.le_of_ble_eq_true rfl)⟩ hK hP hD hS hA hE (by simp only [List.append_assoc, List.append_nil, List.nil_append]) (fun _ => by simp only [List.append_assoc, List.append_nil, List.nil_append]) (ci := 1) rfl rfl rfl hl.1 rfl (Nat.le_of_ble_eq_true rfl) dL_law_876 ⟨by show (c0 + 640 + j + 1) + 0 ≤ 650901; omega, by show (s0 + 6400 + 10 * j + 10) + 0 ≤ 7148764; omega⟩ (fun ρ_8 H locs hP hD hS => ?_)
              have hP : va_P D vwCl ((tC cZ z9 n (wzF υ n)) ++ ((sC cI cL sm q (hour υ) n k) ++ ((oC ob h h2) ++ ((mC cI cZ h a (hour υ)) ++ (mC cI cZ h2 a2 ρ_8))))) H := hP
              have hD : va_D A ((tC cZ z9 n (wzF υ n)) ++ ((sC cI cL sm q (hour υ) n k) ++ ((oC ob h h2) ++ ((mC cI cZ h a (hour υ)) ++ (mC cI cZ h2 a2 ρ_8))))) := hD
              refine W.wide (k := (c0 + 640 + j + 1)) (n := (s0 + 6400 + 10 * j + 10)) (by show (c0 + 640 + j + 1) + 0 ≤ (c0 + 640 + j + 1); omega) (by show (s0 + 6400 + 10 * j + 10) + 0 ≤ (s0 + 6400 + 10 * j + 10); omega) ?_
              refine lv_iadd hx hb dL_law_879 ?_
              refine lv_iload hx hb dL_law_880 (lv_at hl 15 rfl) ?_
              refine lv_icmp_eq (tgt := 887) hx hb dL_law_882 (by decide) (fun c_882 => ?_) (fun z => absurd (all_water hsj) z)
              refine lv_iconst (v := 0) hx hb dL_law_887 (by decide) ?_
              refine lv_istore (lv' := [(29, .int 0), (28, .int (ruinN (hour υ) - ruinN υ)), (0, .ref b), (1, .ref ob), (2, .ref sm), (3, .int (nI t)), (4, .int xv), (5, .long (digS σ)), (7, .int (nI n)), (8, .int (lost σ)), (20, .int (nI hh)), (21, .int (nI fj)), (22, .int (untilS σ fj)), (23, .int (hours hh σ 2 fj)), (24, .int (lossH hh σ)), (25, .int (nI (j + 1))), (26, .int ((waterS υ + υ 11 3) + nI n * υ 11 2)), (27, .ref z9)]) hx hb dL_law_888 hl (by decide) rfl (fun ls hl => ?_)
              have e6 : ruinN (hour υ) - ruinN υ = (ruinN (hour υ) - ruinN υ) - sumI (nwB υ) 0 := (Int32.sub_zero _).symm
              have hl := lv_sub hl [2, 3, 4, 5, 6, 7, 8, 9, 10, 11, 12, 13, 14, 15, 16, 17, 1, 0] rfl
              have hl : lv_has ls 30 [(0, .ref b), (1, .ref ob), (2, .ref sm), (3, .int (nI t)), (4, .int xv), (5, .long (digS σ)), (7, .int (nI n)), (8, .int (lost σ)), (20, .int (nI hh)), (21, .int (nI fj)), (22, .int (untilS σ fj)), (23, .int (hours hh σ 2 fj)), (24, .int (lossH hh σ)), (25, .int (nI (j + 1))), (26, .int ((waterS υ + υ 11 3) + nI n * υ 11 2)), (27, .ref z9), (28, .int (ruinN (hour υ) - ruinN υ)), (29, .int (nI 0))] := hl
              have hl : lv_has ls 30 [(0, .ref b), (1, .ref ob), (2, .ref sm), (3, .int (nI t)), (4, .int xv), (5, .long (digS σ)), (7, .int (nI n)), (8, .int (lost σ)), (20, .int (nI hh)), (21, .int (nI fj)), (22, .int (untilS σ fj)), (23, .int (hours hh σ 2 fj)), (24, .int (lossH hh σ)), (25, .int (nI (j + 1))), (26, .int ((waterS υ + υ 11 3) + nI n * υ 11 2)), (27, .ref z9), (28, .int ((ruinN (hour υ) - ruinN υ) - sumI (nwB υ) 0)), (29, .int (nI 0))] := by rw [← e6]; exact hl
              have L890 : ∀ (f u : Nat) (ρ : Sg), u ≤ n → n < u + f → ∀ (H : Heap) (locs : List Loc) (ls : Array Slot), va_P D vwCl ((tC cZ z9 n (wzF υ n)) ++ ((sC cI cL sm q (hour υ) n k) ++ ((oC ob h h2) ++ ((mC cI cZ h a (hour υ)) ++ (mC cI cZ h2 a2 ρ))))) H → va_D A ((tC cZ z9 n (wzF υ n)) ++ ((sC cI cL sm q (hour υ) n k) ++ ((oC ob h h2) ++ ((mC cI cZ h a (hour υ)) ++ (mC cI cZ h2 a2 ρ))))) → va_S A s.heap H locs → lv_has ls 30 [(0, .ref b), (1, .ref ob), (2, .ref sm), (3, .int (nI t)), (4, .int xv), (5, .long (digS σ)), (7, .int (nI n)), (8, .int (lost σ)), (20, .int (nI hh)), (21, .int (nI fj)), (22, .int (untilS σ fj)), (23, .int (hours hh σ 2 fj)), (24, .int (lossH hh σ)), (25, .int (nI (j + 1))), (26, .int ((waterS υ + υ 11 3) + nI n * υ 11 2)), (27, .ref z9), (28, .int ((ruinN (hour υ) - ruinN υ) - sumI (nwB υ) u)), (29, .int (nI u))] → W p l e room_1 s m args below meth c H locs (c0 + 640 + j + 1) (s0 + 6400 + 10 * j + 10) Q (F0 m 890 ls []) := by
                intro f
                induction f with
                | zero => intro u ρ h1 h2; exact absurd h2 (by omega)
                | succ f ih_890 =>
                  intro u ρ hi_890 hf_890 H locs ls hP hD hS hl
                  refine lv_iload hx hb dL_law_890 (lv_at hl 17 rfl) ?_
                  refine lv_iload hx hb dL_law_892 (lv_at hl 6 rfl) ?_
                  refine lv_icmp_ge (tgt := 977) hx hb dL_law_894 (by decide) (fun c_894 => ?_) (fun c_894 => ?_)
                  · have hc_894 : n ≤ u := (nI_leI (a := n) (b := u) (by omega) (by omega)).mp c_894
                    obtain ⟨hP, hD⟩ := p_drop (b := (sC cI cL sm q (hour υ) n k) ++ ((oC ob h h2) ++ ((mC cI cZ h a (hour υ)) ++ (mC cI cZ h2 a2 ρ)))) (tC cZ z9 n (wzF υ n)) (pm (fun i y => by simp only [List.count_append]; omega)) hP hD
                    have hP : va_P D vwCl ((sC cI cL sm q (hour υ) n k) ++ ((oC ob h h2) ++ ((mC cI cZ h a (hour υ)) ++ (mC cI cZ h2 a2 ρ)))) H := hP
                    have hD : va_D A ((sC cI cL sm q (hour υ) n k) ++ ((oC ob h h2) ++ ((mC cI cZ h a (hour υ)) ++ (mC cI cZ h2 a2 ρ)))) := hD
                    rw [show u = n by omega] at hl
                    have hl : lv_has ls 30 [(0, .ref b), (1, .ref ob), (2, .ref sm), (3, .int (nI t)), (4, .int xv), (5, .long (digS σ)), (7, .int (nI n)), (8, .int (lost σ)), (20, .int (nI hh)), (21, .int (nI fj)), (22, .int (untilS σ fj)), (23, .int (hours hh σ 2 fj)), (24, .int (lossH hh σ)), (25, .int (nI (j + 1))), (26, .int ((waterS υ + υ 11 3) + nI n * υ 11 2)), (27, .ref z9), (28, .int ((ruinN (hour υ) - ruinN υ) - sumI (nwB υ) n)), (29, .int (nI n))] := hl
                    refine lv_iload hx hb dL_law_977 (lv_at hl 16 rfl) ?_
                    refine lv_if_ne (tgt := 1008) hx hb dL_law_979 (by decide) (fun z => absurd (nw_sum hJ) z) (fun c_979 => ?_)
                    refine lv_aload_n hx hb dL_law_982 rfl (lv_at hl 1 rfl) ?_
                    refine lv_iload hx hb dL_law_983 (lv_at hl 9 rfl) ?_
                    refine MX.callV0 (C := RX1) (T := TX1) (N := 2) (As := [.int (nI fj)]) (rest := []) (w0 := sC cI cL sm q (hour υ) n k) (w2 := []) (wB := fun ρ => (sC cI cL sm q (hour υ) n k) ++ ((oC ob h h2) ++ ((mC cI cZ h a (hour υ)) ++ (mC cI cZ h2 a2 ρ)))) (c_X1_isRuined l D cI cZ cL ob h a h2 a2 (hour υ) ρ hsj.hr (Bnd.hr hsj hbj (by omega)) fj hfj) ⟨hx, hb, hml, hown, hts⟩ q291 b_X1_isRuined (n := 1) (by decide +kernel) ⟨(Nat.le_of_ble_eq_true rfl), (Nat.le_of_ble_eq_true rfl)⟩ hK hP hD hS hA hE (by rw [List.append_nil]) (fun _ => by rw [List.append_nil]) (ci := 1) rfl rfl rfl hl.1 rfl (Nat.le_of_ble_eq_true rfl) dL_law_985 ⟨by show (c0 + 640 + j + 1) + 0 ≤ 650901; omega, by show (s0 + 6400 + 10 * j + 10) + 0 ≤ 7148764; omega⟩ (fun ρ_9 H locs hP hD hS => ?_)
                    have hP : va_P D vwCl ((sC cI cL sm q (hour υ) n k) ++ ((oC ob h h2) ++ ((mC cI cZ h a (hour υ)) ++ (mC cI cZ h2 a2 ρ_9)))) H := hP
                    have hD : va_D A ((sC cI cL sm q (hour υ) n k) ++ ((oC ob h h2) ++ ((mC cI cZ h a (hour υ)) ++ (mC cI cZ h2 a2 ρ_9)))) := hD
                    refine W.wide (k := (c0 + 640 + j + 1)) (n := (s0 + 6400 + 10 * j + 10)) (by show (c0 + 640 + j + 1) + 0 ≤ (c0 + 640 + j + 1); omega) (by show (s0 + 6400 + 10 * j + 10) + 0 ≤ (s0 + 6400 + 10 * j + 10); omega) ?_
                    refine lv_iload hx hb dL_law_988 (lv_at hl 10 rfl) ?_
                    refine lv_if_lt (tgt := 1004) hx hb dL_law_990 (by decide) (fun c_990 => ?_) (fun c_990 => ?_)
                    · refine lv_iconst (v := 0) hx hb dL_law_1004 (by decide) ?_
                      refine lv_icmp_eq (tgt := 1010) hx hb dL_law_1005 (by decide) (fun c_1005 => ?_) (fun z => absurd ((ut_0a hI hfj (by omega) (by omega) eυ c_990)) z)
                      have e9 : hour υ = hours (j + 1) σ := by rw [eυ]; rfl
                      rw [e9] at hP hD
                      refine lv_iinc (v := (nI (j + 1 + 1))) (lv' := [(25, .int (nI (j + 1 + 1))), (0, .ref b), (1, .ref ob), (2, .ref sm), (3, .int (nI t)), (4, .int xv), (5, .long (digS σ)), (7, .int (nI n)), (8, .int (lost σ)), (20, .int (nI hh)), (21, .int (nI fj)), (22, .int (untilS σ fj)), (23, .int (hours hh σ 2 fj)), (24, .int (lossH hh σ)), (26, .int ((waterS υ + υ 11 3) + nI n * υ 11 2)), (27, .ref z9), (28, .int ((ruinN (hour υ) - ruinN υ) - sumI (nwB υ) n)), (29, .int (nI n))]) hx hb dL_law_1010 hl (k := 13) rfl (nI_add (j + 1) 1) (by decide) rfl (fun ls hl => ?_)
                      refine lv_goto (tgt := 796) hx hb dL_law_1013 (by decide) ?_
                      refine W.wide (k := c0 + 640 + (j + 1)) (n := s0 + 6400 + 10 * (j + 1)) (by first | omega | exact Nat.le_of_ble_eq_true rfl) (by first | omega | exact Nat.le_of_ble_eq_true rfl) ?_
                      exact ih_796 (j + 1) ρ_9 (by omega) (by omega) _ _ _ hP hD hS (lv_sub hl [1, 2, 3, 4, 5, 6, 7, 8, 9, 10, 11, 12, 13, 0] rfl)
                    · refine lv_iload hx hb dL_law_993 (lv_at hl 13 rfl) ?_
                      refine lv_iload hx hb dL_law_995 (lv_at hl 10 rfl) ?_
                      refine lv_icmp_lt (tgt := 1004) hx hb dL_law_997 (by decide) (fun c_997 => ?_) (fun c_997 => ?_)
                      · refine lv_iconst (v := 0) hx hb dL_law_1004 (by decide) ?_
                        refine lv_icmp_eq (tgt := 1010) hx hb dL_law_1005 (by decide) (fun c_1005 => ?_) (fun z => absurd ((ut_0b hI hfj (by omega) (by omega) eυ c_997)) z)
                        have e9 : hour υ = hours (j + 1) σ := by rw [eυ]; rfl
                        rw [e9] at hP hD
                        refine lv_iinc (v := (nI (j + 1 + 1))) (lv' := [(25, .int (nI (j + 1 + 1))), (0, .ref b), (1, .ref ob), (2, .ref sm), (3, .int (nI t)), (4, .int xv), (5, .long (digS σ)), (7, .int (nI n)), (8, .int (lost σ)), (20, .int (nI hh)), (21, .int (nI fj)), (22, .int (untilS σ fj)), (23, .int (hours hh σ 2 fj)), (24, .int (lossH hh σ)), (26, .int ((waterS υ + υ 11 3) + nI n * υ 11 2)), (27, .ref z9), (28, .int ((ruinN (hour υ) - ruinN υ) - sumI (nwB υ) n)), (29, .int (nI n))]) hx hb dL_law_1010 hl (k := 13) rfl (nI_add (j + 1) 1) (by decide) rfl (fun ls hl => ?_)
                        refine lv_goto (tgt := 796) hx hb dL_law_1013 (by decide) ?_
                        refine W.wide (k := c0 + 640 + (j + 1)) (n := s0 + 6400 + 10 * (j + 1)) (by first | omega | exact Nat.le_of_ble_eq_true rfl) (by first | omega | exact Nat.le_of_ble_eq_true rfl) ?_
                        exact ih_796 (j + 1) ρ_9 (by omega) (by omega) _ _ _ hP hD hS (lv_sub hl [1, 2, 3, 4, 5, 6, 7, 8, 9, 10, 11, 12, 13, 0] rfl)
                      · refine lv_iconst (v := 1) hx hb dL_law_1000 (by decide) ?_
                        refine lv_goto (tgt := 1005) hx hb dL_law_1001 (by decide) ?_
                        refine lv_icmp_eq (tgt := 1010) hx hb dL_law_1005 (by decide) (fun c_1005 => ?_) (fun z => absurd ((ut_1 hI hfj (by omega) (by omega) eυ c_990 c_997)) z)
                        have e9 : hour υ = hours (j + 1) σ := by rw [eυ]; rfl
                        rw [e9] at hP hD
                        refine lv_iinc (v := (nI (j + 1 + 1))) (lv' := [(25, .int (nI (j + 1 + 1))), (0, .ref b), (1, .ref ob), (2, .ref sm), (3, .int (nI t)), (4, .int xv), (5, .long (digS σ)), (7, .int (nI n)), (8, .int (lost σ)), (20, .int (nI hh)), (21, .int (nI fj)), (22, .int (untilS σ fj)), (23, .int (hours hh σ 2 fj)), (24, .int (lossH hh σ)), (26, .int ((waterS υ + υ 11 3) + nI n * υ 11 2)), (27, .ref z9), (28, .int ((ruinN (hour υ) - ruinN υ) - sumI (nwB υ) n)), (29, .int (nI n))]) hx hb dL_law_1010 hl (k := 13) rfl (nI_add (j + 1) 1) (by decide) rfl (fun ls hl => ?_)
                        refine lv_goto (tgt := 796) hx hb dL_law_1013 (by decide) ?_
                        refine W.wide (k := c0 + 640 + (j + 1)) (n := s0 + 6400 + 10 * (j + 1)) (by first | omega | exact Nat.le_of_ble_eq_true rfl) (by first | omega | exact Nat.le_of_ble_eq_true rfl) ?_
                        exact ih_796 (j + 1) ρ_9 (by omega) (by omega) _ _ _ hP hD hS (lv_sub hl [1, 2, 3, 4, 5, 6, 7, 8, 9, 10, 11, 12, 13, 0] rfl)
                  · have hc_894 : u < n := Nat.not_le.mp (fun z => c_894 ((nI_leI (a := n) (b := u) (by omega) (by omega)).mpr z))
                    have T971 : (∀ (ρ : Sg) (H : Heap) (locs : List Loc) (ls : Array Slot), va_P D vwCl ((tC cZ z9 n (wzF υ n)) ++ ((sC cI cL sm q (hour υ) n k) ++ ((oC ob h h2) ++ ((mC cI cZ h a (hour υ)) ++ (mC cI cZ h2 a2 ρ))))) H → va_D A ((tC cZ z9 n (wzF υ n)) ++ ((sC cI cL sm q (hour υ) n k) ++ ((oC ob h h2) ++ ((mC cI cZ h a (hour υ)) ++ (mC cI cZ h2 a2 ρ))))) → va_S A s.heap H locs → lv_has ls 30 [(0, .ref b), (1, .ref ob), (2, .ref sm), (3, .int (nI t)), (4, .int xv), (5, .long (digS σ)), (7, .int (nI n)), (8, .int (lost σ)), (20, .int (nI hh)), (21, .int (nI fj)), (22, .int (untilS σ fj)), (23, .int (hours hh σ 2 fj)), (24, .int (lossH hh σ)), (25, .int (nI (j + 1))), (26, .int ((waterS υ + υ 11 3) + nI n * υ 11 2)), (27, .ref z9), (28, .int ((ruinN (hour υ) - ruinN υ) - sumI (nwB υ) (u + 1))), (29, .int (nI u))] → W p l e room_1 s m args below meth c H locs (c0 + 640 + j + 1) (s0 + 6400 + 10 * j + 10) Q (F0 m 971 ls [])) := by
                      intro ρ H locs ls hP hD hS hl
                      refine lv_iinc (v := (nI (u + 1))) (lv' := [(29, .int (nI (u + 1))), (0, .ref b), (1, .ref ob), (2, .ref sm), (3, .int (nI t)), (4, .int xv), (5, .long (digS σ)), (7, .int (nI n)), (8, .int (lost σ)), (20, .int (nI hh)), (21, .int (nI fj)), (22, .int (untilS σ fj)), (23, .int (hours hh σ 2 fj)), (24, .int (lossH hh σ)), (25, .int (nI (j + 1))), (26, .int ((waterS υ + υ 11 3) + nI n * υ 11 2)), (27, .ref z9), (28, .int ((ruinN (hour υ) - ruinN υ) - sumI (nwB υ) (u + 1)))]) hx hb dL_law_971 hl (k := 17) rfl (nI_add u 1) (by decide) rfl (fun ls hl => ?_)
                      refine lv_goto (tgt := 890) hx hb dL_law_974 (by decide) ?_
                      exact ih_890 (u + 1) ρ (by omega) (by omega) _ _ _ hP hD hS (lv_sub hl [1, 2, 3, 4, 5, 6, 7, 8, 9, 10, 11, 12, 13, 14, 15, 16, 17, 0] rfl)
                    have T924 : (∀ (ρ : Sg) (H : Heap) (locs : List Loc) (ls : Array Slot), va_P D vwCl ((tC cZ z9 n (wzF υ n)) ++ ((sC cI cL sm q (hour υ) n k) ++ ((oC ob h h2) ++ ((mC cI cZ h a (hour υ)) ++ (mC cI cZ h2 a2 ρ))))) H → va_D A ((tC cZ z9 n (wzF υ n)) ++ ((sC cI cL sm q (hour υ) n k) ++ ((oC ob h h2) ++ ((mC cI cZ h a (hour υ)) ++ (mC cI cZ h2 a2 ρ))))) → va_S A s.heap H locs → lv_has ls 30 [(0, .ref b), (1, .ref ob), (2, .ref sm), (3, .int (nI t)), (4, .int xv), (5, .long (digS σ)), (7, .int (nI n)), (8, .int (lost σ)), (20, .int (nI hh)), (21, .int (nI fj)), (22, .int (untilS σ fj)), (23, .int (hours hh σ 2 fj)), (24, .int (lossH hh σ)), (25, .int (nI (j + 1))), (26, .int ((waterS υ + υ 11 3) + nI n * υ 11 2)), (27, .ref z9), (28, .int ((ruinN (hour υ) - ruinN υ) - sumI (nwB υ) (u + 1))), (29, .int (nI u))] → W p l e room_1 s m args below meth c H locs (c0 + 640 + j + 1) (s0 + 6400 + 10 * j + 10) Q (F0 m 924 ls [])) := by
                      intro ρ H locs ls hP hD hS hl
                      refine lv_aload hx hb dL_law_924 (lv_at hl 15 rfl) ?_
                      refine lv_iload hx hb dL_law_926 (lv_at hl 17 rfl) ?_
                      refine x_zld hx hb hK hP 0 1 rfl rfl u (rfl) (by omega) (by omega) (v := (wzF υ n) u) rfl dL_law_928 ?_
                      refine lv_if_eq (tgt := 941) hx hb dL_law_929 (by decide) (fun c_929 => ?_) (fun c_929 => ?_)
                      · refine lv_aload hx hb dL_law_941 (lv_at hl 15 rfl) ?_
                        refine lv_iload hx hb dL_law_943 (lv_at hl 17 rfl) ?_
                        refine x_zld hx hb hK hP 0 1 rfl rfl u (rfl) (by omega) (by omega) (v := (wzF υ n) u) rfl dL_law_945 ?_
                        refine lv_if_ne (tgt := 971) hx hb dL_law_946 (by decide) (fun c_946 => ?_) (fun c_946 => ?_)
                        · have hP : va_P D vwCl ((tC cZ z9 n (wzF υ n)) ++ ((sC cI cL sm q (hour υ) n k) ++ ((oC ob h h2) ++ ((mC cI cZ h a (hour υ)) ++ (mC cI cZ h2 a2 ρ))))) H := hP
                          have hD : va_D A ((tC cZ z9 n (wzF υ n)) ++ ((sC cI cL sm q (hour υ) n k) ++ ((oC ob h h2) ++ ((mC cI cZ h a (hour υ)) ++ (mC cI cZ h2 a2 ρ))))) := hD
                          exact T971 ρ _ _ _ hP hD hS (lv_sub hl [0, 1, 2, 3, 4, 5, 6, 7, 8, 9, 10, 11, 12, 13, 14, 15, 16, 17] rfl)
                        · refine lv_aload_n hx hb dL_law_949 rfl (lv_at hl 1 rfl) ?_
                          refine lv_iload hx hb dL_law_950 (lv_at hl 17 rfl) ?_
                          refine MX.callV0 (C := RX1) (T := TX1) (N := 2) (As := [.int (nI u)]) (rest := []) (w0 := (tC cZ z9 n (wzF υ n)) ++ (sC cI cL sm q (hour υ) n k)) (w2 := []) (wB := fun ρ => (tC cZ z9 n (wzF υ n)) ++ ((sC cI cL sm q (hour υ) n k) ++ ((oC ob h h2) ++ ((mC cI cZ h a (hour υ)) ++ (mC cI cZ h2 a2 ρ))))) (c_X1_isRuined l D cI cZ cL ob h a h2 a2 (hour υ) ρ hsj.hr (Bnd.hr hsj hbj (by omega)) u (by omega)) ⟨hx, hb, hml, hown, hts⟩ q291 b_X1_isRuined (n := 1) (by decide +kernel) ⟨(Nat.le_of_ble_eq_true rfl), (Nat.le_of_ble_eq_true rfl)⟩ hK hP hD hS hA hE (by simp only [List.append_assoc, List.append_nil, List.nil_append]) (fun _ => by simp only [List.append_assoc, List.append_nil, List.nil_append]) (ci := 1) rfl rfl rfl hl.1 rfl (Nat.le_of_ble_eq_true rfl) dL_law_952 ⟨by show (c0 + 640 + j + 1) + 0 ≤ 650901; omega, by show (s0 + 6400 + 10 * j + 10) + 0 ≤ 7148764; omega⟩ (fun ρ_10 H locs hP hD hS => ?_)
                          have hP : va_P D vwCl ((tC cZ z9 n (wzF υ n)) ++ ((sC cI cL sm q (hour υ) n k) ++ ((oC ob h h2) ++ ((mC cI cZ h a (hour υ)) ++ (mC cI cZ h2 a2 ρ_10))))) H := hP
                          have hD : va_D A ((tC cZ z9 n (wzF υ n)) ++ ((sC cI cL sm q (hour υ) n k) ++ ((oC ob h h2) ++ ((mC cI cZ h a (hour υ)) ++ (mC cI cZ h2 a2 ρ_10))))) := hD
                          refine W.wide (k := (c0 + 640 + j + 1)) (n := (s0 + 6400 + 10 * j + 10)) (by show (c0 + 640 + j + 1) + 0 ≤ (c0 + 640 + j + 1); omega) (by show (s0 + 6400 + 10 * j + 10) + 0 ≤ (s0 + 6400 + 10 * j + 10); omega) ?_
                          refine lv_if_eq (tgt := 971) hx hb dL_law_955 (by decide) (fun c_955 => ?_) (fun c_955 => ?_)
                          · have hP : va_P D vwCl ((tC cZ z9 n (wzF υ n)) ++ ((sC cI cL sm q (hour υ) n k) ++ ((oC ob h h2) ++ ((mC cI cZ h a (hour υ)) ++ (mC cI cZ h2 a2 ρ_10))))) H := hP
                            have hD : va_D A ((tC cZ z9 n (wzF υ n)) ++ ((sC cI cL sm q (hour υ) n k) ++ ((oC ob h h2) ++ ((mC cI cZ h a (hour υ)) ++ (mC cI cZ h2 a2 ρ_10))))) := hD
                            exact T971 ρ_10 _ _ _ hP hD hS (lv_sub hl [0, 1, 2, 3, 4, 5, 6, 7, 8, 9, 10, 11, 12, 13, 14, 15, 16, 17] rfl)
                          · refine lv_aload_n hx hb dL_law_958 rfl (lv_at hl 1 rfl) ?_
                            refine lv_iload hx hb dL_law_959 (lv_at hl 17 rfl) ?_
                            refine MX.callV0 (C := RX1) (T := TX1) (N := 2) (As := [.int (nI u)]) (rest := []) (w0 := (tC cZ z9 n (wzF υ n)) ++ (sC cI cL sm q (hour υ) n k)) (w2 := []) (wB := fun ρ => (tC cZ z9 n (wzF υ n)) ++ ((sC cI cL sm q (hour υ) n k) ++ ((oC ob h h2) ++ ((mC cI cZ h a (hour υ)) ++ (mC cI cZ h2 a2 ρ))))) (c_X1_wetFor l D cI cZ cL ob h a h2 a2 (hour υ) ρ_10 hsj.hr u (by omega)) ⟨hx, hb, hml, hown, hts⟩ q287 b_X1_wetFor (n := 1) (by decide +kernel) ⟨(Nat.le_of_ble_eq_true rfl), (Nat.le_of_ble_eq_true rfl)⟩ hK hP hD hS hA hE (by simp only [List.append_assoc, List.append_nil, List.nil_append]) (fun _ => by simp only [List.append_assoc, List.append_nil, List.nil_append]) (ci := 1) rfl rfl rfl hl.1 rfl (Nat.le_of_ble_eq_true rfl) dL_law_961 ⟨by show (c0 + 640 + j + 1) + 0 ≤ 650901; omega, by show (s0 + 6400 + 10 * j + 10) + 0 ≤ 7148764; omega⟩ (fun ρ_11 H locs hP hD hS => ?_)
                            have hP : va_P D vwCl ((tC cZ z9 n (wzF υ n)) ++ ((sC cI cL sm q (hour υ) n k) ++ ((oC ob h h2) ++ ((mC cI cZ h a (hour υ)) ++ (mC cI cZ h2 a2 ρ_11))))) H := hP
                            have hD : va_D A ((tC cZ z9 n (wzF υ n)) ++ ((sC cI cL sm q (hour υ) n k) ++ ((oC ob h h2) ++ ((mC cI cZ h a (hour υ)) ++ (mC cI cZ h2 a2 ρ_11))))) := hD
                            refine W.wide (k := (c0 + 640 + j + 1)) (n := (s0 + 6400 + 10 * j + 10)) (by show (c0 + 640 + j + 1) + 0 ≤ (c0 + 640 + j + 1); omega) (by show (s0 + 6400 + 10 * j + 10) + 0 ≤ (s0 + 6400 + 10 * j + 10); omega) ?_
                            refine lv_bipush (v := 6) hx hb dL_law_964 (by decide) ?_
                            refine lv_icmp_eq (tgt := 971) hx hb dL_law_966 (by decide) (fun c_966 => ?_) (fun z => absurd (wet_six hJ (by omega) (wz_eq (by omega) c_946) c_955) z)
                            have hP : va_P D vwCl ((tC cZ z9 n (wzF υ n)) ++ ((sC cI cL sm q (hour υ) n k) ++ ((oC ob h h2) ++ ((mC cI cZ h a (hour υ)) ++ (mC cI cZ h2 a2 ρ_11))))) H := hP
                            have hD : va_D A ((tC cZ z9 n (wzF υ n)) ++ ((sC cI cL sm q (hour υ) n k) ++ ((oC ob h h2) ++ ((mC cI cZ h a (hour υ)) ++ (mC cI cZ h2 a2 ρ_11))))) := hD
                            exact T971 ρ_11 _ _ _ hP hD hS (lv_sub hl [0, 1, 2, 3, 4, 5, 6, 7, 8, 9, 10, 11, 12, 13, 14, 15, 16, 17] rfl)
                      · refine lv_aload_n hx hb dL_law_932 rfl (lv_at hl 1 rfl) ?_
                        refine lv_iload hx hb dL_law_933 (lv_at hl 17 rfl) ?_
                        refine MX.callV0 (C := RX1) (T := TX1) (N := 2) (As := [.int (nI u)]) (rest := []) (w0 := (tC cZ z9 n (wzF υ n)) ++ (sC cI cL sm q (hour υ) n k)) (w2 := []) (wB := fun ρ => (tC cZ z9 n (wzF υ n)) ++ ((sC cI cL sm q (hour υ) n k) ++ ((oC ob h h2) ++ ((mC cI cZ h a (hour υ)) ++ (mC cI cZ h2 a2 ρ))))) (c_X1_isRuined l D cI cZ cL ob h a h2 a2 (hour υ) ρ hsj.hr (Bnd.hr hsj hbj (by omega)) u (by omega)) ⟨hx, hb, hml, hown, hts⟩ q291 b_X1_isRuined (n := 1) (by decide +kernel) ⟨(Nat.le_of_ble_eq_true rfl), (Nat.le_of_ble_eq_true rfl)⟩ hK hP hD hS hA hE (by simp only [List.append_assoc, List.append_nil, List.nil_append]) (fun _ => by simp only [List.append_assoc, List.append_nil, List.nil_append]) (ci := 1) rfl rfl rfl hl.1 rfl (Nat.le_of_ble_eq_true rfl) dL_law_935 ⟨by show (c0 + 640 + j + 1) + 0 ≤ 650901; omega, by show (s0 + 6400 + 10 * j + 10) + 0 ≤ 7148764; omega⟩ (fun ρ_12 H locs hP hD hS => ?_)
                        have hP : va_P D vwCl ((tC cZ z9 n (wzF υ n)) ++ ((sC cI cL sm q (hour υ) n k) ++ ((oC ob h h2) ++ ((mC cI cZ h a (hour υ)) ++ (mC cI cZ h2 a2 ρ_12))))) H := hP
                        have hD : va_D A ((tC cZ z9 n (wzF υ n)) ++ ((sC cI cL sm q (hour υ) n k) ++ ((oC ob h h2) ++ ((mC cI cZ h a (hour υ)) ++ (mC cI cZ h2 a2 ρ_12))))) := hD
                        refine W.wide (k := (c0 + 640 + j + 1)) (n := (s0 + 6400 + 10 * j + 10)) (by show (c0 + 640 + j + 1) + 0 ≤ (c0 + 640 + j + 1); omega) (by show (s0 + 6400 + 10 * j + 10) + 0 ≤ (s0 + 6400 + 10 * j + 10); omega) ?_
                        refine lv_if_eq (tgt := 969) hx hb dL_law_938 (by decide) (fun z => absurd z (ru_mono hJ (by omega) (wz_ne (by omega) c_929))) (fun c_938 => ?_)
                        refine lv_aload hx hb dL_law_941 (lv_at hl 15 rfl) ?_
                        refine lv_iload hx hb dL_law_943 (lv_at hl 17 rfl) ?_
                        refine x_zld hx hb hK hP 0 1 rfl rfl u (rfl) (by omega) (by omega) (v := (wzF υ n) u) rfl dL_law_945 ?_
                        refine lv_if_ne (tgt := 971) hx hb dL_law_946 (by decide) (fun c_946 => ?_) (fun c_946 => ?_)
                        · have hP : va_P D vwCl ((tC cZ z9 n (wzF υ n)) ++ ((sC cI cL sm q (hour υ) n k) ++ ((oC ob h h2) ++ ((mC cI cZ h a (hour υ)) ++ (mC cI cZ h2 a2 ρ_12))))) H := hP
                          have hD : va_D A ((tC cZ z9 n (wzF υ n)) ++ ((sC cI cL sm q (hour υ) n k) ++ ((oC ob h h2) ++ ((mC cI cZ h a (hour υ)) ++ (mC cI cZ h2 a2 ρ_12))))) := hD
                          exact T971 ρ_12 _ _ _ hP hD hS (lv_sub hl [0, 1, 2, 3, 4, 5, 6, 7, 8, 9, 10, 11, 12, 13, 14, 15, 16, 17] rfl)
                        · refine lv_aload_n hx hb dL_law_949 rfl (lv_at hl 1 rfl) ?_
                          refine lv_iload hx hb dL_law_950 (lv_at hl 17 rfl) ?_
                          refine MX.callV0 (C := RX1) (T := TX1) (N := 2) (As := [.int (nI u)]) (rest := []) (w0 := (tC cZ z9 n (wzF υ n)) ++ (sC cI cL sm q (hour υ) n k)) (w2 := []) (wB := fun ρ => (tC cZ z9 n (wzF υ n)) ++ ((sC cI cL sm q (hour υ) n k) ++ ((oC ob h h2) ++ ((mC cI cZ h a (hour υ)) ++ (mC cI cZ h2 a2 ρ))))) (c_X1_isRuined l D cI cZ cL ob h a h2 a2 (hour υ) ρ_12 hsj.hr (Bnd.hr hsj hbj (by omega)) u (by omega)) ⟨hx, hb, hml, hown, hts⟩ q291 b_X1_isRuined (n := 1) (by decide +kernel) ⟨(Nat.le_of_ble_eq_true rfl), (Nat.le_of_ble_eq_true rfl)⟩ hK hP hD hS hA hE (by simp only [List.append_assoc, List.append_nil, List.nil_append]) (fun _ => by simp only [List.append_assoc, List.append_nil, List.nil_append]) (ci := 1) rfl rfl rfl hl.1 rfl (Nat.le_of_ble_eq_true rfl) dL_law_952 ⟨by show (c0 + 640 + j + 1) + 0 ≤ 650901; omega, by show (s0 + 6400 + 10 * j + 10) + 0 ≤ 7148764; omega⟩ (fun ρ_13 H locs hP hD hS => ?_)
                          have hP : va_P D vwCl ((tC cZ z9 n (wzF υ n)) ++ ((sC cI cL sm q (hour υ) n k) ++ ((oC ob h h2) ++ ((mC cI cZ h a (hour υ)) ++ (mC cI cZ h2 a2 ρ_13))))) H := hP
                          have hD : va_D A ((tC cZ z9 n (wzF υ n)) ++ ((sC cI cL sm q (hour υ) n k) ++ ((oC ob h h2) ++ ((mC cI cZ h a (hour υ)) ++ (mC cI cZ h2 a2 ρ_13))))) := hD
                          refine W.wide (k := (c0 + 640 + j + 1)) (n := (s0 + 6400 + 10 * j + 10)) (by show (c0 + 640 + j + 1) + 0 ≤ (c0 + 640 + j + 1); omega) (by show (s0 + 6400 + 10 * j + 10) + 0 ≤ (s0 + 6400 + 10 * j + 10); omega) ?_
                          refine lv_if_eq (tgt := 971) hx hb dL_law_955 (by decide) (fun c_955 => ?_) (fun c_955 => ?_)
                          · have hP : va_P D vwCl ((tC cZ z9 n (wzF υ n)) ++ ((sC cI cL sm q (hour υ) n k) ++ ((oC ob h h2) ++ ((mC cI cZ h a (hour υ)) ++ (mC cI cZ h2 a2 ρ_13))))) H := hP
                            have hD : va_D A ((tC cZ z9 n (wzF υ n)) ++ ((sC cI cL sm q (hour υ) n k) ++ ((oC ob h h2) ++ ((mC cI cZ h a (hour υ)) ++ (mC cI cZ h2 a2 ρ_13))))) := hD
                            exact T971 ρ_13 _ _ _ hP hD hS (lv_sub hl [0, 1, 2, 3, 4, 5, 6, 7, 8, 9, 10, 11, 12, 13, 14, 15, 16, 17] rfl)
                          · refine lv_aload_n hx hb dL_law_958 rfl (lv_at hl 1 rfl) ?_
                            refine lv_iload hx hb dL_law_959 (lv_at hl 17 rfl) ?_
                            refine MX.callV0 (C := RX1) (T := TX1) (N := 2) (As := [.int (nI u)]) (rest := []) (w0 := (tC cZ z9 n (wzF υ n)) ++ (sC cI cL sm q (hour υ) n k)) (w2 := []) (wB := fun ρ => (tC cZ z9 n (wzF υ n)) ++ ((sC cI cL sm q (hour υ) n k) ++ ((oC ob h h2) ++ ((mC cI cZ h a (hour υ)) ++ (mC cI cZ h2 a2 ρ))))) (c_X1_wetFor l D cI cZ cL ob h a h2 a2 (hour υ) ρ_13 hsj.hr u (by omega)) ⟨hx, hb, hml, hown, hts⟩ q287 b_X1_wetFor (n := 1) (by decide +kernel) ⟨(Nat.le_of_ble_eq_true rfl), (Nat.le_of_ble_eq_true rfl)⟩ hK hP hD hS hA hE (by simp only [List.append_assoc, List.append_nil, List.nil_append]) (fun _ => by simp only [List.append_assoc, List.append_nil, List.nil_append]) (ci := 1) rfl rfl rfl hl.1 rfl (Nat.le_of_ble_eq_true rfl) dL_law_961 ⟨by show (c0 + 640 + j + 1) + 0 ≤ 650901; omega, by show (s0 + 6400 + 10 * j + 10) + 0 ≤ 7148764; omega⟩ (fun ρ_14 H locs hP hD hS => ?_)
                            have hP : va_P D vwCl ((tC cZ z9 n (wzF υ n)) ++ ((sC cI cL sm q (hour υ) n k) ++ ((oC ob h h2) ++ ((mC cI cZ h a (hour υ)) ++ (mC cI cZ h2 a2 ρ_14))))) H := hP
                            have hD : va_D A ((tC cZ z9 n (wzF υ n)) ++ ((sC cI cL sm q (hour υ) n k) ++ ((oC ob h h2) ++ ((mC cI cZ h a (hour υ)) ++ (mC cI cZ h2 a2 ρ_14))))) := hD
                            refine W.wide (k := (c0 + 640 + j + 1)) (n := (s0 + 6400 + 10 * j + 10)) (by show (c0 + 640 + j + 1) + 0 ≤ (c0 + 640 + j + 1); omega) (by show (s0 + 6400 + 10 * j + 10) + 0 ≤ (s0 + 6400 + 10 * j + 10); omega) ?_
                            refine lv_bipush (v := 6) hx hb dL_law_964 (by decide) ?_
                            refine lv_icmp_eq (tgt := 971) hx hb dL_law_966 (by decide) (fun c_966 => ?_) (fun z => absurd (wet_six hJ (by omega) (wz_eq (by omega) c_946) c_955) z)
                            have hP : va_P D vwCl ((tC cZ z9 n (wzF υ n)) ++ ((sC cI cL sm q (hour υ) n k) ++ ((oC ob h h2) ++ ((mC cI cZ h a (hour υ)) ++ (mC cI cZ h2 a2 ρ_14))))) H := hP
                            have hD : va_D A ((tC cZ z9 n (wzF υ n)) ++ ((sC cI cL sm q (hour υ) n k) ++ ((oC ob h h2) ++ ((mC cI cZ h a (hour υ)) ++ (mC cI cZ h2 a2 ρ_14))))) := hD
                            exact T971 ρ_14 _ _ _ hP hD hS (lv_sub hl [0, 1, 2, 3, 4, 5, 6, 7, 8, 9, 10, 11, 12, 13, 14, 15, 16, 17] rfl)
                    refine lv_iload hx hb dL_law_897 (lv_at hl 16 rfl) ?_
                    refine lv_aload_n hx hb dL_law_899 rfl (lv_at hl 1 rfl) ?_
                    refine lv_iload hx hb dL_law_900 (lv_at hl 17 rfl) ?_
                    refine MX.callV0 (C := RX1) (T := TX1) (N := 2) (As := [.int (nI u)]) (rest := [.int ((ruinN (hour υ) - ruinN υ) - sumI (nwB υ) u)]) (w0 := (tC cZ z9 n (wzF υ n)) ++ (sC cI cL sm q (hour υ) n k)) (w2 := []) (wB := fun ρ => (tC cZ z9 n (wzF υ n)) ++ ((sC cI cL sm q (hour υ) n k) ++ ((oC ob h h2) ++ ((mC cI cZ h a (hour υ)) ++ (mC cI cZ h2 a2 ρ))))) (c_X1_isRuined l D cI cZ cL ob h a h2 a2 (hour υ) ρ hsj.hr (Bnd.hr hsj hbj (by omega)) u (by omega)) ⟨hx, hb, hml, hown, hts⟩ q291 b_X1_isRuined (n := 1) (by decide +kernel) ⟨(Nat.le_of_ble_eq_true rfl), (Nat.le_of_ble_eq_true rfl)⟩ hK hP hD hS hA hE (by simp only [List.append_assoc, List.append_nil, List.nil_append]) (fun _ => by simp only [List.append_assoc, List.append_nil, List.nil_append]) (ci := 1) rfl rfl rfl hl.1 rfl (Nat.le_of_ble_eq_true rfl) dL_law_902 ⟨by show (c0 + 640 + j + 1) + 0 ≤ 650901; omega, by show (s0 + 6400 + 10 * j + 10) + 0 ≤ 7148764; omega⟩ (fun ρ_15 H locs hP hD hS => ?_)
                    have hP : va_P D vwCl ((tC cZ z9 n (wzF υ n)) ++ ((sC cI cL sm q (hour υ) n k) ++ ((oC ob h h2) ++ ((mC cI cZ h a (hour υ)) ++ (mC cI cZ h2 a2 ρ_15))))) H := hP
                    have hD : va_D A ((tC cZ z9 n (wzF υ n)) ++ ((sC cI cL sm q (hour υ) n k) ++ ((oC ob h h2) ++ ((mC cI cZ h a (hour υ)) ++ (mC cI cZ h2 a2 ρ_15))))) := hD
                    refine W.wide (k := (c0 + 640 + j + 1)) (n := (s0 + 6400 + 10 * j + 10)) (by show (c0 + 640 + j + 1) + 0 ≤ (c0 + 640 + j + 1); omega) (by show (s0 + 6400 + 10 * j + 10) + 0 ≤ (s0 + 6400 + 10 * j + 10); omega) ?_
                    refine lv_if_eq (tgt := 920) hx hb dL_law_905 (by decide) (fun c_905 => ?_) (fun c_905 => ?_)
                    · refine lv_iconst (v := 0) hx hb dL_law_920 (by decide) ?_
                      refine lv_isub hx hb dL_law_921 ?_
                      refine lv_topi (fun v_16 ev_16 => ?_)
                      refine lv_istore (lv' := [(28, .int v_16), (0, .ref b), (1, .ref ob), (2, .ref sm), (3, .int (nI t)), (4, .int xv), (5, .long (digS σ)), (7, .int (nI n)), (8, .int (lost σ)), (20, .int (nI hh)), (21, .int (nI fj)), (22, .int (untilS σ fj)), (23, .int (hours hh σ 2 fj)), (24, .int (lossH hh σ)), (25, .int (nI (j + 1))), (26, .int ((waterS υ + υ 11 3) + nI n * υ 11 2)), (27, .ref z9), (29, .int (nI u))]) hx hb dL_law_922 hl (by decide) rfl (fun ls hl => ?_)
                      have e7 : v_16 = (ruinN (hour υ) - ruinN υ) - sumI (nwB υ) (u + 1) := by
                        rw [ev_16]
                        exact sub_step (sum_1 (g := (nwB υ)) (nwB_a c_905)).symm
                      rw [e7] at hl
                      have hP : va_P D vwCl ((tC cZ z9 n (wzF υ n)) ++ ((sC cI cL sm q (hour υ) n k) ++ ((oC ob h h2) ++ ((mC cI cZ h a (hour υ)) ++ (mC cI cZ h2 a2 ρ_15))))) H := hP
                      have hD : va_D A ((tC cZ z9 n (wzF υ n)) ++ ((sC cI cL sm q (hour υ) n k) ++ ((oC ob h h2) ++ ((mC cI cZ h a (hour υ)) ++ (mC cI cZ h2 a2 ρ_15))))) := hD
                      exact T924 ρ_15 _ _ _ hP hD hS (lv_sub hl [1, 2, 3, 4, 5, 6, 7, 8, 9, 10, 11, 12, 13, 14, 15, 16, 0, 17] rfl)
                    · refine lv_aload hx hb dL_law_908 (lv_at hl 15 rfl) ?_
                      refine lv_iload hx hb dL_law_910 (lv_at hl 17 rfl) ?_
                      refine x_zld hx hb hK hP 0 1 rfl rfl u (rfl) (by omega) (by omega) (v := (wzF υ n) u) rfl dL_law_912 ?_
                      refine lv_if_ne (tgt := 920) hx hb dL_law_913 (by decide) (fun c_913 => ?_) (fun c_913 => ?_)
                      · refine lv_iconst (v := 0) hx hb dL_law_920 (by decide) ?_
                        refine lv_isub hx hb dL_law_921 ?_
                        refine lv_topi (fun v_17 ev_17 => ?_)
                        refine lv_istore (lv' := [(28, .int v_17), (0, .ref b), (1, .ref ob), (2, .ref sm), (3, .int (nI t)), (4, .int xv), (5, .long (digS σ)), (7, .int (nI n)), (8, .int (lost σ)), (20, .int (nI hh)), (21, .int (nI fj)), (22, .int (untilS σ fj)), (23, .int (hours hh σ 2 fj)), (24, .int (lossH hh σ)), (25, .int (nI (j + 1))), (26, .int ((waterS υ + υ 11 3) + nI n * υ 11 2)), (27, .ref z9), (29, .int (nI u))]) hx hb dL_law_922 hl (by decide) rfl (fun ls hl => ?_)
                        have e7 : v_17 = (ruinN (hour υ) - ruinN υ) - sumI (nwB υ) (u + 1) := by
                          rw [ev_17]
                          exact sub_step (sum_1 (g := (nwB υ)) (nwB_b (wz_ne (by omega) c_913))).symm
                        rw [e7] at hl
                        have hP : va_P D vwCl ((tC cZ z9 n (wzF υ n)) ++ ((sC cI cL sm q (hour υ) n k) ++ ((oC ob h h2) ++ ((mC cI cZ h a (hour υ)) ++ (mC cI cZ h2 a2 ρ_15))))) H := hP
                        have hD : va_D A ((tC cZ z9 n (wzF υ n)) ++ ((sC cI cL sm q (hour υ) n k) ++ ((oC ob h h2) ++ ((mC cI cZ h a (hour υ)) ++ (mC cI cZ h2 a2 ρ_15))))) := hD
                        exact T924 ρ_15 _ _ _ hP hD hS (lv_sub hl [1, 2, 3, 4, 5, 6, 7, 8, 9, 10, 11, 12, 13, 14, 15, 16, 0, 17] rfl)
                      · refine lv_iconst (v := 1) hx hb dL_law_916 (by decide) ?_
                        refine lv_goto (tgt := 921) hx hb dL_law_917 (by decide) ?_
                        refine lv_isub hx hb dL_law_921 ?_
                        refine lv_topi (fun v_18 ev_18 => ?_)
                        refine lv_istore (lv' := [(28, .int v_18), (0, .ref b), (1, .ref ob), (2, .ref sm), (3, .int (nI t)), (4, .int xv), (5, .long (digS σ)), (7, .int (nI n)), (8, .int (lost σ)), (20, .int (nI hh)), (21, .int (nI fj)), (22, .int (untilS σ fj)), (23, .int (hours hh σ 2 fj)), (24, .int (lossH hh σ)), (25, .int (nI (j + 1))), (26, .int ((waterS υ + υ 11 3) + nI n * υ 11 2)), (27, .ref z9), (29, .int (nI u))]) hx hb dL_law_922 hl (by decide) rfl (fun ls hl => ?_)
                        have e7 : v_18 = (ruinN (hour υ) - ruinN υ) - sumI (nwB υ) (u + 1) := by
                          rw [ev_18]
                          exact sub_step (sum_1 (g := (nwB υ)) (nwB_1 c_905 (wz_eq (by omega) c_913))).symm
                        rw [e7] at hl
                        have hP : va_P D vwCl ((tC cZ z9 n (wzF υ n)) ++ ((sC cI cL sm q (hour υ) n k) ++ ((oC ob h h2) ++ ((mC cI cZ h a (hour υ)) ++ (mC cI cZ h2 a2 ρ_15))))) H := hP
                        have hD : va_D A ((tC cZ z9 n (wzF υ n)) ++ ((sC cI cL sm q (hour υ) n k) ++ ((oC ob h h2) ++ ((mC cI cZ h a (hour υ)) ++ (mC cI cZ h2 a2 ρ_15))))) := hD
                        exact T924 ρ_15 _ _ _ hP hD hS (lv_sub hl [1, 2, 3, 4, 5, 6, 7, 8, 9, 10, 11, 12, 13, 14, 15, 16, 0, 17] rfl)
              exact L890 (n + 1) 0 ρ_8 (by omega) (by omega) _ _ _ hP hD hS (lv_sub hl [0, 1, 2, 3, 4, 5, 6, 7, 8, 9, 10, 11, 12, 13, 14, 15, 16, 17] rfl)
            · have hc_835 : i < n := Nat.not_le.mp (fun z => c_835 ((nI_leI (a := n) (b := i) (by omega) (by omega)).mpr z))
              refine lv_aload hx hb dL_law_838 (lv_at hl 15 rfl) ?_
              refine lv_iload hx hb dL_law_840 (lv_at hl 16 rfl) ?_
              refine lv_aload_n hx hb dL_law_842 rfl (lv_at hl 1 rfl) ?_
              refine lv_iload hx hb dL_law_843 (lv_at hl 16 rfl) ?_
              refine MX.callV0 (C := RX1) (T := TX1) (N := 2) (As := [.int (nI i)]) (rest := [.int (nI i), .ref z9]) (w0 := (tC cZ z9 n (wzF υ i)) ++ (sC cI cL sm q υ n k)) (w2 := []) (wB := fun ρ => (tC cZ z9 n (wzF υ i)) ++ ((sC cI cL sm q υ n k) ++ ((oC ob h h2) ++ ((mC cI cZ h a υ) ++ (mC cI cZ h2 a2 ρ))))) (c_X1_isRuined l D cI cZ cL ob h a h2 a2 υ ρ hsj hbj i (by omega)) ⟨hx, hb, hml, hown, hts⟩ q291 b_X1_isRuined (n := 1) (by decide +kernel) ⟨(Nat.le_of_ble_eq_true rfl), (Nat.le_of_ble_eq_true rfl)⟩ hK hP hD hS hA hE (by simp only [List.append_assoc, List.append_nil, List.nil_append]) (fun _ => by simp only [List.append_assoc, List.append_nil, List.nil_append]) (ci := 1) rfl rfl rfl hl.1 rfl (Nat.le_of_ble_eq_true rfl) dL_law_845 ⟨by show (c0 + 640 + j + 1) + 0 ≤ 650901; omega, by show (s0 + 6400 + 10 * j + 10) + 0 ≤ 7148764; omega⟩ (fun ρ_19 H locs hP hD hS => ?_)
              have hP : va_P D vwCl ((tC cZ z9 n (wzF υ i)) ++ ((sC cI cL sm q υ n k) ++ ((oC ob h h2) ++ ((mC cI cZ h a υ) ++ (mC cI cZ h2 a2 ρ_19))))) H := hP
              have hD : va_D A ((tC cZ z9 n (wzF υ i)) ++ ((sC cI cL sm q υ n k) ++ ((oC ob h h2) ++ ((mC cI cZ h a υ) ++ (mC cI cZ h2 a2 ρ_19))))) := hD
              refine W.wide (k := (c0 + 640 + j + 1)) (n := (s0 + 6400 + 10 * j + 10)) (by show (c0 + 640 + j + 1) + 0 ≤ (c0 + 640 + j + 1); omega) (by show (s0 + 6400 + 10 * j + 10) + 0 ≤ (s0 + 6400 + 10 * j + 10); omega) ?_
              refine x_zst (ws2 := (tC cZ z9 n (upd (wzF υ i) i (υ 4 i))) ++ ((sC cI cL sm q υ n k) ++ ((oC ob h h2) ++ ((mC cI cZ h a υ) ++ (mC cI cZ h2 a2 ρ_19))))) hx hb hK hP hD hS 0 1 rfl rfl i (rfl) (by omega) (by omega) (hbj.2.2.2.2.1 i (by omega)) rfl dL_law_848 (fun H locs hP hD hS => ?_)
              refine lv_iinc (v := (nI (i + 1))) (lv' := [(28, .int (nI (i + 1))), (0, .ref b), (1, .ref ob), (2, .ref sm), (3, .int (nI t)), (4, .int xv), (5, .long (digS σ)), (7, .int (nI n)), (8, .int (lost σ)), (20, .int (nI hh)), (21, .int (nI fj)), (22, .int (untilS σ fj)), (23, .int (hours hh σ 2 fj)), (24, .int (lossH hh σ)), (25, .int (nI (j + 1))), (26, .int ((waterS υ + υ 11 3) + nI n * υ 11 2)), (27, .ref z9)]) hx hb dL_law_849 hl (k := 16) rfl (nI_add i 1) (by decide) rfl (fun ls hl => ?_)
              refine lv_goto (tgt := 831) hx hb dL_law_852 (by decide) ?_
              rw [wz_s] at hP hD
              exact ih_831 (i + 1) ρ_19 (by omega) (by omega) _ _ _ hP hD hS (lv_sub hl [1, 2, 3, 4, 5, 6, 7, 8, 9, 10, 11, 12, 13, 14, 15, 16, 0] rfl)
        exact L831 (n + 1) 0 ρ_5 (by omega) (by omega) _ _ _ hP hD hS (lv_sub hl [0, 1, 2, 3, 4, 5, 6, 7, 8, 9, 10, 11, 12, 13, 14, 15, 16] rfl)
  exact L796 (hh + 1) 0 τ (by omega) (by omega) _ _ _ hP hD hS (lv_sub hl [0, 1, 2, 3, 4, 5, 6, 7, 8, 9, 10, 11, 12, 13] rfl)
