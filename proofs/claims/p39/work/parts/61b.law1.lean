set_option maxHeartbeats 16000000 in
set_option maxRecDepth 100000 in
theorem law_B (l : Launch) {p : Program} {e : Env} {s : State} {m : MethodId} {args : Array Value} {below : List Frame} {meth : Method} {c : Code} {Q : State → Prop} (D : va_G) (cI cZ cL : ClassId) {A : Nat → Prop} {b L : Nat} {xs : Nat → Int32} (sm ob h : Nat) (a : Nat → Nat) (h2 : Nat) (a2 : Nat → Nat) (hx : p.tables.exec = Jvm.exec) (hb : c.code = cL_law) (hml : c.maxLocals = 30) (hown : s.vm.findClass RL = some m.cls) (hts : ∀ w ∈ LW, w.before args s = true) (hE9 : EY (some (b, L, xs)) A s s.heap) (hK : va_K D vwCl (tZ cI cZ cL) s) (hA : ∀ q : Nat, s.heap.size ≤ q → A q) (hL : L ≤ 260) {t : Nat} (ht : t < 5) {c0 s0 : Nat} (hc0 : c0 + 700 ≤ 650901) (hs0 : s0 + 7000 ≤ 7148764) {n k B : Nat} (q : SA) (σ : Sg) (hI : Iv n k B σ) (hn2 : 2 ≤ n) (hB9 : B + 100000 < 2 ^ 28) (xv : Int32) (NX : (∀ (ρ : Sg) (H : Heap) (locs : List Loc) (ls : Array Slot), va_P D vwCl ((sC cI cL sm q σ n k) ++ ((oC ob h h2) ++ ((mC cI cZ h a σ) ++ (mC cI cZ h2 a2 ρ)))) H → va_D A ((sC cI cL sm q σ n k) ++ ((oC ob h h2) ++ ((mC cI cZ h a σ) ++ (mC cI cZ h2 a2 ρ)))) → va_S A s.heap H locs → lv_has ls 30 [(0, .ref b), (1, .ref ob), (2, .ref sm), (3, .int (nI t)), (4, .int xv), (5, .long (digS σ)), (7, .int (nI n)), (8, .int (lost σ))] → W p l e room_1 s m args below meth c H locs (c0 + 10) (s0 + 100) Q (F0 m 272 ls []))) (τ : Sg) {H : Heap} {locs : List Loc} {ls : Array Slot} (hP : va_P D vwCl ((sC cI cL sm q σ n k) ++ ((oC ob h h2) ++ ((mC cI cZ h a σ) ++ (mC cI cZ h2 a2 τ)))) H) (hD : va_D A ((sC cI cL sm q σ n k) ++ ((oC ob h h2) ++ ((mC cI cZ h a σ) ++ (mC cI cZ h2 a2 τ))))) (hS : va_S A s.heap H locs) (hl : lv_has ls 30 [(0, .ref b), (1, .ref ob), (2, .ref sm), (3, .int (nI t)), (4, .int xv)]) : W p l e room_1 s m args below meth c H locs (c0 + 10) (s0 + 100) Q (F0 m 81 ls []) := by
  have hst : Shp n k σ := hI.1
  have hB : Bnd B σ := hI.2.1
  have hn10 := hst.1
  have hk16 := hst.2.1
  have hE : EX A s s.heap := hE9.1
  obtain ⟨jm, hjm, em⟩ : ∃ j, j < n ∧ amax (fun q => σ 0 q + σ 2 q) (nF σ) = nI j := by
    rcases amax_or (fun q => σ 0 q + σ 2 q) (nF σ) with z | ⟨j, hj, ej⟩
    · have z2 := z.2; rw [hst.eF] at z2; omega
    · rw [hst.eF] at hj; exact ⟨j, hj, ej⟩
  refine lv_aload_n hx hb dL_law_81 rfl (lv_at hl 1 rfl) ?_
  refine MX.callV0 (C := RX1) (T := TX1) (N := 2) (As := []) (rest := []) (w0 := sC cI cL sm q σ n k) (w2 := []) (wB := fun ρ => (sC cI cL sm q σ n k) ++ ((oC ob h h2) ++ ((mC cI cZ h a σ) ++ (mC cI cZ h2 a2 ρ)))) (c_X1_digest l D cI cZ cL ob h a h2 a2 σ τ hst hB) ⟨hx, hb, hml, hown, hts⟩ q371 b_X1_digest (n := 0) (by decide +kernel) ⟨(Nat.le_of_ble_eq_true rfl), (Nat.le_of_ble_eq_true rfl)⟩ hK hP hD hS hA hE (by rw [List.append_nil]) (fun _ => by rw [List.append_nil]) (ci := 1) rfl rfl rfl hl.1 rfl (Nat.le_of_ble_eq_true rfl) dL_law_82 ⟨by show (c0 + 10) + 0 ≤ 650901; omega, by show (s0 + 100) + 0 ≤ 7148764; omega⟩ (fun ρ_1 H locs hP hD hS => ?_)
  have hP : va_P D vwCl ((sC cI cL sm q σ n k) ++ ((oC ob h h2) ++ ((mC cI cZ h a σ) ++ (mC cI cZ h2 a2 ρ_1)))) H := hP
  have hD : va_D A ((sC cI cL sm q σ n k) ++ ((oC ob h h2) ++ ((mC cI cZ h a σ) ++ (mC cI cZ h2 a2 ρ_1)))) := hD
  refine W.wide (k := (c0 + 10)) (n := (s0 + 100)) (by show (c0 + 10) + 0 ≤ (c0 + 10); omega) (by show (s0 + 100) + 0 ≤ (s0 + 100); omega) ?_
  refine lv_lstore (lv' := [(5, .long (digS σ)), (0, .ref b), (1, .ref ob), (2, .ref sm), (3, .int (nI t)), (4, .int xv)]) hx hb dL_law_85 hl (by decide) rfl (fun ls hl => ?_)
  refine lv_aload_n hx hb dL_law_87 rfl (lv_at hl 2 rfl) ?_
  refine MX.callV0 (C := RX1) (T := TX1) (N := 2) (As := []) (rest := []) (w0 := sC cI cL sm q σ n k) (w2 := []) (wB := fun ρ => (sC cI cL sm q σ n k) ++ ((oC ob h h2) ++ ((mC cI cZ h a σ) ++ (mC cI cZ h2 a2 ρ)))) (c_X1_fields l D cI cZ cL ob h a h2 a2 σ ρ_1 ) ⟨hx, hb, hml, hown, hts⟩ q226 b_X1_fields (n := 0) (by decide +kernel) ⟨(Nat.le_of_ble_eq_true rfl), (Nat.le_of_ble_eq_true rfl)⟩ hK hP hD hS hA hE (by rw [List.append_nil]) (fun _ => by rw [List.append_nil]) (ci := 1) rfl rfl rfl hl.1 rfl (Nat.le_of_ble_eq_true rfl) dL_law_88 ⟨by show (c0 + 10) + 0 ≤ 650901; omega, by show (s0 + 100) + 0 ≤ 7148764; omega⟩ (fun ρ_2 H locs hP hD hS => ?_)
  have hP : va_P D vwCl ((sC cI cL sm q σ n k) ++ ((oC ob h h2) ++ ((mC cI cZ h a σ) ++ (mC cI cZ h2 a2 ρ_2)))) H := hP
  have hD : va_D A ((sC cI cL sm q σ n k) ++ ((oC ob h h2) ++ ((mC cI cZ h a σ) ++ (mC cI cZ h2 a2 ρ_2)))) := hD
  refine W.wide (k := (c0 + 10)) (n := (s0 + 100)) (by show (c0 + 10) + 0 ≤ (c0 + 10); omega) (by show (s0 + 100) + 0 ≤ (s0 + 100); omega) ?_
  refine x_top (hst.f0) ?_
  refine lv_istore (lv' := [(7, .int (nI n)), (5, .long (digS σ)), (0, .ref b), (1, .ref ob), (2, .ref sm), (3, .int (nI t)), (4, .int xv)]) hx hb dL_law_91 hl (by decide) rfl (fun ls hl => ?_)
  refine lv_iconst (v := 0) hx hb dL_law_93 (by decide) ?_
  refine lv_istore (lv' := [(8, .int 0), (7, .int (nI n)), (5, .long (digS σ)), (0, .ref b), (1, .ref ob), (2, .ref sm), (3, .int (nI t)), (4, .int xv)]) hx hb dL_law_94 hl (by decide) rfl (fun ls hl => ?_)
  refine lv_iconst (v := 0) hx hb dL_law_96 (by decide) ?_
  refine lv_istore (lv' := [(9, .int 0), (8, .int 0), (7, .int (nI n)), (5, .long (digS σ)), (0, .ref b), (1, .ref ob), (2, .ref sm), (3, .int (nI t)), (4, .int xv)]) hx hb dL_law_97 hl (by decide) rfl (fun ls hl => ?_)
  have hl := lv_sub hl [4, 5, 6, 7, 8, 3, 2, 1, 0] rfl
  have hl : lv_has ls 30 [(0, .ref b), (1, .ref ob), (2, .ref sm), (3, .int (nI t)), (4, .int xv), (5, .long (digS σ)), (7, .int (nI n)), (8, .int (sumI (lsB σ) 0)), (9, .int (nI 0))] := hl
  have L99 : ∀ (f i : Nat) (ρ : Sg), i ≤ n → n < i + f → ∀ (H : Heap) (locs : List Loc) (ls : Array Slot), va_P D vwCl ((sC cI cL sm q σ n k) ++ ((oC ob h h2) ++ ((mC cI cZ h a σ) ++ (mC cI cZ h2 a2 ρ)))) H → va_D A ((sC cI cL sm q σ n k) ++ ((oC ob h h2) ++ ((mC cI cZ h a σ) ++ (mC cI cZ h2 a2 ρ)))) → va_S A s.heap H locs → lv_has ls 30 [(0, .ref b), (1, .ref ob), (2, .ref sm), (3, .int (nI t)), (4, .int xv), (5, .long (digS σ)), (7, .int (nI n)), (8, .int (sumI (lsB σ) i)), (9, .int (nI i))] → W p l e room_1 s m args below meth c H locs (c0 + 10) (s0 + 100) Q (F0 m 99 ls []) := by
    intro f
    induction f with
    | zero => intro i ρ h1 h2; exact absurd h2 (by omega)
    | succ f ih_99 =>
      intro i ρ hi_99 hf_99 H locs ls hP hD hS hl
      refine lv_iload hx hb dL_law_99 (lv_at hl 8 rfl) ?_
      refine lv_iload hx hb dL_law_101 (lv_at hl 6 rfl) ?_
      refine lv_icmp_ge (tgt := 272) hx hb dL_law_103 (by decide) (fun c_103 => ?_) (fun c_103 => ?_)
      · have hc_103 : n ≤ i := (nI_leI (a := n) (b := i) (by omega) (by omega)).mp c_103
        have hin : i = n := by omega
        have e5 : sumI (lsB σ) i = lost σ := by unfold lost; rw [hst.eF, hin]; rfl
        rw [e5] at hl
        have hP : va_P D vwCl ((sC cI cL sm q σ n k) ++ ((oC ob h h2) ++ ((mC cI cZ h a σ) ++ (mC cI cZ h2 a2 ρ)))) H := hP
        have hD : va_D A ((sC cI cL sm q σ n k) ++ ((oC ob h h2) ++ ((mC cI cZ h a σ) ++ (mC cI cZ h2 a2 ρ)))) := hD
        exact NX ρ _ _ _ hP hD hS (lv_sub hl [0, 1, 2, 3, 4, 5, 6, 7] rfl)
      · have hc_103 : i < n := Nat.not_le.mp (fun z => c_103 ((nI_leI (a := n) (b := i) (by omega) (by omega)).mpr z))
        have T266 : (∀ (ρ : Sg) (H : Heap) (locs : List Loc) (ls : Array Slot), va_P D vwCl ((sC cI cL sm q σ n k) ++ ((oC ob h h2) ++ ((mC cI cZ h a σ) ++ (mC cI cZ h2 a2 ρ)))) H → va_D A ((sC cI cL sm q σ n k) ++ ((oC ob h h2) ++ ((mC cI cZ h a σ) ++ (mC cI cZ h2 a2 ρ)))) → va_S A s.heap H locs → lv_has ls 30 [(0, .ref b), (1, .ref ob), (2, .ref sm), (3, .int (nI t)), (4, .int xv), (5, .long (digS σ)), (7, .int (nI n)), (8, .int (sumI (lsB σ) (i + 1))), (9, .int (nI i))] → W p l e room_1 s m args below meth c H locs (c0 + 10) (s0 + 100) Q (F0 m 266 ls [])) := by
          intro ρ H locs ls hP hD hS hl
          refine lv_iinc (v := (nI (i + 1))) (lv' := [(9, .int (nI (i + 1))), (0, .ref b), (1, .ref ob), (2, .ref sm), (3, .int (nI t)), (4, .int xv), (5, .long (digS σ)), (7, .int (nI n)), (8, .int (sumI (lsB σ) (i + 1)))]) hx hb dL_law_266 hl (k := 8) rfl (nI_add i 1) (by decide) rfl (fun ls hl => ?_)
          refine lv_goto (tgt := 99) hx hb dL_law_269 (by decide) ?_
          exact ih_99 (i + 1) ρ (by omega) (by omega) _ _ _ hP hD hS (lv_sub hl [1, 2, 3, 4, 5, 6, 7, 8, 0] rfl)
        have T226 : (∀ (ρ : Sg) (H : Heap) (locs : List Loc) (ls : Array Slot), va_P D vwCl ((sC cI cL sm q σ n k) ++ ((oC ob h h2) ++ ((mC cI cZ h a σ) ++ (mC cI cZ h2 a2 ρ)))) H → va_D A ((sC cI cL sm q σ n k) ++ ((oC ob h h2) ++ ((mC cI cZ h a σ) ++ (mC cI cZ h2 a2 ρ)))) → va_S A s.heap H locs → lv_has ls 30 [(0, .ref b), (1, .ref ob), (2, .ref sm), (3, .int (nI t)), (4, .int xv), (5, .long (digS σ)), (7, .int (nI n)), (8, .int (sumI (lsB σ) (i + 1))), (9, .int (nI i))] → W p l e room_1 s m args below meth c H locs (c0 + 10) (s0 + 100) Q (F0 m 226 ls [])) := by
          intro ρ H locs ls hP hD hS hl
          refine lv_aload_n hx hb dL_law_226 rfl (lv_at hl 1 rfl) ?_
          refine lv_iload hx hb dL_law_227 (lv_at hl 8 rfl) ?_
          refine MX.callV0 (C := RX1) (T := TX1) (N := 2) (As := [.int (nI i)]) (rest := []) (w0 := sC cI cL sm q σ n k) (w2 := []) (wB := fun ρ => (sC cI cL sm q σ n k) ++ ((oC ob h h2) ++ ((mC cI cZ h a σ) ++ (mC cI cZ h2 a2 ρ)))) (c_X1_reaches l D cI cZ cL ob h a h2 a2 σ ρ hst i (by omega)) ⟨hx, hb, hml, hown, hts⟩ q299 b_X1_reaches (n := 1) (by decide +kernel) ⟨(Nat.le_of_ble_eq_true rfl), (Nat.le_of_ble_eq_true rfl)⟩ hK hP hD hS hA hE (by rw [List.append_nil]) (fun _ => by rw [List.append_nil]) (ci := 1) rfl rfl rfl hl.1 rfl (Nat.le_of_ble_eq_true rfl) dL_law_229 ⟨by show (c0 + 10) + 0 ≤ 650901; omega, by show (s0 + 100) + 0 ≤ 7148764; omega⟩ (fun ρ_3 H locs hP hD hS => ?_)
          have hP : va_P D vwCl ((sC cI cL sm q σ n k) ++ ((oC ob h h2) ++ ((mC cI cZ h a σ) ++ (mC cI cZ h2 a2 ρ_3)))) H := hP
          have hD : va_D A ((sC cI cL sm q σ n k) ++ ((oC ob h h2) ++ ((mC cI cZ h a σ) ++ (mC cI cZ h2 a2 ρ_3)))) := hD
          refine W.wide (k := (c0 + 10)) (n := (s0 + 100)) (by show (c0 + 10) + 0 ≤ (c0 + 10); omega) (by show (s0 + 100) + 0 ≤ (s0 + 100); omega) ?_
          refine lv_if_lt (tgt := 264) hx hb dL_law_232 (by decide) (fun z => absurd z (re_ge hst (by omega))) (fun c_232 => ?_)
          refine lv_aload_n hx hb dL_law_235 rfl (lv_at hl 1 rfl) ?_
          refine lv_iload hx hb dL_law_236 (lv_at hl 8 rfl) ?_
          refine MX.callV0 (C := RX1) (T := TX1) (N := 2) (As := [.int (nI i)]) (rest := []) (w0 := sC cI cL sm q σ n k) (w2 := []) (wB := fun ρ => (sC cI cL sm q σ n k) ++ ((oC ob h h2) ++ ((mC cI cZ h a σ) ++ (mC cI cZ h2 a2 ρ)))) (c_X1_reaches l D cI cZ cL ob h a h2 a2 σ ρ_3 hst i (by omega)) ⟨hx, hb, hml, hown, hts⟩ q299 b_X1_reaches (n := 1) (by decide +kernel) ⟨(Nat.le_of_ble_eq_true rfl), (Nat.le_of_ble_eq_true rfl)⟩ hK hP hD hS hA hE (by rw [List.append_nil]) (fun _ => by rw [List.append_nil]) (ci := 1) rfl rfl rfl hl.1 rfl (Nat.le_of_ble_eq_true rfl) dL_law_238 ⟨by show (c0 + 10) + 0 ≤ 650901; omega, by show (s0 + 100) + 0 ≤ 7148764; omega⟩ (fun ρ_4 H locs hP hD hS => ?_)
          have hP : va_P D vwCl ((sC cI cL sm q σ n k) ++ ((oC ob h h2) ++ ((mC cI cZ h a σ) ++ (mC cI cZ h2 a2 ρ_4)))) H := hP
          have hD : va_D A ((sC cI cL sm q σ n k) ++ ((oC ob h h2) ++ ((mC cI cZ h a σ) ++ (mC cI cZ h2 a2 ρ_4)))) := hD
          refine W.wide (k := (c0 + 10)) (n := (s0 + 100)) (by show (c0 + 10) + 0 ≤ (c0 + 10); omega) (by show (s0 + 100) + 0 ≤ (s0 + 100); omega) ?_
          refine lv_iload hx hb dL_law_241 (lv_at hl 6 rfl) ?_
          refine lv_icmp_ge (tgt := 264) hx hb dL_law_243 (by decide) (fun z => absurd z (re_lt hst (by omega))) (fun c_243 => ?_)
          refine lv_aload_n hx hb dL_law_246 rfl (lv_at hl 1 rfl) ?_
          refine lv_iload hx hb dL_law_247 (lv_at hl 8 rfl) ?_
          refine MX.callV0 (C := RX1) (T := TX1) (N := 2) (As := [.int (nI i)]) (rest := []) (w0 := sC cI cL sm q σ n k) (w2 := []) (wB := fun ρ => (sC cI cL sm q σ n k) ++ ((oC ob h h2) ++ ((mC cI cZ h a σ) ++ (mC cI cZ h2 a2 ρ)))) (c_X1_reaches l D cI cZ cL ob h a h2 a2 σ ρ_4 hst i (by omega)) ⟨hx, hb, hml, hown, hts⟩ q299 b_X1_reaches (n := 1) (by decide +kernel) ⟨(Nat.le_of_ble_eq_true rfl), (Nat.le_of_ble_eq_true rfl)⟩ hK hP hD hS hA hE (by rw [List.append_nil]) (fun _ => by rw [List.append_nil]) (ci := 1) rfl rfl rfl hl.1 rfl (Nat.le_of_ble_eq_true rfl) dL_law_249 ⟨by show (c0 + 10) + 0 ≤ 650901; omega, by show (s0 + 100) + 0 ≤ 7148764; omega⟩ (fun ρ_5 H locs hP hD hS => ?_)
          have hP : va_P D vwCl ((sC cI cL sm q σ n k) ++ ((oC ob h h2) ++ ((mC cI cZ h a σ) ++ (mC cI cZ h2 a2 ρ_5)))) H := hP
          have hD : va_D A ((sC cI cL sm q σ n k) ++ ((oC ob h h2) ++ ((mC cI cZ h a σ) ++ (mC cI cZ h2 a2 ρ_5)))) := hD
          refine W.wide (k := (c0 + 10)) (n := (s0 + 100)) (by show (c0 + 10) + 0 ≤ (c0 + 10); omega) (by show (s0 + 100) + 0 ≤ (s0 + 100); omega) ?_
          refine lv_if_le (tgt := 266) hx hb dL_law_252 (by decide) (fun c_252 => ?_) (fun c_252 => ?_)
          · have hP : va_P D vwCl ((sC cI cL sm q σ n k) ++ ((oC ob h h2) ++ ((mC cI cZ h a σ) ++ (mC cI cZ h2 a2 ρ_5)))) H := hP
            have hD : va_D A ((sC cI cL sm q σ n k) ++ ((oC ob h h2) ++ ((mC cI cZ h a σ) ++ (mC cI cZ h2 a2 ρ_5)))) := hD
            exact T266 ρ_5 _ _ _ hP hD hS (lv_sub hl [0, 1, 2, 3, 4, 5, 6, 7, 8] rfl)
          · refine lv_aload_n hx hb dL_law_255 rfl (lv_at hl 1 rfl) ?_
            refine lv_iload hx hb dL_law_256 (lv_at hl 8 rfl) ?_
            refine MX.callV0 (C := RX1) (T := TX1) (N := 2) (As := [.int (nI i)]) (rest := []) (w0 := sC cI cL sm q σ n k) (w2 := []) (wB := fun ρ => (sC cI cL sm q σ n k) ++ ((oC ob h h2) ++ ((mC cI cZ h a σ) ++ (mC cI cZ h2 a2 ρ)))) (c_X1_drainsAt l D cI cZ cL ob h a h2 a2 σ ρ_5 hst i (by omega)) ⟨hx, hb, hml, hown, hts⟩ q295 b_X1_drainsAt (n := 1) (by decide +kernel) ⟨(Nat.le_of_ble_eq_true rfl), (Nat.le_of_ble_eq_true rfl)⟩ hK hP hD hS hA hE (by rw [List.append_nil]) (fun _ => by rw [List.append_nil]) (ci := 1) rfl rfl rfl hl.1 rfl (Nat.le_of_ble_eq_true rfl) dL_law_258 ⟨by show (c0 + 10) + 0 ≤ 650901; omega, by show (s0 + 100) + 0 ≤ 7148764; omega⟩ (fun ρ_6 H locs hP hD hS => ?_)
            have hP : va_P D vwCl ((sC cI cL sm q σ n k) ++ ((oC ob h h2) ++ ((mC cI cZ h a σ) ++ (mC cI cZ h2 a2 ρ_6)))) H := hP
            have hD : va_D A ((sC cI cL sm q σ n k) ++ ((oC ob h h2) ++ ((mC cI cZ h a σ) ++ (mC cI cZ h2 a2 ρ_6)))) := hD
            refine W.wide (k := (c0 + 10)) (n := (s0 + 100)) (by show (c0 + 10) + 0 ≤ (c0 + 10); omega) (by show (s0 + 100) + 0 ≤ (s0 + 100); omega) ?_
            refine lv_if_ne (tgt := 266) hx hb dL_law_261 (by decide) (fun c_261 => ?_) (fun z => absurd z (re_pos hst (by omega) c_252))
            have hP : va_P D vwCl ((sC cI cL sm q σ n k) ++ ((oC ob h h2) ++ ((mC cI cZ h a σ) ++ (mC cI cZ h2 a2 ρ_6)))) H := hP
            have hD : va_D A ((sC cI cL sm q σ n k) ++ ((oC ob h h2) ++ ((mC cI cZ h a σ) ++ (mC cI cZ h2 a2 ρ_6)))) := hD
            exact T266 ρ_6 _ _ _ hP hD hS (lv_sub hl [0, 1, 2, 3, 4, 5, 6, 7, 8] rfl)
        have T203 : (∀ (ρ : Sg) (H : Heap) (locs : List Loc) (ls : Array Slot), va_P D vwCl ((sC cI cL sm q σ n k) ++ ((oC ob h h2) ++ ((mC cI cZ h a σ) ++ (mC cI cZ h2 a2 ρ)))) H → va_D A ((sC cI cL sm q σ n k) ++ ((oC ob h h2) ++ ((mC cI cZ h a σ) ++ (mC cI cZ h2 a2 ρ)))) → va_S A s.heap H locs → lv_has ls 30 [(0, .ref b), (1, .ref ob), (2, .ref sm), (3, .int (nI t)), (4, .int xv), (5, .long (digS σ)), (7, .int (nI n)), (8, .int (sumI (lsB σ) (i + 1))), (9, .int (nI i))] → W p l e room_1 s m args below meth c H locs (c0 + 10) (s0 + 100) Q (F0 m 203 ls [])) := by
          intro ρ H locs ls hP hD hS hl
          refine lv_aload_n hx hb dL_law_203 rfl (lv_at hl 1 rfl) ?_
          refine lv_iload hx hb dL_law_204 (lv_at hl 8 rfl) ?_
          refine MX.callV0 (C := RX1) (T := TX1) (N := 2) (As := [.int (nI i)]) (rest := []) (w0 := sC cI cL sm q σ n k) (w2 := []) (wB := fun ρ => (sC cI cL sm q σ n k) ++ ((oC ob h h2) ++ ((mC cI cZ h a σ) ++ (mC cI cZ h2 a2 ρ)))) (c_X1_hoursUntilRuined l D cI cZ cL ob h a h2 a2 σ ρ hst hB i (by omega)) ⟨hx, hb, hml, hown, hts⟩ q337 b_X1_hoursUntilRuined (n := 1) (by decide +kernel) ⟨(Nat.le_of_ble_eq_true rfl), (Nat.le_of_ble_eq_true rfl)⟩ hK hP hD hS hA hE (by rw [List.append_nil]) (fun _ => by rw [List.append_nil]) (ci := 1) rfl rfl rfl hl.1 rfl (Nat.le_of_ble_eq_true rfl) dL_law_206 ⟨by show (c0 + 10) + 0 ≤ 650901; omega, by show (s0 + 100) + 0 ≤ 7148764; omega⟩ (fun ρ_7 H locs hP hD hS => ?_)
          have hP : va_P D vwCl ((sC cI cL sm q σ n k) ++ ((oC ob h h2) ++ ((mC cI cZ h a σ) ++ (mC cI cZ h2 a2 ρ_7)))) H := hP
          have hD : va_D A ((sC cI cL sm q σ n k) ++ ((oC ob h h2) ++ ((mC cI cZ h a σ) ++ (mC cI cZ h2 a2 ρ_7)))) := hD
          refine W.wide (k := (c0 + 10)) (n := (s0 + 100)) (by show (c0 + 10) + 0 ≤ (c0 + 10); omega) (by show (s0 + 100) + 0 ≤ (s0 + 100); omega) ?_
          refine lv_if_ne (tgt := 216) hx hb dL_law_209 (by decide) (fun c_209 => ?_) (fun c_209 => ?_)
          · refine lv_iconst (v := 0) hx hb dL_law_216 (by decide) ?_
            refine lv_aload_n hx hb dL_law_217 rfl (lv_at hl 1 rfl) ?_
            refine lv_iload hx hb dL_law_218 (lv_at hl 8 rfl) ?_
            refine MX.callV0 (C := RX1) (T := TX1) (N := 2) (As := [.int (nI i)]) (rest := [.int 0]) (w0 := sC cI cL sm q σ n k) (w2 := []) (wB := fun ρ => (sC cI cL sm q σ n k) ++ ((oC ob h h2) ++ ((mC cI cZ h a σ) ++ (mC cI cZ h2 a2 ρ)))) (c_X1_isRuined l D cI cZ cL ob h a h2 a2 σ ρ_7 hst hB i (by omega)) ⟨hx, hb, hml, hown, hts⟩ q291 b_X1_isRuined (n := 1) (by decide +kernel) ⟨(Nat.le_of_ble_eq_true rfl), (Nat.le_of_ble_eq_true rfl)⟩ hK hP hD hS hA hE (by rw [List.append_nil]) (fun _ => by rw [List.append_nil]) (ci := 1) rfl rfl rfl hl.1 rfl (Nat.le_of_ble_eq_true rfl) dL_law_220 ⟨by show (c0 + 10) + 0 ≤ 650901; omega, by show (s0 + 100) + 0 ≤ 7148764; omega⟩ (fun ρ_8 H locs hP hD hS => ?_)
            have hP : va_P D vwCl ((sC cI cL sm q σ n k) ++ ((oC ob h h2) ++ ((mC cI cZ h a σ) ++ (mC cI cZ h2 a2 ρ_8)))) H := hP
            have hD : va_D A ((sC cI cL sm q σ n k) ++ ((oC ob h h2) ++ ((mC cI cZ h a σ) ++ (mC cI cZ h2 a2 ρ_8)))) := hD
            refine W.wide (k := (c0 + 10)) (n := (s0 + 100)) (by show (c0 + 10) + 0 ≤ (c0 + 10); omega) (by show (s0 + 100) + 0 ≤ (s0 + 100); omega) ?_
            refine lv_icmp_ne (tgt := 264) hx hb dL_law_223 (by decide) (fun z => absurd ((Decidable.not_not.mp (fun z => c_209 (until_0.mpr z))).symm) z) (fun c_223 => ?_)
            have hP : va_P D vwCl ((sC cI cL sm q σ n k) ++ ((oC ob h h2) ++ ((mC cI cZ h a σ) ++ (mC cI cZ h2 a2 ρ_8)))) H := hP
            have hD : va_D A ((sC cI cL sm q σ n k) ++ ((oC ob h h2) ++ ((mC cI cZ h a σ) ++ (mC cI cZ h2 a2 ρ_8)))) := hD
            exact T226 ρ_8 _ _ _ hP hD hS (lv_sub hl [0, 1, 2, 3, 4, 5, 6, 7, 8] rfl)
          · refine lv_iconst (v := 1) hx hb dL_law_212 (by decide) ?_
            refine lv_goto (tgt := 217) hx hb dL_law_213 (by decide) ?_
            refine lv_aload_n hx hb dL_law_217 rfl (lv_at hl 1 rfl) ?_
            refine lv_iload hx hb dL_law_218 (lv_at hl 8 rfl) ?_
            refine MX.callV0 (C := RX1) (T := TX1) (N := 2) (As := [.int (nI i)]) (rest := [.int 1]) (w0 := sC cI cL sm q σ n k) (w2 := []) (wB := fun ρ => (sC cI cL sm q σ n k) ++ ((oC ob h h2) ++ ((mC cI cZ h a σ) ++ (mC cI cZ h2 a2 ρ)))) (c_X1_isRuined l D cI cZ cL ob h a h2 a2 σ ρ_7 hst hB i (by omega)) ⟨hx, hb, hml, hown, hts⟩ q291 b_X1_isRuined (n := 1) (by decide +kernel) ⟨(Nat.le_of_ble_eq_true rfl), (Nat.le_of_ble_eq_true rfl)⟩ hK hP hD hS hA hE (by rw [List.append_nil]) (fun _ => by rw [List.append_nil]) (ci := 1) rfl rfl rfl hl.1 rfl (Nat.le_of_ble_eq_true rfl) dL_law_220 ⟨by show (c0 + 10) + 0 ≤ 650901; omega, by show (s0 + 100) + 0 ≤ 7148764; omega⟩ (fun ρ_9 H locs hP hD hS => ?_)
            have hP : va_P D vwCl ((sC cI cL sm q σ n k) ++ ((oC ob h h2) ++ ((mC cI cZ h a σ) ++ (mC cI cZ h2 a2 ρ_9)))) H := hP
            have hD : va_D A ((sC cI cL sm q σ n k) ++ ((oC ob h h2) ++ ((mC cI cZ h a σ) ++ (mC cI cZ h2 a2 ρ_9)))) := hD
            refine W.wide (k := (c0 + 10)) (n := (s0 + 100)) (by show (c0 + 10) + 0 ≤ (c0 + 10); omega) (by show (s0 + 100) + 0 ≤ (s0 + 100); omega) ?_
            refine lv_icmp_ne (tgt := 264) hx hb dL_law_223 (by decide) (fun z => absurd ((ru_1 hI (by omega) (until_0.mp c_209)).symm) z) (fun c_223 => ?_)
            have hP : va_P D vwCl ((sC cI cL sm q σ n k) ++ ((oC ob h h2) ++ ((mC cI cZ h a σ) ++ (mC cI cZ h2 a2 ρ_9)))) H := hP
            have hD : va_D A ((sC cI cL sm q σ n k) ++ ((oC ob h h2) ++ ((mC cI cZ h a σ) ++ (mC cI cZ h2 a2 ρ_9)))) := hD
            exact T226 ρ_9 _ _ _ hP hD hS (lv_sub hl [0, 1, 2, 3, 4, 5, 6, 7, 8] rfl)
        have T133 : (∀ (ρ : Sg) (H : Heap) (locs : List Loc) (ls : Array Slot), va_P D vwCl ((sC cI cL sm q σ n k) ++ ((oC ob h h2) ++ ((mC cI cZ h a σ) ++ (mC cI cZ h2 a2 ρ)))) H → va_D A ((sC cI cL sm q σ n k) ++ ((oC ob h h2) ++ ((mC cI cZ h a σ) ++ (mC cI cZ h2 a2 ρ)))) → va_S A s.heap H locs → lv_has ls 30 [(0, .ref b), (1, .ref ob), (2, .ref sm), (3, .int (nI t)), (4, .int xv), (5, .long (digS σ)), (7, .int (nI n)), (8, .int (sumI (lsB σ) (i + 1))), (9, .int (nI i))] → W p l e room_1 s m args below meth c H locs (c0 + 10) (s0 + 100) Q (F0 m 133 ls [])) := by
          intro ρ H locs ls hP hD hS hl
          refine lv_aload_n hx hb dL_law_133 rfl (lv_at hl 1 rfl) ?_
          refine lv_iload hx hb dL_law_134 (lv_at hl 8 rfl) ?_
          refine MX.callV0 (C := RX1) (T := TX1) (N := 2) (As := [.int (nI i)]) (rest := []) (w0 := sC cI cL sm q σ n k) (w2 := []) (wB := fun ρ => (sC cI cL sm q σ n k) ++ ((oC ob h h2) ++ ((mC cI cZ h a σ) ++ (mC cI cZ h2 a2 ρ)))) (c_X1_waterOn l D cI cZ cL ob h a h2 a2 σ ρ hst i (by omega)) ⟨hx, hb, hml, hown, hts⟩ q254 b_X1_waterOn (n := 1) (by decide +kernel) ⟨(Nat.le_of_ble_eq_true rfl), (Nat.le_of_ble_eq_true rfl)⟩ hK hP hD hS hA hE (by rw [List.append_nil]) (fun _ => by rw [List.append_nil]) (ci := 1) rfl rfl rfl hl.1 rfl (Nat.le_of_ble_eq_true rfl) dL_law_136 ⟨by show (c0 + 10) + 0 ≤ 650901; omega, by show (s0 + 100) + 0 ≤ 7148764; omega⟩ (fun ρ_10 H locs hP hD hS => ?_)
          have hP : va_P D vwCl ((sC cI cL sm q σ n k) ++ ((oC ob h h2) ++ ((mC cI cZ h a σ) ++ (mC cI cZ h2 a2 ρ_10)))) H := hP
          have hD : va_D A ((sC cI cL sm q σ n k) ++ ((oC ob h h2) ++ ((mC cI cZ h a σ) ++ (mC cI cZ h2 a2 ρ_10)))) := hD
          refine W.wide (k := (c0 + 10)) (n := (s0 + 100)) (by show (c0 + 10) + 0 ≤ (c0 + 10); omega) (by show (s0 + 100) + 0 ≤ (s0 + 100); omega) ?_
          refine lv_if_lt (tgt := 264) hx hb dL_law_139 (by decide) (fun z => absurd z ((by obtain ⟨w, hw, ew⟩ := hB.1 i (by omega); exact nn_lt ew (by omega)))) (fun c_139 => ?_)
          refine lv_aload_n hx hb dL_law_142 rfl (lv_at hl 1 rfl) ?_
          refine lv_iload hx hb dL_law_143 (lv_at hl 8 rfl) ?_
          refine MX.callV0 (C := RX1) (T := TX1) (N := 2) (As := [.int (nI i)]) (rest := []) (w0 := sC cI cL sm q σ n k) (w2 := []) (wB := fun ρ => (sC cI cL sm q σ n k) ++ ((oC ob h h2) ++ ((mC cI cZ h a σ) ++ (mC cI cZ h2 a2 ρ)))) (c_X1_levelOf l D cI cZ cL ob h a h2 a2 σ ρ_10 hst i (by omega)) ⟨hx, hb, hml, hown, hts⟩ q279 b_X1_levelOf (n := 1) (by decide +kernel) ⟨(Nat.le_of_ble_eq_true rfl), (Nat.le_of_ble_eq_true rfl)⟩ hK hP hD hS hA hE (by rw [List.append_nil]) (fun _ => by rw [List.append_nil]) (ci := 1) rfl rfl rfl hl.1 rfl (Nat.le_of_ble_eq_true rfl) dL_law_145 ⟨by show (c0 + 10) + 0 ≤ 650901; omega, by show (s0 + 100) + 0 ≤ 7148764; omega⟩ (fun ρ_11 H locs hP hD hS => ?_)
          have hP : va_P D vwCl ((sC cI cL sm q σ n k) ++ ((oC ob h h2) ++ ((mC cI cZ h a σ) ++ (mC cI cZ h2 a2 ρ_11)))) H := hP
          have hD : va_D A ((sC cI cL sm q σ n k) ++ ((oC ob h h2) ++ ((mC cI cZ h a σ) ++ (mC cI cZ h2 a2 ρ_11)))) := hD
          refine W.wide (k := (c0 + 10)) (n := (s0 + 100)) (by show (c0 + 10) + 0 ≤ (c0 + 10); omega) (by show (s0 + 100) + 0 ≤ (s0 + 100); omega) ?_
          refine lv_aload_n hx hb dL_law_148 rfl (lv_at hl 2 rfl) ?_
          refine s_get hx hb hts hown hK hP (σ := σ) (n := n) (k := k) (q := q) (sm := sm) (w0 := []) (w2 := (oC ob h h2) ++ ((mC cI cZ h a σ) ++ (mC cI cZ h2 a2 ρ_11))) rfl 0 (by decide) q434 (v := .ref q.1.1) rfl dL_law_149 ?_
          refine lv_iload hx hb dL_law_152 (lv_at hl 8 rfl) ?_
          refine s_alF hx hb hK hP (σ := σ) (n := n) (k := k) (q := q) (sm := sm) (w0 := []) (w2 := (oC ob h h2) ++ ((mC cI cZ h a σ) ++ (mC cI cZ h2 a2 ρ_11))) rfl i (rfl) (by omega) (by omega) dL_law_154 ?_
          refine lv_iconst (v := 0) hx hb dL_law_155 (by decide) ?_
          refine s_ldF hx hb hK hP (σ := σ) (n := n) (k := k) (q := q) (sm := sm) (w0 := []) (w2 := (oC ob h h2) ++ ((mC cI cZ h a σ) ++ (mC cI cZ h2 a2 ρ_11))) rfl i (by omega) 0 rfl (by decide) (v := σ 0 i) rfl dL_law_156 ?_
          refine lv_aload_n hx hb dL_law_157 rfl (lv_at hl 1 rfl) ?_
          refine lv_iload hx hb dL_law_158 (lv_at hl 8 rfl) ?_
          refine MX.callV0 (C := RX1) (T := TX1) (N := 2) (As := [.int (nI i)]) (rest := [.int (σ 0 i), .int (σ 0 i + σ 2 i)]) (w0 := sC cI cL sm q σ n k) (w2 := []) (wB := fun ρ => (sC cI cL sm q σ n k) ++ ((oC ob h h2) ++ ((mC cI cZ h a σ) ++ (mC cI cZ h2 a2 ρ)))) (c_X1_waterOn l D cI cZ cL ob h a h2 a2 σ ρ_11 hst i (by omega)) ⟨hx, hb, hml, hown, hts⟩ q254 b_X1_waterOn (n := 1) (by decide +kernel) ⟨(Nat.le_of_ble_eq_true rfl), (Nat.le_of_ble_eq_true rfl)⟩ hK hP hD hS hA hE (by rw [List.append_nil]) (fun _ => by rw [List.append_nil]) (ci := 1) rfl rfl rfl hl.1 rfl (Nat.le_of_ble_eq_true rfl) dL_law_160 ⟨by show (c0 + 10) + 0 ≤ 650901; omega, by show (s0 + 100) + 0 ≤ 7148764; omega⟩ (fun ρ_12 H locs hP hD hS => ?_)
          have hP : va_P D vwCl ((sC cI cL sm q σ n k) ++ ((oC ob h h2) ++ ((mC cI cZ h a σ) ++ (mC cI cZ h2 a2 ρ_12)))) H := hP
          have hD : va_D A ((sC cI cL sm q σ n k) ++ ((oC ob h h2) ++ ((mC cI cZ h a σ) ++ (mC cI cZ h2 a2 ρ_12)))) := hD
          refine W.wide (k := (c0 + 10)) (n := (s0 + 100)) (by show (c0 + 10) + 0 ≤ (c0 + 10); omega) (by show (s0 + 100) + 0 ≤ (s0 + 100); omega) ?_
          refine lv_iadd hx hb dL_law_163 ?_
          refine lv_icmp_ne (tgt := 264) hx hb dL_law_164 (by decide) (fun z => absurd (rfl) z) (fun c_164 => ?_)
          refine lv_aload_n hx hb dL_law_167 rfl (lv_at hl 1 rfl) ?_
          refine lv_iload hx hb dL_law_168 (lv_at hl 8 rfl) ?_
          refine MX.callV0 (C := RX1) (T := TX1) (N := 2) (As := [.int (nI i)]) (rest := []) (w0 := sC cI cL sm q σ n k) (w2 := []) (wB := fun ρ => (sC cI cL sm q σ n k) ++ ((oC ob h h2) ++ ((mC cI cZ h a σ) ++ (mC cI cZ h2 a2 ρ)))) (c_X1_levelOf l D cI cZ cL ob h a h2 a2 σ ρ_12 hst i (by omega)) ⟨hx, hb, hml, hown, hts⟩ q279 b_X1_levelOf (n := 1) (by decide +kernel) ⟨(Nat.le_of_ble_eq_true rfl), (Nat.le_of_ble_eq_true rfl)⟩ hK hP hD hS hA hE (by rw [List.append_nil]) (fun _ => by rw [List.append_nil]) (ci := 1) rfl rfl rfl hl.1 rfl (Nat.le_of_ble_eq_true rfl) dL_law_170 ⟨by show (c0 + 10) + 0 ≤ 650901; omega, by show (s0 + 100) + 0 ≤ 7148764; omega⟩ (fun ρ_13 H locs hP hD hS => ?_)
          have hP : va_P D vwCl ((sC cI cL sm q σ n k) ++ ((oC ob h h2) ++ ((mC cI cZ h a σ) ++ (mC cI cZ h2 a2 ρ_13)))) H := hP
          have hD : va_D A ((sC cI cL sm q σ n k) ++ ((oC ob h h2) ++ ((mC cI cZ h a σ) ++ (mC cI cZ h2 a2 ρ_13)))) := hD
          refine W.wide (k := (c0 + 10)) (n := (s0 + 100)) (by show (c0 + 10) + 0 ≤ (c0 + 10); omega) (by show (s0 + 100) + 0 ≤ (s0 + 100); omega) ?_
          refine lv_aload_n hx hb dL_law_173 rfl (lv_at hl 1 rfl) ?_
          refine lv_aload_n hx hb dL_law_174 rfl (lv_at hl 1 rfl) ?_
          refine MX.callV0 (C := RX1) (T := TX1) (N := 2) (As := []) (rest := [.ref ob, .int (σ 0 i + σ 2 i)]) (w0 := sC cI cL sm q σ n k) (w2 := []) (wB := fun ρ => (sC cI cL sm q σ n k) ++ ((oC ob h h2) ++ ((mC cI cZ h a σ) ++ (mC cI cZ h2 a2 ρ)))) (c_X1_highest l D cI cZ cL ob h a h2 a2 σ ρ_13 hst) ⟨hx, hb, hml, hown, hts⟩ q313 b_X1_highest (n := 0) (by decide +kernel) ⟨(Nat.le_of_ble_eq_true rfl), (Nat.le_of_ble_eq_true rfl)⟩ hK hP hD hS hA hE (by rw [List.append_nil]) (fun _ => by rw [List.append_nil]) (ci := 1) rfl rfl rfl hl.1 rfl (Nat.le_of_ble_eq_true rfl) dL_law_175 ⟨by show (c0 + 10) + 0 ≤ 650901; omega, by show (s0 + 100) + 0 ≤ 7148764; omega⟩ (fun ρ_14 H locs hP hD hS => ?_)
          have hP : va_P D vwCl ((sC cI cL sm q σ n k) ++ ((oC ob h h2) ++ ((mC cI cZ h a σ) ++ (mC cI cZ h2 a2 ρ_14)))) H := hP
          have hD : va_D A ((sC cI cL sm q σ n k) ++ ((oC ob h h2) ++ ((mC cI cZ h a σ) ++ (mC cI cZ h2 a2 ρ_14)))) := hD
          refine W.wide (k := (c0 + 10)) (n := (s0 + 100)) (by show (c0 + 10) + 0 ≤ (c0 + 10); omega) (by show (s0 + 100) + 0 ≤ (s0 + 100); omega) ?_
          refine x_top (em) ?_
          refine MX.callV0 (C := RX1) (T := TX1) (N := 2) (As := [.int (nI jm)]) (rest := [.int (σ 0 i + σ 2 i)]) (w0 := sC cI cL sm q σ n k) (w2 := []) (wB := fun ρ => (sC cI cL sm q σ n k) ++ ((oC ob h h2) ++ ((mC cI cZ h a σ) ++ (mC cI cZ h2 a2 ρ)))) (c_X1_levelOf l D cI cZ cL ob h a h2 a2 σ ρ_14 hst jm hjm) ⟨hx, hb, hml, hown, hts⟩ q279 b_X1_levelOf (n := 1) (by decide +kernel) ⟨(Nat.le_of_ble_eq_true rfl), (Nat.le_of_ble_eq_true rfl)⟩ hK hP hD hS hA hE (by rw [List.append_nil]) (fun _ => by rw [List.append_nil]) (ci := 1) rfl rfl rfl hl.1 rfl (Nat.le_of_ble_eq_true rfl) dL_law_178 ⟨by show (c0 + 10) + 0 ≤ 650901; omega, by show (s0 + 100) + 0 ≤ 7148764; omega⟩ (fun ρ_15 H locs hP hD hS => ?_)
          have hP : va_P D vwCl ((sC cI cL sm q σ n k) ++ ((oC ob h h2) ++ ((mC cI cZ h a σ) ++ (mC cI cZ h2 a2 ρ_15)))) H := hP
          have hD : va_D A ((sC cI cL sm q σ n k) ++ ((oC ob h h2) ++ ((mC cI cZ h a σ) ++ (mC cI cZ h2 a2 ρ_15)))) := hD
          refine W.wide (k := (c0 + 10)) (n := (s0 + 100)) (by show (c0 + 10) + 0 ≤ (c0 + 10); omega) (by show (s0 + 100) + 0 ≤ (s0 + 100); omega) ?_
          refine lv_icmp_gt (tgt := 264) hx hb dL_law_181 (by decide) (fun z => absurd z (Int32.not_lt.mpr (amax_max (fun q => σ 0 q + σ 2 q) n jm (by omega) (by rw [← hst.eF]; exact em) hjm i (by omega)))) (fun c_181 => ?_)
          refine lv_aload_n hx hb dL_law_184 rfl (lv_at hl 1 rfl) ?_
          refine lv_iload hx hb dL_law_185 (lv_at hl 8 rfl) ?_
          refine MX.callV0 (C := RX1) (T := TX1) (N := 2) (As := [.int (nI i)]) (rest := []) (w0 := sC cI cL sm q σ n k) (w2 := []) (wB := fun ρ => (sC cI cL sm q σ n k) ++ ((oC ob h h2) ++ ((mC cI cZ h a σ) ++ (mC cI cZ h2 a2 ρ)))) (c_X1_wetFor l D cI cZ cL ob h a h2 a2 σ ρ_15 hst i (by omega)) ⟨hx, hb, hml, hown, hts⟩ q287 b_X1_wetFor (n := 1) (by decide +kernel) ⟨(Nat.le_of_ble_eq_true rfl), (Nat.le_of_ble_eq_true rfl)⟩ hK hP hD hS hA hE (by rw [List.append_nil]) (fun _ => by rw [List.append_nil]) (ci := 1) rfl rfl rfl hl.1 rfl (Nat.le_of_ble_eq_true rfl) dL_law_187 ⟨by show (c0 + 10) + 0 ≤ 650901; omega, by show (s0 + 100) + 0 ≤ 7148764; omega⟩ (fun ρ_16 H locs hP hD hS => ?_)
          have hP : va_P D vwCl ((sC cI cL sm q σ n k) ++ ((oC ob h h2) ++ ((mC cI cZ h a σ) ++ (mC cI cZ h2 a2 ρ_16)))) H := hP
          have hD : va_D A ((sC cI cL sm q σ n k) ++ ((oC ob h h2) ++ ((mC cI cZ h a σ) ++ (mC cI cZ h2 a2 ρ_16)))) := hD
          refine W.wide (k := (c0 + 10)) (n := (s0 + 100)) (by show (c0 + 10) + 0 ≤ (c0 + 10); omega) (by show (s0 + 100) + 0 ≤ (s0 + 100); omega) ?_
          refine lv_iconst (v := 5) hx hb dL_law_190 (by decide) ?_
          refine lv_icmp_le (tgt := 203) hx hb dL_law_191 (by decide) (fun c_191 => ?_) (fun c_191 => ?_)
          · have hP : va_P D vwCl ((sC cI cL sm q σ n k) ++ ((oC ob h h2) ++ ((mC cI cZ h a σ) ++ (mC cI cZ h2 a2 ρ_16)))) H := hP
            have hD : va_D A ((sC cI cL sm q σ n k) ++ ((oC ob h h2) ++ ((mC cI cZ h a σ) ++ (mC cI cZ h2 a2 ρ_16)))) := hD
            exact T203 ρ_16 _ _ _ hP hD hS (lv_sub hl [0, 1, 2, 3, 4, 5, 6, 7, 8] rfl)
          · refine lv_aload_n hx hb dL_law_194 rfl (lv_at hl 1 rfl) ?_
            refine lv_iload hx hb dL_law_195 (lv_at hl 8 rfl) ?_
            refine MX.callV0 (C := RX1) (T := TX1) (N := 2) (As := [.int (nI i)]) (rest := []) (w0 := sC cI cL sm q σ n k) (w2 := []) (wB := fun ρ => (sC cI cL sm q σ n k) ++ ((oC ob h h2) ++ ((mC cI cZ h a σ) ++ (mC cI cZ h2 a2 ρ)))) (c_X1_isRuined l D cI cZ cL ob h a h2 a2 σ ρ_16 hst hB i (by omega)) ⟨hx, hb, hml, hown, hts⟩ q291 b_X1_isRuined (n := 1) (by decide +kernel) ⟨(Nat.le_of_ble_eq_true rfl), (Nat.le_of_ble_eq_true rfl)⟩ hK hP hD hS hA hE (by rw [List.append_nil]) (fun _ => by rw [List.append_nil]) (ci := 1) rfl rfl rfl hl.1 rfl (Nat.le_of_ble_eq_true rfl) dL_law_197 ⟨by show (c0 + 10) + 0 ≤ 650901; omega, by show (s0 + 100) + 0 ≤ 7148764; omega⟩ (fun ρ_17 H locs hP hD hS => ?_)
            have hP : va_P D vwCl ((sC cI cL sm q σ n k) ++ ((oC ob h h2) ++ ((mC cI cZ h a σ) ++ (mC cI cZ h2 a2 ρ_17)))) H := hP
            have hD : va_D A ((sC cI cL sm q σ n k) ++ ((oC ob h h2) ++ ((mC cI cZ h a σ) ++ (mC cI cZ h2 a2 ρ_17)))) := hD
            refine W.wide (k := (c0 + 10)) (n := (s0 + 100)) (by show (c0 + 10) + 0 ≤ (c0 + 10); omega) (by show (s0 + 100) + 0 ≤ (s0 + 100); omega) ?_
            refine lv_if_eq (tgt := 264) hx hb dL_law_200 (by decide) (fun z => absurd z (fun z => c_191 (wet_le hI (by omega) z))) (fun c_200 => ?_)
            have hP : va_P D vwCl ((sC cI cL sm q σ n k) ++ ((oC ob h h2) ++ ((mC cI cZ h a σ) ++ (mC cI cZ h2 a2 ρ_17)))) H := hP
            have hD : va_D A ((sC cI cL sm q σ n k) ++ ((oC ob h h2) ++ ((mC cI cZ h a σ) ++ (mC cI cZ h2 a2 ρ_17)))) := hD
            exact T203 ρ_17 _ _ _ hP hD hS (lv_sub hl [0, 1, 2, 3, 4, 5, 6, 7, 8] rfl)
        refine lv_iload hx hb dL_law_106 (lv_at hl 7 rfl) ?_
        refine lv_aload_n hx hb dL_law_108 rfl (lv_at hl 1 rfl) ?_
        refine lv_iload hx hb dL_law_109 (lv_at hl 8 rfl) ?_
        refine MX.callV0 (C := RX1) (T := TX1) (N := 2) (As := [.int (nI i)]) (rest := [.int (sumI (lsB σ) i)]) (w0 := sC cI cL sm q σ n k) (w2 := []) (wB := fun ρ => (sC cI cL sm q σ n k) ++ ((oC ob h h2) ++ ((mC cI cZ h a σ) ++ (mC cI cZ h2 a2 ρ)))) (c_X1_isRuined l D cI cZ cL ob h a h2 a2 σ ρ hst hB i (by omega)) ⟨hx, hb, hml, hown, hts⟩ q291 b_X1_isRuined (n := 1) (by decide +kernel) ⟨(Nat.le_of_ble_eq_true rfl), (Nat.le_of_ble_eq_true rfl)⟩ hK hP hD hS hA hE (by rw [List.append_nil]) (fun _ => by rw [List.append_nil]) (ci := 1) rfl rfl rfl hl.1 rfl (Nat.le_of_ble_eq_true rfl) dL_law_111 ⟨by show (c0 + 10) + 0 ≤ 650901; omega, by show (s0 + 100) + 0 ≤ 7148764; omega⟩ (fun ρ_18 H locs hP hD hS => ?_)
        have hP : va_P D vwCl ((sC cI cL sm q σ n k) ++ ((oC ob h h2) ++ ((mC cI cZ h a σ) ++ (mC cI cZ h2 a2 ρ_18)))) H := hP
        have hD : va_D A ((sC cI cL sm q σ n k) ++ ((oC ob h h2) ++ ((mC cI cZ h a σ) ++ (mC cI cZ h2 a2 ρ_18)))) := hD
        refine W.wide (k := (c0 + 10)) (n := (s0 + 100)) (by show (c0 + 10) + 0 ≤ (c0 + 10); omega) (by show (s0 + 100) + 0 ≤ (s0 + 100); omega) ?_
        refine lv_if_eq (tgt := 129) hx hb dL_law_114 (by decide) (fun c_114 => ?_) (fun c_114 => ?_)
        · refine lv_iconst (v := 0) hx hb dL_law_129 (by decide) ?_
          refine lv_iadd hx hb dL_law_130 ?_
          refine lv_topi (fun v_19 ev_19 => ?_)
          refine lv_istore (lv' := [(8, .int v_19), (0, .ref b), (1, .ref ob), (2, .ref sm), (3, .int (nI t)), (4, .int xv), (5, .long (digS σ)), (7, .int (nI n)), (9, .int (nI i))]) hx hb dL_law_131 hl (by decide) rfl (fun ls hl => ?_)
          have e7 : v_19 = sumI (lsB σ) (i + 1) := by
            rw [ev_19]
            exact sum_1 (g := (lsB σ)) (by unfold lsB; rw [if_pos c_114])
          rw [e7] at hl
          have hP : va_P D vwCl ((sC cI cL sm q σ n k) ++ ((oC ob h h2) ++ ((mC cI cZ h a σ) ++ (mC cI cZ h2 a2 ρ_18)))) H := hP
          have hD : va_D A ((sC cI cL sm q σ n k) ++ ((oC ob h h2) ++ ((mC cI cZ h a σ) ++ (mC cI cZ h2 a2 ρ_18)))) := hD
          exact T133 ρ_18 _ _ _ hP hD hS (lv_sub hl [1, 2, 3, 4, 5, 6, 7, 0, 8] rfl)
        · refine lv_aload_n hx hb dL_law_117 rfl (lv_at hl 2 rfl) ?_
          refine s_get hx hb hts hown hK hP (σ := σ) (n := n) (k := k) (q := q) (sm := sm) (w0 := []) (w2 := (oC ob h h2) ++ ((mC cI cZ h a σ) ++ (mC cI cZ h2 a2 ρ_18))) rfl 0 (by decide) q434 (v := .ref q.1.1) rfl dL_law_118 ?_
          refine lv_iload hx hb dL_law_121 (lv_at hl 8 rfl) ?_
          refine s_alF hx hb hK hP (σ := σ) (n := n) (k := k) (q := q) (sm := sm) (w0 := []) (w2 := (oC ob h h2) ++ ((mC cI cZ h a σ) ++ (mC cI cZ h2 a2 ρ_18))) rfl i (rfl) (by omega) (by omega) dL_law_123 ?_
          refine lv_iconst (v := 1) hx hb dL_law_124 (by decide) ?_
          refine s_ldF hx hb hK hP (σ := σ) (n := n) (k := k) (q := q) (sm := sm) (w0 := []) (w2 := (oC ob h h2) ++ ((mC cI cZ h a σ) ++ (mC cI cZ h2 a2 ρ_18))) rfl i (by omega) 1 rfl (by decide) (v := σ 1 i) rfl dL_law_125 ?_
          refine lv_goto (tgt := 130) hx hb dL_law_126 (by decide) ?_
          refine lv_iadd hx hb dL_law_130 ?_
          refine lv_topi (fun v_20 ev_20 => ?_)
          refine lv_istore (lv' := [(8, .int v_20), (0, .ref b), (1, .ref ob), (2, .ref sm), (3, .int (nI t)), (4, .int xv), (5, .long (digS σ)), (7, .int (nI n)), (9, .int (nI i))]) hx hb dL_law_131 hl (by decide) rfl (fun ls hl => ?_)
          have e7 : v_20 = sumI (lsB σ) (i + 1) := by
            rw [ev_20]
            exact sum_1 (g := (lsB σ)) (by unfold lsB; rw [if_neg c_114])
          rw [e7] at hl
          have hP : va_P D vwCl ((sC cI cL sm q σ n k) ++ ((oC ob h h2) ++ ((mC cI cZ h a σ) ++ (mC cI cZ h2 a2 ρ_18)))) H := hP
          have hD : va_D A ((sC cI cL sm q σ n k) ++ ((oC ob h h2) ++ ((mC cI cZ h a σ) ++ (mC cI cZ h2 a2 ρ_18)))) := hD
          exact T133 ρ_18 _ _ _ hP hD hS (lv_sub hl [1, 2, 3, 4, 5, 6, 7, 0, 8] rfl)
  exact L99 (n + 1) 0 ρ_2 (by omega) (by omega) _ _ _ hP hD hS (lv_sub hl [0, 1, 2, 3, 4, 5, 6, 7, 8] rfl)

set_option maxHeartbeats 16000000 in
set_option maxRecDepth 100000 in
theorem law_C (l : Launch) {p : Program} {e : Env} {s : State} {m : MethodId} {args : Array Value} {below : List Frame} {meth : Method} {c : Code} {Q : State → Prop} (D : va_G) (cI cZ cL : ClassId) {A : Nat → Prop} {b L : Nat} {xs : Nat → Int32} (sm ob h : Nat) (a : Nat → Nat) (h2 : Nat) (a2 : Nat → Nat) (hx : p.tables.exec = Jvm.exec) (hb : c.code = cL_law) (hml : c.maxLocals = 30) (hown : s.vm.findClass RL = some m.cls) (hts : ∀ w ∈ LW, w.before args s = true) (hE9 : EY (some (b, L, xs)) A s s.heap) (hK : va_K D vwCl (tZ cI cZ cL) s) (hA : ∀ q : Nat, s.heap.size ≤ q → A q) (hL : L ≤ 260) {t : Nat} (ht : t < 5) {c0 s0 : Nat} (hc0 : c0 + 700 ≤ 650901) (hs0 : s0 + 7000 ≤ 7148764) {n k B : Nat} (q : SA) (σ : Sg) (hI : Iv n k B σ) (hn2 : 2 ≤ n) (hB9 : B + 100000 < 2 ^ 28) (xv : Int32) (NX : (∀ (ρ : Sg) (H : Heap) (locs : List Loc) (ls : Array Slot), va_P D vwCl ((sC cI cL sm q σ n k) ++ ((oC ob h h2) ++ ((mC cI cZ h a σ) ++ (mC cI cZ h2 a2 ρ)))) H → va_D A ((sC cI cL sm q σ n k) ++ ((oC ob h h2) ++ ((mC cI cZ h a σ) ++ (mC cI cZ h2 a2 ρ)))) → va_S A s.heap H locs → lv_has ls 30 [(0, .ref b), (1, .ref ob), (2, .ref sm), (3, .int (nI t)), (4, .int xv), (5, .long (digS σ)), (7, .int (nI n)), (8, .int (lost σ)), (9, .int (sumI (seaB σ) k))] → W p l e room_1 s m args below meth c H locs (c0 + 10) (s0 + 100) Q (F0 m 461 ls []))) (τ : Sg) {H : Heap} {locs : List Loc} {ls : Array Slot} (hP : va_P D vwCl ((sC cI cL sm q σ n k) ++ ((oC ob h h2) ++ ((mC cI cZ h a σ) ++ (mC cI cZ h2 a2 τ)))) H) (hD : va_D A ((sC cI cL sm q σ n k) ++ ((oC ob h h2) ++ ((mC cI cZ h a σ) ++ (mC cI cZ h2 a2 τ))))) (hS : va_S A s.heap H locs) (hl : lv_has ls 30 [(0, .ref b), (1, .ref ob), (2, .ref sm), (3, .int (nI t)), (4, .int xv), (5, .long (digS σ)), (7, .int (nI n)), (8, .int (lost σ))]) : W p l e room_1 s m args below meth c H locs (c0 + 10) (s0 + 100) Q (F0 m 272 ls []) := by
  have hst : Shp n k σ := hI.1
  have hB : Bnd B σ := hI.2.1
  have hn10 := hst.1
  have hk16 := hst.2.1
  have hE : EX A s s.heap := hE9.1
  refine lv_iconst (v := 0) hx hb dL_law_272 (by decide) ?_
  refine lv_istore (lv' := [(9, .int 0), (0, .ref b), (1, .ref ob), (2, .ref sm), (3, .int (nI t)), (4, .int xv), (5, .long (digS σ)), (7, .int (nI n)), (8, .int (lost σ))]) hx hb dL_law_273 hl (by decide) rfl (fun ls hl => ?_)
  refine lv_iconst (v := 0) hx hb dL_law_275 (by decide) ?_
  refine lv_istore (lv' := [(10, .int 0), (9, .int 0), (0, .ref b), (1, .ref ob), (2, .ref sm), (3, .int (nI t)), (4, .int xv), (5, .long (digS σ)), (7, .int (nI n)), (8, .int (lost σ))]) hx hb dL_law_276 hl (by decide) rfl (fun ls hl => ?_)
  have hl := lv_sub hl [2, 3, 4, 5, 6, 7, 8, 9, 1, 0] rfl
  have hl : lv_has ls 30 [(0, .ref b), (1, .ref ob), (2, .ref sm), (3, .int (nI t)), (4, .int xv), (5, .long (digS σ)), (7, .int (nI n)), (8, .int (lost σ)), (9, .int (sumI (seaB σ) 0)), (10, .int (nI 0))] := hl
  have L278 : ∀ (f d : Nat) (ρ : Sg), d ≤ k → k < d + f → ∀ (H : Heap) (locs : List Loc) (ls : Array Slot), va_P D vwCl ((sC cI cL sm q σ n k) ++ ((oC ob h h2) ++ ((mC cI cZ h a σ) ++ (mC cI cZ h2 a2 ρ)))) H → va_D A ((sC cI cL sm q σ n k) ++ ((oC ob h h2) ++ ((mC cI cZ h a σ) ++ (mC cI cZ h2 a2 ρ)))) → va_S A s.heap H locs → lv_has ls 30 [(0, .ref b), (1, .ref ob), (2, .ref sm), (3, .int (nI t)), (4, .int xv), (5, .long (digS σ)), (7, .int (nI n)), (8, .int (lost σ)), (9, .int (sumI (seaB σ) d)), (10, .int (nI d))] → W p l e room_1 s m args below meth c H locs (c0 + 10) (s0 + 100) Q (F0 m 278 ls []) := by
    intro f
    induction f with
    | zero => intro d ρ h1 h2; exact absurd h2 (by omega)
    | succ f ih_278 =>
      intro d ρ hi_278 hf_278 H locs ls hP hD hS hl
      refine lv_iload hx hb dL_law_278 (lv_at hl 9 rfl) ?_
      refine lv_aload_n hx hb dL_law_280 rfl (lv_at hl 1 rfl) ?_
      refine MX.callV0 (C := RX1) (T := TX1) (N := 2) (As := []) (rest := [.int (nI d)]) (w0 := sC cI cL sm q σ n k) (w2 := []) (wB := fun ρ => (sC cI cL sm q σ n k) ++ ((oC ob h h2) ++ ((mC cI cZ h a σ) ++ (mC cI cZ h2 a2 ρ)))) (c_X1_drains l D cI cZ cL ob h a h2 a2 σ ρ ) ⟨hx, hb, hml, hown, hts⟩ q230 b_X1_drains (n := 0) (by decide +kernel) ⟨(Nat.le_of_ble_eq_true rfl), (Nat.le_of_ble_eq_true rfl)⟩ hK hP hD hS hA hE (by rw [List.append_nil]) (fun _ => by rw [List.append_nil]) (ci := 1) rfl rfl rfl hl.1 rfl (Nat.le_of_ble_eq_true rfl) dL_law_281 ⟨by show (c0 + 10) + 0 ≤ 650901; omega, by show (s0 + 100) + 0 ≤ 7148764; omega⟩ (fun ρ_1 H locs hP hD hS => ?_)
      have hP : va_P D vwCl ((sC cI cL sm q σ n k) ++ ((oC ob h h2) ++ ((mC cI cZ h a σ) ++ (mC cI cZ h2 a2 ρ_1)))) H := hP
      have hD : va_D A ((sC cI cL sm q σ n k) ++ ((oC ob h h2) ++ ((mC cI cZ h a σ) ++ (mC cI cZ h2 a2 ρ_1)))) := hD
      refine W.wide (k := (c0 + 10)) (n := (s0 + 100)) (by show (c0 + 10) + 0 ≤ (c0 + 10); omega) (by show (s0 + 100) + 0 ≤ (s0 + 100); omega) ?_
      refine x_top (hst.f1) ?_
      refine lv_icmp_ge (tgt := 461) hx hb dL_law_284 (by decide) (fun c_284 => ?_) (fun c_284 => ?_)
      · have hc_284 : k ≤ d := (nI_leI (a := k) (b := d) (by omega) (by omega)).mp c_284
        rw [show d = k by omega] at hl
        have hP : va_P D vwCl ((sC cI cL sm q σ n k) ++ ((oC ob h h2) ++ ((mC cI cZ h a σ) ++ (mC cI cZ h2 a2 ρ_1)))) H := hP
        have hD : va_D A ((sC cI cL sm q σ n k) ++ ((oC ob h h2) ++ ((mC cI cZ h a σ) ++ (mC cI cZ h2 a2 ρ_1)))) := hD
        exact NX ρ_1 _ _ _ hP hD hS (lv_sub hl [0, 1, 2, 3, 4, 5, 6, 7, 8] rfl)
      · have hc_284 : d < k := Nat.not_le.mp (fun z => c_284 ((nI_leI (a := k) (b := d) (by omega) (by omega)).mpr z))
        obtain ⟨a0, ha0, ea0⟩ := hst.2.2.2.2.1 d (by omega)
        have T455 : (∀ (ρ : Sg) (H : Heap) (locs : List Loc) (ls : Array Slot), va_P D vwCl ((sC cI cL sm q σ n k) ++ ((oC ob h h2) ++ ((mC cI cZ h a σ) ++ (mC cI cZ h2 a2 ρ)))) H → va_D A ((sC cI cL sm q σ n k) ++ ((oC ob h h2) ++ ((mC cI cZ h a σ) ++ (mC cI cZ h2 a2 ρ)))) → va_S A s.heap H locs → lv_has ls 30 [(0, .ref b), (1, .ref ob), (2, .ref sm), (3, .int (nI t)), (4, .int xv), (5, .long (digS σ)), (7, .int (nI n)), (8, .int (lost σ)), (9, .int (sumI (seaB σ) (d + 1))), (10, .int (nI d)), (11, .ref (q.2.2 d)), (12, .int (ab (flow σ d)))] → W p l e room_1 s m args below meth c H locs (c0 + 10) (s0 + 100) Q (F0 m 455 ls [])) := by
          intro ρ H locs ls hP hD hS hl
          refine lv_iinc (v := (nI (d + 1))) (lv' := [(10, .int (nI (d + 1))), (0, .ref b), (1, .ref ob), (2, .ref sm), (3, .int (nI t)), (4, .int xv), (5, .long (digS σ)), (7, .int (nI n)), (8, .int (lost σ)), (9, .int (sumI (seaB σ) (d + 1))), (11, .ref (q.2.2 d)), (12, .int (ab (flow σ d)))]) hx hb dL_law_455 hl (k := 9) rfl (nI_add d 1) (by decide) rfl (fun ls hl => ?_)
          refine lv_goto (tgt := 278) hx hb dL_law_458 (by decide) ?_
          exact ih_278 (d + 1) ρ (by omega) (by omega) _ _ _ hP hD hS (lv_sub hl [1, 2, 3, 4, 5, 6, 7, 8, 9, 0] rfl)
        have T419 : (∀ (ρ : Sg) (H : Heap) (locs : List Loc) (ls : Array Slot), va_P D vwCl ((sC cI cL sm q σ n k) ++ ((oC ob h h2) ++ ((mC cI cZ h a σ) ++ (mC cI cZ h2 a2 ρ)))) H → va_D A ((sC cI cL sm q σ n k) ++ ((oC ob h h2) ++ ((mC cI cZ h a σ) ++ (mC cI cZ h2 a2 ρ)))) → va_S A s.heap H locs → lv_has ls 30 [(0, .ref b), (1, .ref ob), (2, .ref sm), (3, .int (nI t)), (4, .int xv), (5, .long (digS σ)), (7, .int (nI n)), (8, .int (lost σ)), (9, .int (sumI (seaB σ) (d + 1))), (10, .int (nI d)), (11, .ref (q.2.2 d)), (12, .int (ab (flow σ d)))] → W p l e room_1 s m args below meth c H locs (c0 + 10) (s0 + 100) Q (F0 m 419 ls [])) := by
          intro ρ H locs ls hP hD hS hl
          refine lv_aload hx hb dL_law_419 (lv_at hl 10 rfl) ?_
          refine lv_iconst (v := 3) hx hb dL_law_421 (by decide) ?_
          refine s_ldD hx hb hK hP (σ := σ) (n := n) (k := k) (q := q) (sm := sm) (w0 := []) (w2 := (oC ob h h2) ++ ((mC cI cZ h a σ) ++ (mC cI cZ h2 a2 ρ))) rfl d (by omega) 3 rfl (by decide) (v := σ 9 d) rfl dL_law_422 ?_
          refine lv_if_ne (tgt := 455) hx hb dL_law_423 (by decide) (fun c_423 => ?_) (fun c_423 => ?_)
          · have hP : va_P D vwCl ((sC cI cL sm q σ n k) ++ ((oC ob h h2) ++ ((mC cI cZ h a σ) ++ (mC cI cZ h2 a2 ρ)))) H := hP
            have hD : va_D A ((sC cI cL sm q σ n k) ++ ((oC ob h h2) ++ ((mC cI cZ h a σ) ++ (mC cI cZ h2 a2 ρ)))) := hD
            exact T455 ρ _ _ _ hP hD hS (lv_sub hl [0, 1, 2, 3, 4, 5, 6, 7, 8, 9, 10, 11] rfl)
          · obtain ⟨b0, hb0, eb0⟩ : ∃ b, b < n ∧ σ 6 d = nI b := by
              rcases hst.2.2.2.2.2 d (by omega) with z | z
              · exact absurd c_423 z.2
              · exact z
            refine lv_iconst (v := 2) hx hb dL_law_426 (by decide) ?_
            refine lv_iload hx hb dL_law_427 (lv_at hl 11 rfl) ?_
            refine lv_imul hx hb dL_law_429 ?_
            refine lv_aload_n hx hb dL_law_430 rfl (lv_at hl 1 rfl) ?_
            refine lv_aload hx hb dL_law_431 (lv_at hl 10 rfl) ?_
            refine lv_iconst (v := 0) hx hb dL_law_433 (by decide) ?_
            refine s_ldD hx hb hK hP (σ := σ) (n := n) (k := k) (q := q) (sm := sm) (w0 := []) (w2 := (oC ob h h2) ++ ((mC cI cZ h a σ) ++ (mC cI cZ h2 a2 ρ))) rfl d (by omega) 0 rfl (by decide) (v := (nI a0)) ea0 dL_law_434 ?_
            refine MX.callV0 (C := RX1) (T := TX1) (N := 2) (As := [.int (nI a0)]) (rest := [.int ((2 : Int32) * (ab (flow σ d)))]) (w0 := sC cI cL sm q σ n k) (w2 := []) (wB := fun ρ => (sC cI cL sm q σ n k) ++ ((oC ob h h2) ++ ((mC cI cZ h a σ) ++ (mC cI cZ h2 a2 ρ)))) (c_X1_levelOf l D cI cZ cL ob h a h2 a2 σ ρ hst a0 ha0) ⟨hx, hb, hml, hown, hts⟩ q279 b_X1_levelOf (n := 1) (by decide +kernel) ⟨(Nat.le_of_ble_eq_true rfl), (Nat.le_of_ble_eq_true rfl)⟩ hK hP hD hS hA hE (by rw [List.append_nil]) (fun _ => by rw [List.append_nil]) (ci := 1) rfl rfl rfl hl.1 rfl (Nat.le_of_ble_eq_true rfl) dL_law_435 ⟨by show (c0 + 10) + 0 ≤ 650901; omega, by show (s0 + 100) + 0 ≤ 7148764; omega⟩ (fun ρ_2 H locs hP hD hS => ?_)
            have hP : va_P D vwCl ((sC cI cL sm q σ n k) ++ ((oC ob h h2) ++ ((mC cI cZ h a σ) ++ (mC cI cZ h2 a2 ρ_2)))) H := hP
            have hD : va_D A ((sC cI cL sm q σ n k) ++ ((oC ob h h2) ++ ((mC cI cZ h a σ) ++ (mC cI cZ h2 a2 ρ_2)))) := hD
            refine W.wide (k := (c0 + 10)) (n := (s0 + 100)) (by show (c0 + 10) + 0 ≤ (c0 + 10); omega) (by show (s0 + 100) + 0 ≤ (s0 + 100); omega) ?_
            refine lv_aload_n hx hb dL_law_438 rfl (lv_at hl 1 rfl) ?_
            refine lv_aload hx hb dL_law_439 (lv_at hl 10 rfl) ?_
            refine lv_iconst (v := 1) hx hb dL_law_441 (by decide) ?_
            refine s_ldD hx hb hK hP (σ := σ) (n := n) (k := k) (q := q) (sm := sm) (w0 := []) (w2 := (oC ob h h2) ++ ((mC cI cZ h a σ) ++ (mC cI cZ h2 a2 ρ_2))) rfl d (by omega) 1 rfl (by decide) (v := (nI b0)) eb0 dL_law_442 ?_
            refine MX.callV0 (C := RX1) (T := TX1) (N := 2) (As := [.int (nI b0)]) (rest := [.int (σ 0 a0 + σ 2 a0), .int ((2 : Int32) * (ab (flow σ d)))]) (w0 := sC cI cL sm q σ n k) (w2 := []) (wB := fun ρ => (sC cI cL sm q σ n k) ++ ((oC ob h h2) ++ ((mC cI cZ h a σ) ++ (mC cI cZ h2 a2 ρ)))) (c_X1_levelOf l D cI cZ cL ob h a h2 a2 σ ρ_2 hst b0 hb0) ⟨hx, hb, hml, hown, hts⟩ q279 b_X1_levelOf (n := 1) (by decide +kernel) ⟨(Nat.le_of_ble_eq_true rfl), (Nat.le_of_ble_eq_true rfl)⟩ hK hP hD hS hA hE (by rw [List.append_nil]) (fun _ => by rw [List.append_nil]) (ci := 1) rfl rfl rfl hl.1 rfl (Nat.le_of_ble_eq_true rfl) dL_law_443 ⟨by show (c0 + 10) + 0 ≤ 650901; omega, by show (s0 + 100) + 0 ≤ 7148764; omega⟩ (fun ρ_3 H locs hP hD hS => ?_)
            have hP : va_P D vwCl ((sC cI cL sm q σ n k) ++ ((oC ob h h2) ++ ((mC cI cZ h a σ) ++ (mC cI cZ h2 a2 ρ_3)))) H := hP
            have hD : va_D A ((sC cI cL sm q σ n k) ++ ((oC ob h h2) ++ ((mC cI cZ h a σ) ++ (mC cI cZ h2 a2 ρ_3)))) := hD
            refine W.wide (k := (c0 + 10)) (n := (s0 + 100)) (by show (c0 + 10) + 0 ≤ (c0 + 10); omega) (by show (s0 + 100) + 0 ≤ (s0 + 100); omega) ?_
            refine lv_isub hx hb dL_law_446 ?_
            refine va_mabs hx hb (by rw [hml]; exact hl.1.symm) hown (hts _ q602) (hts _ q216) (hts _ q18) (hts _ q217) (by decide) (Nat.le_of_ble_eq_true rfl) (by show (c0 + 10) ≤ 650901; omega) (by show (s0 + 100) ≤ 7148764; omega) dL_law_447 ?_
            refine x_top (show _ = ab ((σ 0 a0 + σ 2 a0) - (σ 0 b0 + σ 2 b0)) from rfl) ?_
            refine lv_icmp_le (tgt := 455) hx hb dL_law_450 (by decide) (fun c_450 => ?_) (fun z => absurd (fl_half hst hB (by omega) (by omega) c_423 ha0 hb0 ea0 eb0) z)
            have hP : va_P D vwCl ((sC cI cL sm q σ n k) ++ ((oC ob h h2) ++ ((mC cI cZ h a σ) ++ (mC cI cZ h2 a2 ρ_3)))) H := hP
            have hD : va_D A ((sC cI cL sm q σ n k) ++ ((oC ob h h2) ++ ((mC cI cZ h a σ) ++ (mC cI cZ h2 a2 ρ_3)))) := hD
            exact T455 ρ_3 _ _ _ hP hD hS (lv_sub hl [0, 1, 2, 3, 4, 5, 6, 7, 8, 9, 10, 11] rfl)
        have T356 : (∀ (ρ : Sg) (H : Heap) (locs : List Loc) (ls : Array Slot), va_P D vwCl ((sC cI cL sm q σ n k) ++ ((oC ob h h2) ++ ((mC cI cZ h a σ) ++ (mC cI cZ h2 a2 ρ)))) H → va_D A ((sC cI cL sm q σ n k) ++ ((oC ob h h2) ++ ((mC cI cZ h a σ) ++ (mC cI cZ h2 a2 ρ)))) → va_S A s.heap H locs → lv_has ls 30 [(0, .ref b), (1, .ref ob), (2, .ref sm), (3, .int (nI t)), (4, .int xv), (5, .long (digS σ)), (7, .int (nI n)), (8, .int (lost σ)), (9, .int (sumI (seaB σ) (d + 1))), (10, .int (nI d)), (11, .ref (q.2.2 d)), (12, .int (ab (flow σ d)))] → W p l e room_1 s m args below meth c H locs (c0 + 10) (s0 + 100) Q (F0 m 356 ls [])) := by
          intro ρ H locs ls hP hD hS hl
          refine lv_aload_n hx hb dL_law_356 rfl (lv_at hl 1 rfl) ?_
          refine lv_iload hx hb dL_law_357 (lv_at hl 9 rfl) ?_
          refine MX.callV0 (C := RX1) (T := TX1) (N := 2) (As := [.int (nI d)]) (rest := []) (w0 := sC cI cL sm q σ n k) (w2 := []) (wB := fun ρ => (sC cI cL sm q σ n k) ++ ((oC ob h h2) ++ ((mC cI cZ h a σ) ++ (mC cI cZ h2 a2 ρ)))) (c_X1_isOpen l D cI cZ cL ob h a h2 a2 σ ρ hst hB d (by omega)) ⟨hx, hb, hml, hown, hts⟩ q317 b_X1_isOpen (n := 1) (by decide +kernel) ⟨(Nat.le_of_ble_eq_true rfl), (Nat.le_of_ble_eq_true rfl)⟩ hK hP hD hS hA hE (by rw [List.append_nil]) (fun _ => by rw [List.append_nil]) (ci := 1) rfl rfl rfl hl.1 rfl (Nat.le_of_ble_eq_true rfl) dL_law_359 ⟨by show (c0 + 10) + 0 ≤ 650901; omega, by show (s0 + 100) + 0 ≤ 7148764; omega⟩ (fun ρ_4 H locs hP hD hS => ?_)
          have hP : va_P D vwCl ((sC cI cL sm q σ n k) ++ ((oC ob h h2) ++ ((mC cI cZ h a σ) ++ (mC cI cZ h2 a2 ρ_4)))) H := hP
          have hD : va_D A ((sC cI cL sm q σ n k) ++ ((oC ob h h2) ++ ((mC cI cZ h a σ) ++ (mC cI cZ h2 a2 ρ_4)))) := hD
          refine W.wide (k := (c0 + 10)) (n := (s0 + 100)) (by show (c0 + 10) + 0 ≤ (c0 + 10); omega) (by show (s0 + 100) + 0 ≤ (s0 + 100); omega) ?_
          refine lv_if_eq (tgt := 419) hx hb dL_law_362 (by decide) (fun c_362 => ?_) (fun c_362 => ?_)
          · have hP : va_P D vwCl ((sC cI cL sm q σ n k) ++ ((oC ob h h2) ++ ((mC cI cZ h a σ) ++ (mC cI cZ h2 a2 ρ_4)))) H := hP
            have hD : va_D A ((sC cI cL sm q σ n k) ++ ((oC ob h h2) ++ ((mC cI cZ h a σ) ++ (mC cI cZ h2 a2 ρ_4)))) := hD
            exact T419 ρ_4 _ _ _ hP hD hS (lv_sub hl [0, 1, 2, 3, 4, 5, 6, 7, 8, 9, 10, 11] rfl)
          · refine lv_aload hx hb dL_law_365 (lv_at hl 10 rfl) ?_
            refine lv_iconst (v := 1) hx hb dL_law_367 (by decide) ?_
            refine s_ldD hx hb hK hP (σ := σ) (n := n) (k := k) (q := q) (sm := sm) (w0 := []) (w2 := (oC ob h h2) ++ ((mC cI cZ h a σ) ++ (mC cI cZ h2 a2 ρ_4))) rfl d (by omega) 1 rfl (by decide) (v := σ 6 d) rfl dL_law_368 ?_
            refine lv_if_lt (tgt := 419) hx hb dL_law_369 (by decide) (fun c_369 => ?_) (fun c_369 => ?_)
            · have hP : va_P D vwCl ((sC cI cL sm q σ n k) ++ ((oC ob h h2) ++ ((mC cI cZ h a σ) ++ (mC cI cZ h2 a2 ρ_4)))) H := hP
              have hD : va_D A ((sC cI cL sm q σ n k) ++ ((oC ob h h2) ++ ((mC cI cZ h a σ) ++ (mC cI cZ h2 a2 ρ_4)))) := hD
              exact T419 ρ_4 _ _ _ hP hD hS (lv_sub hl [0, 1, 2, 3, 4, 5, 6, 7, 8, 9, 10, 11] rfl)
            · obtain ⟨b0, hb0, eb0⟩ : ∃ b, b < n ∧ σ 6 d = nI b := by
                rcases hst.2.2.2.2.2 d (by omega) with z | z
                · exact absurd c_369 (by rw [z.1]; decide)
                · exact z
              refine lv_aload_n hx hb dL_law_372 rfl (lv_at hl 1 rfl) ?_
              refine lv_aload hx hb dL_law_373 (lv_at hl 10 rfl) ?_
              refine lv_iconst (v := 0) hx hb dL_law_375 (by decide) ?_
              refine s_ldD hx hb hK hP (σ := σ) (n := n) (k := k) (q := q) (sm := sm) (w0 := []) (w2 := (oC ob h h2) ++ ((mC cI cZ h a σ) ++ (mC cI cZ h2 a2 ρ_4))) rfl d (by omega) 0 rfl (by decide) (v := (nI a0)) ea0 dL_law_376 ?_
              refine MX.callV0 (C := RX1) (T := TX1) (N := 2) (As := [.int (nI a0)]) (rest := []) (w0 := sC cI cL sm q σ n k) (w2 := []) (wB := fun ρ => (sC cI cL sm q σ n k) ++ ((oC ob h h2) ++ ((mC cI cZ h a σ) ++ (mC cI cZ h2 a2 ρ)))) (c_X1_reaches l D cI cZ cL ob h a h2 a2 σ ρ_4 hst a0 (by omega)) ⟨hx, hb, hml, hown, hts⟩ q299 b_X1_reaches (n := 1) (by decide +kernel) ⟨(Nat.le_of_ble_eq_true rfl), (Nat.le_of_ble_eq_true rfl)⟩ hK hP hD hS hA hE (by rw [List.append_nil]) (fun _ => by rw [List.append_nil]) (ci := 1) rfl rfl rfl hl.1 rfl (Nat.le_of_ble_eq_true rfl) dL_law_377 ⟨by show (c0 + 10) + 0 ≤ 650901; omega, by show (s0 + 100) + 0 ≤ 7148764; omega⟩ (fun ρ_5 H locs hP hD hS => ?_)
              have hP : va_P D vwCl ((sC cI cL sm q σ n k) ++ ((oC ob h h2) ++ ((mC cI cZ h a σ) ++ (mC cI cZ h2 a2 ρ_5)))) H := hP
              have hD : va_D A ((sC cI cL sm q σ n k) ++ ((oC ob h h2) ++ ((mC cI cZ h a σ) ++ (mC cI cZ h2 a2 ρ_5)))) := hD
              refine W.wide (k := (c0 + 10)) (n := (s0 + 100)) (by show (c0 + 10) + 0 ≤ (c0 + 10); omega) (by show (s0 + 100) + 0 ≤ (s0 + 100); omega) ?_
              refine lv_aload_n hx hb dL_law_380 rfl (lv_at hl 1 rfl) ?_
              refine lv_aload hx hb dL_law_381 (lv_at hl 10 rfl) ?_
              refine lv_iconst (v := 1) hx hb dL_law_383 (by decide) ?_
              refine s_ldD hx hb hK hP (σ := σ) (n := n) (k := k) (q := q) (sm := sm) (w0 := []) (w2 := (oC ob h h2) ++ ((mC cI cZ h a σ) ++ (mC cI cZ h2 a2 ρ_5))) rfl d (by omega) 1 rfl (by decide) (v := (nI b0)) eb0 dL_law_384 ?_
              refine MX.callV0 (C := RX1) (T := TX1) (N := 2) (As := [.int (nI b0)]) (rest := [.int (reachS σ a0)]) (w0 := sC cI cL sm q σ n k) (w2 := []) (wB := fun ρ => (sC cI cL sm q σ n k) ++ ((oC ob h h2) ++ ((mC cI cZ h a σ) ++ (mC cI cZ h2 a2 ρ)))) (c_X1_reaches l D cI cZ cL ob h a h2 a2 σ ρ_5 hst b0 (by omega)) ⟨hx, hb, hml, hown, hts⟩ q299 b_X1_reaches (n := 1) (by decide +kernel) ⟨(Nat.le_of_ble_eq_true rfl), (Nat.le_of_ble_eq_true rfl)⟩ hK hP hD hS hA hE (by rw [List.append_nil]) (fun _ => by rw [List.append_nil]) (ci := 1) rfl rfl rfl hl.1 rfl (Nat.le_of_ble_eq_true rfl) dL_law_385 ⟨by show (c0 + 10) + 0 ≤ 650901; omega, by show (s0 + 100) + 0 ≤ 7148764; omega⟩ (fun ρ_6 H locs hP hD hS => ?_)
              have hP : va_P D vwCl ((sC cI cL sm q σ n k) ++ ((oC ob h h2) ++ ((mC cI cZ h a σ) ++ (mC cI cZ h2 a2 ρ_6)))) H := hP
              have hD : va_D A ((sC cI cL sm q σ n k) ++ ((oC ob h h2) ++ ((mC cI cZ h a σ) ++ (mC cI cZ h2 a2 ρ_6)))) := hD
              refine W.wide (k := (c0 + 10)) (n := (s0 + 100)) (by show (c0 + 10) + 0 ≤ (c0 + 10); omega) (by show (s0 + 100) + 0 ≤ (s0 + 100); omega) ?_
              refine lv_icmp_lt (tgt := 417) hx hb dL_law_388 (by decide) (fun z => absurd z (re_to hst (by omega) c_362 ha0 hb0 ea0 eb0)) (fun c_388 => ?_)
              refine lv_aload hx hb dL_law_391 (lv_at hl 10 rfl) ?_
              refine lv_iconst (v := 3) hx hb dL_law_393 (by decide) ?_
              refine s_ldD hx hb hK hP (σ := σ) (n := n) (k := k) (q := q) (sm := sm) (w0 := []) (w2 := (oC ob h h2) ++ ((mC cI cZ h a σ) ++ (mC cI cZ h2 a2 ρ_6))) rfl d (by omega) 3 rfl (by decide) (v := σ 9 d) rfl dL_law_394 ?_
              refine lv_if_ne (tgt := 419) hx hb dL_law_395 (by decide) (fun c_395 => ?_) (fun c_395 => ?_)
              · have hP : va_P D vwCl ((sC cI cL sm q σ n k) ++ ((oC ob h h2) ++ ((mC cI cZ h a σ) ++ (mC cI cZ h2 a2 ρ_6)))) H := hP
                have hD : va_D A ((sC cI cL sm q σ n k) ++ ((oC ob h h2) ++ ((mC cI cZ h a σ) ++ (mC cI cZ h2 a2 ρ_6)))) := hD
                exact T419 ρ_6 _ _ _ hP hD hS (lv_sub hl [0, 1, 2, 3, 4, 5, 6, 7, 8, 9, 10, 11] rfl)
              · refine lv_aload_n hx hb dL_law_398 rfl (lv_at hl 1 rfl) ?_
                refine lv_aload hx hb dL_law_399 (lv_at hl 10 rfl) ?_
                refine lv_iconst (v := 0) hx hb dL_law_401 (by decide) ?_
                refine s_ldD hx hb hK hP (σ := σ) (n := n) (k := k) (q := q) (sm := sm) (w0 := []) (w2 := (oC ob h h2) ++ ((mC cI cZ h a σ) ++ (mC cI cZ h2 a2 ρ_6))) rfl d (by omega) 0 rfl (by decide) (v := (nI a0)) ea0 dL_law_402 ?_
                refine MX.callV0 (C := RX1) (T := TX1) (N := 2) (As := [.int (nI a0)]) (rest := []) (w0 := sC cI cL sm q σ n k) (w2 := []) (wB := fun ρ => (sC cI cL sm q σ n k) ++ ((oC ob h h2) ++ ((mC cI cZ h a σ) ++ (mC cI cZ h2 a2 ρ)))) (c_X1_reaches l D cI cZ cL ob h a h2 a2 σ ρ_6 hst a0 (by omega)) ⟨hx, hb, hml, hown, hts⟩ q299 b_X1_reaches (n := 1) (by decide +kernel) ⟨(Nat.le_of_ble_eq_true rfl), (Nat.le_of_ble_eq_true rfl)⟩ hK hP hD hS hA hE (by rw [List.append_nil]) (fun _ => by rw [List.append_nil]) (ci := 1) rfl rfl rfl hl.1 rfl (Nat.le_of_ble_eq_true rfl) dL_law_403 ⟨by show (c0 + 10) + 0 ≤ 650901; omega, by show (s0 + 100) + 0 ≤ 7148764; omega⟩ (fun ρ_7 H locs hP hD hS => ?_)
                have hP : va_P D vwCl ((sC cI cL sm q σ n k) ++ ((oC ob h h2) ++ ((mC cI cZ h a σ) ++ (mC cI cZ h2 a2 ρ_7)))) H := hP
                have hD : va_D A ((sC cI cL sm q σ n k) ++ ((oC ob h h2) ++ ((mC cI cZ h a σ) ++ (mC cI cZ h2 a2 ρ_7)))) := hD
                refine W.wide (k := (c0 + 10)) (n := (s0 + 100)) (by show (c0 + 10) + 0 ≤ (c0 + 10); omega) (by show (s0 + 100) + 0 ≤ (s0 + 100); omega) ?_
                refine lv_aload_n hx hb dL_law_406 rfl (lv_at hl 1 rfl) ?_
                refine lv_aload hx hb dL_law_407 (lv_at hl 10 rfl) ?_
                refine lv_iconst (v := 1) hx hb dL_law_409 (by decide) ?_
                refine s_ldD hx hb hK hP (σ := σ) (n := n) (k := k) (q := q) (sm := sm) (w0 := []) (w2 := (oC ob h h2) ++ ((mC cI cZ h a σ) ++ (mC cI cZ h2 a2 ρ_7))) rfl d (by omega) 1 rfl (by decide) (v := (nI b0)) eb0 dL_law_410 ?_
                refine MX.callV0 (C := RX1) (T := TX1) (N := 2) (As := [.int (nI b0)]) (rest := [.int (reachS σ a0)]) (w0 := sC cI cL sm q σ n k) (w2 := []) (wB := fun ρ => (sC cI cL sm q σ n k) ++ ((oC ob h h2) ++ ((mC cI cZ h a σ) ++ (mC cI cZ h2 a2 ρ)))) (c_X1_reaches l D cI cZ cL ob h a h2 a2 σ ρ_7 hst b0 (by omega)) ⟨hx, hb, hml, hown, hts⟩ q299 b_X1_reaches (n := 1) (by decide +kernel) ⟨(Nat.le_of_ble_eq_true rfl), (Nat.le_of_ble_eq_true rfl)⟩ hK hP hD hS hA hE (by rw [List.append_nil]) (fun _ => by rw [List.append_nil]) (ci := 1) rfl rfl rfl hl.1 rfl (Nat.le_of_ble_eq_true rfl) dL_law_411 ⟨by show (c0 + 10) + 0 ≤ 650901; omega, by show (s0 + 100) + 0 ≤ 7148764; omega⟩ (fun ρ_8 H locs hP hD hS => ?_)
                have hP : va_P D vwCl ((sC cI cL sm q σ n k) ++ ((oC ob h h2) ++ ((mC cI cZ h a σ) ++ (mC cI cZ h2 a2 ρ_8)))) H := hP
                have hD : va_D A ((sC cI cL sm q σ n k) ++ ((oC ob h h2) ++ ((mC cI cZ h a σ) ++ (mC cI cZ h2 a2 ρ_8)))) := hD
                refine W.wide (k := (c0 + 10)) (n := (s0 + 100)) (by show (c0 + 10) + 0 ≤ (c0 + 10); omega) (by show (s0 + 100) + 0 ≤ (s0 + 100); omega) ?_
                refine lv_icmp_eq (tgt := 419) hx hb dL_law_414 (by decide) (fun c_414 => ?_) (fun z => absurd (re_eq hst (by omega) c_362 c_395 ha0 hb0 ea0 eb0) z)
                have hP : va_P D vwCl ((sC cI cL sm q σ n k) ++ ((oC ob h h2) ++ ((mC cI cZ h a σ) ++ (mC cI cZ h2 a2 ρ_8)))) H := hP
                have hD : va_D A ((sC cI cL sm q σ n k) ++ ((oC ob h h2) ++ ((mC cI cZ h a σ) ++ (mC cI cZ h2 a2 ρ_8)))) := hD
                exact T419 ρ_8 _ _ _ hP hD hS (lv_sub hl [0, 1, 2, 3, 4, 5, 6, 7, 8, 9, 10, 11] rfl)
        have T326 : (∀ (ρ : Sg) (H : Heap) (locs : List Loc) (ls : Array Slot), va_P D vwCl ((sC cI cL sm q σ n k) ++ ((oC ob h h2) ++ ((mC cI cZ h a σ) ++ (mC cI cZ h2 a2 ρ)))) H → va_D A ((sC cI cL sm q σ n k) ++ ((oC ob h h2) ++ ((mC cI cZ h a σ) ++ (mC cI cZ h2 a2 ρ)))) → va_S A s.heap H locs → lv_has ls 30 [(0, .ref b), (1, .ref ob), (2, .ref sm), (3, .int (nI t)), (4, .int xv), (5, .long (digS σ)), (7, .int (nI n)), (8, .int (lost σ)), (9, .int (sumI (seaB σ) (d + 1))), (10, .int (nI d)), (11, .ref (q.2.2 d)), (12, .int (ab (flow σ d)))] → W p l e room_1 s m args below meth c H locs (c0 + 10) (s0 + 100) Q (F0 m 326 ls [])) := by
          intro ρ H locs ls hP hD hS hl
          refine lv_iload hx hb dL_law_326 (lv_at hl 11 rfl) ?_
          refine lv_if_lt (tgt := 354) hx hb dL_law_328 (by decide) (fun z => absurd z (fl_ge0 hst hB (by omega) (by omega))) (fun c_328 => ?_)
          refine lv_iload hx hb dL_law_331 (lv_at hl 11 rfl) ?_
          refine lv_aload hx hb dL_law_333 (lv_at hl 10 rfl) ?_
          refine lv_iconst (v := 2) hx hb dL_law_335 (by decide) ?_
          refine s_ldD hx hb hK hP (σ := σ) (n := n) (k := k) (q := q) (sm := sm) (w0 := []) (w2 := (oC ob h h2) ++ ((mC cI cZ h a σ) ++ (mC cI cZ h2 a2 ρ))) rfl d (by omega) 2 rfl (by decide) (v := σ 7 d) rfl dL_law_336 ?_
          refine lv_icmp_gt (tgt := 354) hx hb dL_law_337 (by decide) (fun z => absurd z (fl_most hst hB (by omega) (by omega))) (fun c_337 => ?_)
          refine lv_aload_n hx hb dL_law_340 rfl (lv_at hl 1 rfl) ?_
          refine lv_iload hx hb dL_law_341 (lv_at hl 9 rfl) ?_
          refine MX.callV0 (C := RX1) (T := TX1) (N := 2) (As := [.int (nI d)]) (rest := []) (w0 := sC cI cL sm q σ n k) (w2 := []) (wB := fun ρ => (sC cI cL sm q σ n k) ++ ((oC ob h h2) ++ ((mC cI cZ h a σ) ++ (mC cI cZ h2 a2 ρ)))) (c_X1_isOpen l D cI cZ cL ob h a h2 a2 σ ρ hst hB d (by omega)) ⟨hx, hb, hml, hown, hts⟩ q317 b_X1_isOpen (n := 1) (by decide +kernel) ⟨(Nat.le_of_ble_eq_true rfl), (Nat.le_of_ble_eq_true rfl)⟩ hK hP hD hS hA hE (by rw [List.append_nil]) (fun _ => by rw [List.append_nil]) (ci := 1) rfl rfl rfl hl.1 rfl (Nat.le_of_ble_eq_true rfl) dL_law_343 ⟨by show (c0 + 10) + 0 ≤ 650901; omega, by show (s0 + 100) + 0 ≤ 7148764; omega⟩ (fun ρ_9 H locs hP hD hS => ?_)
          have hP : va_P D vwCl ((sC cI cL sm q σ n k) ++ ((oC ob h h2) ++ ((mC cI cZ h a σ) ++ (mC cI cZ h2 a2 ρ_9)))) H := hP
          have hD : va_D A ((sC cI cL sm q σ n k) ++ ((oC ob h h2) ++ ((mC cI cZ h a σ) ++ (mC cI cZ h2 a2 ρ_9)))) := hD
          refine W.wide (k := (c0 + 10)) (n := (s0 + 100)) (by show (c0 + 10) + 0 ≤ (c0 + 10); omega) (by show (s0 + 100) + 0 ≤ (s0 + 100); omega) ?_
          refine lv_if_ne (tgt := 356) hx hb dL_law_346 (by decide) (fun c_346 => ?_) (fun c_346 => ?_)
          · have hP : va_P D vwCl ((sC cI cL sm q σ n k) ++ ((oC ob h h2) ++ ((mC cI cZ h a σ) ++ (mC cI cZ h2 a2 ρ_9)))) H := hP
            have hD : va_D A ((sC cI cL sm q σ n k) ++ ((oC ob h h2) ++ ((mC cI cZ h a σ) ++ (mC cI cZ h2 a2 ρ_9)))) := hD
            exact T356 ρ_9 _ _ _ hP hD hS (lv_sub hl [0, 1, 2, 3, 4, 5, 6, 7, 8, 9, 10, 11] rfl)
          · refine lv_iload hx hb dL_law_349 (lv_at hl 11 rfl) ?_
            refine lv_if_le (tgt := 356) hx hb dL_law_351 (by decide) (fun c_351 => ?_) (fun z => absurd (fl_shut hst hB (by omega) (by omega) c_346) z)
            have hP : va_P D vwCl ((sC cI cL sm q σ n k) ++ ((oC ob h h2) ++ ((mC cI cZ h a σ) ++ (mC cI cZ h2 a2 ρ_9)))) H := hP
            have hD : va_D A ((sC cI cL sm q σ n k) ++ ((oC ob h h2) ++ ((mC cI cZ h a σ) ++ (mC cI cZ h2 a2 ρ_9)))) := hD
            exact T356 ρ_9 _ _ _ hP hD hS (lv_sub hl [0, 1, 2, 3, 4, 5, 6, 7, 8, 9, 10, 11] rfl)
        refine lv_aload_n hx hb dL_law_287 rfl (lv_at hl 2 rfl) ?_
        refine s_get hx hb hts hown hK hP (σ := σ) (n := n) (k := k) (q := q) (sm := sm) (w0 := []) (w2 := (oC ob h h2) ++ ((mC cI cZ h a σ) ++ (mC cI cZ h2 a2 ρ_1))) rfl 1 (by decide) q436 (v := .ref q.1.2) rfl dL_law_288 ?_
        refine lv_iload hx hb dL_law_291 (lv_at hl 9 rfl) ?_
        refine s_alD hx hb hK hP (σ := σ) (n := n) (k := k) (q := q) (sm := sm) (w0 := []) (w2 := (oC ob h h2) ++ ((mC cI cZ h a σ) ++ (mC cI cZ h2 a2 ρ_1))) rfl d (rfl) (by omega) (by omega) dL_law_293 ?_
        refine lv_astore (lv' := [(11, .ref (q.2.2 d)), (0, .ref b), (1, .ref ob), (2, .ref sm), (3, .int (nI t)), (4, .int xv), (5, .long (digS σ)), (7, .int (nI n)), (8, .int (lost σ)), (9, .int (sumI (seaB σ) d)), (10, .int (nI d))]) hx hb dL_law_294 hl (by decide) rfl (fun ls hl => ?_)
        refine lv_aload_n hx hb dL_law_296 rfl (lv_at hl 2 rfl) ?_
        refine lv_iload hx hb dL_law_297 (lv_at hl 10 rfl) ?_
        refine MX.callV0 (C := RX1) (T := TX1) (N := 2) (As := [.int (nI d)]) (rest := []) (w0 := sC cI cL sm q σ n k) (w2 := []) (wB := fun ρ => (sC cI cL sm q σ n k) ++ ((oC ob h h2) ++ ((mC cI cZ h a σ) ++ (mC cI cZ h2 a2 ρ)))) (c_X1_wouldCarry l D cI cZ cL ob h a h2 a2 σ ρ_1 hst d (by omega)) ⟨hx, hb, hml, hown, hts⟩ q331 b_X1_wouldCarry (n := 1) (by decide +kernel) ⟨(Nat.le_of_ble_eq_true rfl), (Nat.le_of_ble_eq_true rfl)⟩ hK hP hD hS hA hE (by rw [List.append_nil]) (fun _ => by rw [List.append_nil]) (ci := 1) rfl rfl rfl hl.1 rfl (Nat.le_of_ble_eq_true rfl) dL_law_299 ⟨by show (c0 + 10) + 0 ≤ 650901; omega, by show (s0 + 100) + 0 ≤ 7148764; omega⟩ (fun ρ_10 H locs hP hD hS => ?_)
        have hP : va_P D vwCl ((sC cI cL sm q σ n k) ++ ((oC ob h h2) ++ ((mC cI cZ h a σ) ++ (mC cI cZ h2 a2 ρ_10)))) H := hP
        have hD : va_D A ((sC cI cL sm q σ n k) ++ ((oC ob h h2) ++ ((mC cI cZ h a σ) ++ (mC cI cZ h2 a2 ρ_10)))) := hD
        refine W.wide (k := (c0 + 10)) (n := (s0 + 100)) (by show (c0 + 10) + 0 ≤ (c0 + 10); omega) (by show (s0 + 100) + 0 ≤ (s0 + 100); omega) ?_
        refine lv_istore (lv' := [(12, .int (ab (flow σ d))), (11, .ref (q.2.2 d)), (0, .ref b), (1, .ref ob), (2, .ref sm), (3, .int (nI t)), (4, .int xv), (5, .long (digS σ)), (7, .int (nI n)), (8, .int (lost σ)), (9, .int (sumI (seaB σ) d)), (10, .int (nI d))]) hx hb dL_law_302 hl (by decide) rfl (fun ls hl => ?_)
        refine lv_iload hx hb dL_law_304 (lv_at hl 10 rfl) ?_
        refine lv_aload hx hb dL_law_306 (lv_at hl 1 rfl) ?_
        refine lv_iconst (v := 1) hx hb dL_law_308 (by decide) ?_
        refine s_ldD hx hb hK hP (σ := σ) (n := n) (k := k) (q := q) (sm := sm) (w0 := []) (w2 := (oC ob h h2) ++ ((mC cI cZ h a σ) ++ (mC cI cZ h2 a2 ρ_10))) rfl d (by omega) 1 rfl (by decide) (v := σ 6 d) rfl dL_law_309 ?_
        refine lv_if_ge (tgt := 322) hx hb dL_law_310 (by decide) (fun c_310 => ?_) (fun c_310 => ?_)
        · refine lv_iconst (v := 0) hx hb dL_law_322 (by decide) ?_
          refine lv_iadd hx hb dL_law_323 ?_
          refine lv_topi (fun v_11 ev_11 => ?_)
          refine lv_istore (lv' := [(9, .int v_11), (12, .int (ab (flow σ d))), (11, .ref (q.2.2 d)), (0, .ref b), (1, .ref ob), (2, .ref sm), (3, .int (nI t)), (4, .int xv), (5, .long (digS σ)), (7, .int (nI n)), (8, .int (lost σ)), (10, .int (nI d))]) hx hb dL_law_324 hl (by decide) rfl (fun ls hl => ?_)
          have e7 : v_11 = sumI (seaB σ) (d + 1) := by
            rw [ev_11]
            exact sum_1 (g := (seaB σ)) (seaB_1 hst (by omega) c_310)
          rw [e7] at hl
          have hP : va_P D vwCl ((sC cI cL sm q σ n k) ++ ((oC ob h h2) ++ ((mC cI cZ h a σ) ++ (mC cI cZ h2 a2 ρ_10)))) H := hP
          have hD : va_D A ((sC cI cL sm q σ n k) ++ ((oC ob h h2) ++ ((mC cI cZ h a σ) ++ (mC cI cZ h2 a2 ρ_10)))) := hD
          exact T326 ρ_10 _ _ _ hP hD hS (lv_sub hl [3, 4, 5, 6, 7, 8, 9, 10, 0, 11, 2, 1] rfl)
        · refine lv_aload_n hx hb dL_law_313 rfl (lv_at hl 3 rfl) ?_
          refine lv_iload hx hb dL_law_314 (lv_at hl 11 rfl) ?_
          refine MX.callV0 (C := RX1) (T := TX1) (N := 2) (As := [.int (nI d)]) (rest := [.int (sumI (seaB σ) d)]) (w0 := sC cI cL sm q σ n k) (w2 := []) (wB := fun ρ => (sC cI cL sm q σ n k) ++ ((oC ob h h2) ++ ((mC cI cZ h a σ) ++ (mC cI cZ h2 a2 ρ)))) (c_X1_carriedBy l D cI cZ cL ob h a h2 a2 σ ρ_10 hst d (by omega)) ⟨hx, hb, hml, hown, hts⟩ q327 b_X1_carriedBy (n := 1) (by decide +kernel) ⟨(Nat.le_of_ble_eq_true rfl), (Nat.le_of_ble_eq_true rfl)⟩ hK hP hD hS hA hE (by rw [List.append_nil]) (fun _ => by rw [List.append_nil]) (ci := 1) rfl rfl rfl hl.1 rfl (Nat.le_of_ble_eq_true rfl) dL_law_316 ⟨by show (c0 + 10) + 0 ≤ 650901; omega, by show (s0 + 100) + 0 ≤ 7148764; omega⟩ (fun ρ_12 H locs hP hD hS => ?_)
          have hP : va_P D vwCl ((sC cI cL sm q σ n k) ++ ((oC ob h h2) ++ ((mC cI cZ h a σ) ++ (mC cI cZ h2 a2 ρ_12)))) H := hP
          have hD : va_D A ((sC cI cL sm q σ n k) ++ ((oC ob h h2) ++ ((mC cI cZ h a σ) ++ (mC cI cZ h2 a2 ρ_12)))) := hD
          refine W.wide (k := (c0 + 10)) (n := (s0 + 100)) (by show (c0 + 10) + 0 ≤ (c0 + 10); omega) (by show (s0 + 100) + 0 ≤ (s0 + 100); omega) ?_
          refine lv_goto (tgt := 323) hx hb dL_law_319 (by decide) ?_
          refine lv_iadd hx hb dL_law_323 ?_
          refine lv_topi (fun v_13 ev_13 => ?_)
          refine lv_istore (lv' := [(9, .int v_13), (12, .int (ab (flow σ d))), (11, .ref (q.2.2 d)), (0, .ref b), (1, .ref ob), (2, .ref sm), (3, .int (nI t)), (4, .int xv), (5, .long (digS σ)), (7, .int (nI n)), (8, .int (lost σ)), (10, .int (nI d))]) hx hb dL_law_324 hl (by decide) rfl (fun ls hl => ?_)
          have e7 : v_13 = sumI (seaB σ) (d + 1) := by
            rw [ev_13]
            exact sum_1 (g := (seaB σ)) (seaB_2 hst (by omega) c_310)
          rw [e7] at hl
          have hP : va_P D vwCl ((sC cI cL sm q σ n k) ++ ((oC ob h h2) ++ ((mC cI cZ h a σ) ++ (mC cI cZ h2 a2 ρ_12)))) H := hP
          have hD : va_D A ((sC cI cL sm q σ n k) ++ ((oC ob h h2) ++ ((mC cI cZ h a σ) ++ (mC cI cZ h2 a2 ρ_12)))) := hD
          exact T326 ρ_12 _ _ _ hP hD hS (lv_sub hl [3, 4, 5, 6, 7, 8, 9, 10, 0, 11, 2, 1] rfl)
  exact L278 (k + 1) 0 τ (by omega) (by omega) _ _ _ hP hD hS (lv_sub hl [0, 1, 2, 3, 4, 5, 6, 7, 8, 9] rfl)

set_option maxHeartbeats 16000000 in
set_option maxRecDepth 100000 in
theorem law_D (l : Launch) {p : Program} {e : Env} {s : State} {m : MethodId} {args : Array Value} {below : List Frame} {meth : Method} {c : Code} {Q : State → Prop} (D : va_G) (cI cZ cL : ClassId) {A : Nat → Prop} {b L : Nat} {xs : Nat → Int32} (sm ob h : Nat) (a : Nat → Nat) (h2 : Nat) (a2 : Nat → Nat) (hx : p.tables.exec = Jvm.exec) (hb : c.code = cL_law) (hml : c.maxLocals = 30) (hown : s.vm.findClass RL = some m.cls) (hts : ∀ w ∈ LW, w.before args s = true) (hE9 : EY (some (b, L, xs)) A s s.heap) (hK : va_K D vwCl (tZ cI cZ cL) s) (hA : ∀ q : Nat, s.heap.size ≤ q → A q) (hL : L ≤ 260) {t : Nat} (ht : t < 5) {c0 s0 : Nat} (hc0 : c0 + 700 ≤ 650901) (hs0 : s0 + 7000 ≤ 7148764) {n k B : Nat} (q : SA) (σ : Sg) (hI : Iv n k B σ) (hn2 : 2 ≤ n) (hB9 : B + 100000 < 2 ^ 28) (xv : Int32) (NX : (∀ (ρ : Sg) (H : Heap) (locs : List Loc) (ls : Array Slot), va_P D vwCl ((sC cI cL sm q σ n k) ++ ((oC ob h h2) ++ ((mC cI cZ h a σ) ++ (mC cI cZ h2 a2 ρ)))) H → va_D A ((sC cI cL sm q σ n k) ++ ((oC ob h h2) ++ ((mC cI cZ h a σ) ++ (mC cI cZ h2 a2 ρ)))) → va_S A s.heap H locs → lv_has ls 30 [(0, .ref b), (1, .ref ob), (2, .ref sm), (3, .int (nI t)), (4, .int xv), (5, .long (digS σ)), (7, .int (nI n)), (8, .int (lost σ))] → W p l e room_1 s m args below meth c H locs (c0 + 140) (s0 + 1400) Q (F0 m 558 ls []))) (τ : Sg) {H : Heap} {locs : List Loc} {ls : Array Slot} (hP : va_P D vwCl ((sC cI cL sm q σ n k) ++ ((oC ob h h2) ++ ((mC cI cZ h a σ) ++ (mC cI cZ h2 a2 τ)))) H) (hD : va_D A ((sC cI cL sm q σ n k) ++ ((oC ob h h2) ++ ((mC cI cZ h a σ) ++ (mC cI cZ h2 a2 τ))))) (hS : va_S A s.heap H locs) (hl : lv_has ls 30 [(0, .ref b), (1, .ref ob), (2, .ref sm), (3, .int (nI t)), (4, .int xv), (5, .long (digS σ)), (7, .int (nI n)), (8, .int (lost σ)), (9, .int (sumI (seaB σ) k))]) : W p l e room_1 s m args below meth c H locs (c0 + 10) (s0 + 100) Q (F0 m 461 ls []) := by
  have hst : Shp n k σ := hI.1
  have hB : Bnd B σ := hI.2.1
  have hn10 := hst.1
  have hk16 := hst.2.1
  have hE : EX A s s.heap := hE9.1
  refine lv_iload hx hb dL_law_461 (lv_at hl 7 rfl) ?_
  refine lv_aload_n hx hb dL_law_463 rfl (lv_at hl 1 rfl) ?_
  refine MX.callV0 (C := RX1) (T := TX1) (N := 2) (As := []) (rest := [.int (lost σ)]) (w0 := sC cI cL sm q σ n k) (w2 := []) (wB := fun ρ => (sC cI cL sm q σ n k) ++ ((oC ob h h2) ++ ((mC cI cZ h a σ) ++ (mC cI cZ h2 a2 ρ)))) (c_X1_loss l D cI cZ cL ob h a h2 a2 σ τ hst) ⟨hx, hb, hml, hown, hts⟩ q246 b_X1_loss (n := 0) (by decide +kernel) ⟨(Nat.le_of_ble_eq_true rfl), (Nat.le_of_ble_eq_true rfl)⟩ hK hP hD hS hA hE (by rw [List.append_nil]) (fun _ => by rw [List.append_nil]) (ci := 1) rfl rfl rfl hl.1 rfl (Nat.le_of_ble_eq_true rfl) dL_law_464 ⟨by show (c0 + 10) + 0 ≤ 650901; omega, by show (s0 + 100) + 0 ≤ 7148764; omega⟩ (fun ρ_1 H locs hP hD hS => ?_)
  have hP : va_P D vwCl ((sC cI cL sm q σ n k) ++ ((oC ob h h2) ++ ((mC cI cZ h a σ) ++ (mC cI cZ h2 a2 ρ_1)))) H := hP
  have hD : va_D A ((sC cI cL sm q σ n k) ++ ((oC ob h h2) ++ ((mC cI cZ h a σ) ++ (mC cI cZ h2 a2 ρ_1)))) := hD
  refine W.wide (k := (c0 + 10)) (n := (s0 + 100)) (by show (c0 + 10) + 0 ≤ (c0 + 10); omega) (by show (s0 + 100) + 0 ≤ (s0 + 100); omega) ?_
  refine lv_icmp_ne (tgt := 490) hx hb dL_law_467 (by decide) (fun z => absurd (rfl) z) (fun c_467 => ?_)
  refine lv_iload hx hb dL_law_470 (lv_at hl 8 rfl) ?_
  refine lv_aload_n hx hb dL_law_472 rfl (lv_at hl 1 rfl) ?_
  refine MX.callV0 (C := RX1) (T := TX1) (N := 2) (As := []) (rest := [.int (sumI (seaB σ) k)]) (w0 := sC cI cL sm q σ n k) (w2 := []) (wB := fun ρ => (sC cI cL sm q σ n k) ++ ((oC ob h h2) ++ ((mC cI cZ h a σ) ++ (mC cI cZ h2 a2 ρ)))) (c_X1_drained l D cI cZ cL ob h a h2 a2 σ ρ_1 ) ⟨hx, hb, hml, hown, hts⟩ q242 b_X1_drained (n := 0) (by decide +kernel) ⟨(Nat.le_of_ble_eq_true rfl), (Nat.le_of_ble_eq_true rfl)⟩ hK hP hD hS hA hE (by rw [List.append_nil]) (fun _ => by rw [List.append_nil]) (ci := 1) rfl rfl rfl hl.1 rfl (Nat.le_of_ble_eq_true rfl) dL_law_473 ⟨by show (c0 + 10) + 0 ≤ 650901; omega, by show (s0 + 100) + 0 ≤ 7148764; omega⟩ (fun ρ_2 H locs hP hD hS => ?_)
  have hP : va_P D vwCl ((sC cI cL sm q σ n k) ++ ((oC ob h h2) ++ ((mC cI cZ h a σ) ++ (mC cI cZ h2 a2 ρ_2)))) H := hP
  have hD : va_D A ((sC cI cL sm q σ n k) ++ ((oC ob h h2) ++ ((mC cI cZ h a σ) ++ (mC cI cZ h2 a2 ρ_2)))) := hD
  refine W.wide (k := (c0 + 10)) (n := (s0 + 100)) (by show (c0 + 10) + 0 ≤ (c0 + 10); omega) (by show (s0 + 100) + 0 ≤ (s0 + 100); omega) ?_
  refine lv_icmp_ne (tgt := 490) hx hb dL_law_476 (by decide) (fun z => absurd (hI.2.2.2.2.2.2.symm) z) (fun c_476 => ?_)
  refine lv_aload_n hx hb dL_law_479 rfl (lv_at hl 1 rfl) ?_
  refine lv_bipush (v := 24) hx hb dL_law_480 (by decide) ?_
  refine MX.callV0 (C := RX1) (T := TX1) (N := 2) (As := [.int 24]) (rest := []) (w0 := sC cI cL sm q σ n k) (w2 := []) (wB := fun ρ => (sC cI cL sm q σ n k) ++ ((oC ob h h2) ++ ((mC cI cZ h a σ) ++ (mC cI cZ h2 a2 ρ)))) (c_X1_lossIn l D cI cZ cL ob h a h2 a2 σ ρ_2 hst hB 24 (by decide) (by decide)) ⟨hx, hb, hml, hown, hts⟩ q346 b_X1_lossIn (n := 1) (by decide +kernel) ⟨(Nat.le_of_ble_eq_true rfl), (Nat.le_of_ble_eq_true rfl)⟩ hK hP hD hS hA hE (by rw [List.append_nil]) (fun _ => by rw [List.append_nil]) (ci := 1) rfl rfl rfl hl.1 rfl (Nat.le_of_ble_eq_true rfl) dL_law_482 ⟨by show (c0 + 10) + 0 ≤ 650901; omega, by show (s0 + 100) + 0 ≤ 7148764; omega⟩ (fun ρ_3 H locs hP hD hS => ?_)
  have hP : va_P D vwCl ((sC cI cL sm q σ n k) ++ ((oC ob h h2) ++ ((mC cI cZ h a σ) ++ (mC cI cZ h2 a2 ρ_3)))) H := hP
  have hD : va_D A ((sC cI cL sm q σ n k) ++ ((oC ob h h2) ++ ((mC cI cZ h a σ) ++ (mC cI cZ h2 a2 ρ_3)))) := hD
  refine W.wide (k := (c0 + 10)) (n := (s0 + 100)) (by show (c0 + 10) + 0 ≤ (c0 + 10); omega) (by show (s0 + 100) + 0 ≤ (s0 + 100); omega) ?_
  refine lv_iload hx hb dL_law_485 (lv_at hl 7 rfl) ?_
  refine lv_icmp_ge (tgt := 492) hx hb dL_law_487 (by decide) (fun c_487 => ?_) (fun z => absurd (loss_24 hI (by omega)) z)
  refine lv_aload_n hx hb dL_law_492 rfl (lv_at hl 1 rfl) ?_
  refine MX.callV0 (C := RX1) (T := TX1) (N := 2) (As := []) (rest := []) (w0 := sC cI cL sm q σ n k) (w2 := []) (wB := fun ρ => (sC cI cL sm q σ n k) ++ ((oC ob h h2) ++ ((mC cI cZ h a σ) ++ (mC cI cZ h2 a2 ρ)))) (c_X1_bestToTurn l D cI cZ cL ob h a h2 a2 σ ρ_3 hst hB) ⟨hx, hb, hml, hown, hts⟩ q354 b_X1_bestToTurn (n := 0) (by decide +kernel) ⟨(Nat.le_of_ble_eq_true rfl), (Nat.le_of_ble_eq_true rfl)⟩ hK hP hD hS hA hE (by rw [List.append_nil]) (fun _ => by rw [List.append_nil]) (ci := 1) rfl rfl rfl hl.1 rfl (Nat.le_of_ble_eq_true rfl) dL_law_493 ⟨by show (c0 + 10) + 0 ≤ 650901; omega, by show (s0 + 100) + 0 ≤ 7148764; omega⟩ (fun ρ_4 H locs hP hD hS => ?_)
  have hP : va_P D vwCl ((sC cI cL sm q σ n k) ++ ((oC ob h h2) ++ ((mC cI cZ h a σ) ++ (mC cI cZ h2 a2 ρ_4)))) H := hP
  have hD : va_D A ((sC cI cL sm q σ n k) ++ ((oC ob h h2) ++ ((mC cI cZ h a σ) ++ (mC cI cZ h2 a2 ρ_4)))) := hD
  refine W.wide (k := (c0 + 10)) (n := (s0 + 100)) (by show (c0 + 10) + 0 ≤ (c0 + 10); omega) (by show (s0 + 100) + 0 ≤ (s0 + 100); omega) ?_
  rcases turn_is hst with ht0 | ⟨jt, hjt, ejt, hlt⟩
  · refine x_top (ht0) ?_
    refine lv_istore (lv' := [(10, .int (-1)), (0, .ref b), (1, .ref ob), (2, .ref sm), (3, .int (nI t)), (4, .int xv), (5, .long (digS σ)), (7, .int (nI n)), (8, .int (lost σ)), (9, .int (sumI (seaB σ) k))]) hx hb dL_law_496 hl (by decide) rfl (fun ls hl => ?_)
    refine lv_aload_n hx hb dL_law_498 rfl (lv_at hl 2 rfl) ?_
    refine lv_bipush (v := 24) hx hb dL_law_499 (by decide) ?_
    refine MX.callV0 (C := RX1) (T := TX1) (N := 2) (As := [.int 24]) (rest := []) (w0 := sC cI cL sm q σ n k) (w2 := []) (wB := fun ρ => (sC cI cL sm q σ n k) ++ ((oC ob h h2) ++ ((mC cI cZ h a σ) ++ (mC cI cZ h2 a2 ρ)))) (c_X1_lossIn l D cI cZ cL ob h a h2 a2 σ ρ_4 hst hB 24 (by decide) (by decide)) ⟨hx, hb, hml, hown, hts⟩ q346 b_X1_lossIn (n := 1) (by decide +kernel) ⟨(Nat.le_of_ble_eq_true rfl), (Nat.le_of_ble_eq_true rfl)⟩ hK hP hD hS hA hE (by rw [List.append_nil]) (fun _ => by rw [List.append_nil]) (ci := 1) rfl rfl rfl hl.1 rfl (Nat.le_of_ble_eq_true rfl) dL_law_501 ⟨by show (c0 + 10) + 0 ≤ 650901; omega, by show (s0 + 100) + 0 ≤ 7148764; omega⟩ (fun ρ_5 H locs hP hD hS => ?_)
    have hP : va_P D vwCl ((sC cI cL sm q σ n k) ++ ((oC ob h h2) ++ ((mC cI cZ h a σ) ++ (mC cI cZ h2 a2 ρ_5)))) H := hP
    have hD : va_D A ((sC cI cL sm q σ n k) ++ ((oC ob h h2) ++ ((mC cI cZ h a σ) ++ (mC cI cZ h2 a2 ρ_5)))) := hD
    refine W.wide (k := (c0 + 10)) (n := (s0 + 100)) (by show (c0 + 10) + 0 ≤ (c0 + 10); omega) (by show (s0 + 100) + 0 ≤ (s0 + 100); omega) ?_
    refine lv_istore (lv' := [(11, .int (lossH 24 σ)), (10, .int (-1)), (0, .ref b), (1, .ref ob), (2, .ref sm), (3, .int (nI t)), (4, .int xv), (5, .long (digS σ)), (7, .int (nI n)), (8, .int (lost σ)), (9, .int (sumI (seaB σ) k))]) hx hb dL_law_504 hl (by decide) rfl (fun ls hl => ?_)
    refine lv_aload_n hx hb dL_law_506 rfl (lv_at hl 4 rfl) ?_
    refine MY.callV0 (C := RX2) (T := TX2) (N := 5) (As := []) (rest := []) (w0 := []) (w2 := (oC ob h h2) ++ ((mC cI cZ h a σ) ++ (mC cI cZ h2 a2 ρ_5))) (wB := fun y1 => (sC cI cL sm q σ n k) ++ ((sC cI cL y1.1 y1.2 σ n k) ++ ((oC ob h h2) ++ ((mC cI cZ h a σ) ++ (mC cI cZ h2 a2 ρ_5))))) (c_X2_copy l D cI cZ cL sm q σ hst) ⟨hx, hb, hml, hown, hts⟩ q421 b_X2_copy (n := 0) (by decide +kernel) ⟨(Nat.le_of_ble_eq_true rfl), (Nat.le_of_ble_eq_true rfl)⟩ hK hP hD hS hA (EY.non hE) (by simp only [List.append_assoc, List.append_nil, List.nil_append]) (fun _ => by simp only [List.append_assoc, List.append_nil, List.nil_append]) (ci := 2) rfl rfl rfl hl.1 rfl (Nat.le_of_ble_eq_true rfl) dL_law_507 ⟨by show (c0 + 10) + 60 ≤ 650901; omega, by show (s0 + 100) + 600 ≤ 7148764; omega⟩ (fun y1 H locs hP hD hS => ?_)
    have hP : va_P D vwCl ((sC cI cL sm q σ n k) ++ ((sC cI cL y1.1 y1.2 σ n k) ++ ((oC ob h h2) ++ ((mC cI cZ h a σ) ++ (mC cI cZ h2 a2 ρ_5))))) H := hP
    have hD : va_D A ((sC cI cL sm q σ n k) ++ ((sC cI cL y1.1 y1.2 σ n k) ++ ((oC ob h h2) ++ ((mC cI cZ h a σ) ++ (mC cI cZ h2 a2 ρ_5))))) := hD
    refine W.wide (k := ((c0 + 10) + 60)) (n := ((s0 + 100) + 600)) (by show (c0 + 10) + 60 ≤ ((c0 + 10) + 60); omega) (by show (s0 + 100) + 600 ≤ ((s0 + 100) + 600); omega) ?_
    refine lv_astore (lv' := [(12, .ref y1.1), (11, .int (lossH 24 σ)), (10, .int (-1)), (0, .ref b), (1, .ref ob), (2, .ref sm), (3, .int (nI t)), (4, .int xv), (5, .long (digS σ)), (7, .int (nI n)), (8, .int (lost σ)), (9, .int (sumI (seaB σ) k))]) hx hb dL_law_510 hl (by decide) rfl (fun ls hl => ?_)
    refine lv_iload hx hb dL_law_512 (lv_at hl 2 rfl) ?_
    refine lv_if_lt (tgt := 539) hx hb dL_law_514 (by decide) (fun c_514 => ?_) (fun z => absurd (by decide) z)
    refine lv_iload hx hb dL_law_539 (lv_at hl 2 rfl) ?_
    refine lv_if_lt (tgt := 558) hx hb dL_law_541 (by decide) (fun c_541 => ?_) (fun z => absurd (by decide) z)
    obtain ⟨hP, hD⟩ := p_drop (b := (sC cI cL sm q σ n k) ++ ((oC ob h h2) ++ ((mC cI cZ h a σ) ++ (mC cI cZ h2 a2 ρ_5)))) (sC cI cL y1.1 y1.2 σ n k) (pm (fun i y => by simp only [List.count_append]; omega)) hP hD
    have hP : va_P D vwCl ((sC cI cL sm q σ n k) ++ ((oC ob h h2) ++ ((mC cI cZ h a σ) ++ (mC cI cZ h2 a2 ρ_5)))) H := hP
    have hD : va_D A ((sC cI cL sm q σ n k) ++ ((oC ob h h2) ++ ((mC cI cZ h a σ) ++ (mC cI cZ h2 a2 ρ_5)))) := hD
    refine W.wide (k := (c0 + 140)) (n := (s0 + 1400)) (by first | omega | exact Nat.le_of_ble_eq_true rfl) (by first | omega | exact Nat.le_of_ble_eq_true rfl) ?_
    exact NX ρ_5 _ _ _ hP hD hS (lv_sub hl [3, 4, 5, 6, 7, 8, 9, 10] rfl)
  · refine x_top (ejt) ?_
    refine lv_istore (lv' := [(10, .int (nI jt)), (0, .ref b), (1, .ref ob), (2, .ref sm), (3, .int (nI t)), (4, .int xv), (5, .long (digS σ)), (7, .int (nI n)), (8, .int (lost σ)), (9, .int (sumI (seaB σ) k))]) hx hb dL_law_496 hl (by decide) rfl (fun ls hl => ?_)
    refine lv_aload_n hx hb dL_law_498 rfl (lv_at hl 2 rfl) ?_
    refine lv_bipush (v := 24) hx hb dL_law_499 (by decide) ?_
    refine MX.callV0 (C := RX1) (T := TX1) (N := 2) (As := [.int 24]) (rest := []) (w0 := sC cI cL sm q σ n k) (w2 := []) (wB := fun ρ => (sC cI cL sm q σ n k) ++ ((oC ob h h2) ++ ((mC cI cZ h a σ) ++ (mC cI cZ h2 a2 ρ)))) (c_X1_lossIn l D cI cZ cL ob h a h2 a2 σ ρ_4 hst hB 24 (by decide) (by decide)) ⟨hx, hb, hml, hown, hts⟩ q346 b_X1_lossIn (n := 1) (by decide +kernel) ⟨(Nat.le_of_ble_eq_true rfl), (Nat.le_of_ble_eq_true rfl)⟩ hK hP hD hS hA hE (by rw [List.append_nil]) (fun _ => by rw [List.append_nil]) (ci := 1) rfl rfl rfl hl.1 rfl (Nat.le_of_ble_eq_true rfl) dL_law_501 ⟨by show (c0 + 10) + 0 ≤ 650901; omega, by show (s0 + 100) + 0 ≤ 7148764; omega⟩ (fun ρ_6 H locs hP hD hS => ?_)
    have hP : va_P D vwCl ((sC cI cL sm q σ n k) ++ ((oC ob h h2) ++ ((mC cI cZ h a σ) ++ (mC cI cZ h2 a2 ρ_6)))) H := hP
    have hD : va_D A ((sC cI cL sm q σ n k) ++ ((oC ob h h2) ++ ((mC cI cZ h a σ) ++ (mC cI cZ h2 a2 ρ_6)))) := hD
    refine W.wide (k := (c0 + 10)) (n := (s0 + 100)) (by show (c0 + 10) + 0 ≤ (c0 + 10); omega) (by show (s0 + 100) + 0 ≤ (s0 + 100); omega) ?_
    refine lv_istore (lv' := [(11, .int (lossH 24 σ)), (10, .int (nI jt)), (0, .ref b), (1, .ref ob), (2, .ref sm), (3, .int (nI t)), (4, .int xv), (5, .long (digS σ)), (7, .int (nI n)), (8, .int (lost σ)), (9, .int (sumI (seaB σ) k))]) hx hb dL_law_504 hl (by decide) rfl (fun ls hl => ?_)
    refine lv_aload_n hx hb dL_law_506 rfl (lv_at hl 4 rfl) ?_
    refine MY.callV0 (C := RX2) (T := TX2) (N := 5) (As := []) (rest := []) (w0 := []) (w2 := (oC ob h h2) ++ ((mC cI cZ h a σ) ++ (mC cI cZ h2 a2 ρ_6))) (wB := fun y1 => (sC cI cL sm q σ n k) ++ ((sC cI cL y1.1 y1.2 σ n k) ++ ((oC ob h h2) ++ ((mC cI cZ h a σ) ++ (mC cI cZ h2 a2 ρ_6))))) (c_X2_copy l D cI cZ cL sm q σ hst) ⟨hx, hb, hml, hown, hts⟩ q421 b_X2_copy (n := 0) (by decide +kernel) ⟨(Nat.le_of_ble_eq_true rfl), (Nat.le_of_ble_eq_true rfl)⟩ hK hP hD hS hA (EY.non hE) (by simp only [List.append_assoc, List.append_nil, List.nil_append]) (fun _ => by simp only [List.append_assoc, List.append_nil, List.nil_append]) (ci := 2) rfl rfl rfl hl.1 rfl (Nat.le_of_ble_eq_true rfl) dL_law_507 ⟨by show (c0 + 10) + 60 ≤ 650901; omega, by show (s0 + 100) + 600 ≤ 7148764; omega⟩ (fun y1 H locs hP hD hS => ?_)
    have hP : va_P D vwCl ((sC cI cL sm q σ n k) ++ ((sC cI cL y1.1 y1.2 σ n k) ++ ((oC ob h h2) ++ ((mC cI cZ h a σ) ++ (mC cI cZ h2 a2 ρ_6))))) H := hP
    have hD : va_D A ((sC cI cL sm q σ n k) ++ ((sC cI cL y1.1 y1.2 σ n k) ++ ((oC ob h h2) ++ ((mC cI cZ h a σ) ++ (mC cI cZ h2 a2 ρ_6))))) := hD
    refine W.wide (k := ((c0 + 10) + 60)) (n := ((s0 + 100) + 600)) (by show (c0 + 10) + 60 ≤ ((c0 + 10) + 60); omega) (by show (s0 + 100) + 600 ≤ ((s0 + 100) + 600); omega) ?_
    refine lv_astore (lv' := [(12, .ref y1.1), (11, .int (lossH 24 σ)), (10, .int (nI jt)), (0, .ref b), (1, .ref ob), (2, .ref sm), (3, .int (nI t)), (4, .int xv), (5, .long (digS σ)), (7, .int (nI n)), (8, .int (lost σ)), (9, .int (sumI (seaB σ) k))]) hx hb dL_law_510 hl (by decide) rfl (fun ls hl => ?_)
    refine lv_iload hx hb dL_law_512 (lv_at hl 2 rfl) ?_
    refine lv_if_lt (tgt := 539) hx hb dL_law_514 (by decide) (fun z => absurd z (Int32.not_lt.mpr (nI_pos' (by omega)))) (fun c_514 => ?_)
    refine lv_aload hx hb dL_law_517 (lv_at hl 0 rfl) ?_
    refine s_get hx hb hts hown hK hP (σ := σ) (n := n) (k := k) (q := y1.2) (sm := y1.1) (w0 := sC cI cL sm q σ n k) (w2 := (oC ob h h2) ++ ((mC cI cZ h a σ) ++ (mC cI cZ h2 a2 ρ_6))) rfl 1 (by decide) q436 (v := .ref y1.2.1.2) rfl dL_law_519 ?_
    refine lv_iload hx hb dL_law_522 (lv_at hl 2 rfl) ?_
    refine s_alD hx hb hK hP (σ := σ) (n := n) (k := k) (q := y1.2) (sm := y1.1) (w0 := sC cI cL sm q σ n k) (w2 := (oC ob h h2) ++ ((mC cI cZ h a σ) ++ (mC cI cZ h2 a2 ρ_6))) rfl jt (rfl) (by omega) (by omega) dL_law_524 ?_
    refine lv_iconst (v := 4) hx hb dL_law_525 (by decide) ?_
    refine lv_iconst (v := 1) hx hb dL_law_526 (by decide) ?_
    refine lv_aload hx hb dL_law_527 (lv_at hl 0 rfl) ?_
    refine s_get hx hb hts hown hK hP (σ := σ) (n := n) (k := k) (q := y1.2) (sm := y1.1) (w0 := sC cI cL sm q σ n k) (w2 := (oC ob h h2) ++ ((mC cI cZ h a σ) ++ (mC cI cZ h2 a2 ρ_6))) rfl 1 (by decide) q436 (v := .ref y1.2.1.2) rfl dL_law_529 ?_
    refine lv_iload hx hb dL_law_532 (lv_at hl 2 rfl) ?_
    refine s_alD hx hb hK hP (σ := σ) (n := n) (k := k) (q := y1.2) (sm := y1.1) (w0 := sC cI cL sm q σ n k) (w2 := (oC ob h h2) ++ ((mC cI cZ h a σ) ++ (mC cI cZ h2 a2 ρ_6))) rfl jt (rfl) (by omega) (by omega) dL_law_534 ?_
    refine lv_iconst (v := 4) hx hb dL_law_535 (by decide) ?_
    refine s_ldD hx hb hK hP (σ := σ) (n := n) (k := k) (q := y1.2) (sm := y1.1) (w0 := sC cI cL sm q σ n k) (w2 := (oC ob h h2) ++ ((mC cI cZ h a σ) ++ (mC cI cZ h2 a2 ρ_6))) rfl jt (by omega) 4 rfl (by decide) (v := σ 10 jt) rfl dL_law_536 ?_
    refine lv_isub hx hb dL_law_537 ?_
    refine s_stD hx hb hK hP hD hS (σ := σ) (n := n) (k := k) (q := y1.2) (sm := y1.1) (w0 := sC cI cL sm q σ n k) (w2 := (oC ob h h2) ++ ((mC cI cZ h a σ) ++ (mC cI cZ h2 a2 ρ_6))) rfl jt (by omega) 4 10 (by decide) rfl dL_law_538 (fun H locs hP hD hS => ?_)
    have hP : va_P D vwCl ((sC cI cL sm q σ n k) ++ ((sC cI cL y1.1 y1.2 (su σ 10 jt ((1 : Int32) - (σ 10 jt))) n k) ++ ((oC ob h h2) ++ ((mC cI cZ h a σ) ++ (mC cI cZ h2 a2 ρ_6))))) H := hP
    have hD : va_D A ((sC cI cL sm q σ n k) ++ ((sC cI cL y1.1 y1.2 (su σ 10 jt ((1 : Int32) - (σ 10 jt))) n k) ++ ((oC ob h h2) ++ ((mC cI cZ h a σ) ++ (mC cI cZ h2 a2 ρ_6))))) := hD
    rw [tu_is (k := k) hB (by omega)] at hP hD
    have hP : va_P D vwCl ((sC cI cL sm q σ n k) ++ ((sC cI cL y1.1 y1.2 (turnS σ jt) n k) ++ ((oC ob h h2) ++ ((mC cI cZ h a σ) ++ (mC cI cZ h2 a2 ρ_6))))) H := hP
    have hD : va_D A ((sC cI cL sm q σ n k) ++ ((sC cI cL y1.1 y1.2 (turnS σ jt) n k) ++ ((oC ob h h2) ++ ((mC cI cZ h a σ) ++ (mC cI cZ h2 a2 ρ_6))))) := hD
    refine lv_iload hx hb dL_law_539 (lv_at hl 2 rfl) ?_
    refine lv_if_lt (tgt := 558) hx hb dL_law_541 (by decide) (fun z => absurd z (Int32.not_lt.mpr (nI_pos' (by omega)))) (fun c_541 => ?_)
    refine lv_aload hx hb dL_law_544 (lv_at hl 0 rfl) ?_
    refine lv_bipush (v := 24) hx hb dL_law_546 (by decide) ?_
    refine MY.callV0 (C := RX2) (T := TX2) (N := 5) (As := [.int 24]) (rest := []) (w0 := sC cI cL sm q σ n k) (w2 := (oC ob h h2) ++ ((mC cI cZ h a σ) ++ (mC cI cZ h2 a2 ρ_6))) (wB := fun _u => (sC cI cL sm q σ n k) ++ ((sC cI cL y1.1 y1.2 (turnS σ jt) n k) ++ ((oC ob h h2) ++ ((mC cI cZ h a σ) ++ (mC cI cZ h2 a2 ρ_6))))) (c_X2_lossIn l D cI cZ cL y1.1 y1.2 (turnS σ jt) (hst.tu jt) (hB.tu jt) 24 (by decide) (by omega)) ⟨hx, hb, hml, hown, hts⟩ q476 b_X2_lossIn (n := 1) (by decide +kernel) ⟨(Nat.le_of_ble_eq_true rfl), (Nat.le_of_ble_eq_true rfl)⟩ hK hP hD hS hA (EY.non hE) (by simp only [List.append_assoc, List.append_nil, List.nil_append]) (fun _ => by simp only [List.append_assoc, List.append_nil, List.nil_append]) (ci := 2) rfl rfl rfl hl.1 rfl (Nat.le_of_ble_eq_true rfl) dL_law_548 ⟨by show ((c0 + 10) + 60) + 60 ≤ 650901; omega, by show ((s0 + 100) + 600) + 600 ≤ 7148764; omega⟩ (fun _u H locs hP hD hS => ?_)
    have hP : va_P D vwCl ((sC cI cL sm q σ n k) ++ ((sC cI cL y1.1 y1.2 (turnS σ jt) n k) ++ ((oC ob h h2) ++ ((mC cI cZ h a σ) ++ (mC cI cZ h2 a2 ρ_6))))) H := hP
    have hD : va_D A ((sC cI cL sm q σ n k) ++ ((sC cI cL y1.1 y1.2 (turnS σ jt) n k) ++ ((oC ob h h2) ++ ((mC cI cZ h a σ) ++ (mC cI cZ h2 a2 ρ_6))))) := hD
    refine W.wide (k := (((c0 + 10) + 60) + 60)) (n := (((s0 + 100) + 600) + 600)) (by show ((c0 + 10) + 60) + 60 ≤ (((c0 + 10) + 60) + 60); omega) (by show ((s0 + 100) + 600) + 600 ≤ (((s0 + 100) + 600) + 600); omega) ?_
    refine lv_iload hx hb dL_law_551 (lv_at hl 1 rfl) ?_
    refine lv_icmp_lt (tgt := 558) hx hb dL_law_553 (by decide) (fun c_553 => ?_) (fun z => absurd (hlt) z)
    obtain ⟨hP, hD⟩ := p_drop (b := (sC cI cL sm q σ n k) ++ ((oC ob h h2) ++ ((mC cI cZ h a σ) ++ (mC cI cZ h2 a2 ρ_6)))) (sC cI cL y1.1 y1.2 (turnS σ jt) n k) (pm (fun i y => by simp only [List.count_append]; omega)) hP hD
    have hP : va_P D vwCl ((sC cI cL sm q σ n k) ++ ((oC ob h h2) ++ ((mC cI cZ h a σ) ++ (mC cI cZ h2 a2 ρ_6)))) H := hP
    have hD : va_D A ((sC cI cL sm q σ n k) ++ ((oC ob h h2) ++ ((mC cI cZ h a σ) ++ (mC cI cZ h2 a2 ρ_6)))) := hD
    refine W.wide (k := (c0 + 140)) (n := (s0 + 1400)) (by first | omega | exact Nat.le_of_ble_eq_true rfl) (by first | omega | exact Nat.le_of_ble_eq_true rfl) ?_
    exact NX ρ_6 _ _ _ hP hD hS (lv_sub hl [3, 4, 5, 6, 7, 8, 9, 10] rfl)

set_option maxHeartbeats 16000000 in
set_option maxRecDepth 100000 in
theorem law_E (l : Launch) {p : Program} {e : Env} {s : State} {m : MethodId} {args : Array Value} {below : List Frame} {meth : Method} {c : Code} {Q : State → Prop} (D : va_G) (cI cZ cL : ClassId) {A : Nat → Prop} {b L : Nat} {xs : Nat → Int32} (sm ob h : Nat) (a : Nat → Nat) (h2 : Nat) (a2 : Nat → Nat) (hx : p.tables.exec = Jvm.exec) (hb : c.code = cL_law) (hml : c.maxLocals = 30) (hown : s.vm.findClass RL = some m.cls) (hts : ∀ w ∈ LW, w.before args s = true) (hE9 : EY (some (b, L, xs)) A s s.heap) (hK : va_K D vwCl (tZ cI cZ cL) s) (hA : ∀ q : Nat, s.heap.size ≤ q → A q) (hL : L ≤ 260) {t : Nat} (ht : t < 5) {c0 s0 : Nat} (hc0 : c0 + 700 ≤ 650901) (hs0 : s0 + 7000 ≤ 7148764) {n k B : Nat} (q : SA) (σ : Sg) (hI : Iv n k B σ) (hn2 : 2 ≤ n) (hB9 : B + 100000 < 2 ^ 28) (xv : Int32) (NX : (∀ (ρ : Sg) (H : Heap) (locs : List Loc) (ls : Array Slot), va_P D vwCl ((sC cI cL sm q σ n k) ++ ((oC ob h h2) ++ ((mC cI cZ h a σ) ++ (mC cI cZ h2 a2 ρ)))) H → va_D A ((sC cI cL sm q σ n k) ++ ((oC ob h h2) ++ ((mC cI cZ h a σ) ++ (mC cI cZ h2 a2 ρ)))) → va_S A s.heap H locs → lv_has ls 30 [(0, .ref b), (1, .ref ob), (2, .ref sm), (3, .int (nI t)), (4, .int xv), (5, .long (digS σ)), (7, .int (nI n)), (8, .int (lost σ))] → W p l e room_1 s m args below meth c H locs (c0 + 510) (s0 + 5100) Q (F0 m 675 ls []))) (τ : Sg) {H : Heap} {locs : List Loc} {ls : Array Slot} (hP : va_P D vwCl ((sC cI cL sm q σ n k) ++ ((oC ob h h2) ++ ((mC cI cZ h a σ) ++ (mC cI cZ h2 a2 τ)))) H) (hD : va_D A ((sC cI cL sm q σ n k) ++ ((oC ob h h2) ++ ((mC cI cZ h a σ) ++ (mC cI cZ h2 a2 τ))))) (hS : va_S A s.heap H locs) (hl : lv_has ls 30 [(0, .ref b), (1, .ref ob), (2, .ref sm), (3, .int (nI t)), (4, .int xv), (5, .long (digS σ)), (7, .int (nI n)), (8, .int (lost σ))]) : W p l e room_1 s m args below meth c H locs (c0 + 140) (s0 + 1400) Q (F0 m 558 ls []) := by
  have hst : Shp n k σ := hI.1
  have hB : Bnd B σ := hI.2.1
  have hn10 := hst.1
  have hk16 := hst.2.1
  have hE : EX A s s.heap := hE9.1
  refine lv_iconst (v := 1) hx hb dL_law_558 (by decide) ?_
  refine lv_iload hx hb dL_law_559 (lv_at hl 4 rfl) ?_
  refine lv_iconst (v := 4) hx hb dL_law_561 (by decide) ?_
  refine lv_ishr hx hb dL_law_562 ?_
  refine lv_bipush (v := 50) hx hb dL_law_563 (by decide) ?_
  refine MC.callS (As := [.int (xv >>> (4 &&& 31)), .int 50]) (rest := [.int 1]) (wB := (sC cI cL sm q σ n k) ++ ((oC ob h h2) ++ ((mC cI cZ h a σ) ++ (mC cI cZ h2 a2 τ)))) (c_L_below l D cI cZ cL (xv >>> (4 &&& 31)) 50 (by omega) (by omega)) ⟨hx, hb, hml, hown, hts⟩ q529 b_L_below (n := 2) (by decide +kernel) ⟨Nat.le_of_ble_eq_true rfl, Nat.le_of_ble_eq_true rfl⟩ hK hP hD hS hA (spE _) (spE _) rfl hl.1 rfl (Nat.le_of_ble_eq_true rfl) dL_law_565 ⟨by show (c0 + 140) + 0 ≤ 650901; omega, by show (s0 + 1400) + 0 ≤ 7148764; omega⟩ (fun H locs hP hD hS => ?_)
  refine W.wide (k := (c0 + 140)) (n := (s0 + 1400)) (by show (c0 + 140) + 0 ≤ (c0 + 140); omega) (by show (s0 + 1400) + 0 ≤ (s0 + 1400); omega) ?_
  have hb_565 : bel (xv >>> (4 &&& 31)) 50 < 50 := bel_lt (by omega)
  refine lv_iadd hx hb dL_law_568 ?_
  refine x_top (nI_add 1 (bel (xv >>> (4 &&& 31)) 50)) ?_
  refine lv_istore (lv' := [(13, .int (nI (1 + (bel (xv >>> (4 &&& 31)) 50)))), (0, .ref b), (1, .ref ob), (2, .ref sm), (3, .int (nI t)), (4, .int xv), (5, .long (digS σ)), (7, .int (nI n)), (8, .int (lost σ))]) hx hb dL_law_569 hl (by decide) rfl (fun ls hl => ?_)
  refine lv_aload_n hx hb dL_law_571 rfl (lv_at hl 2 rfl) ?_
  refine lv_iload hx hb dL_law_572 (lv_at hl 0 rfl) ?_
  obtain ⟨jb, hjb, ejb, hbest⟩ := flood_is hst hn2 (nI (1 + (bel (xv >>> (4 &&& 31)) 50)))
  refine MX.callV0 (C := RX1) (T := TX1) (N := 2) (As := [.int (nI (1 + (bel (xv >>> (4 &&& 31)) 50)))]) (rest := []) (w0 := sC cI cL sm q σ n k) (w2 := []) (wB := fun ρ => (sC cI cL sm q σ n k) ++ ((oC ob h h2) ++ ((mC cI cZ h a σ) ++ (mC cI cZ h2 a2 ρ)))) (c_X1_bestToFlood l D cI cZ cL ob h a h2 a2 σ τ hst hB (1 + (bel (xv >>> (4 &&& 31)) 50)) (by omega) (by omega)) ⟨hx, hb, hml, hown, hts⟩ q362 b_X1_bestToFlood (n := 1) (by decide +kernel) ⟨(Nat.le_of_ble_eq_true rfl), (Nat.le_of_ble_eq_true rfl)⟩ hK hP hD hS hA hE (by rw [List.append_nil]) (fun _ => by rw [List.append_nil]) (ci := 1) rfl rfl rfl hl.1 rfl (Nat.le_of_ble_eq_true rfl) dL_law_574 ⟨by show (c0 + 140) + 0 ≤ 650901; omega, by show (s0 + 1400) + 0 ≤ 7148764; omega⟩ (fun ρ_1 H locs hP hD hS => ?_)
  have hP : va_P D vwCl ((sC cI cL sm q σ n k) ++ ((oC ob h h2) ++ ((mC cI cZ h a σ) ++ (mC cI cZ h2 a2 ρ_1)))) H := hP
  have hD : va_D A ((sC cI cL sm q σ n k) ++ ((oC ob h h2) ++ ((mC cI cZ h a σ) ++ (mC cI cZ h2 a2 ρ_1)))) := hD
  refine W.wide (k := (c0 + 140)) (n := (s0 + 1400)) (by show (c0 + 140) + 0 ≤ (c0 + 140); omega) (by show (s0 + 1400) + 0 ≤ (s0 + 1400); omega) ?_
  refine x_top ejb ?_
  refine lv_istore (lv' := [(14, .int (nI jb)), (13, .int (nI (1 + (bel (xv >>> (4 &&& 31)) 50)))), (0, .ref b), (1, .ref ob), (2, .ref sm), (3, .int (nI t)), (4, .int xv), (5, .long (digS σ)), (7, .int (nI n)), (8, .int (lost σ))]) hx hb dL_law_577 hl (by decide) rfl (fun ls hl => ?_)
  refine lv_aload_n hx hb dL_law_579 rfl (lv_at hl 4 rfl) ?_
  refine MY.callV0 (C := RX2) (T := TX2) (N := 5) (As := []) (rest := []) (w0 := []) (w2 := (oC ob h h2) ++ ((mC cI cZ h a σ) ++ (mC cI cZ h2 a2 ρ_1))) (wB := fun y1 => (sC cI cL sm q σ n k) ++ ((sC cI cL y1.1 y1.2 σ n k) ++ ((oC ob h h2) ++ ((mC cI cZ h a σ) ++ (mC cI cZ h2 a2 ρ_1))))) (c_X2_copy l D cI cZ cL sm q σ hst) ⟨hx, hb, hml, hown, hts⟩ q421 b_X2_copy (n := 0) (by decide +kernel) ⟨(Nat.le_of_ble_eq_true rfl), (Nat.le_of_ble_eq_true rfl)⟩ hK hP hD hS hA (EY.non hE) (by simp only [List.append_assoc, List.append_nil, List.nil_append]) (fun _ => by simp only [List.append_assoc, List.append_nil, List.nil_append]) (ci := 2) rfl rfl rfl hl.1 rfl (Nat.le_of_ble_eq_true rfl) dL_law_580 ⟨by show (c0 + 140) + 60 ≤ 650901; omega, by show (s0 + 1400) + 600 ≤ 7148764; omega⟩ (fun y1 H locs hP hD hS => ?_)
  have hP : va_P D vwCl ((sC cI cL sm q σ n k) ++ ((sC cI cL y1.1 y1.2 σ n k) ++ ((oC ob h h2) ++ ((mC cI cZ h a σ) ++ (mC cI cZ h2 a2 ρ_1))))) H := hP
  have hD : va_D A ((sC cI cL sm q σ n k) ++ ((sC cI cL y1.1 y1.2 σ n k) ++ ((oC ob h h2) ++ ((mC cI cZ h a σ) ++ (mC cI cZ h2 a2 ρ_1))))) := hD
  refine W.wide (k := ((c0 + 140) + 60)) (n := ((s0 + 1400) + 600)) (by show (c0 + 140) + 60 ≤ ((c0 + 140) + 60); omega) (by show (s0 + 1400) + 600 ≤ ((s0 + 1400) + 600); omega) ?_
  refine lv_astore (lv' := [(15, .ref y1.1), (14, .int (nI jb)), (13, .int (nI (1 + (bel (xv >>> (4 &&& 31)) 50)))), (0, .ref b), (1, .ref ob), (2, .ref sm), (3, .int (nI t)), (4, .int xv), (5, .long (digS σ)), (7, .int (nI n)), (8, .int (lost σ))]) hx hb dL_law_583 hl (by decide) rfl (fun ls hl => ?_)
  refine lv_aload hx hb dL_law_585 (lv_at hl 0 rfl) ?_
  refine s_get hx hb hts hown hK hP (σ := σ) (n := n) (k := k) (q := y1.2) (sm := y1.1) (w0 := sC cI cL sm q σ n k) (w2 := (oC ob h h2) ++ ((mC cI cZ h a σ) ++ (mC cI cZ h2 a2 ρ_1))) rfl 0 (by decide) q434 (v := .ref y1.2.1.1) rfl dL_law_587 ?_
  refine lv_iload hx hb dL_law_590 (lv_at hl 1 rfl) ?_
  refine s_alF hx hb hK hP (σ := σ) (n := n) (k := k) (q := y1.2) (sm := y1.1) (w0 := sC cI cL sm q σ n k) (w2 := (oC ob h h2) ++ ((mC cI cZ h a σ) ++ (mC cI cZ h2 a2 ρ_1))) rfl jb (rfl) (by omega) (by omega) dL_law_592 ?_
  refine lv_iconst (v := 2) hx hb dL_law_593 (by decide) ?_
  refine lv_dup2_11 hx hb dL_law_594 rfl rfl ?_
  refine s_ldF hx hb hK hP (σ := σ) (n := n) (k := k) (q := y1.2) (sm := y1.1) (w0 := sC cI cL sm q σ n k) (w2 := (oC ob h h2) ++ ((mC cI cZ h a σ) ++ (mC cI cZ h2 a2 ρ_1))) rfl jb (by omega) 2 rfl (by decide) (v := σ 2 jb) rfl dL_law_595 ?_
  refine lv_iload hx hb dL_law_596 (lv_at hl 2 rfl) ?_
  refine lv_iadd hx hb dL_law_598 ?_
  refine s_stF hx hb hK hP hD hS (σ := σ) (n := n) (k := k) (q := y1.2) (sm := y1.1) (w0 := sC cI cL sm q σ n k) (w2 := (oC ob h h2) ++ ((mC cI cZ h a σ) ++ (mC cI cZ h2 a2 ρ_1))) rfl jb (by omega) 2 rfl (by decide) dL_law_599 (fun H locs hP hD hS => ?_)
  have hP : va_P D vwCl ((sC cI cL sm q σ n k) ++ ((sC cI cL y1.1 y1.2 (su σ 2 jb ((σ 2 jb) + (nI (1 + (bel (xv >>> (4 &&& 31)) 50))))) n k) ++ ((oC ob h h2) ++ ((mC cI cZ h a σ) ++ (mC cI cZ h2 a2 ρ_1))))) H := hP
  have hD : va_D A ((sC cI cL sm q σ n k) ++ ((sC cI cL y1.1 y1.2 (su σ 2 jb ((σ 2 jb) + (nI (1 + (bel (xv >>> (4 &&& 31)) 50))))) n k) ++ ((oC ob h h2) ++ ((mC cI cZ h a σ) ++ (mC cI cZ h2 a2 ρ_1))))) := hD
  have hP : va_P D vwCl ((sC cI cL sm q σ n k) ++ ((sC cI cL y1.1 y1.2 (addW σ jb (nI (1 + (bel (xv >>> (4 &&& 31)) 50)))) n k) ++ ((oC ob h h2) ++ ((mC cI cZ h a σ) ++ (mC cI cZ h2 a2 ρ_1))))) H := hP
  have hD : va_D A ((sC cI cL sm q σ n k) ++ ((sC cI cL y1.1 y1.2 (addW σ jb (nI (1 + (bel (xv >>> (4 &&& 31)) 50)))) n k) ++ ((oC ob h h2) ++ ((mC cI cZ h a σ) ++ (mC cI cZ h2 a2 ρ_1))))) := hD
  refine lv_iload hx hb dL_law_600 (lv_at hl 7 rfl) ?_
  refine lv_iconst (v := 5) hx hb dL_law_602 (by decide) ?_
  refine lv_ishr hx hb dL_law_603 ?_
  refine lv_iload hx hb dL_law_604 (lv_at hl 9 rfl) ?_
  refine MC.callS (As := [.int (xv >>> (5 &&& 31)), .int (nI n)]) (rest := []) (wB := (sC cI cL sm q σ n k) ++ ((sC cI cL y1.1 y1.2 (addW σ jb (nI (1 + (bel (xv >>> (4 &&& 31)) 50)))) n k) ++ ((oC ob h h2) ++ ((mC cI cZ h a σ) ++ (mC cI cZ h2 a2 ρ_1))))) (c_L_below l D cI cZ cL (xv >>> (5 &&& 31)) n (by omega) (by omega)) ⟨hx, hb, hml, hown, hts⟩ q529 b_L_below (n := 2) (by decide +kernel) ⟨Nat.le_of_ble_eq_true rfl, Nat.le_of_ble_eq_true rfl⟩ hK hP hD hS hA (spE _) (spE _) rfl hl.1 rfl (Nat.le_of_ble_eq_true rfl) dL_law_606 ⟨by show ((c0 + 140) + 60) + 0 ≤ 650901; omega, by show ((s0 + 1400) + 600) + 0 ≤ 7148764; omega⟩ (fun H locs hP hD hS => ?_)
  refine W.wide (k := ((c0 + 140) + 60)) (n := ((s0 + 1400) + 600)) (by show ((c0 + 140) + 60) + 0 ≤ ((c0 + 140) + 60); omega) (by show ((s0 + 1400) + 600) + 0 ≤ ((s0 + 1400) + 600); omega) ?_
  have hb_606 : bel (xv >>> (5 &&& 31)) n < n := bel_lt (by omega)
  refine lv_istore (lv' := [(16, .int (nI (bel (xv >>> (5 &&& 31)) n))), (15, .ref y1.1), (14, .int (nI jb)), (13, .int (nI (1 + (bel (xv >>> (4 &&& 31)) 50)))), (0, .ref b), (1, .ref ob), (2, .ref sm), (3, .int (nI t)), (4, .int xv), (5, .long (digS σ)), (7, .int (nI n)), (8, .int (lost σ))]) hx hb dL_law_609 hl (by decide) rfl (fun ls hl => ?_)
  refine lv_aload_n hx hb dL_law_611 rfl (lv_at hl 6 rfl) ?_
  refine MY.callV0 (C := RX2) (T := TX2) (N := 5) (As := []) (rest := []) (w0 := []) (w2 := (sC cI cL y1.1 y1.2 (addW σ jb (nI (1 + (bel (xv >>> (4 &&& 31)) 50)))) n k) ++ ((oC ob h h2) ++ ((mC cI cZ h a σ) ++ (mC cI cZ h2 a2 ρ_1)))) (wB := fun y2 => (sC cI cL sm q σ n k) ++ ((sC cI cL y2.1 y2.2 σ n k) ++ ((sC cI cL y1.1 y1.2 (addW σ jb (nI (1 + (bel (xv >>> (4 &&& 31)) 50)))) n k) ++ ((oC ob h h2) ++ ((mC cI cZ h a σ) ++ (mC cI cZ h2 a2 ρ_1)))))) (c_X2_copy l D cI cZ cL sm q σ hst) ⟨hx, hb, hml, hown, hts⟩ q421 b_X2_copy (n := 0) (by decide +kernel) ⟨(Nat.le_of_ble_eq_true rfl), (Nat.le_of_ble_eq_true rfl)⟩ hK hP hD hS hA (EY.non hE) (by simp only [List.append_assoc, List.append_nil, List.nil_append]) (fun _ => by simp only [List.append_assoc, List.append_nil, List.nil_append]) (ci := 2) rfl rfl rfl hl.1 rfl (Nat.le_of_ble_eq_true rfl) dL_law_612 ⟨by show ((c0 + 140) + 60) + 60 ≤ 650901; omega, by show ((s0 + 1400) + 600) + 600 ≤ 7148764; omega⟩ (fun y2 H locs hP hD hS => ?_)
  have hP : va_P D vwCl ((sC cI cL sm q σ n k) ++ ((sC cI cL y2.1 y2.2 σ n k) ++ ((sC cI cL y1.1 y1.2 (addW σ jb (nI (1 + (bel (xv >>> (4 &&& 31)) 50)))) n k) ++ ((oC ob h h2) ++ ((mC cI cZ h a σ) ++ (mC cI cZ h2 a2 ρ_1)))))) H := hP
  have hD : va_D A ((sC cI cL sm q σ n k) ++ ((sC cI cL y2.1 y2.2 σ n k) ++ ((sC cI cL y1.1 y1.2 (addW σ jb (nI (1 + (bel (xv >>> (4 &&& 31)) 50)))) n k) ++ ((oC ob h h2) ++ ((mC cI cZ h a σ) ++ (mC cI cZ h2 a2 ρ_1)))))) := hD
  refine W.wide (k := (((c0 + 140) + 60) + 60)) (n := (((s0 + 1400) + 600) + 600)) (by show ((c0 + 140) + 60) + 60 ≤ (((c0 + 140) + 60) + 60); omega) (by show ((s0 + 1400) + 600) + 600 ≤ (((s0 + 1400) + 600) + 600); omega) ?_
  refine lv_astore (lv' := [(17, .ref y2.1), (16, .int (nI (bel (xv >>> (5 &&& 31)) n))), (15, .ref y1.1), (14, .int (nI jb)), (13, .int (nI (1 + (bel (xv >>> (4 &&& 31)) 50)))), (0, .ref b), (1, .ref ob), (2, .ref sm), (3, .int (nI t)), (4, .int xv), (5, .long (digS σ)), (7, .int (nI n)), (8, .int (lost σ))]) hx hb dL_law_615 hl (by decide) rfl (fun ls hl => ?_)
  refine lv_aload hx hb dL_law_617 (lv_at hl 0 rfl) ?_
  refine s_get hx hb hts hown hK hP (σ := σ) (n := n) (k := k) (q := y2.2) (sm := y2.1) (w0 := sC cI cL sm q σ n k) (w2 := (sC cI cL y1.1 y1.2 (addW σ jb (nI (1 + (bel (xv >>> (4 &&& 31)) 50)))) n k) ++ ((oC ob h h2) ++ ((mC cI cZ h a σ) ++ (mC cI cZ h2 a2 ρ_1)))) rfl 0 (by decide) q434 (v := .ref y2.2.1.1) rfl dL_law_619 ?_
  refine lv_iload hx hb dL_law_622 (lv_at hl 1 rfl) ?_
  refine s_alF hx hb hK hP (σ := σ) (n := n) (k := k) (q := y2.2) (sm := y2.1) (w0 := sC cI cL sm q σ n k) (w2 := (sC cI cL y1.1 y1.2 (addW σ jb (nI (1 + (bel (xv >>> (4 &&& 31)) 50)))) n k) ++ ((oC ob h h2) ++ ((mC cI cZ h a σ) ++ (mC cI cZ h2 a2 ρ_1)))) rfl (bel (xv >>> (5 &&& 31)) n) (rfl) (by omega) (by omega) dL_law_624 ?_
  refine lv_iconst (v := 2) hx hb dL_law_625 (by decide) ?_
  refine lv_dup2_11 hx hb dL_law_626 rfl rfl ?_
  refine s_ldF hx hb hK hP (σ := σ) (n := n) (k := k) (q := y2.2) (sm := y2.1) (w0 := sC cI cL sm q σ n k) (w2 := (sC cI cL y1.1 y1.2 (addW σ jb (nI (1 + (bel (xv >>> (4 &&& 31)) 50)))) n k) ++ ((oC ob h h2) ++ ((mC cI cZ h a σ) ++ (mC cI cZ h2 a2 ρ_1)))) rfl (bel (xv >>> (5 &&& 31)) n) (by omega) 2 rfl (by decide) (v := σ 2 (bel (xv >>> (5 &&& 31)) n)) rfl dL_law_627 ?_
  refine lv_iload hx hb dL_law_628 (lv_at hl 4 rfl) ?_
  refine lv_iadd hx hb dL_law_630 ?_
  refine s_stF hx hb hK hP hD hS (σ := σ) (n := n) (k := k) (q := y2.2) (sm := y2.1) (w0 := sC cI cL sm q σ n k) (w2 := (sC cI cL y1.1 y1.2 (addW σ jb (nI (1 + (bel (xv >>> (4 &&& 31)) 50)))) n k) ++ ((oC ob h h2) ++ ((mC cI cZ h a σ) ++ (mC cI cZ h2 a2 ρ_1)))) rfl (bel (xv >>> (5 &&& 31)) n) (by omega) 2 rfl (by decide) dL_law_631 (fun H locs hP hD hS => ?_)
  have hP : va_P D vwCl ((sC cI cL sm q σ n k) ++ ((sC cI cL y2.1 y2.2 (su σ 2 (bel (xv >>> (5 &&& 31)) n) ((σ 2 (bel (xv >>> (5 &&& 31)) n)) + (nI (1 + (bel (xv >>> (4 &&& 31)) 50))))) n k) ++ ((sC cI cL y1.1 y1.2 (addW σ jb (nI (1 + (bel (xv >>> (4 &&& 31)) 50)))) n k) ++ ((oC ob h h2) ++ ((mC cI cZ h a σ) ++ (mC cI cZ h2 a2 ρ_1)))))) H := hP
  have hD : va_D A ((sC cI cL sm q σ n k) ++ ((sC cI cL y2.1 y2.2 (su σ 2 (bel (xv >>> (5 &&& 31)) n) ((σ 2 (bel (xv >>> (5 &&& 31)) n)) + (nI (1 + (bel (xv >>> (4 &&& 31)) 50))))) n k) ++ ((sC cI cL y1.1 y1.2 (addW σ jb (nI (1 + (bel (xv >>> (4 &&& 31)) 50)))) n k) ++ ((oC ob h h2) ++ ((mC cI cZ h a σ) ++ (mC cI cZ h2 a2 ρ_1)))))) := hD
  have hP : va_P D vwCl ((sC cI cL sm q σ n k) ++ ((sC cI cL y2.1 y2.2 (addW σ (bel (xv >>> (5 &&& 31)) n) (nI (1 + (bel (xv >>> (4 &&& 31)) 50)))) n k) ++ ((sC cI cL y1.1 y1.2 (addW σ jb (nI (1 + (bel (xv >>> (4 &&& 31)) 50)))) n k) ++ ((oC ob h h2) ++ ((mC cI cZ h a σ) ++ (mC cI cZ h2 a2 ρ_1)))))) H := hP
  have hD : va_D A ((sC cI cL sm q σ n k) ++ ((sC cI cL y2.1 y2.2 (addW σ (bel (xv >>> (5 &&& 31)) n) (nI (1 + (bel (xv >>> (4 &&& 31)) 50)))) n k) ++ ((sC cI cL y1.1 y1.2 (addW σ jb (nI (1 + (bel (xv >>> (4 &&& 31)) 50)))) n k) ++ ((oC ob h h2) ++ ((mC cI cZ h a σ) ++ (mC cI cZ h2 a2 ρ_1)))))) := hD
  refine lv_aload hx hb dL_law_632 (lv_at hl 2 rfl) ?_
  refine lv_bipush (v := 24) hx hb dL_law_634 (by decide) ?_
  refine MY.callV0 (C := RX2) (T := TX2) (N := 5) (As := [.int 24]) (rest := []) (w0 := (sC cI cL sm q σ n k) ++ (sC cI cL y2.1 y2.2 (addW σ (bel (xv >>> (5 &&& 31)) n) (nI (1 + (bel (xv >>> (4 &&& 31)) 50)))) n k)) (w2 := (oC ob h h2) ++ ((mC cI cZ h a σ) ++ (mC cI cZ h2 a2 ρ_1))) (wB := fun _u => (sC cI cL sm q σ n k) ++ ((sC cI cL y2.1 y2.2 (addW σ (bel (xv >>> (5 &&& 31)) n) (nI (1 + (bel (xv >>> (4 &&& 31)) 50)))) n k) ++ ((sC cI cL y1.1 y1.2 (addW σ jb (nI (1 + (bel (xv >>> (4 &&& 31)) 50)))) n k) ++ ((oC ob h h2) ++ ((mC cI cZ h a σ) ++ (mC cI cZ h2 a2 ρ_1)))))) (c_X2_lossIn l D cI cZ cL y1.1 y1.2 (addW σ jb (nI (1 + (bel (xv >>> (4 &&& 31)) 50)))) (hst.aw jb _) (hB.fw (f := jb) (m := 1 + (bel (xv >>> (4 &&& 31)) 50)) (by omega)) 24 (by decide) (by omega)) ⟨hx, hb, hml, hown, hts⟩ q476 b_X2_lossIn (n := 1) (by decide +kernel) ⟨(Nat.le_of_ble_eq_true rfl), (Nat.le_of_ble_eq_true rfl)⟩ hK hP hD hS hA (EY.non hE) (by simp only [List.append_assoc, List.append_nil, List.nil_append]) (fun _ => by simp only [List.append_assoc, List.append_nil, List.nil_append]) (ci := 2) rfl rfl rfl hl.1 rfl (Nat.le_of_ble_eq_true rfl) dL_law_636 ⟨by show (((c0 + 140) + 60) + 60) + 60 ≤ 650901; omega, by show (((s0 + 1400) + 600) + 600) + 600 ≤ 7148764; omega⟩ (fun _u H locs hP hD hS => ?_)
  have hP : va_P D vwCl ((sC cI cL sm q σ n k) ++ ((sC cI cL y2.1 y2.2 (addW σ (bel (xv >>> (5 &&& 31)) n) (nI (1 + (bel (xv >>> (4 &&& 31)) 50)))) n k) ++ ((sC cI cL y1.1 y1.2 (addW σ jb (nI (1 + (bel (xv >>> (4 &&& 31)) 50)))) n k) ++ ((oC ob h h2) ++ ((mC cI cZ h a σ) ++ (mC cI cZ h2 a2 ρ_1)))))) H := hP
  have hD : va_D A ((sC cI cL sm q σ n k) ++ ((sC cI cL y2.1 y2.2 (addW σ (bel (xv >>> (5 &&& 31)) n) (nI (1 + (bel (xv >>> (4 &&& 31)) 50)))) n k) ++ ((sC cI cL y1.1 y1.2 (addW σ jb (nI (1 + (bel (xv >>> (4 &&& 31)) 50)))) n k) ++ ((oC ob h h2) ++ ((mC cI cZ h a σ) ++ (mC cI cZ h2 a2 ρ_1)))))) := hD
  refine W.wide (k := ((((c0 + 140) + 60) + 60) + 60)) (n := ((((s0 + 1400) + 600) + 600) + 600)) (by show (((c0 + 140) + 60) + 60) + 60 ≤ ((((c0 + 140) + 60) + 60) + 60); omega) (by show (((s0 + 1400) + 600) + 600) + 600 ≤ ((((s0 + 1400) + 600) + 600) + 600); omega) ?_
  refine lv_aload hx hb dL_law_639 (lv_at hl 0 rfl) ?_
  refine lv_bipush (v := 24) hx hb dL_law_641 (by decide) ?_
  refine MY.callV0 (C := RX2) (T := TX2) (N := 5) (As := [.int 24]) (rest := [.int (lossH 24 (addW σ jb (nI (1 + (bel (xv >>> (4 &&& 31)) 50)))))]) (w0 := sC cI cL sm q σ n k) (w2 := (sC cI cL y1.1 y1.2 (addW σ jb (nI (1 + (bel (xv >>> (4 &&& 31)) 50)))) n k) ++ ((oC ob h h2) ++ ((mC cI cZ h a σ) ++ (mC cI cZ h2 a2 ρ_1)))) (wB := fun _u => (sC cI cL sm q σ n k) ++ ((sC cI cL y2.1 y2.2 (addW σ (bel (xv >>> (5 &&& 31)) n) (nI (1 + (bel (xv >>> (4 &&& 31)) 50)))) n k) ++ ((sC cI cL y1.1 y1.2 (addW σ jb (nI (1 + (bel (xv >>> (4 &&& 31)) 50)))) n k) ++ ((oC ob h h2) ++ ((mC cI cZ h a σ) ++ (mC cI cZ h2 a2 ρ_1)))))) (c_X2_lossIn l D cI cZ cL y2.1 y2.2 (addW σ (bel (xv >>> (5 &&& 31)) n) (nI (1 + (bel (xv >>> (4 &&& 31)) 50)))) (hst.aw (bel (xv >>> (5 &&& 31)) n) _) (hB.fw (f := bel (xv >>> (5 &&& 31)) n) (m := 1 + (bel (xv >>> (4 &&& 31)) 50)) (by omega)) 24 (by decide) (by omega)) ⟨hx, hb, hml, hown, hts⟩ q476 b_X2_lossIn (n := 1) (by decide +kernel) ⟨(Nat.le_of_ble_eq_true rfl), (Nat.le_of_ble_eq_true rfl)⟩ hK hP hD hS hA (EY.non hE) (by simp only [List.append_assoc, List.append_nil, List.nil_append]) (fun _ => by simp only [List.append_assoc, List.append_nil, List.nil_append]) (ci := 2) rfl rfl rfl hl.1 rfl (Nat.le_of_ble_eq_true rfl) dL_law_643 ⟨by show ((((c0 + 140) + 60) + 60) + 60) + 60 ≤ 650901; omega, by show ((((s0 + 1400) + 600) + 600) + 600) + 600 ≤ 7148764; omega⟩ (fun _u H locs hP hD hS => ?_)
  have hP : va_P D vwCl ((sC cI cL sm q σ n k) ++ ((sC cI cL y2.1 y2.2 (addW σ (bel (xv >>> (5 &&& 31)) n) (nI (1 + (bel (xv >>> (4 &&& 31)) 50)))) n k) ++ ((sC cI cL y1.1 y1.2 (addW σ jb (nI (1 + (bel (xv >>> (4 &&& 31)) 50)))) n k) ++ ((oC ob h h2) ++ ((mC cI cZ h a σ) ++ (mC cI cZ h2 a2 ρ_1)))))) H := hP
  have hD : va_D A ((sC cI cL sm q σ n k) ++ ((sC cI cL y2.1 y2.2 (addW σ (bel (xv >>> (5 &&& 31)) n) (nI (1 + (bel (xv >>> (4 &&& 31)) 50)))) n k) ++ ((sC cI cL y1.1 y1.2 (addW σ jb (nI (1 + (bel (xv >>> (4 &&& 31)) 50)))) n k) ++ ((oC ob h h2) ++ ((mC cI cZ h a σ) ++ (mC cI cZ h2 a2 ρ_1)))))) := hD
  refine W.wide (k := (((((c0 + 140) + 60) + 60) + 60) + 60)) (n := (((((s0 + 1400) + 600) + 600) + 600) + 600)) (by show ((((c0 + 140) + 60) + 60) + 60) + 60 ≤ (((((c0 + 140) + 60) + 60) + 60) + 60); omega) (by show ((((s0 + 1400) + 600) + 600) + 600) + 600 ≤ (((((s0 + 1400) + 600) + 600) + 600) + 600); omega) ?_
  refine lv_icmp_gt (tgt := 673) hx hb dL_law_646 (by decide) (fun z => absurd z (Int32.not_lt.mpr (hbest (bel (xv >>> (5 &&& 31)) n) (by omega)).1)) (fun c_646 => ?_)
  refine lv_aload hx hb dL_law_649 (lv_at hl 2 rfl) ?_
  refine lv_bipush (v := 24) hx hb dL_law_651 (by decide) ?_
  refine MY.callV0 (C := RX2) (T := TX2) (N := 5) (As := [.int 24]) (rest := []) (w0 := (sC cI cL sm q σ n k) ++ (sC cI cL y2.1 y2.2 (addW σ (bel (xv >>> (5 &&& 31)) n) (nI (1 + (bel (xv >>> (4 &&& 31)) 50)))) n k)) (w2 := (oC ob h h2) ++ ((mC cI cZ h a σ) ++ (mC cI cZ h2 a2 ρ_1))) (wB := fun _u => (sC cI cL sm q σ n k) ++ ((sC cI cL y2.1 y2.2 (addW σ (bel (xv >>> (5 &&& 31)) n) (nI (1 + (bel (xv >>> (4 &&& 31)) 50)))) n k) ++ ((sC cI cL y1.1 y1.2 (addW σ jb (nI (1 + (bel (xv >>> (4 &&& 31)) 50)))) n k) ++ ((oC ob h h2) ++ ((mC cI cZ h a σ) ++ (mC cI cZ h2 a2 ρ_1)))))) (c_X2_lossIn l D cI cZ cL y1.1 y1.2 (addW σ jb (nI (1 + (bel (xv >>> (4 &&& 31)) 50)))) (hst.aw jb _) (hB.fw (f := jb) (m := 1 + (bel (xv >>> (4 &&& 31)) 50)) (by omega)) 24 (by decide) (by omega)) ⟨hx, hb, hml, hown, hts⟩ q476 b_X2_lossIn (n := 1) (by decide +kernel) ⟨(Nat.le_of_ble_eq_true rfl), (Nat.le_of_ble_eq_true rfl)⟩ hK hP hD hS hA (EY.non hE) (by simp only [List.append_assoc, List.append_nil, List.nil_append]) (fun _ => by simp only [List.append_assoc, List.append_nil, List.nil_append]) (ci := 2) rfl rfl rfl hl.1 rfl (Nat.le_of_ble_eq_true rfl) dL_law_653 ⟨by show (((((c0 + 140) + 60) + 60) + 60) + 60) + 60 ≤ 650901; omega, by show (((((s0 + 1400) + 600) + 600) + 600) + 600) + 600 ≤ 7148764; omega⟩ (fun _u H locs hP hD hS => ?_)
  have hP : va_P D vwCl ((sC cI cL sm q σ n k) ++ ((sC cI cL y2.1 y2.2 (addW σ (bel (xv >>> (5 &&& 31)) n) (nI (1 + (bel (xv >>> (4 &&& 31)) 50)))) n k) ++ ((sC cI cL y1.1 y1.2 (addW σ jb (nI (1 + (bel (xv >>> (4 &&& 31)) 50)))) n k) ++ ((oC ob h h2) ++ ((mC cI cZ h a σ) ++ (mC cI cZ h2 a2 ρ_1)))))) H := hP
  have hD : va_D A ((sC cI cL sm q σ n k) ++ ((sC cI cL y2.1 y2.2 (addW σ (bel (xv >>> (5 &&& 31)) n) (nI (1 + (bel (xv >>> (4 &&& 31)) 50)))) n k) ++ ((sC cI cL y1.1 y1.2 (addW σ jb (nI (1 + (bel (xv >>> (4 &&& 31)) 50)))) n k) ++ ((oC ob h h2) ++ ((mC cI cZ h a σ) ++ (mC cI cZ h2 a2 ρ_1)))))) := hD
  refine W.wide (k := ((((((c0 + 140) + 60) + 60) + 60) + 60) + 60)) (n := ((((((s0 + 1400) + 600) + 600) + 600) + 600) + 600)) (by show (((((c0 + 140) + 60) + 60) + 60) + 60) + 60 ≤ ((((((c0 + 140) + 60) + 60) + 60) + 60) + 60); omega) (by show (((((s0 + 1400) + 600) + 600) + 600) + 600) + 600 ≤ ((((((s0 + 1400) + 600) + 600) + 600) + 600) + 600); omega) ?_
  refine lv_aload hx hb dL_law_656 (lv_at hl 0 rfl) ?_
  refine lv_bipush (v := 24) hx hb dL_law_658 (by decide) ?_
  refine MY.callV0 (C := RX2) (T := TX2) (N := 5) (As := [.int 24]) (rest := [.int (lossH 24 (addW σ jb (nI (1 + (bel (xv >>> (4 &&& 31)) 50)))))]) (w0 := sC cI cL sm q σ n k) (w2 := (sC cI cL y1.1 y1.2 (addW σ jb (nI (1 + (bel (xv >>> (4 &&& 31)) 50)))) n k) ++ ((oC ob h h2) ++ ((mC cI cZ h a σ) ++ (mC cI cZ h2 a2 ρ_1)))) (wB := fun _u => (sC cI cL sm q σ n k) ++ ((sC cI cL y2.1 y2.2 (addW σ (bel (xv >>> (5 &&& 31)) n) (nI (1 + (bel (xv >>> (4 &&& 31)) 50)))) n k) ++ ((sC cI cL y1.1 y1.2 (addW σ jb (nI (1 + (bel (xv >>> (4 &&& 31)) 50)))) n k) ++ ((oC ob h h2) ++ ((mC cI cZ h a σ) ++ (mC cI cZ h2 a2 ρ_1)))))) (c_X2_lossIn l D cI cZ cL y2.1 y2.2 (addW σ (bel (xv >>> (5 &&& 31)) n) (nI (1 + (bel (xv >>> (4 &&& 31)) 50)))) (hst.aw (bel (xv >>> (5 &&& 31)) n) _) (hB.fw (f := bel (xv >>> (5 &&& 31)) n) (m := 1 + (bel (xv >>> (4 &&& 31)) 50)) (by omega)) 24 (by decide) (by omega)) ⟨hx, hb, hml, hown, hts⟩ q476 b_X2_lossIn (n := 1) (by decide +kernel) ⟨(Nat.le_of_ble_eq_true rfl), (Nat.le_of_ble_eq_true rfl)⟩ hK hP hD hS hA (EY.non hE) (by simp only [List.append_assoc, List.append_nil, List.nil_append]) (fun _ => by simp only [List.append_assoc, List.append_nil, List.nil_append]) (ci := 2) rfl rfl rfl hl.1 rfl (Nat.le_of_ble_eq_true rfl) dL_law_660 ⟨by show ((((((c0 + 140) + 60) + 60) + 60) + 60) + 60) + 60 ≤ 650901; omega, by show ((((((s0 + 1400) + 600) + 600) + 600) + 600) + 600) + 600 ≤ 7148764; omega⟩ (fun _u H locs hP hD hS => ?_)
  have hP : va_P D vwCl ((sC cI cL sm q σ n k) ++ ((sC cI cL y2.1 y2.2 (addW σ (bel (xv >>> (5 &&& 31)) n) (nI (1 + (bel (xv >>> (4 &&& 31)) 50)))) n k) ++ ((sC cI cL y1.1 y1.2 (addW σ jb (nI (1 + (bel (xv >>> (4 &&& 31)) 50)))) n k) ++ ((oC ob h h2) ++ ((mC cI cZ h a σ) ++ (mC cI cZ h2 a2 ρ_1)))))) H := hP
  have hD : va_D A ((sC cI cL sm q σ n k) ++ ((sC cI cL y2.1 y2.2 (addW σ (bel (xv >>> (5 &&& 31)) n) (nI (1 + (bel (xv >>> (4 &&& 31)) 50)))) n k) ++ ((sC cI cL y1.1 y1.2 (addW σ jb (nI (1 + (bel (xv >>> (4 &&& 31)) 50)))) n k) ++ ((oC ob h h2) ++ ((mC cI cZ h a σ) ++ (mC cI cZ h2 a2 ρ_1)))))) := hD
  refine W.wide (k := (((((((c0 + 140) + 60) + 60) + 60) + 60) + 60) + 60)) (n := (((((((s0 + 1400) + 600) + 600) + 600) + 600) + 600) + 600)) (by show ((((((c0 + 140) + 60) + 60) + 60) + 60) + 60) + 60 ≤ (((((((c0 + 140) + 60) + 60) + 60) + 60) + 60) + 60); omega) (by show ((((((s0 + 1400) + 600) + 600) + 600) + 600) + 600) + 600 ≤ (((((((s0 + 1400) + 600) + 600) + 600) + 600) + 600) + 600); omega) ?_
  refine lv_icmp_ne (tgt := 675) hx hb dL_law_663 (by decide) (fun c_663 => ?_) (fun c_663 => ?_)
  · obtain ⟨hP, hD⟩ := p_drop (b := (sC cI cL sm q σ n k) ++ ((oC ob h h2) ++ ((mC cI cZ h a σ) ++ (mC cI cZ h2 a2 ρ_1)))) ((sC cI cL y2.1 y2.2 (addW σ (bel (xv >>> (5 &&& 31)) n) (nI (1 + (bel (xv >>> (4 &&& 31)) 50)))) n k) ++ (sC cI cL y1.1 y1.2 (addW σ jb (nI (1 + (bel (xv >>> (4 &&& 31)) 50)))) n k)) (pm (fun i y => by simp only [List.count_append]; omega)) hP hD
    have hP : va_P D vwCl ((sC cI cL sm q σ n k) ++ ((oC ob h h2) ++ ((mC cI cZ h a σ) ++ (mC cI cZ h2 a2 ρ_1)))) H := hP
    have hD : va_D A ((sC cI cL sm q σ n k) ++ ((oC ob h h2) ++ ((mC cI cZ h a σ) ++ (mC cI cZ h2 a2 ρ_1)))) := hD
    refine W.wide (k := (c0 + 510)) (n := (s0 + 5100)) (by first | omega | exact Nat.le_of_ble_eq_true rfl) (by first | omega | exact Nat.le_of_ble_eq_true rfl) ?_
    exact NX ρ_1 _ _ _ hP hD hS (lv_sub hl [5, 6, 7, 8, 9, 10, 11, 12] rfl)
  · refine lv_iload hx hb dL_law_666 (lv_at hl 1 rfl) ?_
    refine lv_iload hx hb dL_law_668 (lv_at hl 3 rfl) ?_
    refine lv_icmp_ge (tgt := 675) hx hb dL_law_670 (by decide) (fun c_670 => ?_) (fun z => absurd ((nI_leI (by omega) (by omega)).mpr ((hbest (bel (xv >>> (5 &&& 31)) n) (by omega)).2 c_663.symm)) z)
    obtain ⟨hP, hD⟩ := p_drop (b := (sC cI cL sm q σ n k) ++ ((oC ob h h2) ++ ((mC cI cZ h a σ) ++ (mC cI cZ h2 a2 ρ_1)))) ((sC cI cL y2.1 y2.2 (addW σ (bel (xv >>> (5 &&& 31)) n) (nI (1 + (bel (xv >>> (4 &&& 31)) 50)))) n k) ++ (sC cI cL y1.1 y1.2 (addW σ jb (nI (1 + (bel (xv >>> (4 &&& 31)) 50)))) n k)) (pm (fun i y => by simp only [List.count_append]; omega)) hP hD
    have hP : va_P D vwCl ((sC cI cL sm q σ n k) ++ ((oC ob h h2) ++ ((mC cI cZ h a σ) ++ (mC cI cZ h2 a2 ρ_1)))) H := hP
    have hD : va_D A ((sC cI cL sm q σ n k) ++ ((oC ob h h2) ++ ((mC cI cZ h a σ) ++ (mC cI cZ h2 a2 ρ_1)))) := hD
    refine W.wide (k := (c0 + 510)) (n := (s0 + 5100)) (by first | omega | exact Nat.le_of_ble_eq_true rfl) (by first | omega | exact Nat.le_of_ble_eq_true rfl) ?_
    exact NX ρ_1 _ _ _ hP hD hS (lv_sub hl [5, 6, 7, 8, 9, 10, 11, 12] rfl)

set_option maxHeartbeats 16000000 in
set_option maxRecDepth 100000 in
theorem law_F (l : Launch) {p : Program} {e : Env} {s : State} {m : MethodId} {args : Array Value} {below : List Frame} {meth : Method} {c : Code} {Q : State → Prop} (D : va_G) (cI cZ cL : ClassId) {A : Nat → Prop} {b L : Nat} {xs : Nat → Int32} (sm ob h : Nat) (a : Nat → Nat) (h2 : Nat) (a2 : Nat → Nat) (hx : p.tables.exec = Jvm.exec) (hb : c.code = cL_law) (hml : c.maxLocals = 30) (hown : s.vm.findClass RL = some m.cls) (hts : ∀ w ∈ LW, w.before args s = true) (hE9 : EY (some (b, L, xs)) A s s.heap) (hK : va_K D vwCl (tZ cI cZ cL) s) (hA : ∀ q : Nat, s.heap.size ≤ q → A q) (hL : L ≤ 260) {t : Nat} (ht : t < 5) {c0 s0 : Nat} (hc0 : c0 + 700 ≤ 650901) (hs0 : s0 + 7000 ≤ 7148764) {n k B : Nat} (q : SA) (σ : Sg) (hI : Iv n k B σ) (hn2 : 2 ≤ n) (hB9 : B + 100000 < 2 ^ 28) (xv : Int32) (NX : (∀ (ρ : Sg) (H : Heap) (locs : List Loc) (ls : Array Slot), va_P D vwCl ((sC cI cL sm q σ n k) ++ ((oC ob h h2) ++ ((mC cI cZ h a σ) ++ (mC cI cZ h2 a2 ρ)))) H → va_D A ((sC cI cL sm q σ n k) ++ ((oC ob h h2) ++ ((mC cI cZ h a σ) ++ (mC cI cZ h2 a2 ρ)))) → va_S A s.heap H locs → lv_has ls 30 [(0, .ref b), (1, .ref ob), (2, .ref sm), (3, .int (nI t)), (4, .int xv), (5, .long (digS σ)), (7, .int (nI n)), (8, .int (lost σ))] → W p l e room_1 s m args below meth c H locs (c0 + 640) (s0 + 6400) Q (F0 m 730 ls []))) (τ : Sg) {H : Heap} {locs : List Loc} {ls : Array Slot} (hP : va_P D vwCl ((sC cI cL sm q σ n k) ++ ((oC ob h h2) ++ ((mC cI cZ h a σ) ++ (mC cI cZ h2 a2 τ)))) H) (hD : va_D A ((sC cI cL sm q σ n k) ++ ((oC ob h h2) ++ ((mC cI cZ h a σ) ++ (mC cI cZ h2 a2 τ))))) (hS : va_S A s.heap H locs) (hl : lv_has ls 30 [(0, .ref b), (1, .ref ob), (2, .ref sm), (3, .int (nI t)), (4, .int xv), (5, .long (digS σ)), (7, .int (nI n)), (8, .int (lost σ))]) : W p l e room_1 s m args below meth c H locs (c0 + 510) (s0 + 5100) Q (F0 m 675 ls []) := by
  have hst : Shp n k σ := hI.1
  have hB : Bnd B σ := hI.2.1
  have hn10 := hst.1
  have hk16 := hst.2.1
  have hE : EX A s s.heap := hE9.1
  refine lv_aload_n hx hb dL_law_675 rfl (lv_at hl 1 rfl) ?_
  refine MX.callV0 (C := RX1) (T := TX1) (N := 2) (As := []) (rest := []) (w0 := sC cI cL sm q σ n k) (w2 := []) (wB := fun ρ => (sC cI cL sm q σ n k) ++ ((oC ob h h2) ++ ((mC cI cZ h a σ) ++ (mC cI cZ h2 a2 ρ)))) (c_X1_rainBorne l D cI cZ cL ob h a h2 a2 σ τ hst hB) ⟨hx, hb, hml, hown, hts⟩ q367 b_X1_rainBorne (n := 0) (by decide +kernel) ⟨(Nat.le_of_ble_eq_true rfl), (Nat.le_of_ble_eq_true rfl)⟩ hK hP hD hS hA hE (by rw [List.append_nil]) (fun _ => by rw [List.append_nil]) (ci := 1) rfl rfl rfl hl.1 rfl (Nat.le_of_ble_eq_true rfl) dL_law_676 ⟨by show (c0 + 510) + 0 ≤ 650901; omega, by show (s0 + 5100) + 0 ≤ 7148764; omega⟩ (fun ρ_1 H locs hP hD hS => ?_)
  have hP : va_P D vwCl ((sC cI cL sm q σ n k) ++ ((oC ob h h2) ++ ((mC cI cZ h a σ) ++ (mC cI cZ h2 a2 ρ_1)))) H := hP
  have hD : va_D A ((sC cI cL sm q σ n k) ++ ((oC ob h h2) ++ ((mC cI cZ h a σ) ++ (mC cI cZ h2 a2 ρ_1)))) := hD
  refine W.wide (k := (c0 + 510)) (n := (s0 + 5100)) (by show (c0 + 510) + 0 ≤ (c0 + 510); omega) (by show (s0 + 5100) + 0 ≤ (s0 + 5100); omega) ?_
  rcases borne_is σ with ⟨hr0, hne⟩ | ⟨jr, hjr, hr0, heq⟩
  · refine x_top (hr0) ?_
    refine lv_istore (lv' := [(18, .int (-1)), (0, .ref b), (1, .ref ob), (2, .ref sm), (3, .int (nI t)), (4, .int xv), (5, .long (digS σ)), (7, .int (nI n)), (8, .int (lost σ))]) hx hb dL_law_679 hl (by decide) rfl (fun ls hl => ?_)
    refine lv_aload_n hx hb dL_law_681 rfl (lv_at hl 3 rfl) ?_
    refine MY.callV0 (C := RX2) (T := TX2) (N := 5) (As := []) (rest := []) (w0 := []) (w2 := (oC ob h h2) ++ ((mC cI cZ h a σ) ++ (mC cI cZ h2 a2 ρ_1))) (wB := fun y1 => (sC cI cL sm q σ n k) ++ ((sC cI cL y1.1 y1.2 σ n k) ++ ((oC ob h h2) ++ ((mC cI cZ h a σ) ++ (mC cI cZ h2 a2 ρ_1))))) (c_X2_copy l D cI cZ cL sm q σ hst) ⟨hx, hb, hml, hown, hts⟩ q421 b_X2_copy (n := 0) (by decide +kernel) ⟨(Nat.le_of_ble_eq_true rfl), (Nat.le_of_ble_eq_true rfl)⟩ hK hP hD hS hA (EY.non hE) (by simp only [List.append_assoc, List.append_nil, List.nil_append]) (fun _ => by simp only [List.append_assoc, List.append_nil, List.nil_append]) (ci := 2) rfl rfl rfl hl.1 rfl (Nat.le_of_ble_eq_true rfl) dL_law_682 ⟨by show (c0 + 510) + 60 ≤ 650901; omega, by show (s0 + 5100) + 600 ≤ 7148764; omega⟩ (fun y1 H locs hP hD hS => ?_)
    have hP : va_P D vwCl ((sC cI cL sm q σ n k) ++ ((sC cI cL y1.1 y1.2 σ n k) ++ ((oC ob h h2) ++ ((mC cI cZ h a σ) ++ (mC cI cZ h2 a2 ρ_1))))) H := hP
    have hD : va_D A ((sC cI cL sm q σ n k) ++ ((sC cI cL y1.1 y1.2 σ n k) ++ ((oC ob h h2) ++ ((mC cI cZ h a σ) ++ (mC cI cZ h2 a2 ρ_1))))) := hD
    refine W.wide (k := ((c0 + 510) + 60)) (n := ((s0 + 5100) + 600)) (by show (c0 + 510) + 60 ≤ ((c0 + 510) + 60); omega) (by show (s0 + 5100) + 600 ≤ ((s0 + 5100) + 600); omega) ?_
    refine lv_astore (lv' := [(19, .ref y1.1), (18, .int (-1)), (0, .ref b), (1, .ref ob), (2, .ref sm), (3, .int (nI t)), (4, .int xv), (5, .long (digS σ)), (7, .int (nI n)), (8, .int (lost σ))]) hx hb dL_law_685 hl (by decide) rfl (fun ls hl => ?_)
    refine lv_aload hx hb dL_law_687 (lv_at hl 0 rfl) ?_
    refine lv_iconst (v := 0) hx hb dL_law_689 (by decide) ?_
    refine lv_iload hx hb dL_law_690 (lv_at hl 1 rfl) ?_
    refine va_mmax hx hb (by rw [hml]; exact hl.1.symm) hown (hts _ q603) (hts _ q604) (hts _ q18) (hts _ q605) (by decide) (Nat.le_of_ble_eq_true rfl) (by show ((c0 + 510) + 60) ≤ 650901; omega) (by show ((s0 + 5100) + 600) ≤ 7148764; omega) dL_law_692 ?_
    refine x_top (show _ = nI 0 from rfl) ?_
    refine s_put hx hb hts hown hK hP hD hS (σ := σ) (n := n) (k := k) (q := y1.2) (sm := y1.1) (w0 := sC cI cL sm q σ n k) (w2 := (oC ob h h2) ++ ((mC cI cZ h a σ) ++ (mC cI cZ h2 a2 ρ_1))) rfl 2 2 (by decide) q438 dL_law_695 (fun H locs hP hD hS => ?_)
    have hP : va_P D vwCl ((sC cI cL sm q σ n k) ++ ((sC cI cL y1.1 y1.2 (sc σ 2 (nI 0)) n k) ++ ((oC ob h h2) ++ ((mC cI cZ h a σ) ++ (mC cI cZ h2 a2 ρ_1))))) H := hP
    have hD : va_D A ((sC cI cL sm q σ n k) ++ ((sC cI cL y1.1 y1.2 (sc σ 2 (nI 0)) n k) ++ ((oC ob h h2) ++ ((mC cI cZ h a σ) ++ (mC cI cZ h2 a2 ρ_1))))) := hD
    refine lv_aload hx hb dL_law_698 (lv_at hl 0 rfl) ?_
    refine lv_bipush (v := 24) hx hb dL_law_700 (by decide) ?_
    refine MY.callV0 (C := RX2) (T := TX2) (N := 5) (As := [.int 24]) (rest := []) (w0 := sC cI cL sm q σ n k) (w2 := (oC ob h h2) ++ ((mC cI cZ h a σ) ++ (mC cI cZ h2 a2 ρ_1))) (wB := fun _u => (sC cI cL sm q σ n k) ++ ((sC cI cL y1.1 y1.2 (sc σ 2 (nI 0)) n k) ++ ((oC ob h h2) ++ ((mC cI cZ h a σ) ++ (mC cI cZ h2 a2 ρ_1))))) (c_X2_lossIn l D cI cZ cL y1.1 y1.2 (sc σ 2 (nI 0)) (hst.osc 2 _ (by decide) (by decide)) ((hI.ra (r := 0) (by omega)).2.1) 24 (by decide) (by omega)) ⟨hx, hb, hml, hown, hts⟩ q476 b_X2_lossIn (n := 1) (by decide +kernel) ⟨(Nat.le_of_ble_eq_true rfl), (Nat.le_of_ble_eq_true rfl)⟩ hK hP hD hS hA (EY.non hE) (by simp only [List.append_assoc, List.append_nil, List.nil_append]) (fun _ => by simp only [List.append_assoc, List.append_nil, List.nil_append]) (ci := 2) rfl rfl rfl hl.1 rfl (Nat.le_of_ble_eq_true rfl) dL_law_702 ⟨by show ((c0 + 510) + 60) + 60 ≤ 650901; omega, by show ((s0 + 5100) + 600) + 600 ≤ 7148764; omega⟩ (fun _u H locs hP hD hS => ?_)
    have hP : va_P D vwCl ((sC cI cL sm q σ n k) ++ ((sC cI cL y1.1 y1.2 (sc σ 2 (nI 0)) n k) ++ ((oC ob h h2) ++ ((mC cI cZ h a σ) ++ (mC cI cZ h2 a2 ρ_1))))) H := hP
    have hD : va_D A ((sC cI cL sm q σ n k) ++ ((sC cI cL y1.1 y1.2 (sc σ 2 (nI 0)) n k) ++ ((oC ob h h2) ++ ((mC cI cZ h a σ) ++ (mC cI cZ h2 a2 ρ_1))))) := hD
    refine W.wide (k := (((c0 + 510) + 60) + 60)) (n := (((s0 + 5100) + 600) + 600)) (by show ((c0 + 510) + 60) + 60 ≤ (((c0 + 510) + 60) + 60); omega) (by show ((s0 + 5100) + 600) + 600 ≤ (((s0 + 5100) + 600) + 600); omega) ?_
    refine lv_iload hx hb dL_law_705 (lv_at hl 9 rfl) ?_
    refine lv_icmp_ne (tgt := 714) hx hb dL_law_707 (by decide) (fun c_707 => ?_) (fun z => absurd z (hne))
    refine lv_iconst (v := 0) hx hb dL_law_714 (by decide) ?_
    refine lv_iload hx hb dL_law_715 (lv_at hl 1 rfl) ?_
    refine lv_if_lt (tgt := 724) hx hb dL_law_717 (by decide) (fun c_717 => ?_) (fun z => absurd (by decide) z)
    refine lv_iconst (v := 0) hx hb dL_law_724 (by decide) ?_
    refine lv_icmp_eq (tgt := 730) hx hb dL_law_725 (by decide) (fun c_725 => ?_) (fun z => absurd (by decide) z)
    obtain ⟨hP, hD⟩ := p_drop (b := (sC cI cL sm q σ n k) ++ ((oC ob h h2) ++ ((mC cI cZ h a σ) ++ (mC cI cZ h2 a2 ρ_1)))) (sC cI cL y1.1 y1.2 (sc σ 2 (nI 0)) n k) (pm (fun i y => by simp only [List.count_append]; omega)) hP hD
    have hP : va_P D vwCl ((sC cI cL sm q σ n k) ++ ((oC ob h h2) ++ ((mC cI cZ h a σ) ++ (mC cI cZ h2 a2 ρ_1)))) H := hP
    have hD : va_D A ((sC cI cL sm q σ n k) ++ ((oC ob h h2) ++ ((mC cI cZ h a σ) ++ (mC cI cZ h2 a2 ρ_1)))) := hD
    refine W.wide (k := (c0 + 640)) (n := (s0 + 6400)) (by first | omega | exact Nat.le_of_ble_eq_true rfl) (by first | omega | exact Nat.le_of_ble_eq_true rfl) ?_
    exact NX ρ_1 _ _ _ hP hD hS (lv_sub hl [2, 3, 4, 5, 6, 7, 8, 9] rfl)
  · refine x_top (hr0) ?_
    refine lv_istore (lv' := [(18, .int (nI jr)), (0, .ref b), (1, .ref ob), (2, .ref sm), (3, .int (nI t)), (4, .int xv), (5, .long (digS σ)), (7, .int (nI n)), (8, .int (lost σ))]) hx hb dL_law_679 hl (by decide) rfl (fun ls hl => ?_)
    refine lv_aload_n hx hb dL_law_681 rfl (lv_at hl 3 rfl) ?_
    refine MY.callV0 (C := RX2) (T := TX2) (N := 5) (As := []) (rest := []) (w0 := []) (w2 := (oC ob h h2) ++ ((mC cI cZ h a σ) ++ (mC cI cZ h2 a2 ρ_1))) (wB := fun y1 => (sC cI cL sm q σ n k) ++ ((sC cI cL y1.1 y1.2 σ n k) ++ ((oC ob h h2) ++ ((mC cI cZ h a σ) ++ (mC cI cZ h2 a2 ρ_1))))) (c_X2_copy l D cI cZ cL sm q σ hst) ⟨hx, hb, hml, hown, hts⟩ q421 b_X2_copy (n := 0) (by decide +kernel) ⟨(Nat.le_of_ble_eq_true rfl), (Nat.le_of_ble_eq_true rfl)⟩ hK hP hD hS hA (EY.non hE) (by simp only [List.append_assoc, List.append_nil, List.nil_append]) (fun _ => by simp only [List.append_assoc, List.append_nil, List.nil_append]) (ci := 2) rfl rfl rfl hl.1 rfl (Nat.le_of_ble_eq_true rfl) dL_law_682 ⟨by show (c0 + 510) + 60 ≤ 650901; omega, by show (s0 + 5100) + 600 ≤ 7148764; omega⟩ (fun y1 H locs hP hD hS => ?_)
    have hP : va_P D vwCl ((sC cI cL sm q σ n k) ++ ((sC cI cL y1.1 y1.2 σ n k) ++ ((oC ob h h2) ++ ((mC cI cZ h a σ) ++ (mC cI cZ h2 a2 ρ_1))))) H := hP
    have hD : va_D A ((sC cI cL sm q σ n k) ++ ((sC cI cL y1.1 y1.2 σ n k) ++ ((oC ob h h2) ++ ((mC cI cZ h a σ) ++ (mC cI cZ h2 a2 ρ_1))))) := hD
    refine W.wide (k := ((c0 + 510) + 60)) (n := ((s0 + 5100) + 600)) (by show (c0 + 510) + 60 ≤ ((c0 + 510) + 60); omega) (by show (s0 + 5100) + 600 ≤ ((s0 + 5100) + 600); omega) ?_
    refine lv_astore (lv' := [(19, .ref y1.1), (18, .int (nI jr)), (0, .ref b), (1, .ref ob), (2, .ref sm), (3, .int (nI t)), (4, .int xv), (5, .long (digS σ)), (7, .int (nI n)), (8, .int (lost σ))]) hx hb dL_law_685 hl (by decide) rfl (fun ls hl => ?_)
    refine lv_aload hx hb dL_law_687 (lv_at hl 0 rfl) ?_
    refine lv_iconst (v := 0) hx hb dL_law_689 (by decide) ?_
    refine lv_iload hx hb dL_law_690 (lv_at hl 1 rfl) ?_
    refine va_mmax hx hb (by rw [hml]; exact hl.1.symm) hown (hts _ q603) (hts _ q604) (hts _ q18) (hts _ q605) (by decide) (Nat.le_of_ble_eq_true rfl) (by show ((c0 + 510) + 60) ≤ 650901; omega) (by show ((s0 + 5100) + 600) ≤ 7148764; omega) dL_law_692 ?_
    refine x_top (mx0 (by omega)) ?_
    refine s_put hx hb hts hown hK hP hD hS (σ := σ) (n := n) (k := k) (q := y1.2) (sm := y1.1) (w0 := sC cI cL sm q σ n k) (w2 := (oC ob h h2) ++ ((mC cI cZ h a σ) ++ (mC cI cZ h2 a2 ρ_1))) rfl 2 2 (by decide) q438 dL_law_695 (fun H locs hP hD hS => ?_)
    have hP : va_P D vwCl ((sC cI cL sm q σ n k) ++ ((sC cI cL y1.1 y1.2 (sc σ 2 (nI jr)) n k) ++ ((oC ob h h2) ++ ((mC cI cZ h a σ) ++ (mC cI cZ h2 a2 ρ_1))))) H := hP
    have hD : va_D A ((sC cI cL sm q σ n k) ++ ((sC cI cL y1.1 y1.2 (sc σ 2 (nI jr)) n k) ++ ((oC ob h h2) ++ ((mC cI cZ h a σ) ++ (mC cI cZ h2 a2 ρ_1))))) := hD
    refine lv_aload hx hb dL_law_698 (lv_at hl 0 rfl) ?_
    refine lv_bipush (v := 24) hx hb dL_law_700 (by decide) ?_
    refine MY.callV0 (C := RX2) (T := TX2) (N := 5) (As := [.int 24]) (rest := []) (w0 := sC cI cL sm q σ n k) (w2 := (oC ob h h2) ++ ((mC cI cZ h a σ) ++ (mC cI cZ h2 a2 ρ_1))) (wB := fun _u => (sC cI cL sm q σ n k) ++ ((sC cI cL y1.1 y1.2 (sc σ 2 (nI jr)) n k) ++ ((oC ob h h2) ++ ((mC cI cZ h a σ) ++ (mC cI cZ h2 a2 ρ_1))))) (c_X2_lossIn l D cI cZ cL y1.1 y1.2 (sc σ 2 (nI jr)) (hst.osc 2 _ (by decide) (by decide)) ((hI.ra (r := jr) (by omega)).2.1) 24 (by decide) (by omega)) ⟨hx, hb, hml, hown, hts⟩ q476 b_X2_lossIn (n := 1) (by decide +kernel) ⟨(Nat.le_of_ble_eq_true rfl), (Nat.le_of_ble_eq_true rfl)⟩ hK hP hD hS hA (EY.non hE) (by simp only [List.append_assoc, List.append_nil, List.nil_append]) (fun _ => by simp only [List.append_assoc, List.append_nil, List.nil_append]) (ci := 2) rfl rfl rfl hl.1 rfl (Nat.le_of_ble_eq_true rfl) dL_law_702 ⟨by show ((c0 + 510) + 60) + 60 ≤ 650901; omega, by show ((s0 + 5100) + 600) + 600 ≤ 7148764; omega⟩ (fun _u H locs hP hD hS => ?_)
    have hP : va_P D vwCl ((sC cI cL sm q σ n k) ++ ((sC cI cL y1.1 y1.2 (sc σ 2 (nI jr)) n k) ++ ((oC ob h h2) ++ ((mC cI cZ h a σ) ++ (mC cI cZ h2 a2 ρ_1))))) H := hP
    have hD : va_D A ((sC cI cL sm q σ n k) ++ ((sC cI cL y1.1 y1.2 (sc σ 2 (nI jr)) n k) ++ ((oC ob h h2) ++ ((mC cI cZ h a σ) ++ (mC cI cZ h2 a2 ρ_1))))) := hD
    refine W.wide (k := (((c0 + 510) + 60) + 60)) (n := (((s0 + 5100) + 600) + 600)) (by show ((c0 + 510) + 60) + 60 ≤ (((c0 + 510) + 60) + 60); omega) (by show ((s0 + 5100) + 600) + 600 ≤ (((s0 + 5100) + 600) + 600); omega) ?_
    refine lv_iload hx hb dL_law_705 (lv_at hl 9 rfl) ?_
    refine lv_icmp_ne (tgt := 714) hx hb dL_law_707 (by decide) (fun z => absurd (heq) z) (fun c_707 => ?_)
    refine lv_iconst (v := 1) hx hb dL_law_710 (by decide) ?_
    refine lv_goto (tgt := 715) hx hb dL_law_711 (by decide) ?_
    refine lv_iload hx hb dL_law_715 (lv_at hl 1 rfl) ?_
    refine lv_if_lt (tgt := 724) hx hb dL_law_717 (by decide) (fun z => absurd z (Int32.not_lt.mpr (nI_pos' (by omega)))) (fun c_717 => ?_)
    refine lv_iconst (v := 1) hx hb dL_law_720 (by decide) ?_
    refine lv_goto (tgt := 725) hx hb dL_law_721 (by decide) ?_
    refine lv_icmp_eq (tgt := 730) hx hb dL_law_725 (by decide) (fun c_725 => ?_) (fun z => absurd (by decide) z)
    obtain ⟨hP, hD⟩ := p_drop (b := (sC cI cL sm q σ n k) ++ ((oC ob h h2) ++ ((mC cI cZ h a σ) ++ (mC cI cZ h2 a2 ρ_1)))) (sC cI cL y1.1 y1.2 (sc σ 2 (nI jr)) n k) (pm (fun i y => by simp only [List.count_append]; omega)) hP hD
    have hP : va_P D vwCl ((sC cI cL sm q σ n k) ++ ((oC ob h h2) ++ ((mC cI cZ h a σ) ++ (mC cI cZ h2 a2 ρ_1)))) H := hP
    have hD : va_D A ((sC cI cL sm q σ n k) ++ ((oC ob h h2) ++ ((mC cI cZ h a σ) ++ (mC cI cZ h2 a2 ρ_1)))) := hD
    refine W.wide (k := (c0 + 640)) (n := (s0 + 6400)) (by first | omega | exact Nat.le_of_ble_eq_true rfl) (by first | omega | exact Nat.le_of_ble_eq_true rfl) ?_
    exact NX ρ_1 _ _ _ hP hD hS (lv_sub hl [2, 3, 4, 5, 6, 7, 8, 9] rfl)

set_option maxHeartbeats 16000000 in
set_option maxRecDepth 100000 in
theorem law_G (l : Launch) {p : Program} {e : Env} {s : State} {m : MethodId} {args : Array Value} {below : List Frame} {meth : Method} {c : Code} {Q : State → Prop} (D : va_G) (cI cZ cL : ClassId) {A : Nat → Prop} {b L : Nat} {xs : Nat → Int32} (sm ob h : Nat) (a : Nat → Nat) (h2 : Nat) (a2 : Nat → Nat) (hx : p.tables.exec = Jvm.exec) (hb : c.code = cL_law) (hml : c.maxLocals = 30) (hown : s.vm.findClass RL = some m.cls) (hts : ∀ w ∈ LW, w.before args s = true) (hE9 : EY (some (b, L, xs)) A s s.heap) (hK : va_K D vwCl (tZ cI cZ cL) s) (hA : ∀ q : Nat, s.heap.size ≤ q → A q) (hL : L ≤ 260) {t : Nat} (ht : t < 5) {c0 s0 : Nat} (hc0 : c0 + 700 ≤ 650901) (hs0 : s0 + 7000 ≤ 7148764) {n k B : Nat} (q : SA) (σ : Sg) (hI : Iv n k B σ) (hn2 : 2 ≤ n) (hB9 : B + 100000 < 2 ^ 28) (xv : Int32) (NX : (∀ (ρ : Sg) (H : Heap) (locs : List Loc) (ls : Array Slot), va_P D vwCl ((sC cI cL sm q σ n k) ++ ((oC ob h h2) ++ ((mC cI cZ h a σ) ++ (mC cI cZ h2 a2 ρ)))) H → va_D A ((sC cI cL sm q σ n k) ++ ((oC ob h h2) ++ ((mC cI cZ h a σ) ++ (mC cI cZ h2 a2 ρ)))) → va_S A s.heap H locs → lv_has ls 30 [(0, .ref b), (1, .ref ob), (2, .ref sm), (3, .int (nI t)), (4, .int xv), (5, .long (digS σ)), (7, .int (nI n)), (8, .int (lost σ)), (20, .int (nI (1 + (bel (xv >>> (6 &&& 31)) 12)))), (21, .int (nI (bel (xv >>> (3 &&& 31)) n))), (22, .int (untilS σ (bel (xv >>> (3 &&& 31)) n))), (23, .int (hours (1 + (bel (xv >>> (6 &&& 31)) 12)) σ 2 (bel (xv >>> (3 &&& 31)) n))), (24, .int (lossH (1 + (bel (xv >>> (6 &&& 31)) 12)) σ))] → W p l e room_1 s m args below meth c H locs (c0 + 640) (s0 + 6400) Q (F0 m 793 ls []))) (τ : Sg) {H : Heap} {locs : List Loc} {ls : Array Slot} (hP : va_P D vwCl ((sC cI cL sm q σ n k) ++ ((oC ob h h2) ++ ((mC cI cZ h a σ) ++ (mC cI cZ h2 a2 τ)))) H) (hD : va_D A ((sC cI cL sm q σ n k) ++ ((oC ob h h2) ++ ((mC cI cZ h a σ) ++ (mC cI cZ h2 a2 τ))))) (hS : va_S A s.heap H locs) (hl : lv_has ls 30 [(0, .ref b), (1, .ref ob), (2, .ref sm), (3, .int (nI t)), (4, .int xv), (5, .long (digS σ)), (7, .int (nI n)), (8, .int (lost σ))]) : W p l e room_1 s m args below meth c H locs (c0 + 640) (s0 + 6400) Q (F0 m 730 ls []) := by
  have hst : Shp n k σ := hI.1
  have hB : Bnd B σ := hI.2.1
  have hn10 := hst.1
  have hk16 := hst.2.1
  have hE : EX A s s.heap := hE9.1
  refine lv_iconst (v := 1) hx hb dL_law_730 (by decide) ?_
  refine lv_iload hx hb dL_law_731 (lv_at hl 4 rfl) ?_
  refine lv_bipush (v := 6) hx hb dL_law_733 (by decide) ?_
  refine lv_ishr hx hb dL_law_735 ?_
  refine lv_bipush (v := 12) hx hb dL_law_736 (by decide) ?_
  refine MC.callS (As := [.int (xv >>> (6 &&& 31)), .int 12]) (rest := [.int 1]) (wB := (sC cI cL sm q σ n k) ++ ((oC ob h h2) ++ ((mC cI cZ h a σ) ++ (mC cI cZ h2 a2 τ)))) (c_L_below l D cI cZ cL (xv >>> (6 &&& 31)) 12 (by omega) (by omega)) ⟨hx, hb, hml, hown, hts⟩ q529 b_L_below (n := 2) (by decide +kernel) ⟨Nat.le_of_ble_eq_true rfl, Nat.le_of_ble_eq_true rfl⟩ hK hP hD hS hA (spE _) (spE _) rfl hl.1 rfl (Nat.le_of_ble_eq_true rfl) dL_law_738 ⟨by show (c0 + 640) + 0 ≤ 650901; omega, by show (s0 + 6400) + 0 ≤ 7148764; omega⟩ (fun H locs hP hD hS => ?_)
  refine W.wide (k := (c0 + 640)) (n := (s0 + 6400)) (by show (c0 + 640) + 0 ≤ (c0 + 640); omega) (by show (s0 + 6400) + 0 ≤ (s0 + 6400); omega) ?_
  have hb_738 : bel (xv >>> (6 &&& 31)) 12 < 12 := bel_lt (by omega)
  refine lv_iadd hx hb dL_law_741 ?_
  refine x_top (nI_add 1 (bel (xv >>> (6 &&& 31)) 12)) ?_
  refine lv_istore (lv' := [(20, .int (nI (1 + (bel (xv >>> (6 &&& 31)) 12)))), (0, .ref b), (1, .ref ob), (2, .ref sm), (3, .int (nI t)), (4, .int xv), (5, .long (digS σ)), (7, .int (nI n)), (8, .int (lost σ))]) hx hb dL_law_742 hl (by decide) rfl (fun ls hl => ?_)
  refine lv_iload hx hb dL_law_744 (lv_at hl 5 rfl) ?_
  refine lv_iconst (v := 3) hx hb dL_law_746 (by decide) ?_
  refine lv_ishr hx hb dL_law_747 ?_
  refine lv_iload hx hb dL_law_748 (lv_at hl 7 rfl) ?_
  refine MC.callS (As := [.int (xv >>> (3 &&& 31)), .int (nI n)]) (rest := []) (wB := (sC cI cL sm q σ n k) ++ ((oC ob h h2) ++ ((mC cI cZ h a σ) ++ (mC cI cZ h2 a2 τ)))) (c_L_below l D cI cZ cL (xv >>> (3 &&& 31)) n (by omega) (by omega)) ⟨hx, hb, hml, hown, hts⟩ q529 b_L_below (n := 2) (by decide +kernel) ⟨Nat.le_of_ble_eq_true rfl, Nat.le_of_ble_eq_true rfl⟩ hK hP hD hS hA (spE _) (spE _) rfl hl.1 rfl (Nat.le_of_ble_eq_true rfl) dL_law_750 ⟨by show (c0 + 640) + 0 ≤ 650901; omega, by show (s0 + 6400) + 0 ≤ 7148764; omega⟩ (fun H locs hP hD hS => ?_)
  refine W.wide (k := (c0 + 640)) (n := (s0 + 6400)) (by show (c0 + 640) + 0 ≤ (c0 + 640); omega) (by show (s0 + 6400) + 0 ≤ (s0 + 6400); omega) ?_
  have hb_750 : bel (xv >>> (3 &&& 31)) n < n := bel_lt (by omega)
  refine lv_istore (lv' := [(21, .int (nI (bel (xv >>> (3 &&& 31)) n))), (20, .int (nI (1 + (bel (xv >>> (6 &&& 31)) 12)))), (0, .ref b), (1, .ref ob), (2, .ref sm), (3, .int (nI t)), (4, .int xv), (5, .long (digS σ)), (7, .int (nI n)), (8, .int (lost σ))]) hx hb dL_law_753 hl (by decide) rfl (fun ls hl => ?_)
  refine lv_aload_n hx hb dL_law_755 rfl (lv_at hl 3 rfl) ?_
  refine lv_iload hx hb dL_law_756 (lv_at hl 0 rfl) ?_
  refine MX.callV0 (C := RX1) (T := TX1) (N := 2) (As := [.int (nI (bel (xv >>> (3 &&& 31)) n))]) (rest := []) (w0 := sC cI cL sm q σ n k) (w2 := []) (wB := fun ρ => (sC cI cL sm q σ n k) ++ ((oC ob h h2) ++ ((mC cI cZ h a σ) ++ (mC cI cZ h2 a2 ρ)))) (c_X1_hoursUntilRuined l D cI cZ cL ob h a h2 a2 σ τ hst hB (bel (xv >>> (3 &&& 31)) n) (by omega)) ⟨hx, hb, hml, hown, hts⟩ q337 b_X1_hoursUntilRuined (n := 1) (by decide +kernel) ⟨(Nat.le_of_ble_eq_true rfl), (Nat.le_of_ble_eq_true rfl)⟩ hK hP hD hS hA hE (by rw [List.append_nil]) (fun _ => by rw [List.append_nil]) (ci := 1) rfl rfl rfl hl.1 rfl (Nat.le_of_ble_eq_true rfl) dL_law_758 ⟨by show (c0 + 640) + 0 ≤ 650901; omega, by show (s0 + 6400) + 0 ≤ 7148764; omega⟩ (fun ρ_1 H locs hP hD hS => ?_)
  have hP : va_P D vwCl ((sC cI cL sm q σ n k) ++ ((oC ob h h2) ++ ((mC cI cZ h a σ) ++ (mC cI cZ h2 a2 ρ_1)))) H := hP
  have hD : va_D A ((sC cI cL sm q σ n k) ++ ((oC ob h h2) ++ ((mC cI cZ h a σ) ++ (mC cI cZ h2 a2 ρ_1)))) := hD
  refine W.wide (k := (c0 + 640)) (n := (s0 + 6400)) (by show (c0 + 640) + 0 ≤ (c0 + 640); omega) (by show (s0 + 6400) + 0 ≤ (s0 + 6400); omega) ?_
  refine lv_istore (lv' := [(22, .int (untilS σ (bel (xv >>> (3 &&& 31)) n))), (21, .int (nI (bel (xv >>> (3 &&& 31)) n))), (20, .int (nI (1 + (bel (xv >>> (6 &&& 31)) 12)))), (0, .ref b), (1, .ref ob), (2, .ref sm), (3, .int (nI t)), (4, .int xv), (5, .long (digS σ)), (7, .int (nI n)), (8, .int (lost σ))]) hx hb dL_law_761 hl (by decide) rfl (fun ls hl => ?_)
  refine lv_aload_n hx hb dL_law_763 rfl (lv_at hl 4 rfl) ?_
  refine lv_iload hx hb dL_law_764 (lv_at hl 1 rfl) ?_
  refine lv_iload hx hb dL_law_766 (lv_at hl 2 rfl) ?_
  refine MX.callV0 (C := RX1) (T := TX1) (N := 2) (As := [.int (nI (bel (xv >>> (3 &&& 31)) n)), .int (nI (1 + (bel (xv >>> (6 &&& 31)) 12)))]) (rest := []) (w0 := sC cI cL sm q σ n k) (w2 := []) (wB := fun ρ => (sC cI cL sm q σ n k) ++ ((oC ob h h2) ++ ((mC cI cZ h a σ) ++ (mC cI cZ h2 a2 ρ)))) (c_X1_waterIn l D cI cZ cL ob h a h2 a2 σ ρ_1 hst hB (bel (xv >>> (3 &&& 31)) n) (by omega) (1 + (bel (xv >>> (6 &&& 31)) 12)) (by omega) (by omega)) ⟨hx, hb, hml, hown, hts⟩ q350 b_X1_waterIn (n := 2) (by decide +kernel) ⟨(Nat.le_of_ble_eq_true rfl), (Nat.le_of_ble_eq_true rfl)⟩ hK hP hD hS hA hE (by rw [List.append_nil]) (fun _ => by rw [List.append_nil]) (ci := 1) rfl rfl rfl hl.1 rfl (Nat.le_of_ble_eq_true rfl) dL_law_768 ⟨by show (c0 + 640) + 0 ≤ 650901; omega, by show (s0 + 6400) + 0 ≤ 7148764; omega⟩ (fun ρ_2 H locs hP hD hS => ?_)
  have hP : va_P D vwCl ((sC cI cL sm q σ n k) ++ ((oC ob h h2) ++ ((mC cI cZ h a σ) ++ (mC cI cZ h2 a2 ρ_2)))) H := hP
  have hD : va_D A ((sC cI cL sm q σ n k) ++ ((oC ob h h2) ++ ((mC cI cZ h a σ) ++ (mC cI cZ h2 a2 ρ_2)))) := hD
  refine W.wide (k := (c0 + 640)) (n := (s0 + 6400)) (by show (c0 + 640) + 0 ≤ (c0 + 640); omega) (by show (s0 + 6400) + 0 ≤ (s0 + 6400); omega) ?_
  refine lv_istore (lv' := [(23, .int (hours (1 + (bel (xv >>> (6 &&& 31)) 12)) σ 2 (bel (xv >>> (3 &&& 31)) n))), (22, .int (untilS σ (bel (xv >>> (3 &&& 31)) n))), (21, .int (nI (bel (xv >>> (3 &&& 31)) n))), (20, .int (nI (1 + (bel (xv >>> (6 &&& 31)) 12)))), (0, .ref b), (1, .ref ob), (2, .ref sm), (3, .int (nI t)), (4, .int xv), (5, .long (digS σ)), (7, .int (nI n)), (8, .int (lost σ))]) hx hb dL_law_771 hl (by decide) rfl (fun ls hl => ?_)
  refine lv_aload_n hx hb dL_law_773 rfl (lv_at hl 5 rfl) ?_
  refine lv_iload hx hb dL_law_774 (lv_at hl 3 rfl) ?_
  refine MX.callV0 (C := RX1) (T := TX1) (N := 2) (As := [.int (nI (1 + (bel (xv >>> (6 &&& 31)) 12)))]) (rest := []) (w0 := sC cI cL sm q σ n k) (w2 := []) (wB := fun ρ => (sC cI cL sm q σ n k) ++ ((oC ob h h2) ++ ((mC cI cZ h a σ) ++ (mC cI cZ h2 a2 ρ)))) (c_X1_lossIn l D cI cZ cL ob h a h2 a2 σ ρ_2 hst hB (1 + (bel (xv >>> (6 &&& 31)) 12)) (by omega) (by omega)) ⟨hx, hb, hml, hown, hts⟩ q346 b_X1_lossIn (n := 1) (by decide +kernel) ⟨(Nat.le_of_ble_eq_true rfl), (Nat.le_of_ble_eq_true rfl)⟩ hK hP hD hS hA hE (by rw [List.append_nil]) (fun _ => by rw [List.append_nil]) (ci := 1) rfl rfl rfl hl.1 rfl (Nat.le_of_ble_eq_true rfl) dL_law_776 ⟨by show (c0 + 640) + 0 ≤ 650901; omega, by show (s0 + 6400) + 0 ≤ 7148764; omega⟩ (fun ρ_3 H locs hP hD hS => ?_)
  have hP : va_P D vwCl ((sC cI cL sm q σ n k) ++ ((oC ob h h2) ++ ((mC cI cZ h a σ) ++ (mC cI cZ h2 a2 ρ_3)))) H := hP
  have hD : va_D A ((sC cI cL sm q σ n k) ++ ((oC ob h h2) ++ ((mC cI cZ h a σ) ++ (mC cI cZ h2 a2 ρ_3)))) := hD
  refine W.wide (k := (c0 + 640)) (n := (s0 + 6400)) (by show (c0 + 640) + 0 ≤ (c0 + 640); omega) (by show (s0 + 6400) + 0 ≤ (s0 + 6400); omega) ?_
  refine lv_istore (lv' := [(24, .int (lossH (1 + (bel (xv >>> (6 &&& 31)) 12)) σ)), (23, .int (hours (1 + (bel (xv >>> (6 &&& 31)) 12)) σ 2 (bel (xv >>> (3 &&& 31)) n))), (22, .int (untilS σ (bel (xv >>> (3 &&& 31)) n))), (21, .int (nI (bel (xv >>> (3 &&& 31)) n))), (20, .int (nI (1 + (bel (xv >>> (6 &&& 31)) 12)))), (0, .ref b), (1, .ref ob), (2, .ref sm), (3, .int (nI t)), (4, .int xv), (5, .long (digS σ)), (7, .int (nI n)), (8, .int (lost σ))]) hx hb dL_law_779 hl (by decide) rfl (fun ls hl => ?_)
  refine lv_aload_n hx hb dL_law_781 rfl (lv_at hl 6 rfl) ?_
  refine MX.callV0 (C := RX1) (T := TX1) (N := 2) (As := []) (rest := []) (w0 := sC cI cL sm q σ n k) (w2 := []) (wB := fun ρ => (sC cI cL sm q σ n k) ++ ((oC ob h h2) ++ ((mC cI cZ h a σ) ++ (mC cI cZ h2 a2 ρ)))) (c_X1_digest l D cI cZ cL ob h a h2 a2 σ ρ_3 hst hB) ⟨hx, hb, hml, hown, hts⟩ q371 b_X1_digest (n := 0) (by decide +kernel) ⟨(Nat.le_of_ble_eq_true rfl), (Nat.le_of_ble_eq_true rfl)⟩ hK hP hD hS hA hE (by rw [List.append_nil]) (fun _ => by rw [List.append_nil]) (ci := 1) rfl rfl rfl hl.1 rfl (Nat.le_of_ble_eq_true rfl) dL_law_782 ⟨by show (c0 + 640) + 0 ≤ 650901; omega, by show (s0 + 6400) + 0 ≤ 7148764; omega⟩ (fun ρ_4 H locs hP hD hS => ?_)
  have hP : va_P D vwCl ((sC cI cL sm q σ n k) ++ ((oC ob h h2) ++ ((mC cI cZ h a σ) ++ (mC cI cZ h2 a2 ρ_4)))) H := hP
  have hD : va_D A ((sC cI cL sm q σ n k) ++ ((oC ob h h2) ++ ((mC cI cZ h a σ) ++ (mC cI cZ h2 a2 ρ_4)))) := hD
  refine W.wide (k := (c0 + 640)) (n := (s0 + 6400)) (by show (c0 + 640) + 0 ≤ (c0 + 640); omega) (by show (s0 + 6400) + 0 ≤ (s0 + 6400); omega) ?_
  refine lv_lload hx hb dL_law_785 (lv_at hl 10 rfl) ?_
  refine W.lcmp hx hb dL_law_787 ?_
  refine x_top (lcmp_eq (rfl)) ?_
  refine lv_if_eq (tgt := 793) hx hb dL_law_788 (by decide) (fun c_788 => ?_) (fun z => absurd (by decide) z)
  have hP : va_P D vwCl ((sC cI cL sm q σ n k) ++ ((oC ob h h2) ++ ((mC cI cZ h a σ) ++ (mC cI cZ h2 a2 ρ_4)))) H := hP
  have hD : va_D A ((sC cI cL sm q σ n k) ++ ((oC ob h h2) ++ ((mC cI cZ h a σ) ++ (mC cI cZ h2 a2 ρ_4)))) := hD
  exact NX ρ_4 _ _ _ hP hD hS (lv_sub hl [5, 6, 7, 8, 9, 10, 11, 12, 4, 3, 2, 1, 0] rfl)
