set_option maxHeartbeats 8000000 in
set_option maxRecDepth 100000 in
theorem law_c12 (l : Launch) (hl9 : l.stackTraces = false) {p : Program} {e : Env} {s : State} {m : MethodId} {args : Array Value} {below : List Frame} {meth : Method} {c : Code} {Q : State → Prop} (D : va_G) (cI cZ cL : ClassId) {A : Nat → Prop} {b L : Nat} {xs : Nat → Int32} (ob h : Nat) (a : Nat → Nat) (h2 : Nat) (a2 : Nat → Nat) (qo om : Nat) (bb : Nat → Nat) (hx : p.tables.exec = Jvm.exec) (hb : c.code = cL_law) (hml : c.maxLocals = 9) (hown : s.vm.findClass RL = some m.cls) (hts : ∀ w ∈ LW, w.before args s = true) (hE : EX A s s.heap) (hK : va_K D vwCl (tZ cI cZ cL) s) (hA : ∀ q : Nat, s.heap.size ≤ q → A q) (hX : va_X b L xs s s.heap) (hbl : b < s.heap.size) (hbA : ¬ A b) (hL : L ≤ 2048) {t : Nat} (ht : 4 * t + 4 ≤ L) (NX : lawN p l e s m args below meth c Q D cI cZ cL A b ob h a h2 a2 qo om bb t) {n k : Nat} (σ τ : Sg) (κ ζ : Nat → Int32) (th : Int32) (wo : Nat → Int64) (hst : Shp n k σ) (hB : Bnd (12000 * t) σ) {H : Heap} {locs : List Loc} {ls : Array Slot} (hP : va_P D vwCl ((oC ob h h2) ++ ((mC cI cZ h a σ) ++ ((mC cI cZ h2 a2 τ) ++ ((lC cL qo wo) ++ (rC cI cZ om bb σ κ ζ th))))) H) (hD : va_D A ((oC ob h h2) ++ ((mC cI cZ h a σ) ++ ((mC cI cZ h2 a2 τ) ++ ((lC cL qo wo) ++ (rC cI cZ om bb σ κ ζ th)))))) (hS : va_S A s.heap H locs) (hl : lv_has ls 9 [(4, .int (nI (4 * t))), (0, .ref b), (1, .ref ob), (2, .ref om), (3, .ref qo)]) : W p l e room_1 s m args below meth c H locs (40 + 11 * t) (600 + 74 * t) Q (F0 m 732 ls []) := by
  have hn10 := hst.1
  have hk16 := hst.2.1
  refine lv_aload_n hx hb dL_law_732 rfl (lv_at hl 2 rfl) ?_
  refine MX.callV (C := RX1) (T := TX1) (N := 2) (As := []) (rest := []) (wB := (fun ρ => (oC ob h h2) ++ ((mC cI cZ h a σ) ++ ((mC cI cZ h2 a2 ρ) ++ ((lC cL qo wo) ++ (rC cI cZ om bb σ κ ζ th)))))) (c_X1_drained l D cI cZ cL ob h a h2 a2 σ τ ) ⟨hx, hb, hml, hown, hts⟩ q155 b_X1_drained (n := 0) (by decide +kernel) ⟨Nat.le_of_ble_eq_true rfl, Nat.le_of_ble_eq_true rfl⟩ hK hP hD hS hA hE (spO _ _ _ _ _) (fun _ => spO _ _ _ _ _) (ci := 1) rfl (q0 := 0) rfl rfl hl.1 rfl (Nat.le_of_ble_eq_true rfl) dL_law_733 ⟨by show 40 + 11 * t + 0 + 0 ≤ 671377; omega, by show 600 + 74 * t + 0 + 0 ≤ 7081972; omega⟩ (fun ρ_1 H locs hP hD hS => ?_)
  have hP : va_P D vwCl ((oC ob h h2) ++ ((mC cI cZ h a σ) ++ ((mC cI cZ h2 a2 ρ_1) ++ ((lC cL qo wo) ++ (rC cI cZ om bb σ κ ζ th))))) H := hP
  have hD : va_D A ((oC ob h h2) ++ ((mC cI cZ h a σ) ++ ((mC cI cZ h2 a2 ρ_1) ++ ((lC cL qo wo) ++ (rC cI cZ om bb σ κ ζ th))))) := hD
  refine lv_aload_n hx hb dL_law_736 rfl (lv_at hl 3 rfl) ?_
  refine MC.callV (C := RX2) (T := TX2) (N := 14) (As := []) (rest := [.int (σ 11 3)]) (wB := (oC ob h h2) ++ ((mC cI cZ h a σ) ++ ((mC cI cZ h2 a2 ρ_1) ++ ((lC cL qo wo) ++ (rC cI cZ om bb σ κ ζ 0))))) (c_X2_drained l D cI cZ cL om bb σ κ ζ th hst) ⟨hx, hb, hml, hown, hts⟩ q748 b_X2_drained (n := 0) (by decide +kernel) ⟨Nat.le_of_ble_eq_true rfl, Nat.le_of_ble_eq_true rfl⟩ hK hP hD hS hA (spR _ _ _ _ _) (spR _ _ _ _ _) (ci := 2) rfl (q0 := 26) rfl rfl hl.1 rfl (Nat.le_of_ble_eq_true rfl) dL_law_737 ⟨by show 40 + 11 * t + 0 + 0 ≤ 671377; omega, by show 600 + 74 * t + 0 + 0 ≤ 7081972; omega⟩ (fun H locs hP hD hS => ?_)
  refine lv_icmp_eq (tgt := 1708) hx hb dL_law_740 (by decide) (fun c_740 => ?_) (fun z => absurd (rfl) z)
  refine W.wide (k := 40 + 11 * (t + 1)) (n := 600 + 74 * (t + 1)) (by show 40 + 11 * t + 0 ≤ _; omega) (by show 600 + 74 * t + 0 ≤ _; omega) ?_
  exact NX n k σ ρ_1 κ ζ 0 wo hst (hB.mono (by omega)) _ _ _ hP hD hS (lv_sub hl [0, 1, 2, 3, 4] rfl)

set_option maxHeartbeats 8000000 in
set_option maxRecDepth 100000 in
theorem law_c13 (l : Launch) (hl9 : l.stackTraces = false) {p : Program} {e : Env} {s : State} {m : MethodId} {args : Array Value} {below : List Frame} {meth : Method} {c : Code} {Q : State → Prop} (D : va_G) (cI cZ cL : ClassId) {A : Nat → Prop} {b L : Nat} {xs : Nat → Int32} (ob h : Nat) (a : Nat → Nat) (h2 : Nat) (a2 : Nat → Nat) (qo om : Nat) (bb : Nat → Nat) (hx : p.tables.exec = Jvm.exec) (hb : c.code = cL_law) (hml : c.maxLocals = 9) (hown : s.vm.findClass RL = some m.cls) (hts : ∀ w ∈ LW, w.before args s = true) (hE : EX A s s.heap) (hK : va_K D vwCl (tZ cI cZ cL) s) (hA : ∀ q : Nat, s.heap.size ≤ q → A q) (hX : va_X b L xs s s.heap) (hbl : b < s.heap.size) (hbA : ¬ A b) (hL : L ≤ 2048) {t : Nat} (ht : 4 * t + 4 ≤ L) (NX : lawN p l e s m args below meth c Q D cI cZ cL A b ob h a h2 a2 qo om bb t) {n k : Nat} (σ τ : Sg) (κ ζ : Nat → Int32) (th : Int32) (wo : Nat → Int64) (hst : Shp n k σ) (hB : Bnd (12000 * t) σ) {H : Heap} {locs : List Loc} {ls : Array Slot} (hP : va_P D vwCl ((oC ob h h2) ++ ((mC cI cZ h a σ) ++ ((mC cI cZ h2 a2 τ) ++ ((lC cL qo wo) ++ (rC cI cZ om bb σ κ ζ th))))) H) (hD : va_D A ((oC ob h h2) ++ ((mC cI cZ h a σ) ++ ((mC cI cZ h2 a2 τ) ++ ((lC cL qo wo) ++ (rC cI cZ om bb σ κ ζ th)))))) (hS : va_S A s.heap H locs) (hl : lv_has ls 9 [(4, .int (nI (4 * t))), (0, .ref b), (1, .ref ob), (2, .ref om), (3, .ref qo)]) : W p l e room_1 s m args below meth c H locs (40 + 11 * t) (600 + 74 * t) Q (F0 m 745 ls []) := by
  have hn10 := hst.1
  have hk16 := hst.2.1
  refine lv_aload_n hx hb dL_law_745 rfl (lv_at hl 2 rfl) ?_
  refine MX.callV (C := RX1) (T := TX1) (N := 2) (As := []) (rest := []) (wB := (fun ρ => (oC ob h h2) ++ ((mC cI cZ h a σ) ++ ((mC cI cZ h2 a2 ρ) ++ ((lC cL qo wo) ++ (rC cI cZ om bb σ κ ζ th)))))) (c_X1_wetFields l D cI cZ cL ob h a h2 a2 σ τ hst) ⟨hx, hb, hml, hown, hts⟩ q159 b_X1_wetFields (n := 0) (by decide +kernel) ⟨Nat.le_of_ble_eq_true rfl, Nat.le_of_ble_eq_true rfl⟩ hK hP hD hS hA hE (spO _ _ _ _ _) (fun _ => spO _ _ _ _ _) (ci := 1) rfl (q0 := 0) rfl rfl hl.1 rfl (Nat.le_of_ble_eq_true rfl) dL_law_746 ⟨by show 40 + 11 * t + 0 + 0 ≤ 671377; omega, by show 600 + 74 * t + 0 + 0 ≤ 7081972; omega⟩ (fun ρ_1 H locs hP hD hS => ?_)
  have hP : va_P D vwCl ((oC ob h h2) ++ ((mC cI cZ h a σ) ++ ((mC cI cZ h2 a2 ρ_1) ++ ((lC cL qo wo) ++ (rC cI cZ om bb σ κ ζ th))))) H := hP
  have hD : va_D A ((oC ob h h2) ++ ((mC cI cZ h a σ) ++ ((mC cI cZ h2 a2 ρ_1) ++ ((lC cL qo wo) ++ (rC cI cZ om bb σ κ ζ th))))) := hD
  refine lv_aload_n hx hb dL_law_749 rfl (lv_at hl 3 rfl) ?_
  refine MC.callV (C := RX2) (T := TX2) (N := 14) (As := []) (rest := [.int (wetN σ)]) (wB := (oC ob h h2) ++ ((mC cI cZ h a σ) ++ ((mC cI cZ h2 a2 ρ_1) ++ ((lC cL qo wo) ++ (rC cI cZ om bb σ κ ζ 0))))) (c_X2_wetFields l D cI cZ cL om bb σ κ ζ th hst hB) ⟨hx, hb, hml, hown, hts⟩ q752 b_X2_wetFields (n := 0) (by decide +kernel) ⟨Nat.le_of_ble_eq_true rfl, Nat.le_of_ble_eq_true rfl⟩ hK hP hD hS hA (spR _ _ _ _ _) (spR _ _ _ _ _) (ci := 2) rfl (q0 := 26) rfl rfl hl.1 rfl (Nat.le_of_ble_eq_true rfl) dL_law_750 ⟨by show 40 + 11 * t + 0 + 0 ≤ 671377; omega, by show 600 + 74 * t + 0 + 0 ≤ 7081972; omega⟩ (fun H locs hP hD hS => ?_)
  refine lv_icmp_eq (tgt := 1708) hx hb dL_law_753 (by decide) (fun c_753 => ?_) (fun z => absurd (rfl) z)
  refine W.wide (k := 40 + 11 * (t + 1)) (n := 600 + 74 * (t + 1)) (by show 40 + 11 * t + 0 ≤ _; omega) (by show 600 + 74 * t + 0 ≤ _; omega) ?_
  exact NX n k σ ρ_1 κ ζ 0 wo hst (hB.mono (by omega)) _ _ _ hP hD hS (lv_sub hl [0, 1, 2, 3, 4] rfl)

set_option maxHeartbeats 8000000 in
set_option maxRecDepth 100000 in
theorem law_c14 (l : Launch) (hl9 : l.stackTraces = false) {p : Program} {e : Env} {s : State} {m : MethodId} {args : Array Value} {below : List Frame} {meth : Method} {c : Code} {Q : State → Prop} (D : va_G) (cI cZ cL : ClassId) {A : Nat → Prop} {b L : Nat} {xs : Nat → Int32} (ob h : Nat) (a : Nat → Nat) (h2 : Nat) (a2 : Nat → Nat) (qo om : Nat) (bb : Nat → Nat) (hx : p.tables.exec = Jvm.exec) (hb : c.code = cL_law) (hml : c.maxLocals = 9) (hown : s.vm.findClass RL = some m.cls) (hts : ∀ w ∈ LW, w.before args s = true) (hE : EX A s s.heap) (hK : va_K D vwCl (tZ cI cZ cL) s) (hA : ∀ q : Nat, s.heap.size ≤ q → A q) (hX : va_X b L xs s s.heap) (hbl : b < s.heap.size) (hbA : ¬ A b) (hL : L ≤ 2048) {t : Nat} (ht : 4 * t + 4 ≤ L) (NX : lawN p l e s m args below meth c Q D cI cZ cL A b ob h a h2 a2 qo om bb t) {n k : Nat} (σ τ : Sg) (κ ζ : Nat → Int32) (th : Int32) (wo : Nat → Int64) (hst : Shp n k σ) (hB : Bnd (12000 * t) σ) {H : Heap} {locs : List Loc} {ls : Array Slot} (hP : va_P D vwCl ((oC ob h h2) ++ ((mC cI cZ h a σ) ++ ((mC cI cZ h2 a2 τ) ++ ((lC cL qo wo) ++ (rC cI cZ om bb σ κ ζ th))))) H) (hD : va_D A ((oC ob h h2) ++ ((mC cI cZ h a σ) ++ ((mC cI cZ h2 a2 τ) ++ ((lC cL qo wo) ++ (rC cI cZ om bb σ κ ζ th)))))) (hS : va_S A s.heap H locs) (hl : lv_has ls 9 [(4, .int (nI (4 * t))), (0, .ref b), (1, .ref ob), (2, .ref om), (3, .ref qo)]) : W p l e room_1 s m args below meth c H locs (40 + 11 * t) (600 + 74 * t) Q (F0 m 758 ls []) := by
  have hn10 := hst.1
  have hk16 := hst.2.1
  refine lv_aload_n hx hb dL_law_758 rfl (lv_at hl 2 rfl) ?_
  refine MX.callV (C := RX1) (T := TX1) (N := 2) (As := []) (rest := []) (wB := (fun ρ => (oC ob h h2) ++ ((mC cI cZ h a σ) ++ ((mC cI cZ h2 a2 ρ) ++ ((lC cL qo wo) ++ (rC cI cZ om bb σ κ ζ th)))))) (c_X1_ruinedFields l D cI cZ cL ob h a h2 a2 σ τ hst) ⟨hx, hb, hml, hown, hts⟩ q171 b_X1_ruinedFields (n := 0) (by decide +kernel) ⟨Nat.le_of_ble_eq_true rfl, Nat.le_of_ble_eq_true rfl⟩ hK hP hD hS hA hE (spO _ _ _ _ _) (fun _ => spO _ _ _ _ _) (ci := 1) rfl (q0 := 0) rfl rfl hl.1 rfl (Nat.le_of_ble_eq_true rfl) dL_law_759 ⟨by show 40 + 11 * t + 0 + 0 ≤ 671377; omega, by show 600 + 74 * t + 0 + 0 ≤ 7081972; omega⟩ (fun ρ_1 H locs hP hD hS => ?_)
  have hP : va_P D vwCl ((oC ob h h2) ++ ((mC cI cZ h a σ) ++ ((mC cI cZ h2 a2 ρ_1) ++ ((lC cL qo wo) ++ (rC cI cZ om bb σ κ ζ th))))) H := hP
  have hD : va_D A ((oC ob h h2) ++ ((mC cI cZ h a σ) ++ ((mC cI cZ h2 a2 ρ_1) ++ ((lC cL qo wo) ++ (rC cI cZ om bb σ κ ζ th))))) := hD
  refine lv_aload_n hx hb dL_law_762 rfl (lv_at hl 3 rfl) ?_
  refine MC.callV (C := RX2) (T := TX2) (N := 14) (As := []) (rest := [.int (ruinN σ)]) (wB := (oC ob h h2) ++ ((mC cI cZ h a σ) ++ ((mC cI cZ h2 a2 ρ_1) ++ ((lC cL qo wo) ++ (rC cI cZ om bb σ κ ζ 0))))) (c_X2_ruinedFields l D cI cZ cL om bb σ κ ζ th hst hB) ⟨hx, hb, hml, hown, hts⟩ q760 b_X2_ruinedFields (n := 0) (by decide +kernel) ⟨Nat.le_of_ble_eq_true rfl, Nat.le_of_ble_eq_true rfl⟩ hK hP hD hS hA (spR _ _ _ _ _) (spR _ _ _ _ _) (ci := 2) rfl (q0 := 26) rfl rfl hl.1 rfl (Nat.le_of_ble_eq_true rfl) dL_law_763 ⟨by show 40 + 11 * t + 0 + 0 ≤ 671377; omega, by show 600 + 74 * t + 0 + 0 ≤ 7081972; omega⟩ (fun H locs hP hD hS => ?_)
  refine lv_icmp_eq (tgt := 1708) hx hb dL_law_766 (by decide) (fun c_766 => ?_) (fun z => absurd (rfl) z)
  refine W.wide (k := 40 + 11 * (t + 1)) (n := 600 + 74 * (t + 1)) (by show 40 + 11 * t + 0 ≤ _; omega) (by show 600 + 74 * t + 0 ≤ _; omega) ?_
  exact NX n k σ ρ_1 κ ζ 0 wo hst (hB.mono (by omega)) _ _ _ hP hD hS (lv_sub hl [0, 1, 2, 3, 4] rfl)

set_option maxHeartbeats 8000000 in
set_option maxRecDepth 100000 in
theorem law_c15 (l : Launch) (hl9 : l.stackTraces = false) {p : Program} {e : Env} {s : State} {m : MethodId} {args : Array Value} {below : List Frame} {meth : Method} {c : Code} {Q : State → Prop} (D : va_G) (cI cZ cL : ClassId) {A : Nat → Prop} {b L : Nat} {xs : Nat → Int32} (ob h : Nat) (a : Nat → Nat) (h2 : Nat) (a2 : Nat → Nat) (qo om : Nat) (bb : Nat → Nat) (hx : p.tables.exec = Jvm.exec) (hb : c.code = cL_law) (hml : c.maxLocals = 9) (hown : s.vm.findClass RL = some m.cls) (hts : ∀ w ∈ LW, w.before args s = true) (hE : EX A s s.heap) (hK : va_K D vwCl (tZ cI cZ cL) s) (hA : ∀ q : Nat, s.heap.size ≤ q → A q) (hX : va_X b L xs s s.heap) (hbl : b < s.heap.size) (hbA : ¬ A b) (hL : L ≤ 2048) {t : Nat} (ht : 4 * t + 4 ≤ L) (NX : lawN p l e s m args below meth c Q D cI cZ cL A b ob h a h2 a2 qo om bb t) {n k : Nat} (σ τ : Sg) (κ ζ : Nat → Int32) (th : Int32) (wo : Nat → Int64) (hst : Shp n k σ) (hB : Bnd (12000 * t) σ) {H : Heap} {locs : List Loc} {ls : Array Slot} (hP : va_P D vwCl ((oC ob h h2) ++ ((mC cI cZ h a σ) ++ ((mC cI cZ h2 a2 τ) ++ ((lC cL qo wo) ++ (rC cI cZ om bb σ κ ζ th))))) H) (hD : va_D A ((oC ob h h2) ++ ((mC cI cZ h a σ) ++ ((mC cI cZ h2 a2 τ) ++ ((lC cL qo wo) ++ (rC cI cZ om bb σ κ ζ th)))))) (hS : va_S A s.heap H locs) (hl : lv_has ls 9 [(4, .int (nI (4 * t))), (0, .ref b), (1, .ref ob), (2, .ref om), (3, .ref qo)]) : W p l e room_1 s m args below meth c H locs (40 + 11 * t) (600 + 74 * t) Q (F0 m 771 ls []) := by
  have hn10 := hst.1
  have hk16 := hst.2.1
  refine lv_aload_n hx hb dL_law_771 rfl (lv_at hl 2 rfl) ?_
  refine MX.callV (C := RX1) (T := TX1) (N := 2) (As := []) (rest := []) (wB := (fun ρ => (oC ob h h2) ++ ((mC cI cZ h a σ) ++ ((mC cI cZ h2 a2 ρ) ++ ((lC cL qo wo) ++ (rC cI cZ om bb σ κ ζ th)))))) (c_X1_loss l D cI cZ cL ob h a h2 a2 σ τ hst) ⟨hx, hb, hml, hown, hts⟩ q179 b_X1_loss (n := 0) (by decide +kernel) ⟨Nat.le_of_ble_eq_true rfl, Nat.le_of_ble_eq_true rfl⟩ hK hP hD hS hA hE (spO _ _ _ _ _) (fun _ => spO _ _ _ _ _) (ci := 1) rfl (q0 := 0) rfl rfl hl.1 rfl (Nat.le_of_ble_eq_true rfl) dL_law_772 ⟨by show 40 + 11 * t + 0 + 0 ≤ 671377; omega, by show 600 + 74 * t + 0 + 0 ≤ 7081972; omega⟩ (fun ρ_1 H locs hP hD hS => ?_)
  have hP : va_P D vwCl ((oC ob h h2) ++ ((mC cI cZ h a σ) ++ ((mC cI cZ h2 a2 ρ_1) ++ ((lC cL qo wo) ++ (rC cI cZ om bb σ κ ζ th))))) H := hP
  have hD : va_D A ((oC ob h h2) ++ ((mC cI cZ h a σ) ++ ((mC cI cZ h2 a2 ρ_1) ++ ((lC cL qo wo) ++ (rC cI cZ om bb σ κ ζ th))))) := hD
  refine lv_aload_n hx hb dL_law_775 rfl (lv_at hl 3 rfl) ?_
  refine MC.callV (C := RX2) (T := TX2) (N := 14) (As := []) (rest := [.int (lost σ)]) (wB := (oC ob h h2) ++ ((mC cI cZ h a σ) ++ ((mC cI cZ h2 a2 ρ_1) ++ ((lC cL qo wo) ++ (rC cI cZ om bb σ κ ζ 0))))) (c_X2_loss l D cI cZ cL om bb σ κ ζ th hst hB) ⟨hx, hb, hml, hown, hts⟩ q764 b_X2_loss (n := 0) (by decide +kernel) ⟨Nat.le_of_ble_eq_true rfl, Nat.le_of_ble_eq_true rfl⟩ hK hP hD hS hA (spR _ _ _ _ _) (spR _ _ _ _ _) (ci := 2) rfl (q0 := 26) rfl rfl hl.1 rfl (Nat.le_of_ble_eq_true rfl) dL_law_776 ⟨by show 40 + 11 * t + 0 + 0 ≤ 671377; omega, by show 600 + 74 * t + 0 + 0 ≤ 7081972; omega⟩ (fun H locs hP hD hS => ?_)
  refine lv_icmp_eq (tgt := 1708) hx hb dL_law_779 (by decide) (fun c_779 => ?_) (fun z => absurd (rfl) z)
  refine W.wide (k := 40 + 11 * (t + 1)) (n := 600 + 74 * (t + 1)) (by show 40 + 11 * t + 0 ≤ _; omega) (by show 600 + 74 * t + 0 ≤ _; omega) ?_
  exact NX n k σ ρ_1 κ ζ 0 wo hst (hB.mono (by omega)) _ _ _ hP hD hS (lv_sub hl [0, 1, 2, 3, 4] rfl)

set_option maxHeartbeats 8000000 in
set_option maxRecDepth 100000 in
theorem law_c16 (l : Launch) (hl9 : l.stackTraces = false) {p : Program} {e : Env} {s : State} {m : MethodId} {args : Array Value} {below : List Frame} {meth : Method} {c : Code} {Q : State → Prop} (D : va_G) (cI cZ cL : ClassId) {A : Nat → Prop} {b L : Nat} {xs : Nat → Int32} (ob h : Nat) (a : Nat → Nat) (h2 : Nat) (a2 : Nat → Nat) (qo om : Nat) (bb : Nat → Nat) (hx : p.tables.exec = Jvm.exec) (hb : c.code = cL_law) (hml : c.maxLocals = 9) (hown : s.vm.findClass RL = some m.cls) (hts : ∀ w ∈ LW, w.before args s = true) (hE : EX A s s.heap) (hK : va_K D vwCl (tZ cI cZ cL) s) (hA : ∀ q : Nat, s.heap.size ≤ q → A q) (hX : va_X b L xs s s.heap) (hbl : b < s.heap.size) (hbA : ¬ A b) (hL : L ≤ 2048) {t : Nat} (ht : 4 * t + 4 ≤ L) (NX : lawN p l e s m args below meth c Q D cI cZ cL A b ob h a h2 a2 qo om bb t) {n k : Nat} (σ τ : Sg) (κ ζ : Nat → Int32) (th : Int32) (wo : Nat → Int64) (hst : Shp n k σ) (hB : Bnd (12000 * t) σ) {H : Heap} {locs : List Loc} {ls : Array Slot} (hP : va_P D vwCl ((oC ob h h2) ++ ((mC cI cZ h a σ) ++ ((mC cI cZ h2 a2 τ) ++ ((lC cL qo wo) ++ (rC cI cZ om bb σ κ ζ th))))) H) (hD : va_D A ((oC ob h h2) ++ ((mC cI cZ h a σ) ++ ((mC cI cZ h2 a2 τ) ++ ((lC cL qo wo) ++ (rC cI cZ om bb σ κ ζ th)))))) (hS : va_S A s.heap H locs) (hl : lv_has ls 9 [(4, .int (nI (4 * t))), (0, .ref b), (1, .ref ob), (2, .ref om), (3, .ref qo)]) : W p l e room_1 s m args below meth c H locs (40 + 11 * t) (600 + 74 * t) Q (F0 m 784 ls []) := by
  have hn10 := hst.1
  have hk16 := hst.2.1
  refine lv_aload_n hx hb dL_law_784 rfl (lv_at hl 2 rfl) ?_
  refine lv_aload_n hx hb dL_law_785 rfl (lv_at hl 1 rfl) ?_
  refine lv_iload hx hb dL_law_786 (lv_at hl 0 rfl) ?_
  refine lv_iconst (v := 1) hx hb dL_law_788 (by decide) ?_
  refine lv_iadd hx hb dL_law_789 ?_
  refine x_top (nI_add (4 * t) 1) ?_
  refine va_sld hx hb hX hbl hbA hS (vp_in_nI (n := (4 * t) + 1) (by omega) (by omega)) dL_law_790 ?_
  refine x_top (show xs (nI ((4 * t) + 1)).toNatClampNeg = xs ((4 * t) + 1) by rw [nI_clamp (by omega)]) ?_
  refine lv_aload_n hx hb dL_law_791 rfl (lv_at hl 4 rfl) ?_
  refine MH.callS (As := [.ref ob, .int (xs ((4 * t) + 1)), .ref qo]) (rest := []) (w0 := []) (w2 := rC cI cZ om bb σ κ ζ th) (c_L_waterOn l hl9 D cI cZ cL ob h a h2 a2 σ τ hst hB (xs (4 * t + 1)) qo wo) ⟨hx, hb, hml, hown, hts⟩ q521 b_L_waterOn (n := 3) (by decide +kernel) ⟨Nat.le_of_ble_eq_true rfl, Nat.le_of_ble_eq_true rfl⟩ hK hP hD hS hA hE (spH _ _ _ _ _) rfl hl.1 rfl (Nat.le_of_ble_eq_true rfl) dL_law_792 ⟨by show 40 + 11 * t + 0 + 1 ≤ 671377; omega, by show 600 + 74 * t + 0 + 6 ≤ 7081972; omega⟩ (fun x9 H locs hP hD hS => ?_)
  obtain ⟨⟨τ9, w9⟩, hw9⟩ := x9
  have hw9 : (if hasF 0 σ (xs (4 * t + 1)) = 0 then 1 else 0 : Int32) = 0 → w9 0 = (if hasF 0 σ (xs (4 * t + 1)) = 0 then 0 else σ 2 (xs (4 * t + 1)).toNatClampNeg : Int32).toInt64 := hw9
  have hP : va_P D vwCl ((oC ob h h2) ++ ((mC cI cZ h a σ) ++ ((mC cI cZ h2 a2 τ9) ++ ((lC cL qo w9) ++ (rC cI cZ om bb σ κ ζ th))))) H := hP
  have hD : va_D A ((oC ob h h2) ++ ((mC cI cZ h a σ) ++ ((mC cI cZ h2 a2 τ9) ++ ((lC cL qo w9) ++ (rC cI cZ om bb σ κ ζ th))))) := hD
  refine lv_istore (lv' := [(5, .int (if hasF 0 σ (xs (4 * t + 1)) = 0 then 1 else 0)), (4, .int (nI (4 * t))), (0, .ref b), (1, .ref ob), (2, .ref om), (3, .ref qo)]) hx hb dL_law_795 hl (by decide) rfl (fun ls hl => ?_)
  refine lv_aload_n hx hb dL_law_797 rfl (lv_at hl 4 rfl) ?_
  refine lv_aload_n hx hb dL_law_798 rfl (lv_at hl 2 rfl) ?_
  refine lv_iload hx hb dL_law_799 (lv_at hl 1 rfl) ?_
  refine lv_iconst (v := 1) hx hb dL_law_801 (by decide) ?_
  refine lv_iadd hx hb dL_law_802 ?_
  refine x_top (nI_add (4 * t) 1) ?_
  refine va_sld hx hb hX hbl hbA hS (vp_in_nI (n := (4 * t) + 1) (by omega) (by omega)) dL_law_803 ?_
  refine x_top (show xs (nI ((4 * t) + 1)).toNatClampNeg = xs ((4 * t) + 1) by rw [nI_clamp (by omega)]) ?_
  refine MC.callV (C := RX2) (T := TX2) (N := 14) (As := [.int (xs ((4 * t) + 1))]) (rest := []) (wB := (oC ob h h2) ++ ((mC cI cZ h a σ) ++ ((mC cI cZ h2 a2 τ9) ++ ((lC cL qo w9) ++ (rC cI cZ om bb σ κ ζ (if hasF 0 σ (xs (4 * t + 1)) = 0 then 1 else 0)))))) (c_X2_waterOn l D cI cZ cL om bb σ κ ζ th hst (xs (4 * t + 1))) ⟨hx, hb, hml, hown, hts⟩ q772 b_X2_waterOn (n := 1) (by decide +kernel) ⟨Nat.le_of_ble_eq_true rfl, Nat.le_of_ble_eq_true rfl⟩ hK hP hD hS hA (spR _ _ _ _ _) (spR _ _ _ _ _) (ci := 2) rfl (q0 := 26) rfl rfl hl.1 rfl (Nat.le_of_ble_eq_true rfl) dL_law_804 ⟨by show 40 + 11 * t + 1 + 0 ≤ 671377; omega, by show 600 + 74 * t + 6 + 0 ≤ 7081972; omega⟩ (fun H locs hP hD hS => ?_)
  refine lv_istore (lv' := [(6, .int (if hasF 0 σ (xs (4 * t + 1)) = 0 then 0 else σ 2 (xs (4 * t + 1)).toNatClampNeg)), (5, .int (if hasF 0 σ (xs (4 * t + 1)) = 0 then 1 else 0)), (4, .int (nI (4 * t))), (0, .ref b), (1, .ref ob), (2, .ref om), (3, .ref qo)]) hx hb dL_law_807 hl (by decide) rfl (fun ls hl => ?_)
  refine lv_aload_n hx hb dL_law_809 rfl (lv_at hl 5 rfl) ?_
  refine MC.callV (C := RX2) (T := TX2) (N := 14) (As := []) (rest := []) (wB := (oC ob h h2) ++ ((mC cI cZ h a σ) ++ ((mC cI cZ h2 a2 τ9) ++ ((lC cL qo w9) ++ (rC cI cZ om bb σ κ ζ (if hasF 0 σ (xs (4 * t + 1)) = 0 then 1 else 0)))))) (c_X2_thrown l D cI cZ cL om bb σ κ ζ (if hasF 0 σ (xs (4 * t + 1)) = 0 then 1 else 0)) ⟨hx, hb, hml, hown, hts⟩ q635 b_X2_thrown (n := 0) (by decide +kernel) ⟨Nat.le_of_ble_eq_true rfl, Nat.le_of_ble_eq_true rfl⟩ hK hP hD hS hA (spR _ _ _ _ _) (spR _ _ _ _ _) (ci := 2) rfl (q0 := 26) rfl rfl hl.1 rfl (Nat.le_of_ble_eq_true rfl) dL_law_810 ⟨by show 40 + 11 * t + 1 + 0 ≤ 671377; omega, by show 600 + 74 * t + 6 + 0 ≤ 7081972; omega⟩ (fun H locs hP hD hS => ?_)
  refine lv_iload hx hb dL_law_813 (lv_at hl 1 rfl) ?_
  refine lv_icmp_eq (tgt := 820) hx hb dL_law_815 (by decide) (fun c_815 => ?_) (fun z => absurd (rfl) z)
  refine lv_iload hx hb dL_law_820 (lv_at hl 1 rfl) ?_
  refine lv_if_ne (tgt := 837) hx hb dL_law_822 (by decide) (fun c_822 => ?_) (fun c_822 => ?_)
  · refine lv_goto (tgt := 1708) hx hb dL_law_837 (by decide) ?_
    refine W.wide (k := 40 + 11 * (t + 1)) (n := 600 + 74 * (t + 1)) (by show 40 + 11 * t + 1 ≤ _; omega) (by show 600 + 74 * t + 6 ≤ _; omega) ?_
    exact NX n k σ τ9 κ ζ (if hasF 0 σ (xs (4 * t + 1)) = 0 then 1 else 0) w9 hst (hB.mono (by omega)) _ _ _ hP hD hS (lv_sub hl [2, 3, 4, 5, 6] rfl)
  · refine lv_aload_n hx hb dL_law_825 rfl (lv_at hl 6 rfl) ?_
    refine lv_iconst (v := 0) hx hb dL_law_826 (by decide) ?_
    refine va_lald hx hb hK hP 25 2 rfl rfl (vp_in_nI (n := 0) (by decide) (by decide)) dL_law_827 ?_
    refine lv_iload hx hb dL_law_828 (lv_at hl 0 rfl) ?_
    refine lv_i2l hx hb dL_law_830 rfl ?_
    refine W.lcmp hx hb dL_law_831 ?_
    refine x_top (lcmp_eq (hw9 c_822)) ?_
    refine lv_if_eq (tgt := 837) hx hb dL_law_832 (by decide) (fun c_832 => ?_) (fun z => absurd (by decide) z)
    refine lv_goto (tgt := 1708) hx hb dL_law_837 (by decide) ?_
    refine W.wide (k := 40 + 11 * (t + 1)) (n := 600 + 74 * (t + 1)) (by show 40 + 11 * t + 1 ≤ _; omega) (by show 600 + 74 * t + 6 ≤ _; omega) ?_
    exact NX n k σ τ9 κ ζ (if hasF 0 σ (xs (4 * t + 1)) = 0 then 1 else 0) w9 hst (hB.mono (by omega)) _ _ _ hP hD hS (lv_sub hl [2, 3, 4, 5, 6] rfl)

set_option maxHeartbeats 8000000 in
set_option maxRecDepth 100000 in
theorem law_c17 (l : Launch) (hl9 : l.stackTraces = false) {p : Program} {e : Env} {s : State} {m : MethodId} {args : Array Value} {below : List Frame} {meth : Method} {c : Code} {Q : State → Prop} (D : va_G) (cI cZ cL : ClassId) {A : Nat → Prop} {b L : Nat} {xs : Nat → Int32} (ob h : Nat) (a : Nat → Nat) (h2 : Nat) (a2 : Nat → Nat) (qo om : Nat) (bb : Nat → Nat) (hx : p.tables.exec = Jvm.exec) (hb : c.code = cL_law) (hml : c.maxLocals = 9) (hown : s.vm.findClass RL = some m.cls) (hts : ∀ w ∈ LW, w.before args s = true) (hE : EX A s s.heap) (hK : va_K D vwCl (tZ cI cZ cL) s) (hA : ∀ q : Nat, s.heap.size ≤ q → A q) (hX : va_X b L xs s s.heap) (hbl : b < s.heap.size) (hbA : ¬ A b) (hL : L ≤ 2048) {t : Nat} (ht : 4 * t + 4 ≤ L) (NX : lawN p l e s m args below meth c Q D cI cZ cL A b ob h a h2 a2 qo om bb t) {n k : Nat} (σ τ : Sg) (κ ζ : Nat → Int32) (th : Int32) (wo : Nat → Int64) (hst : Shp n k σ) (hB : Bnd (12000 * t) σ) {H : Heap} {locs : List Loc} {ls : Array Slot} (hP : va_P D vwCl ((oC ob h h2) ++ ((mC cI cZ h a σ) ++ ((mC cI cZ h2 a2 τ) ++ ((lC cL qo wo) ++ (rC cI cZ om bb σ κ ζ th))))) H) (hD : va_D A ((oC ob h h2) ++ ((mC cI cZ h a σ) ++ ((mC cI cZ h2 a2 τ) ++ ((lC cL qo wo) ++ (rC cI cZ om bb σ κ ζ th)))))) (hS : va_S A s.heap H locs) (hl : lv_has ls 9 [(4, .int (nI (4 * t))), (0, .ref b), (1, .ref ob), (2, .ref om), (3, .ref qo)]) : W p l e room_1 s m args below meth c H locs (40 + 11 * t) (600 + 74 * t) Q (F0 m 840 ls []) := by
  have hn10 := hst.1
  have hk16 := hst.2.1
  refine lv_aload_n hx hb dL_law_840 rfl (lv_at hl 2 rfl) ?_
  refine lv_aload_n hx hb dL_law_841 rfl (lv_at hl 1 rfl) ?_
  refine lv_iload hx hb dL_law_842 (lv_at hl 0 rfl) ?_
  refine lv_iconst (v := 1) hx hb dL_law_844 (by decide) ?_
  refine lv_iadd hx hb dL_law_845 ?_
  refine x_top (nI_add (4 * t) 1) ?_
  refine va_sld hx hb hX hbl hbA hS (vp_in_nI (n := (4 * t) + 1) (by omega) (by omega)) dL_law_846 ?_
  refine x_top (show xs (nI ((4 * t) + 1)).toNatClampNeg = xs ((4 * t) + 1) by rw [nI_clamp (by omega)]) ?_
  refine lv_aload_n hx hb dL_law_847 rfl (lv_at hl 4 rfl) ?_
  refine MH.callS (As := [.ref ob, .int (xs ((4 * t) + 1)), .ref qo]) (rest := []) (w0 := []) (w2 := rC cI cZ om bb σ κ ζ th) (c_L_levelOf l hl9 D cI cZ cL ob h a h2 a2 σ τ hst hB (xs (4 * t + 1)) qo wo) ⟨hx, hb, hml, hown, hts⟩ q525 b_L_levelOf (n := 3) (by decide +kernel) ⟨Nat.le_of_ble_eq_true rfl, Nat.le_of_ble_eq_true rfl⟩ hK hP hD hS hA hE (spH _ _ _ _ _) rfl hl.1 rfl (Nat.le_of_ble_eq_true rfl) dL_law_848 ⟨by show 40 + 11 * t + 0 + 1 ≤ 671377; omega, by show 600 + 74 * t + 0 + 6 ≤ 7081972; omega⟩ (fun x9 H locs hP hD hS => ?_)
  obtain ⟨⟨τ9, w9⟩, hw9⟩ := x9
  have hw9 : (if hasF 0 σ (xs (4 * t + 1)) = 0 then 1 else 0 : Int32) = 0 → w9 0 = (if hasF 0 σ (xs (4 * t + 1)) = 0 then 0 else σ 0 (xs (4 * t + 1)).toNatClampNeg + σ 2 (xs (4 * t + 1)).toNatClampNeg : Int32).toInt64 := hw9
  have hP : va_P D vwCl ((oC ob h h2) ++ ((mC cI cZ h a σ) ++ ((mC cI cZ h2 a2 τ9) ++ ((lC cL qo w9) ++ (rC cI cZ om bb σ κ ζ th))))) H := hP
  have hD : va_D A ((oC ob h h2) ++ ((mC cI cZ h a σ) ++ ((mC cI cZ h2 a2 τ9) ++ ((lC cL qo w9) ++ (rC cI cZ om bb σ κ ζ th))))) := hD
  refine lv_istore (lv' := [(5, .int (if hasF 0 σ (xs (4 * t + 1)) = 0 then 1 else 0)), (4, .int (nI (4 * t))), (0, .ref b), (1, .ref ob), (2, .ref om), (3, .ref qo)]) hx hb dL_law_851 hl (by decide) rfl (fun ls hl => ?_)
  refine lv_aload_n hx hb dL_law_853 rfl (lv_at hl 4 rfl) ?_
  refine lv_aload_n hx hb dL_law_854 rfl (lv_at hl 2 rfl) ?_
  refine lv_iload hx hb dL_law_855 (lv_at hl 1 rfl) ?_
  refine lv_iconst (v := 1) hx hb dL_law_857 (by decide) ?_
  refine lv_iadd hx hb dL_law_858 ?_
  refine x_top (nI_add (4 * t) 1) ?_
  refine va_sld hx hb hX hbl hbA hS (vp_in_nI (n := (4 * t) + 1) (by omega) (by omega)) dL_law_859 ?_
  refine x_top (show xs (nI ((4 * t) + 1)).toNatClampNeg = xs ((4 * t) + 1) by rw [nI_clamp (by omega)]) ?_
  refine MC.callV (C := RX2) (T := TX2) (N := 14) (As := [.int (xs ((4 * t) + 1))]) (rest := []) (wB := (oC ob h h2) ++ ((mC cI cZ h a σ) ++ ((mC cI cZ h2 a2 τ9) ++ ((lC cL qo w9) ++ (rC cI cZ om bb σ κ ζ (if hasF 0 σ (xs (4 * t + 1)) = 0 then 1 else 0)))))) (c_X2_levelOf l D cI cZ cL om bb σ κ ζ th hst (xs (4 * t + 1))) ⟨hx, hb, hml, hown, hts⟩ q780 b_X2_levelOf (n := 1) (by decide +kernel) ⟨Nat.le_of_ble_eq_true rfl, Nat.le_of_ble_eq_true rfl⟩ hK hP hD hS hA (spR _ _ _ _ _) (spR _ _ _ _ _) (ci := 2) rfl (q0 := 26) rfl rfl hl.1 rfl (Nat.le_of_ble_eq_true rfl) dL_law_860 ⟨by show 40 + 11 * t + 1 + 0 ≤ 671377; omega, by show 600 + 74 * t + 6 + 0 ≤ 7081972; omega⟩ (fun H locs hP hD hS => ?_)
  refine lv_istore (lv' := [(6, .int (if hasF 0 σ (xs (4 * t + 1)) = 0 then 0 else σ 0 (xs (4 * t + 1)).toNatClampNeg + σ 2 (xs (4 * t + 1)).toNatClampNeg)), (5, .int (if hasF 0 σ (xs (4 * t + 1)) = 0 then 1 else 0)), (4, .int (nI (4 * t))), (0, .ref b), (1, .ref ob), (2, .ref om), (3, .ref qo)]) hx hb dL_law_863 hl (by decide) rfl (fun ls hl => ?_)
  refine lv_aload_n hx hb dL_law_865 rfl (lv_at hl 5 rfl) ?_
  refine MC.callV (C := RX2) (T := TX2) (N := 14) (As := []) (rest := []) (wB := (oC ob h h2) ++ ((mC cI cZ h a σ) ++ ((mC cI cZ h2 a2 τ9) ++ ((lC cL qo w9) ++ (rC cI cZ om bb σ κ ζ (if hasF 0 σ (xs (4 * t + 1)) = 0 then 1 else 0)))))) (c_X2_thrown l D cI cZ cL om bb σ κ ζ (if hasF 0 σ (xs (4 * t + 1)) = 0 then 1 else 0)) ⟨hx, hb, hml, hown, hts⟩ q635 b_X2_thrown (n := 0) (by decide +kernel) ⟨Nat.le_of_ble_eq_true rfl, Nat.le_of_ble_eq_true rfl⟩ hK hP hD hS hA (spR _ _ _ _ _) (spR _ _ _ _ _) (ci := 2) rfl (q0 := 26) rfl rfl hl.1 rfl (Nat.le_of_ble_eq_true rfl) dL_law_866 ⟨by show 40 + 11 * t + 1 + 0 ≤ 671377; omega, by show 600 + 74 * t + 6 + 0 ≤ 7081972; omega⟩ (fun H locs hP hD hS => ?_)
  refine lv_iload hx hb dL_law_869 (lv_at hl 1 rfl) ?_
  refine lv_icmp_eq (tgt := 876) hx hb dL_law_871 (by decide) (fun c_871 => ?_) (fun z => absurd (rfl) z)
  refine lv_iload hx hb dL_law_876 (lv_at hl 1 rfl) ?_
  refine lv_if_ne (tgt := 893) hx hb dL_law_878 (by decide) (fun c_878 => ?_) (fun c_878 => ?_)
  · refine lv_goto (tgt := 1708) hx hb dL_law_893 (by decide) ?_
    refine W.wide (k := 40 + 11 * (t + 1)) (n := 600 + 74 * (t + 1)) (by show 40 + 11 * t + 1 ≤ _; omega) (by show 600 + 74 * t + 6 ≤ _; omega) ?_
    exact NX n k σ τ9 κ ζ (if hasF 0 σ (xs (4 * t + 1)) = 0 then 1 else 0) w9 hst (hB.mono (by omega)) _ _ _ hP hD hS (lv_sub hl [2, 3, 4, 5, 6] rfl)
  · refine lv_aload_n hx hb dL_law_881 rfl (lv_at hl 6 rfl) ?_
    refine lv_iconst (v := 0) hx hb dL_law_882 (by decide) ?_
    refine va_lald hx hb hK hP 25 2 rfl rfl (vp_in_nI (n := 0) (by decide) (by decide)) dL_law_883 ?_
    refine lv_iload hx hb dL_law_884 (lv_at hl 0 rfl) ?_
    refine lv_i2l hx hb dL_law_886 rfl ?_
    refine W.lcmp hx hb dL_law_887 ?_
    refine x_top (lcmp_eq (hw9 c_878)) ?_
    refine lv_if_eq (tgt := 893) hx hb dL_law_888 (by decide) (fun c_888 => ?_) (fun z => absurd (by decide) z)
    refine lv_goto (tgt := 1708) hx hb dL_law_893 (by decide) ?_
    refine W.wide (k := 40 + 11 * (t + 1)) (n := 600 + 74 * (t + 1)) (by show 40 + 11 * t + 1 ≤ _; omega) (by show 600 + 74 * t + 6 ≤ _; omega) ?_
    exact NX n k σ τ9 κ ζ (if hasF 0 σ (xs (4 * t + 1)) = 0 then 1 else 0) w9 hst (hB.mono (by omega)) _ _ _ hP hD hS (lv_sub hl [2, 3, 4, 5, 6] rfl)
