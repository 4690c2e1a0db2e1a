theorem hasF_1of {i : Nat} {σ : Sg} {x : Int32} (h : ¬ hasF i σ x = 0) : hasF i σ x = 1 := by
  unfold hasF at h ⊢
  by_cases h1 : 0 ≤ x
  · rw [if_pos h1] at h ⊢
    by_cases h2 : x < σ 11 i
    · rw [if_pos h2]
    · rw [if_neg h2] at h; exact absurd rfl h
  · rw [if_neg h1] at h; exact absurd rfl h
abbrev rmL_addField : Room := { frames := 8, cells := 1, slots := 6, locals := 145 }
theorem b_L_addField : Cond.static yL_addField ∈ LW ∧ Cond.initialized yL_addField.cls ∈ LW ∧ Cond.codeWith yL_addField cL_addField 5 (some .int) [(0, 10, 13, 13), (0, 10, 17, 15)] ∈ LW := ⟨q440, q37, q441⟩
set_option maxHeartbeats 4000000 in
set_option maxRecDepth 100000 in
theorem c_L_addField (l : Launch) (hl9 : l.stackTraces = false) (D : va_G) (cI cZ cL : ClassId) {n k : Nat} (ob h : Nat) (a : Nat → Nat) (h2 : Nat) (a2 : Nat → Nat) (σ τ : Sg) (hst : Shp n k σ) (p0 : Int32) (p1 : Int32) (qo : Nat) (wo : Nat → Int64) : MH (ι := {g9 : Sg × (Nat → Int64) // (if inR p0 0 20 = 0 then 1 else if inR p1 0 99 = 0 then 1 else if n = 10 then 2 else 0 : Int32) = 0 → g9.2 0 = (if inR p0 0 20 = 0 then 0 else if inR p1 0 99 = 0 then 0 else if n = 10 then 0 else nI n : Int32).toInt64}) l yL_addField cL_addField 5 (some .int) [(0, 10, 13, 13), (0, 10, 17, 15)] rmL_addField D (tZ cI cZ cL) [.ref ob, .int p0, .int p1, .ref qo] ((oC ob h h2) ++ ((mC cI cZ h a σ) ++ ((mC cI cZ h2 a2 τ) ++ (lC cL qo wo)))) (fun g9 => (oC ob h h2) ++ ((mC cI cZ h a (if inR p0 0 20 = 0 then σ else if inR p1 0 99 = 0 then σ else if n = 10 then σ else putF n p0 p1 σ)) ++ ((mC cI cZ h2 a2 g9.1.1) ++ (lC cL qo g9.1.2)))) (some (.int (if inR p0 0 20 = 0 then 1 else if inR p1 0 99 = 0 then 1 else if n = 10 then 2 else 0))) := by
  refine MH.of (by decide) (Nat.le_of_ble_eq_true rfl) ?_
  intro p e s m args below meth c A ls Q hx hb hml hr hts hown hlocks hA hP hD hK hS hl hQ hE htab
  have hown : s.vm.findClass RL = some m.cls := hown
  have hn10 := hst.1
  have hk16 := hst.2.1
  have hl : lv_has ls 5 [(0, .ref ob), (1, .int p0), (2, .int p1), (3, .ref qo)] := hl
  refine lv_aload_n hx hb dL_addField_0 rfl (lv_at hl 3 rfl) ?_
  refine lv_iconst (v := 0) hx hb dL_addField_1 (by decide) ?_
  refine lv_aload_n hx hb dL_addField_2 rfl (lv_at hl 0 rfl) ?_
  refine lv_iload_n hx hb dL_addField_3 rfl (lv_at hl 1 rfl) ?_
  refine lv_iload_n hx hb dL_addField_4 rfl (lv_at hl 2 rfl) ?_
  by_cases hr0 : inR p0 0 20 = 0
  · refine MT.callV (C := RX1) (T := TX1) (N := 2) (As := [.int p0, .int p1]) (rest := [.int 0, .ref qo]) (c_X1_addField_a l hl9 D cI cZ cL ob h a h2 a2 σ τ hst p0 p1 hr0) ⟨hx, hb, hml, hown, hts⟩ q444 b_X1_addField (n := 2) (by decide +kernel) ⟨Nat.le_of_ble_eq_true rfl, Nat.le_of_ble_eq_true rfl⟩ hK hP hD hS hA hE (spX _ _ _ _) (ci := 1) rfl (q0 := 0) rfl rfl hl.1 rfl (Nat.le_of_ble_eq_true rfl) dL_addField_5 ⟨Nat.le_of_ble_eq_true rfl, Nat.le_of_ble_eq_true rfl⟩ (fun ce q9 H locs hP hD hS hce hcv hcl => ?_)
    refine vx_catch (own := RL) (name := "java/lang/IllegalArgumentException") hown [] ⟨0, 10, 13, 13⟩ [⟨0, 10, 17, 15⟩] (by rw [htab]; rfl) (by simp) (by decide) (by decide) (hts _ q442) (va_Nw.use rfl (hE.w 16 rfl)) hce hcv hcl ?_
    refine lv_astore (lv' := [(4, .ref q9), (0, .ref ob), (1, .int p0), (2, .int p1), (3, .ref qo)]) hx hb dL_addField_13 hl (by decide) rfl (fun ls hl => ?_)
    refine lv_iconst (v := 1) hx hb dL_addField_15 (by decide) ?_
    refine W.wide (k := 1) (n := 6) (Nat.le_of_ble_eq_true rfl) (Nat.le_of_ble_eq_true rfl) ?_
    subst hQ
    exact xni ⟨(τ, wo), fun z => absurd z (by rw [if_pos hr0]; decide)⟩ hx hb hr hlocks hK hP hD hS dL_addField_16 (by show (oC ob h h2) ++ ((mC cI cZ h a σ) ++ ((mC cI cZ h2 a2 τ) ++ (lC cL qo wo))) = (oC ob h h2) ++ ((mC cI cZ h a (if inR p0 0 20 = 0 then σ else if inR p1 0 99 = 0 then σ else if n = 10 then σ else putF n p0 p1 σ)) ++ ((mC cI cZ h2 a2 τ) ++ (lC cL qo wo))); rw [if_pos hr0]) (by rw [if_pos hr0])
  · by_cases hr1 : inR p1 0 99 = 0
    · refine MT.callV (C := RX1) (T := TX1) (N := 2) (As := [.int p0, .int p1]) (rest := [.int 0, .ref qo]) (c_X1_addField_b l hl9 D cI cZ cL ob h a h2 a2 σ τ hst p0 p1 hr0 hr1) ⟨hx, hb, hml, hown, hts⟩ q444 b_X1_addField (n := 2) (by decide +kernel) ⟨Nat.le_of_ble_eq_true rfl, Nat.le_of_ble_eq_true rfl⟩ hK hP hD hS hA hE (spX _ _ _ _) (ci := 1) rfl (q0 := 0) rfl rfl hl.1 rfl (Nat.le_of_ble_eq_true rfl) dL_addField_5 ⟨Nat.le_of_ble_eq_true rfl, Nat.le_of_ble_eq_true rfl⟩ (fun ce q9 H locs hP hD hS hce hcv hcl => ?_)
      refine vx_catch (own := RL) (name := "java/lang/IllegalArgumentException") hown [] ⟨0, 10, 13, 13⟩ [⟨0, 10, 17, 15⟩] (by rw [htab]; rfl) (by simp) (by decide) (by decide) (hts _ q442) (va_Nw.use rfl (hE.w 16 rfl)) hce hcv hcl ?_
      refine lv_astore (lv' := [(4, .ref q9), (0, .ref ob), (1, .int p0), (2, .int p1), (3, .ref qo)]) hx hb dL_addField_13 hl (by decide) rfl (fun ls hl => ?_)
      refine lv_iconst (v := 1) hx hb dL_addField_15 (by decide) ?_
      refine W.wide (k := 1) (n := 6) (Nat.le_of_ble_eq_true rfl) (Nat.le_of_ble_eq_true rfl) ?_
      subst hQ
      exact xni ⟨(τ, wo), fun z => absurd z (by rw [if_neg hr0, if_pos hr1]; decide)⟩ hx hb hr hlocks hK hP hD hS dL_addField_16 (by show (oC ob h h2) ++ ((mC cI cZ h a σ) ++ ((mC cI cZ h2 a2 τ) ++ (lC cL qo wo))) = (oC ob h h2) ++ ((mC cI cZ h a (if inR p0 0 20 = 0 then σ else if inR p1 0 99 = 0 then σ else if n = 10 then σ else putF n p0 p1 σ)) ++ ((mC cI cZ h2 a2 τ) ++ (lC cL qo wo))); rw [if_neg hr0, if_pos hr1]) (by rw [if_neg hr0, if_pos hr1])
    · by_cases hn9 : n = 10
      · refine MT.callV (C := RX1) (T := TX1) (N := 2) (As := [.int p0, .int p1]) (rest := [.int 0, .ref qo]) (c_X1_addField_c l hl9 D cI cZ cL ob h a h2 a2 σ τ hst p0 p1 hr0 hr1 hn9) ⟨hx, hb, hml, hown, hts⟩ q444 b_X1_addField (n := 2) (by decide +kernel) ⟨Nat.le_of_ble_eq_true rfl, Nat.le_of_ble_eq_true rfl⟩ hK hP hD hS hA hE (spX _ _ _ _) (ci := 1) rfl (q0 := 0) rfl rfl hl.1 rfl (Nat.le_of_ble_eq_true rfl) dL_addField_5 ⟨Nat.le_of_ble_eq_true rfl, Nat.le_of_ble_eq_true rfl⟩ (fun ce q9 H locs hP hD hS hce hcv hcl => ?_)
        refine vx_catch (own := RL) (name := "java/lang/IllegalStateException") hown [⟨0, 10, 13, 13⟩] ⟨0, 10, 17, 15⟩ [] (by rw [htab]; rfl) (fun z hz => by simp only [List.mem_cons, List.not_mem_nil, or_false] at hz; subst hz; exact Or.inr ⟨by decide, "java/lang/IllegalArgumentException", hts _ q442, hE.n 2 rfl⟩) (by decide) (by decide) (hts _ q443) (va_Nw.use rfl (hE.w 17 rfl)) hce hcv hcl ?_
        refine lv_astore (lv' := [(4, .ref q9), (0, .ref ob), (1, .int p0), (2, .int p1), (3, .ref qo)]) hx hb dL_addField_17 hl (by decide) rfl (fun ls hl => ?_)
        refine lv_iconst (v := 2) hx hb dL_addField_19 (by decide) ?_
        refine W.wide (k := 1) (n := 6) (Nat.le_of_ble_eq_true rfl) (Nat.le_of_ble_eq_true rfl) ?_
        subst hQ
        exact xni ⟨(τ, wo), fun z => absurd z (by rw [if_neg hr0, if_neg hr1, if_pos hn9]; decide)⟩ hx hb hr hlocks hK hP hD hS dL_addField_20 (by show (oC ob h h2) ++ ((mC cI cZ h a σ) ++ ((mC cI cZ h2 a2 τ) ++ (lC cL qo wo))) = (oC ob h h2) ++ ((mC cI cZ h a (if inR p0 0 20 = 0 then σ else if inR p1 0 99 = 0 then σ else if n = 10 then σ else putF n p0 p1 σ)) ++ ((mC cI cZ h2 a2 τ) ++ (lC cL qo wo))); rw [if_neg hr0, if_neg hr1, if_pos hn9]) (by rw [if_neg hr0, if_neg hr1, if_pos hn9])
      · refine MX.callV (C := RX1) (T := TX1) (N := 2) (As := [.int p0, .int p1]) (rest := [.int 0, .ref qo]) (wB := (fun ρ => (oC ob h h2) ++ ((mC cI cZ h a (putF n p0 p1 σ)) ++ ((mC cI cZ h2 a2 ρ) ++ (lC cL qo wo))))) (c_X1_addField_d l D cI cZ cL ob h a h2 a2 σ τ hst p0 p1 hr0 hr1 hn9) ⟨hx, hb, hml, hown, hts⟩ q444 b_X1_addField (n := 2) (by decide +kernel) ⟨Nat.le_of_ble_eq_true rfl, Nat.le_of_ble_eq_true rfl⟩ hK hP hD hS hA hE (spX _ _ _ _) (fun _ => spX _ _ _ _) (ci := 1) rfl (q0 := 0) rfl rfl hl.1 rfl (Nat.le_of_ble_eq_true rfl) dL_addField_5 ⟨Nat.le_of_ble_eq_true rfl, Nat.le_of_ble_eq_true rfl⟩ (fun ρ_1 H locs hP hD hS => ?_)
        have hP : va_P D vwCl ((oC ob h h2) ++ ((mC cI cZ h a (putF n p0 p1 σ)) ++ ((mC cI cZ h2 a2 ρ_1) ++ (lC cL qo wo)))) H := hP
        have hD : va_D A ((oC ob h h2) ++ ((mC cI cZ h a (putF n p0 p1 σ)) ++ ((mC cI cZ h2 a2 ρ_1) ++ (lC cL qo wo)))) := hD
        refine lv_i2l hx hb dL_addField_8 rfl ?_
        refine va_last hx hb hK hP hD hS 25 2 rfl rfl (vp_in_nI (n := 0) (by decide) (by decide)) dL_addField_9 (fun H locs hP hD hS => ?_)
        have hP : va_P D vwCl ((oC ob h h2) ++ ((mC cI cZ h a (putF n p0 p1 σ)) ++ ((mC cI cZ h2 a2 ρ_1) ++ (lC cL qo (vp_updL wo 0 ((nI n).toInt64)))))) H := hP
        have hD : va_D A ((oC ob h h2) ++ ((mC cI cZ h a (putF n p0 p1 σ)) ++ ((mC cI cZ h2 a2 ρ_1) ++ (lC cL qo (vp_updL wo 0 ((nI n).toInt64)))))) := hD
        refine lv_goto (tgt := 21) hx hb dL_addField_10 (by decide) ?_
        refine lv_iconst (v := 0) hx hb dL_addField_21 (by decide) ?_
        refine W.wide (k := 1) (n := 6) (Nat.le_of_ble_eq_true rfl) (Nat.le_of_ble_eq_true rfl) ?_
        subst hQ
        exact xni ⟨(ρ_1, vp_updL wo 0 ((nI n).toInt64)), fun _ => by show _ = (if inR p0 0 20 = 0 then 0 else if inR p1 0 99 = 0 then 0 else if n = 10 then 0 else nI n : Int32).toInt64; rw [if_neg hr0, if_neg hr1, if_neg hn9]; rfl⟩ hx hb hr hlocks hK hP hD hS dL_addField_22 (by show (oC ob h h2) ++ ((mC cI cZ h a (putF n p0 p1 σ)) ++ ((mC cI cZ h2 a2 ρ_1) ++ (lC cL qo (vp_updL wo 0 ((nI n).toInt64))))) = (oC ob h h2) ++ ((mC cI cZ h a (if inR p0 0 20 = 0 then σ else if inR p1 0 99 = 0 then σ else if n = 10 then σ else putF n p0 p1 σ)) ++ ((mC cI cZ h2 a2 ρ_1) ++ (lC cL qo (vp_updL wo 0 ((nI n).toInt64))))); rw [if_neg hr0, if_neg hr1, if_neg hn9]) (by rw [if_neg hr0, if_neg hr1, if_neg hn9])

abbrev rmL_addDitch : Room := { frames := 9, cells := 1, slots := 6, locals := 170 }
theorem b_L_addDitch : Cond.static yL_addDitch ∈ LW ∧ Cond.initialized yL_addDitch.cls ∈ LW ∧ Cond.codeWith yL_addDitch cL_addDitch 6 (some .int) [(0, 12, 15, 21), (0, 12, 19, 13), (0, 12, 23, 15)] ∈ LW := ⟨q469, q37, q470⟩
set_option maxHeartbeats 4000000 in
set_option maxRecDepth 100000 in
theorem c_L_addDitch (l : Launch) (hl9 : l.stackTraces = false) (D : va_G) (cI cZ cL : ClassId) {n k : Nat} (ob h : Nat) (a : Nat → Nat) (h2 : Nat) (a2 : Nat → Nat) (σ τ : Sg) (hst : Shp n k σ) (p0 : Int32) (p1 : Int32) (p2 : Int32) (qo : Nat) (wo : Nat → Int64) : MH (ι := {g9 : Sg × (Nat → Int64) // (if hasF 0 σ p0 = 0 then 1 else if hasF 0 σ p1 = 0 then 1 else (if p0 = p1 then 2 else if inR p2 1 9 = 0 then 2 else if k = 16 then 3 else 0) : Int32) = 0 → g9.2 0 = (if hasF 0 σ p0 = 0 then 0 else if hasF 0 σ p1 = 0 then 0 else (if p0 = p1 then 0 else if inR p2 1 9 = 0 then 0 else if k = 16 then 0 else nI k) : Int32).toInt64}) l yL_addDitch cL_addDitch 6 (some .int) [(0, 12, 15, 21), (0, 12, 19, 13), (0, 12, 23, 15)] rmL_addDitch D (tZ cI cZ cL) [.ref ob, .int p0, .int p1, .int p2, .ref qo] ((oC ob h h2) ++ ((mC cI cZ h a σ) ++ ((mC cI cZ h2 a2 τ) ++ (lC cL qo wo)))) (fun g9 => (oC ob h h2) ++ ((mC cI cZ h a (if hasF 0 σ p0 = 0 then σ else if hasF 0 σ p1 = 0 then σ else (if p0 = p1 then σ else if inR p2 1 9 = 0 then σ else if k = 16 then σ else putD k p0 p1 p2 0 σ))) ++ ((mC cI cZ h2 a2 g9.1.1) ++ (lC cL qo g9.1.2)))) (some (.int (if hasF 0 σ p0 = 0 then 1 else if hasF 0 σ p1 = 0 then 1 else (if p0 = p1 then 2 else if inR p2 1 9 = 0 then 2 else if k = 16 then 3 else 0)))) := by
  refine MH.of (by decide) (Nat.le_of_ble_eq_true rfl) ?_
  intro p e s m args below meth c A ls Q hx hb hml hr hts hown hlocks hA hP hD hK hS hl hQ hE htab
  have hown : s.vm.findClass RL = some m.cls := hown
  have hn10 := hst.1
  have hk16 := hst.2.1
  have hl : lv_has ls 6 [(0, .ref ob), (1, .int p0), (2, .int p1), (3, .int p2), (4, .ref qo)] := hl
  refine lv_aload hx hb dL_addDitch_0 (lv_at hl 4 rfl) ?_
  refine lv_iconst (v := 0) hx hb dL_addDitch_2 (by decide) ?_
  refine lv_aload_n hx hb dL_addDitch_3 rfl (lv_at hl 0 rfl) ?_
  refine lv_iload_n hx hb dL_addDitch_4 rfl (lv_at hl 1 rfl) ?_
  refine lv_iload_n hx hb dL_addDitch_5 rfl (lv_at hl 2 rfl) ?_
  refine lv_iload_n hx hb dL_addDitch_6 rfl (lv_at hl 3 rfl) ?_
  by_cases hf0 : hasF 0 σ p0 = 0
  · refine MT.callV (C := RX1) (T := TX1) (N := 2) (As := [.int p0, .int p1, .int p2]) (rest := [.int 0, .ref qo]) (c_X1_addDitch_n l hl9 D cI cZ cL ob h a h2 a2 σ τ hst p0 p1 p2 hf0) ⟨hx, hb, hml, hown, hts⟩ q472 b_X1_addDitch (n := 3) (by decide +kernel) ⟨Nat.le_of_ble_eq_true rfl, Nat.le_of_ble_eq_true rfl⟩ hK hP hD hS hA hE (spX _ _ _ _) (ci := 1) rfl (q0 := 0) rfl rfl hl.1 rfl (Nat.le_of_ble_eq_true rfl) dL_addDitch_7 ⟨Nat.le_of_ble_eq_true rfl, Nat.le_of_ble_eq_true rfl⟩ (fun ce q9 H locs hP hD hS hce hcv hcl => ?_)
    refine vx_catch (own := RL) (name := "java/lang/IndexOutOfBoundsException") hown [] ⟨0, 12, 15, 21⟩ [⟨0, 12, 19, 13⟩, ⟨0, 12, 23, 15⟩] (by rw [htab]; rfl) (by simp) (by decide) (by decide) (hts _ q471) (va_Nw.use rfl (hE.w 18 rfl)) hce hcv hcl ?_
    refine lv_astore (lv' := [(5, .ref q9), (0, .ref ob), (1, .int p0), (2, .int p1), (3, .int p2), (4, .ref qo)]) hx hb dL_addDitch_15 hl (by decide) rfl (fun ls hl => ?_)
    refine lv_iconst (v := 1) hx hb dL_addDitch_17 (by decide) ?_
    refine W.wide (k := 1) (n := 6) (Nat.le_of_ble_eq_true rfl) (Nat.le_of_ble_eq_true rfl) ?_
    subst hQ
    exact xni ⟨(τ, wo), fun z => absurd z (by rw [if_pos hf0]; decide)⟩ hx hb hr hlocks hK hP hD hS dL_addDitch_18 (by show (oC ob h h2) ++ ((mC cI cZ h a σ) ++ ((mC cI cZ h2 a2 τ) ++ (lC cL qo wo))) = (oC ob h h2) ++ ((mC cI cZ h a (if hasF 0 σ p0 = 0 then σ else if hasF 0 σ p1 = 0 then σ else (if p0 = p1 then σ else if inR p2 1 9 = 0 then σ else if k = 16 then σ else putD k p0 p1 p2 0 σ))) ++ ((mC cI cZ h2 a2 τ) ++ (lC cL qo wo))); rw [if_pos hf0]) (by rw [if_pos hf0])
  · have hf01 := hasF_1of hf0
    by_cases hf1 : hasF 0 σ p1 = 0
    · refine MT.callV (C := RX1) (T := TX1) (N := 2) (As := [.int p0, .int p1, .int p2]) (rest := [.int 0, .ref qo]) (c_X1_addDitch_m l hl9 D cI cZ cL ob h a h2 a2 σ τ hst p0 p1 p2 hf01 hf1) ⟨hx, hb, hml, hown, hts⟩ q472 b_X1_addDitch (n := 3) (by decide +kernel) ⟨Nat.le_of_ble_eq_true rfl, Nat.le_of_ble_eq_true rfl⟩ hK hP hD hS hA hE (spX _ _ _ _) (ci := 1) rfl (q0 := 0) rfl rfl hl.1 rfl (Nat.le_of_ble_eq_true rfl) dL_addDitch_7 ⟨Nat.le_of_ble_eq_true rfl, Nat.le_of_ble_eq_true rfl⟩ (fun ce q9 H locs hP hD hS hce hcv hcl => ?_)
      refine vx_catch (own := RL) (name := "java/lang/IndexOutOfBoundsException") hown [] ⟨0, 12, 15, 21⟩ [⟨0, 12, 19, 13⟩, ⟨0, 12, 23, 15⟩] (by rw [htab]; rfl) (by simp) (by decide) (by decide) (hts _ q471) (va_Nw.use rfl (hE.w 18 rfl)) hce hcv hcl ?_
      refine lv_astore (lv' := [(5, .ref q9), (0, .ref ob), (1, .int p0), (2, .int p1), (3, .int p2), (4, .ref qo)]) hx hb dL_addDitch_15 hl (by decide) rfl (fun ls hl => ?_)
      refine lv_iconst (v := 1) hx hb dL_addDitch_17 (by decide) ?_
      refine W.wide (k := 1) (n := 6) (Nat.le_of_ble_eq_true rfl) (Nat.le_of_ble_eq_true rfl) ?_
      subst hQ
      exact xni ⟨(τ, wo), fun z => absurd z (by rw [if_neg hf0, if_pos hf1]; decide)⟩ hx hb hr hlocks hK hP hD hS dL_addDitch_18 (by show (oC ob h h2) ++ ((mC cI cZ h a σ) ++ ((mC cI cZ h2 a2 τ) ++ (lC cL qo wo))) = (oC ob h h2) ++ ((mC cI cZ h a (if hasF 0 σ p0 = 0 then σ else if hasF 0 σ p1 = 0 then σ else (if p0 = p1 then σ else if inR p2 1 9 = 0 then σ else if k = 16 then σ else putD k p0 p1 p2 0 σ))) ++ ((mC cI cZ h2 a2 τ) ++ (lC cL qo wo))); rw [if_neg hf0, if_pos hf1]) (by rw [if_neg hf0, if_pos hf1])
    · have hf11 := hasF_1of hf1
      by_cases h0 : p0 = p1
      · refine MT.callV (C := RX1) (T := TX1) (N := 2) (As := [.int p0, .int p1, .int p2]) (rest := [.int 0, .ref qo]) (c_X1_addDitch_a l hl9 D cI cZ cL ob h a h2 a2 σ τ hst p0 p1 p2 hf01 hf11 h0) ⟨hx, hb, hml, hown, hts⟩ q472 b_X1_addDitch (n := 3) (by decide +kernel) ⟨Nat.le_of_ble_eq_true rfl, Nat.le_of_ble_eq_true rfl⟩ hK hP hD hS hA hE (spX _ _ _ _) (ci := 1) rfl (q0 := 0) rfl rfl hl.1 rfl (Nat.le_of_ble_eq_true rfl) dL_addDitch_7 ⟨Nat.le_of_ble_eq_true rfl, Nat.le_of_ble_eq_true rfl⟩ (fun ce q9 H locs hP hD hS hce hcv hcl => ?_)
        refine vx_catch (own := RL) (name := "java/lang/IllegalArgumentException") hown [⟨0, 12, 15, 21⟩] ⟨0, 12, 19, 13⟩ [⟨0, 12, 23, 15⟩] (by rw [htab]; rfl) (fun z hz => by simp only [List.mem_cons, List.not_mem_nil, or_false] at hz; subst hz; exact Or.inr ⟨by decide, "java/lang/IndexOutOfBoundsException", hts _ q471, hE.n 1 rfl⟩) (by decide) (by decide) (hts _ q442) (va_Nw.use rfl (hE.w 16 rfl)) hce hcv hcl ?_
        refine lv_astore (lv' := [(5, .ref q9), (0, .ref ob), (1, .int p0), (2, .int p1), (3, .int p2), (4, .ref qo)]) hx hb dL_addDitch_19 hl (by decide) rfl (fun ls hl => ?_)
        refine lv_iconst (v := 2) hx hb dL_addDitch_21 (by decide) ?_
        refine W.wide (k := 1) (n := 6) (Nat.le_of_ble_eq_true rfl) (Nat.le_of_ble_eq_true rfl) ?_
        subst hQ
        exact xni ⟨(τ, wo), fun z => absurd z (by rw [if_neg hf0, if_neg hf1, if_pos h0]; decide)⟩ hx hb hr hlocks hK hP hD hS dL_addDitch_22 (by show (oC ob h h2) ++ ((mC cI cZ h a σ) ++ ((mC cI cZ h2 a2 τ) ++ (lC cL qo wo))) = (oC ob h h2) ++ ((mC cI cZ h a (if hasF 0 σ p0 = 0 then σ else if hasF 0 σ p1 = 0 then σ else (if p0 = p1 then σ else if inR p2 1 9 = 0 then σ else if k = 16 then σ else putD k p0 p1 p2 0 σ))) ++ ((mC cI cZ h2 a2 τ) ++ (lC cL qo wo))); rw [if_neg hf0, if_neg hf1, if_pos h0]) (by rw [if_neg hf0, if_neg hf1, if_pos h0])
      · by_cases hr1 : inR p2 1 9 = 0
        · refine MT.callV (C := RX1) (T := TX1) (N := 2) (As := [.int p0, .int p1, .int p2]) (rest := [.int 0, .ref qo]) (c_X1_addDitch_b l hl9 D cI cZ cL ob h a h2 a2 σ τ hst p0 p1 p2 hf01 hf11 h0 hr1) ⟨hx, hb, hml, hown, hts⟩ q472 b_X1_addDitch (n := 3) (by decide +kernel) ⟨Nat.le_of_ble_eq_true rfl, Nat.le_of_ble_eq_true rfl⟩ hK hP hD hS hA hE (spX _ _ _ _) (ci := 1) rfl (q0 := 0) rfl rfl hl.1 rfl (Nat.le_of_ble_eq_true rfl) dL_addDitch_7 ⟨Nat.le_of_ble_eq_true rfl, Nat.le_of_ble_eq_true rfl⟩ (fun ce q9 H locs hP hD hS hce hcv hcl => ?_)
          refine vx_catch (own := RL) (name := "java/lang/IllegalArgumentException") hown [⟨0, 12, 15, 21⟩] ⟨0, 12, 19, 13⟩ [⟨0, 12, 23, 15⟩] (by rw [htab]; rfl) (fun z hz => by simp only [List.mem_cons, List.not_mem_nil, or_false] at hz; subst hz; exact Or.inr ⟨by decide, "java/lang/IndexOutOfBoundsException", hts _ q471, hE.n 1 rfl⟩) (by decide) (by decide) (hts _ q442) (va_Nw.use rfl (hE.w 16 rfl)) hce hcv hcl ?_
          refine lv_astore (lv' := [(5, .ref q9), (0, .ref ob), (1, .int p0), (2, .int p1), (3, .int p2), (4, .ref qo)]) hx hb dL_addDitch_19 hl (by decide) rfl (fun ls hl => ?_)
          refine lv_iconst (v := 2) hx hb dL_addDitch_21 (by decide) ?_
          refine W.wide (k := 1) (n := 6) (Nat.le_of_ble_eq_true rfl) (Nat.le_of_ble_eq_true rfl) ?_
          subst hQ
          exact xni ⟨(τ, wo), fun z => absurd z (by rw [if_neg hf0, if_neg hf1, if_neg h0, if_pos hr1]; decide)⟩ hx hb hr hlocks hK hP hD hS dL_addDitch_22 (by show (oC ob h h2) ++ ((mC cI cZ h a σ) ++ ((mC cI cZ h2 a2 τ) ++ (lC cL qo wo))) = (oC ob h h2) ++ ((mC cI cZ h a (if hasF 0 σ p0 = 0 then σ else if hasF 0 σ p1 = 0 then σ else (if p0 = p1 then σ else if inR p2 1 9 = 0 then σ else if k = 16 then σ else putD k p0 p1 p2 0 σ))) ++ ((mC cI cZ h2 a2 τ) ++ (lC cL qo wo))); rw [if_neg hf0, if_neg hf1, if_neg h0, if_pos hr1]) (by rw [if_neg hf0, if_neg hf1, if_neg h0, if_pos hr1])
        · by_cases hk9 : k = 16
          · refine MT.callV (C := RX1) (T := TX1) (N := 2) (As := [.int p0, .int p1, .int p2]) (rest := [.int 0, .ref qo]) (c_X1_addDitch_c l hl9 D cI cZ cL ob h a h2 a2 σ τ hst p0 p1 p2 hf01 hf11 h0 hr1 hk9) ⟨hx, hb, hml, hown, hts⟩ q472 b_X1_addDitch (n := 3) (by decide +kernel) ⟨Nat.le_of_ble_eq_true rfl, Nat.le_of_ble_eq_true rfl⟩ hK hP hD hS hA hE (spX _ _ _ _) (ci := 1) rfl (q0 := 0) rfl rfl hl.1 rfl (Nat.le_of_ble_eq_true rfl) dL_addDitch_7 ⟨Nat.le_of_ble_eq_true rfl, Nat.le_of_ble_eq_true rfl⟩ (fun ce q9 H locs hP hD hS hce hcv hcl => ?_)
            refine vx_catch (own := RL) (name := "java/lang/IllegalStateException") hown [⟨0, 12, 15, 21⟩, ⟨0, 12, 19, 13⟩] ⟨0, 12, 23, 15⟩ [] (by rw [htab]; rfl) (fun z hz => by simp only [List.mem_cons, List.not_mem_nil, or_false] at hz; rcases hz with rfl | rfl; exact Or.inr ⟨by decide, "java/lang/IndexOutOfBoundsException", hts _ q471, hE.n 3 rfl⟩; exact Or.inr ⟨by decide, "java/lang/IllegalArgumentException", hts _ q442, hE.n 2 rfl⟩) (by decide) (by decide) (hts _ q443) (va_Nw.use rfl (hE.w 17 rfl)) hce hcv hcl ?_
            refine lv_astore (lv' := [(5, .ref q9), (0, .ref ob), (1, .int p0), (2, .int p1), (3, .int p2), (4, .ref qo)]) hx hb dL_addDitch_23 hl (by decide) rfl (fun ls hl => ?_)
            refine lv_iconst (v := 3) hx hb dL_addDitch_25 (by decide) ?_
            refine W.wide (k := 1) (n := 6) (Nat.le_of_ble_eq_true rfl) (Nat.le_of_ble_eq_true rfl) ?_
            subst hQ
            exact xni ⟨(τ, wo), fun z => absurd z (by rw [if_neg hf0, if_neg hf1, if_neg h0, if_neg hr1, if_pos hk9]; decide)⟩ hx hb hr hlocks hK hP hD hS dL_addDitch_26 (by show (oC ob h h2) ++ ((mC cI cZ h a σ) ++ ((mC cI cZ h2 a2 τ) ++ (lC cL qo wo))) = (oC ob h h2) ++ ((mC cI cZ h a (if hasF 0 σ p0 = 0 then σ else if hasF 0 σ p1 = 0 then σ else (if p0 = p1 then σ else if inR p2 1 9 = 0 then σ else if k = 16 then σ else putD k p0 p1 p2 0 σ))) ++ ((mC cI cZ h2 a2 τ) ++ (lC cL qo wo))); rw [if_neg hf0, if_neg hf1, if_neg h0, if_neg hr1, if_pos hk9]) (by rw [if_neg hf0, if_neg hf1, if_neg h0, if_neg hr1, if_pos hk9])
          · refine MX.callV (C := RX1) (T := TX1) (N := 2) (As := [.int p0, .int p1, .int p2]) (rest := [.int 0, .ref qo]) (wB := (fun ρ => (oC ob h h2) ++ ((mC cI cZ h a (putD k p0 p1 p2 0 σ)) ++ ((mC cI cZ h2 a2 ρ) ++ (lC cL qo wo))))) (c_X1_addDitch_d l D cI cZ cL ob h a h2 a2 σ τ hst p0 p1 p2 hf01 hf11 h0 hr1 hk9) ⟨hx, hb, hml, hown, hts⟩ q472 b_X1_addDitch (n := 3) (by decide +kernel) ⟨Nat.le_of_ble_eq_true rfl, Nat.le_of_ble_eq_true rfl⟩ hK hP hD hS hA hE (spX _ _ _ _) (fun _ => spX _ _ _ _) (ci := 1) rfl (q0 := 0) rfl rfl hl.1 rfl (Nat.le_of_ble_eq_true rfl) dL_addDitch_7 ⟨Nat.le_of_ble_eq_true rfl, Nat.le_of_ble_eq_true rfl⟩ (fun ρ_1 H locs hP hD hS => ?_)
            have hP : va_P D vwCl ((oC ob h h2) ++ ((mC cI cZ h a (putD k p0 p1 p2 0 σ)) ++ ((mC cI cZ h2 a2 ρ_1) ++ (lC cL qo wo)))) H := hP
            have hD : va_D A ((oC ob h h2) ++ ((mC cI cZ h a (putD k p0 p1 p2 0 σ)) ++ ((mC cI cZ h2 a2 ρ_1) ++ (lC cL qo wo)))) := hD
            refine lv_i2l hx hb dL_addDitch_10 rfl ?_
            refine va_last hx hb hK hP hD hS 25 2 rfl rfl (vp_in_nI (n := 0) (by decide) (by decide)) dL_addDitch_11 (fun H locs hP hD hS => ?_)
            have hP : va_P D vwCl ((oC ob h h2) ++ ((mC cI cZ h a (putD k p0 p1 p2 0 σ)) ++ ((mC cI cZ h2 a2 ρ_1) ++ (lC cL qo (vp_updL wo 0 ((nI k).toInt64)))))) H := hP
            have hD : va_D A ((oC ob h h2) ++ ((mC cI cZ h a (putD k p0 p1 p2 0 σ)) ++ ((mC cI cZ h2 a2 ρ_1) ++ (lC cL qo (vp_updL wo 0 ((nI k).toInt64)))))) := hD
            refine lv_goto (tgt := 27) hx hb dL_addDitch_12 (by decide) ?_
            refine lv_iconst (v := 0) hx hb dL_addDitch_27 (by decide) ?_
            refine W.wide (k := 1) (n := 6) (Nat.le_of_ble_eq_true rfl) (Nat.le_of_ble_eq_true rfl) ?_
            subst hQ
            exact xni ⟨(ρ_1, vp_updL wo 0 ((nI k).toInt64)), fun _ => by show _ = (if hasF 0 σ p0 = 0 then 0 else if hasF 0 σ p1 = 0 then 0 else (if p0 = p1 then 0 else if inR p2 1 9 = 0 then 0 else if k = 16 then 0 else nI k) : Int32).toInt64; rw [if_neg hf0, if_neg hf1, if_neg h0, if_neg hr1, if_neg hk9]; rfl⟩ hx hb hr hlocks hK hP hD hS dL_addDitch_28 (by show (oC ob h h2) ++ ((mC cI cZ h a (putD k p0 p1 p2 0 σ)) ++ ((mC cI cZ h2 a2 ρ_1) ++ (lC cL qo (vp_updL wo 0 ((nI k).toInt64))))) = (oC ob h h2) ++ ((mC cI cZ h a (if hasF 0 σ p0 = 0 then σ else if hasF 0 σ p1 = 0 then σ else (if p0 = p1 then σ else if inR p2 1 9 = 0 then σ else if k = 16 then σ else putD k p0 p1 p2 0 σ))) ++ ((mC cI cZ h2 a2 ρ_1) ++ (lC cL qo (vp_updL wo 0 ((nI k).toInt64))))); rw [if_neg hf0, if_neg hf1, if_neg h0, if_neg hr1, if_neg hk9]) (by rw [if_neg hf0, if_neg hf1, if_neg h0, if_neg hr1, if_neg hk9])

abbrev rmL_addPump : Room := { frames := 9, cells := 1, slots := 6, locals := 170 }
theorem b_L_addPump : Cond.static yL_addPump ∈ LW ∧ Cond.initialized yL_addPump.cls ∈ LW ∧ Cond.codeWith yL_addPump cL_addPump 6 (some .int) [(0, 12, 15, 21), (0, 12, 19, 13), (0, 12, 23, 15)] ∈ LW := ⟨q487, q37, q488⟩
set_option maxHeartbeats 4000000 in
set_option maxRecDepth 100000 in
theorem c_L_addPump (l : Launch) (hl9 : l.stackTraces = false) (D : va_G) (cI cZ cL : ClassId) {n k : Nat} (ob h : Nat) (a : Nat → Nat) (h2 : Nat) (a2 : Nat → Nat) (σ τ : Sg) (hst : Shp n k σ) (p0 : Int32) (p1 : Int32) (p2 : Int32) (qo : Nat) (wo : Nat → Int64) : MH (ι := {g9 : Sg × (Nat → Int64) // (if hasF 0 σ p0 = 0 then 1 else if p1 = -1 then (if p0 = p1 then 2 else if inR p2 1 9 = 0 then 2 else if k = 16 then 3 else 0) else if hasF 0 σ p1 = 0 then 1 else (if p0 = p1 then 2 else if inR p2 1 9 = 0 then 2 else if k = 16 then 3 else 0) : Int32) = 0 → g9.2 0 = (if hasF 0 σ p0 = 0 then 0 else if p1 = -1 then (if p0 = p1 then 0 else if inR p2 1 9 = 0 then 0 else if k = 16 then 0 else nI k) else if hasF 0 σ p1 = 0 then 0 else (if p0 = p1 then 0 else if inR p2 1 9 = 0 then 0 else if k = 16 then 0 else nI k) : Int32).toInt64}) l yL_addPump cL_addPump 6 (some .int) [(0, 12, 15, 21), (0, 12, 19, 13), (0, 12, 23, 15)] rmL_addPump D (tZ cI cZ cL) [.ref ob, .int p0, .int p1, .int p2, .ref qo] ((oC ob h h2) ++ ((mC cI cZ h a σ) ++ ((mC cI cZ h2 a2 τ) ++ (lC cL qo wo)))) (fun g9 => (oC ob h h2) ++ ((mC cI cZ h a (if hasF 0 σ p0 = 0 then σ else if p1 = -1 then (if p0 = p1 then σ else if inR p2 1 9 = 0 then σ else if k = 16 then σ else putD k p0 p1 p2 1 σ) else if hasF 0 σ p1 = 0 then σ else (if p0 = p1 then σ else if inR p2 1 9 = 0 then σ else if k = 16 then σ else putD k p0 p1 p2 1 σ))) ++ ((mC cI cZ h2 a2 g9.1.1) ++ (lC cL qo g9.1.2)))) (some (.int (if hasF 0 σ p0 = 0 then 1 else if p1 = -1 then (if p0 = p1 then 2 else if inR p2 1 9 = 0 then 2 else if k = 16 then 3 else 0) else if hasF 0 σ p1 = 0 then 1 else (if p0 = p1 then 2 else if inR p2 1 9 = 0 then 2 else if k = 16 then 3 else 0)))) := by
  refine MH.of (by decide) (Nat.le_of_ble_eq_true rfl) ?_
  intro p e s m args below meth c A ls Q hx hb hml hr hts hown hlocks hA hP hD hK hS hl hQ hE htab
  have hown : s.vm.findClass RL = some m.cls := hown
  have hn10 := hst.1
  have hk16 := hst.2.1
  have hl : lv_has ls 6 [(0, .ref ob), (1, .int p0), (2, .int p1), (3, .int p2), (4, .ref qo)] := hl
  refine lv_aload hx hb dL_addPump_0 (lv_at hl 4 rfl) ?_
  refine lv_iconst (v := 0) hx hb dL_addPump_2 (by decide) ?_
  refine lv_aload_n hx hb dL_addPump_3 rfl (lv_at hl 0 rfl) ?_
  refine lv_iload_n hx hb dL_addPump_4 rfl (lv_at hl 1 rfl) ?_
  refine lv_iload_n hx hb dL_addPump_5 rfl (lv_at hl 2 rfl) ?_
  refine lv_iload_n hx hb dL_addPump_6 rfl (lv_at hl 3 rfl) ?_
  by_cases hf0 : hasF 0 σ p0 = 0
  · refine MT.callV (C := RX1) (T := TX1) (N := 2) (As := [.int p0, .int p1, .int p2]) (rest := [.int 0, .ref qo]) (c_X1_addPump_n l hl9 D cI cZ cL ob h a h2 a2 σ τ hst p0 p1 p2 hf0) ⟨hx, hb, hml, hown, hts⟩ q489 b_X1_addPump (n := 3) (by decide +kernel) ⟨Nat.le_of_ble_eq_true rfl, Nat.le_of_ble_eq_true rfl⟩ hK hP hD hS hA hE (spX _ _ _ _) (ci := 1) rfl (q0 := 0) rfl rfl hl.1 rfl (Nat.le_of_ble_eq_true rfl) dL_addPump_7 ⟨Nat.le_of_ble_eq_true rfl, Nat.le_of_ble_eq_true rfl⟩ (fun ce q9 H locs hP hD hS hce hcv hcl => ?_)
    refine vx_catch (own := RL) (name := "java/lang/IndexOutOfBoundsException") hown [] ⟨0, 12, 15, 21⟩ [⟨0, 12, 19, 13⟩, ⟨0, 12, 23, 15⟩] (by rw [htab]; rfl) (by simp) (by decide) (by decide) (hts _ q471) (va_Nw.use rfl (hE.w 18 rfl)) hce hcv hcl ?_
    refine lv_astore (lv' := [(5, .ref q9), (0, .ref ob), (1, .int p0), (2, .int p1), (3, .int p2), (4, .ref qo)]) hx hb dL_addPump_15 hl (by decide) rfl (fun ls hl => ?_)
    refine lv_iconst (v := 1) hx hb dL_addPump_17 (by decide) ?_
    refine W.wide (k := 1) (n := 6) (Nat.le_of_ble_eq_true rfl) (Nat.le_of_ble_eq_true rfl) ?_
    subst hQ
    exact xni ⟨(τ, wo), fun z => absurd z (by rw [if_pos hf0]; decide)⟩ hx hb hr hlocks hK hP hD hS dL_addPump_18 (by show (oC ob h h2) ++ ((mC cI cZ h a σ) ++ ((mC cI cZ h2 a2 τ) ++ (lC cL qo wo))) = (oC ob h h2) ++ ((mC cI cZ h a (if hasF 0 σ p0 = 0 then σ else if p1 = -1 then (if p0 = p1 then σ else if inR p2 1 9 = 0 then σ else if k = 16 then σ else putD k p0 p1 p2 1 σ) else if hasF 0 σ p1 = 0 then σ else (if p0 = p1 then σ else if inR p2 1 9 = 0 then σ else if k = 16 then σ else putD k p0 p1 p2 1 σ))) ++ ((mC cI cZ h2 a2 τ) ++ (lC cL qo wo))); rw [if_pos hf0]) (by rw [if_pos hf0])
  · have hf01 := hasF_1of hf0
    by_cases hm : p1 = -1
    · by_cases h0z : p0 = p1
      · refine MT.callV (C := RX1) (T := TX1) (N := 2) (As := [.int p0, .int p1, .int p2]) (rest := [.int 0, .ref qo]) (c_X1_addPump_sa l hl9 D cI cZ cL ob h a h2 a2 σ τ hst p0 p1 p2 hf01 hm h0z) ⟨hx, hb, hml, hown, hts⟩ q489 b_X1_addPump (n := 3) (by decide +kernel) ⟨Nat.le_of_ble_eq_true rfl, Nat.le_of_ble_eq_true rfl⟩ hK hP hD hS hA hE (spX _ _ _ _) (ci := 1) rfl (q0 := 0) rfl rfl hl.1 rfl (Nat.le_of_ble_eq_true rfl) dL_addPump_7 ⟨Nat.le_of_ble_eq_true rfl, Nat.le_of_ble_eq_true rfl⟩ (fun ce q9 H locs hP hD hS hce hcv hcl => ?_)
        refine vx_catch (own := RL) (name := "java/lang/IllegalArgumentException") hown [⟨0, 12, 15, 21⟩] ⟨0, 12, 19, 13⟩ [⟨0, 12, 23, 15⟩] (by rw [htab]; rfl) (fun z hz => by simp only [List.mem_cons, List.not_mem_nil, or_false] at hz; subst hz; exact Or.inr ⟨by decide, "java/lang/IndexOutOfBoundsException", hts _ q471, hE.n 1 rfl⟩) (by decide) (by decide) (hts _ q442) (va_Nw.use rfl (hE.w 16 rfl)) hce hcv hcl ?_
        refine lv_astore (lv' := [(5, .ref q9), (0, .ref ob), (1, .int p0), (2, .int p1), (3, .int p2), (4, .ref qo)]) hx hb dL_addPump_19 hl (by decide) rfl (fun ls hl => ?_)
        refine lv_iconst (v := 2) hx hb dL_addPump_21 (by decide) ?_
        refine W.wide (k := 1) (n := 6) (Nat.le_of_ble_eq_true rfl) (Nat.le_of_ble_eq_true rfl) ?_
        subst hQ
        exact xni ⟨(τ, wo), fun z => absurd z (by rw [if_neg hf0, if_pos hm, if_pos h0z]; decide)⟩ hx hb hr hlocks hK hP hD hS dL_addPump_22 (by show (oC ob h h2) ++ ((mC cI cZ h a σ) ++ ((mC cI cZ h2 a2 τ) ++ (lC cL qo wo))) = (oC ob h h2) ++ ((mC cI cZ h a (if hasF 0 σ p0 = 0 then σ else if p1 = -1 then (if p0 = p1 then σ else if inR p2 1 9 = 0 then σ else if k = 16 then σ else putD k p0 p1 p2 1 σ) else if hasF 0 σ p1 = 0 then σ else (if p0 = p1 then σ else if inR p2 1 9 = 0 then σ else if k = 16 then σ else putD k p0 p1 p2 1 σ))) ++ ((mC cI cZ h2 a2 τ) ++ (lC cL qo wo))); rw [if_neg hf0, if_pos hm, if_pos h0z]) (by rw [if_neg hf0, if_pos hm, if_pos h0z])
      · by_cases hr1z : inR p2 1 9 = 0
        · refine MT.callV (C := RX1) (T := TX1) (N := 2) (As := [.int p0, .int p1, .int p2]) (rest := [.int 0, .ref qo]) (c_X1_addPump_sb l hl9 D cI cZ cL ob h a h2 a2 σ τ hst p0 p1 p2 hf01 hm h0z hr1z) ⟨hx, hb, hml, hown, hts⟩ q489 b_X1_addPump (n := 3) (by decide +kernel) ⟨Nat.le_of_ble_eq_true rfl, Nat.le_of_ble_eq_true rfl⟩ hK hP hD hS hA hE (spX _ _ _ _) (ci := 1) rfl (q0 := 0) rfl rfl hl.1 rfl (Nat.le_of_ble_eq_true rfl) dL_addPump_7 ⟨Nat.le_of_ble_eq_true rfl, Nat.le_of_ble_eq_true rfl⟩ (fun ce q9 H locs hP hD hS hce hcv hcl => ?_)
          refine vx_catch (own := RL) (name := "java/lang/IllegalArgumentException") hown [⟨0, 12, 15, 21⟩] ⟨0, 12, 19, 13⟩ [⟨0, 12, 23, 15⟩] (by rw [htab]; rfl) (fun z hz => by simp only [List.mem_cons, List.not_mem_nil, or_false] at hz; subst hz; exact Or.inr ⟨by decide, "java/lang/IndexOutOfBoundsException", hts _ q471, hE.n 1 rfl⟩) (by decide) (by decide) (hts _ q442) (va_Nw.use rfl (hE.w 16 rfl)) hce hcv hcl ?_
          refine lv_astore (lv' := [(5, .ref q9), (0, .ref ob), (1, .int p0), (2, .int p1), (3, .int p2), (4, .ref qo)]) hx hb dL_addPump_19 hl (by decide) rfl (fun ls hl => ?_)
          refine lv_iconst (v := 2) hx hb dL_addPump_21 (by decide) ?_
          refine W.wide (k := 1) (n := 6) (Nat.le_of_ble_eq_true rfl) (Nat.le_of_ble_eq_true rfl) ?_
          subst hQ
          exact xni ⟨(τ, wo), fun z => absurd z (by rw [if_neg hf0, if_pos hm, if_neg h0z, if_pos hr1z]; decide)⟩ hx hb hr hlocks hK hP hD hS dL_addPump_22 (by show (oC ob h h2) ++ ((mC cI cZ h a σ) ++ ((mC cI cZ h2 a2 τ) ++ (lC cL qo wo))) = (oC ob h h2) ++ ((mC cI cZ h a (if hasF 0 σ p0 = 0 then σ else if p1 = -1 then (if p0 = p1 then σ else if inR p2 1 9 = 0 then σ else if k = 16 then σ else putD k p0 p1 p2 1 σ) else if hasF 0 σ p1 = 0 then σ else (if p0 = p1 then σ else if inR p2 1 9 = 0 then σ else if k = 16 then σ else putD k p0 p1 p2 1 σ))) ++ ((mC cI cZ h2 a2 τ) ++ (lC cL qo wo))); rw [if_neg hf0, if_pos hm, if_neg h0z, if_pos hr1z]) (by rw [if_neg hf0, if_pos hm, if_neg h0z, if_pos hr1z])
        · by_cases hk9z : k = 16
          · refine MT.callV (C := RX1) (T := TX1) (N := 2) (As := [.int p0, .int p1, .int p2]) (rest := [.int 0, .ref qo]) (c_X1_addPump_sc l hl9 D cI cZ cL ob h a h2 a2 σ τ hst p0 p1 p2 hf01 hm h0z hr1z hk9z) ⟨hx, hb, hml, hown, hts⟩ q489 b_X1_addPump (n := 3) (by decide +kernel) ⟨Nat.le_of_ble_eq_true rfl, Nat.le_of_ble_eq_true rfl⟩ hK hP hD hS hA hE (spX _ _ _ _) (ci := 1) rfl (q0 := 0) rfl rfl hl.1 rfl (Nat.le_of_ble_eq_true rfl) dL_addPump_7 ⟨Nat.le_of_ble_eq_true rfl, Nat.le_of_ble_eq_true rfl⟩ (fun ce q9 H locs hP hD hS hce hcv hcl => ?_)
            refine vx_catch (own := RL) (name := "java/lang/IllegalStateException") hown [⟨0, 12, 15, 21⟩, ⟨0, 12, 19, 13⟩] ⟨0, 12, 23, 15⟩ [] (by rw [htab]; rfl) (fun z hz => by simp only [List.mem_cons, List.not_mem_nil, or_false] at hz; rcases hz with rfl | rfl; exact Or.inr ⟨by decide, "java/lang/IndexOutOfBoundsException", hts _ q471, hE.n 3 rfl⟩; exact Or.inr ⟨by decide, "java/lang/IllegalArgumentException", hts _ q442, hE.n 2 rfl⟩) (by decide) (by decide) (hts _ q443) (va_Nw.use rfl (hE.w 17 rfl)) hce hcv hcl ?_
            refine lv_astore (lv' := [(5, .ref q9), (0, .ref ob), (1, .int p0), (2, .int p1), (3, .int p2), (4, .ref qo)]) hx hb dL_addPump_23 hl (by decide) rfl (fun ls hl => ?_)
            refine lv_iconst (v := 3) hx hb dL_addPump_25 (by decide) ?_
            refine W.wide (k := 1) (n := 6) (Nat.le_of_ble_eq_true rfl) (Nat.le_of_ble_eq_true rfl) ?_
            subst hQ
            exact xni ⟨(τ, wo), fun z => absurd z (by rw [if_neg hf0, if_pos hm, if_neg h0z, if_neg hr1z, if_pos hk9z]; decide)⟩ hx hb hr hlocks hK hP hD hS dL_addPump_26 (by show (oC ob h h2) ++ ((mC cI cZ h a σ) ++ ((mC cI cZ h2 a2 τ) ++ (lC cL qo wo))) = (oC ob h h2) ++ ((mC cI cZ h a (if hasF 0 σ p0 = 0 then σ else if p1 = -1 then (if p0 = p1 then σ else if inR p2 1 9 = 0 then σ else if k = 16 then σ else putD k p0 p1 p2 1 σ) else if hasF 0 σ p1 = 0 then σ else (if p0 = p1 then σ else if inR p2 1 9 = 0 then σ else if k = 16 then σ else putD k p0 p1 p2 1 σ))) ++ ((mC cI cZ h2 a2 τ) ++ (lC cL qo wo))); rw [if_neg hf0, if_pos hm, if_neg h0z, if_neg hr1z, if_pos hk9z]) (by rw [if_neg hf0, if_pos hm, if_neg h0z, if_neg hr1z, if_pos hk9z])
          · refine MX.callV (C := RX1) (T := TX1) (N := 2) (As := [.int p0, .int p1, .int p2]) (rest := [.int 0, .ref qo]) (wB := (fun ρ => (oC ob h h2) ++ ((mC cI cZ h a (putD k p0 p1 p2 1 σ)) ++ ((mC cI cZ h2 a2 ρ) ++ (lC cL qo wo))))) (c_X1_addPump_sd l D cI cZ cL ob h a h2 a2 σ τ hst p0 p1 p2 hf01 hm h0z hr1z hk9z) ⟨hx, hb, hml, hown, hts⟩ q489 b_X1_addPump (n := 3) (by decide +kernel) ⟨Nat.le_of_ble_eq_true rfl, Nat.le_of_ble_eq_true rfl⟩ hK hP hD hS hA hE (spX _ _ _ _) (fun _ => spX _ _ _ _) (ci := 1) rfl (q0 := 0) rfl rfl hl.1 rfl (Nat.le_of_ble_eq_true rfl) dL_addPump_7 ⟨Nat.le_of_ble_eq_true rfl, Nat.le_of_ble_eq_true rfl⟩ (fun ρ_1 H locs hP hD hS => ?_)
            have hP : va_P D vwCl ((oC ob h h2) ++ ((mC cI cZ h a (putD k p0 p1 p2 1 σ)) ++ ((mC cI cZ h2 a2 ρ_1) ++ (lC cL qo wo)))) H := hP
            have hD : va_D A ((oC ob h h2) ++ ((mC cI cZ h a (putD k p0 p1 p2 1 σ)) ++ ((mC cI cZ h2 a2 ρ_1) ++ (lC cL qo wo)))) := hD
            refine lv_i2l hx hb dL_addPump_10 rfl ?_
            refine va_last hx hb hK hP hD hS 25 2 rfl rfl (vp_in_nI (n := 0) (by decide) (by decide)) dL_addPump_11 (fun H locs hP hD hS => ?_)
            have hP : va_P D vwCl ((oC ob h h2) ++ ((mC cI cZ h a (putD k p0 p1 p2 1 σ)) ++ ((mC cI cZ h2 a2 ρ_1) ++ (lC cL qo (vp_updL wo 0 ((nI k).toInt64)))))) H := hP
            have hD : va_D A ((oC ob h h2) ++ ((mC cI cZ h a (putD k p0 p1 p2 1 σ)) ++ ((mC cI cZ h2 a2 ρ_1) ++ (lC cL qo (vp_updL wo 0 ((nI k).toInt64)))))) := hD
            refine lv_goto (tgt := 27) hx hb dL_addPump_12 (by decide) ?_
            refine lv_iconst (v := 0) hx hb dL_addPump_27 (by decide) ?_
            refine W.wide (k := 1) (n := 6) (Nat.le_of_ble_eq_true rfl) (Nat.le_of_ble_eq_true rfl) ?_
            subst hQ
            exact xni ⟨(ρ_1, vp_updL wo 0 ((nI k).toInt64)), fun _ => by show _ = (if hasF 0 σ p0 = 0 then 0 else if p1 = -1 then (if p0 = p1 then 0 else if inR p2 1 9 = 0 then 0 else if k = 16 then 0 else nI k) else if hasF 0 σ p1 = 0 then 0 else (if p0 = p1 then 0 else if inR p2 1 9 = 0 then 0 else if k = 16 then 0 else nI k) : Int32).toInt64; rw [if_neg hf0, if_pos hm, if_neg h0z, if_neg hr1z, if_neg hk9z]; rfl⟩ hx hb hr hlocks hK hP hD hS dL_addPump_28 (by show (oC ob h h2) ++ ((mC cI cZ h a (putD k p0 p1 p2 1 σ)) ++ ((mC cI cZ h2 a2 ρ_1) ++ (lC cL qo (vp_updL wo 0 ((nI k).toInt64))))) = (oC ob h h2) ++ ((mC cI cZ h a (if hasF 0 σ p0 = 0 then σ else if p1 = -1 then (if p0 = p1 then σ else if inR p2 1 9 = 0 then σ else if k = 16 then σ else putD k p0 p1 p2 1 σ) else if hasF 0 σ p1 = 0 then σ else (if p0 = p1 then σ else if inR p2 1 9 = 0 then σ else if k = 16 then σ else putD k p0 p1 p2 1 σ))) ++ ((mC cI cZ h2 a2 ρ_1) ++ (lC cL qo (vp_updL wo 0 ((nI k).toInt64))))); rw [if_neg hf0, if_pos hm, if_neg h0z, if_neg hr1z, if_neg hk9z]) (by rw [if_neg hf0, if_pos hm, if_neg h0z, if_neg hr1z, if_neg hk9z])
    · by_cases hf1 : hasF 0 σ p1 = 0
      · refine MT.callV (C := RX1) (T := TX1) (N := 2) (As := [.int p0, .int p1, .int p2]) (rest := [.int 0, .ref qo]) (c_X1_addPump_m l hl9 D cI cZ cL ob h a h2 a2 σ τ hst p0 p1 p2 hf01 hm hf1) ⟨hx, hb, hml, hown, hts⟩ q489 b_X1_addPump (n := 3) (by decide +kernel) ⟨Nat.le_of_ble_eq_true rfl, Nat.le_of_ble_eq_true rfl⟩ hK hP hD hS hA hE (spX _ _ _ _) (ci := 1) rfl (q0 := 0) rfl rfl hl.1 rfl (Nat.le_of_ble_eq_true rfl) dL_addPump_7 ⟨Nat.le_of_ble_eq_true rfl, Nat.le_of_ble_eq_true rfl⟩ (fun ce q9 H locs hP hD hS hce hcv hcl => ?_)
        refine vx_catch (own := RL) (name := "java/lang/IndexOutOfBoundsException") hown [] ⟨0, 12, 15, 21⟩ [⟨0, 12, 19, 13⟩, ⟨0, 12, 23, 15⟩] (by rw [htab]; rfl) (by simp) (by decide) (by decide) (hts _ q471) (va_Nw.use rfl (hE.w 18 rfl)) hce hcv hcl ?_
        refine lv_astore (lv' := [(5, .ref q9), (0, .ref ob), (1, .int p0), (2, .int p1), (3, .int p2), (4, .ref qo)]) hx hb dL_addPump_15 hl (by decide) rfl (fun ls hl => ?_)
        refine lv_iconst (v := 1) hx hb dL_addPump_17 (by decide) ?_
        refine W.wide (k := 1) (n := 6) (Nat.le_of_ble_eq_true rfl) (Nat.le_of_ble_eq_true rfl) ?_
        subst hQ
        exact xni ⟨(τ, wo), fun z => absurd z (by rw [if_neg hf0, if_neg hm, if_pos hf1]; decide)⟩ hx hb hr hlocks hK hP hD hS dL_addPump_18 (by show (oC ob h h2) ++ ((mC cI cZ h a σ) ++ ((mC cI cZ h2 a2 τ) ++ (lC cL qo wo))) = (oC ob h h2) ++ ((mC cI cZ h a (if hasF 0 σ p0 = 0 then σ else if p1 = -1 then (if p0 = p1 then σ else if inR p2 1 9 = 0 then σ else if k = 16 then σ else putD k p0 p1 p2 1 σ) else if hasF 0 σ p1 = 0 then σ else (if p0 = p1 then σ else if inR p2 1 9 = 0 then σ else if k = 16 then σ else putD k p0 p1 p2 1 σ))) ++ ((mC cI cZ h2 a2 τ) ++ (lC cL qo wo))); rw [if_neg hf0, if_neg hm, if_pos hf1]) (by rw [if_neg hf0, if_neg hm, if_pos hf1])
      · have hf11 := hasF_1of hf1
        by_cases h0 : p0 = p1
        · refine MT.callV (C := RX1) (T := TX1) (N := 2) (As := [.int p0, .int p1, .int p2]) (rest := [.int 0, .ref qo]) (c_X1_addPump_a l hl9 D cI cZ cL ob h a h2 a2 σ τ hst p0 p1 p2 hf01 hm hf11 h0) ⟨hx, hb, hml, hown, hts⟩ q489 b_X1_addPump (n := 3) (by decide +kernel) ⟨Nat.le_of_ble_eq_true rfl, Nat.le_of_ble_eq_true rfl⟩ hK hP hD hS hA hE (spX _ _ _ _) (ci := 1) rfl (q0 := 0) rfl rfl hl.1 rfl (Nat.le_of_ble_eq_true rfl) dL_addPump_7 ⟨Nat.le_of_ble_eq_true rfl, Nat.le_of_ble_eq_true rfl⟩ (fun ce q9 H locs hP hD hS hce hcv hcl => ?_)
          refine vx_catch (own := RL) (name := "java/lang/IllegalArgumentException") hown [⟨0, 12, 15, 21⟩] ⟨0, 12, 19, 13⟩ [⟨0, 12, 23, 15⟩] (by rw [htab]; rfl) (fun z hz => by simp only [List.mem_cons, List.not_mem_nil, or_false] at hz; subst hz; exact Or.inr ⟨by decide, "java/lang/IndexOutOfBoundsException", hts _ q471, hE.n 1 rfl⟩) (by decide) (by decide) (hts _ q442) (va_Nw.use rfl (hE.w 16 rfl)) hce hcv hcl ?_
          refine lv_astore (lv' := [(5, .ref q9), (0, .ref ob), (1, .int p0), (2, .int p1), (3, .int p2), (4, .ref qo)]) hx hb dL_addPump_19 hl (by decide) rfl (fun ls hl => ?_)
          refine lv_iconst (v := 2) hx hb dL_addPump_21 (by decide) ?_
          refine W.wide (k := 1) (n := 6) (Nat.le_of_ble_eq_true rfl) (Nat.le_of_ble_eq_true rfl) ?_
          subst hQ
          exact xni ⟨(τ, wo), fun z => absurd z (by rw [if_neg hf0, if_neg hm, if_neg hf1, if_pos h0]; decide)⟩ hx hb hr hlocks hK hP hD hS dL_addPump_22 (by show (oC ob h h2) ++ ((mC cI cZ h a σ) ++ ((mC cI cZ h2 a2 τ) ++ (lC cL qo wo))) = (oC ob h h2) ++ ((mC cI cZ h a (if hasF 0 σ p0 = 0 then σ else if p1 = -1 then (if p0 = p1 then σ else if inR p2 1 9 = 0 then σ else if k = 16 then σ else putD k p0 p1 p2 1 σ) else if hasF 0 σ p1 = 0 then σ else (if p0 = p1 then σ else if inR p2 1 9 = 0 then σ else if k = 16 then σ else putD k p0 p1 p2 1 σ))) ++ ((mC cI cZ h2 a2 τ) ++ (lC cL qo wo))); rw [if_neg hf0, if_neg hm, if_neg hf1, if_pos h0]) (by rw [if_neg hf0, if_neg hm, if_neg hf1, if_pos h0])
        · by_cases hr1 : inR p2 1 9 = 0
          · refine MT.callV (C := RX1) (T := TX1) (N := 2) (As := [.int p0, .int p1, .int p2]) (rest := [.int 0, .ref qo]) (c_X1_addPump_b l hl9 D cI cZ cL ob h a h2 a2 σ τ hst p0 p1 p2 hf01 hm hf11 h0 hr1) ⟨hx, hb, hml, hown, hts⟩ q489 b_X1_addPump (n := 3) (by decide +kernel) ⟨Nat.le_of_ble_eq_true rfl, Nat.le_of_ble_eq_true rfl⟩ hK hP hD hS hA hE (spX _ _ _ _) (ci := 1) rfl (q0 := 0) rfl rfl hl.1 rfl (Nat.le_of_ble_eq_true rfl) dL_addPump_7 ⟨Nat.le_of_ble_eq_true rfl, Nat.le_of_ble_eq_true rfl⟩ (fun ce q9 H locs hP hD hS hce hcv hcl => ?_)
            refine vx_catch (own := RL) (name := "java/lang/IllegalArgumentException") hown [⟨0, 12, 15, 21⟩] ⟨0, 12, 19, 13⟩ [⟨0, 12, 23, 15⟩] (by rw [htab]; rfl) (fun z hz => by simp only [List.mem_cons, List.not_mem_nil, or_false] at hz; subst hz; exact Or.inr ⟨by decide, "java/lang/IndexOutOfBoundsException", hts _ q471, hE.n 1 rfl⟩) (by decide) (by decide) (hts _ q442) (va_Nw.use rfl (hE.w 16 rfl)) hce hcv hcl ?_
            refine lv_astore (lv' := [(5, .ref q9), (0, .ref ob), (1, .int p0), (2, .int p1), (3, .int p2), (4, .ref qo)]) hx hb dL_addPump_19 hl (by decide) rfl (fun ls hl => ?_)
            refine lv_iconst (v := 2) hx hb dL_addPump_21 (by decide) ?_
            refine W.wide (k := 1) (n := 6) (Nat.le_of_ble_eq_true rfl) (Nat.le_of_ble_eq_true rfl) ?_
            subst hQ
            exact xni ⟨(τ, wo), fun z => absurd z (by rw [if_neg hf0, if_neg hm, if_neg hf1, if_neg h0, if_pos hr1]; decide)⟩ hx hb hr hlocks hK hP hD hS dL_addPump_22 (by show (oC ob h h2) ++ ((mC cI cZ h a σ) ++ ((mC cI cZ h2 a2 τ) ++ (lC cL qo wo))) = (oC ob h h2) ++ ((mC cI cZ h a (if hasF 0 σ p0 = 0 then σ else if p1 = -1 then (if p0 = p1 then σ else if inR p2 1 9 = 0 then σ else if k = 16 then σ else putD k p0 p1 p2 1 σ) else if hasF 0 σ p1 = 0 then σ else (if p0 = p1 then σ else if inR p2 1 9 = 0 then σ else if k = 16 then σ else putD k p0 p1 p2 1 σ))) ++ ((mC cI cZ h2 a2 τ) ++ (lC cL qo wo))); rw [if_neg hf0, if_neg hm, if_neg hf1, if_neg h0, if_pos hr1]) (by rw [if_neg hf0, if_neg hm, if_neg hf1, if_neg h0, if_pos hr1])
          · by_cases hk9 : k = 16
            · refine MT.callV (C := RX1) (T := TX1) (N := 2) (As := [.int p0, .int p1, .int p2]) (rest := [.int 0, .ref qo]) (c_X1_addPump_c l hl9 D cI cZ cL ob h a h2 a2 σ τ hst p0 p1 p2 hf01 hm hf11 h0 hr1 hk9) ⟨hx, hb, hml, hown, hts⟩ q489 b_X1_addPump (n := 3) (by decide +kernel) ⟨Nat.le_of_ble_eq_true rfl, Nat.le_of_ble_eq_true rfl⟩ hK hP hD hS hA hE (spX _ _ _ _) (ci := 1) rfl (q0 := 0) rfl rfl hl.1 rfl (Nat.le_of_ble_eq_true rfl) dL_addPump_7 ⟨Nat.le_of_ble_eq_true rfl, Nat.le_of_ble_eq_true rfl⟩ (fun ce q9 H locs hP hD hS hce hcv hcl => ?_)
              refine vx_catch (own := RL) (name := "java/lang/IllegalStateException") hown [⟨0, 12, 15, 21⟩, ⟨0, 12, 19, 13⟩] ⟨0, 12, 23, 15⟩ [] (by rw [htab]; rfl) (fun z hz => by simp only [List.mem_cons, List.not_mem_nil, or_false] at hz; rcases hz with rfl | rfl; exact Or.inr ⟨by decide, "java/lang/IndexOutOfBoundsException", hts _ q471, hE.n 3 rfl⟩; exact Or.inr ⟨by decide, "java/lang/IllegalArgumentException", hts _ q442, hE.n 2 rfl⟩) (by decide) (by decide) (hts _ q443) (va_Nw.use rfl (hE.w 17 rfl)) hce hcv hcl ?_
              refine lv_astore (lv' := [(5, .ref q9), (0, .ref ob), (1, .int p0), (2, .int p1), (3, .int p2), (4, .ref qo)]) hx hb dL_addPump_23 hl (by decide) rfl (fun ls hl => ?_)
              refine lv_iconst (v := 3) hx hb dL_addPump_25 (by decide) ?_
              refine W.wide (k := 1) (n := 6) (Nat.le_of_ble_eq_true rfl) (Nat.le_of_ble_eq_true rfl) ?_
              subst hQ
              exact xni ⟨(τ, wo), fun z => absurd z (by rw [if_neg hf0, if_neg hm, if_neg hf1, if_neg h0, if_neg hr1, if_pos hk9]; decide)⟩ hx hb hr hlocks hK hP hD hS dL_addPump_26 (by show (oC ob h h2) ++ ((mC cI cZ h a σ) ++ ((mC cI cZ h2 a2 τ) ++ (lC cL qo wo))) = (oC ob h h2) ++ ((mC cI cZ h a (if hasF 0 σ p0 = 0 then σ else if p1 = -1 then (if p0 = p1 then σ else if inR p2 1 9 = 0 then σ else if k = 16 then σ else putD k p0 p1 p2 1 σ) else if hasF 0 σ p1 = 0 then σ else (if p0 = p1 then σ else if inR p2 1 9 = 0 then σ else if k = 16 then σ else putD k p0 p1 p2 1 σ))) ++ ((mC cI cZ h2 a2 τ) ++ (lC cL qo wo))); rw [if_neg hf0, if_neg hm, if_neg hf1, if_neg h0, if_neg hr1, if_pos hk9]) (by rw [if_neg hf0, if_neg hm, if_neg hf1, if_neg h0, if_neg hr1, if_pos hk9])
            · refine MX.callV (C := RX1) (T := TX1) (N := 2) (As := [.int p0, .int p1, .int p2]) (rest := [.int 0, .ref qo]) (wB := (fun ρ => (oC ob h h2) ++ ((mC cI cZ h a (putD k p0 p1 p2 1 σ)) ++ ((mC cI cZ h2 a2 ρ) ++ (lC cL qo wo))))) (c_X1_addPump_d l D cI cZ cL ob h a h2 a2 σ τ hst p0 p1 p2 hf01 hm hf11 h0 hr1 hk9) ⟨hx, hb, hml, hown, hts⟩ q489 b_X1_addPump (n := 3) (by decide +kernel) ⟨Nat.le_of_ble_eq_true rfl, Nat.le_of_ble_eq_true rfl⟩ hK hP hD hS hA hE (spX _ _ _ _) (fun _ => spX _ _ _ _) (ci := 1) rfl (q0 := 0) rfl rfl hl.1 rfl (Nat.le_of_ble_eq_true rfl) dL_addPump_7 ⟨Nat.le_of_ble_eq_true rfl, Nat.le_of_ble_eq_true rfl⟩ (fun ρ_2 H locs hP hD hS => ?_)
              have hP : va_P D vwCl ((oC ob h h2) ++ ((mC cI cZ h a (putD k p0 p1 p2 1 σ)) ++ ((mC cI cZ h2 a2 ρ_2) ++ (lC cL qo wo)))) H := hP
              have hD : va_D A ((oC ob h h2) ++ ((mC cI cZ h a (putD k p0 p1 p2 1 σ)) ++ ((mC cI cZ h2 a2 ρ_2) ++ (lC cL qo wo)))) := hD
              refine lv_i2l hx hb dL_addPump_10 rfl ?_
              refine va_last hx hb hK hP hD hS 25 2 rfl rfl (vp_in_nI (n := 0) (by decide) (by decide)) dL_addPump_11 (fun H locs hP hD hS => ?_)
              have hP : va_P D vwCl ((oC ob h h2) ++ ((mC cI cZ h a (putD k p0 p1 p2 1 σ)) ++ ((mC cI cZ h2 a2 ρ_2) ++ (lC cL qo (vp_updL wo 0 ((nI k).toInt64)))))) H := hP
              have hD : va_D A ((oC ob h h2) ++ ((mC cI cZ h a (putD k p0 p1 p2 1 σ)) ++ ((mC cI cZ h2 a2 ρ_2) ++ (lC cL qo (vp_updL wo 0 ((nI k).toInt64)))))) := hD
              refine lv_goto (tgt := 27) hx hb dL_addPump_12 (by decide) ?_
              refine lv_iconst (v := 0) hx hb dL_addPump_27 (by decide) ?_
              refine W.wide (k := 1) (n := 6) (Nat.le_of_ble_eq_true rfl) (Nat.le_of_ble_eq_true rfl) ?_
              subst hQ
              exact xni ⟨(ρ_2, vp_updL wo 0 ((nI k).toInt64)), fun _ => by show _ = (if hasF 0 σ p0 = 0 then 0 else if p1 = -1 then (if p0 = p1 then 0 else if inR p2 1 9 = 0 then 0 else if k = 16 then 0 else nI k) else if hasF 0 σ p1 = 0 then 0 else (if p0 = p1 then 0 else if inR p2 1 9 = 0 then 0 else if k = 16 then 0 else nI k) : Int32).toInt64; rw [if_neg hf0, if_neg hm, if_neg hf1, if_neg h0, if_neg hr1, if_neg hk9]; rfl⟩ hx hb hr hlocks hK hP hD hS dL_addPump_28 (by show (oC ob h h2) ++ ((mC cI cZ h a (putD k p0 p1 p2 1 σ)) ++ ((mC cI cZ h2 a2 ρ_2) ++ (lC cL qo (vp_updL wo 0 ((nI k).toInt64))))) = (oC ob h h2) ++ ((mC cI cZ h a (if hasF 0 σ p0 = 0 then σ else if p1 = -1 then (if p0 = p1 then σ else if inR p2 1 9 = 0 then σ else if k = 16 then σ else putD k p0 p1 p2 1 σ) else if hasF 0 σ p1 = 0 then σ else (if p0 = p1 then σ else if inR p2 1 9 = 0 then σ else if k = 16 then σ else putD k p0 p1 p2 1 σ))) ++ ((mC cI cZ h2 a2 ρ_2) ++ (lC cL qo (vp_updL wo 0 ((nI k).toInt64))))); rw [if_neg hf0, if_neg hm, if_neg hf1, if_neg h0, if_neg hr1, if_neg hk9]) (by rw [if_neg hf0, if_neg hm, if_neg hf1, if_neg h0, if_neg hr1, if_neg hk9])

abbrev rmL_setRain : Room := { frames := 8, cells := 1, slots := 6, locals := 144 }
theorem b_L_setRain : Cond.static yL_setRain ∈ LW ∧ Cond.initialized yL_setRain.cls ∈ LW ∧ Cond.codeWith yL_setRain cL_setRain 4 (some .int) [(0, 9, 12, 13)] ∈ LW := ⟨q501, q37, q502⟩
set_option maxHeartbeats 4000000 in
set_option maxRecDepth 100000 in
theorem c_L_setRain (l : Launch) (hl9 : l.stackTraces = false) (D : va_G) (cI cZ cL : ClassId) {n k : Nat} (ob h : Nat) (a : Nat → Nat) (h2 : Nat) (a2 : Nat → Nat) (σ τ : Sg) (hst : Shp n k σ) (x : Int32) (qo : Nat) (wo : Nat → Int64) : MH (ι := {g9 : Sg × (Nat → Int64) // (if inR x 0 9 = 0 then 1 else 0 : Int32) = 0 → g9.2 0 = (if inR x 0 9 = 0 then 0 else σ 11 2 : Int32).toInt64}) l yL_setRain cL_setRain 4 (some .int) [(0, 9, 12, 13)] rmL_setRain D (tZ cI cZ cL) [.ref ob, .int x, .ref qo] ((oC ob h h2) ++ ((mC cI cZ h a σ) ++ ((mC cI cZ h2 a2 τ) ++ (lC cL qo wo)))) (fun g9 => (oC ob h h2) ++ ((mC cI cZ h a (if inR x 0 9 = 0 then σ else sc σ 2 x)) ++ ((mC cI cZ h2 a2 g9.1.1) ++ (lC cL qo g9.1.2)))) (some (.int (if inR x 0 9 = 0 then 1 else 0))) := by
  refine MH.of (by decide) (Nat.le_of_ble_eq_true rfl) ?_
  intro p e s m args below meth c A ls Q hx hb hml hr hts hown hlocks hA hP hD hK hS hl hQ hE htab
  have hown : s.vm.findClass RL = some m.cls := hown
  have hn10 := hst.1
  have hk16 := hst.2.1
  have hl : lv_has ls 4 [(0, .ref ob), (1, .int x), (2, .ref qo)] := hl
  refine lv_aload_n hx hb dL_setRain_0 rfl (lv_at hl 2 rfl) ?_
  refine lv_iconst (v := 0) hx hb dL_setRain_1 (by decide) ?_
  refine lv_aload_n hx hb dL_setRain_2 rfl (lv_at hl 0 rfl) ?_
  refine lv_iload_n hx hb dL_setRain_3 rfl (lv_at hl 1 rfl) ?_
  by_cases hr0 : inR x 0 9 = 0
  · refine MT.callV (C := RX1) (T := TX1) (N := 2) (As := [.int x]) (rest := [.int 0, .ref qo]) (c_X1_setRain_n l hl9 D cI cZ cL ob h a h2 a2 σ τ x hr0) ⟨hx, hb, hml, hown, hts⟩ q503 b_X1_setRain (n := 1) (by decide +kernel) ⟨Nat.le_of_ble_eq_true rfl, Nat.le_of_ble_eq_true rfl⟩ hK hP hD hS hA hE (spX _ _ _ _) (ci := 1) rfl (q0 := 0) rfl rfl hl.1 rfl (Nat.le_of_ble_eq_true rfl) dL_setRain_4 ⟨Nat.le_of_ble_eq_true rfl, Nat.le_of_ble_eq_true rfl⟩ (fun ce q9 H locs hP hD hS hce hcv hcl => ?_)
    refine vx_catch (own := RL) (name := "java/lang/IllegalArgumentException") hown [] ⟨0, 9, 12, 13⟩ [] (by rw [htab]; rfl) (by simp) (by decide) (by decide) (hts _ q442) (va_Nw.use rfl (hE.w 16 rfl)) hce hcv hcl ?_
    refine lv_astore_n (lv' := [(3, .ref q9), (0, .ref ob), (1, .int x), (2, .ref qo)]) hx hb dL_setRain_12 rfl hl (by decide) rfl (fun ls hl => ?_)
    refine lv_iconst (v := 1) hx hb dL_setRain_13 (by decide) ?_
    refine W.wide (k := 1) (n := 6) (Nat.le_of_ble_eq_true rfl) (Nat.le_of_ble_eq_true rfl) ?_
    subst hQ
    exact xni ⟨(τ, wo), fun z => absurd z (by rw [if_pos hr0]; decide)⟩ hx hb hr hlocks hK hP hD hS dL_setRain_14 (by show (oC ob h h2) ++ ((mC cI cZ h a σ) ++ ((mC cI cZ h2 a2 τ) ++ (lC cL qo wo))) = (oC ob h h2) ++ ((mC cI cZ h a (if inR x 0 9 = 0 then σ else sc σ 2 x)) ++ ((mC cI cZ h2 a2 τ) ++ (lC cL qo wo))); rw [if_pos hr0]) (by rw [if_pos hr0])
  · refine MX.callV (C := RX1) (T := TX1) (N := 2) (As := [.int x]) (rest := [.int 0, .ref qo]) (wB := (fun ρ => (oC ob h h2) ++ ((mC cI cZ h a (sc σ 2 x)) ++ ((mC cI cZ h2 a2 ρ) ++ (lC cL qo wo))))) (c_X1_setRain l D cI cZ cL ob h a h2 a2 σ τ x hr0) ⟨hx, hb, hml, hown, hts⟩ q503 b_X1_setRain (n := 1) (by decide +kernel) ⟨Nat.le_of_ble_eq_true rfl, Nat.le_of_ble_eq_true rfl⟩ hK hP hD hS hA hE (spX _ _ _ _) (fun _ => spX _ _ _ _) (ci := 1) rfl (q0 := 0) rfl rfl hl.1 rfl (Nat.le_of_ble_eq_true rfl) dL_setRain_4 ⟨Nat.le_of_ble_eq_true rfl, Nat.le_of_ble_eq_true rfl⟩ (fun ρ_1 H locs hP hD hS => ?_)
    have hP : va_P D vwCl ((oC ob h h2) ++ ((mC cI cZ h a (sc σ 2 x)) ++ ((mC cI cZ h2 a2 ρ_1) ++ (lC cL qo wo)))) H := hP
    have hD : va_D A ((oC ob h h2) ++ ((mC cI cZ h a (sc σ 2 x)) ++ ((mC cI cZ h2 a2 ρ_1) ++ (lC cL qo wo)))) := hD
    refine lv_i2l hx hb dL_setRain_7 rfl ?_
    refine va_last hx hb hK hP hD hS 25 2 rfl rfl (vp_in_nI (n := 0) (by decide) (by decide)) dL_setRain_8 (fun H locs hP hD hS => ?_)
    have hP : va_P D vwCl ((oC ob h h2) ++ ((mC cI cZ h a (sc σ 2 x)) ++ ((mC cI cZ h2 a2 ρ_1) ++ (lC cL qo (vp_updL wo 0 ((σ 11 2).toInt64)))))) H := hP
    have hD : va_D A ((oC ob h h2) ++ ((mC cI cZ h a (sc σ 2 x)) ++ ((mC cI cZ h2 a2 ρ_1) ++ (lC cL qo (vp_updL wo 0 ((σ 11 2).toInt64)))))) := hD
    refine lv_goto (tgt := 15) hx hb dL_setRain_9 (by decide) ?_
    refine lv_iconst (v := 0) hx hb dL_setRain_15 (by decide) ?_
    refine W.wide (k := 1) (n := 6) (Nat.le_of_ble_eq_true rfl) (Nat.le_of_ble_eq_true rfl) ?_
    subst hQ
    exact xni ⟨(ρ_1, vp_updL wo 0 ((σ 11 2).toInt64)), fun _ => by show _ = (if inR x 0 9 = 0 then 0 else σ 11 2 : Int32).toInt64; rw [if_neg hr0]; rfl⟩ hx hb hr hlocks hK hP hD hS dL_setRain_16 (by show (oC ob h h2) ++ ((mC cI cZ h a (sc σ 2 x)) ++ ((mC cI cZ h2 a2 ρ_1) ++ (lC cL qo (vp_updL wo 0 ((σ 11 2).toInt64))))) = (oC ob h h2) ++ ((mC cI cZ h a (if inR x 0 9 = 0 then σ else sc σ 2 x)) ++ ((mC cI cZ h2 a2 ρ_1) ++ (lC cL qo (vp_updL wo 0 ((σ 11 2).toInt64))))); rw [if_neg hr0]) (by rw [if_neg hr0])

abbrev rmL_pass : Room := { frames := 8, cells := 1, slots := 6, locals := 149 }
theorem b_L_pass : Cond.static yL_pass ∈ LW ∧ Cond.initialized yL_pass.cls ∈ LW ∧ Cond.codeWith yL_pass cL_pass 4 (some .int) [(0, 9, 12, 13)] ∈ LW := ⟨q515, q37, q516⟩
set_option maxHeartbeats 4000000 in
set_option maxRecDepth 100000 in
theorem c_L_pass (l : Launch) (hl9 : l.stackTraces = false) (D : va_G) (cI cZ cL : ClassId) {n k : Nat} (ob h : Nat) (a : Nat → Nat) (h2 : Nat) (a2 : Nat → Nat) (σ τ : Sg) (hst : Shp n k σ) (x : Int32) (qo : Nat) (wo : Nat → Int64) : MH (ι := {g9 : Sg × (Nat → Int64) // (if inR x 1 48 = 0 then 1 else 0 : Int32) = 0 → g9.2 0 = (if inR x 1 48 = 0 then 0 else ruinN (hours x.toNatClampNeg σ) - ruinN σ : Int32).toInt64}) l yL_pass cL_pass 4 (some .int) [(0, 9, 12, 13)] rmL_pass D (tZ cI cZ cL) [.ref ob, .int x, .ref qo] ((oC ob h h2) ++ ((mC cI cZ h a σ) ++ ((mC cI cZ h2 a2 τ) ++ (lC cL qo wo)))) (fun g9 => (oC ob h h2) ++ ((mC cI cZ h a (if inR x 1 48 = 0 then σ else hours x.toNatClampNeg σ)) ++ ((mC cI cZ h2 a2 g9.1.1) ++ (lC cL qo g9.1.2)))) (some (.int (if inR x 1 48 = 0 then 1 else 0))) := by
  refine MH.of (by decide) (Nat.le_of_ble_eq_true rfl) ?_
  intro p e s m args below meth c A ls Q hx hb hml hr hts hown hlocks hA hP hD hK hS hl hQ hE htab
  have hown : s.vm.findClass RL = some m.cls := hown
  have hn10 := hst.1
  have hk16 := hst.2.1
  have hl : lv_has ls 4 [(0, .ref ob), (1, .int x), (2, .ref qo)] := hl
  refine lv_aload_n hx hb dL_pass_0 rfl (lv_at hl 2 rfl) ?_
  refine lv_iconst (v := 0) hx hb dL_pass_1 (by decide) ?_
  refine lv_aload_n hx hb dL_pass_2 rfl (lv_at hl 0 rfl) ?_
  refine lv_iload_n hx hb dL_pass_3 rfl (lv_at hl 1 rfl) ?_
  by_cases hr0 : inR x 1 48 = 0
  · refine MT.callV (C := RX1) (T := TX1) (N := 2) (As := [.int x]) (rest := [.int 0, .ref qo]) (c_X1_pass_n l hl9 D cI cZ cL ob h a h2 a2 σ τ x hr0) ⟨hx, hb, hml, hown, hts⟩ q517 b_X1_pass (n := 1) (by decide +kernel) ⟨Nat.le_of_ble_eq_true rfl, Nat.le_of_ble_eq_true rfl⟩ hK hP hD hS hA hE (spX _ _ _ _) (ci := 1) rfl (q0 := 0) rfl rfl hl.1 rfl (Nat.le_of_ble_eq_true rfl) dL_pass_4 ⟨Nat.le_of_ble_eq_true rfl, Nat.le_of_ble_eq_true rfl⟩ (fun ce q9 H locs hP hD hS hce hcv hcl => ?_)
    refine vx_catch (own := RL) (name := "java/lang/IllegalArgumentException") hown [] ⟨0, 9, 12, 13⟩ [] (by rw [htab]; rfl) (by simp) (by decide) (by decide) (hts _ q442) (va_Nw.use rfl (hE.w 16 rfl)) hce hcv hcl ?_
    refine lv_astore_n (lv' := [(3, .ref q9), (0, .ref ob), (1, .int x), (2, .ref qo)]) hx hb dL_pass_12 rfl hl (by decide) rfl (fun ls hl => ?_)
    refine lv_iconst (v := 1) hx hb dL_pass_13 (by decide) ?_
    refine W.wide (k := 1) (n := 6) (Nat.le_of_ble_eq_true rfl) (Nat.le_of_ble_eq_true rfl) ?_
    subst hQ
    exact xni ⟨(τ, wo), fun z => absurd z (by rw [if_pos hr0]; decide)⟩ hx hb hr hlocks hK hP hD hS dL_pass_14 (by show (oC ob h h2) ++ ((mC cI cZ h a σ) ++ ((mC cI cZ h2 a2 τ) ++ (lC cL qo wo))) = (oC ob h h2) ++ ((mC cI cZ h a (if inR x 1 48 = 0 then σ else hours x.toNatClampNeg σ)) ++ ((mC cI cZ h2 a2 τ) ++ (lC cL qo wo))); rw [if_pos hr0]) (by rw [if_pos hr0])
  · obtain ⟨t, h1t, h2t, et⟩ := inR_n 1 48 (by decide) x hr0
    subst et
    refine MX.callV (C := RX1) (T := TX1) (N := 2) (As := [.int (nI t)]) (rest := [.int 0, .ref qo]) (wB := (fun ρ => (oC ob h h2) ++ ((mC cI cZ h a (hours t σ)) ++ ((mC cI cZ h2 a2 ρ) ++ (lC cL qo wo))))) (c_X1_pass l D cI cZ cL ob h a h2 a2 σ τ hst t h1t h2t) ⟨hx, hb, hml, hown, hts⟩ q517 b_X1_pass (n := 1) (by decide +kernel) ⟨Nat.le_of_ble_eq_true rfl, Nat.le_of_ble_eq_true rfl⟩ hK hP hD hS hA hE (spX _ _ _ _) (fun _ => spX _ _ _ _) (ci := 1) rfl (q0 := 0) rfl rfl hl.1 rfl (Nat.le_of_ble_eq_true rfl) dL_pass_4 ⟨Nat.le_of_ble_eq_true rfl, Nat.le_of_ble_eq_true rfl⟩ (fun ρ_1 H locs hP hD hS => ?_)
    have hP : va_P D vwCl ((oC ob h h2) ++ ((mC cI cZ h a (hours t σ)) ++ ((mC cI cZ h2 a2 ρ_1) ++ (lC cL qo wo)))) H := hP
    have hD : va_D A ((oC ob h h2) ++ ((mC cI cZ h a (hours t σ)) ++ ((mC cI cZ h2 a2 ρ_1) ++ (lC cL qo wo)))) := hD
    refine lv_i2l hx hb dL_pass_7 rfl ?_
    refine va_last hx hb hK hP hD hS 25 2 rfl rfl (vp_in_nI (n := 0) (by decide) (by decide)) dL_pass_8 (fun H locs hP hD hS => ?_)
    have hP : va_P D vwCl ((oC ob h h2) ++ ((mC cI cZ h a (hours t σ)) ++ ((mC cI cZ h2 a2 ρ_1) ++ (lC cL qo (vp_updL wo 0 ((ruinN (hours t σ) - ruinN σ).toInt64)))))) H := hP
    have hD : va_D A ((oC ob h h2) ++ ((mC cI cZ h a (hours t σ)) ++ ((mC cI cZ h2 a2 ρ_1) ++ (lC cL qo (vp_updL wo 0 ((ruinN (hours t σ) - ruinN σ).toInt64)))))) := hD
    refine lv_goto (tgt := 15) hx hb dL_pass_9 (by decide) ?_
    refine lv_iconst (v := 0) hx hb dL_pass_15 (by decide) ?_
    refine W.wide (k := 1) (n := 6) (Nat.le_of_ble_eq_true rfl) (Nat.le_of_ble_eq_true rfl) ?_
    subst hQ
    exact xni ⟨(ρ_1, vp_updL wo 0 ((ruinN (hours t σ) - ruinN σ).toInt64)), fun _ => by show _ = (if inR (nI t) 1 48 = 0 then 0 else ruinN (hours (nI t).toNatClampNeg σ) - ruinN σ : Int32).toInt64; rw [if_neg hr0, nI_clamp (by omega)]; rfl⟩ hx hb hr hlocks hK hP hD hS dL_pass_16 (by show (oC ob h h2) ++ ((mC cI cZ h a (hours t σ)) ++ ((mC cI cZ h2 a2 ρ_1) ++ (lC cL qo (vp_updL wo 0 ((ruinN (hours t σ) - ruinN σ).toInt64))))) = (oC ob h h2) ++ ((mC cI cZ h a (if inR (nI t) 1 48 = 0 then σ else hours (nI t).toNatClampNeg σ)) ++ ((mC cI cZ h2 a2 ρ_1) ++ (lC cL qo (vp_updL wo 0 ((ruinN (hours t σ) - ruinN σ).toInt64))))); rw [if_neg hr0, nI_clamp (by omega)]) (by rw [if_neg hr0])

abbrev rmL_lossIn : Room := { frames := 8, cells := 1, slots := 6, locals := 148 }
theorem b_L_lossIn : Cond.static yL_lossIn ∈ LW ∧ Cond.initialized yL_lossIn.cls ∈ LW ∧ Cond.codeWith yL_lossIn cL_lossIn 4 (some .int) [(0, 9, 12, 13)] ∈ LW := ⟨q572, q37, q573⟩
set_option maxHeartbeats 4000000 in
set_option maxRecDepth 100000 in
theorem c_L_lossIn (l : Launch) (hl9 : l.stackTraces = false) (D : va_G) (cI cZ cL : ClassId) {n k : Nat} (ob h : Nat) (a : Nat → Nat) (h2 : Nat) (a2 : Nat → Nat) (σ τ : Sg) (hst : Shp n k σ) {B : Nat} (hB : Bnd B σ) (x : Int32) (qo : Nat) (wo : Nat → Int64) : MH (ι := {g9 : Sg × (Nat → Int64) // (if inR x 1 48 = 0 then 1 else 0 : Int32) = 0 → g9.2 0 = (if inR x 1 48 = 0 then 0 else lossH x.toNatClampNeg σ : Int32).toInt64}) l yL_lossIn cL_lossIn 4 (some .int) [(0, 9, 12, 13)] rmL_lossIn D (tZ cI cZ cL) [.ref ob, .int x, .ref qo] ((oC ob h h2) ++ ((mC cI cZ h a σ) ++ ((mC cI cZ h2 a2 τ) ++ (lC cL qo wo)))) (fun g9 => (oC ob h h2) ++ ((mC cI cZ h a σ) ++ ((mC cI cZ h2 a2 g9.1.1) ++ (lC cL qo g9.1.2)))) (some (.int (if inR x 1 48 = 0 then 1 else 0))) := by
  refine MH.of (by decide) (Nat.le_of_ble_eq_true rfl) ?_
  intro p e s m args below meth c A ls Q hx hb hml hr hts hown hlocks hA hP hD hK hS hl hQ hE htab
  have hown : s.vm.findClass RL = some m.cls := hown
  have hn10 := hst.1
  have hk16 := hst.2.1
  have hl : lv_has ls 4 [(0, .ref ob), (1, .int x), (2, .ref qo)] := hl
  refine lv_aload_n hx hb dL_lossIn_0 rfl (lv_at hl 2 rfl) ?_
  refine lv_iconst (v := 0) hx hb dL_lossIn_1 (by decide) ?_
  refine lv_aload_n hx hb dL_lossIn_2 rfl (lv_at hl 0 rfl) ?_
  refine lv_iload_n hx hb dL_lossIn_3 rfl (lv_at hl 1 rfl) ?_
  by_cases hr0 : inR x 1 48 = 0
  · refine MT.callV (C := RX1) (T := TX1) (N := 2) (As := [.int x]) (rest := [.int 0, .ref qo]) (c_X1_lossIn_n l hl9 D cI cZ cL ob h a h2 a2 σ τ x hr0) ⟨hx, hb, hml, hown, hts⟩ q574 b_X1_lossIn (n := 1) (by decide +kernel) ⟨Nat.le_of_ble_eq_true rfl, Nat.le_of_ble_eq_true rfl⟩ hK hP hD hS hA hE (spX _ _ _ _) (ci := 1) rfl (q0 := 0) rfl rfl hl.1 rfl (Nat.le_of_ble_eq_true rfl) dL_lossIn_4 ⟨Nat.le_of_ble_eq_true rfl, Nat.le_of_ble_eq_true rfl⟩ (fun ce q9 H locs hP hD hS hce hcv hcl => ?_)
    refine vx_catch (own := RL) (name := "java/lang/IllegalArgumentException") hown [] ⟨0, 9, 12, 13⟩ [] (by rw [htab]; rfl) (by simp) (by decide) (by decide) (hts _ q442) (va_Nw.use rfl (hE.w 16 rfl)) hce hcv hcl ?_
    refine lv_astore_n (lv' := [(3, .ref q9), (0, .ref ob), (1, .int x), (2, .ref qo)]) hx hb dL_lossIn_12 rfl hl (by decide) rfl (fun ls hl => ?_)
    refine lv_iconst (v := 1) hx hb dL_lossIn_13 (by decide) ?_
    refine W.wide (k := 1) (n := 6) (Nat.le_of_ble_eq_true rfl) (Nat.le_of_ble_eq_true rfl) ?_
    subst hQ
    exact xni ⟨(τ, wo), fun z => absurd z (by rw [if_pos hr0]; decide)⟩ hx hb hr hlocks hK hP hD hS dL_lossIn_14 rfl (by rw [if_pos hr0])
  · obtain ⟨t, h1t, h2t, et⟩ := inR_n 1 48 (by decide) x hr0
    subst et
    refine MX.callV (C := RX1) (T := TX1) (N := 2) (As := [.int (nI t)]) (rest := [.int 0, .ref qo]) (wB := (fun ρ => (oC ob h h2) ++ ((mC cI cZ h a σ) ++ ((mC cI cZ h2 a2 ρ) ++ (lC cL qo wo))))) (c_X1_lossIn l D cI cZ cL ob h a h2 a2 σ τ hst hB t h1t h2t) ⟨hx, hb, hml, hown, hts⟩ q574 b_X1_lossIn (n := 1) (by decide +kernel) ⟨Nat.le_of_ble_eq_true rfl, Nat.le_of_ble_eq_true rfl⟩ hK hP hD hS hA hE (spX _ _ _ _) (fun _ => spX _ _ _ _) (ci := 1) rfl (q0 := 0) rfl rfl hl.1 rfl (Nat.le_of_ble_eq_true rfl) dL_lossIn_4 ⟨Nat.le_of_ble_eq_true rfl, Nat.le_of_ble_eq_true rfl⟩ (fun ρ_1 H locs hP hD hS => ?_)
    have hP : va_P D vwCl ((oC ob h h2) ++ ((mC cI cZ h a σ) ++ ((mC cI cZ h2 a2 ρ_1) ++ (lC cL qo wo)))) H := hP
    have hD : va_D A ((oC ob h h2) ++ ((mC cI cZ h a σ) ++ ((mC cI cZ h2 a2 ρ_1) ++ (lC cL qo wo)))) := hD
    refine lv_i2l hx hb dL_lossIn_7 rfl ?_
    refine va_last hx hb hK hP hD hS 25 2 rfl rfl (vp_in_nI (n := 0) (by decide) (by decide)) dL_lossIn_8 (fun H locs hP hD hS => ?_)
    have hP : va_P D vwCl ((oC ob h h2) ++ ((mC cI cZ h a σ) ++ ((mC cI cZ h2 a2 ρ_1) ++ (lC cL qo (vp_updL wo 0 ((lossH t σ).toInt64)))))) H := hP
    have hD : va_D A ((oC ob h h2) ++ ((mC cI cZ h a σ) ++ ((mC cI cZ h2 a2 ρ_1) ++ (lC cL qo (vp_updL wo 0 ((lossH t σ).toInt64)))))) := hD
    refine lv_goto (tgt := 15) hx hb dL_lossIn_9 (by decide) ?_
    refine lv_iconst (v := 0) hx hb dL_lossIn_15 (by decide) ?_
    refine W.wide (k := 1) (n := 6) (Nat.le_of_ble_eq_true rfl) (Nat.le_of_ble_eq_true rfl) ?_
    subst hQ
    exact xni ⟨(ρ_1, vp_updL wo 0 ((lossH t σ).toInt64)), fun _ => by show _ = (if inR (nI t) 1 48 = 0 then 0 else lossH (nI t).toNatClampNeg σ : Int32).toInt64; rw [if_neg hr0, nI_clamp (by omega)]; rfl⟩ hx hb hr hlocks hK hP hD hS dL_lossIn_16 rfl (by rw [if_neg hr0])

abbrev rmL_bestToFlood : Room := { frames := 8, cells := 1, slots := 6, locals := 152 }
theorem b_L_bestToFlood : Cond.static yL_bestToFlood ∈ LW ∧ Cond.initialized yL_bestToFlood.cls ∈ LW ∧ Cond.codeWith yL_bestToFlood cL_bestToFlood 4 (some .int) [(0, 9, 12, 13)] ∈ LW := ⟨q583, q37, q584⟩
set_option maxHeartbeats 4000000 in
set_option maxRecDepth 100000 in
theorem c_L_bestToFlood (l : Launch) (hl9 : l.stackTraces = false) (D : va_G) (cI cZ cL : ClassId) {n k : Nat} (ob h : Nat) (a : Nat → Nat) (h2 : Nat) (a2 : Nat → Nat) (σ τ : Sg) (hst : Shp n k σ) {B : Nat} (hB : Bnd B σ) (x : Int32) (qo : Nat) (wo : Nat → Int64) : MH (ι := {g9 : Sg × (Nat → Int64) // (if inR x 1 50 = 0 then 1 else 0 : Int32) = 0 → g9.2 0 = (if inR x 1 50 = 0 then 0 else floodB σ x : Int32).toInt64}) l yL_bestToFlood cL_bestToFlood 4 (some .int) [(0, 9, 12, 13)] rmL_bestToFlood D (tZ cI cZ cL) [.ref ob, .int x, .ref qo] ((oC ob h h2) ++ ((mC cI cZ h a σ) ++ ((mC cI cZ h2 a2 τ) ++ (lC cL qo wo)))) (fun g9 => (oC ob h h2) ++ ((mC cI cZ h a σ) ++ ((mC cI cZ h2 a2 g9.1.1) ++ (lC cL qo g9.1.2)))) (some (.int (if inR x 1 50 = 0 then 1 else 0))) := by
  refine MH.of (by decide) (Nat.le_of_ble_eq_true rfl) ?_
  intro p e s m args below meth c A ls Q hx hb hml hr hts hown hlocks hA hP hD hK hS hl hQ hE htab
  have hown : s.vm.findClass RL = some m.cls := hown
  have hn10 := hst.1
  have hk16 := hst.2.1
  have hl : lv_has ls 4 [(0, .ref ob), (1, .int x), (2, .ref qo)] := hl
  refine lv_aload_n hx hb dL_bestToFlood_0 rfl (lv_at hl 2 rfl) ?_
  refine lv_iconst (v := 0) hx hb dL_bestToFlood_1 (by decide) ?_
  refine lv_aload_n hx hb dL_bestToFlood_2 rfl (lv_at hl 0 rfl) ?_
  refine lv_iload_n hx hb dL_bestToFlood_3 rfl (lv_at hl 1 rfl) ?_
  by_cases hr0 : inR x 1 50 = 0
  · refine MT.callV (C := RX1) (T := TX1) (N := 2) (As := [.int x]) (rest := [.int 0, .ref qo]) (c_X1_bestToFlood_n l hl9 D cI cZ cL ob h a h2 a2 σ τ x hr0) ⟨hx, hb, hml, hown, hts⟩ q585 b_X1_bestToFlood (n := 1) (by decide +kernel) ⟨Nat.le_of_ble_eq_true rfl, Nat.le_of_ble_eq_true rfl⟩ hK hP hD hS hA hE (spX _ _ _ _) (ci := 1) rfl (q0 := 0) rfl rfl hl.1 rfl (Nat.le_of_ble_eq_true rfl) dL_bestToFlood_4 ⟨Nat.le_of_ble_eq_true rfl, Nat.le_of_ble_eq_true rfl⟩ (fun ce q9 H locs hP hD hS hce hcv hcl => ?_)
    refine vx_catch (own := RL) (name := "java/lang/IllegalArgumentException") hown [] ⟨0, 9, 12, 13⟩ [] (by rw [htab]; rfl) (by simp) (by decide) (by decide) (hts _ q442) (va_Nw.use rfl (hE.w 16 rfl)) hce hcv hcl ?_
    refine lv_astore_n (lv' := [(3, .ref q9), (0, .ref ob), (1, .int x), (2, .ref qo)]) hx hb dL_bestToFlood_12 rfl hl (by decide) rfl (fun ls hl => ?_)
    refine lv_iconst (v := 1) hx hb dL_bestToFlood_13 (by decide) ?_
    refine W.wide (k := 1) (n := 6) (Nat.le_of_ble_eq_true rfl) (Nat.le_of_ble_eq_true rfl) ?_
    subst hQ
    exact xni ⟨(τ, wo), fun z => absurd z (by rw [if_pos hr0]; decide)⟩ hx hb hr hlocks hK hP hD hS dL_bestToFlood_14 rfl (by rw [if_pos hr0])
  · obtain ⟨t, h1t, h2t, et⟩ := inR_n 1 50 (by decide) x hr0
    subst et
    refine MX.callV (C := RX1) (T := TX1) (N := 2) (As := [.int (nI t)]) (rest := [.int 0, .ref qo]) (wB := (fun ρ => (oC ob h h2) ++ ((mC cI cZ h a σ) ++ ((mC cI cZ h2 a2 ρ) ++ (lC cL qo wo))))) (c_X1_bestToFlood l D cI cZ cL ob h a h2 a2 σ τ hst hB t h1t h2t) ⟨hx, hb, hml, hown, hts⟩ q585 b_X1_bestToFlood (n := 1) (by decide +kernel) ⟨Nat.le_of_ble_eq_true rfl, Nat.le_of_ble_eq_true rfl⟩ hK hP hD hS hA hE (spX _ _ _ _) (fun _ => spX _ _ _ _) (ci := 1) rfl (q0 := 0) rfl rfl hl.1 rfl (Nat.le_of_ble_eq_true rfl) dL_bestToFlood_4 ⟨Nat.le_of_ble_eq_true rfl, Nat.le_of_ble_eq_true rfl⟩ (fun ρ_1 H locs hP hD hS => ?_)
    have hP : va_P D vwCl ((oC ob h h2) ++ ((mC cI cZ h a σ) ++ ((mC cI cZ h2 a2 ρ_1) ++ (lC cL qo wo)))) H := hP
    have hD : va_D A ((oC ob h h2) ++ ((mC cI cZ h a σ) ++ ((mC cI cZ h2 a2 ρ_1) ++ (lC cL qo wo)))) := hD
    refine lv_i2l hx hb dL_bestToFlood_7 rfl ?_
    refine va_last hx hb hK hP hD hS 25 2 rfl rfl (vp_in_nI (n := 0) (by decide) (by decide)) dL_bestToFlood_8 (fun H locs hP hD hS => ?_)
    have hP : va_P D vwCl ((oC ob h h2) ++ ((mC cI cZ h a σ) ++ ((mC cI cZ h2 a2 ρ_1) ++ (lC cL qo (vp_updL wo 0 ((floodB σ (nI t)).toInt64)))))) H := hP
    have hD : va_D A ((oC ob h h2) ++ ((mC cI cZ h a σ) ++ ((mC cI cZ h2 a2 ρ_1) ++ (lC cL qo (vp_updL wo 0 ((floodB σ (nI t)).toInt64)))))) := hD
    refine lv_goto (tgt := 15) hx hb dL_bestToFlood_9 (by decide) ?_
    refine lv_iconst (v := 0) hx hb dL_bestToFlood_15 (by decide) ?_
    refine W.wide (k := 1) (n := 6) (Nat.le_of_ble_eq_true rfl) (Nat.le_of_ble_eq_true rfl) ?_
    subst hQ
    exact xni ⟨(ρ_1, vp_updL wo 0 ((floodB σ (nI t)).toInt64)), fun _ => by show _ = (if inR (nI t) 1 50 = 0 then 0 else floodB σ (nI t) : Int32).toInt64; rw [if_neg hr0]; rfl⟩ hx hb hr hlocks hK hP hD hS dL_bestToFlood_16 rfl (by rw [if_neg hr0])

abbrev rmL_turn : Room := { frames := 8, cells := 1, slots := 6, locals := 142 }
theorem b_L_turn : Cond.static yL_turn ∈ LW ∧ Cond.initialized yL_turn.cls ∈ LW ∧ Cond.codeWith yL_turn cL_turn 4 (some .int) [(0, 16, 19, 21)] ∈ LW := ⟨q494, q37, q495⟩
set_option maxHeartbeats 4000000 in
set_option maxRecDepth 100000 in
theorem c_L_turn (l : Launch) (hl9 : l.stackTraces = false) (D : va_G) (cI cZ cL : ClassId) {n k : Nat} (ob h : Nat) (a : Nat → Nat) (h2 : Nat) (a2 : Nat → Nat) (σ τ : Sg) (hst : Shp n k σ) {B : Nat} (hB : Bnd B σ) (x : Int32) (qo : Nat) (wo : Nat → Int64) : MH (ι := {g9 : Sg × (Nat → Int64) // (if hasF 1 σ x = 0 then 1 else 0 : Int32) = 0 → g9.2 0 = (if hasF 1 σ x = 0 then 0 else turnS σ x.toNatClampNeg 10 x.toNatClampNeg : Int32).toInt64}) l yL_turn cL_turn 4 (some .int) [(0, 16, 19, 21)] rmL_turn D (tZ cI cZ cL) [.ref ob, .int x, .ref qo] ((oC ob h h2) ++ ((mC cI cZ h a σ) ++ ((mC cI cZ h2 a2 τ) ++ (lC cL qo wo)))) (fun g9 => (oC ob h h2) ++ ((mC cI cZ h a (if hasF 1 σ x = 0 then σ else turnS σ x.toNatClampNeg)) ++ ((mC cI cZ h2 a2 g9.1.1) ++ (lC cL qo g9.1.2)))) (some (.int (if hasF 1 σ x = 0 then 1 else 0))) := by
  refine MH.of (by decide) (Nat.le_of_ble_eq_true rfl) ?_
  intro p e s m args below meth c A ls Q hx hb hml hr hts hown hlocks hA hP hD hK hS hl hQ hE htab
  have hown : s.vm.findClass RL = some m.cls := hown
  have hn10 := hst.1
  have hk16 := hst.2.1
  have hl : lv_has ls 4 [(0, .ref ob), (1, .int x), (2, .ref qo)] := hl
  refine lv_aload_n hx hb dL_turn_0 rfl (lv_at hl 2 rfl) ?_
  refine lv_iconst (v := 0) hx hb dL_turn_1 (by decide) ?_
  refine lv_aload_n hx hb dL_turn_2 rfl (lv_at hl 0 rfl) ?_
  refine lv_iload_n hx hb dL_turn_3 rfl (lv_at hl 1 rfl) ?_
  by_cases hf : hasF 1 σ x = 0
  · refine MT.callV (C := RX1) (T := TX1) (N := 2) (As := [.int x]) (rest := [.int 0, .ref qo]) (c_X1_turn_n l hl9 D cI cZ cL ob h a h2 a2 σ τ x hf) ⟨hx, hb, hml, hown, hts⟩ q496 b_X1_turn (n := 1) (by decide +kernel) ⟨Nat.le_of_ble_eq_true rfl, Nat.le_of_ble_eq_true rfl⟩ hK hP hD hS hA hE (spX _ _ _ _) (ci := 1) rfl (q0 := 0) rfl rfl hl.1 rfl (Nat.le_of_ble_eq_true rfl) dL_turn_4 ⟨Nat.le_of_ble_eq_true rfl, Nat.le_of_ble_eq_true rfl⟩ (fun ce q9 H locs hP hD hS hce hcv hcl => ?_)
    refine vx_catch (own := RL) (name := "java/lang/IndexOutOfBoundsException") hown [] ⟨0, 16, 19, 21⟩ [] (by rw [htab]; rfl) (by simp) (by decide) (by decide) (hts _ q471) (va_Nw.use rfl (hE.w 18 rfl)) hce hcv hcl ?_
    refine lv_astore_n (lv' := [(3, .ref q9), (0, .ref ob), (1, .int x), (2, .ref qo)]) hx hb dL_turn_19 rfl hl (by decide) rfl (fun ls hl => ?_)
    refine lv_iconst (v := 1) hx hb dL_turn_20 (by decide) ?_
    refine W.wide (k := 1) (n := 6) (Nat.le_of_ble_eq_true rfl) (Nat.le_of_ble_eq_true rfl) ?_
    subst hQ
    exact xni ⟨(τ, wo), fun z => absurd z (by rw [if_pos hf]; decide)⟩ hx hb hr hlocks hK hP hD hS dL_turn_21 (by show (oC ob h h2) ++ ((mC cI cZ h a σ) ++ ((mC cI cZ h2 a2 τ) ++ (lC cL qo wo))) = (oC ob h h2) ++ ((mC cI cZ h a (if hasF 1 σ x = 0 then σ else turnS σ x.toNatClampNeg)) ++ ((mC cI cZ h2 a2 τ) ++ (lC cL qo wo))); rw [if_pos hf]) (by rw [if_pos hf])
  · obtain ⟨j, hj, ej⟩ := (hasF_iff hst.f1 (by omega) x).resolve_left (fun z => hf z.1) |>.2
    subst ej
    refine MX.callV (C := RX1) (T := TX1) (N := 2) (As := [.int (nI j)]) (rest := [.int 0, .ref qo]) (wB := (fun ρ => (oC ob h h2) ++ ((mC cI cZ h a (turnS σ j)) ++ ((mC cI cZ h2 a2 ρ) ++ (lC cL qo wo))))) (c_X1_turn l D cI cZ cL ob h a h2 a2 σ τ hst hB j hj) ⟨hx, hb, hml, hown, hts⟩ q496 b_X1_turn (n := 1) (by decide +kernel) ⟨Nat.le_of_ble_eq_true rfl, Nat.le_of_ble_eq_true rfl⟩ hK hP hD hS hA hE (spX _ _ _ _) (fun _ => spX _ _ _ _) (ci := 1) rfl (q0 := 0) rfl rfl hl.1 rfl (Nat.le_of_ble_eq_true rfl) dL_turn_4 ⟨Nat.le_of_ble_eq_true rfl, Nat.le_of_ble_eq_true rfl⟩ (fun ρ_1 H locs hP hD hS => ?_)
    have hP : va_P D vwCl ((oC ob h h2) ++ ((mC cI cZ h a (turnS σ j)) ++ ((mC cI cZ h2 a2 ρ_1) ++ (lC cL qo wo)))) H := hP
    have hD : va_D A ((oC ob h h2) ++ ((mC cI cZ h a (turnS σ j)) ++ ((mC cI cZ h2 a2 ρ_1) ++ (lC cL qo wo)))) := hD
    refine lv_if_eq (tgt := 14) hx hb dL_turn_7 (by decide) (fun c_7 => ?_) (fun c_7 => ?_)
    · refine lv_lconst (v := 0) hx hb dL_turn_14 (by decide) ?_
      refine va_last hx hb hK hP hD hS 25 2 rfl rfl (vp_in_nI (n := 0) (by decide) (by decide)) dL_turn_15 (fun H locs hP hD hS => ?_)
      have hP : va_P D vwCl ((oC ob h h2) ++ ((mC cI cZ h a (turnS σ j)) ++ ((mC cI cZ h2 a2 ρ_1) ++ (lC cL qo (vp_updL wo 0 0))))) H := hP
      have hD : va_D A ((oC ob h h2) ++ ((mC cI cZ h a (turnS σ j)) ++ ((mC cI cZ h2 a2 ρ_1) ++ (lC cL qo (vp_updL wo 0 0))))) := hD
      refine lv_goto (tgt := 22) hx hb dL_turn_16 (by decide) ?_
      refine lv_iconst (v := 0) hx hb dL_turn_22 (by decide) ?_
      refine W.wide (k := 1) (n := 6) (Nat.le_of_ble_eq_true rfl) (Nat.le_of_ble_eq_true rfl) ?_
      subst hQ
      exact xni ⟨(ρ_1, vp_updL wo 0 0), fun _ => by show _ = (if hasF 1 σ (nI j) = 0 then 0 else turnS σ (nI j).toNatClampNeg 10 (nI j).toNatClampNeg : Int32).toInt64; rw [if_neg hf, nI_clamp (by omega)]; (first | (rw [c_7]; rfl) | (rw [((hB.tu j).2.2.2.2.2.2 j (by omega)).resolve_left c_7]; rfl))⟩ hx hb hr hlocks hK hP hD hS dL_turn_23 (by show (oC ob h h2) ++ ((mC cI cZ h a (turnS σ j)) ++ ((mC cI cZ h2 a2 ρ_1) ++ (lC cL qo (vp_updL wo 0 0)))) = (oC ob h h2) ++ ((mC cI cZ h a (if hasF 1 σ (nI j) = 0 then σ else turnS σ (nI j).toNatClampNeg)) ++ ((mC cI cZ h2 a2 ρ_1) ++ (lC cL qo (vp_updL wo 0 0)))); rw [if_neg hf, nI_clamp (by omega)]) (by rw [if_neg hf])
    · refine lv_lconst (v := 1) hx hb dL_turn_10 (by decide) ?_
      refine lv_goto (tgt := 15) hx hb dL_turn_11 (by decide) ?_
      refine va_last hx hb hK hP hD hS 25 2 rfl rfl (vp_in_nI (n := 0) (by decide) (by decide)) dL_turn_15 (fun H locs hP hD hS => ?_)
      have hP : va_P D vwCl ((oC ob h h2) ++ ((mC cI cZ h a (turnS σ j)) ++ ((mC cI cZ h2 a2 ρ_1) ++ (lC cL qo (vp_updL wo 0 1))))) H := hP
      have hD : va_D A ((oC ob h h2) ++ ((mC cI cZ h a (turnS σ j)) ++ ((mC cI cZ h2 a2 ρ_1) ++ (lC cL qo (vp_updL wo 0 1))))) := hD
      refine lv_goto (tgt := 22) hx hb dL_turn_16 (by decide) ?_
      refine lv_iconst (v := 0) hx hb dL_turn_22 (by decide) ?_
      refine W.wide (k := 1) (n := 6) (Nat.le_of_ble_eq_true rfl) (Nat.le_of_ble_eq_true rfl) ?_
      subst hQ
      exact xni ⟨(ρ_1, vp_updL wo 0 1), fun _ => by show _ = (if hasF 1 σ (nI j) = 0 then 0 else turnS σ (nI j).toNatClampNeg 10 (nI j).toNatClampNeg : Int32).toInt64; rw [if_neg hf, nI_clamp (by omega)]; (first | (rw [c_7]; rfl) | (rw [((hB.tu j).2.2.2.2.2.2 j (by omega)).resolve_left c_7]; rfl))⟩ hx hb hr hlocks hK hP hD hS dL_turn_23 (by show (oC ob h h2) ++ ((mC cI cZ h a (turnS σ j)) ++ ((mC cI cZ h2 a2 ρ_1) ++ (lC cL qo (vp_updL wo 0 1)))) = (oC ob h h2) ++ ((mC cI cZ h a (if hasF 1 σ (nI j) = 0 then σ else turnS σ (nI j).toNatClampNeg)) ++ ((mC cI cZ h2 a2 ρ_1) ++ (lC cL qo (vp_updL wo 0 1)))); rw [if_neg hf, nI_clamp (by omega)]) (by rw [if_neg hf])

abbrev rmL_waterOn : Room := { frames := 8, cells := 1, slots := 6, locals := 142 }
theorem b_L_waterOn : Cond.static yL_waterOn ∈ LW ∧ Cond.initialized yL_waterOn.cls ∈ LW ∧ Cond.codeWith yL_waterOn cL_waterOn 4 (some .int) [(0, 9, 12, 21)] ∈ LW := ⟨q522, q37, q523⟩
set_option maxHeartbeats 4000000 in
set_option maxRecDepth 100000 in
theorem c_L_waterOn (l : Launch) (hl9 : l.stackTraces = false) (D : va_G) (cI cZ cL : ClassId) {n k : Nat} (ob h : Nat) (a : Nat → Nat) (h2 : Nat) (a2 : Nat → Nat) (σ τ : Sg) (hst : Shp n k σ) {B : Nat} (hB : Bnd B σ) (x : Int32) (qo : Nat) (wo : Nat → Int64) : MH (ι := {g9 : Sg × (Nat → Int64) // (if hasF 0 σ x = 0 then 1 else 0 : Int32) = 0 → g9.2 0 = (if hasF 0 σ x = 0 then 0 else σ 2 x.toNatClampNeg : Int32).toInt64}) l yL_waterOn cL_waterOn 4 (some .int) [(0, 9, 12, 21)] rmL_waterOn D (tZ cI cZ cL) [.ref ob, .int x, .ref qo] ((oC ob h h2) ++ ((mC cI cZ h a σ) ++ ((mC cI cZ h2 a2 τ) ++ (lC cL qo wo)))) (fun g9 => (oC ob h h2) ++ ((mC cI cZ h a σ) ++ ((mC cI cZ h2 a2 g9.1.1) ++ (lC cL qo g9.1.2)))) (some (.int (if hasF 0 σ x = 0 then 1 else 0))) := by
  refine MH.of (by decide) (Nat.le_of_ble_eq_true rfl) ?_
  intro p e s m args below meth c A ls Q hx hb hml hr hts hown hlocks hA hP hD hK hS hl hQ hE htab
  have hown : s.vm.findClass RL = some m.cls := hown
  have hn10 := hst.1
  have hk16 := hst.2.1
  have hl : lv_has ls 4 [(0, .ref ob), (1, .int x), (2, .ref qo)] := hl
  refine lv_aload_n hx hb dL_waterOn_0 rfl (lv_at hl 2 rfl) ?_
  refine lv_iconst (v := 0) hx hb dL_waterOn_1 (by decide) ?_
  refine lv_aload_n hx hb dL_waterOn_2 rfl (lv_at hl 0 rfl) ?_
  refine lv_iload_n hx hb dL_waterOn_3 rfl (lv_at hl 1 rfl) ?_
  by_cases hf : hasF 0 σ x = 0
  · refine MT.callV (C := RX1) (T := TX1) (N := 2) (As := [.int x]) (rest := [.int 0, .ref qo]) (c_X1_waterOn_n l hl9 D cI cZ cL ob h a h2 a2 σ τ x hf) ⟨hx, hb, hml, hown, hts⟩ q524 b_X1_waterOn (n := 1) (by decide +kernel) ⟨Nat.le_of_ble_eq_true rfl, Nat.le_of_ble_eq_true rfl⟩ hK hP hD hS hA hE (spX _ _ _ _) (ci := 1) rfl (q0 := 0) rfl rfl hl.1 rfl (Nat.le_of_ble_eq_true rfl) dL_waterOn_4 ⟨Nat.le_of_ble_eq_true rfl, Nat.le_of_ble_eq_true rfl⟩ (fun ce q9 H locs hP hD hS hce hcv hcl => ?_)
    refine vx_catch (own := RL) (name := "java/lang/IndexOutOfBoundsException") hown [] ⟨0, 9, 12, 21⟩ [] (by rw [htab]; rfl) (by simp) (by decide) (by decide) (hts _ q471) (va_Nw.use rfl (hE.w 18 rfl)) hce hcv hcl ?_
    refine lv_astore_n (lv' := [(3, .ref q9), (0, .ref ob), (1, .int x), (2, .ref qo)]) hx hb dL_waterOn_12 rfl hl (by decide) rfl (fun ls hl => ?_)
    refine lv_iconst (v := 1) hx hb dL_waterOn_13 (by decide) ?_
    refine W.wide (k := 1) (n := 6) (Nat.le_of_ble_eq_true rfl) (Nat.le_of_ble_eq_true rfl) ?_
    subst hQ
    exact xni ⟨(τ, wo), fun z => absurd z (by rw [if_pos hf]; decide)⟩ hx hb hr hlocks hK hP hD hS dL_waterOn_14 rfl (by rw [if_pos hf])
  · obtain ⟨j, hj, ej⟩ := (hasF_iff hst.f0 (by omega) x).resolve_left (fun z => hf z.1) |>.2
    subst ej
    refine MX.callV (C := RX1) (T := TX1) (N := 2) (As := [.int (nI j)]) (rest := [.int 0, .ref qo]) (wB := (fun ρ => (oC ob h h2) ++ ((mC cI cZ h a σ) ++ ((mC cI cZ h2 a2 ρ) ++ (lC cL qo wo))))) (c_X1_waterOn l D cI cZ cL ob h a h2 a2 σ τ hst j hj) ⟨hx, hb, hml, hown, hts⟩ q524 b_X1_waterOn (n := 1) (by decide +kernel) ⟨Nat.le_of_ble_eq_true rfl, Nat.le_of_ble_eq_true rfl⟩ hK hP hD hS hA hE (spX _ _ _ _) (fun _ => spX _ _ _ _) (ci := 1) rfl (q0 := 0) rfl rfl hl.1 rfl (Nat.le_of_ble_eq_true rfl) dL_waterOn_4 ⟨Nat.le_of_ble_eq_true rfl, Nat.le_of_ble_eq_true rfl⟩ (fun ρ_1 H locs hP hD hS => ?_)
    have hP : va_P D vwCl ((oC ob h h2) ++ ((mC cI cZ h a σ) ++ ((mC cI cZ h2 a2 ρ_1) ++ (lC cL qo wo)))) H := hP
    have hD : va_D A ((oC ob h h2) ++ ((mC cI cZ h a σ) ++ ((mC cI cZ h2 a2 ρ_1) ++ (lC cL qo wo)))) := hD
    refine lv_i2l hx hb dL_waterOn_7 rfl ?_
    refine va_last hx hb hK hP hD hS 25 2 rfl rfl (vp_in_nI (n := 0) (by decide) (by decide)) dL_waterOn_8 (fun H locs hP hD hS => ?_)
    have hP : va_P D vwCl ((oC ob h h2) ++ ((mC cI cZ h a σ) ++ ((mC cI cZ h2 a2 ρ_1) ++ (lC cL qo (vp_updL wo 0 ((σ 2 j).toInt64)))))) H := hP
    have hD : va_D A ((oC ob h h2) ++ ((mC cI cZ h a σ) ++ ((mC cI cZ h2 a2 ρ_1) ++ (lC cL qo (vp_updL wo 0 ((σ 2 j).toInt64)))))) := hD
    refine lv_goto (tgt := 15) hx hb dL_waterOn_9 (by decide) ?_
    refine lv_iconst (v := 0) hx hb dL_waterOn_15 (by decide) ?_
    refine W.wide (k := 1) (n := 6) (Nat.le_of_ble_eq_true rfl) (Nat.le_of_ble_eq_true rfl) ?_
    subst hQ
    exact xni ⟨(ρ_1, vp_updL wo 0 ((σ 2 j).toInt64)), fun _ => by show _ = (if hasF 0 σ (nI j) = 0 then 0 else σ 2 (nI j).toNatClampNeg : Int32).toInt64; rw [if_neg hf, nI_clamp (by omega)]; rfl⟩ hx hb hr hlocks hK hP hD hS dL_waterOn_16 rfl (by rw [if_neg hf])

abbrev rmL_levelOf : Room := { frames := 8, cells := 1, slots := 6, locals := 142 }
theorem b_L_levelOf : Cond.static yL_levelOf ∈ LW ∧ Cond.initialized yL_levelOf.cls ∈ LW ∧ Cond.codeWith yL_levelOf cL_levelOf 4 (some .int) [(0, 9, 12, 21)] ∈ LW := ⟨q526, q37, q527⟩
set_option maxHeartbeats 4000000 in
set_option maxRecDepth 100000 in
theorem c_L_levelOf (l : Launch) (hl9 : l.stackTraces = false) (D : va_G) (cI cZ cL : ClassId) {n k : Nat} (ob h : Nat) (a : Nat → Nat) (h2 : Nat) (a2 : Nat → Nat) (σ τ : Sg) (hst : Shp n k σ) {B : Nat} (hB : Bnd B σ) (x : Int32) (qo : Nat) (wo : Nat → Int64) : MH (ι := {g9 : Sg × (Nat → Int64) // (if hasF 0 σ x = 0 then 1 else 0 : Int32) = 0 → g9.2 0 = (if hasF 0 σ x = 0 then 0 else σ 0 x.toNatClampNeg + σ 2 x.toNatClampNeg : Int32).toInt64}) l yL_levelOf cL_levelOf 4 (some .int) [(0, 9, 12, 21)] rmL_levelOf D (tZ cI cZ cL) [.ref ob, .int x, .ref qo] ((oC ob h h2) ++ ((mC cI cZ h a σ) ++ ((mC cI cZ h2 a2 τ) ++ (lC cL qo wo)))) (fun g9 => (oC ob h h2) ++ ((mC cI cZ h a σ) ++ ((mC cI cZ h2 a2 g9.1.1) ++ (lC cL qo g9.1.2)))) (some (.int (if hasF 0 σ x = 0 then 1 else 0))) := by
  refine MH.of (by decide) (Nat.le_of_ble_eq_true rfl) ?_
  intro p e s m args below meth c A ls Q hx hb hml hr hts hown hlocks hA hP hD hK hS hl hQ hE htab
  have hown : s.vm.findClass RL = some m.cls := hown
  have hn10 := hst.1
  have hk16 := hst.2.1
  have hl : lv_has ls 4 [(0, .ref ob), (1, .int x), (2, .ref qo)] := hl
  refine lv_aload_n hx hb dL_levelOf_0 rfl (lv_at hl 2 rfl) ?_
  refine lv_iconst (v := 0) hx hb dL_levelOf_1 (by decide) ?_
  refine lv_aload_n hx hb dL_levelOf_2 rfl (lv_at hl 0 rfl) ?_
  refine lv_iload_n hx hb dL_levelOf_3 rfl (lv_at hl 1 rfl) ?_
  by_cases hf : hasF 0 σ x = 0
  · refine MT.callV (C := RX1) (T := TX1) (N := 2) (As := [.int x]) (rest := [.int 0, .ref qo]) (c_X1_levelOf_n l hl9 D cI cZ cL ob h a h2 a2 σ τ x hf) ⟨hx, hb, hml, hown, hts⟩ q528 b_X1_levelOf (n := 1) (by decide +kernel) ⟨Nat.le_of_ble_eq_true rfl, Nat.le_of_ble_eq_true rfl⟩ hK hP hD hS hA hE (spX _ _ _ _) (ci := 1) rfl (q0 := 0) rfl rfl hl.1 rfl (Nat.le_of_ble_eq_true rfl) dL_levelOf_4 ⟨Nat.le_of_ble_eq_true rfl, Nat.le_of_ble_eq_true rfl⟩ (fun ce q9 H locs hP hD hS hce hcv hcl => ?_)
    refine vx_catch (own := RL) (name := "java/lang/IndexOutOfBoundsException") hown [] ⟨0, 9, 12, 21⟩ [] (by rw [htab]; rfl) (by simp) (by decide) (by decide) (hts _ q471) (va_Nw.use rfl (hE.w 18 rfl)) hce hcv hcl ?_
    refine lv_astore_n (lv' := [(3, .ref q9), (0, .ref ob), (1, .int x), (2, .ref qo)]) hx hb dL_levelOf_12 rfl hl (by decide) rfl (fun ls hl => ?_)
    refine lv_iconst (v := 1) hx hb dL_levelOf_13 (by decide) ?_
    refine W.wide (k := 1) (n := 6) (Nat.le_of_ble_eq_true rfl) (Nat.le_of_ble_eq_true rfl) ?_
    subst hQ
    exact xni ⟨(τ, wo), fun z => absurd z (by rw [if_pos hf]; decide)⟩ hx hb hr hlocks hK hP hD hS dL_levelOf_14 rfl (by rw [if_pos hf])
  · obtain ⟨j, hj, ej⟩ := (hasF_iff hst.f0 (by omega) x).resolve_left (fun z => hf z.1) |>.2
    subst ej
    refine MX.callV (C := RX1) (T := TX1) (N := 2) (As := [.int (nI j)]) (rest := [.int 0, .ref qo]) (wB := (fun ρ => (oC ob h h2) ++ ((mC cI cZ h a σ) ++ ((mC cI cZ h2 a2 ρ) ++ (lC cL qo wo))))) (c_X1_levelOf l D cI cZ cL ob h a h2 a2 σ τ hst j hj) ⟨hx, hb, hml, hown, hts⟩ q528 b_X1_levelOf (n := 1) (by decide +kernel) ⟨Nat.le_of_ble_eq_true rfl, Nat.le_of_ble_eq_true rfl⟩ hK hP hD hS hA hE (spX _ _ _ _) (fun _ => spX _ _ _ _) (ci := 1) rfl (q0 := 0) rfl rfl hl.1 rfl (Nat.le_of_ble_eq_true rfl) dL_levelOf_4 ⟨Nat.le_of_ble_eq_true rfl, Nat.le_of_ble_eq_true rfl⟩ (fun ρ_1 H locs hP hD hS => ?_)
    have hP : va_P D vwCl ((oC ob h h2) ++ ((mC cI cZ h a σ) ++ ((mC cI cZ h2 a2 ρ_1) ++ (lC cL qo wo)))) H := hP
    have hD : va_D A ((oC ob h h2) ++ ((mC cI cZ h a σ) ++ ((mC cI cZ h2 a2 ρ_1) ++ (lC cL qo wo)))) := hD
    refine lv_i2l hx hb dL_levelOf_7 rfl ?_
    refine va_last hx hb hK hP hD hS 25 2 rfl rfl (vp_in_nI (n := 0) (by decide) (by decide)) dL_levelOf_8 (fun H locs hP hD hS => ?_)
    have hP : va_P D vwCl ((oC ob h h2) ++ ((mC cI cZ h a σ) ++ ((mC cI cZ h2 a2 ρ_1) ++ (lC cL qo (vp_updL wo 0 ((σ 0 j + σ 2 j).toInt64)))))) H := hP
    have hD : va_D A ((oC ob h h2) ++ ((mC cI cZ h a σ) ++ ((mC cI cZ h2 a2 ρ_1) ++ (lC cL qo (vp_updL wo 0 ((σ 0 j + σ 2 j).toInt64)))))) := hD
    refine lv_goto (tgt := 15) hx hb dL_levelOf_9 (by decide) ?_
    refine lv_iconst (v := 0) hx hb dL_levelOf_15 (by decide) ?_
    refine W.wide (k := 1) (n := 6) (Nat.le_of_ble_eq_true rfl) (Nat.le_of_ble_eq_true rfl) ?_
    subst hQ
    exact xni ⟨(ρ_1, vp_updL wo 0 ((σ 0 j + σ 2 j).toInt64)), fun _ => by show _ = (if hasF 0 σ (nI j) = 0 then 0 else σ 0 (nI j).toNatClampNeg + σ 2 (nI j).toNatClampNeg : Int32).toInt64; rw [if_neg hf, nI_clamp (by omega)]; rfl⟩ hx hb hr hlocks hK hP hD hS dL_levelOf_16 rfl (by rw [if_neg hf])

abbrev rmL_wetFor : Room := { frames := 8, cells := 1, slots := 6, locals := 142 }
theorem b_L_wetFor : Cond.static yL_wetFor ∈ LW ∧ Cond.initialized yL_wetFor.cls ∈ LW ∧ Cond.codeWith yL_wetFor cL_wetFor 4 (some .int) [(0, 9, 12, 21)] ∈ LW := ⟨q533, q37, q534⟩
set_option maxHeartbeats 4000000 in
set_option maxRecDepth 100000 in
theorem c_L_wetFor (l : Launch) (hl9 : l.stackTraces = false) (D : va_G) (cI cZ cL : ClassId) {n k : Nat} (ob h : Nat) (a : Nat → Nat) (h2 : Nat) (a2 : Nat → Nat) (σ τ : Sg) (hst : Shp n k σ) {B : Nat} (hB : Bnd B σ) (x : Int32) (qo : Nat) (wo : Nat → Int64) : MH (ι := {g9 : Sg × (Nat → Int64) // (if hasF 0 σ x = 0 then 1 else 0 : Int32) = 0 → g9.2 0 = (if hasF 0 σ x = 0 then 0 else σ 3 x.toNatClampNeg : Int32).toInt64}) l yL_wetFor cL_wetFor 4 (some .int) [(0, 9, 12, 21)] rmL_wetFor D (tZ cI cZ cL) [.ref ob, .int x, .ref qo] ((oC ob h h2) ++ ((mC cI cZ h a σ) ++ ((mC cI cZ h2 a2 τ) ++ (lC cL qo wo)))) (fun g9 => (oC ob h h2) ++ ((mC cI cZ h a σ) ++ ((mC cI cZ h2 a2 g9.1.1) ++ (lC cL qo g9.1.2)))) (some (.int (if hasF 0 σ x = 0 then 1 else 0))) := by
  refine MH.of (by decide) (Nat.le_of_ble_eq_true rfl) ?_
  intro p e s m args below meth c A ls Q hx hb hml hr hts hown hlocks hA hP hD hK hS hl hQ hE htab
  have hown : s.vm.findClass RL = some m.cls := hown
  have hn10 := hst.1
  have hk16 := hst.2.1
  have hl : lv_has ls 4 [(0, .ref ob), (1, .int x), (2, .ref qo)] := hl
  refine lv_aload_n hx hb dL_wetFor_0 rfl (lv_at hl 2 rfl) ?_
  refine lv_iconst (v := 0) hx hb dL_wetFor_1 (by decide) ?_
  refine lv_aload_n hx hb dL_wetFor_2 rfl (lv_at hl 0 rfl) ?_
  refine lv_iload_n hx hb dL_wetFor_3 rfl (lv_at hl 1 rfl) ?_
  by_cases hf : hasF 0 σ x = 0
  · refine MT.callV (C := RX1) (T := TX1) (N := 2) (As := [.int x]) (rest := [.int 0, .ref qo]) (c_X1_wetFor_n l hl9 D cI cZ cL ob h a h2 a2 σ τ x hf) ⟨hx, hb, hml, hown, hts⟩ q535 b_X1_wetFor (n := 1) (by decide +kernel) ⟨Nat.le_of_ble_eq_true rfl, Nat.le_of_ble_eq_true rfl⟩ hK hP hD hS hA hE (spX _ _ _ _) (ci := 1) rfl (q0 := 0) rfl rfl hl.1 rfl (Nat.le_of_ble_eq_true rfl) dL_wetFor_4 ⟨Nat.le_of_ble_eq_true rfl, Nat.le_of_ble_eq_true rfl⟩ (fun ce q9 H locs hP hD hS hce hcv hcl => ?_)
    refine vx_catch (own := RL) (name := "java/lang/IndexOutOfBoundsException") hown [] ⟨0, 9, 12, 21⟩ [] (by rw [htab]; rfl) (by simp) (by decide) (by decide) (hts _ q471) (va_Nw.use rfl (hE.w 18 rfl)) hce hcv hcl ?_
    refine lv_astore_n (lv' := [(3, .ref q9), (0, .ref ob), (1, .int x), (2, .ref qo)]) hx hb dL_wetFor_12 rfl hl (by decide) rfl (fun ls hl => ?_)
    refine lv_iconst (v := 1) hx hb dL_wetFor_13 (by decide) ?_
    refine W.wide (k := 1) (n := 6) (Nat.le_of_ble_eq_true rfl) (Nat.le_of_ble_eq_true rfl) ?_
    subst hQ
    exact xni ⟨(τ, wo), fun z => absurd z (by rw [if_pos hf]; decide)⟩ hx hb hr hlocks hK hP hD hS dL_wetFor_14 rfl (by rw [if_pos hf])
  · obtain ⟨j, hj, ej⟩ := (hasF_iff hst.f0 (by omega) x).resolve_left (fun z => hf z.1) |>.2
    subst ej
    refine MX.callV (C := RX1) (T := TX1) (N := 2) (As := [.int (nI j)]) (rest := [.int 0, .ref qo]) (wB := (fun ρ => (oC ob h h2) ++ ((mC cI cZ h a σ) ++ ((mC cI cZ h2 a2 ρ) ++ (lC cL qo wo))))) (c_X1_wetFor l D cI cZ cL ob h a h2 a2 σ τ hst j hj) ⟨hx, hb, hml, hown, hts⟩ q535 b_X1_wetFor (n := 1) (by decide +kernel) ⟨Nat.le_of_ble_eq_true rfl, Nat.le_of_ble_eq_true rfl⟩ hK hP hD hS hA hE (spX _ _ _ _) (fun _ => spX _ _ _ _) (ci := 1) rfl (q0 := 0) rfl rfl hl.1 rfl (Nat.le_of_ble_eq_true rfl) dL_wetFor_4 ⟨Nat.le_of_ble_eq_true rfl, Nat.le_of_ble_eq_true rfl⟩ (fun ρ_1 H locs hP hD hS => ?_)
    have hP : va_P D vwCl ((oC ob h h2) ++ ((mC cI cZ h a σ) ++ ((mC cI cZ h2 a2 ρ_1) ++ (lC cL qo wo)))) H := hP
    have hD : va_D A ((oC ob h h2) ++ ((mC cI cZ h a σ) ++ ((mC cI cZ h2 a2 ρ_1) ++ (lC cL qo wo)))) := hD
    refine lv_i2l hx hb dL_wetFor_7 rfl ?_
    refine va_last hx hb hK hP hD hS 25 2 rfl rfl (vp_in_nI (n := 0) (by decide) (by decide)) dL_wetFor_8 (fun H locs hP hD hS => ?_)
    have hP : va_P D vwCl ((oC ob h h2) ++ ((mC cI cZ h a σ) ++ ((mC cI cZ h2 a2 ρ_1) ++ (lC cL qo (vp_updL wo 0 ((σ 3 j).toInt64)))))) H := hP
    have hD : va_D A ((oC ob h h2) ++ ((mC cI cZ h a σ) ++ ((mC cI cZ h2 a2 ρ_1) ++ (lC cL qo (vp_updL wo 0 ((σ 3 j).toInt64)))))) := hD
    refine lv_goto (tgt := 15) hx hb dL_wetFor_9 (by decide) ?_
    refine lv_iconst (v := 0) hx hb dL_wetFor_15 (by decide) ?_
    refine W.wide (k := 1) (n := 6) (Nat.le_of_ble_eq_true rfl) (Nat.le_of_ble_eq_true rfl) ?_
    subst hQ
    exact xni ⟨(ρ_1, vp_updL wo 0 ((σ 3 j).toInt64)), fun _ => by show _ = (if hasF 0 σ (nI j) = 0 then 0 else σ 3 (nI j).toNatClampNeg : Int32).toInt64; rw [if_neg hf, nI_clamp (by omega)]; rfl⟩ hx hb hr hlocks hK hP hD hS dL_wetFor_16 rfl (by rw [if_neg hf])

abbrev rmL_isRuined : Room := { frames := 8, cells := 1, slots := 6, locals := 142 }
theorem b_L_isRuined : Cond.static yL_isRuined ∈ LW ∧ Cond.initialized yL_isRuined.cls ∈ LW ∧ Cond.codeWith yL_isRuined cL_isRuined 4 (some .int) [(0, 16, 19, 21)] ∈ LW := ⟨q537, q37, q538⟩
set_option maxHeartbeats 4000000 in
set_option maxRecDepth 100000 in
theorem c_L_isRuined (l : Launch) (hl9 : l.stackTraces = false) (D : va_G) (cI cZ cL : ClassId) {n k : Nat} (ob h : Nat) (a : Nat → Nat) (h2 : Nat) (a2 : Nat → Nat) (σ τ : Sg) (hst : Shp n k σ) {B : Nat} (hB : Bnd B σ) (x : Int32) (qo : Nat) (wo : Nat → Int64) : MH (ι := {g9 : Sg × (Nat → Int64) // (if hasF 0 σ x = 0 then 1 else 0 : Int32) = 0 → g9.2 0 = (if hasF 0 σ x = 0 then 0 else σ 4 x.toNatClampNeg : Int32).toInt64}) l yL_isRuined cL_isRuined 4 (some .int) [(0, 16, 19, 21)] rmL_isRuined D (tZ cI cZ cL) [.ref ob, .int x, .ref qo] ((oC ob h h2) ++ ((mC cI cZ h a σ) ++ ((mC cI cZ h2 a2 τ) ++ (lC cL qo wo)))) (fun g9 => (oC ob h h2) ++ ((mC cI cZ h a σ) ++ ((mC cI cZ h2 a2 g9.1.1) ++ (lC cL qo g9.1.2)))) (some (.int (if hasF 0 σ x = 0 then 1 else 0))) := by
  refine MH.of (by decide) (Nat.le_of_ble_eq_true rfl) ?_
  intro p e s m args below meth c A ls Q hx hb hml hr hts hown hlocks hA hP hD hK hS hl hQ hE htab
  have hown : s.vm.findClass RL = some m.cls := hown
  have hn10 := hst.1
  have hk16 := hst.2.1
  have hl : lv_has ls 4 [(0, .ref ob), (1, .int x), (2, .ref qo)] := hl
  refine lv_aload_n hx hb dL_isRuined_0 rfl (lv_at hl 2 rfl) ?_
  refine lv_iconst (v := 0) hx hb dL_isRuined_1 (by decide) ?_
  refine lv_aload_n hx hb dL_isRuined_2 rfl (lv_at hl 0 rfl) ?_
  refine lv_iload_n hx hb dL_isRuined_3 rfl (lv_at hl 1 rfl) ?_
  by_cases hf : hasF 0 σ x = 0
  · refine MT.callV (C := RX1) (T := TX1) (N := 2) (As := [.int x]) (rest := [.int 0, .ref qo]) (c_X1_isRuined_n l hl9 D cI cZ cL ob h a h2 a2 σ τ x hf) ⟨hx, hb, hml, hown, hts⟩ q539 b_X1_isRuined (n := 1) (by decide +kernel) ⟨Nat.le_of_ble_eq_true rfl, Nat.le_of_ble_eq_true rfl⟩ hK hP hD hS hA hE (spX _ _ _ _) (ci := 1) rfl (q0 := 0) rfl rfl hl.1 rfl (Nat.le_of_ble_eq_true rfl) dL_isRuined_4 ⟨Nat.le_of_ble_eq_true rfl, Nat.le_of_ble_eq_true rfl⟩ (fun ce q9 H locs hP hD hS hce hcv hcl => ?_)
    refine vx_catch (own := RL) (name := "java/lang/IndexOutOfBoundsException") hown [] ⟨0, 16, 19, 21⟩ [] (by rw [htab]; rfl) (by simp) (by decide) (by decide) (hts _ q471) (va_Nw.use rfl (hE.w 18 rfl)) hce hcv hcl ?_
    refine lv_astore_n (lv' := [(3, .ref q9), (0, .ref ob), (1, .int x), (2, .ref qo)]) hx hb dL_isRuined_19 rfl hl (by decide) rfl (fun ls hl => ?_)
    refine lv_iconst (v := 1) hx hb dL_isRuined_20 (by decide) ?_
    refine W.wide (k := 1) (n := 6) (Nat.le_of_ble_eq_true rfl) (Nat.le_of_ble_eq_true rfl) ?_
    subst hQ
    exact xni ⟨(τ, wo), fun z => absurd z (by rw [if_pos hf]; decide)⟩ hx hb hr hlocks hK hP hD hS dL_isRuined_21 rfl (by rw [if_pos hf])
  · obtain ⟨j, hj, ej⟩ := (hasF_iff hst.f0 (by omega) x).resolve_left (fun z => hf z.1) |>.2
    subst ej
    refine MX.callV (C := RX1) (T := TX1) (N := 2) (As := [.int (nI j)]) (rest := [.int 0, .ref qo]) (wB := (fun ρ => (oC ob h h2) ++ ((mC cI cZ h a σ) ++ ((mC cI cZ h2 a2 ρ) ++ (lC cL qo wo))))) (c_X1_isRuined l D cI cZ cL ob h a h2 a2 σ τ hst hB j hj) ⟨hx, hb, hml, hown, hts⟩ q539 b_X1_isRuined (n := 1) (by decide +kernel) ⟨Nat.le_of_ble_eq_true rfl, Nat.le_of_ble_eq_true rfl⟩ hK hP hD hS hA hE (spX _ _ _ _) (fun _ => spX _ _ _ _) (ci := 1) rfl (q0 := 0) rfl rfl hl.1 rfl (Nat.le_of_ble_eq_true rfl) dL_isRuined_4 ⟨Nat.le_of_ble_eq_true rfl, Nat.le_of_ble_eq_true rfl⟩ (fun ρ_1 H locs hP hD hS => ?_)
    have hP : va_P D vwCl ((oC ob h h2) ++ ((mC cI cZ h a σ) ++ ((mC cI cZ h2 a2 ρ_1) ++ (lC cL qo wo)))) H := hP
    have hD : va_D A ((oC ob h h2) ++ ((mC cI cZ h a σ) ++ ((mC cI cZ h2 a2 ρ_1) ++ (lC cL qo wo)))) := hD
    refine lv_if_eq (tgt := 14) hx hb dL_isRuined_7 (by decide) (fun c_7 => ?_) (fun c_7 => ?_)
    · refine lv_lconst (v := 0) hx hb dL_isRuined_14 (by decide) ?_
      refine va_last hx hb hK hP hD hS 25 2 rfl rfl (vp_in_nI (n := 0) (by decide) (by decide)) dL_isRuined_15 (fun H locs hP hD hS => ?_)
      have hP : va_P D vwCl ((oC ob h h2) ++ ((mC cI cZ h a σ) ++ ((mC cI cZ h2 a2 ρ_1) ++ (lC cL qo (vp_updL wo 0 0))))) H := hP
      have hD : va_D A ((oC ob h h2) ++ ((mC cI cZ h a σ) ++ ((mC cI cZ h2 a2 ρ_1) ++ (lC cL qo (vp_updL wo 0 0))))) := hD
      refine lv_goto (tgt := 22) hx hb dL_isRuined_16 (by decide) ?_
      refine lv_iconst (v := 0) hx hb dL_isRuined_22 (by decide) ?_
      refine W.wide (k := 1) (n := 6) (Nat.le_of_ble_eq_true rfl) (Nat.le_of_ble_eq_true rfl) ?_
      subst hQ
      exact xni ⟨(ρ_1, vp_updL wo 0 0), fun _ => by show _ = (if hasF 0 σ (nI j) = 0 then 0 else σ 4 (nI j).toNatClampNeg : Int32).toInt64; rw [if_neg hf, nI_clamp (by omega)]; (first | (rw [c_7]; rfl) | (rw [(hB.2.2.2.2.1 j (by omega)).resolve_left c_7]; rfl))⟩ hx hb hr hlocks hK hP hD hS dL_isRuined_23 rfl (by rw [if_neg hf])
    · refine lv_lconst (v := 1) hx hb dL_isRuined_10 (by decide) ?_
      refine lv_goto (tgt := 15) hx hb dL_isRuined_11 (by decide) ?_
      refine va_last hx hb hK hP hD hS 25 2 rfl rfl (vp_in_nI (n := 0) (by decide) (by decide)) dL_isRuined_15 (fun H locs hP hD hS => ?_)
      have hP : va_P D vwCl ((oC ob h h2) ++ ((mC cI cZ h a σ) ++ ((mC cI cZ h2 a2 ρ_1) ++ (lC cL qo (vp_updL wo 0 1))))) H := hP
      have hD : va_D A ((oC ob h h2) ++ ((mC cI cZ h a σ) ++ ((mC cI cZ h2 a2 ρ_1) ++ (lC cL qo (vp_updL wo 0 1))))) := hD
      refine lv_goto (tgt := 22) hx hb dL_isRuined_16 (by decide) ?_
      refine lv_iconst (v := 0) hx hb dL_isRuined_22 (by decide) ?_
      refine W.wide (k := 1) (n := 6) (Nat.le_of_ble_eq_true rfl) (Nat.le_of_ble_eq_true rfl) ?_
      subst hQ
      exact xni ⟨(ρ_1, vp_updL wo 0 1), fun _ => by show _ = (if hasF 0 σ (nI j) = 0 then 0 else σ 4 (nI j).toNatClampNeg : Int32).toInt64; rw [if_neg hf, nI_clamp (by omega)]; (first | (rw [c_7]; rfl) | (rw [(hB.2.2.2.2.1 j (by omega)).resolve_left c_7]; rfl))⟩ hx hb hr hlocks hK hP hD hS dL_isRuined_23 rfl (by rw [if_neg hf])

abbrev rmL_drainsAt : Room := { frames := 8, cells := 1, slots := 6, locals := 144 }
theorem b_L_drainsAt : Cond.static yL_drainsAt ∈ LW ∧ Cond.initialized yL_drainsAt.cls ∈ LW ∧ Cond.codeWith yL_drainsAt cL_drainsAt 4 (some .int) [(0, 9, 12, 21)] ∈ LW := ⟨q541, q37, q542⟩
set_option maxHeartbeats 4000000 in
set_option maxRecDepth 100000 in
theorem c_L_drainsAt (l : Launch) (hl9 : l.stackTraces = false) (D : va_G) (cI cZ cL : ClassId) {n k : Nat} (ob h : Nat) (a : Nat → Nat) (h2 : Nat) (a2 : Nat → Nat) (σ τ : Sg) (hst : Shp n k σ) {B : Nat} (hB : Bnd B σ) (x : Int32) (qo : Nat) (wo : Nat → Int64) : MH (ι := {g9 : Sg × (Nat → Int64) // (if hasF 0 σ x = 0 then 1 else 0 : Int32) = 0 → g9.2 0 = (if hasF 0 σ x = 0 then 0 else openS σ x.toNatClampNeg : Int32).toInt64}) l yL_drainsAt cL_drainsAt 4 (some .int) [(0, 9, 12, 21)] rmL_drainsAt D (tZ cI cZ cL) [.ref ob, .int x, .ref qo] ((oC ob h h2) ++ ((mC cI cZ h a σ) ++ ((mC cI cZ h2 a2 τ) ++ (lC cL qo wo)))) (fun g9 => (oC ob h h2) ++ ((mC cI cZ h a σ) ++ ((mC cI cZ h2 a2 g9.1.1) ++ (lC cL qo g9.1.2)))) (some (.int (if hasF 0 σ x = 0 then 1 else 0))) := by
  refine MH.of (by decide) (Nat.le_of_ble_eq_true rfl) ?_
  intro p e s m args below meth c A ls Q hx hb hml hr hts hown hlocks hA hP hD hK hS hl hQ hE htab
  have hown : s.vm.findClass RL = some m.cls := hown
  have hn10 := hst.1
  have hk16 := hst.2.1
  have hl : lv_has ls 4 [(0, .ref ob), (1, .int x), (2, .ref qo)] := hl
  refine lv_aload_n hx hb dL_drainsAt_0 rfl (lv_at hl 2 rfl) ?_
  refine lv_iconst (v := 0) hx hb dL_drainsAt_1 (by decide) ?_
  refine lv_aload_n hx hb dL_drainsAt_2 rfl (lv_at hl 0 rfl) ?_
  refine lv_iload_n hx hb dL_drainsAt_3 rfl (lv_at hl 1 rfl) ?_
  by_cases hf : hasF 0 σ x = 0
  · refine MT.callV (C := RX1) (T := TX1) (N := 2) (As := [.int x]) (rest := [.int 0, .ref qo]) (c_X1_drainsAt_n l hl9 D cI cZ cL ob h a h2 a2 σ τ x hf) ⟨hx, hb, hml, hown, hts⟩ q543 b_X1_drainsAt (n := 1) (by decide +kernel) ⟨Nat.le_of_ble_eq_true rfl, Nat.le_of_ble_eq_true rfl⟩ hK hP hD hS hA hE (spX _ _ _ _) (ci := 1) rfl (q0 := 0) rfl rfl hl.1 rfl (Nat.le_of_ble_eq_true rfl) dL_drainsAt_4 ⟨Nat.le_of_ble_eq_true rfl, Nat.le_of_ble_eq_true rfl⟩ (fun ce q9 H locs hP hD hS hce hcv hcl => ?_)
    refine vx_catch (own := RL) (name := "java/lang/IndexOutOfBoundsException") hown [] ⟨0, 9, 12, 21⟩ [] (by rw [htab]; rfl) (by simp) (by decide) (by decide) (hts _ q471) (va_Nw.use rfl (hE.w 18 rfl)) hce hcv hcl ?_
    refine lv_astore_n (lv' := [(3, .ref q9), (0, .ref ob), (1, .int x), (2, .ref qo)]) hx hb dL_drainsAt_12 rfl hl (by decide) rfl (fun ls hl => ?_)
    refine lv_iconst (v := 1) hx hb dL_drainsAt_13 (by decide) ?_
    refine W.wide (k := 1) (n := 6) (Nat.le_of_ble_eq_true rfl) (Nat.le_of_ble_eq_true rfl) ?_
    subst hQ
    exact xni ⟨(τ, wo), fun z => absurd z (by rw [if_pos hf]; decide)⟩ hx hb hr hlocks hK hP hD hS dL_drainsAt_14 rfl (by rw [if_pos hf])
  · obtain ⟨j, hj, ej⟩ := (hasF_iff hst.f0 (by omega) x).resolve_left (fun z => hf z.1) |>.2
    subst ej
    refine MX.callV (C := RX1) (T := TX1) (N := 2) (As := [.int (nI j)]) (rest := [.int 0, .ref qo]) (wB := (fun ρ => (oC ob h h2) ++ ((mC cI cZ h a σ) ++ ((mC cI cZ h2 a2 ρ) ++ (lC cL qo wo))))) (c_X1_drainsAt l D cI cZ cL ob h a h2 a2 σ τ hst j hj) ⟨hx, hb, hml, hown, hts⟩ q543 b_X1_drainsAt (n := 1) (by decide +kernel) ⟨Nat.le_of_ble_eq_true rfl, Nat.le_of_ble_eq_true rfl⟩ hK hP hD hS hA hE (spX _ _ _ _) (fun _ => spX _ _ _ _) (ci := 1) rfl (q0 := 0) rfl rfl hl.1 rfl (Nat.le_of_ble_eq_true rfl) dL_drainsAt_4 ⟨Nat.le_of_ble_eq_true rfl, Nat.le_of_ble_eq_true rfl⟩ (fun ρ_1 H locs hP hD hS => ?_)
    have hP : va_P D vwCl ((oC ob h h2) ++ ((mC cI cZ h a σ) ++ ((mC cI cZ h2 a2 ρ_1) ++ (lC cL qo wo)))) H := hP
    have hD : va_D A ((oC ob h h2) ++ ((mC cI cZ h a σ) ++ ((mC cI cZ h2 a2 ρ_1) ++ (lC cL qo wo)))) := hD
    refine lv_i2l hx hb dL_drainsAt_7 rfl ?_
    refine va_last hx hb hK hP hD hS 25 2 rfl rfl (vp_in_nI (n := 0) (by decide) (by decide)) dL_drainsAt_8 (fun H locs hP hD hS => ?_)
    have hP : va_P D vwCl ((oC ob h h2) ++ ((mC cI cZ h a σ) ++ ((mC cI cZ h2 a2 ρ_1) ++ (lC cL qo (vp_updL wo 0 ((openS σ j).toInt64)))))) H := hP
    have hD : va_D A ((oC ob h h2) ++ ((mC cI cZ h a σ) ++ ((mC cI cZ h2 a2 ρ_1) ++ (lC cL qo (vp_updL wo 0 ((openS σ j).toInt64)))))) := hD
    refine lv_goto (tgt := 15) hx hb dL_drainsAt_9 (by decide) ?_
    refine lv_iconst (v := 0) hx hb dL_drainsAt_15 (by decide) ?_
    refine W.wide (k := 1) (n := 6) (Nat.le_of_ble_eq_true rfl) (Nat.le_of_ble_eq_true rfl) ?_
    subst hQ
    exact xni ⟨(ρ_1, vp_updL wo 0 ((openS σ j).toInt64)), fun _ => by show _ = (if hasF 0 σ (nI j) = 0 then 0 else openS σ (nI j).toNatClampNeg : Int32).toInt64; rw [if_neg hf, nI_clamp (by omega)]; rfl⟩ hx hb hr hlocks hK hP hD hS dL_drainsAt_16 rfl (by rw [if_neg hf])

abbrev rmL_reaches : Room := { frames := 8, cells := 1, slots := 6, locals := 144 }
theorem b_L_reaches : Cond.static yL_reaches ∈ LW ∧ Cond.initialized yL_reaches.cls ∈ LW ∧ Cond.codeWith yL_reaches cL_reaches 4 (some .int) [(0, 9, 12, 21)] ∈ LW := ⟨q545, q37, q546⟩
set_option maxHeartbeats 4000000 in
set_option maxRecDepth 100000 in
theorem c_L_reaches (l : Launch) (hl9 : l.stackTraces = false) (D : va_G) (cI cZ cL : ClassId) {n k : Nat} (ob h : Nat) (a : Nat → Nat) (h2 : Nat) (a2 : Nat → Nat) (σ τ : Sg) (hst : Shp n k σ) {B : Nat} (hB : Bnd B σ) (x : Int32) (qo : Nat) (wo : Nat → Int64) : MH (ι := {g9 : Sg × (Nat → Int64) // (if hasF 0 σ x = 0 then 1 else 0 : Int32) = 0 → g9.2 0 = (if hasF 0 σ x = 0 then 0 else reachS σ x.toNatClampNeg : Int32).toInt64}) l yL_reaches cL_reaches 4 (some .int) [(0, 9, 12, 21)] rmL_reaches D (tZ cI cZ cL) [.ref ob, .int x, .ref qo] ((oC ob h h2) ++ ((mC cI cZ h a σ) ++ ((mC cI cZ h2 a2 τ) ++ (lC cL qo wo)))) (fun g9 => (oC ob h h2) ++ ((mC cI cZ h a σ) ++ ((mC cI cZ h2 a2 g9.1.1) ++ (lC cL qo g9.1.2)))) (some (.int (if hasF 0 σ x = 0 then 1 else 0))) := by
  refine MH.of (by decide) (Nat.le_of_ble_eq_true rfl) ?_
  intro p e s m args below meth c A ls Q hx hb hml hr hts hown hlocks hA hP hD hK hS hl hQ hE htab
  have hown : s.vm.findClass RL = some m.cls := hown
  have hn10 := hst.1
  have hk16 := hst.2.1
  have hl : lv_has ls 4 [(0, .ref ob), (1, .int x), (2, .ref qo)] := hl
  refine lv_aload_n hx hb dL_reaches_0 rfl (lv_at hl 2 rfl) ?_
  refine lv_iconst (v := 0) hx hb dL_reaches_1 (by decide) ?_
  refine lv_aload_n hx hb dL_reaches_2 rfl (lv_at hl 0 rfl) ?_
  refine lv_iload_n hx hb dL_reaches_3 rfl (lv_at hl 1 rfl) ?_
  by_cases hf : hasF 0 σ x = 0
  · refine MT.callV (C := RX1) (T := TX1) (N := 2) (As := [.int x]) (rest := [.int 0, .ref qo]) (c_X1_reaches_n l hl9 D cI cZ cL ob h a h2 a2 σ τ x hf) ⟨hx, hb, hml, hown, hts⟩ q547 b_X1_reaches (n := 1) (by decide +kernel) ⟨Nat.le_of_ble_eq_true rfl, Nat.le_of_ble_eq_true rfl⟩ hK hP hD hS hA hE (spX _ _ _ _) (ci := 1) rfl (q0 := 0) rfl rfl hl.1 rfl (Nat.le_of_ble_eq_true rfl) dL_reaches_4 ⟨Nat.le_of_ble_eq_true rfl, Nat.le_of_ble_eq_true rfl⟩ (fun ce q9 H locs hP hD hS hce hcv hcl => ?_)
    refine vx_catch (own := RL) (name := "java/lang/IndexOutOfBoundsException") hown [] ⟨0, 9, 12, 21⟩ [] (by rw [htab]; rfl) (by simp) (by decide) (by decide) (hts _ q471) (va_Nw.use rfl (hE.w 18 rfl)) hce hcv hcl ?_
    refine lv_astore_n (lv' := [(3, .ref q9), (0, .ref ob), (1, .int x), (2, .ref qo)]) hx hb dL_reaches_12 rfl hl (by decide) rfl (fun ls hl => ?_)
    refine lv_iconst (v := 1) hx hb dL_reaches_13 (by decide) ?_
    refine W.wide (k := 1) (n := 6) (Nat.le_of_ble_eq_true rfl) (Nat.le_of_ble_eq_true rfl) ?_
    subst hQ
    exact xni ⟨(τ, wo), fun z => absurd z (by rw [if_pos hf]; decide)⟩ hx hb hr hlocks hK hP hD hS dL_reaches_14 rfl (by rw [if_pos hf])
  · obtain ⟨j, hj, ej⟩ := (hasF_iff hst.f0 (by omega) x).resolve_left (fun z => hf z.1) |>.2
    subst ej
    refine MX.callV (C := RX1) (T := TX1) (N := 2) (As := [.int (nI j)]) (rest := [.int 0, .ref qo]) (wB := (fun ρ => (oC ob h h2) ++ ((mC cI cZ h a σ) ++ ((mC cI cZ h2 a2 ρ) ++ (lC cL qo wo))))) (c_X1_reaches l D cI cZ cL ob h a h2 a2 σ τ hst j hj) ⟨hx, hb, hml, hown, hts⟩ q547 b_X1_reaches (n := 1) (by decide +kernel) ⟨Nat.le_of_ble_eq_true rfl, Nat.le_of_ble_eq_true rfl⟩ hK hP hD hS hA hE (spX _ _ _ _) (fun _ => spX _ _ _ _) (ci := 1) rfl (q0 := 0) rfl rfl hl.1 rfl (Nat.le_of_ble_eq_true rfl) dL_reaches_4 ⟨Nat.le_of_ble_eq_true rfl, Nat.le_of_ble_eq_true rfl⟩ (fun ρ_1 H locs hP hD hS => ?_)
    have hP : va_P D vwCl ((oC ob h h2) ++ ((mC cI cZ h a σ) ++ ((mC cI cZ h2 a2 ρ_1) ++ (lC cL qo wo)))) H := hP
    have hD : va_D A ((oC ob h h2) ++ ((mC cI cZ h a σ) ++ ((mC cI cZ h2 a2 ρ_1) ++ (lC cL qo wo)))) := hD
    refine lv_i2l hx hb dL_reaches_7 rfl ?_
    refine va_last hx hb hK hP hD hS 25 2 rfl rfl (vp_in_nI (n := 0) (by decide) (by decide)) dL_reaches_8 (fun H locs hP hD hS => ?_)
    have hP : va_P D vwCl ((oC ob h h2) ++ ((mC cI cZ h a σ) ++ ((mC cI cZ h2 a2 ρ_1) ++ (lC cL qo (vp_updL wo 0 ((reachS σ j).toInt64)))))) H := hP
    have hD : va_D A ((oC ob h h2) ++ ((mC cI cZ h a σ) ++ ((mC cI cZ h2 a2 ρ_1) ++ (lC cL qo (vp_updL wo 0 ((reachS σ j).toInt64)))))) := hD
    refine lv_goto (tgt := 15) hx hb dL_reaches_9 (by decide) ?_
    refine lv_iconst (v := 0) hx hb dL_reaches_15 (by decide) ?_
    refine W.wide (k := 1) (n := 6) (Nat.le_of_ble_eq_true rfl) (Nat.le_of_ble_eq_true rfl) ?_
    subst hQ
    exact xni ⟨(ρ_1, vp_updL wo 0 ((reachS σ j).toInt64)), fun _ => by show _ = (if hasF 0 σ (nI j) = 0 then 0 else reachS σ (nI j).toNatClampNeg : Int32).toInt64; rw [if_neg hf, nI_clamp (by omega)]; rfl⟩ hx hb hr hlocks hK hP hD hS dL_reaches_16 rfl (by rw [if_neg hf])

abbrev rmL_isPump : Room := { frames := 8, cells := 1, slots := 6, locals := 142 }
theorem b_L_isPump : Cond.static yL_isPump ∈ LW ∧ Cond.initialized yL_isPump.cls ∈ LW ∧ Cond.codeWith yL_isPump cL_isPump 4 (some .int) [(0, 16, 19, 21)] ∈ LW := ⟨q549, q37, q550⟩
set_option maxHeartbeats 4000000 in
set_option maxRecDepth 100000 in
theorem c_L_isPump (l : Launch) (hl9 : l.stackTraces = false) (D : va_G) (cI cZ cL : ClassId) {n k : Nat} (ob h : Nat) (a : Nat → Nat) (h2 : Nat) (a2 : Nat → Nat) (σ τ : Sg) (hst : Shp n k σ) {B : Nat} (hB : Bnd B σ) (x : Int32) (qo : Nat) (wo : Nat → Int64) : MH (ι := {g9 : Sg × (Nat → Int64) // (if hasF 1 σ x = 0 then 1 else 0 : Int32) = 0 → g9.2 0 = (if hasF 1 σ x = 0 then 0 else σ 9 x.toNatClampNeg : Int32).toInt64}) l yL_isPump cL_isPump 4 (some .int) [(0, 16, 19, 21)] rmL_isPump D (tZ cI cZ cL) [.ref ob, .int x, .ref qo] ((oC ob h h2) ++ ((mC cI cZ h a σ) ++ ((mC cI cZ h2 a2 τ) ++ (lC cL qo wo)))) (fun g9 => (oC ob h h2) ++ ((mC cI cZ h a σ) ++ ((mC cI cZ h2 a2 g9.1.1) ++ (lC cL qo g9.1.2)))) (some (.int (if hasF 1 σ x = 0 then 1 else 0))) := by
  refine MH.of (by decide) (Nat.le_of_ble_eq_true rfl) ?_
  intro p e s m args below meth c A ls Q hx hb hml hr hts hown hlocks hA hP hD hK hS hl hQ hE htab
  have hown : s.vm.findClass RL = some m.cls := hown
  have hn10 := hst.1
  have hk16 := hst.2.1
  have hl : lv_has ls 4 [(0, .ref ob), (1, .int x), (2, .ref qo)] := hl
  refine lv_aload_n hx hb dL_isPump_0 rfl (lv_at hl 2 rfl) ?_
  refine lv_iconst (v := 0) hx hb dL_isPump_1 (by decide) ?_
  refine lv_aload_n hx hb dL_isPump_2 rfl (lv_at hl 0 rfl) ?_
  refine lv_iload_n hx hb dL_isPump_3 rfl (lv_at hl 1 rfl) ?_
  by_cases hf : hasF 1 σ x = 0
  · refine MT.callV (C := RX1) (T := TX1) (N := 2) (As := [.int x]) (rest := [.int 0, .ref qo]) (c_X1_isPump_n l hl9 D cI cZ cL ob h a h2 a2 σ τ x hf) ⟨hx, hb, hml, hown, hts⟩ q551 b_X1_isPump (n := 1) (by decide +kernel) ⟨Nat.le_of_ble_eq_true rfl, Nat.le_of_ble_eq_true rfl⟩ hK hP hD hS hA hE (spX _ _ _ _) (ci := 1) rfl (q0 := 0) rfl rfl hl.1 rfl (Nat.le_of_ble_eq_true rfl) dL_isPump_4 ⟨Nat.le_of_ble_eq_true rfl, Nat.le_of_ble_eq_true rfl⟩ (fun ce q9 H locs hP hD hS hce hcv hcl => ?_)
    refine vx_catch (own := RL) (name := "java/lang/IndexOutOfBoundsException") hown [] ⟨0, 16, 19, 21⟩ [] (by rw [htab]; rfl) (by simp) (by decide) (by decide) (hts _ q471) (va_Nw.use rfl (hE.w 18 rfl)) hce hcv hcl ?_
    refine lv_astore_n (lv' := [(3, .ref q9), (0, .ref ob), (1, .int x), (2, .ref qo)]) hx hb dL_isPump_19 rfl hl (by decide) rfl (fun ls hl => ?_)
    refine lv_iconst (v := 1) hx hb dL_isPump_20 (by decide) ?_
    refine W.wide (k := 1) (n := 6) (Nat.le_of_ble_eq_true rfl) (Nat.le_of_ble_eq_true rfl) ?_
    subst hQ
    exact xni ⟨(τ, wo), fun z => absurd z (by rw [if_pos hf]; decide)⟩ hx hb hr hlocks hK hP hD hS dL_isPump_21 rfl (by rw [if_pos hf])
  · obtain ⟨j, hj, ej⟩ := (hasF_iff hst.f1 (by omega) x).resolve_left (fun z => hf z.1) |>.2
    subst ej
    refine MX.callV (C := RX1) (T := TX1) (N := 2) (As := [.int (nI j)]) (rest := [.int 0, .ref qo]) (wB := (fun ρ => (oC ob h h2) ++ ((mC cI cZ h a σ) ++ ((mC cI cZ h2 a2 ρ) ++ (lC cL qo wo))))) (c_X1_isPump l D cI cZ cL ob h a h2 a2 σ τ hst hB j hj) ⟨hx, hb, hml, hown, hts⟩ q551 b_X1_isPump (n := 1) (by decide +kernel) ⟨Nat.le_of_ble_eq_true rfl, Nat.le_of_ble_eq_true rfl⟩ hK hP hD hS hA hE (spX _ _ _ _) (fun _ => spX _ _ _ _) (ci := 1) rfl (q0 := 0) rfl rfl hl.1 rfl (Nat.le_of_ble_eq_true rfl) dL_isPump_4 ⟨Nat.le_of_ble_eq_true rfl, Nat.le_of_ble_eq_true rfl⟩ (fun ρ_1 H locs hP hD hS => ?_)
    have hP : va_P D vwCl ((oC ob h h2) ++ ((mC cI cZ h a σ) ++ ((mC cI cZ h2 a2 ρ_1) ++ (lC cL qo wo)))) H := hP
    have hD : va_D A ((oC ob h h2) ++ ((mC cI cZ h a σ) ++ ((mC cI cZ h2 a2 ρ_1) ++ (lC cL qo wo)))) := hD
    refine lv_if_eq (tgt := 14) hx hb dL_isPump_7 (by decide) (fun c_7 => ?_) (fun c_7 => ?_)
    · refine lv_lconst (v := 0) hx hb dL_isPump_14 (by decide) ?_
      refine va_last hx hb hK hP hD hS 25 2 rfl rfl (vp_in_nI (n := 0) (by decide) (by decide)) dL_isPump_15 (fun H locs hP hD hS => ?_)
      have hP : va_P D vwCl ((oC ob h h2) ++ ((mC cI cZ h a σ) ++ ((mC cI cZ h2 a2 ρ_1) ++ (lC cL qo (vp_updL wo 0 0))))) H := hP
      have hD : va_D A ((oC ob h h2) ++ ((mC cI cZ h a σ) ++ ((mC cI cZ h2 a2 ρ_1) ++ (lC cL qo (vp_updL wo 0 0))))) := hD
      refine lv_goto (tgt := 22) hx hb dL_isPump_16 (by decide) ?_
      refine lv_iconst (v := 0) hx hb dL_isPump_22 (by decide) ?_
      refine W.wide (k := 1) (n := 6) (Nat.le_of_ble_eq_true rfl) (Nat.le_of_ble_eq_true rfl) ?_
      subst hQ
      exact xni ⟨(ρ_1, vp_updL wo 0 0), fun _ => by show _ = (if hasF 1 σ (nI j) = 0 then 0 else σ 9 (nI j).toNatClampNeg : Int32).toInt64; rw [if_neg hf, nI_clamp (by omega)]; (first | (rw [c_7]; rfl) | (rw [(hB.2.2.2.2.2.1 j (by omega)).resolve_left c_7]; rfl))⟩ hx hb hr hlocks hK hP hD hS dL_isPump_23 rfl (by rw [if_neg hf])
    · refine lv_lconst (v := 1) hx hb dL_isPump_10 (by decide) ?_
      refine lv_goto (tgt := 15) hx hb dL_isPump_11 (by decide) ?_
      refine va_last hx hb hK hP hD hS 25 2 rfl rfl (vp_in_nI (n := 0) (by decide) (by decide)) dL_isPump_15 (fun H locs hP hD hS => ?_)
      have hP : va_P D vwCl ((oC ob h h2) ++ ((mC cI cZ h a σ) ++ ((mC cI cZ h2 a2 ρ_1) ++ (lC cL qo (vp_updL wo 0 1))))) H := hP
      have hD : va_D A ((oC ob h h2) ++ ((mC cI cZ h a σ) ++ ((mC cI cZ h2 a2 ρ_1) ++ (lC cL qo (vp_updL wo 0 1))))) := hD
      refine lv_goto (tgt := 22) hx hb dL_isPump_16 (by decide) ?_
      refine lv_iconst (v := 0) hx hb dL_isPump_22 (by decide) ?_
      refine W.wide (k := 1) (n := 6) (Nat.le_of_ble_eq_true rfl) (Nat.le_of_ble_eq_true rfl) ?_
      subst hQ
      exact xni ⟨(ρ_1, vp_updL wo 0 1), fun _ => by show _ = (if hasF 1 σ (nI j) = 0 then 0 else σ 9 (nI j).toNatClampNeg : Int32).toInt64; rw [if_neg hf, nI_clamp (by omega)]; (first | (rw [c_7]; rfl) | (rw [(hB.2.2.2.2.2.1 j (by omega)).resolve_left c_7]; rfl))⟩ hx hb hr hlocks hK hP hD hS dL_isPump_23 rfl (by rw [if_neg hf])

abbrev rmL_isOpen : Room := { frames := 8, cells := 1, slots := 6, locals := 142 }
theorem b_L_isOpen : Cond.static yL_isOpen ∈ LW ∧ Cond.initialized yL_isOpen.cls ∈ LW ∧ Cond.codeWith yL_isOpen cL_isOpen 4 (some .int) [(0, 16, 19, 21)] ∈ LW := ⟨q556, q37, q557⟩
set_option maxHeartbeats 4000000 in
set_option maxRecDepth 100000 in
theorem c_L_isOpen (l : Launch) (hl9 : l.stackTraces = false) (D : va_G) (cI cZ cL : ClassId) {n k : Nat} (ob h : Nat) (a : Nat → Nat) (h2 : Nat) (a2 : Nat → Nat) (σ τ : Sg) (hst : Shp n k σ) {B : Nat} (hB : Bnd B σ) (x : Int32) (qo : Nat) (wo : Nat → Int64) : MH (ι := {g9 : Sg × (Nat → Int64) // (if hasF 1 σ x = 0 then 1 else 0 : Int32) = 0 → g9.2 0 = (if hasF 1 σ x = 0 then 0 else σ 10 x.toNatClampNeg : Int32).toInt64}) l yL_isOpen cL_isOpen 4 (some .int) [(0, 16, 19, 21)] rmL_isOpen D (tZ cI cZ cL) [.ref ob, .int x, .ref qo] ((oC ob h h2) ++ ((mC cI cZ h a σ) ++ ((mC cI cZ h2 a2 τ) ++ (lC cL qo wo)))) (fun g9 => (oC ob h h2) ++ ((mC cI cZ h a σ) ++ ((mC cI cZ h2 a2 g9.1.1) ++ (lC cL qo g9.1.2)))) (some (.int (if hasF 1 σ x = 0 then 1 else 0))) := by
  refine MH.of (by decide) (Nat.le_of_ble_eq_true rfl) ?_
  intro p e s m args below meth c A ls Q hx hb hml hr hts hown hlocks hA hP hD hK hS hl hQ hE htab
  have hown : s.vm.findClass RL = some m.cls := hown
  have hn10 := hst.1
  have hk16 := hst.2.1
  have hl : lv_has ls 4 [(0, .ref ob), (1, .int x), (2, .ref qo)] := hl
  refine lv_aload_n hx hb dL_isOpen_0 rfl (lv_at hl 2 rfl) ?_
  refine lv_iconst (v := 0) hx hb dL_isOpen_1 (by decide) ?_
  refine lv_aload_n hx hb dL_isOpen_2 rfl (lv_at hl 0 rfl) ?_
  refine lv_iload_n hx hb dL_isOpen_3 rfl (lv_at hl 1 rfl) ?_
  by_cases hf : hasF 1 σ x = 0
  · refine MT.callV (C := RX1) (T := TX1) (N := 2) (As := [.int x]) (rest := [.int 0, .ref qo]) (c_X1_isOpen_n l hl9 D cI cZ cL ob h a h2 a2 σ τ x hf) ⟨hx, hb, hml, hown, hts⟩ q558 b_X1_isOpen (n := 1) (by decide +kernel) ⟨Nat.le_of_ble_eq_true rfl, Nat.le_of_ble_eq_true rfl⟩ hK hP hD hS hA hE (spX _ _ _ _) (ci := 1) rfl (q0 := 0) rfl rfl hl.1 rfl (Nat.le_of_ble_eq_true rfl) dL_isOpen_4 ⟨Nat.le_of_ble_eq_true rfl, Nat.le_of_ble_eq_true rfl⟩ (fun ce q9 H locs hP hD hS hce hcv hcl => ?_)
    refine vx_catch (own := RL) (name := "java/lang/IndexOutOfBoundsException") hown [] ⟨0, 16, 19, 21⟩ [] (by rw [htab]; rfl) (by simp) (by decide) (by decide) (hts _ q471) (va_Nw.use rfl (hE.w 18 rfl)) hce hcv hcl ?_
    refine lv_astore_n (lv' := [(3, .ref q9), (0, .ref ob), (1, .int x), (2, .ref qo)]) hx hb dL_isOpen_19 rfl hl (by decide) rfl (fun ls hl => ?_)
    refine lv_iconst (v := 1) hx hb dL_isOpen_20 (by decide) ?_
    refine W.wide (k := 1) (n := 6) (Nat.le_of_ble_eq_true rfl) (Nat.le_of_ble_eq_true rfl) ?_
    subst hQ
    exact xni ⟨(τ, wo), fun z => absurd z (by rw [if_pos hf]; decide)⟩ hx hb hr hlocks hK hP hD hS dL_isOpen_21 rfl (by rw [if_pos hf])
  · obtain ⟨j, hj, ej⟩ := (hasF_iff hst.f1 (by omega) x).resolve_left (fun z => hf z.1) |>.2
    subst ej
    refine MX.callV (C := RX1) (T := TX1) (N := 2) (As := [.int (nI j)]) (rest := [.int 0, .ref qo]) (wB := (fun ρ => (oC ob h h2) ++ ((mC cI cZ h a σ) ++ ((mC cI cZ h2 a2 ρ) ++ (lC cL qo wo))))) (c_X1_isOpen l D cI cZ cL ob h a h2 a2 σ τ hst hB j hj) ⟨hx, hb, hml, hown, hts⟩ q558 b_X1_isOpen (n := 1) (by decide +kernel) ⟨Nat.le_of_ble_eq_true rfl, Nat.le_of_ble_eq_true rfl⟩ hK hP hD hS hA hE (spX _ _ _ _) (fun _ => spX _ _ _ _) (ci := 1) rfl (q0 := 0) rfl rfl hl.1 rfl (Nat.le_of_ble_eq_true rfl) dL_isOpen_4 ⟨Nat.le_of_ble_eq_true rfl, Nat.le_of_ble_eq_true rfl⟩ (fun ρ_1 H locs hP hD hS => ?_)
    have hP : va_P D vwCl ((oC ob h h2) ++ ((mC cI cZ h a σ) ++ ((mC cI cZ h2 a2 ρ_1) ++ (lC cL qo wo)))) H := hP
    have hD : va_D A ((oC ob h h2) ++ ((mC cI cZ h a σ) ++ ((mC cI cZ h2 a2 ρ_1) ++ (lC cL qo wo)))) := hD
    refine lv_if_eq (tgt := 14) hx hb dL_isOpen_7 (by decide) (fun c_7 => ?_) (fun c_7 => ?_)
    · refine lv_lconst (v := 0) hx hb dL_isOpen_14 (by decide) ?_
      refine va_last hx hb hK hP hD hS 25 2 rfl rfl (vp_in_nI (n := 0) (by decide) (by decide)) dL_isOpen_15 (fun H locs hP hD hS => ?_)
      have hP : va_P D vwCl ((oC ob h h2) ++ ((mC cI cZ h a σ) ++ ((mC cI cZ h2 a2 ρ_1) ++ (lC cL qo (vp_updL wo 0 0))))) H := hP
      have hD : va_D A ((oC ob h h2) ++ ((mC cI cZ h a σ) ++ ((mC cI cZ h2 a2 ρ_1) ++ (lC cL qo (vp_updL wo 0 0))))) := hD
      refine lv_goto (tgt := 22) hx hb dL_isOpen_16 (by decide) ?_
      refine lv_iconst (v := 0) hx hb dL_isOpen_22 (by decide) ?_
      refine W.wide (k := 1) (n := 6) (Nat.le_of_ble_eq_true rfl) (Nat.le_of_ble_eq_true rfl) ?_
      subst hQ
      exact xni ⟨(ρ_1, vp_updL wo 0 0), fun _ => by show _ = (if hasF 1 σ (nI j) = 0 then 0 else σ 10 (nI j).toNatClampNeg : Int32).toInt64; rw [if_neg hf, nI_clamp (by omega)]; (first | (rw [c_7]; rfl) | (rw [(hB.2.2.2.2.2.2 j (by omega)).resolve_left c_7]; rfl))⟩ hx hb hr hlocks hK hP hD hS dL_isOpen_23 rfl (by rw [if_neg hf])
    · refine lv_lconst (v := 1) hx hb dL_isOpen_10 (by decide) ?_
      refine lv_goto (tgt := 15) hx hb dL_isOpen_11 (by decide) ?_
      refine va_last hx hb hK hP hD hS 25 2 rfl rfl (vp_in_nI (n := 0) (by decide) (by decide)) dL_isOpen_15 (fun H locs hP hD hS => ?_)
      have hP : va_P D vwCl ((oC ob h h2) ++ ((mC cI cZ h a σ) ++ ((mC cI cZ h2 a2 ρ_1) ++ (lC cL qo (vp_updL wo 0 1))))) H := hP
      have hD : va_D A ((oC ob h h2) ++ ((mC cI cZ h a σ) ++ ((mC cI cZ h2 a2 ρ_1) ++ (lC cL qo (vp_updL wo 0 1))))) := hD
      refine lv_goto (tgt := 22) hx hb dL_isOpen_16 (by decide) ?_
      refine lv_iconst (v := 0) hx hb dL_isOpen_22 (by decide) ?_
      refine W.wide (k := 1) (n := 6) (Nat.le_of_ble_eq_true rfl) (Nat.le_of_ble_eq_true rfl) ?_
      subst hQ
      exact xni ⟨(ρ_1, vp_updL wo 0 1), fun _ => by show _ = (if hasF 1 σ (nI j) = 0 then 0 else σ 10 (nI j).toNatClampNeg : Int32).toInt64; rw [if_neg hf, nI_clamp (by omega)]; (first | (rw [c_7]; rfl) | (rw [(hB.2.2.2.2.2.2 j (by omega)).resolve_left c_7]; rfl))⟩ hx hb hr hlocks hK hP hD hS dL_isOpen_23 rfl (by rw [if_neg hf])

abbrev rmL_carriedBy : Room := { frames := 8, cells := 1, slots := 6, locals := 142 }
theorem b_L_carriedBy : Cond.static yL_carriedBy ∈ LW ∧ Cond.initialized yL_carriedBy.cls ∈ LW ∧ Cond.codeWith yL_carriedBy cL_carriedBy 4 (some .int) [(0, 9, 12, 21)] ∈ LW := ⟨q560, q37, q561⟩
set_option maxHeartbeats 4000000 in
set_option maxRecDepth 100000 in
theorem c_L_carriedBy (l : Launch) (hl9 : l.stackTraces = false) (D : va_G) (cI cZ cL : ClassId) {n k : Nat} (ob h : Nat) (a : Nat → Nat) (h2 : Nat) (a2 : Nat → Nat) (σ τ : Sg) (hst : Shp n k σ) {B : Nat} (hB : Bnd B σ) (x : Int32) (qo : Nat) (wo : Nat → Int64) : MH (ι := {g9 : Sg × (Nat → Int64) // (if hasF 1 σ x = 0 then 1 else 0 : Int32) = 0 → g9.2 0 = (if hasF 1 σ x = 0 then 0 else σ 8 x.toNatClampNeg : Int32).toInt64}) l yL_carriedBy cL_carriedBy 4 (some .int) [(0, 9, 12, 21)] rmL_carriedBy D (tZ cI cZ cL) [.ref ob, .int x, .ref qo] ((oC ob h h2) ++ ((mC cI cZ h a σ) ++ ((mC cI cZ h2 a2 τ) ++ (lC cL qo wo)))) (fun g9 => (oC ob h h2) ++ ((mC cI cZ h a σ) ++ ((mC cI cZ h2 a2 g9.1.1) ++ (lC cL qo g9.1.2)))) (some (.int (if hasF 1 σ x = 0 then 1 else 0))) := by
  refine MH.of (by decide) (Nat.le_of_ble_eq_true rfl) ?_
  intro p e s m args below meth c A ls Q hx hb hml hr hts hown hlocks hA hP hD hK hS hl hQ hE htab
  have hown : s.vm.findClass RL = some m.cls := hown
  have hn10 := hst.1
  have hk16 := hst.2.1
  have hl : lv_has ls 4 [(0, .ref ob), (1, .int x), (2, .ref qo)] := hl
  refine lv_aload_n hx hb dL_carriedBy_0 rfl (lv_at hl 2 rfl) ?_
  refine lv_iconst (v := 0) hx hb dL_carriedBy_1 (by decide) ?_
  refine lv_aload_n hx hb dL_carriedBy_2 rfl (lv_at hl 0 rfl) ?_
  refine lv_iload_n hx hb dL_carriedBy_3 rfl (lv_at hl 1 rfl) ?_
  by_cases hf : hasF 1 σ x = 0
  · refine MT.callV (C := RX1) (T := TX1) (N := 2) (As := [.int x]) (rest := [.int 0, .ref qo]) (c_X1_carriedBy_n l hl9 D cI cZ cL ob h a h2 a2 σ τ x hf) ⟨hx, hb, hml, hown, hts⟩ q562 b_X1_carriedBy (n := 1) (by decide +kernel) ⟨Nat.le_of_ble_eq_true rfl, Nat.le_of_ble_eq_true rfl⟩ hK hP hD hS hA hE (spX _ _ _ _) (ci := 1) rfl (q0 := 0) rfl rfl hl.1 rfl (Nat.le_of_ble_eq_true rfl) dL_carriedBy_4 ⟨Nat.le_of_ble_eq_true rfl, Nat.le_of_ble_eq_true rfl⟩ (fun ce q9 H locs hP hD hS hce hcv hcl => ?_)
    refine vx_catch (own := RL) (name := "java/lang/IndexOutOfBoundsException") hown [] ⟨0, 9, 12, 21⟩ [] (by rw [htab]; rfl) (by simp) (by decide) (by decide) (hts _ q471) (va_Nw.use rfl (hE.w 18 rfl)) hce hcv hcl ?_
    refine lv_astore_n (lv' := [(3, .ref q9), (0, .ref ob), (1, .int x), (2, .ref qo)]) hx hb dL_carriedBy_12 rfl hl (by decide) rfl (fun ls hl => ?_)
    refine lv_iconst (v := 1) hx hb dL_carriedBy_13 (by decide) ?_
    refine W.wide (k := 1) (n := 6) (Nat.le_of_ble_eq_true rfl) (Nat.le_of_ble_eq_true rfl) ?_
    subst hQ
    exact xni ⟨(τ, wo), fun z => absurd z (by rw [if_pos hf]; decide)⟩ hx hb hr hlocks hK hP hD hS dL_carriedBy_14 rfl (by rw [if_pos hf])
  · obtain ⟨j, hj, ej⟩ := (hasF_iff hst.f1 (by omega) x).resolve_left (fun z => hf z.1) |>.2
    subst ej
    refine MX.callV (C := RX1) (T := TX1) (N := 2) (As := [.int (nI j)]) (rest := [.int 0, .ref qo]) (wB := (fun ρ => (oC ob h h2) ++ ((mC cI cZ h a σ) ++ ((mC cI cZ h2 a2 ρ) ++ (lC cL qo wo))))) (c_X1_carriedBy l D cI cZ cL ob h a h2 a2 σ τ hst j hj) ⟨hx, hb, hml, hown, hts⟩ q562 b_X1_carriedBy (n := 1) (by decide +kernel) ⟨Nat.le_of_ble_eq_true rfl, Nat.le_of_ble_eq_true rfl⟩ hK hP hD hS hA hE (spX _ _ _ _) (fun _ => spX _ _ _ _) (ci := 1) rfl (q0 := 0) rfl rfl hl.1 rfl (Nat.le_of_ble_eq_true rfl) dL_carriedBy_4 ⟨Nat.le_of_ble_eq_true rfl, Nat.le_of_ble_eq_true rfl⟩ (fun ρ_1 H locs hP hD hS => ?_)
    have hP : va_P D vwCl ((oC ob h h2) ++ ((mC cI cZ h a σ) ++ ((mC cI cZ h2 a2 ρ_1) ++ (lC cL qo wo)))) H := hP
    have hD : va_D A ((oC ob h h2) ++ ((mC cI cZ h a σ) ++ ((mC cI cZ h2 a2 ρ_1) ++ (lC cL qo wo)))) := hD
    refine lv_i2l hx hb dL_carriedBy_7 rfl ?_
    refine va_last hx hb hK hP hD hS 25 2 rfl rfl (vp_in_nI (n := 0) (by decide) (by decide)) dL_carriedBy_8 (fun H locs hP hD hS => ?_)
    have hP : va_P D vwCl ((oC ob h h2) ++ ((mC cI cZ h a σ) ++ ((mC cI cZ h2 a2 ρ_1) ++ (lC cL qo (vp_updL wo 0 ((σ 8 j).toInt64)))))) H := hP
    have hD : va_D A ((oC ob h h2) ++ ((mC cI cZ h a σ) ++ ((mC cI cZ h2 a2 ρ_1) ++ (lC cL qo (vp_updL wo 0 ((σ 8 j).toInt64)))))) := hD
    refine lv_goto (tgt := 15) hx hb dL_carriedBy_9 (by decide) ?_
    refine lv_iconst (v := 0) hx hb dL_carriedBy_15 (by decide) ?_
    refine W.wide (k := 1) (n := 6) (Nat.le_of_ble_eq_true rfl) (Nat.le_of_ble_eq_true rfl) ?_
    subst hQ
    exact xni ⟨(ρ_1, vp_updL wo 0 ((σ 8 j).toInt64)), fun _ => by show _ = (if hasF 1 σ (nI j) = 0 then 0 else σ 8 (nI j).toNatClampNeg : Int32).toInt64; rw [if_neg hf, nI_clamp (by omega)]; rfl⟩ hx hb hr hlocks hK hP hD hS dL_carriedBy_16 rfl (by rw [if_neg hf])

abbrev rmL_wouldCarry : Room := { frames := 8, cells := 1, slots := 6, locals := 142 }
theorem b_L_wouldCarry : Cond.static yL_wouldCarry ∈ LW ∧ Cond.initialized yL_wouldCarry.cls ∈ LW ∧ Cond.codeWith yL_wouldCarry cL_wouldCarry 4 (some .int) [(0, 9, 12, 21)] ∈ LW := ⟨q564, q37, q565⟩
set_option maxHeartbeats 4000000 in
set_option maxRecDepth 100000 in
theorem c_L_wouldCarry (l : Launch) (hl9 : l.stackTraces = false) (D : va_G) (cI cZ cL : ClassId) {n k : Nat} (ob h : Nat) (a : Nat → Nat) (h2 : Nat) (a2 : Nat → Nat) (σ τ : Sg) (hst : Shp n k σ) {B : Nat} (hB : Bnd B σ) (x : Int32) (qo : Nat) (wo : Nat → Int64) : MH (ι := {g9 : Sg × (Nat → Int64) // (if hasF 1 σ x = 0 then 1 else 0 : Int32) = 0 → g9.2 0 = (if hasF 1 σ x = 0 then 0 else ab (flow σ x.toNatClampNeg) : Int32).toInt64}) l yL_wouldCarry cL_wouldCarry 4 (some .int) [(0, 9, 12, 21)] rmL_wouldCarry D (tZ cI cZ cL) [.ref ob, .int x, .ref qo] ((oC ob h h2) ++ ((mC cI cZ h a σ) ++ ((mC cI cZ h2 a2 τ) ++ (lC cL qo wo)))) (fun g9 => (oC ob h h2) ++ ((mC cI cZ h a σ) ++ ((mC cI cZ h2 a2 g9.1.1) ++ (lC cL qo g9.1.2)))) (some (.int (if hasF 1 σ x = 0 then 1 else 0))) := by
  refine MH.of (by decide) (Nat.le_of_ble_eq_true rfl) ?_
  intro p e s m args below meth c A ls Q hx hb hml hr hts hown hlocks hA hP hD hK hS hl hQ hE htab
  have hown : s.vm.findClass RL = some m.cls := hown
  have hn10 := hst.1
  have hk16 := hst.2.1
  have hl : lv_has ls 4 [(0, .ref ob), (1, .int x), (2, .ref qo)] := hl
  refine lv_aload_n hx hb dL_wouldCarry_0 rfl (lv_at hl 2 rfl) ?_
  refine lv_iconst (v := 0) hx hb dL_wouldCarry_1 (by decide) ?_
  refine lv_aload_n hx hb dL_wouldCarry_2 rfl (lv_at hl 0 rfl) ?_
  refine lv_iload_n hx hb dL_wouldCarry_3 rfl (lv_at hl 1 rfl) ?_
  by_cases hf : hasF 1 σ x = 0
  · refine MT.callV (C := RX1) (T := TX1) (N := 2) (As := [.int x]) (rest := [.int 0, .ref qo]) (c_X1_wouldCarry_n l hl9 D cI cZ cL ob h a h2 a2 σ τ x hf) ⟨hx, hb, hml, hown, hts⟩ q566 b_X1_wouldCarry (n := 1) (by decide +kernel) ⟨Nat.le_of_ble_eq_true rfl, Nat.le_of_ble_eq_true rfl⟩ hK hP hD hS hA hE (spX _ _ _ _) (ci := 1) rfl (q0 := 0) rfl rfl hl.1 rfl (Nat.le_of_ble_eq_true rfl) dL_wouldCarry_4 ⟨Nat.le_of_ble_eq_true rfl, Nat.le_of_ble_eq_true rfl⟩ (fun ce q9 H locs hP hD hS hce hcv hcl => ?_)
    refine vx_catch (own := RL) (name := "java/lang/IndexOutOfBoundsException") hown [] ⟨0, 9, 12, 21⟩ [] (by rw [htab]; rfl) (by simp) (by decide) (by decide) (hts _ q471) (va_Nw.use rfl (hE.w 18 rfl)) hce hcv hcl ?_
    refine lv_astore_n (lv' := [(3, .ref q9), (0, .ref ob), (1, .int x), (2, .ref qo)]) hx hb dL_wouldCarry_12 rfl hl (by decide) rfl (fun ls hl => ?_)
    refine lv_iconst (v := 1) hx hb dL_wouldCarry_13 (by decide) ?_
    refine W.wide (k := 1) (n := 6) (Nat.le_of_ble_eq_true rfl) (Nat.le_of_ble_eq_true rfl) ?_
    subst hQ
    exact xni ⟨(τ, wo), fun z => absurd z (by rw [if_pos hf]; decide)⟩ hx hb hr hlocks hK hP hD hS dL_wouldCarry_14 rfl (by rw [if_pos hf])
  · obtain ⟨j, hj, ej⟩ := (hasF_iff hst.f1 (by omega) x).resolve_left (fun z => hf z.1) |>.2
    subst ej
    refine MX.callV (C := RX1) (T := TX1) (N := 2) (As := [.int (nI j)]) (rest := [.int 0, .ref qo]) (wB := (fun ρ => (oC ob h h2) ++ ((mC cI cZ h a σ) ++ ((mC cI cZ h2 a2 ρ) ++ (lC cL qo wo))))) (c_X1_wouldCarry l D cI cZ cL ob h a h2 a2 σ τ hst j hj) ⟨hx, hb, hml, hown, hts⟩ q566 b_X1_wouldCarry (n := 1) (by decide +kernel) ⟨Nat.le_of_ble_eq_true rfl, Nat.le_of_ble_eq_true rfl⟩ hK hP hD hS hA hE (spX _ _ _ _) (fun _ => spX _ _ _ _) (ci := 1) rfl (q0 := 0) rfl rfl hl.1 rfl (Nat.le_of_ble_eq_true rfl) dL_wouldCarry_4 ⟨Nat.le_of_ble_eq_true rfl, Nat.le_of_ble_eq_true rfl⟩ (fun ρ_1 H locs hP hD hS => ?_)
    have hP : va_P D vwCl ((oC ob h h2) ++ ((mC cI cZ h a σ) ++ ((mC cI cZ h2 a2 ρ_1) ++ (lC cL qo wo)))) H := hP
    have hD : va_D A ((oC ob h h2) ++ ((mC cI cZ h a σ) ++ ((mC cI cZ h2 a2 ρ_1) ++ (lC cL qo wo)))) := hD
    refine lv_i2l hx hb dL_wouldCarry_7 rfl ?_
    refine va_last hx hb hK hP hD hS 25 2 rfl rfl (vp_in_nI (n := 0) (by decide) (by decide)) dL_wouldCarry_8 (fun H locs hP hD hS => ?_)
    have hP : va_P D vwCl ((oC ob h h2) ++ ((mC cI cZ h a σ) ++ ((mC cI cZ h2 a2 ρ_1) ++ (lC cL qo (vp_updL wo 0 ((ab (flow σ j)).toInt64)))))) H := hP
    have hD : va_D A ((oC ob h h2) ++ ((mC cI cZ h a σ) ++ ((mC cI cZ h2 a2 ρ_1) ++ (lC cL qo (vp_updL wo 0 ((ab (flow σ j)).toInt64)))))) := hD
    refine lv_goto (tgt := 15) hx hb dL_wouldCarry_9 (by decide) ?_
    refine lv_iconst (v := 0) hx hb dL_wouldCarry_15 (by decide) ?_
    refine W.wide (k := 1) (n := 6) (Nat.le_of_ble_eq_true rfl) (Nat.le_of_ble_eq_true rfl) ?_
    subst hQ
    exact xni ⟨(ρ_1, vp_updL wo 0 ((ab (flow σ j)).toInt64)), fun _ => by show _ = (if hasF 1 σ (nI j) = 0 then 0 else ab (flow σ (nI j).toNatClampNeg) : Int32).toInt64; rw [if_neg hf, nI_clamp (by omega)]; rfl⟩ hx hb hr hlocks hK hP hD hS dL_wouldCarry_16 rfl (by rw [if_neg hf])

abbrev rmL_hoursUntilRuined : Room := { frames := 8, cells := 1, slots := 6, locals := 143 }
theorem b_L_hoursUntilRuined : Cond.static yL_hoursUntilRuined ∈ LW ∧ Cond.initialized yL_hoursUntilRuined.cls ∈ LW ∧ Cond.codeWith yL_hoursUntilRuined cL_hoursUntilRuined 4 (some .int) [(0, 9, 12, 21)] ∈ LW := ⟨q568, q37, q569⟩
set_option maxHeartbeats 4000000 in
set_option maxRecDepth 100000 in
theorem c_L_hoursUntilRuined (l : Launch) (hl9 : l.stackTraces = false) (D : va_G) (cI cZ cL : ClassId) {n k : Nat} (ob h : Nat) (a : Nat → Nat) (h2 : Nat) (a2 : Nat → Nat) (σ τ : Sg) (hst : Shp n k σ) {B : Nat} (hB : Bnd B σ) (x : Int32) (qo : Nat) (wo : Nat → Int64) : MH (ι := {g9 : Sg × (Nat → Int64) // (if hasF 0 σ x = 0 then 1 else 0 : Int32) = 0 → g9.2 0 = (if hasF 0 σ x = 0 then 0 else untilS σ x.toNatClampNeg : Int32).toInt64}) l yL_hoursUntilRuined cL_hoursUntilRuined 4 (some .int) [(0, 9, 12, 21)] rmL_hoursUntilRuined D (tZ cI cZ cL) [.ref ob, .int x, .ref qo] ((oC ob h h2) ++ ((mC cI cZ h a σ) ++ ((mC cI cZ h2 a2 τ) ++ (lC cL qo wo)))) (fun g9 => (oC ob h h2) ++ ((mC cI cZ h a σ) ++ ((mC cI cZ h2 a2 g9.1.1) ++ (lC cL qo g9.1.2)))) (some (.int (if hasF 0 σ x = 0 then 1 else 0))) := by
  refine MH.of (by decide) (Nat.le_of_ble_eq_true rfl) ?_
  intro p e s m args below meth c A ls Q hx hb hml hr hts hown hlocks hA hP hD hK hS hl hQ hE htab
  have hown : s.vm.findClass RL = some m.cls := hown
  have hn10 := hst.1
  have hk16 := hst.2.1
  have hl : lv_has ls 4 [(0, .ref ob), (1, .int x), (2, .ref qo)] := hl
  refine lv_aload_n hx hb dL_hoursUntilRuined_0 rfl (lv_at hl 2 rfl) ?_
  refine lv_iconst (v := 0) hx hb dL_hoursUntilRuined_1 (by decide) ?_
  refine lv_aload_n hx hb dL_hoursUntilRuined_2 rfl (lv_at hl 0 rfl) ?_
  refine lv_iload_n hx hb dL_hoursUntilRuined_3 rfl (lv_at hl 1 rfl) ?_
  by_cases hf : hasF 0 σ x = 0
  · refine MT.callV (C := RX1) (T := TX1) (N := 2) (As := [.int x]) (rest := [.int 0, .ref qo]) (c_X1_hoursUntilRuined_n l hl9 D cI cZ cL ob h a h2 a2 σ τ x hf) ⟨hx, hb, hml, hown, hts⟩ q570 b_X1_hoursUntilRuined (n := 1) (by decide +kernel) ⟨Nat.le_of_ble_eq_true rfl, Nat.le_of_ble_eq_true rfl⟩ hK hP hD hS hA hE (spX _ _ _ _) (ci := 1) rfl (q0 := 0) rfl rfl hl.1 rfl (Nat.le_of_ble_eq_true rfl) dL_hoursUntilRuined_4 ⟨Nat.le_of_ble_eq_true rfl, Nat.le_of_ble_eq_true rfl⟩ (fun ce q9 H locs hP hD hS hce hcv hcl => ?_)
    refine vx_catch (own := RL) (name := "java/lang/IndexOutOfBoundsException") hown [] ⟨0, 9, 12, 21⟩ [] (by rw [htab]; rfl) (by simp) (by decide) (by decide) (hts _ q471) (va_Nw.use rfl (hE.w 18 rfl)) hce hcv hcl ?_
    refine lv_astore_n (lv' := [(3, .ref q9), (0, .ref ob), (1, .int x), (2, .ref qo)]) hx hb dL_hoursUntilRuined_12 rfl hl (by decide) rfl (fun ls hl => ?_)
    refine lv_iconst (v := 1) hx hb dL_hoursUntilRuined_13 (by decide) ?_
    refine W.wide (k := 1) (n := 6) (Nat.le_of_ble_eq_true rfl) (Nat.le_of_ble_eq_true rfl) ?_
    subst hQ
    exact xni ⟨(τ, wo), fun z => absurd z (by rw [if_pos hf]; decide)⟩ hx hb hr hlocks hK hP hD hS dL_hoursUntilRuined_14 rfl (by rw [if_pos hf])
  · obtain ⟨j, hj, ej⟩ := (hasF_iff hst.f0 (by omega) x).resolve_left (fun z => hf z.1) |>.2
    subst ej
    refine MX.callV (C := RX1) (T := TX1) (N := 2) (As := [.int (nI j)]) (rest := [.int 0, .ref qo]) (wB := (fun ρ => (oC ob h h2) ++ ((mC cI cZ h a σ) ++ ((mC cI cZ h2 a2 ρ) ++ (lC cL qo wo))))) (c_X1_hoursUntilRuined l D cI cZ cL ob h a h2 a2 σ τ hst hB j hj) ⟨hx, hb, hml, hown, hts⟩ q570 b_X1_hoursUntilRuined (n := 1) (by decide +kernel) ⟨Nat.le_of_ble_eq_true rfl, Nat.le_of_ble_eq_true rfl⟩ hK hP hD hS hA hE (spX _ _ _ _) (fun _ => spX _ _ _ _) (ci := 1) rfl (q0 := 0) rfl rfl hl.1 rfl (Nat.le_of_ble_eq_true rfl) dL_hoursUntilRuined_4 ⟨Nat.le_of_ble_eq_true rfl, Nat.le_of_ble_eq_true rfl⟩ (fun ρ_1 H locs hP hD hS => ?_)
    have hP : va_P D vwCl ((oC ob h h2) ++ ((mC cI cZ h a σ) ++ ((mC cI cZ h2 a2 ρ_1) ++ (lC cL qo wo)))) H := hP
    have hD : va_D A ((oC ob h h2) ++ ((mC cI cZ h a σ) ++ ((mC cI cZ h2 a2 ρ_1) ++ (lC cL qo wo)))) := hD
    refine lv_i2l hx hb dL_hoursUntilRuined_7 rfl ?_
    refine va_last hx hb hK hP hD hS 25 2 rfl rfl (vp_in_nI (n := 0) (by decide) (by decide)) dL_hoursUntilRuined_8 (fun H locs hP hD hS => ?_)
    have hP : va_P D vwCl ((oC ob h h2) ++ ((mC cI cZ h a σ) ++ ((mC cI cZ h2 a2 ρ_1) ++ (lC cL qo (vp_updL wo 0 ((untilS σ j).toInt64)))))) H := hP
    have hD : va_D A ((oC ob h h2) ++ ((mC cI cZ h a σ) ++ ((mC cI cZ h2 a2 ρ_1) ++ (lC cL qo (vp_updL wo 0 ((untilS σ j).toInt64)))))) := hD
    refine lv_goto (tgt := 15) hx hb dL_hoursUntilRuined_9 (by decide) ?_
    refine lv_iconst (v := 0) hx hb dL_hoursUntilRuined_15 (by decide) ?_
    refine W.wide (k := 1) (n := 6) (Nat.le_of_ble_eq_true rfl) (Nat.le_of_ble_eq_true rfl) ?_
    subst hQ
    exact xni ⟨(ρ_1, vp_updL wo 0 ((untilS σ j).toInt64)), fun _ => by show _ = (if hasF 0 σ (nI j) = 0 then 0 else untilS σ (nI j).toNatClampNeg : Int32).toInt64; rw [if_neg hf, nI_clamp (by omega)]; rfl⟩ hx hb hr hlocks hK hP hD hS dL_hoursUntilRuined_16 rfl (by rw [if_neg hf])

abbrev rmL_flood : Room := { frames := 8, cells := 1, slots := 6, locals := 144 }
theorem b_L_flood : Cond.static yL_flood ∈ LW ∧ Cond.initialized yL_flood.cls ∈ LW ∧ Cond.codeWith yL_flood cL_flood 5 (some .int) [(0, 10, 13, 21), (0, 10, 17, 13)] ∈ LW := ⟨q508, q37, q509⟩
set_option maxHeartbeats 4000000 in
set_option maxRecDepth 100000 in
theorem c_L_flood (l : Launch) (hl9 : l.stackTraces = false) (D : va_G) (cI cZ cL : ClassId) {n k : Nat} (ob h : Nat) (a : Nat → Nat) (h2 : Nat) (a2 : Nat → Nat) (σ τ : Sg) (hst : Shp n k σ) {B : Nat} (hB : Bnd B σ) (x : Int32) (y : Int32) (qo : Nat) (wo : Nat → Int64) : MH (ι := {g9 : Sg × (Nat → Int64) // (if hasF 0 σ x = 0 then 1 else if inR y 1 50 = 0 then 2 else 0 : Int32) = 0 → g9.2 0 = (if hasF 0 σ x = 0 then 0 else if inR y 1 50 = 0 then 0 else addW σ x.toNatClampNeg y 2 x.toNatClampNeg : Int32).toInt64}) l yL_flood cL_flood 5 (some .int) [(0, 10, 13, 21), (0, 10, 17, 13)] rmL_flood D (tZ cI cZ cL) [.ref ob, .int x, .int y, .ref qo] ((oC ob h h2) ++ ((mC cI cZ h a σ) ++ ((mC cI cZ h2 a2 τ) ++ (lC cL qo wo)))) (fun g9 => (oC ob h h2) ++ ((mC cI cZ h a (if hasF 0 σ x = 0 then σ else if inR y 1 50 = 0 then σ else addW σ x.toNatClampNeg y)) ++ ((mC cI cZ h2 a2 g9.1.1) ++ (lC cL qo g9.1.2)))) (some (.int (if hasF 0 σ x = 0 then 1 else if inR y 1 50 = 0 then 2 else 0))) := by
  refine MH.of (by decide) (Nat.le_of_ble_eq_true rfl) ?_
  intro p e s m args below meth c A ls Q hx hb hml hr hts hown hlocks hA hP hD hK hS hl hQ hE htab
  have hown : s.vm.findClass RL = some m.cls := hown
  have hn10 := hst.1
  have hk16 := hst.2.1
  have hl : lv_has ls 5 [(0, .ref ob), (1, .int x), (2, .int y), (3, .ref qo)] := hl
  refine lv_aload_n hx hb dL_flood_0 rfl (lv_at hl 3 rfl) ?_
  refine lv_iconst (v := 0) hx hb dL_flood_1 (by decide) ?_
  refine lv_aload_n hx hb dL_flood_2 rfl (lv_at hl 0 rfl) ?_
  refine lv_iload_n hx hb dL_flood_3 rfl (lv_at hl 1 rfl) ?_
  refine lv_iload_n hx hb dL_flood_4 rfl (lv_at hl 2 rfl) ?_
  by_cases hf : hasF 0 σ x = 0
  · refine MT.callV (C := RX1) (T := TX1) (N := 2) (As := [.int x, .int y]) (rest := [.int 0, .ref qo]) (c_X1_flood_n l hl9 D cI cZ cL ob h a h2 a2 σ τ x y hf) ⟨hx, hb, hml, hown, hts⟩ q510 b_X1_flood (n := 2) (by decide +kernel) ⟨Nat.le_of_ble_eq_true rfl, Nat.le_of_ble_eq_true rfl⟩ hK hP hD hS hA hE (spX _ _ _ _) (ci := 1) rfl (q0 := 0) rfl rfl hl.1 rfl (Nat.le_of_ble_eq_true rfl) dL_flood_5 ⟨Nat.le_of_ble_eq_true rfl, Nat.le_of_ble_eq_true rfl⟩ (fun ce q9 H locs hP hD hS hce hcv hcl => ?_)
    refine vx_catch (own := RL) (name := "java/lang/IndexOutOfBoundsException") hown [] ⟨0, 10, 13, 21⟩ [⟨0, 10, 17, 13⟩] (by rw [htab]; rfl) (by simp) (by decide) (by decide) (hts _ q471) (va_Nw.use rfl (hE.w 18 rfl)) hce hcv hcl ?_
    refine lv_astore (lv' := [(4, .ref q9), (0, .ref ob), (1, .int x), (2, .int y), (3, .ref qo)]) hx hb dL_flood_13 hl (by decide) rfl (fun ls hl => ?_)
    refine lv_iconst (v := 1) hx hb dL_flood_15 (by decide) ?_
    refine W.wide (k := 1) (n := 6) (Nat.le_of_ble_eq_true rfl) (Nat.le_of_ble_eq_true rfl) ?_
    subst hQ
    exact xni ⟨(τ, wo), fun z => absurd z (by rw [if_pos hf]; decide)⟩ hx hb hr hlocks hK hP hD hS dL_flood_16 (by show (oC ob h h2) ++ ((mC cI cZ h a σ) ++ ((mC cI cZ h2 a2 τ) ++ (lC cL qo wo))) = (oC ob h h2) ++ ((mC cI cZ h a (if hasF 0 σ x = 0 then σ else if inR y 1 50 = 0 then σ else addW σ x.toNatClampNeg y)) ++ ((mC cI cZ h2 a2 τ) ++ (lC cL qo wo))); rw [if_pos hf]) (by rw [if_pos hf])
  · by_cases hr0 : inR y 1 50 = 0
    · refine MT.callV (C := RX1) (T := TX1) (N := 2) (As := [.int x, .int y]) (rest := [.int 0, .ref qo]) (c_X1_flood_m l hl9 D cI cZ cL ob h a h2 a2 σ τ x y (hasF_1of hf) hr0) ⟨hx, hb, hml, hown, hts⟩ q510 b_X1_flood (n := 2) (by decide +kernel) ⟨Nat.le_of_ble_eq_true rfl, Nat.le_of_ble_eq_true rfl⟩ hK hP hD hS hA hE (spX _ _ _ _) (ci := 1) rfl (q0 := 0) rfl rfl hl.1 rfl (Nat.le_of_ble_eq_true rfl) dL_flood_5 ⟨Nat.le_of_ble_eq_true rfl, Nat.le_of_ble_eq_true rfl⟩ (fun ce q9 H locs hP hD hS hce hcv hcl => ?_)
      refine vx_catch (own := RL) (name := "java/lang/IllegalArgumentException") hown [⟨0, 10, 13, 21⟩] ⟨0, 10, 17, 13⟩ [] (by rw [htab]; rfl) (fun z hz => by simp only [List.mem_cons, List.not_mem_nil, or_false] at hz; subst hz; exact Or.inr ⟨by decide, "java/lang/IndexOutOfBoundsException", hts _ q471, hE.n 1 rfl⟩) (by decide) (by decide) (hts _ q442) (va_Nw.use rfl (hE.w 16 rfl)) hce hcv hcl ?_
      refine lv_astore (lv' := [(4, .ref q9), (0, .ref ob), (1, .int x), (2, .int y), (3, .ref qo)]) hx hb dL_flood_17 hl (by decide) rfl (fun ls hl => ?_)
      refine lv_iconst (v := 2) hx hb dL_flood_19 (by decide) ?_
      refine W.wide (k := 1) (n := 6) (Nat.le_of_ble_eq_true rfl) (Nat.le_of_ble_eq_true rfl) ?_
      subst hQ
      exact xni ⟨(τ, wo), fun z => absurd z (by rw [if_neg hf, if_pos hr0]; decide)⟩ hx hb hr hlocks hK hP hD hS dL_flood_20 (by show (oC ob h h2) ++ ((mC cI cZ h a σ) ++ ((mC cI cZ h2 a2 τ) ++ (lC cL qo wo))) = (oC ob h h2) ++ ((mC cI cZ h a (if hasF 0 σ x = 0 then σ else if inR y 1 50 = 0 then σ else addW σ x.toNatClampNeg y)) ++ ((mC cI cZ h2 a2 τ) ++ (lC cL qo wo))); rw [if_neg hf, if_pos hr0]) (by rw [if_neg hf, if_pos hr0])
    · obtain ⟨j, hj, ej⟩ := (hasF_iff hst.f0 (by omega) x).resolve_left (fun z => hf z.1) |>.2
      subst ej
      refine MX.callV (C := RX1) (T := TX1) (N := 2) (As := [.int (nI j), .int y]) (rest := [.int 0, .ref qo]) (wB := (fun ρ => (oC ob h h2) ++ ((mC cI cZ h a (addW σ j y)) ++ ((mC cI cZ h2 a2 ρ) ++ (lC cL qo wo))))) (c_X1_flood l D cI cZ cL ob h a h2 a2 σ τ hst j hj y hr0) ⟨hx, hb, hml, hown, hts⟩ q510 b_X1_flood (n := 2) (by decide +kernel) ⟨Nat.le_of_ble_eq_true rfl, Nat.le_of_ble_eq_true rfl⟩ hK hP hD hS hA hE (spX _ _ _ _) (fun _ => spX _ _ _ _) (ci := 1) rfl (q0 := 0) rfl rfl hl.1 rfl (Nat.le_of_ble_eq_true rfl) dL_flood_5 ⟨Nat.le_of_ble_eq_true rfl, Nat.le_of_ble_eq_true rfl⟩ (fun ρ_1 H locs hP hD hS => ?_)
      have hP : va_P D vwCl ((oC ob h h2) ++ ((mC cI cZ h a (addW σ j y)) ++ ((mC cI cZ h2 a2 ρ_1) ++ (lC cL qo wo)))) H := hP
      have hD : va_D A ((oC ob h h2) ++ ((mC cI cZ h a (addW σ j y)) ++ ((mC cI cZ h2 a2 ρ_1) ++ (lC cL qo wo)))) := hD
      refine lv_i2l hx hb dL_flood_8 rfl ?_
      refine va_last hx hb hK hP hD hS 25 2 rfl rfl (vp_in_nI (n := 0) (by decide) (by decide)) dL_flood_9 (fun H locs hP hD hS => ?_)
      have hP : va_P D vwCl ((oC ob h h2) ++ ((mC cI cZ h a (addW σ j y)) ++ ((mC cI cZ h2 a2 ρ_1) ++ (lC cL qo (vp_updL wo 0 ((addW σ j y 2 j).toInt64)))))) H := hP
      have hD : va_D A ((oC ob h h2) ++ ((mC cI cZ h a (addW σ j y)) ++ ((mC cI cZ h2 a2 ρ_1) ++ (lC cL qo (vp_updL wo 0 ((addW σ j y 2 j).toInt64)))))) := hD
      refine lv_goto (tgt := 21) hx hb dL_flood_10 (by decide) ?_
      refine lv_iconst (v := 0) hx hb dL_flood_21 (by decide) ?_
      refine W.wide (k := 1) (n := 6) (Nat.le_of_ble_eq_true rfl) (Nat.le_of_ble_eq_true rfl) ?_
      subst hQ
      exact xni ⟨(ρ_1, vp_updL wo 0 ((addW σ j y 2 j).toInt64)), fun _ => by show _ = (if hasF 0 σ (nI j) = 0 then 0 else if inR y 1 50 = 0 then 0 else addW σ (nI j).toNatClampNeg y 2 (nI j).toNatClampNeg : Int32).toInt64; rw [if_neg hf, if_neg hr0, nI_clamp (by omega)]; rfl⟩ hx hb hr hlocks hK hP hD hS dL_flood_22 (by show (oC ob h h2) ++ ((mC cI cZ h a (addW σ j y)) ++ ((mC cI cZ h2 a2 ρ_1) ++ (lC cL qo (vp_updL wo 0 ((addW σ j y 2 j).toInt64))))) = (oC ob h h2) ++ ((mC cI cZ h a (if hasF 0 σ (nI j) = 0 then σ else if inR y 1 50 = 0 then σ else addW σ (nI j).toNatClampNeg y)) ++ ((mC cI cZ h2 a2 ρ_1) ++ (lC cL qo (vp_updL wo 0 ((addW σ j y 2 j).toInt64))))); rw [if_neg hf, if_neg hr0, nI_clamp (by omega)]) (by rw [if_neg hf, if_neg hr0])

abbrev rmL_waterIn : Room := { frames := 8, cells := 1, slots := 6, locals := 149 }
theorem b_L_waterIn : Cond.static yL_waterIn ∈ LW ∧ Cond.initialized yL_waterIn.cls ∈ LW ∧ Cond.codeWith yL_waterIn cL_waterIn 5 (some .int) [(0, 10, 13, 21), (0, 10, 17, 13)] ∈ LW := ⟨q576, q37, q577⟩
set_option maxHeartbeats 4000000 in
set_option maxRecDepth 100000 in
theorem c_L_waterIn (l : Launch) (hl9 : l.stackTraces = false) (D : va_G) (cI cZ cL : ClassId) {n k : Nat} (ob h : Nat) (a : Nat → Nat) (h2 : Nat) (a2 : Nat → Nat) (σ τ : Sg) (hst : Shp n k σ) {B : Nat} (hB : Bnd B σ) (x : Int32) (y : Int32) (qo : Nat) (wo : Nat → Int64) : MH (ι := {g9 : Sg × (Nat → Int64) // (if hasF 0 σ x = 0 then 1 else if inR y 1 48 = 0 then 2 else 0 : Int32) = 0 → g9.2 0 = (if hasF 0 σ x = 0 then 0 else if inR y 1 48 = 0 then 0 else hours y.toNatClampNeg σ 2 x.toNatClampNeg : Int32).toInt64}) l yL_waterIn cL_waterIn 5 (some .int) [(0, 10, 13, 21), (0, 10, 17, 13)] rmL_waterIn D (tZ cI cZ cL) [.ref ob, .int x, .int y, .ref qo] ((oC ob h h2) ++ ((mC cI cZ h a σ) ++ ((mC cI cZ h2 a2 τ) ++ (lC cL qo wo)))) (fun g9 => (oC ob h h2) ++ ((mC cI cZ h a σ) ++ ((mC cI cZ h2 a2 g9.1.1) ++ (lC cL qo g9.1.2)))) (some (.int (if hasF 0 σ x = 0 then 1 else if inR y 1 48 = 0 then 2 else 0))) := by
  refine MH.of (by decide) (Nat.le_of_ble_eq_true rfl) ?_
  intro p e s m args below meth c A ls Q hx hb hml hr hts hown hlocks hA hP hD hK hS hl hQ hE htab
  have hown : s.vm.findClass RL = some m.cls := hown
  have hn10 := hst.1
  have hk16 := hst.2.1
  have hl : lv_has ls 5 [(0, .ref ob), (1, .int x), (2, .int y), (3, .ref qo)] := hl
  refine lv_aload_n hx hb dL_waterIn_0 rfl (lv_at hl 3 rfl) ?_
  refine lv_iconst (v := 0) hx hb dL_waterIn_1 (by decide) ?_
  refine lv_aload_n hx hb dL_waterIn_2 rfl (lv_at hl 0 rfl) ?_
  refine lv_iload_n hx hb dL_waterIn_3 rfl (lv_at hl 1 rfl) ?_
  refine lv_iload_n hx hb dL_waterIn_4 rfl (lv_at hl 2 rfl) ?_
  by_cases hf : hasF 0 σ x = 0
  · refine MT.callV (C := RX1) (T := TX1) (N := 2) (As := [.int x, .int y]) (rest := [.int 0, .ref qo]) (c_X1_waterIn_n l hl9 D cI cZ cL ob h a h2 a2 σ τ x y hf) ⟨hx, hb, hml, hown, hts⟩ q578 b_X1_waterIn (n := 2) (by decide +kernel) ⟨Nat.le_of_ble_eq_true rfl, Nat.le_of_ble_eq_true rfl⟩ hK hP hD hS hA hE (spX _ _ _ _) (ci := 1) rfl (q0 := 0) rfl rfl hl.1 rfl (Nat.le_of_ble_eq_true rfl) dL_waterIn_5 ⟨Nat.le_of_ble_eq_true rfl, Nat.le_of_ble_eq_true rfl⟩ (fun ce q9 H locs hP hD hS hce hcv hcl => ?_)
    refine vx_catch (own := RL) (name := "java/lang/IndexOutOfBoundsException") hown [] ⟨0, 10, 13, 21⟩ [⟨0, 10, 17, 13⟩] (by rw [htab]; rfl) (by simp) (by decide) (by decide) (hts _ q471) (va_Nw.use rfl (hE.w 18 rfl)) hce hcv hcl ?_
    refine lv_astore (lv' := [(4, .ref q9), (0, .ref ob), (1, .int x), (2, .int y), (3, .ref qo)]) hx hb dL_waterIn_13 hl (by decide) rfl (fun ls hl => ?_)
    refine lv_iconst (v := 1) hx hb dL_waterIn_15 (by decide) ?_
    refine W.wide (k := 1) (n := 6) (Nat.le_of_ble_eq_true rfl) (Nat.le_of_ble_eq_true rfl) ?_
    subst hQ
    exact xni ⟨(τ, wo), fun z => absurd z (by rw [if_pos hf]; decide)⟩ hx hb hr hlocks hK hP hD hS dL_waterIn_16 rfl (by rw [if_pos hf])
  · by_cases hr0 : inR y 1 48 = 0
    · refine MT.callV (C := RX1) (T := TX1) (N := 2) (As := [.int x, .int y]) (rest := [.int 0, .ref qo]) (c_X1_waterIn_m l hl9 D cI cZ cL ob h a h2 a2 σ τ x y (hasF_1of hf) hr0) ⟨hx, hb, hml, hown, hts⟩ q578 b_X1_waterIn (n := 2) (by decide +kernel) ⟨Nat.le_of_ble_eq_true rfl, Nat.le_of_ble_eq_true rfl⟩ hK hP hD hS hA hE (spX _ _ _ _) (ci := 1) rfl (q0 := 0) rfl rfl hl.1 rfl (Nat.le_of_ble_eq_true rfl) dL_waterIn_5 ⟨Nat.le_of_ble_eq_true rfl, Nat.le_of_ble_eq_true rfl⟩ (fun ce q9 H locs hP hD hS hce hcv hcl => ?_)
      refine vx_catch (own := RL) (name := "java/lang/IllegalArgumentException") hown [⟨0, 10, 13, 21⟩] ⟨0, 10, 17, 13⟩ [] (by rw [htab]; rfl) (fun z hz => by simp only [List.mem_cons, List.not_mem_nil, or_false] at hz; subst hz; exact Or.inr ⟨by decide, "java/lang/IndexOutOfBoundsException", hts _ q471, hE.n 1 rfl⟩) (by decide) (by decide) (hts _ q442) (va_Nw.use rfl (hE.w 16 rfl)) hce hcv hcl ?_
      refine lv_astore (lv' := [(4, .ref q9), (0, .ref ob), (1, .int x), (2, .int y), (3, .ref qo)]) hx hb dL_waterIn_17 hl (by decide) rfl (fun ls hl => ?_)
      refine lv_iconst (v := 2) hx hb dL_waterIn_19 (by decide) ?_
      refine W.wide (k := 1) (n := 6) (Nat.le_of_ble_eq_true rfl) (Nat.le_of_ble_eq_true rfl) ?_
      subst hQ
      exact xni ⟨(τ, wo), fun z => absurd z (by rw [if_neg hf, if_pos hr0]; decide)⟩ hx hb hr hlocks hK hP hD hS dL_waterIn_20 rfl (by rw [if_neg hf, if_pos hr0])
    · obtain ⟨j, hj, ej⟩ := (hasF_iff hst.f0 (by omega) x).resolve_left (fun z => hf z.1) |>.2
      subst ej
      obtain ⟨t, h1t, h2t, et⟩ := inR_n 1 48 (by decide) y hr0
      subst et
      refine MX.callV (C := RX1) (T := TX1) (N := 2) (As := [.int (nI j), .int (nI t)]) (rest := [.int 0, .ref qo]) (wB := (fun ρ => (oC ob h h2) ++ ((mC cI cZ h a σ) ++ ((mC cI cZ h2 a2 ρ) ++ (lC cL qo wo))))) (c_X1_waterIn l D cI cZ cL ob h a h2 a2 σ τ hst hB j hj t h1t h2t) ⟨hx, hb, hml, hown, hts⟩ q578 b_X1_waterIn (n := 2) (by decide +kernel) ⟨Nat.le_of_ble_eq_true rfl, Nat.le_of_ble_eq_true rfl⟩ hK hP hD hS hA hE (spX _ _ _ _) (fun _ => spX _ _ _ _) (ci := 1) rfl (q0 := 0) rfl rfl hl.1 rfl (Nat.le_of_ble_eq_true rfl) dL_waterIn_5 ⟨Nat.le_of_ble_eq_true rfl, Nat.le_of_ble_eq_true rfl⟩ (fun ρ_1 H locs hP hD hS => ?_)
      have hP : va_P D vwCl ((oC ob h h2) ++ ((mC cI cZ h a σ) ++ ((mC cI cZ h2 a2 ρ_1) ++ (lC cL qo wo)))) H := hP
      have hD : va_D A ((oC ob h h2) ++ ((mC cI cZ h a σ) ++ ((mC cI cZ h2 a2 ρ_1) ++ (lC cL qo wo)))) := hD
      refine lv_i2l hx hb dL_waterIn_8 rfl ?_
      refine va_last hx hb hK hP hD hS 25 2 rfl rfl (vp_in_nI (n := 0) (by decide) (by decide)) dL_waterIn_9 (fun H locs hP hD hS => ?_)
      have hP : va_P D vwCl ((oC ob h h2) ++ ((mC cI cZ h a σ) ++ ((mC cI cZ h2 a2 ρ_1) ++ (lC cL qo (vp_updL wo 0 ((hours t σ 2 j).toInt64)))))) H := hP
      have hD : va_D A ((oC ob h h2) ++ ((mC cI cZ h a σ) ++ ((mC cI cZ h2 a2 ρ_1) ++ (lC cL qo (vp_updL wo 0 ((hours t σ 2 j).toInt64)))))) := hD
      refine lv_goto (tgt := 21) hx hb dL_waterIn_10 (by decide) ?_
      refine lv_iconst (v := 0) hx hb dL_waterIn_21 (by decide) ?_
      refine W.wide (k := 1) (n := 6) (Nat.le_of_ble_eq_true rfl) (Nat.le_of_ble_eq_true rfl) ?_
      subst hQ
      exact xni ⟨(ρ_1, vp_updL wo 0 ((hours t σ 2 j).toInt64)), fun _ => by show _ = (if hasF 0 σ (nI j) = 0 then 0 else if inR (nI t) 1 48 = 0 then 0 else hours (nI t).toNatClampNeg σ 2 (nI j).toNatClampNeg : Int32).toInt64; rw [if_neg hf, if_neg hr0, nI_clamp (by omega), nI_clamp (by omega)]; rfl⟩ hx hb hr hlocks hK hP hD hS dL_waterIn_22 rfl (by rw [if_neg hf, if_neg hr0])
