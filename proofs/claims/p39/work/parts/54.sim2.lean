theorem ra_bool {s : State} (c d : ClassId) (h1 : va_RA s c .boolean) (h2 : va_RA s d .boolean) : c = d := Option.some.inj ((va_nm_boolean h1).symm.trans (va_nm_boolean h2))
abbrev rmX2_copy : Room := { frames := 2, cells := 60, slots := 600, locals := 80 }
theorem b_X2_copy : Cond.instanceMethod yX2_copy ∈ LW ∧ Cond.selects RX2 yX2_copy yX2_copy ∈ LW ∧ Cond.initialized RX2 ∈ LW ∧ Cond.code yX2_copy cX2_copy 6 (some (.object "MarshDrainsLaw$Sim")) ∈ LW := ⟨q422, q423, q11, q424⟩
set_option maxHeartbeats 8000000 in
set_option maxRecDepth 100000 in
theorem c_X2_copy (l : Launch) (D : va_G) (cI cZ cL : ClassId) {n k : Nat} (sm : Nat) (q : SA) (σ : Sg) (hst : Shp n k σ) : MY (ι := Nat × SA) none l yX2_copy cX2_copy 6 (some (.object "MarshDrainsLaw$Sim")) rmX2_copy D (tZ cI cZ cL) [.ref sm] (sC cI cL sm q σ n k) (fun y => sC cI cL sm q σ n k ++ sC cI cL y.1 y.2 σ n k) (fun y => some (.ref y.1)) := by
  refine MY.of (by decide) (Nat.le_of_ble_eq_true rfl) ?_
  intro p e s m args below meth c A ls Q hx hb hml hr hts hown hlocks hA hP hD hK hS hl hQ hE9 hnm
  have hE : EX A s s.heap := hE9.1
  have hown : s.vm.findClass RX2 = some m.cls := hown
  have hn10 := hst.1
  have hk16 := hst.2.1
  have hl : lv_has ls 6 [(0, .ref sm)] := hl
  refine va_new (ci := 2) (C := RX2) (T := TX2) (N := 5) (fs := [.null, .null, .int 0, .int 0, .int 0]) hx hb hts in_wsX20 tyX2 tyX2_ok hown (hts _ q425) (hts _ q426) (hts _ q11) hK hP hD hS hA rfl (by decide) (Nat.le_of_ble_eq_true rfl) (Nat.le_of_ble_eq_true rfl) dX2_copy_0 (fun so H hP hD hS => ?_)
  refine lv_dup hx hb dX2_copy_3 rfl ?_
  refine MY.callI (b := so) (As := []) (rest := [.ref so]) (w0 := sC cI cL sm q σ n k) (w2 := []) (wB := fun qo => (sC cI cL sm q σ n k) ++ (sC cI cL so qo S0 0 0)) (c_X2_init l D cI cZ cL so) ⟨hx, hb, hml, hown, hts⟩ q427 b_X2_init rfl (n := 0) (by decide +kernel) ⟨(Nat.le_of_ble_eq_true rfl), (Nat.le_of_ble_eq_true rfl)⟩ hK hP hD hS hA (EY.non hE) (by simp only [List.append_assoc, List.append_nil, List.nil_append]) (fun _ => by simp only [List.append_assoc, List.append_nil, List.nil_append]) rfl hl.1 rfl (Nat.le_of_ble_eq_true rfl) dX2_copy_4 ⟨(Nat.le_of_ble_eq_true rfl), (Nat.le_of_ble_eq_true rfl)⟩ (fun qo H locs hP hD hS => ?_)
  have hP : va_P D vwCl ((sC cI cL sm q σ n k) ++ (sC cI cL so qo S0 0 0)) H := hP
  have hD : va_D A ((sC cI cL sm q σ n k) ++ (sC cI cL so qo S0 0 0)) := hD
  refine lv_astore_n (lv' := [(1, .ref so), (0, .ref sm)]) hx hb dX2_copy_7 rfl hl (by decide) rfl (fun ls hl => ?_)
  refine lv_aload_n hx hb dX2_copy_8 rfl (lv_at hl 1 rfl) ?_
  refine s_get hx hb hts hown hK hP (σ := σ) (n := n) (k := k) (q := q) (sm := sm) (w0 := []) (w2 := sC cI cL so qo S0 0 0) rfl 0 (by decide) q433 (v := .ref q.1.1) rfl dX2_copy_9 ?_
  refine lv_astore_n (lv' := [(2, .ref q.1.1), (1, .ref so), (0, .ref sm)]) hx hb dX2_copy_12 rfl hl (by decide) rfl (fun ls hl => ?_)
  refine lv_aload_n hx hb dX2_copy_13 rfl (lv_at hl 0 rfl) ?_
  refine s_lnF hx hb hK hP (σ := σ) (n := n) (k := k) (q := q) (sm := sm) (w0 := []) (w2 := sC cI cL so qo S0 0 0) rfl dX2_copy_14 ?_
  refine lv_istore_n (lv' := [(3, .int (nI n)), (2, .ref q.1.1), (1, .ref so), (0, .ref sm)]) hx hb dX2_copy_15 rfl hl (by decide) rfl (fun ls hl => ?_)
  refine lv_iconst (v := 0) hx hb dX2_copy_16 (by decide) ?_
  refine lv_istore (lv' := [(4, .int 0), (3, .int (nI n)), (2, .ref q.1.1), (1, .ref so), (0, .ref sm)]) hx hb dX2_copy_17 hl (by decide) rfl (fun ls hl => ?_)
  rw [sC_z0 σ] at hP hD
  refine W.wide (k := 3 + 2 * 0) (n := 5 + 22 * 0) (by first | omega | exact Nat.le_of_ble_eq_true rfl) (by first | omega | exact Nat.le_of_ble_eq_true rfl) ?_
  have hl : lv_has ls 6 [(4, .int (nI 0)), (3, .int (nI n)), (2, .ref q.1.1), (1, .ref so), (0, .ref sm)] := hl
  have L19 : ∀ (f i : Nat) (qi : SA), i ≤ n → n < i + f → ∀ (H : Heap) (locs : List Loc) (ls : Array Slot), va_P D vwCl ((sC cI cL sm q σ n k) ++ (sC cI cL so qi (zS σ) i 0)) H → va_D A ((sC cI cL sm q σ n k) ++ (sC cI cL so qi (zS σ) i 0)) → va_S A s.heap H locs → lv_has ls 6 [(0, .ref sm), (1, .ref so), (2, .ref q.1.1), (3, .int (nI n)), (4, .int (nI i))] → W p l e rmX2_copy s m args below meth c H locs (3 + 2 * i) (5 + 22 * i) Q (F0 m 19 ls []) := by
    intro f
    induction f with
    | zero => intro i qi h1 h2; exact absurd h2 (by omega)
    | succ f ih_19 =>
      intro i qi hi_19 hf_19 H locs ls hP hD hS hl
      refine lv_iload hx hb dX2_copy_19 (lv_at hl 4 rfl) ?_
      refine lv_iload_n hx hb dX2_copy_21 rfl (lv_at hl 3 rfl) ?_
      refine lv_icmp_ge (tgt := 86) hx hb dX2_copy_22 (by decide) (fun c_22 => ?_) (fun c_22 => ?_)
      · have hc_22 : n ≤ i := (nI_leI (a := n) (b := i) (by omega) (by omega)).mp c_22
        refine lv_aload_n hx hb dX2_copy_86 rfl (lv_at hl 0 rfl) ?_
        refine s_get hx hb hts hown hK hP (σ := σ) (n := n) (k := k) (q := q) (sm := sm) (w0 := []) (w2 := sC cI cL so qi (zS σ) i 0) rfl 1 (by decide) q435 (v := .ref q.1.2) rfl dX2_copy_87 ?_
        refine lv_astore_n (lv' := [(2, .ref q.1.2), (0, .ref sm), (1, .ref so), (3, .int (nI n)), (4, .int (nI i))]) hx hb dX2_copy_90 rfl hl (by decide) rfl (fun ls hl => ?_)
        refine lv_aload_n hx hb dX2_copy_91 rfl (lv_at hl 0 rfl) ?_
        refine s_lnD hx hb hK hP (σ := σ) (n := n) (k := k) (q := q) (sm := sm) (w0 := []) (w2 := sC cI cL so qi (zS σ) i 0) rfl dX2_copy_92 ?_
        refine lv_istore_n (lv' := [(3, .int (nI k)), (2, .ref q.1.2), (0, .ref sm), (1, .ref so), (4, .int (nI i))]) hx hb dX2_copy_93 rfl hl (by decide) rfl (fun ls hl => ?_)
        refine lv_iconst (v := 0) hx hb dX2_copy_94 (by decide) ?_
        refine lv_istore (lv' := [(4, .int 0), (3, .int (nI k)), (2, .ref q.1.2), (0, .ref sm), (1, .ref so)]) hx hb dX2_copy_95 hl (by decide) rfl (fun ls hl => ?_)
        have hin : i = n := by omega
        rw [hin] at hP hD
        refine W.wide (k := 23 + 2 * 0) (n := 225 + 23 * 0) (by first | omega | exact Nat.le_of_ble_eq_true rfl) (by first | omega | exact Nat.le_of_ble_eq_true rfl) ?_
        have hl : lv_has ls 6 [(4, .int (nI 0)), (3, .int (nI k)), (2, .ref q.1.2), (0, .ref sm), (1, .ref so)] := hl
        have L97 : ∀ (f j : Nat) (qj : SA), j ≤ k → k < j + f → ∀ (H : Heap) (locs : List Loc) (ls : Array Slot), va_P D vwCl ((sC cI cL sm q σ n k) ++ (sC cI cL so qj (zS σ) n j)) H → va_D A ((sC cI cL sm q σ n k) ++ (sC cI cL so qj (zS σ) n j)) → va_S A s.heap H locs → lv_has ls 6 [(0, .ref sm), (1, .ref so), (2, .ref q.1.2), (3, .int (nI k)), (4, .int (nI j))] → W p l e rmX2_copy s m args below meth c H locs (23 + 2 * j) (225 + 23 * j) Q (F0 m 97 ls []) := by
          intro f
          induction f with
          | zero => intro j qj h1 h2; exact absurd h2 (by omega)
          | succ f ih_97 =>
            intro j qj hi_97 hf_97 H locs ls hP hD hS hl
            refine lv_iload hx hb dX2_copy_97 (lv_at hl 4 rfl) ?_
            refine lv_iload_n hx hb dX2_copy_99 rfl (lv_at hl 3 rfl) ?_
            refine lv_icmp_ge (tgt := 172) hx hb dX2_copy_100 (by decide) (fun c_100 => ?_) (fun c_100 => ?_)
            · have hc_100 : k ≤ j := (nI_leI (a := k) (b := j) (by omega) (by omega)).mp c_100
              have hjk : j = k := by omega
              rw [hjk] at hP hD
              refine lv_aload_n hx hb dX2_copy_172 rfl (lv_at hl 1 rfl) ?_
              refine lv_aload_n hx hb dX2_copy_173 rfl (lv_at hl 0 rfl) ?_
              refine s_get hx hb hts hown hK hP (σ := σ) (n := n) (k := k) (q := q) (sm := sm) (w0 := []) (w2 := sC cI cL so qj (zS σ) n k) rfl 2 (by decide) q437 (v := .int (σ 11 2)) rfl dX2_copy_174 ?_
              refine s_put hx hb hts hown hK hP hD hS (σ := zS σ) (n := n) (k := k) (q := qj) (sm := so) (w0 := sC cI cL sm q σ n k) (w2 := []) (by simp only [List.append_assoc, List.append_nil, List.nil_append]) 2 2 (by decide) q437 dX2_copy_177 (fun H locs hP hD hS => ?_)
              simp only [List.append_assoc, List.append_nil, List.nil_append] at hP hD
              have hP : va_P D vwCl ((sC cI cL sm q σ n k) ++ (sC cI cL so qj (sc (zS σ) 2 (σ 11 2)) n k)) H := hP
              have hD : va_D A ((sC cI cL sm q σ n k) ++ (sC cI cL so qj (sc (zS σ) 2 (σ 11 2)) n k)) := hD
              refine lv_aload_n hx hb dX2_copy_180 rfl (lv_at hl 1 rfl) ?_
              refine lv_aload_n hx hb dX2_copy_181 rfl (lv_at hl 0 rfl) ?_
              refine s_get hx hb hts hown hK hP (σ := σ) (n := n) (k := k) (q := q) (sm := sm) (w0 := []) (w2 := sC cI cL so qj (sc (zS σ) 2 (σ 11 2)) n k) rfl 3 (by decide) q439 (v := .int (σ 11 4)) rfl dX2_copy_182 ?_
              refine s_put hx hb hts hown hK hP hD hS (σ := sc (zS σ) 2 (σ 11 2)) (n := n) (k := k) (q := qj) (sm := so) (w0 := sC cI cL sm q σ n k) (w2 := []) (by simp only [List.append_assoc, List.append_nil, List.nil_append]) 3 4 (by decide) q439 dX2_copy_185 (fun H locs hP hD hS => ?_)
              simp only [List.append_assoc, List.append_nil, List.nil_append] at hP hD
              have hP : va_P D vwCl ((sC cI cL sm q σ n k) ++ (sC cI cL so qj (sc (sc (zS σ) 2 (σ 11 2)) 4 (σ 11 4)) n k)) H := hP
              have hD : va_D A ((sC cI cL sm q σ n k) ++ (sC cI cL so qj (sc (sc (zS σ) 2 (σ 11 2)) 4 (σ 11 4)) n k)) := hD
              refine lv_aload_n hx hb dX2_copy_188 rfl (lv_at hl 1 rfl) ?_
              refine lv_aload_n hx hb dX2_copy_189 rfl (lv_at hl 0 rfl) ?_
              refine s_get hx hb hts hown hK hP (σ := σ) (n := n) (k := k) (q := q) (sm := sm) (w0 := []) (w2 := sC cI cL so qj (sc (sc (zS σ) 2 (σ 11 2)) 4 (σ 11 4)) n k) rfl 4 (by decide) q440 (v := .int (σ 11 3)) rfl dX2_copy_190 ?_
              refine s_put hx hb hts hown hK hP hD hS (σ := sc (sc (zS σ) 2 (σ 11 2)) 4 (σ 11 4)) (n := n) (k := k) (q := qj) (sm := so) (w0 := sC cI cL sm q σ n k) (w2 := []) (by simp only [List.append_assoc, List.append_nil, List.nil_append]) 4 3 (by decide) q440 dX2_copy_193 (fun H locs hP hD hS => ?_)
              simp only [List.append_assoc, List.append_nil, List.nil_append] at hP hD
              have hP : va_P D vwCl ((sC cI cL sm q σ n k) ++ (sC cI cL so qj (sc (sc (sc (zS σ) 2 (σ 11 2)) 4 (σ 11 4)) 3 (σ 11 3)) n k)) H := hP
              have hD : va_D A ((sC cI cL sm q σ n k) ++ (sC cI cL so qj (sc (sc (sc (zS σ) 2 (σ 11 2)) 4 (σ 11 4)) 3 (σ 11 3)) n k)) := hD
              rw [sC_z1] at hP hD
              refine lv_aload_n hx hb dX2_copy_196 rfl (lv_at hl 1 rfl) ?_
              refine W.wide (k := 60) (n := 600) (by first | omega | exact Nat.le_of_ble_eq_true rfl) (by first | omega | exact Nat.le_of_ble_eq_true rfl) ?_
              subst hQ
              exact ya (so, qj) hx hb hr (Or.inl ⟨_, rfl⟩) hlocks hK hP hD hS dX2_copy_197 rfl rfl
            · have hc_100 : j < k := Nat.not_le.mp (fun z => c_100 ((nI_leI (a := k) (b := j) (by omega) (by omega)).mpr z))
              refine lv_aload_n hx hb dX2_copy_103 rfl (lv_at hl 2 rfl) ?_
              refine lv_iload hx hb dX2_copy_104 (lv_at hl 4 rfl) ?_
              refine s_alD hx hb hK hP (σ := σ) (n := n) (k := k) (q := q) (sm := sm) (w0 := []) (w2 := sC cI cL so qj (zS σ) n j) rfl j (rfl) (by omega) (by omega) dX2_copy_106 ?_
              refine lv_astore (lv' := [(5, .ref (q.2.2 j)), (0, .ref sm), (1, .ref so), (2, .ref q.1.2), (3, .int (nI k)), (4, .int (nI j))]) hx hb dX2_copy_107 hl (by decide) rfl (fun ls hl => ?_)
              refine lv_aload_n hx hb dX2_copy_109 rfl (lv_at hl 2 rfl) ?_
              refine lv_aload_n hx hb dX2_copy_110 rfl (lv_at hl 2 rfl) ?_
              refine s_get hx hb hts hown hK hP (σ := zS σ) (n := n) (k := j) (q := qj) (sm := so) (w0 := sC cI cL sm q σ n k) (w2 := []) (by simp only [List.append_assoc, List.append_nil, List.nil_append]) 1 (by decide) q435 (v := .ref qj.1.2) rfl dX2_copy_111 ?_
              refine lv_bipush (v := 6) hx hb dX2_copy_114 (by decide) ?_
              refine x_new (atype := .int) (ty := .int) rfl rfl ra_int hx hb (hts _ q96) hK hP hD hS hA 0 rfl (N' := 6) (by decide) (by decide) (by decide) (by show _ + 1 ≤ 60; omega) (by show _ + _ ≤ 600; omega) dX2_copy_116 (fun t H hP hD hS => ?_)
              obtain ⟨hP, hD⟩ := p_perm (b := tC cI t 6 (fun _ => 0) ++ ((sC cI cL sm q σ n k) ++ (sC cI cL so qj (zS σ) n j))) List.perm_append_comm hP hD
              have hP : va_P D vwCl ((tC cI t 6 (fun _ => 0)) ++ ((sC cI cL sm q σ n k) ++ (sC cI cL so qj (zS σ) n j))) H := hP
              have hD : va_D A ((tC cI t 6 (fun _ => 0)) ++ ((sC cI cL sm q σ n k) ++ (sC cI cL so qj (zS σ) n j))) := hD
              refine lv_dup hx hb dX2_copy_118 rfl ?_
              refine lv_iconst (v := 0) hx hb dX2_copy_119 (by decide) ?_
              refine lv_aload hx hb dX2_copy_120 (lv_at hl 0 rfl) ?_
              refine lv_iconst (v := 0) hx hb dX2_copy_122 (by decide) ?_
              refine s_ldD hx hb hK hP (σ := σ) (n := n) (k := k) (q := q) (sm := sm) (w0 := tC cI t 6 (fun _ => 0)) (w2 := sC cI cL so qj (zS σ) n j) rfl j (by omega) 0 rfl (by decide) (v := σ 5 j) rfl dX2_copy_123 ?_
              refine x_ist (ws2 := (tC cI t 6 (upd (fun _ => 0) 0 (σ 5 j))) ++ ((sC cI cL sm q σ n k) ++ (sC cI cL so qj (zS σ) n j))) hx hb hK hP hD hS 0 0 rfl rfl 0 (rfl) (by omega) (by decide) rfl dX2_copy_124 (fun H locs hP hD hS => ?_)
              refine lv_dup hx hb dX2_copy_125 rfl ?_
              refine lv_iconst (v := 1) hx hb dX2_copy_126 (by decide) ?_
              refine lv_aload hx hb dX2_copy_127 (lv_at hl 0 rfl) ?_
              refine lv_iconst (v := 1) hx hb dX2_copy_129 (by decide) ?_
              refine s_ldD hx hb hK hP (σ := σ) (n := n) (k := k) (q := q) (sm := sm) (w0 := tC cI t 6 (upd (fun _ => 0) 0 (σ 5 j))) (w2 := sC cI cL so qj (zS σ) n j) rfl j (by omega) 1 rfl (by decide) (v := σ 6 j) rfl dX2_copy_130 ?_
              refine x_ist (ws2 := (tC cI t 6 (upd (upd (fun _ => 0) 0 (σ 5 j)) 1 (σ 6 j))) ++ ((sC cI cL sm q σ n k) ++ (sC cI cL so qj (zS σ) n j))) hx hb hK hP hD hS 0 0 rfl rfl 1 (rfl) (by omega) (by decide) rfl dX2_copy_131 (fun H locs hP hD hS => ?_)
              refine lv_dup hx hb dX2_copy_132 rfl ?_
              refine lv_iconst (v := 2) hx hb dX2_copy_133 (by decide) ?_
              refine lv_aload hx hb dX2_copy_134 (lv_at hl 0 rfl) ?_
              refine lv_iconst (v := 2) hx hb dX2_copy_136 (by decide) ?_
              refine s_ldD hx hb hK hP (σ := σ) (n := n) (k := k) (q := q) (sm := sm) (w0 := tC cI t 6 (upd (upd (fun _ => 0) 0 (σ 5 j)) 1 (σ 6 j))) (w2 := sC cI cL so qj (zS σ) n j) rfl j (by omega) 2 rfl (by decide) (v := σ 7 j) rfl dX2_copy_137 ?_
              refine x_ist (ws2 := (tC cI t 6 (upd (upd (upd (fun _ => 0) 0 (σ 5 j)) 1 (σ 6 j)) 2 (σ 7 j))) ++ ((sC cI cL sm q σ n k) ++ (sC cI cL so qj (zS σ) n j))) hx hb hK hP hD hS 0 0 rfl rfl 2 (rfl) (by omega) (by decide) rfl dX2_copy_138 (fun H locs hP hD hS => ?_)
              refine lv_dup hx hb dX2_copy_139 rfl ?_
              refine lv_iconst (v := 3) hx hb dX2_copy_140 (by decide) ?_
              refine lv_aload hx hb dX2_copy_141 (lv_at hl 0 rfl) ?_
              refine lv_iconst (v := 3) hx hb dX2_copy_143 (by decide) ?_
              refine s_ldD hx hb hK hP (σ := σ) (n := n) (k := k) (q := q) (sm := sm) (w0 := tC cI t 6 (upd (upd (upd (fun _ => 0) 0 (σ 5 j)) 1 (σ 6 j)) 2 (σ 7 j))) (w2 := sC cI cL so qj (zS σ) n j) rfl j (by omega) 3 rfl (by decide) (v := σ 9 j) rfl dX2_copy_144 ?_
              refine x_ist (ws2 := (tC cI t 6 (upd (upd (upd (upd (fun _ => 0) 0 (σ 5 j)) 1 (σ 6 j)) 2 (σ 7 j)) 3 (σ 9 j))) ++ ((sC cI cL sm q σ n k) ++ (sC cI cL so qj (zS σ) n j))) hx hb hK hP hD hS 0 0 rfl rfl 3 (rfl) (by omega) (by decide) rfl dX2_copy_145 (fun H locs hP hD hS => ?_)
              refine lv_dup hx hb dX2_copy_146 rfl ?_
              refine lv_iconst (v := 4) hx hb dX2_copy_147 (by decide) ?_
              refine lv_aload hx hb dX2_copy_148 (lv_at hl 0 rfl) ?_
              refine lv_iconst (v := 4) hx hb dX2_copy_150 (by decide) ?_
              refine s_ldD hx hb hK hP (σ := σ) (n := n) (k := k) (q := q) (sm := sm) (w0 := tC cI t 6 (upd (upd (upd (upd (fun _ => 0) 0 (σ 5 j)) 1 (σ 6 j)) 2 (σ 7 j)) 3 (σ 9 j))) (w2 := sC cI cL so qj (zS σ) n j) rfl j (by omega) 4 rfl (by decide) (v := σ 10 j) rfl dX2_copy_151 ?_
              refine x_ist (ws2 := (tC cI t 6 (upd (upd (upd (upd (upd (fun _ => 0) 0 (σ 5 j)) 1 (σ 6 j)) 2 (σ 7 j)) 3 (σ 9 j)) 4 (σ 10 j))) ++ ((sC cI cL sm q σ n k) ++ (sC cI cL so qj (zS σ) n j))) hx hb hK hP hD hS 0 0 rfl rfl 4 (rfl) (by omega) (by decide) rfl dX2_copy_152 (fun H locs hP hD hS => ?_)
              refine lv_dup hx hb dX2_copy_153 rfl ?_
              refine lv_iconst (v := 5) hx hb dX2_copy_154 (by decide) ?_
              refine lv_aload hx hb dX2_copy_155 (lv_at hl 0 rfl) ?_
              refine lv_iconst (v := 5) hx hb dX2_copy_157 (by decide) ?_
              refine s_ldD hx hb hK hP (σ := σ) (n := n) (k := k) (q := q) (sm := sm) (w0 := tC cI t 6 (upd (upd (upd (upd (upd (fun _ => 0) 0 (σ 5 j)) 1 (σ 6 j)) 2 (σ 7 j)) 3 (σ 9 j)) 4 (σ 10 j))) (w2 := sC cI cL so qj (zS σ) n j) rfl j (by omega) 5 rfl (by decide) (v := σ 8 j) rfl dX2_copy_158 ?_
              refine x_ist (ws2 := (tC cI t 6 (upd (upd (upd (upd (upd (upd (fun _ => 0) 0 (σ 5 j)) 1 (σ 6 j)) 2 (σ 7 j)) 3 (σ 9 j)) 4 (σ 10 j)) 5 (σ 8 j))) ++ ((sC cI cL sm q σ n k) ++ (sC cI cL so qj (zS σ) n j))) hx hb hK hP hD hS 0 0 rfl rfl 5 (rfl) (by omega) (by decide) rfl dX2_copy_159 (fun H locs hP hD hS => ?_)
              refine s_growD cZ (σ := zS σ) (n := n) (k := j) (q := qj) (w0 := sC cI cL sm q σ n k) (w2 := []) (τ := zS σ) hx hb hml hown hts hK hA hE q452 q435 (by simp only [List.append_assoc, List.append_nil, List.nil_append]) hP hD hS (by omega) ((dX_new σ j rfl rfl rfl rfl rfl rfl).trans (dX_z σ j).symm) (fun _ _ => rfl) (fun _ _ => rfl) rfl rfl rfl hl.1 ⟨(Nat.le_of_ble_eq_true rfl), (Nat.le_of_ble_eq_true rfl)⟩ (Nat.le_of_ble_eq_true rfl) dX2_copy_160 dX2_copy_163 ⟨by show _ + 1 ≤ 60; omega, by show _ + 17 ≤ 600; omega⟩ (fun x H locs hP hD hS => ?_)
              simp only [List.append_nil, List.nil_append, List.append_assoc] at hP hD
              have hP : va_P D vwCl ((sC cI cL sm q σ n k) ++ (sC cI cL so ((qj.1.1, x), (qj.2.1, va_up qj.2.2 j t)) (zS σ) n (j + 1))) H := hP
              have hD : va_D A ((sC cI cL sm q σ n k) ++ (sC cI cL so ((qj.1.1, x), (qj.2.1, va_up qj.2.2 j t)) (zS σ) n (j + 1))) := hD
              refine lv_iinc (v := (nI (j + 1))) (lv' := [(4, .int (nI (j + 1))), (5, .ref (q.2.2 j)), (0, .ref sm), (1, .ref so), (2, .ref q.1.2), (3, .int (nI k))]) hx hb dX2_copy_166 hl (k := 5) rfl (nI_add j 1) (by decide) rfl (fun ls hl => ?_)
              refine lv_goto (tgt := 97) hx hb dX2_copy_169 (by decide) ?_
              refine W.wide (k := 23 + 2 * (j + 1)) (n := 225 + 23 * (j + 1)) (by first | omega | exact Nat.le_of_ble_eq_true rfl) (by first | omega | exact Nat.le_of_ble_eq_true rfl) ?_
              exact ih_97 (j + 1) ((qj.1.1, x), (qj.2.1, va_up qj.2.2 j t)) (by omega) (by omega) _ _ _ hP hD hS (lv_sub hl [2, 3, 4, 5, 0] rfl)
        exact L97 (k + 1) 0 qi (by omega) (by omega) _ _ _ hP hD hS (lv_sub hl [3, 4, 2, 1, 0] rfl)
      · have hc_22 : i < n := Nat.not_le.mp (fun z => c_22 ((nI_leI (a := n) (b := i) (by omega) (by omega)).mpr z))
        refine lv_aload_n hx hb dX2_copy_25 rfl (lv_at hl 2 rfl) ?_
        refine lv_iload hx hb dX2_copy_26 (lv_at hl 4 rfl) ?_
        refine s_alF hx hb hK hP (σ := σ) (n := n) (k := k) (q := q) (sm := sm) (w0 := []) (w2 := sC cI cL so qi (zS σ) i 0) rfl i (rfl) (by omega) (by omega) dX2_copy_28 ?_
        refine lv_astore (lv' := [(5, .ref (q.2.1 i)), (0, .ref sm), (1, .ref so), (2, .ref q.1.1), (3, .int (nI n)), (4, .int (nI i))]) hx hb dX2_copy_29 hl (by decide) rfl (fun ls hl => ?_)
        refine lv_aload_n hx hb dX2_copy_31 rfl (lv_at hl 2 rfl) ?_
        refine lv_aload_n hx hb dX2_copy_32 rfl (lv_at hl 2 rfl) ?_
        refine s_get hx hb hts hown hK hP (σ := zS σ) (n := i) (k := 0) (q := qi) (sm := so) (w0 := sC cI cL sm q σ n k) (w2 := []) (by simp only [List.append_assoc, List.append_nil, List.nil_append]) 0 (by decide) q433 (v := .ref qi.1.1) rfl dX2_copy_33 ?_
        refine lv_iconst (v := 5) hx hb dX2_copy_36 (by decide) ?_
        refine x_new (atype := .int) (ty := .int) rfl rfl ra_int hx hb (hts _ q96) hK hP hD hS hA 0 rfl (N' := 5) (by decide) (by decide) (by decide) (by show _ + 1 ≤ 60; omega) (by show _ + _ ≤ 600; omega) dX2_copy_37 (fun t H hP hD hS => ?_)
        obtain ⟨hP, hD⟩ := p_perm (b := tC cI t 5 (fun _ => 0) ++ ((sC cI cL sm q σ n k) ++ (sC cI cL so qi (zS σ) i 0))) List.perm_append_comm hP hD
        have hP : va_P D vwCl ((tC cI t 5 (fun _ => 0)) ++ ((sC cI cL sm q σ n k) ++ (sC cI cL so qi (zS σ) i 0))) H := hP
        have hD : va_D A ((tC cI t 5 (fun _ => 0)) ++ ((sC cI cL sm q σ n k) ++ (sC cI cL so qi (zS σ) i 0))) := hD
        refine lv_dup hx hb dX2_copy_39 rfl ?_
        refine lv_iconst (v := 0) hx hb dX2_copy_40 (by decide) ?_
        refine lv_aload hx hb dX2_copy_41 (lv_at hl 0 rfl) ?_
        refine lv_iconst (v := 0) hx hb dX2_copy_43 (by decide) ?_
        refine s_ldF hx hb hK hP (σ := σ) (n := n) (k := k) (q := q) (sm := sm) (w0 := tC cI t 5 (fun _ => 0)) (w2 := sC cI cL so qi (zS σ) i 0) rfl i (by omega) 0 rfl (by decide) (v := σ 0 i) rfl dX2_copy_44 ?_
        refine x_ist (ws2 := (tC cI t 5 (upd (fun _ => 0) 0 (σ 0 i))) ++ ((sC cI cL sm q σ n k) ++ (sC cI cL so qi (zS σ) i 0))) hx hb hK hP hD hS 0 0 rfl rfl 0 (rfl) (by omega) (by decide) rfl dX2_copy_45 (fun H locs hP hD hS => ?_)
        refine lv_dup hx hb dX2_copy_46 rfl ?_
        refine lv_iconst (v := 1) hx hb dX2_copy_47 (by decide) ?_
        refine lv_aload hx hb dX2_copy_48 (lv_at hl 0 rfl) ?_
        refine lv_iconst (v := 1) hx hb dX2_copy_50 (by decide) ?_
        refine s_ldF hx hb hK hP (σ := σ) (n := n) (k := k) (q := q) (sm := sm) (w0 := tC cI t 5 (upd (fun _ => 0) 0 (σ 0 i))) (w2 := sC cI cL so qi (zS σ) i 0) rfl i (by omega) 1 rfl (by decide) (v := σ 1 i) rfl dX2_copy_51 ?_
        refine x_ist (ws2 := (tC cI t 5 (upd (upd (fun _ => 0) 0 (σ 0 i)) 1 (σ 1 i))) ++ ((sC cI cL sm q σ n k) ++ (sC cI cL so qi (zS σ) i 0))) hx hb hK hP hD hS 0 0 rfl rfl 1 (rfl) (by omega) (by decide) rfl dX2_copy_52 (fun H locs hP hD hS => ?_)
        refine lv_dup hx hb dX2_copy_53 rfl ?_
        refine lv_iconst (v := 2) hx hb dX2_copy_54 (by decide) ?_
        refine lv_aload hx hb dX2_copy_55 (lv_at hl 0 rfl) ?_
        refine lv_iconst (v := 2) hx hb dX2_copy_57 (by decide) ?_
        refine s_ldF hx hb hK hP (σ := σ) (n := n) (k := k) (q := q) (sm := sm) (w0 := tC cI t 5 (upd (upd (fun _ => 0) 0 (σ 0 i)) 1 (σ 1 i))) (w2 := sC cI cL so qi (zS σ) i 0) rfl i (by omega) 2 rfl (by decide) (v := σ 2 i) rfl dX2_copy_58 ?_
        refine x_ist (ws2 := (tC cI t 5 (upd (upd (upd (fun _ => 0) 0 (σ 0 i)) 1 (σ 1 i)) 2 (σ 2 i))) ++ ((sC cI cL sm q σ n k) ++ (sC cI cL so qi (zS σ) i 0))) hx hb hK hP hD hS 0 0 rfl rfl 2 (rfl) (by omega) (by decide) rfl dX2_copy_59 (fun H locs hP hD hS => ?_)
        refine lv_dup hx hb dX2_copy_60 rfl ?_
        refine lv_iconst (v := 3) hx hb dX2_copy_61 (by decide) ?_
        refine lv_aload hx hb dX2_copy_62 (lv_at hl 0 rfl) ?_
        refine lv_iconst (v := 3) hx hb dX2_copy_64 (by decide) ?_
        refine s_ldF hx hb hK hP (σ := σ) (n := n) (k := k) (q := q) (sm := sm) (w0 := tC cI t 5 (upd (upd (upd (fun _ => 0) 0 (σ 0 i)) 1 (σ 1 i)) 2 (σ 2 i))) (w2 := sC cI cL so qi (zS σ) i 0) rfl i (by omega) 3 rfl (by decide) (v := σ 3 i) rfl dX2_copy_65 ?_
        refine x_ist (ws2 := (tC cI t 5 (upd (upd (upd (upd (fun _ => 0) 0 (σ 0 i)) 1 (σ 1 i)) 2 (σ 2 i)) 3 (σ 3 i))) ++ ((sC cI cL sm q σ n k) ++ (sC cI cL so qi (zS σ) i 0))) hx hb hK hP hD hS 0 0 rfl rfl 3 (rfl) (by omega) (by decide) rfl dX2_copy_66 (fun H locs hP hD hS => ?_)
        refine lv_dup hx hb dX2_copy_67 rfl ?_
        refine lv_iconst (v := 4) hx hb dX2_copy_68 (by decide) ?_
        refine lv_aload hx hb dX2_copy_69 (lv_at hl 0 rfl) ?_
        refine lv_iconst (v := 4) hx hb dX2_copy_71 (by decide) ?_
        refine s_ldF hx hb hK hP (σ := σ) (n := n) (k := k) (q := q) (sm := sm) (w0 := tC cI t 5 (upd (upd (upd (upd (fun _ => 0) 0 (σ 0 i)) 1 (σ 1 i)) 2 (σ 2 i)) 3 (σ 3 i))) (w2 := sC cI cL so qi (zS σ) i 0) rfl i (by omega) 4 rfl (by decide) (v := σ 4 i) rfl dX2_copy_72 ?_
        refine x_ist (ws2 := (tC cI t 5 (upd (upd (upd (upd (upd (fun _ => 0) 0 (σ 0 i)) 1 (σ 1 i)) 2 (σ 2 i)) 3 (σ 3 i)) 4 (σ 4 i))) ++ ((sC cI cL sm q σ n k) ++ (sC cI cL so qi (zS σ) i 0))) hx hb hK hP hD hS 0 0 rfl rfl 4 (rfl) (by omega) (by decide) rfl dX2_copy_73 (fun H locs hP hD hS => ?_)
        refine s_growF cZ (σ := zS σ) (n := i) (k := 0) (q := qi) (w0 := sC cI cL sm q σ n k) (w2 := []) (τ := zS σ) hx hb hml hown hts hK hA hE q452 q433 (by simp only [List.append_assoc, List.append_nil, List.nil_append]) hP hD hS (by omega) ((fX_new σ i rfl rfl rfl rfl rfl).trans (fX_z σ i).symm) (fun _ _ => rfl) (fun _ _ => rfl) rfl rfl rfl hl.1 ⟨(Nat.le_of_ble_eq_true rfl), (Nat.le_of_ble_eq_true rfl)⟩ (Nat.le_of_ble_eq_true rfl) dX2_copy_74 dX2_copy_77 ⟨by show _ + 1 ≤ 60; omega, by show _ + 17 ≤ 600; omega⟩ (fun x H locs hP hD hS => ?_)
        simp only [List.append_nil, List.nil_append, List.append_assoc] at hP hD
        have hP : va_P D vwCl ((sC cI cL sm q σ n k) ++ (sC cI cL so ((x, qi.1.2), (va_up qi.2.1 i t, qi.2.2)) (zS σ) (i + 1) 0)) H := hP
        have hD : va_D A ((sC cI cL sm q σ n k) ++ (sC cI cL so ((x, qi.1.2), (va_up qi.2.1 i t, qi.2.2)) (zS σ) (i + 1) 0)) := hD
        refine lv_iinc (v := (nI (i + 1))) (lv' := [(4, .int (nI (i + 1))), (5, .ref (q.2.1 i)), (0, .ref sm), (1, .ref so), (2, .ref q.1.1), (3, .int (nI n))]) hx hb dX2_copy_80 hl (k := 5) rfl (nI_add i 1) (by decide) rfl (fun ls hl => ?_)
        refine lv_goto (tgt := 19) hx hb dX2_copy_83 (by decide) ?_
        refine W.wide (k := 3 + 2 * (i + 1)) (n := 5 + 22 * (i + 1)) (by first | omega | exact Nat.le_of_ble_eq_true rfl) (by first | omega | exact Nat.le_of_ble_eq_true rfl) ?_
        exact ih_19 (i + 1) ((x, qi.1.2), (va_up qi.2.1 i t, qi.2.2)) (by omega) (by omega) _ _ _ hP hD hS (lv_sub hl [2, 3, 4, 5, 0] rfl)
  exact L19 (n + 1) 0 qo (by omega) (by omega) _ _ _ hP hD hS (lv_sub hl [4, 3, 2, 1, 0] rfl)

abbrev rmX2_lossIn : Room := { frames := 6, cells := 60, slots := 600, locals := 156 }
theorem b_X2_lossIn : Cond.instanceMethod yX2_lossIn ∈ LW ∧ Cond.selects RX2 yX2_lossIn yX2_lossIn ∈ LW ∧ Cond.initialized RX2 ∈ LW ∧ Cond.code yX2_lossIn cX2_lossIn 3 (some .int) ∈ LW := ⟨q477, q478, q11, q479⟩
set_option maxHeartbeats 8000000 in
set_option maxRecDepth 100000 in
theorem c_X2_lossIn (l : Launch) (D : va_G) (cI cZ cL : ClassId) {n k : Nat} (sm : Nat) (q : SA) (σ : Sg) (hst : Shp n k σ) {B : Nat} (hB : Bnd B σ) (t : Nat) (ht : t < 1000) (hB2 : B + 234 * t + 400 < 2 ^ 29) : MY (ι := Unit) none l yX2_lossIn cX2_lossIn 3 (some .int) rmX2_lossIn D (tZ cI cZ cL) [.ref sm, .int (nI t)] (sC cI cL sm q σ n k) (fun y => sC cI cL sm q σ n k) (fun y => some (.int (lossH t σ))) := by
  refine MY.of (by decide) (Nat.le_of_ble_eq_true rfl) ?_
  intro p e s m args below meth c A ls Q hx hb hml hr hts hown hlocks hA hP hD hK hS hl hQ hE9 hnm
  have hE : EX A s s.heap := hE9.1
  have hown : s.vm.findClass RX2 = some m.cls := hown
  have hn10 := hst.1
  have hk16 := hst.2.1
  have hl : lv_has ls 3 [(0, .ref sm), (1, .int (nI t))] := hl
  refine lv_aload_n hx hb dX2_lossIn_0 rfl (lv_at hl 0 rfl) ?_
  refine MY.callV0 (C := RX2) (T := TX2) (N := 5) (As := []) (rest := []) (w0 := []) (w2 := []) (wB := fun y => (sC cI cL sm q σ n k) ++ (sC cI cL y.1 y.2 σ n k)) (c_X2_copy l D cI cZ cL sm q σ hst) ⟨hx, hb, hml, hown, hts⟩ q480 b_X2_copy (n := 0) (by decide +kernel) ⟨(Nat.le_of_ble_eq_true rfl), (Nat.le_of_ble_eq_true rfl)⟩ hK hP hD hS hA (EY.non hE) (sp0 _) (fun _ => sp0 _) (ci := 2) rfl rfl rfl hl.1 rfl (Nat.le_of_ble_eq_true rfl) dX2_lossIn_1 ⟨by show _ + 60 ≤ 60; omega, by show _ + 600 ≤ 600; omega⟩ (fun y H locs hP hD hS => ?_)
  have hP : va_P D vwCl ((sC cI cL sm q σ n k) ++ (sC cI cL y.1 y.2 σ n k)) H := hP
  have hD : va_D A ((sC cI cL sm q σ n k) ++ (sC cI cL y.1 y.2 σ n k)) := hD
  refine W.wide (k := 60) (n := 600) (by first | omega | exact Nat.le_of_ble_eq_true rfl) (by first | omega | exact Nat.le_of_ble_eq_true rfl) ?_
  refine lv_astore_n (lv' := [(2, .ref y.1), (0, .ref sm), (1, .int (nI t))]) hx hb dX2_lossIn_4 rfl hl (by decide) rfl (fun ls hl => ?_)
  refine lv_aload_n hx hb dX2_lossIn_5 rfl (lv_at hl 0 rfl) ?_
  refine lv_iload_n hx hb dX2_lossIn_6 rfl (lv_at hl 2 rfl) ?_
  refine MC.callV0 (C := RX2) (T := TX2) (N := 5) (As := [.int (nI t)]) (rest := []) (w0 := sC cI cL sm q σ n k) (w2 := []) (wB := (sC cI cL sm q σ n k) ++ (sC cI cL y.1 y.2 (hours t σ) n k)) (c_X2_pass_ l D cI cZ cL y.1 y.2 σ hst hB t ht hB2) ⟨hx, hb, hml, hown, hts⟩ q481 b_X2_pass_ (n := 1) (by decide +kernel) ⟨(Nat.le_of_ble_eq_true rfl), (Nat.le_of_ble_eq_true rfl)⟩ hK hP hD hS hA (by simp only [List.append_assoc, List.append_nil, List.nil_append]) (by simp only [List.append_assoc, List.append_nil, List.nil_append]) (ci := 2) rfl rfl rfl hl.1 rfl (Nat.le_of_ble_eq_true rfl) dX2_lossIn_7 ⟨by show _ + 0 ≤ 60; omega, by show _ + 0 ≤ 600; omega⟩ (fun H locs hP hD hS => ?_)
  refine W.wide (k := 60) (n := 600) (by first | omega | exact Nat.le_of_ble_eq_true rfl) (by first | omega | exact Nat.le_of_ble_eq_true rfl) ?_
  refine lv_pop hx hb dX2_lossIn_10 rfl ?_
  refine lv_aload_n hx hb dX2_lossIn_11 rfl (lv_at hl 0 rfl) ?_
  refine MC.callV0 (C := RX2) (T := TX2) (N := 5) (As := []) (rest := []) (w0 := sC cI cL sm q σ n k) (w2 := []) (wB := (sC cI cL sm q σ n k) ++ (sC cI cL y.1 y.2 (hours t σ) n k)) (c_X2_loss l D cI cZ cL y.1 y.2 (hours t σ) (hst.hrs t) (Bnd.hrs hst hB t (by omega))) ⟨hx, hb, hml, hown, hts⟩ q486 b_X2_loss (n := 0) (by decide +kernel) ⟨(Nat.le_of_ble_eq_true rfl), (Nat.le_of_ble_eq_true rfl)⟩ hK hP hD hS hA (by simp only [List.append_assoc, List.append_nil, List.nil_append]) (by simp only [List.append_assoc, List.append_nil, List.nil_append]) (ci := 2) rfl rfl rfl hl.1 rfl (Nat.le_of_ble_eq_true rfl) dX2_lossIn_12 ⟨by show _ + 0 ≤ 60; omega, by show _ + 0 ≤ 600; omega⟩ (fun H locs hP hD hS => ?_)
  refine W.wide (k := 60) (n := 600) (by first | omega | exact Nat.le_of_ble_eq_true rfl) (by first | omega | exact Nat.le_of_ble_eq_true rfl) ?_
  obtain ⟨hP, hD⟩ := p_drop (b := sC cI cL sm q σ n k) _ (List.Perm.refl _) hP hD
  refine W.wide (k := 60) (n := 600) (by first | omega | exact Nat.le_of_ble_eq_true rfl) (by first | omega | exact Nat.le_of_ble_eq_true rfl) ?_
  subst hQ
  exact yi () hx hb hr hlocks hK hP hD hS dX2_lossIn_15 rfl rfl

abbrev rmX2_reaches : Room := { frames := 0, cells := 1, slots := 10, locals := 0 }
theorem b_X2_reaches : Cond.instanceMethod yX2_reaches ∈ LW ∧ Cond.selects RX2 yX2_reaches yX2_reaches ∈ LW ∧ Cond.initialized RX2 ∈ LW ∧ Cond.code yX2_reaches cX2_reaches 10 (some .int) ∈ LW := ⟨q501, q502, q11, q503⟩
set_option maxHeartbeats 8000000 in
set_option maxRecDepth 100000 in
theorem c_X2_reaches (l : Launch) (D : va_G) (cI cZ cL : ClassId) {n k : Nat} (sm : Nat) (q : SA) (σ : Sg) (hst : Shp n k σ) (j : Nat) (hj : j < n) : MY (ι := Unit) none l yX2_reaches cX2_reaches 10 (some .int) rmX2_reaches D (tZ cI cZ cL) [.ref sm, .int (nI j)] (sC cI cL sm q σ n k) (fun y => sC cI cL sm q σ n k) (fun y => some (.int (reachS σ j))) := by
  refine MY.of (by decide) (Nat.le_of_ble_eq_true rfl) ?_
  intro p e s m args below meth c A ls Q hx hb hml hr hts hown hlocks hA hP hD hK hS hl hQ hE9 hnm
  have hE : EX A s s.heap := hE9.1
  have hown : s.vm.findClass RX2 = some m.cls := hown
  have hn10 := hst.1
  have hk16 := hst.2.1
  have hl : lv_has ls 10 [(0, .ref sm), (1, .int (nI j))] := hl
  refine lv_aload_n hx hb dX2_reaches_0 rfl (lv_at hl 0 rfl) ?_
  refine s_get hx hb hts hown hK hP (σ := σ) (n := n) (k := k) (q := q) (sm := sm) (w0 := []) (w2 := []) (sp0 _) 0 (by decide) q433 (v := .ref q.1.1) rfl dX2_reaches_1 ?_
  refine s_lnF hx hb hK hP (σ := σ) (n := n) (k := k) (q := q) (sm := sm) (w0 := []) (w2 := []) (sp0 _) dX2_reaches_4 ?_
  refine x_new (atype := .boolean) (ty := .boolean) rfl rfl ra_bool hx hb (hts _ q97) hK hP hD hS hA 1 rfl (N' := n) (Int32.not_lt.mpr (nI_pos' (by omega))) (nI_clamp (by omega)) (by show n * 1 ≤ 536870912; omega) (by show _ + 1 ≤ 1; omega) (by show _ + _ ≤ 10; omega) dX2_reaches_5 (fun t H hP hD hS => ?_)
  obtain ⟨hP, hD⟩ := p_perm (b := tC cZ t n (fun _ => 0) ++ (sC cI cL sm q σ n k)) List.perm_append_comm hP hD
  have hP : va_P D vwCl ((tC cZ t n (fun _ => 0)) ++ (sC cI cL sm q σ n k)) H := hP
  have hD : va_D A ((tC cZ t n (fun _ => 0)) ++ (sC cI cL sm q σ n k)) := hD
  refine lv_astore_n (lv' := [(2, .ref t), (0, .ref sm), (1, .int (nI j))]) hx hb dX2_reaches_7 rfl hl (by decide) rfl (fun ls hl => ?_)
  refine lv_aload_n hx hb dX2_reaches_8 rfl (lv_at hl 0 rfl) ?_
  refine lv_iload_n hx hb dX2_reaches_9 rfl (lv_at hl 2 rfl) ?_
  refine lv_iconst (v := 1) hx hb dX2_reaches_10 (by decide) ?_
  refine x_zst (ws2 := (tC cZ t n (upd (fun _ => 0) j 1)) ++ (sC cI cL sm q σ n k)) hx hb hK hP hD hS 0 1 rfl rfl j (rfl) (by omega) (by omega) (by decide) rfl dX2_reaches_11 (fun H locs hP hD hS => ?_)
  refine lv_iconst (v := 0) hx hb dX2_reaches_12 (by decide) ?_
  refine lv_istore_n (lv' := [(3, .int 0), (2, .ref t), (0, .ref sm), (1, .int (nI j))]) hx hb dX2_reaches_13 rfl hl (by decide) rfl (fun ls hl => ?_)
  refine lv_iconst (v := 0) hx hb dX2_reaches_14 (by decide) ?_
  refine lv_istore (lv' := [(4, .int 0), (3, .int 0), (2, .ref t), (0, .ref sm), (1, .int (nI j))]) hx hb dX2_reaches_15 hl (by decide) rfl (fun ls hl => ?_)
  rw [bz_pow] at hP hD
  have hP : va_P D vwCl ((tC cZ t n (bz (rnd σ (2 ^ j) 0))) ++ (sC cI cL sm q σ n k)) H := hP
  have hD : va_D A ((tC cZ t n (bz (rnd σ (2 ^ j) 0))) ++ (sC cI cL sm q σ n k)) := hD
  refine W.wide (k := 1) (n := 10) (by first | omega | exact Nat.le_of_ble_eq_true rfl) (by first | omega | exact Nat.le_of_ble_eq_true rfl) ?_
  have hl : lv_has ls 10 [(4, .int (nI 0)), (3, .int 0), (2, .ref t), (0, .ref sm), (1, .int (nI j))] := hl
  have L17 : ∀ (f i : Nat), i ≤ n → n < i + f → ∀ (H : Heap) (locs : List Loc) (ls : Array Slot), va_P D vwCl ((tC cZ t n (bz (rnd σ (2 ^ j) i))) ++ (sC cI cL sm q σ n k)) H → va_D A ((tC cZ t n (bz (rnd σ (2 ^ j) i))) ++ (sC cI cL sm q σ n k)) → va_S A s.heap H locs → lv_has ls 10 [(0, .ref sm), (2, .ref t), (3, .int 0), (4, .int (nI i))] → W p l e rmX2_reaches s m args below meth c H locs 1 10 Q (F0 m 17 ls []) := by
    intro f
    induction f with
    | zero => intro i h1 h2; exact absurd h2 (by omega)
    | succ f ih_17 =>
      intro i hi_17 hf_17 H locs ls hP hD hS hl
      refine lv_iload hx hb dX2_reaches_17 (lv_at hl 3 rfl) ?_
      refine lv_aload_n hx hb dX2_reaches_19 rfl (lv_at hl 0 rfl) ?_
      refine s_get hx hb hts hown hK hP (σ := σ) (n := n) (k := k) (q := q) (sm := sm) (w0 := tC cZ t n (bz (rnd σ (2 ^ j) i))) (w2 := []) (by simp only [List.append_assoc, List.append_nil, List.nil_append]) 0 (by decide) q433 (v := .ref q.1.1) rfl dX2_reaches_20 ?_
      refine s_lnF hx hb hK hP (σ := σ) (n := n) (k := k) (q := q) (sm := sm) (w0 := tC cZ t n (bz (rnd σ (2 ^ j) i))) (w2 := []) (by simp only [List.append_assoc, List.append_nil, List.nil_append]) dX2_reaches_23 ?_
      refine lv_icmp_ge (tgt := 142) hx hb dX2_reaches_24 (by decide) (fun c_24 => ?_) (fun c_24 => ?_)
      · have hc_24 : n ≤ i := (nI_leI (a := n) (b := i) (by omega) (by omega)).mp c_24
        refine lv_aload_n hx hb dX2_reaches_142 rfl (lv_at hl 1 rfl) ?_
        refine lv_astore (lv' := [(4, .ref t), (0, .ref sm), (2, .ref t), (3, .int 0)]) hx hb dX2_reaches_143 hl (by decide) rfl (fun ls hl => ?_)
        refine lv_aload hx hb dX2_reaches_145 (lv_at hl 0 rfl) ?_
        refine va_alen hx hb hK hP 0 1 rfl rfl (v := nI n) rfl dX2_reaches_147 ?_
        refine lv_istore (lv' := [(5, .int (nI n)), (4, .ref t), (0, .ref sm), (2, .ref t), (3, .int 0)]) hx hb dX2_reaches_148 hl (by decide) rfl (fun ls hl => ?_)
        refine lv_iconst (v := 0) hx hb dX2_reaches_150 (by decide) ?_
        refine lv_istore (lv' := [(6, .int 0), (5, .int (nI n)), (4, .ref t), (0, .ref sm), (2, .ref t), (3, .int 0)]) hx hb dX2_reaches_151 hl (by decide) rfl (fun ls hl => ?_)
        rw [show i = n by omega] at hP hD
        have hl : lv_has ls 10 [(6, .int (nI 0)), (5, .int (nI n)), (4, .ref t), (0, .ref sm), (2, .ref t), (3, .int (sumI (bz (rnd σ (2 ^ j) n)) 0))] := hl
        have L153 : ∀ (f u : Nat), u ≤ n → n < u + f → ∀ (H : Heap) (locs : List Loc) (ls : Array Slot), va_P D vwCl ((tC cZ t n (bz (rnd σ (2 ^ j) n))) ++ (sC cI cL sm q σ n k)) H → va_D A ((tC cZ t n (bz (rnd σ (2 ^ j) n))) ++ (sC cI cL sm q σ n k)) → va_S A s.heap H locs → lv_has ls 10 [(3, .int (sumI (bz (rnd σ (2 ^ j) n)) u)), (4, .ref t), (5, .int (nI n)), (6, .int (nI u))] → W p l e rmX2_reaches s m args below meth c H locs 1 10 Q (F0 m 153 ls []) := by
          intro f
          induction f with
          | zero => intro u h1 h2; exact absurd h2 (by omega)
          | succ f ih_153 =>
            intro u hi_153 hf_153 H locs ls hP hD hS hl
            refine lv_iload hx hb dX2_reaches_153 (lv_at hl 3 rfl) ?_
            refine lv_iload hx hb dX2_reaches_155 (lv_at hl 2 rfl) ?_
            refine lv_icmp_ge (tgt := 186) hx hb dX2_reaches_157 (by decide) (fun c_157 => ?_) (fun c_157 => ?_)
            · have hc_157 : n ≤ u := (nI_leI (a := n) (b := u) (by omega) (by omega)).mp c_157
              refine lv_iload_n hx hb dX2_reaches_186 rfl (lv_at hl 0 rfl) ?_
              refine lv_iconst (v := 1) hx hb dX2_reaches_187 (by decide) ?_
              refine lv_isub hx hb dX2_reaches_188 ?_
              obtain ⟨hP, hD⟩ := p_drop (b := sC cI cL sm q σ n k) _ List.perm_append_comm hP hD
              subst hQ
              exact yi () hx hb hr hlocks hK hP hD hS dX2_reaches_189 rfl (by rw [show u = n by omega, re_sum hst hj])
            · have hc_157 : u < n := Nat.not_le.mp (fun z => c_157 ((nI_leI (a := n) (b := u) (by omega) (by omega)).mpr z))
              refine lv_aload hx hb dX2_reaches_160 (lv_at hl 1 rfl) ?_
              refine lv_iload hx hb dX2_reaches_162 (lv_at hl 3 rfl) ?_
              refine x_zld hx hb hK hP 0 1 rfl rfl u (rfl) (by omega) (by omega) (v := (bz (rnd σ (2 ^ j) n)) u) rfl dX2_reaches_164 ?_
              refine lv_istore (lv' := [(7, .int ((bz (rnd σ (2 ^ j) n)) u)), (3, .int (sumI (bz (rnd σ (2 ^ j) n)) u)), (4, .ref t), (5, .int (nI n)), (6, .int (nI u))]) hx hb dX2_reaches_165 hl (by decide) rfl (fun ls hl => ?_)
              refine lv_iload_n hx hb dX2_reaches_167 rfl (lv_at hl 1 rfl) ?_
              refine lv_iload hx hb dX2_reaches_168 (lv_at hl 0 rfl) ?_
              refine lv_if_eq (tgt := 177) hx hb dX2_reaches_170 (by decide) (fun c_170 => ?_) (fun c_170 => ?_)
              · refine lv_iconst (v := 0) hx hb dX2_reaches_177 (by decide) ?_
                refine lv_iadd hx hb dX2_reaches_178 ?_
                refine lv_topi (fun v_1 ev_1 => ?_)
                refine lv_istore_n (lv' := [(3, .int v_1), (7, .int ((bz (rnd σ (2 ^ j) n)) u)), (4, .ref t), (5, .int (nI n)), (6, .int (nI u))]) hx hb dX2_reaches_179 rfl hl (by decide) rfl (fun ls hl => ?_)
                refine lv_iinc (v := (nI (u + 1))) (lv' := [(6, .int (nI (u + 1))), (3, .int v_1), (7, .int ((bz (rnd σ (2 ^ j) n)) u)), (4, .ref t), (5, .int (nI n))]) hx hb dX2_reaches_180 hl (k := 4) rfl (nI_add u 1) (by decide) rfl (fun ls hl => ?_)
                refine lv_goto (tgt := 153) hx hb dX2_reaches_183 (by decide) ?_
                have e8 : v_1 = sumI (bz (rnd σ (2 ^ j) n)) (u + 1) := by
                  rw [ev_1]
                  exact sum_1 (g := bz (rnd σ (2 ^ j) n)) (bz_f (bz_0 c_170))
                rw [e8] at hl
                exact ih_153 (u + 1) (by omega) (by omega) _ _ _ hP hD hS (lv_sub hl [1, 3, 4, 0] rfl)
              · refine lv_iconst (v := 1) hx hb dX2_reaches_173 (by decide) ?_
                refine lv_goto (tgt := 178) hx hb dX2_reaches_174 (by decide) ?_
                refine lv_iadd hx hb dX2_reaches_178 ?_
                refine lv_topi (fun v_2 ev_2 => ?_)
                refine lv_istore_n (lv' := [(3, .int v_2), (7, .int ((bz (rnd σ (2 ^ j) n)) u)), (4, .ref t), (5, .int (nI n)), (6, .int (nI u))]) hx hb dX2_reaches_179 rfl hl (by decide) rfl (fun ls hl => ?_)
                refine lv_iinc (v := (nI (u + 1))) (lv' := [(6, .int (nI (u + 1))), (3, .int v_2), (7, .int ((bz (rnd σ (2 ^ j) n)) u)), (4, .ref t), (5, .int (nI n))]) hx hb dX2_reaches_180 hl (k := 4) rfl (nI_add u 1) (by decide) rfl (fun ls hl => ?_)
                refine lv_goto (tgt := 153) hx hb dX2_reaches_183 (by decide) ?_
                have e8 : v_2 = sumI (bz (rnd σ (2 ^ j) n)) (u + 1) := by
                  rw [ev_2]
                  exact sum_1 (g := bz (rnd σ (2 ^ j) n)) (bz_t (bz_1 c_170))
                rw [e8] at hl
                exact ih_153 (u + 1) (by omega) (by omega) _ _ _ hP hD hS (lv_sub hl [1, 3, 4, 0] rfl)
        exact L153 (n + 1) 0 (by omega) (by omega) _ _ _ hP hD hS (lv_sub hl [5, 2, 1, 0] rfl)
      · have hc_24 : i < n := Nat.not_le.mp (fun z => c_24 ((nI_leI (a := n) (b := i) (by omega) (by omega)).mpr z))
        refine lv_aload_n hx hb dX2_reaches_27 rfl (lv_at hl 0 rfl) ?_
        refine s_get hx hb hts hown hK hP (σ := σ) (n := n) (k := k) (q := q) (sm := sm) (w0 := tC cZ t n (bz (rnd σ (2 ^ j) i))) (w2 := []) (by simp only [List.append_assoc, List.append_nil, List.nil_append]) 1 (by decide) q435 (v := .ref q.1.2) rfl dX2_reaches_28 ?_
        refine lv_astore (lv' := [(5, .ref q.1.2), (0, .ref sm), (2, .ref t), (3, .int 0), (4, .int (nI i))]) hx hb dX2_reaches_31 hl (by decide) rfl (fun ls hl => ?_)
        refine lv_aload hx hb dX2_reaches_33 (lv_at hl 0 rfl) ?_
        refine s_lnD hx hb hK hP (σ := σ) (n := n) (k := k) (q := q) (sm := sm) (w0 := tC cZ t n (bz (rnd σ (2 ^ j) i))) (w2 := []) (by simp only [List.append_assoc, List.append_nil, List.nil_append]) dX2_reaches_35 ?_
        refine lv_istore (lv' := [(6, .int (nI k)), (5, .ref q.1.2), (0, .ref sm), (2, .ref t), (3, .int 0), (4, .int (nI i))]) hx hb dX2_reaches_36 hl (by decide) rfl (fun ls hl => ?_)
        refine lv_iconst (v := 0) hx hb dX2_reaches_38 (by decide) ?_
        refine lv_istore (lv' := [(7, .int 0), (6, .int (nI k)), (5, .ref q.1.2), (0, .ref sm), (2, .ref t), (3, .int 0), (4, .int (nI i))]) hx hb dX2_reaches_39 hl (by decide) rfl (fun ls hl => ?_)
        have hw9 : rnd σ (2 ^ j) i < 2 ^ n := rn_lt hst (Nat.pow_lt_pow_right (by decide) hj) i
        have hP : va_P D vwCl ((tC cZ t n (bz (passN σ (rnd σ (2 ^ j) i) 0))) ++ (sC cI cL sm q σ n k)) H := hP
        have hD : va_D A ((tC cZ t n (bz (passN σ (rnd σ (2 ^ j) i) 0))) ++ (sC cI cL sm q σ n k)) := hD
        have hl : lv_has ls 10 [(7, .int (nI 0)), (6, .int (nI k)), (5, .ref q.1.2), (0, .ref sm), (2, .ref t), (3, .int 0), (4, .int (nI i))] := hl
        have L41 : ∀ (f d : Nat), d ≤ k → k < d + f → ∀ (H : Heap) (locs : List Loc) (ls : Array Slot), va_P D vwCl ((tC cZ t n (bz (passN σ (rnd σ (2 ^ j) i) d))) ++ (sC cI cL sm q σ n k)) H → va_D A ((tC cZ t n (bz (passN σ (rnd σ (2 ^ j) i) d))) ++ (sC cI cL sm q σ n k)) → va_S A s.heap H locs → lv_has ls 10 [(0, .ref sm), (2, .ref t), (3, .int 0), (4, .int (nI i)), (5, .ref q.1.2), (6, .int (nI k)), (7, .int (nI d))] → W p l e rmX2_reaches s m args below meth c H locs 1 10 Q (F0 m 41 ls []) := by
          intro f
          induction f with
          | zero => intro d h1 h2; exact absurd h2 (by omega)
          | succ f ih_41 =>
            intro d hi_41 hf_41 H locs ls hP hD hS hl
            obtain ⟨a0, ha0, ea0⟩ : ∃ a0, a0 < n ∧ (d < k → σ 5 d = nI a0) := by
              by_cases hdk : d < k
              · obtain ⟨a0, h1, h2⟩ := hst.2.2.2.2.1 d hdk; exact ⟨a0, h1, fun _ => h2⟩
              · exact ⟨0, by omega, fun z => absurd z hdk⟩
            refine lv_iload hx hb dX2_reaches_41 (lv_at hl 6 rfl) ?_
            refine lv_iload hx hb dX2_reaches_43 (lv_at hl 5 rfl) ?_
            refine lv_icmp_ge (tgt := 136) hx hb dX2_reaches_45 (by decide) (fun c_45 => ?_) (fun c_45 => ?_)
            · have hc_45 : k ≤ d := (nI_leI (a := k) (b := d) (by omega) (by omega)).mp c_45
              have e7 : bz (passN σ (rnd σ (2 ^ j) i) d) = bz (rnd σ (2 ^ j) (i + 1)) := by
                rw [show d = k by omega, pN_k hst]; rfl
              rw [e7] at hP hD
              refine lv_iinc (v := (nI (i + 1))) (lv' := [(4, .int (nI (i + 1))), (0, .ref sm), (2, .ref t), (3, .int 0), (5, .ref q.1.2), (6, .int (nI k)), (7, .int (nI d))]) hx hb dX2_reaches_136 hl (k := 3) rfl (nI_add i 1) (by decide) rfl (fun ls hl => ?_)
              refine lv_goto (tgt := 17) hx hb dX2_reaches_139 (by decide) ?_
              exact ih_17 (i + 1) (by omega) (by omega) _ _ _ hP hD hS (lv_sub hl [1, 2, 3, 0] rfl)
            · have hc_45 : d < k := Nat.not_le.mp (fun z => c_45 ((nI_leI (a := k) (b := d) (by omega) (by omega)).mpr z))
              refine lv_aload hx hb dX2_reaches_48 (lv_at hl 4 rfl) ?_
              refine lv_iload hx hb dX2_reaches_50 (lv_at hl 6 rfl) ?_
              refine s_alD hx hb hK hP (σ := σ) (n := n) (k := k) (q := q) (sm := sm) (w0 := tC cZ t n (bz (passN σ (rnd σ (2 ^ j) i) d))) (w2 := []) (by simp only [List.append_assoc, List.append_nil, List.nil_append]) d (rfl) (by omega) (by omega) dX2_reaches_52 ?_
              refine lv_astore (lv' := [(8, .ref (q.2.2 d)), (0, .ref sm), (2, .ref t), (3, .int 0), (4, .int (nI i)), (5, .ref q.1.2), (6, .int (nI k)), (7, .int (nI d))]) hx hb dX2_reaches_53 hl (by decide) rfl (fun ls hl => ?_)
              refine lv_aload hx hb dX2_reaches_55 (lv_at hl 0 rfl) ?_
              refine lv_iconst (v := 4) hx hb dX2_reaches_57 (by decide) ?_
              refine s_ldD hx hb hK hP (σ := σ) (n := n) (k := k) (q := q) (sm := sm) (w0 := tC cZ t n (bz (passN σ (rnd σ (2 ^ j) i) d))) (w2 := []) (by simp only [List.append_assoc, List.append_nil, List.nil_append]) d (by omega) 4 rfl (by decide) (v := σ 10 d) rfl dX2_reaches_58 ?_
              refine lv_if_eq (tgt := 130) hx hb dX2_reaches_59 (by decide) (fun c_59 => ?_) (fun c_59 => ?_)
              · refine lv_iinc (v := (nI (d + 1))) (lv' := [(7, .int (nI (d + 1))), (8, .ref (q.2.2 d)), (0, .ref sm), (2, .ref t), (3, .int 0), (4, .int (nI i)), (5, .ref q.1.2), (6, .int (nI k))]) hx hb dX2_reaches_130 hl (k := 7) rfl (nI_add d 1) (by decide) rfl (fun ls hl => ?_)
                refine lv_goto (tgt := 41) hx hb dX2_reaches_133 (by decide) ?_
                have e9 : bz (passN σ (rnd σ (2 ^ j) i) d) = bz (passN σ (rnd σ (2 ^ j) i) (d + 1)) := by
                  show _ = bz (stepM σ d (passN σ (rnd σ (2 ^ j) i) d))
                  rw [sm_0 c_59]
                rw [e9] at hP hD
                exact ih_41 (d + 1) (by omega) (by omega) _ _ _ hP hD hS (lv_sub hl [2, 3, 4, 5, 6, 7, 0] rfl)
              · refine lv_aload hx hb dX2_reaches_62 (lv_at hl 0 rfl) ?_
                refine lv_iconst (v := 1) hx hb dX2_reaches_64 (by decide) ?_
                refine s_ldD hx hb hK hP (σ := σ) (n := n) (k := k) (q := q) (sm := sm) (w0 := tC cZ t n (bz (passN σ (rnd σ (2 ^ j) i) d))) (w2 := []) (by simp only [List.append_assoc, List.append_nil, List.nil_append]) d (by omega) 1 rfl (by decide) (v := σ 6 d) rfl dX2_reaches_65 ?_
                refine lv_if_ge (tgt := 72) hx hb dX2_reaches_66 (by decide) (fun c_66 => ?_) (fun c_66 => ?_)
                · have ea0 : σ 5 d = nI a0 := ea0 (by omega)
                  obtain ⟨b0, hb0, eb0⟩ : ∃ b, b < n ∧ σ 6 d = nI b := by
                    rcases hst.2.2.2.2.2 d (by omega) with z | z
                    · exact absurd c_66 (by rw [z.1]; decide)
                    · exact z
                  refine lv_aload_n hx hb dX2_reaches_72 rfl (lv_at hl 2 rfl) ?_
                  refine lv_aload hx hb dX2_reaches_73 (lv_at hl 0 rfl) ?_
                  refine lv_iconst (v := 0) hx hb dX2_reaches_75 (by decide) ?_
                  refine s_ldD hx hb hK hP (σ := σ) (n := n) (k := k) (q := q) (sm := sm) (w0 := tC cZ t n (bz (passN σ (rnd σ (2 ^ j) i) d))) (w2 := []) (by simp only [List.append_assoc, List.append_nil, List.nil_append]) d (by omega) 0 rfl (by decide) (v := (nI a0)) ea0 dX2_reaches_76 ?_
                  refine x_zld hx hb hK hP 0 1 rfl rfl a0 (rfl) (by omega) (by omega) (v := (bz (passN σ (rnd σ (2 ^ j) i) d)) a0) rfl dX2_reaches_77 ?_
                  refine lv_if_ne (tgt := 97) hx hb dX2_reaches_78 (by decide) (fun c_78 => ?_) (fun c_78 => ?_)
                  · refine lv_iconst (v := 1) hx hb dX2_reaches_97 (by decide) ?_
                    refine lv_goto (tgt := 102) hx hb dX2_reaches_98 (by decide) ?_
                    refine lv_istore (lv' := [(9, .int 1), (8, .ref (q.2.2 d)), (0, .ref sm), (2, .ref t), (3, .int 0), (4, .int (nI i)), (5, .ref q.1.2), (6, .int (nI k)), (7, .int (nI d))]) hx hb dX2_reaches_102 hl (by decide) rfl (fun ls hl => ?_)
                    refine lv_aload_n hx hb dX2_reaches_104 rfl (lv_at hl 3 rfl) ?_
                    refine lv_aload hx hb dX2_reaches_105 (lv_at hl 1 rfl) ?_
                    refine lv_iconst (v := 1) hx hb dX2_reaches_107 (by decide) ?_
                    refine s_ldD hx hb hK hP (σ := σ) (n := n) (k := k) (q := q) (sm := sm) (w0 := tC cZ t n (bz (passN σ (rnd σ (2 ^ j) i) d))) (w2 := []) (by simp only [List.append_assoc, List.append_nil, List.nil_append]) d (by omega) 1 rfl (by decide) (v := (nI b0)) eb0 dX2_reaches_108 ?_
                    refine lv_dup2_11 hx hb dX2_reaches_109 rfl rfl ?_
                    refine x_zld hx hb hK hP 0 1 rfl rfl b0 (rfl) (by omega) (by omega) (v := (bz (passN σ (rnd σ (2 ^ j) i) d)) b0) rfl dX2_reaches_110 ?_
                    refine lv_aload_n hx hb dX2_reaches_111 rfl (lv_at hl 3 rfl) ?_
                    refine lv_aload hx hb dX2_reaches_112 (lv_at hl 1 rfl) ?_
                    refine lv_iconst (v := 0) hx hb dX2_reaches_114 (by decide) ?_
                    refine s_ldD hx hb hK hP (σ := σ) (n := n) (k := k) (q := q) (sm := sm) (w0 := tC cZ t n (bz (passN σ (rnd σ (2 ^ j) i) d))) (w2 := []) (by simp only [List.append_assoc, List.append_nil, List.nil_append]) d (by omega) 0 rfl (by decide) (v := (nI a0)) ea0 dX2_reaches_115 ?_
                    refine x_zld hx hb hK hP 0 1 rfl rfl a0 (rfl) (by omega) (by omega) (v := (bz (passN σ (rnd σ (2 ^ j) i) d)) a0) rfl dX2_reaches_116 ?_
                    refine lv_ior hx hb dX2_reaches_117 ?_
                    refine x_zst (ws2 := (tC cZ t n (upd (bz (passN σ (rnd σ (2 ^ j) i) d)) b0 (((bz (passN σ (rnd σ (2 ^ j) i) d)) b0) ||| ((bz (passN σ (rnd σ (2 ^ j) i) d)) a0)))) ++ (sC cI cL sm q σ n k)) hx hb hK hP hD hS 0 1 rfl rfl b0 (rfl) (by omega) (by omega) (or_01 (bz_01 _ _) (bz_01 _ _)) rfl dX2_reaches_118 (fun H locs hP hD hS => ?_)
                    refine lv_aload_n hx hb dX2_reaches_119 rfl (lv_at hl 3 rfl) ?_
                    refine lv_aload hx hb dX2_reaches_120 (lv_at hl 1 rfl) ?_
                    refine lv_iconst (v := 0) hx hb dX2_reaches_122 (by decide) ?_
                    refine s_ldD hx hb hK hP (σ := σ) (n := n) (k := k) (q := q) (sm := sm) (w0 := tC cZ t n (upd (bz (passN σ (rnd σ (2 ^ j) i) d)) b0 (((bz (passN σ (rnd σ (2 ^ j) i) d)) b0) ||| ((bz (passN σ (rnd σ (2 ^ j) i) d)) a0)))) (w2 := []) (by simp only [List.append_assoc, List.append_nil, List.nil_append]) d (by omega) 0 rfl (by decide) (v := (nI a0)) ea0 dX2_reaches_123 ?_
                    refine lv_dup2_11 hx hb dX2_reaches_124 rfl rfl ?_
                    refine x_zld hx hb hK hP 0 1 rfl rfl a0 (rfl) (by omega) (by omega) (v := (upd (bz (passN σ (rnd σ (2 ^ j) i) d)) b0 (((bz (passN σ (rnd σ (2 ^ j) i) d)) b0) ||| ((bz (passN σ (rnd σ (2 ^ j) i) d)) a0))) a0) rfl dX2_reaches_125 ?_
                    refine lv_iload hx hb dX2_reaches_126 (lv_at hl 0 rfl) ?_
                    refine lv_ior hx hb dX2_reaches_128 ?_
                    refine x_zst (ws2 := (tC cZ t n (upd (upd (bz (passN σ (rnd σ (2 ^ j) i) d)) b0 (((bz (passN σ (rnd σ (2 ^ j) i) d)) b0) ||| ((bz (passN σ (rnd σ (2 ^ j) i) d)) a0))) a0 (((upd (bz (passN σ (rnd σ (2 ^ j) i) d)) b0 (((bz (passN σ (rnd σ (2 ^ j) i) d)) b0) ||| ((bz (passN σ (rnd σ (2 ^ j) i) d)) a0))) a0) ||| 1))) ++ (sC cI cL sm q σ n k)) hx hb hK hP hD hS 0 1 rfl rfl a0 (rfl) (by omega) (by omega) (or_01 (up_01 (bz_01 _) (or_01 (bz_01 _ _) (bz_01 _ _))) (by decide)) rfl dX2_reaches_129 (fun H locs hP hD hS => ?_)
                    refine lv_iinc (v := (nI (d + 1))) (lv' := [(7, .int (nI (d + 1))), (9, .int 1), (8, .ref (q.2.2 d)), (0, .ref sm), (2, .ref t), (3, .int 0), (4, .int (nI i)), (5, .ref q.1.2), (6, .int (nI k))]) hx hb dX2_reaches_130 hl (k := 8) rfl (nI_add d 1) (by decide) rfl (fun ls hl => ?_)
                    refine lv_goto (tgt := 41) hx hb dX2_reaches_133 (by decide) ?_
                    have e9 : upd (upd (bz (passN σ (rnd σ (2 ^ j) i) d)) b0 (((bz (passN σ (rnd σ (2 ^ j) i) d)) b0) ||| ((bz (passN σ (rnd σ (2 ^ j) i) d)) a0))) a0 (((upd (bz (passN σ (rnd σ (2 ^ j) i) d)) b0 (((bz (passN σ (rnd σ (2 ^ j) i) d)) b0) ||| ((bz (passN σ (rnd σ (2 ^ j) i) d)) a0))) a0) ||| 1) = bz (passN σ (rnd σ (2 ^ j) i) (d + 1)) := by
                      show _ = bz (stepM σ d (passN σ (rnd σ (2 ^ j) i) d))
                      have h6 : ¬ σ 6 d = -1 := by rw [eb0]; exact nI_ne_m1 (by omega)
                      by_cases h9 : σ 9 d = 0
                      · rw [sm_d c_59 h6 h9 ea0 eb0 (by omega) (by omega)]; exact zs_d (by rw [bz_t (bz_1 c_78)]; rcases bz_01 (passN σ (rnd σ (2 ^ j) i) d) b0 with z | z <;> rw [z] <;> rfl) rfl rfl
                      · rw [sm_p c_59 h6 h9 ea0 eb0 (by omega) (by omega)]; exact zs_p (by rw [bz_t (bz_1 c_78)]) rfl rfl
                    rw [e9] at hP hD
                    exact ih_41 (d + 1) (by omega) (by omega) _ _ _ hP hD hS (lv_sub hl [3, 4, 5, 6, 7, 8, 0] rfl)
                  · refine lv_aload hx hb dX2_reaches_81 (lv_at hl 0 rfl) ?_
                    refine lv_iconst (v := 3) hx hb dX2_reaches_83 (by decide) ?_
                    refine s_ldD hx hb hK hP (σ := σ) (n := n) (k := k) (q := q) (sm := sm) (w0 := tC cZ t n (bz (passN σ (rnd σ (2 ^ j) i) d))) (w2 := []) (by simp only [List.append_assoc, List.append_nil, List.nil_append]) d (by omega) 3 rfl (by decide) (v := σ 9 d) rfl dX2_reaches_84 ?_
                    refine lv_if_ne (tgt := 101) hx hb dX2_reaches_85 (by decide) (fun c_85 => ?_) (fun c_85 => ?_)
                    · refine lv_iconst (v := 0) hx hb dX2_reaches_101 (by decide) ?_
                      refine lv_istore (lv' := [(9, .int 0), (8, .ref (q.2.2 d)), (0, .ref sm), (2, .ref t), (3, .int 0), (4, .int (nI i)), (5, .ref q.1.2), (6, .int (nI k)), (7, .int (nI d))]) hx hb dX2_reaches_102 hl (by decide) rfl (fun ls hl => ?_)
                      refine lv_aload_n hx hb dX2_reaches_104 rfl (lv_at hl 3 rfl) ?_
                      refine lv_aload hx hb dX2_reaches_105 (lv_at hl 1 rfl) ?_
                      refine lv_iconst (v := 1) hx hb dX2_reaches_107 (by decide) ?_
                      refine s_ldD hx hb hK hP (σ := σ) (n := n) (k := k) (q := q) (sm := sm) (w0 := tC cZ t n (bz (passN σ (rnd σ (2 ^ j) i) d))) (w2 := []) (by simp only [List.append_assoc, List.append_nil, List.nil_append]) d (by omega) 1 rfl (by decide) (v := (nI b0)) eb0 dX2_reaches_108 ?_
                      refine lv_dup2_11 hx hb dX2_reaches_109 rfl rfl ?_
                      refine x_zld hx hb hK hP 0 1 rfl rfl b0 (rfl) (by omega) (by omega) (v := (bz (passN σ (rnd σ (2 ^ j) i) d)) b0) rfl dX2_reaches_110 ?_
                      refine lv_aload_n hx hb dX2_reaches_111 rfl (lv_at hl 3 rfl) ?_
                      refine lv_aload hx hb dX2_reaches_112 (lv_at hl 1 rfl) ?_
                      refine lv_iconst (v := 0) hx hb dX2_reaches_114 (by decide) ?_
                      refine s_ldD hx hb hK hP (σ := σ) (n := n) (k := k) (q := q) (sm := sm) (w0 := tC cZ t n (bz (passN σ (rnd σ (2 ^ j) i) d))) (w2 := []) (by simp only [List.append_assoc, List.append_nil, List.nil_append]) d (by omega) 0 rfl (by decide) (v := (nI a0)) ea0 dX2_reaches_115 ?_
                      refine x_zld hx hb hK hP 0 1 rfl rfl a0 (rfl) (by omega) (by omega) (v := (bz (passN σ (rnd σ (2 ^ j) i) d)) a0) rfl dX2_reaches_116 ?_
                      refine lv_ior hx hb dX2_reaches_117 ?_
                      refine x_zst (ws2 := (tC cZ t n (upd (bz (passN σ (rnd σ (2 ^ j) i) d)) b0 (((bz (passN σ (rnd σ (2 ^ j) i) d)) b0) ||| ((bz (passN σ (rnd σ (2 ^ j) i) d)) a0)))) ++ (sC cI cL sm q σ n k)) hx hb hK hP hD hS 0 1 rfl rfl b0 (rfl) (by omega) (by omega) (or_01 (bz_01 _ _) (bz_01 _ _)) rfl dX2_reaches_118 (fun H locs hP hD hS => ?_)
                      refine lv_aload_n hx hb dX2_reaches_119 rfl (lv_at hl 3 rfl) ?_
                      refine lv_aload hx hb dX2_reaches_120 (lv_at hl 1 rfl) ?_
                      refine lv_iconst (v := 0) hx hb dX2_reaches_122 (by decide) ?_
                      refine s_ldD hx hb hK hP (σ := σ) (n := n) (k := k) (q := q) (sm := sm) (w0 := tC cZ t n (upd (bz (passN σ (rnd σ (2 ^ j) i) d)) b0 (((bz (passN σ (rnd σ (2 ^ j) i) d)) b0) ||| ((bz (passN σ (rnd σ (2 ^ j) i) d)) a0)))) (w2 := []) (by simp only [List.append_assoc, List.append_nil, List.nil_append]) d (by omega) 0 rfl (by decide) (v := (nI a0)) ea0 dX2_reaches_123 ?_
                      refine lv_dup2_11 hx hb dX2_reaches_124 rfl rfl ?_
                      refine x_zld hx hb hK hP 0 1 rfl rfl a0 (rfl) (by omega) (by omega) (v := (upd (bz (passN σ (rnd σ (2 ^ j) i) d)) b0 (((bz (passN σ (rnd σ (2 ^ j) i) d)) b0) ||| ((bz (passN σ (rnd σ (2 ^ j) i) d)) a0))) a0) rfl dX2_reaches_125 ?_
                      refine lv_iload hx hb dX2_reaches_126 (lv_at hl 0 rfl) ?_
                      refine lv_ior hx hb dX2_reaches_128 ?_
                      refine x_zst (ws2 := (tC cZ t n (upd (upd (bz (passN σ (rnd σ (2 ^ j) i) d)) b0 (((bz (passN σ (rnd σ (2 ^ j) i) d)) b0) ||| ((bz (passN σ (rnd σ (2 ^ j) i) d)) a0))) a0 (((upd (bz (passN σ (rnd σ (2 ^ j) i) d)) b0 (((bz (passN σ (rnd σ (2 ^ j) i) d)) b0) ||| ((bz (passN σ (rnd σ (2 ^ j) i) d)) a0))) a0) ||| 0))) ++ (sC cI cL sm q σ n k)) hx hb hK hP hD hS 0 1 rfl rfl a0 (rfl) (by omega) (by omega) (or_01 (up_01 (bz_01 _) (or_01 (bz_01 _ _) (bz_01 _ _))) (by decide)) rfl dX2_reaches_129 (fun H locs hP hD hS => ?_)
                      refine lv_iinc (v := (nI (d + 1))) (lv' := [(7, .int (nI (d + 1))), (9, .int 0), (8, .ref (q.2.2 d)), (0, .ref sm), (2, .ref t), (3, .int 0), (4, .int (nI i)), (5, .ref q.1.2), (6, .int (nI k))]) hx hb dX2_reaches_130 hl (k := 8) rfl (nI_add d 1) (by decide) rfl (fun ls hl => ?_)
                      refine lv_goto (tgt := 41) hx hb dX2_reaches_133 (by decide) ?_
                      have e9 : upd (upd (bz (passN σ (rnd σ (2 ^ j) i) d)) b0 (((bz (passN σ (rnd σ (2 ^ j) i) d)) b0) ||| ((bz (passN σ (rnd σ (2 ^ j) i) d)) a0))) a0 (((upd (bz (passN σ (rnd σ (2 ^ j) i) d)) b0 (((bz (passN σ (rnd σ (2 ^ j) i) d)) b0) ||| ((bz (passN σ (rnd σ (2 ^ j) i) d)) a0))) a0) ||| 0) = bz (passN σ (rnd σ (2 ^ j) i) (d + 1)) := by
                        show _ = bz (stepM σ d (passN σ (rnd σ (2 ^ j) i) d))
                        have h6 : ¬ σ 6 d = -1 := by rw [eb0]; exact nI_ne_m1 (by omega)
                        have h9 := c_85
                        rw [sm_p c_59 h6 h9 ea0 eb0 (by omega) (by omega)]; exact zs_p (by rw [bz_f (bz_0 c_78)]) rfl rfl
                      rw [e9] at hP hD
                      exact ih_41 (d + 1) (by omega) (by omega) _ _ _ hP hD hS (lv_sub hl [3, 4, 5, 6, 7, 8, 0] rfl)
                    · refine lv_aload_n hx hb dX2_reaches_88 rfl (lv_at hl 2 rfl) ?_
                      refine lv_aload hx hb dX2_reaches_89 (lv_at hl 0 rfl) ?_
                      refine lv_iconst (v := 1) hx hb dX2_reaches_91 (by decide) ?_
                      refine s_ldD hx hb hK hP (σ := σ) (n := n) (k := k) (q := q) (sm := sm) (w0 := tC cZ t n (bz (passN σ (rnd σ (2 ^ j) i) d))) (w2 := []) (by simp only [List.append_assoc, List.append_nil, List.nil_append]) d (by omega) 1 rfl (by decide) (v := (nI b0)) eb0 dX2_reaches_92 ?_
                      refine x_zld hx hb hK hP 0 1 rfl rfl b0 (rfl) (by omega) (by omega) (v := (bz (passN σ (rnd σ (2 ^ j) i) d)) b0) rfl dX2_reaches_93 ?_
                      refine lv_if_eq (tgt := 101) hx hb dX2_reaches_94 (by decide) (fun c_94 => ?_) (fun c_94 => ?_)
                      · refine lv_iconst (v := 0) hx hb dX2_reaches_101 (by decide) ?_
                        refine lv_istore (lv' := [(9, .int 0), (8, .ref (q.2.2 d)), (0, .ref sm), (2, .ref t), (3, .int 0), (4, .int (nI i)), (5, .ref q.1.2), (6, .int (nI k)), (7, .int (nI d))]) hx hb dX2_reaches_102 hl (by decide) rfl (fun ls hl => ?_)
                        refine lv_aload_n hx hb dX2_reaches_104 rfl (lv_at hl 3 rfl) ?_
                        refine lv_aload hx hb dX2_reaches_105 (lv_at hl 1 rfl) ?_
                        refine lv_iconst (v := 1) hx hb dX2_reaches_107 (by decide) ?_
                        refine s_ldD hx hb hK hP (σ := σ) (n := n) (k := k) (q := q) (sm := sm) (w0 := tC cZ t n (bz (passN σ (rnd σ (2 ^ j) i) d))) (w2 := []) (by simp only [List.append_assoc, List.append_nil, List.nil_append]) d (by omega) 1 rfl (by decide) (v := (nI b0)) eb0 dX2_reaches_108 ?_
                        refine lv_dup2_11 hx hb dX2_reaches_109 rfl rfl ?_
                        refine x_zld hx hb hK hP 0 1 rfl rfl b0 (rfl) (by omega) (by omega) (v := (bz (passN σ (rnd σ (2 ^ j) i) d)) b0) rfl dX2_reaches_110 ?_
                        refine lv_aload_n hx hb dX2_reaches_111 rfl (lv_at hl 3 rfl) ?_
                        refine lv_aload hx hb dX2_reaches_112 (lv_at hl 1 rfl) ?_
                        refine lv_iconst (v := 0) hx hb dX2_reaches_114 (by decide) ?_
                        refine s_ldD hx hb hK hP (σ := σ) (n := n) (k := k) (q := q) (sm := sm) (w0 := tC cZ t n (bz (passN σ (rnd σ (2 ^ j) i) d))) (w2 := []) (by simp only [List.append_assoc, List.append_nil, List.nil_append]) d (by omega) 0 rfl (by decide) (v := (nI a0)) ea0 dX2_reaches_115 ?_
                        refine x_zld hx hb hK hP 0 1 rfl rfl a0 (rfl) (by omega) (by omega) (v := (bz (passN σ (rnd σ (2 ^ j) i) d)) a0) rfl dX2_reaches_116 ?_
                        refine lv_ior hx hb dX2_reaches_117 ?_
                        refine x_zst (ws2 := (tC cZ t n (upd (bz (passN σ (rnd σ (2 ^ j) i) d)) b0 (((bz (passN σ (rnd σ (2 ^ j) i) d)) b0) ||| ((bz (passN σ (rnd σ (2 ^ j) i) d)) a0)))) ++ (sC cI cL sm q σ n k)) hx hb hK hP hD hS 0 1 rfl rfl b0 (rfl) (by omega) (by omega) (or_01 (bz_01 _ _) (bz_01 _ _)) rfl dX2_reaches_118 (fun H locs hP hD hS => ?_)
                        refine lv_aload_n hx hb dX2_reaches_119 rfl (lv_at hl 3 rfl) ?_
                        refine lv_aload hx hb dX2_reaches_120 (lv_at hl 1 rfl) ?_
                        refine lv_iconst (v := 0) hx hb dX2_reaches_122 (by decide) ?_
                        refine s_ldD hx hb hK hP (σ := σ) (n := n) (k := k) (q := q) (sm := sm) (w0 := tC cZ t n (upd (bz (passN σ (rnd σ (2 ^ j) i) d)) b0 (((bz (passN σ (rnd σ (2 ^ j) i) d)) b0) ||| ((bz (passN σ (rnd σ (2 ^ j) i) d)) a0)))) (w2 := []) (by simp only [List.append_assoc, List.append_nil, List.nil_append]) d (by omega) 0 rfl (by decide) (v := (nI a0)) ea0 dX2_reaches_123 ?_
                        refine lv_dup2_11 hx hb dX2_reaches_124 rfl rfl ?_
                        refine x_zld hx hb hK hP 0 1 rfl rfl a0 (rfl) (by omega) (by omega) (v := (upd (bz (passN σ (rnd σ (2 ^ j) i) d)) b0 (((bz (passN σ (rnd σ (2 ^ j) i) d)) b0) ||| ((bz (passN σ (rnd σ (2 ^ j) i) d)) a0))) a0) rfl dX2_reaches_125 ?_
                        refine lv_iload hx hb dX2_reaches_126 (lv_at hl 0 rfl) ?_
                        refine lv_ior hx hb dX2_reaches_128 ?_
                        refine x_zst (ws2 := (tC cZ t n (upd (upd (bz (passN σ (rnd σ (2 ^ j) i) d)) b0 (((bz (passN σ (rnd σ (2 ^ j) i) d)) b0) ||| ((bz (passN σ (rnd σ (2 ^ j) i) d)) a0))) a0 (((upd (bz (passN σ (rnd σ (2 ^ j) i) d)) b0 (((bz (passN σ (rnd σ (2 ^ j) i) d)) b0) ||| ((bz (passN σ (rnd σ (2 ^ j) i) d)) a0))) a0) ||| 0))) ++ (sC cI cL sm q σ n k)) hx hb hK hP hD hS 0 1 rfl rfl a0 (rfl) (by omega) (by omega) (or_01 (up_01 (bz_01 _) (or_01 (bz_01 _ _) (bz_01 _ _))) (by decide)) rfl dX2_reaches_129 (fun H locs hP hD hS => ?_)
                        refine lv_iinc (v := (nI (d + 1))) (lv' := [(7, .int (nI (d + 1))), (9, .int 0), (8, .ref (q.2.2 d)), (0, .ref sm), (2, .ref t), (3, .int 0), (4, .int (nI i)), (5, .ref q.1.2), (6, .int (nI k))]) hx hb dX2_reaches_130 hl (k := 8) rfl (nI_add d 1) (by decide) rfl (fun ls hl => ?_)
                        refine lv_goto (tgt := 41) hx hb dX2_reaches_133 (by decide) ?_
                        have e9 : upd (upd (bz (passN σ (rnd σ (2 ^ j) i) d)) b0 (((bz (passN σ (rnd σ (2 ^ j) i) d)) b0) ||| ((bz (passN σ (rnd σ (2 ^ j) i) d)) a0))) a0 (((upd (bz (passN σ (rnd σ (2 ^ j) i) d)) b0 (((bz (passN σ (rnd σ (2 ^ j) i) d)) b0) ||| ((bz (passN σ (rnd σ (2 ^ j) i) d)) a0))) a0) ||| 0) = bz (passN σ (rnd σ (2 ^ j) i) (d + 1)) := by
                          show _ = bz (stepM σ d (passN σ (rnd σ (2 ^ j) i) d))
                          have h6 : ¬ σ 6 d = -1 := by rw [eb0]; exact nI_ne_m1 (by omega)
                          have h9 := c_85
                          rw [sm_d c_59 h6 h9 ea0 eb0 (by omega) (by omega)]; exact zs_d (by rw [bz_f (bz_0 c_78), bz_f (bz_0 c_94)] <;> rfl) rfl rfl
                        rw [e9] at hP hD
                        exact ih_41 (d + 1) (by omega) (by omega) _ _ _ hP hD hS (lv_sub hl [3, 4, 5, 6, 7, 8, 0] rfl)
                      · refine lv_iconst (v := 1) hx hb dX2_reaches_97 (by decide) ?_
                        refine lv_goto (tgt := 102) hx hb dX2_reaches_98 (by decide) ?_
                        refine lv_istore (lv' := [(9, .int 1), (8, .ref (q.2.2 d)), (0, .ref sm), (2, .ref t), (3, .int 0), (4, .int (nI i)), (5, .ref q.1.2), (6, .int (nI k)), (7, .int (nI d))]) hx hb dX2_reaches_102 hl (by decide) rfl (fun ls hl => ?_)
                        refine lv_aload_n hx hb dX2_reaches_104 rfl (lv_at hl 3 rfl) ?_
                        refine lv_aload hx hb dX2_reaches_105 (lv_at hl 1 rfl) ?_
                        refine lv_iconst (v := 1) hx hb dX2_reaches_107 (by decide) ?_
                        refine s_ldD hx hb hK hP (σ := σ) (n := n) (k := k) (q := q) (sm := sm) (w0 := tC cZ t n (bz (passN σ (rnd σ (2 ^ j) i) d))) (w2 := []) (by simp only [List.append_assoc, List.append_nil, List.nil_append]) d (by omega) 1 rfl (by decide) (v := (nI b0)) eb0 dX2_reaches_108 ?_
                        refine lv_dup2_11 hx hb dX2_reaches_109 rfl rfl ?_
                        refine x_zld hx hb hK hP 0 1 rfl rfl b0 (rfl) (by omega) (by omega) (v := (bz (passN σ (rnd σ (2 ^ j) i) d)) b0) rfl dX2_reaches_110 ?_
                        refine lv_aload_n hx hb dX2_reaches_111 rfl (lv_at hl 3 rfl) ?_
                        refine lv_aload hx hb dX2_reaches_112 (lv_at hl 1 rfl) ?_
                        refine lv_iconst (v := 0) hx hb dX2_reaches_114 (by decide) ?_
                        refine s_ldD hx hb hK hP (σ := σ) (n := n) (k := k) (q := q) (sm := sm) (w0 := tC cZ t n (bz (passN σ (rnd σ (2 ^ j) i) d))) (w2 := []) (by simp only [List.append_assoc, List.append_nil, List.nil_append]) d (by omega) 0 rfl (by decide) (v := (nI a0)) ea0 dX2_reaches_115 ?_
                        refine x_zld hx hb hK hP 0 1 rfl rfl a0 (rfl) (by omega) (by omega) (v := (bz (passN σ (rnd σ (2 ^ j) i) d)) a0) rfl dX2_reaches_116 ?_
                        refine lv_ior hx hb dX2_reaches_117 ?_
                        refine x_zst (ws2 := (tC cZ t n (upd (bz (passN σ (rnd σ (2 ^ j) i) d)) b0 (((bz (passN σ (rnd σ (2 ^ j) i) d)) b0) ||| ((bz (passN σ (rnd σ (2 ^ j) i) d)) a0)))) ++ (sC cI cL sm q σ n k)) hx hb hK hP hD hS 0 1 rfl rfl b0 (rfl) (by omega) (by omega) (or_01 (bz_01 _ _) (bz_01 _ _)) rfl dX2_reaches_118 (fun H locs hP hD hS => ?_)
                        refine lv_aload_n hx hb dX2_reaches_119 rfl (lv_at hl 3 rfl) ?_
                        refine lv_aload hx hb dX2_reaches_120 (lv_at hl 1 rfl) ?_
                        refine lv_iconst (v := 0) hx hb dX2_reaches_122 (by decide) ?_
                        refine s_ldD hx hb hK hP (σ := σ) (n := n) (k := k) (q := q) (sm := sm) (w0 := tC cZ t n (upd (bz (passN σ (rnd σ (2 ^ j) i) d)) b0 (((bz (passN σ (rnd σ (2 ^ j) i) d)) b0) ||| ((bz (passN σ (rnd σ (2 ^ j) i) d)) a0)))) (w2 := []) (by simp only [List.append_assoc, List.append_nil, List.nil_append]) d (by omega) 0 rfl (by decide) (v := (nI a0)) ea0 dX2_reaches_123 ?_
                        refine lv_dup2_11 hx hb dX2_reaches_124 rfl rfl ?_
                        refine x_zld hx hb hK hP 0 1 rfl rfl a0 (rfl) (by omega) (by omega) (v := (upd (bz (passN σ (rnd σ (2 ^ j) i) d)) b0 (((bz (passN σ (rnd σ (2 ^ j) i) d)) b0) ||| ((bz (passN σ (rnd σ (2 ^ j) i) d)) a0))) a0) rfl dX2_reaches_125 ?_
                        refine lv_iload hx hb dX2_reaches_126 (lv_at hl 0 rfl) ?_
                        refine lv_ior hx hb dX2_reaches_128 ?_
                        refine x_zst (ws2 := (tC cZ t n (upd (upd (bz (passN σ (rnd σ (2 ^ j) i) d)) b0 (((bz (passN σ (rnd σ (2 ^ j) i) d)) b0) ||| ((bz (passN σ (rnd σ (2 ^ j) i) d)) a0))) a0 (((upd (bz (passN σ (rnd σ (2 ^ j) i) d)) b0 (((bz (passN σ (rnd σ (2 ^ j) i) d)) b0) ||| ((bz (passN σ (rnd σ (2 ^ j) i) d)) a0))) a0) ||| 1))) ++ (sC cI cL sm q σ n k)) hx hb hK hP hD hS 0 1 rfl rfl a0 (rfl) (by omega) (by omega) (or_01 (up_01 (bz_01 _) (or_01 (bz_01 _ _) (bz_01 _ _))) (by decide)) rfl dX2_reaches_129 (fun H locs hP hD hS => ?_)
                        refine lv_iinc (v := (nI (d + 1))) (lv' := [(7, .int (nI (d + 1))), (9, .int 1), (8, .ref (q.2.2 d)), (0, .ref sm), (2, .ref t), (3, .int 0), (4, .int (nI i)), (5, .ref q.1.2), (6, .int (nI k))]) hx hb dX2_reaches_130 hl (k := 8) rfl (nI_add d 1) (by decide) rfl (fun ls hl => ?_)
                        refine lv_goto (tgt := 41) hx hb dX2_reaches_133 (by decide) ?_
                        have e9 : upd (upd (bz (passN σ (rnd σ (2 ^ j) i) d)) b0 (((bz (passN σ (rnd σ (2 ^ j) i) d)) b0) ||| ((bz (passN σ (rnd σ (2 ^ j) i) d)) a0))) a0 (((upd (bz (passN σ (rnd σ (2 ^ j) i) d)) b0 (((bz (passN σ (rnd σ (2 ^ j) i) d)) b0) ||| ((bz (passN σ (rnd σ (2 ^ j) i) d)) a0))) a0) ||| 1) = bz (passN σ (rnd σ (2 ^ j) i) (d + 1)) := by
                          show _ = bz (stepM σ d (passN σ (rnd σ (2 ^ j) i) d))
                          have h6 : ¬ σ 6 d = -1 := by rw [eb0]; exact nI_ne_m1 (by omega)
                          have h9 := c_85
                          rw [sm_d c_59 h6 h9 ea0 eb0 (by omega) (by omega)]; exact zs_d (by rw [bz_f (bz_0 c_78), bz_t (bz_1 c_94)] <;> rfl) rfl rfl
                        rw [e9] at hP hD
                        exact ih_41 (d + 1) (by omega) (by omega) _ _ _ hP hD hS (lv_sub hl [3, 4, 5, 6, 7, 8, 0] rfl)
                · have ea0 : σ 5 d = nI a0 := ea0 (by omega)
                  refine lv_goto (tgt := 130) hx hb dX2_reaches_69 (by decide) ?_
                  refine lv_iinc (v := (nI (d + 1))) (lv' := [(7, .int (nI (d + 1))), (8, .ref (q.2.2 d)), (0, .ref sm), (2, .ref t), (3, .int 0), (4, .int (nI i)), (5, .ref q.1.2), (6, .int (nI k))]) hx hb dX2_reaches_130 hl (k := 7) rfl (nI_add d 1) (by decide) rfl (fun ls hl => ?_)
                  refine lv_goto (tgt := 41) hx hb dX2_reaches_133 (by decide) ?_
                  have e9 : bz (passN σ (rnd σ (2 ^ j) i) d) = bz (passN σ (rnd σ (2 ^ j) i) (d + 1)) := by
                    show _ = bz (stepM σ d (passN σ (rnd σ (2 ^ j) i) d))
                    rw [sm_neg hst (by omega) c_66]
                  rw [e9] at hP hD
                  exact ih_41 (d + 1) (by omega) (by omega) _ _ _ hP hD hS (lv_sub hl [2, 3, 4, 5, 6, 7, 0] rfl)
        exact L41 (k + 1) 0 (by omega) (by omega) _ _ _ hP hD hS (lv_sub hl [3, 4, 5, 6, 2, 1, 0] rfl)
  exact L17 (n + 1) 0 (by omega) (by omega) _ _ _ hP hD hS (lv_sub hl [3, 2, 1, 0] rfl)
