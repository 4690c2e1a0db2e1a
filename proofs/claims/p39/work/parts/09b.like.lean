abbrev rmX0_becomeLike : Room := { frames := 0, cells := 0, slots := 0, locals := 0 }
theorem b_X0_becomeLike : Cond.instanceMethod yX0_becomeLike ∈ LW ∧ Cond.selects RX0 yX0_becomeLike yX0_becomeLike ∈ LW ∧ Cond.initialized RX0 ∈ LW ∧ Cond.code yX0_becomeLike cX0_becomeLike 3 none ∈ LW := ⟨q342, q343, q10, q344⟩
set_option maxHeartbeats 4000000 in
set_option maxRecDepth 100000 in
theorem c_X0_becomeLike (l : Launch) (D : va_G) (cI cZ cL : ClassId) (h : Nat) (a : Nat → Nat) (σ : Sg) (h2 : Nat) (a2 : Nat → Nat) (τ : Sg) {B : Nat} (hB : Bnd B σ) : MC l yX0_becomeLike cX0_becomeLike 3 none rmX0_becomeLike D (tZ cI cZ cL) [.ref h2, .ref h] ((mC cI cZ h a σ) ++ (mC cI cZ h2 a2 τ)) ((mC cI cZ h a σ) ++ (mC cI cZ h2 a2 σ)) (none) := by
  refine MC.of (by decide) (Nat.le_of_ble_eq_true rfl) ?_
  intro p e s m args below meth c A ls Q hx hb hml hr hts hown hlocks hA hP hD hK hS hl hQ
  have hown : s.vm.findClass RX0 = some m.cls := hown
  have hl : lv_has ls 3 [(0, .ref h2), (1, .ref h)] := hl
  refine lv_aload_n hx hb dX0_becomeLike_0 rfl (lv_at hl 0 rfl) ?_
  refine lv_aload_n hx hb dX0_becomeLike_1 rfl (lv_at hl 1 rfl) ?_
  refine x_get (C := RX0) (T := TX0) (N := 16) hx hb hts in_wsX00 hown hK hP 0 rfl rfl 11 (by decide) q53 (v := .int (σ 11 0)) rfl dX0_becomeLike_2 ?_
  refine x_put (C := RX0) (T := TX0) (N := 16) (ws2 := (mC cI cZ h a σ) ++ (mC cI cZ h2 a2 (sc τ 0 (σ 11 0)))) hx hb hts in_wsX00 tyX0_ok nmX0 hown hK hP hD hS 12 rfl rfl 11 (by decide) q53 rfl (by decide +kernel) (Nat.le_of_ble_eq_true rfl) rfl dX0_becomeLike_5 (fun H locs hP hD hS => ?_)
  refine lv_aload_n hx hb dX0_becomeLike_8 rfl (lv_at hl 0 rfl) ?_
  refine lv_aload_n hx hb dX0_becomeLike_9 rfl (lv_at hl 1 rfl) ?_
  refine x_get (C := RX0) (T := TX0) (N := 16) hx hb hts in_wsX00 hown hK hP 0 rfl rfl 12 (by decide) q55 (v := .int (σ 11 1)) rfl dX0_becomeLike_10 ?_
  refine x_put (C := RX0) (T := TX0) (N := 16) (ws2 := (mC cI cZ h a σ) ++ (mC cI cZ h2 a2 (sc (sc τ 0 (σ 11 0)) 1 (σ 11 1)))) hx hb hts in_wsX00 tyX0_ok nmX0 hown hK hP hD hS 12 rfl rfl 12 (by decide) q55 rfl (by decide +kernel) (Nat.le_of_ble_eq_true rfl) rfl dX0_becomeLike_13 (fun H locs hP hD hS => ?_)
  refine lv_aload_n hx hb dX0_becomeLike_16 rfl (lv_at hl 0 rfl) ?_
  refine lv_aload_n hx hb dX0_becomeLike_17 rfl (lv_at hl 1 rfl) ?_
  refine x_get (C := RX0) (T := TX0) (N := 16) hx hb hts in_wsX00 hown hK hP 0 rfl rfl 13 (by decide) q58 (v := .int (σ 11 2)) rfl dX0_becomeLike_18 ?_
  refine x_put (C := RX0) (T := TX0) (N := 16) (ws2 := (mC cI cZ h a σ) ++ (mC cI cZ h2 a2 (sc (sc (sc τ 0 (σ 11 0)) 1 (σ 11 1)) 2 (σ 11 2)))) hx hb hts in_wsX00 tyX0_ok nmX0 hown hK hP hD hS 12 rfl rfl 13 (by decide) q58 rfl (by decide +kernel) (Nat.le_of_ble_eq_true rfl) rfl dX0_becomeLike_21 (fun H locs hP hD hS => ?_)
  refine lv_aload_n hx hb dX0_becomeLike_24 rfl (lv_at hl 0 rfl) ?_
  refine lv_aload_n hx hb dX0_becomeLike_25 rfl (lv_at hl 1 rfl) ?_
  refine x_get (C := RX0) (T := TX0) (N := 16) hx hb hts in_wsX00 hown hK hP 0 rfl rfl 14 (by decide) q60 (v := .int (σ 11 3)) rfl dX0_becomeLike_26 ?_
  refine x_put (C := RX0) (T := TX0) (N := 16) (ws2 := (mC cI cZ h a σ) ++ (mC cI cZ h2 a2 (sc (sc (sc (sc τ 0 (σ 11 0)) 1 (σ 11 1)) 2 (σ 11 2)) 3 (σ 11 3)))) hx hb hts in_wsX00 tyX0_ok nmX0 hown hK hP hD hS 12 rfl rfl 14 (by decide) q60 rfl (by decide +kernel) (Nat.le_of_ble_eq_true rfl) rfl dX0_becomeLike_29 (fun H locs hP hD hS => ?_)
  refine lv_aload_n hx hb dX0_becomeLike_32 rfl (lv_at hl 0 rfl) ?_
  refine lv_aload_n hx hb dX0_becomeLike_33 rfl (lv_at hl 1 rfl) ?_
  refine x_get (C := RX0) (T := TX0) (N := 16) hx hb hts in_wsX00 hown hK hP 0 rfl rfl 15 (by decide) q62 (v := .int (σ 11 4)) rfl dX0_becomeLike_34 ?_
  refine x_put (C := RX0) (T := TX0) (N := 16) (ws2 := (mC cI cZ h a σ) ++ (mC cI cZ h2 a2 (sc (sc (sc (sc (sc τ 0 (σ 11 0)) 1 (σ 11 1)) 2 (σ 11 2)) 3 (σ 11 3)) 4 (σ 11 4)))) hx hb hts in_wsX00 tyX0_ok nmX0 hown hK hP hD hS 12 rfl rfl 15 (by decide) q62 rfl (by decide +kernel) (Nat.le_of_ble_eq_true rfl) rfl dX0_becomeLike_37 (fun H locs hP hD hS => ?_)
  refine lv_iconst (v := 0) hx hb dX0_becomeLike_40 (by decide) ?_
  refine lv_istore_n (lv' := [(2, .int 0), (0, .ref h2), (1, .ref h)]) hx hb dX0_becomeLike_41 rfl hl (by decide) rfl (fun ls hl => ?_)
  rw [show sc (sc (sc (sc (sc τ 0 (σ 11 0)) 1 (σ 11 1)) 2 (σ 11 2)) 3 (σ 11 3)) 4 (σ 11 4) = cpA 0 σ (cp5 σ τ) from (cpA_0 σ _).symm] at hP hD
  have hl : lv_has ls 3 [(2, .int (nI 0)), (0, .ref h2), (1, .ref h)] := hl
  have L42 : ∀ (f i : Nat), i ≤ 10 → 10 < i + f → ∀ (H : Heap) (locs : List Loc) (ls : Array Slot), va_P D vwCl ((mC cI cZ h a σ) ++ (mC cI cZ h2 a2 (cpA i σ (cp5 σ τ)))) H → va_D A ((mC cI cZ h a σ) ++ (mC cI cZ h2 a2 (cpA i σ (cp5 σ τ)))) → va_S A s.heap H locs → lv_has ls 3 [(0, .ref h2), (1, .ref h), (2, .int (nI i))] → W p l e rmX0_becomeLike s m args below meth c H locs 0 0 Q (F0 m 42 ls []) := by
    intro f
    induction f with
    | zero => intro i h1 h2; exact absurd h2 (by omega)
    | succ f ih_42 =>
      intro i hi_42 hf_42 H locs ls hP hD hS hl
      obtain ⟨ρ, eρ⟩ : ∃ z, z = cpA i σ (cp5 σ τ) := ⟨_, rfl⟩
      rw [← eρ] at hP hD
      refine lv_iload_n hx hb dX0_becomeLike_42 rfl (lv_at hl 2 rfl) ?_
      refine lv_bipush (v := 10) hx hb dX0_becomeLike_43 (by decide) ?_
      refine lv_icmp_ge (tgt := 114) hx hb dX0_becomeLike_45 (by decide) (fun c_45 => ?_) (fun c_45 => ?_)
      · have hc_45 : 10 ≤ i := (nI_leI (a := 10) (b := i) (by omega) (by omega)).mp c_45
        refine lv_iconst (v := 0) hx hb dX0_becomeLike_114 (by decide) ?_
        refine lv_istore_n (lv' := [(2, .int 0), (0, .ref h2), (1, .ref h)]) hx hb dX0_becomeLike_115 rfl hl (by decide) rfl (fun ls hl => ?_)
        rw [show ρ = cpB 0 σ (cpA 10 σ (cp5 σ τ)) by rw [cpB_0, eρ, show i = 10 by omega]] at hP hD
        have hl : lv_has ls 3 [(2, .int (nI 0)), (0, .ref h2), (1, .ref h)] := hl
        have L116 : ∀ (f j : Nat), j ≤ 16 → 16 < j + f → ∀ (H : Heap) (locs : List Loc) (ls : Array Slot), va_P D vwCl ((mC cI cZ h a σ) ++ (mC cI cZ h2 a2 (cpB j σ (cpA 10 σ (cp5 σ τ))))) H → va_D A ((mC cI cZ h a σ) ++ (mC cI cZ h2 a2 (cpB j σ (cpA 10 σ (cp5 σ τ))))) → va_S A s.heap H locs → lv_has ls 3 [(0, .ref h2), (1, .ref h), (2, .int (nI j))] → W p l e rmX0_becomeLike s m args below meth c H locs 0 0 Q (F0 m 116 ls []) := by
          intro f
          induction f with
          | zero => intro j h1 h2; exact absurd h2 (by omega)
          | succ f ih_116 =>
            intro j hi_116 hf_116 H locs ls hP hD hS hl
            obtain ⟨ρ2, eρ2⟩ : ∃ z, z = cpB j σ (cpA 10 σ (cp5 σ τ)) := ⟨_, rfl⟩
            rw [← eρ2] at hP hD
            refine lv_iload_n hx hb dX0_becomeLike_116 rfl (lv_at hl 2 rfl) ?_
            refine lv_bipush (v := 16) hx hb dX0_becomeLike_117 (by decide) ?_
            refine lv_icmp_ge (tgt := 200) hx hb dX0_becomeLike_119 (by decide) (fun c_119 => ?_) (fun c_119 => ?_)
            · have hc_119 : 16 ≤ j := (nI_leI (a := 16) (b := j) (by omega) (by omega)).mp c_119
              rw [eρ2, show j = 16 by omega] at hP hD
              obtain ⟨hP, hD⟩ := like_end hP hD
              subst hQ
              exact rv hx hb hr hlocks hK hP hD hS dX0_becomeLike_200 (rfl)
            · have hc_119 : j < 16 := Nat.not_le.mp (fun z => c_119 ((nI_leI (a := 16) (b := j) (by omega) (by omega)).mpr z))
              refine lv_aload_n hx hb dX0_becomeLike_122 rfl (lv_at hl 0 rfl) ?_
              refine x_get (C := RX0) (T := TX0) (N := 16) hx hb hts in_wsX00 hown hK hP 12 rfl rfl 5 (by decide) q42 (v := .ref (a2 5)) rfl dX0_becomeLike_123 ?_
              refine lv_iload_n hx hb dX0_becomeLike_126 rfl (lv_at hl 2 rfl) ?_
              refine lv_aload_n hx hb dX0_becomeLike_127 rfl (lv_at hl 1 rfl) ?_
              refine x_get (C := RX0) (T := TX0) (N := 16) hx hb hts in_wsX00 hown hK hP 0 rfl rfl 5 (by decide) q42 (v := .ref (a 5)) rfl dX0_becomeLike_128 ?_
              refine lv_iload_n hx hb dX0_becomeLike_131 rfl (lv_at hl 2 rfl) ?_
              refine x_ild hx hb hK hP 6 0 rfl rfl j (rfl) (by omega) (by decide) (v := σ 5 j) rfl dX0_becomeLike_132 ?_
              refine x_ist (ws2 := (mC cI cZ h a σ) ++ (mC cI cZ h2 a2 (su ρ2 5 j (σ 5 j)))) hx hb hK hP hD hS 18 0 rfl rfl j (rfl) (by omega) (by decide) rfl dX0_becomeLike_133 (fun H locs hP hD hS => ?_)
              refine lv_aload_n hx hb dX0_becomeLike_134 rfl (lv_at hl 0 rfl) ?_
              refine x_get (C := RX0) (T := TX0) (N := 16) hx hb hts in_wsX00 hown hK hP 12 rfl rfl 6 (by decide) q44 (v := .ref (a2 6)) rfl dX0_becomeLike_135 ?_
              refine lv_iload_n hx hb dX0_becomeLike_138 rfl (lv_at hl 2 rfl) ?_
              refine lv_aload_n hx hb dX0_becomeLike_139 rfl (lv_at hl 1 rfl) ?_
              refine x_get (C := RX0) (T := TX0) (N := 16) hx hb hts in_wsX00 hown hK hP 0 rfl rfl 6 (by decide) q44 (v := .ref (a 6)) rfl dX0_becomeLike_140 ?_
              refine lv_iload_n hx hb dX0_becomeLike_143 rfl (lv_at hl 2 rfl) ?_
              refine x_ild hx hb hK hP 7 0 rfl rfl j (rfl) (by omega) (by decide) (v := σ 6 j) rfl dX0_becomeLike_144 ?_
              refine x_ist (ws2 := (mC cI cZ h a σ) ++ (mC cI cZ h2 a2 (su (su ρ2 5 j (σ 5 j)) 6 j (σ 6 j)))) hx hb hK hP hD hS 19 0 rfl rfl j (rfl) (by omega) (by decide) rfl dX0_becomeLike_145 (fun H locs hP hD hS => ?_)
              refine lv_aload_n hx hb dX0_becomeLike_146 rfl (lv_at hl 0 rfl) ?_
              refine x_get (C := RX0) (T := TX0) (N := 16) hx hb hts in_wsX00 hown hK hP 12 rfl rfl 7 (by decide) q46 (v := .ref (a2 7)) rfl dX0_becomeLike_147 ?_
              refine lv_iload_n hx hb dX0_becomeLike_150 rfl (lv_at hl 2 rfl) ?_
              refine lv_aload_n hx hb dX0_becomeLike_151 rfl (lv_at hl 1 rfl) ?_
              refine x_get (C := RX0) (T := TX0) (N := 16) hx hb hts in_wsX00 hown hK hP 0 rfl rfl 7 (by decide) q46 (v := .ref (a 7)) rfl dX0_becomeLike_152 ?_
              refine lv_iload_n hx hb dX0_becomeLike_155 rfl (lv_at hl 2 rfl) ?_
              refine x_ild hx hb hK hP 8 0 rfl rfl j (rfl) (by omega) (by decide) (v := σ 7 j) rfl dX0_becomeLike_156 ?_
              refine x_ist (ws2 := (mC cI cZ h a σ) ++ (mC cI cZ h2 a2 (su (su (su ρ2 5 j (σ 5 j)) 6 j (σ 6 j)) 7 j (σ 7 j)))) hx hb hK hP hD hS 20 0 rfl rfl j (rfl) (by omega) (by decide) rfl dX0_becomeLike_157 (fun H locs hP hD hS => ?_)
              refine lv_aload_n hx hb dX0_becomeLike_158 rfl (lv_at hl 0 rfl) ?_
              refine x_get (C := RX0) (T := TX0) (N := 16) hx hb hts in_wsX00 hown hK hP 12 rfl rfl 8 (by decide) q47 (v := .ref (a2 8)) rfl dX0_becomeLike_159 ?_
              refine lv_iload_n hx hb dX0_becomeLike_162 rfl (lv_at hl 2 rfl) ?_
              refine lv_aload_n hx hb dX0_becomeLike_163 rfl (lv_at hl 1 rfl) ?_
              refine x_get (C := RX0) (T := TX0) (N := 16) hx hb hts in_wsX00 hown hK hP 0 rfl rfl 8 (by decide) q47 (v := .ref (a 8)) rfl dX0_becomeLike_164 ?_
              refine lv_iload_n hx hb dX0_becomeLike_167 rfl (lv_at hl 2 rfl) ?_
              refine x_ild hx hb hK hP 9 0 rfl rfl j (rfl) (by omega) (by decide) (v := σ 8 j) rfl dX0_becomeLike_168 ?_
              refine x_ist (ws2 := (mC cI cZ h a σ) ++ (mC cI cZ h2 a2 (su (su (su (su ρ2 5 j (σ 5 j)) 6 j (σ 6 j)) 7 j (σ 7 j)) 8 j (σ 8 j)))) hx hb hK hP hD hS 21 0 rfl rfl j (rfl) (by omega) (by decide) rfl dX0_becomeLike_169 (fun H locs hP hD hS => ?_)
              refine lv_aload_n hx hb dX0_becomeLike_170 rfl (lv_at hl 0 rfl) ?_
              refine x_get (C := RX0) (T := TX0) (N := 16) hx hb hts in_wsX00 hown hK hP 12 rfl rfl 9 (by decide) q49 (v := .ref (a2 9)) rfl dX0_becomeLike_171 ?_
              refine lv_iload_n hx hb dX0_becomeLike_174 rfl (lv_at hl 2 rfl) ?_
              refine lv_aload_n hx hb dX0_becomeLike_175 rfl (lv_at hl 1 rfl) ?_
              refine x_get (C := RX0) (T := TX0) (N := 16) hx hb hts in_wsX00 hown hK hP 0 rfl rfl 9 (by decide) q49 (v := .ref (a 9)) rfl dX0_becomeLike_176 ?_
              refine lv_iload_n hx hb dX0_becomeLike_179 rfl (lv_at hl 2 rfl) ?_
              refine x_zld hx hb hK hP 10 1 rfl rfl j (rfl) (by omega) (by decide) (v := σ 9 j) rfl dX0_becomeLike_180 ?_
              refine x_zst (ws2 := (mC cI cZ h a σ) ++ (mC cI cZ h2 a2 (su (su (su (su (su ρ2 5 j (σ 5 j)) 6 j (σ 6 j)) 7 j (σ 7 j)) 8 j (σ 8 j)) 9 j (σ 9 j)))) hx hb hK hP hD hS 22 1 rfl rfl j (rfl) (by omega) (by decide) (hB.2.2.2.2.2.1 j (by omega)) rfl dX0_becomeLike_181 (fun H locs hP hD hS => ?_)
              refine lv_aload_n hx hb dX0_becomeLike_182 rfl (lv_at hl 0 rfl) ?_
              refine x_get (C := RX0) (T := TX0) (N := 16) hx hb hts in_wsX00 hown hK hP 12 rfl rfl 10 (by decide) q51 (v := .ref (a2 10)) rfl dX0_becomeLike_183 ?_
              refine lv_iload_n hx hb dX0_becomeLike_186 rfl (lv_at hl 2 rfl) ?_
              refine lv_aload_n hx hb dX0_becomeLike_187 rfl (lv_at hl 1 rfl) ?_
              refine x_get (C := RX0) (T := TX0) (N := 16) hx hb hts in_wsX00 hown hK hP 0 rfl rfl 10 (by decide) q51 (v := .ref (a 10)) rfl dX0_becomeLike_188 ?_
              refine lv_iload_n hx hb dX0_becomeLike_191 rfl (lv_at hl 2 rfl) ?_
              refine x_zld hx hb hK hP 11 1 rfl rfl j (rfl) (by omega) (by decide) (v := σ 10 j) rfl dX0_becomeLike_192 ?_
              refine x_zst (ws2 := (mC cI cZ h a σ) ++ (mC cI cZ h2 a2 (su (su (su (su (su (su ρ2 5 j (σ 5 j)) 6 j (σ 6 j)) 7 j (σ 7 j)) 8 j (σ 8 j)) 9 j (σ 9 j)) 10 j (σ 10 j)))) hx hb hK hP hD hS 23 1 rfl rfl j (rfl) (by omega) (by decide) (hB.2.2.2.2.2.2 j (by omega)) rfl dX0_becomeLike_193 (fun H locs hP hD hS => ?_)
              refine lv_iinc (v := (nI (j + 1))) (lv' := [(2, .int (nI (j + 1))), (0, .ref h2), (1, .ref h)]) hx hb dX0_becomeLike_194 hl (k := 2) rfl (nI_add j 1) (by decide) rfl (fun ls hl => ?_)
              refine lv_goto (tgt := 116) hx hb dX0_becomeLike_197 (by decide) ?_
              have e9 : su (su (su (su (su (su ρ2 5 j (σ 5 j)) 6 j (σ 6 j)) 7 j (σ 7 j)) 8 j (σ 8 j)) 9 j (σ 9 j)) 10 j (σ 10 j) = cpB (j + 1) σ (cpA 10 σ (cp5 σ τ)) := by rw [eρ2]; exact cpB_1 j σ _
              rw [e9] at hP hD
              exact ih_116 (j + 1) (by omega) (by omega) _ _ _ hP hD hS (lv_sub hl [1, 2, 0] rfl)
        exact L116 (16 + 1) 0 (by omega) (by omega) _ _ _ hP hD hS (lv_sub hl [1, 2, 0] rfl)
      · have hc_45 : i < 10 := Nat.not_le.mp (fun z => c_45 ((nI_leI (a := 10) (b := i) (by omega) (by omega)).mpr z))
        refine lv_aload_n hx hb dX0_becomeLike_48 rfl (lv_at hl 0 rfl) ?_
        refine x_get (C := RX0) (T := TX0) (N := 16) hx hb hts in_wsX00 hown hK hP 12 rfl rfl 0 (by decide) q34 (v := .ref (a2 0)) rfl dX0_becomeLike_49 ?_
        refine lv_iload_n hx hb dX0_becomeLike_52 rfl (lv_at hl 2 rfl) ?_
        refine lv_aload_n hx hb dX0_becomeLike_53 rfl (lv_at hl 1 rfl) ?_
        refine x_get (C := RX0) (T := TX0) (N := 16) hx hb hts in_wsX00 hown hK hP 0 rfl rfl 0 (by decide) q34 (v := .ref (a 0)) rfl dX0_becomeLike_54 ?_
        refine lv_iload_n hx hb dX0_becomeLike_57 rfl (lv_at hl 2 rfl) ?_
        refine x_ild hx hb hK hP 1 0 rfl rfl i (rfl) (by omega) (by decide) (v := σ 0 i) rfl dX0_becomeLike_58 ?_
        refine x_ist (ws2 := (mC cI cZ h a σ) ++ (mC cI cZ h2 a2 (su ρ 0 i (σ 0 i)))) hx hb hK hP hD hS 13 0 rfl rfl i (rfl) (by omega) (by decide) rfl dX0_becomeLike_59 (fun H locs hP hD hS => ?_)
        refine lv_aload_n hx hb dX0_becomeLike_60 rfl (lv_at hl 0 rfl) ?_
        refine x_get (C := RX0) (T := TX0) (N := 16) hx hb hts in_wsX00 hown hK hP 12 rfl rfl 1 (by decide) q35 (v := .ref (a2 1)) rfl dX0_becomeLike_61 ?_
        refine lv_iload_n hx hb dX0_becomeLike_64 rfl (lv_at hl 2 rfl) ?_
        refine lv_aload_n hx hb dX0_becomeLike_65 rfl (lv_at hl 1 rfl) ?_
        refine x_get (C := RX0) (T := TX0) (N := 16) hx hb hts in_wsX00 hown hK hP 0 rfl rfl 1 (by decide) q35 (v := .ref (a 1)) rfl dX0_becomeLike_66 ?_
        refine lv_iload_n hx hb dX0_becomeLike_69 rfl (lv_at hl 2 rfl) ?_
        refine x_ild hx hb hK hP 2 0 rfl rfl i (rfl) (by omega) (by decide) (v := σ 1 i) rfl dX0_becomeLike_70 ?_
        refine x_ist (ws2 := (mC cI cZ h a σ) ++ (mC cI cZ h2 a2 (su (su ρ 0 i (σ 0 i)) 1 i (σ 1 i)))) hx hb hK hP hD hS 14 0 rfl rfl i (rfl) (by omega) (by decide) rfl dX0_becomeLike_71 (fun H locs hP hD hS => ?_)
        refine lv_aload_n hx hb dX0_becomeLike_72 rfl (lv_at hl 0 rfl) ?_
        refine x_get (C := RX0) (T := TX0) (N := 16) hx hb hts in_wsX00 hown hK hP 12 rfl rfl 2 (by decide) q36 (v := .ref (a2 2)) rfl dX0_becomeLike_73 ?_
        refine lv_iload_n hx hb dX0_becomeLike_76 rfl (lv_at hl 2 rfl) ?_
        refine lv_aload_n hx hb dX0_becomeLike_77 rfl (lv_at hl 1 rfl) ?_
        refine x_get (C := RX0) (T := TX0) (N := 16) hx hb hts in_wsX00 hown hK hP 0 rfl rfl 2 (by decide) q36 (v := .ref (a 2)) rfl dX0_becomeLike_78 ?_
        refine lv_iload_n hx hb dX0_becomeLike_81 rfl (lv_at hl 2 rfl) ?_
        refine x_ild hx hb hK hP 3 0 rfl rfl i (rfl) (by omega) (by decide) (v := σ 2 i) rfl dX0_becomeLike_82 ?_
        refine x_ist (ws2 := (mC cI cZ h a σ) ++ (mC cI cZ h2 a2 (su (su (su ρ 0 i (σ 0 i)) 1 i (σ 1 i)) 2 i (σ 2 i)))) hx hb hK hP hD hS 15 0 rfl rfl i (rfl) (by omega) (by decide) rfl dX0_becomeLike_83 (fun H locs hP hD hS => ?_)
        refine lv_aload_n hx hb dX0_becomeLike_84 rfl (lv_at hl 0 rfl) ?_
        refine x_get (C := RX0) (T := TX0) (N := 16) hx hb hts in_wsX00 hown hK hP 12 rfl rfl 3 (by decide) q38 (v := .ref (a2 3)) rfl dX0_becomeLike_85 ?_
        refine lv_iload_n hx hb dX0_becomeLike_88 rfl (lv_at hl 2 rfl) ?_
        refine lv_aload_n hx hb dX0_becomeLike_89 rfl (lv_at hl 1 rfl) ?_
        refine x_get (C := RX0) (T := TX0) (N := 16) hx hb hts in_wsX00 hown hK hP 0 rfl rfl 3 (by decide) q38 (v := .ref (a 3)) rfl dX0_becomeLike_90 ?_
        refine lv_iload_n hx hb dX0_becomeLike_93 rfl (lv_at hl 2 rfl) ?_
        refine x_ild hx hb hK hP 4 0 rfl rfl i (rfl) (by omega) (by decide) (v := σ 3 i) rfl dX0_becomeLike_94 ?_
        refine x_ist (ws2 := (mC cI cZ h a σ) ++ (mC cI cZ h2 a2 (su (su (su (su ρ 0 i (σ 0 i)) 1 i (σ 1 i)) 2 i (σ 2 i)) 3 i (σ 3 i)))) hx hb hK hP hD hS 16 0 rfl rfl i (rfl) (by omega) (by decide) rfl dX0_becomeLike_95 (fun H locs hP hD hS => ?_)
        refine lv_aload_n hx hb dX0_becomeLike_96 rfl (lv_at hl 0 rfl) ?_
        refine x_get (C := RX0) (T := TX0) (N := 16) hx hb hts in_wsX00 hown hK hP 12 rfl rfl 4 (by decide) q40 (v := .ref (a2 4)) rfl dX0_becomeLike_97 ?_
        refine lv_iload_n hx hb dX0_becomeLike_100 rfl (lv_at hl 2 rfl) ?_
        refine lv_aload_n hx hb dX0_becomeLike_101 rfl (lv_at hl 1 rfl) ?_
        refine x_get (C := RX0) (T := TX0) (N := 16) hx hb hts in_wsX00 hown hK hP 0 rfl rfl 4 (by decide) q40 (v := .ref (a 4)) rfl dX0_becomeLike_102 ?_
        refine lv_iload_n hx hb dX0_becomeLike_105 rfl (lv_at hl 2 rfl) ?_
        refine x_zld hx hb hK hP 5 1 rfl rfl i (rfl) (by omega) (by decide) (v := σ 4 i) rfl dX0_becomeLike_106 ?_
        refine x_zst (ws2 := (mC cI cZ h a σ) ++ (mC cI cZ h2 a2 (su (su (su (su (su ρ 0 i (σ 0 i)) 1 i (σ 1 i)) 2 i (σ 2 i)) 3 i (σ 3 i)) 4 i (σ 4 i)))) hx hb hK hP hD hS 17 1 rfl rfl i (rfl) (by omega) (by decide) (hB.2.2.2.2.1 i (by omega)) rfl dX0_becomeLike_107 (fun H locs hP hD hS => ?_)
        refine lv_iinc (v := (nI (i + 1))) (lv' := [(2, .int (nI (i + 1))), (0, .ref h2), (1, .ref h)]) hx hb dX0_becomeLike_108 hl (k := 2) rfl (nI_add i 1) (by decide) rfl (fun ls hl => ?_)
        refine lv_goto (tgt := 42) hx hb dX0_becomeLike_111 (by decide) ?_
        have e9 : su (su (su (su (su ρ 0 i (σ 0 i)) 1 i (σ 1 i)) 2 i (σ 2 i)) 3 i (σ 3 i)) 4 i (σ 4 i) = cpA (i + 1) σ (cp5 σ τ) := by rw [eρ]; exact cpA_1 i σ _
        rw [e9] at hP hD
        exact ih_42 (i + 1) (by omega) (by omega) _ _ _ hP hD hS (lv_sub hl [1, 2, 0] rfl)
  exact L42 (10 + 1) 0 (by omega) (by omega) _ _ _ hP hD hS (lv_sub hl [1, 2, 0] rfl)
