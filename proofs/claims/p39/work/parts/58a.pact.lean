-- PURE: what a number chooses, and what is done with it
def bel (x : Int32) (n : Nat) : Nat := x.toBitVec.toNat % 2 ^ 31 % n
theorem bel_lt {x : Int32} {n : Nat} (h : 0 < n) : bel x n < n := Nat.mod_lt _ h
theorem and_31 (x : Int32) : x &&& 2147483647 = nI (x.toBitVec.toNat % 2 ^ 31) := by
  apply Int32.toBitVec_inj.1
  apply BitVec.eq_of_toNat_eq
  show (x.toBitVec &&& (2147483647 : Int32).toBitVec).toNat = _
  rw [BitVec.toNat_and, show (2147483647 : Int32).toBitVec.toNat = 2 ^ 31 - 1 from rfl, Nat.and_two_pow_sub_one_eq_mod]
  unfold nI
  simp
  omega
theorem bel_is {x : Int32} {n : Nat} (h0 : 0 < n) (hn : n < 2 ^ 31) : (x &&& 2147483647) - (x &&& 2147483647) / nI n * nI n = nI (bel x n) := by
  rw [and_31, pk_rem (Nat.mod_lt _ (by decide)) h0 hn]
  rfl
theorem nI_nz {n : Nat} (h0 : 0 < n) (hn : n < 2 ^ 31) : ¬ nI n = 0 := fun z => by
  have := (nI_eq (a := n) (b := 0) hn (by omega)).mp z
  omega
theorem pF_11 {n r : Nat} (x y : Int32) (σ : Sg) (hr : ¬ r = 0) : σ 11 r = putF n x y σ 11 r := by
  unfold putF
  split
  · rfl
  · show _ = up1 (σ 11) 0 (nI (n + 1)) r
    unfold up1
    rw [show Nat.beq r 0 = false from by
      cases h : Nat.beq r 0
      · rfl
      · exact absurd (Nat.eq_of_beq_eq_true h) hr]
    rfl
theorem pF_f {n j : Nat} (x y : Int32) (σ : Sg) (hj : j < n) : fX σ j = fX (putF n x y σ) j := by
  unfold putF
  split
  · rfl
  · rw [← fX_sc, ← fX_ne _ _ _ _ (show ¬ j = n by omega), ← fX_ne _ _ _ _ (show ¬ j = n by omega)]
theorem pF_d {n j : Nat} (x y : Int32) (σ : Sg) : dX σ j = dX (putF n x y σ) j := by
  unfold putF
  split
  · rfl
  · rw [← dX_sc, ← dX_row _ (by decide), ← dX_row _ (by decide)]
theorem pF_row {n k B : Nat} {σ : Sg} (hI : Iv n k B σ) (hn : n < 10) (x y : Int32) : upd (upd (upd (upd (upd (fun _ => 0) 0 x) 1 y) 2 0) 3 0) 4 0 = fX (putF n x y σ) n := by
  obtain ⟨b1, b2, b3⟩ := hI.2.2.2.2.1 n (Nat.le_refl _) hn
  unfold putF
  rw [if_neg (by omega)]
  refine fX_new _ n ?_ ?_ ?_ ?_ ?_
  · exact (pk_us (f := σ 0)).symm
  · exact (pk_us (f := σ 1)).symm
  · exact b1.symm
  · exact b2.symm
  · exact b3.symm
theorem pD_11 {k r : Nat} (x y z b : Int32) (σ : Sg) (hr : ¬ r = 1) : σ 11 r = putD k x y z b σ 11 r := by
  unfold putD
  split
  · rfl
  · show _ = up1 (σ 11) 1 (nI (k + 1)) r
    unfold up1
    rw [show Nat.beq r 1 = false from by
      cases h : Nat.beq r 1
      · rfl
      · exact absurd (Nat.eq_of_beq_eq_true h) hr]
    rfl
theorem pD_d {k j : Nat} (x y z b : Int32) (σ : Sg) (hj : j < k) : dX σ j = dX (putD k x y z b σ) j := by
  unfold putD
  split
  · rfl
  · rw [← dX_sc, ← dX_ne _ _ _ _ (show ¬ j = k by omega), ← dX_ne _ _ _ _ (show ¬ j = k by omega), ← dX_ne _ _ _ _ (show ¬ j = k by omega), ← dX_ne _ _ _ _ (show ¬ j = k by omega), ← dX_ne _ _ _ _ (show ¬ j = k by omega)]
theorem pD_f {k j : Nat} (x y z b : Int32) (σ : Sg) : fX σ j = fX (putD k x y z b σ) j := by
  unfold putD
  split
  · rfl
  · rw [← fX_sc, ← fX_row _ (by decide), ← fX_row _ (by decide), ← fX_row _ (by decide), ← fX_row _ (by decide), ← fX_row _ (by decide)]
theorem pD_row {n k B : Nat} {σ : Sg} (hI : Iv n k B σ) (hk : k < 16) (x y z b : Int32) : upd (upd (upd (upd (upd (upd (fun _ => 0) 0 x) 1 y) 2 z) 3 b) 4 1) 5 0 = dX (putD k x y z b σ) k := by
  have b1 := hI.2.2.2.2.2.1 k (Nat.le_refl _) hk
  unfold putD
  rw [if_neg (by omega)]
  refine dX_new _ k ?_ ?_ ?_ ?_ ?_ ?_
  · exact (pk_us (f := σ 5)).symm
  · exact (pk_us (f := σ 6)).symm
  · exact (pk_us (f := σ 7)).symm
  · exact (pk_us (f := σ 9)).symm
  · exact (pk_us (f := σ 10)).symm
  · exact b1.symm
theorem tu_is {B k d : Nat} {σ : Sg} (hB : Bnd B σ) (hd : d < 16) : su σ 10 d (1 - σ 10 d) = turnS σ d := by
  unfold turnS
  rcases hB.2.2.2.2.2.2 d hd with z | z <;> rw [z] <;> rfl
section SX
variable {p : Program} {l : Launch} {e : Env} {R : Room} {s : State} {m : MethodId} {args : Array Value} {below : List Frame} {meth : Method} {c : Code} {H H0 : Heap} {locs : List Loc} {cells slots : Nat} {Q : State → Prop}
variable {D : va_G} {cl : List vw_C} {A : Nat → Prop} {pc : Nat} {ls : Array Slot} {rest : List Value} {cc : ByteArray} {ws w0 w2 : va_W} {a : Nat} {cI cZ cN : ClassId} {sm : Nat} {q : SA} {σ τ : Sg} {n k : Nat} {i x v : Int32}
theorem s_ldFx (hx : p.tables.exec = Jvm.exec) (hb : c.code = cc) (hK : va_K D cl (tZ cI cZ cN) s) (hP : va_P D cl ws H) (hsp : ws = w0 ++ (sC cI cN sm q σ n k ++ w2)) (f : Nat) (hf : f < n) (ea : q.2.1 f = a) (j : Nat) (hi : i = nI j) (hj : j < 5) (hv : fX σ f j = v) (hdg : decode cc pc = .ok (.iaload, 1))
    (kk : W p l e R s m args below meth c H locs cells slots Q (F0 m (pc + 1) ls (.int v :: rest))) : W p l e R s m args below meth c H locs cells slots Q (F0 m pc ls (.int i :: .ref a :: rest)) := by
  subst ea
  exact s_ldF hx hb hK hP hsp f hf j hi hj hv hdg kk
end SX
