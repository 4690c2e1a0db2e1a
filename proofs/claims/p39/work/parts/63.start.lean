-- the start: what the tables and the premises give
theorem EXW_tbl : ∀ w ∈ EXW, w ∈ lw_tbl := by decide +kernel
theorem AM_tbl : Cond.arrayOver (.array .int) ∈ lw_tbl := by decide +kernel
theorem ex_start {s : State} {b : Nat} {A : Nat → Prop} (hts0 : ∀ w ∈ lw_tbl, w.before #[Value.ref b] s = true) : EX A s s.heap :=
  ⟨fun w hw => va_Nw.of (List.all_eq_true.mp EXW_ok w hw) (hts0 w (EXW_tbl w hw)), va_AM.of (hts0 _ AM_tbl)⟩
theorem k_start {s : State} {args : Array Value} (hts : ∀ w ∈ LW, w.before args s = true) (hA : va_AM s) : ∃ (D : va_G) (cI cZ cL : ClassId), va_K D vwCl (tZ cI cZ cL) s := by
  obtain ⟨c0, i0, h0⟩ := u_known (C := RX0) (T := TX0) (N := 16) hts in_wsX00 (hts _ q29)
  obtain ⟨c1, i1, h1⟩ := u_known (C := RX1) (T := TX1) (N := 2) hts in_wsX10 (hts _ q21)
  obtain ⟨c2, i2, h2⟩ := u_known (C := RX2) (T := TX2) (N := 5) hts in_wsX20 (hts _ q426)
  obtain ⟨cI, aI, rI⟩ := ar_of (hts _ q96) (fun c h => h)
  obtain ⟨cZ, aZ, rZ⟩ := ar_of (hts _ q97) (fun c h => h)
  obtain ⟨comp, cL, kA, -, -, hk, hkind, hnm⟩ := arrayOverA_spec hA
  refine ⟨(fun c => match c with | 0 => c0 | 1 => c1 | _ => c2, fun c => match c with | 0 => i0 | 1 => i1 | _ => i2), cI, cZ, cL, fun c q hq => ?_, fun k q hq => ?_⟩
  · match c, hq with
    | 0, hq => cases hq; exact h0
    | 1, hq => cases hq; exact h1
    | 2, hq => cases hq; exact h2
  · match k, hq with
    | 0, hq => cases hq; exact ⟨aI, rI⟩
    | 1, hq => cases hq; exact ⟨aZ, rZ⟩
    | 2, hq => cases hq; exact ⟨fun n z => ⟨fun k h => (by cases h), kA, hk, comp, hkind⟩, hnm⟩
