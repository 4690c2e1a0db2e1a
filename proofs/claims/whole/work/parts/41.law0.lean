theorem spH (a b c d r : va_W) : a ++ (b ++ (c ++ (d ++ r))) = [] ++ ((a ++ (b ++ (c ++ d))) ++ r) := by simp
theorem spO (a b c d r : va_W) : a ++ (b ++ (c ++ (d ++ r))) = [] ++ ((a ++ (b ++ c)) ++ (d ++ r)) := by simp
theorem spR (a b c d r : va_W) : a ++ (b ++ (c ++ (d ++ r))) = (a ++ (b ++ (c ++ d))) ++ (r ++ []) := by simp
theorem lcmp_eq {x y : Int64} (h : x = y) : lg_cmp x y = 0 := by
  subst h
  simp [lg_cmp]
def lawN (p : Program) (l : Launch) (e : Env) (s : State) (m : MethodId) (args : Array Value) (below : List Frame) (meth : Method) (c : Code) (Q : State → Prop) (D : va_G) (cI cZ cL : ClassId) (A : Nat → Prop) (b ob h : Nat) (a : Nat → Nat) (h2 : Nat) (a2 : Nat → Nat) (qo om : Nat) (bb : Nat → Nat) (t : Nat) : Prop :=
  ∀ (n k : Nat) (σ τ : Sg) (κ ζ : Nat → Int32) (th : Int32) (wo : Nat → Int64), Shp n k σ → Bnd (12000 * (t + 1)) σ → ∀ (H : Heap) (locs : List Loc) (ls : Array Slot), va_P D vwCl ((oC ob h h2) ++ ((mC cI cZ h a σ) ++ ((mC cI cZ h2 a2 τ) ++ ((lC cL qo wo) ++ (rC cI cZ om bb σ κ ζ th))))) H → va_D A ((oC ob h h2) ++ ((mC cI cZ h a σ) ++ ((mC cI cZ h2 a2 τ) ++ ((lC cL qo wo) ++ (rC cI cZ om bb σ κ ζ th))))) → va_S A s.heap H locs → lv_has ls 9 [(4, .int (nI (4 * t))), (0, .ref b), (1, .ref ob), (2, .ref om), (3, .ref qo)] → W p l e room_1 s m args below meth c H locs (40 + 11 * (t + 1)) (600 + 74 * (t + 1)) Q (F0 m 1708 ls [])
