section
-- ===== PART A: goes FIRST, ahead of the names: the tables' words, and 'selects' of the private methods out of them =====
/-- a private method of a class that the tables say can be made, by its rows of tables_1 -/
def lw_okq (q : MethodName × Nat) : Prop := (q.1.cls ≠ "java/lang/invoke/MethodHandle" ∧ q.1.cls ≠ "java/lang/invoke/VarHandle") ∧ Cond.instantiable q.1.cls q.2 ∈ tables_1 ∧ Cond.privateMethod q.1 ∈ tables_1 ∧ Cond.instanceMethod q.1 ∈ tables_1
theorem lw_p0 : lw_okq (⟨"MarshDrains$Marsh", "letFlow", "(II)V"⟩, 16) := ⟨⟨by decide +kernel, by decide +kernel⟩, List.mem_of_getElem? (i := 22) (by decide +kernel), List.mem_of_getElem? (i := 190) (by decide +kernel), List.mem_of_getElem? (i := 191) (by decide +kernel)⟩
theorem lw_p1 : lw_okq (⟨"MarshDrains$Marsh", "countWetHours", "()V"⟩, 16) := ⟨⟨by decide +kernel, by decide +kernel⟩, List.mem_of_getElem? (i := 22) (by decide +kernel), List.mem_of_getElem? (i := 201) (by decide +kernel), List.mem_of_getElem? (i := 202) (by decide +kernel)⟩
theorem lw_p2 : lw_okq (⟨"java/lang/Throwable", "fillInStackTrace", "(I)Ljava/lang/Throwable;"⟩, 6) := ⟨⟨by decide +kernel, by decide +kernel⟩, List.mem_of_getElem? (i := 282) (by decide +kernel), List.mem_of_getElem? (i := 280) (by decide +kernel), List.mem_of_getElem? (i := 281) (by decide +kernel)⟩
theorem lw_p3 : lw_okq (⟨"MarshDrains", "mixFields", "(J)J"⟩, 2) := ⟨⟨by decide +kernel, by decide +kernel⟩, List.mem_of_getElem? (i := 14) (by decide +kernel), List.mem_of_getElem? (i := 319) (by decide +kernel), List.mem_of_getElem? (i := 320) (by decide +kernel)⟩
theorem lw_p4 : lw_okq (⟨"MarshDrains", "requireField", "(I)V"⟩, 2) := ⟨⟨by decide +kernel, by decide +kernel⟩, List.mem_of_getElem? (i := 14) (by decide +kernel), List.mem_of_getElem? (i := 327) (by decide +kernel), List.mem_of_getElem? (i := 328) (by decide +kernel)⟩
theorem lw_p5 : lw_okq (⟨"MarshDrains", "mixDrains", "(J)J"⟩, 2) := ⟨⟨by decide +kernel, by decide +kernel⟩, List.mem_of_getElem? (i := 14) (by decide +kernel), List.mem_of_getElem? (i := 379) (by decide +kernel), List.mem_of_getElem? (i := 380) (by decide +kernel)⟩
theorem lw_p6 : lw_okq (⟨"MarshDrains", "requireDrain", "(I)V"⟩, 2) := ⟨⟨by decide +kernel, by decide +kernel⟩, List.mem_of_getElem? (i := 14) (by decide +kernel), List.mem_of_getElem? (i := 387) (by decide +kernel), List.mem_of_getElem? (i := 388) (by decide +kernel)⟩
theorem lw_p7 : lw_okq (⟨"MarshDrains", "addDrain", "(IIIZ)I"⟩, 2) := ⟨⟨by decide +kernel, by decide +kernel⟩, List.mem_of_getElem? (i := 14) (by decide +kernel), List.mem_of_getElem? (i := 440) (by decide +kernel), List.mem_of_getElem? (i := 441) (by decide +kernel)⟩
theorem lw_p8 : lw_okq (⟨"MarshDrainsModel", "no", "(I)I"⟩, 14) := ⟨⟨by decide +kernel, by decide +kernel⟩, List.mem_of_getElem? (i := 550) (by decide +kernel), List.mem_of_getElem? (i := 610) (by decide +kernel), List.mem_of_getElem? (i := 611) (by decide +kernel)⟩
theorem lw_p9 : lw_okq (⟨"MarshDrainsModel", "isField", "(I)Z"⟩, 14) := ⟨⟨by decide +kernel, by decide +kernel⟩, List.mem_of_getElem? (i := 550) (by decide +kernel), List.mem_of_getElem? (i := 618) (by decide +kernel), List.mem_of_getElem? (i := 619) (by decide +kernel)⟩
theorem lw_p10 : lw_okq (⟨"MarshDrainsModel", "add", "(IIIZ)I"⟩, 14) := ⟨⟨by decide +kernel, by decide +kernel⟩, List.mem_of_getElem? (i := 550) (by decide +kernel), List.mem_of_getElem? (i := 622) (by decide +kernel), List.mem_of_getElem? (i := 623) (by decide +kernel)⟩
theorem lw_p11 : lw_okq (⟨"MarshDrainsModel", "isDrain", "(I)Z"⟩, 14) := ⟨⟨by decide +kernel, by decide +kernel⟩, List.mem_of_getElem? (i := 550) (by decide +kernel), List.mem_of_getElem? (i := 634) (by decide +kernel), List.mem_of_getElem? (i := 635) (by decide +kernel)⟩
theorem lw_p12 : lw_okq (⟨"MarshDrainsModel", "isNot", "(I)Z"⟩, 14) := ⟨⟨by decide +kernel, by decide +kernel⟩, List.mem_of_getElem? (i := 550) (by decide +kernel), List.mem_of_getElem? (i := 638) (by decide +kernel), List.mem_of_getElem? (i := 639) (by decide +kernel)⟩
theorem lw_p13 : lw_okq (⟨"MarshDrainsModel", "water", "(I)I"⟩, 14) := ⟨⟨by decide +kernel, by decide +kernel⟩, List.mem_of_getElem? (i := 550) (by decide +kernel), List.mem_of_getElem? (i := 650) (by decide +kernel), List.mem_of_getElem? (i := 651) (by decide +kernel)⟩
theorem lw_p14 : lw_okq (⟨"MarshDrainsModel", "ruined", "()I"⟩, 14) := ⟨⟨by decide +kernel, by decide +kernel⟩, List.mem_of_getElem? (i := 550) (by decide +kernel), List.mem_of_getElem? (i := 658) (by decide +kernel), List.mem_of_getElem? (i := 659) (by decide +kernel)⟩
theorem lw_p15 : lw_okq (⟨"MarshDrainsModel", "hoursOn", "(I)V"⟩, 14) := ⟨⟨by decide +kernel, by decide +kernel⟩, List.mem_of_getElem? (i := 550) (by decide +kernel), List.mem_of_getElem? (i := 662) (by decide +kernel), List.mem_of_getElem? (i := 663) (by decide +kernel)⟩
def lw_privs_1 : List (MethodName × Nat) := [(⟨"MarshDrains$Marsh", "letFlow", "(II)V"⟩, 16), (⟨"MarshDrains$Marsh", "countWetHours", "()V"⟩, 16), (⟨"java/lang/Throwable", "fillInStackTrace", "(I)Ljava/lang/Throwable;"⟩, 6), (⟨"MarshDrains", "mixFields", "(J)J"⟩, 2), (⟨"MarshDrains", "requireField", "(I)V"⟩, 2), (⟨"MarshDrains", "mixDrains", "(J)J"⟩, 2), (⟨"MarshDrains", "requireDrain", "(I)V"⟩, 2), (⟨"MarshDrains", "addDrain", "(IIIZ)I"⟩, 2), (⟨"MarshDrainsModel", "no", "(I)I"⟩, 14), (⟨"MarshDrainsModel", "isField", "(I)Z"⟩, 14), (⟨"MarshDrainsModel", "add", "(IIIZ)I"⟩, 14), (⟨"MarshDrainsModel", "isDrain", "(I)Z"⟩, 14), (⟨"MarshDrainsModel", "isNot", "(I)Z"⟩, 14), (⟨"MarshDrainsModel", "water", "(I)I"⟩, 14), (⟨"MarshDrainsModel", "ruined", "()I"⟩, 14), (⟨"MarshDrainsModel", "hoursOn", "(I)V"⟩, 14)]
theorem lw_r1 : ∀ q ∈ lw_privs_1, lw_okq q := List.forall_mem_cons.mpr ⟨lw_p0, List.forall_mem_cons.mpr ⟨lw_p1, List.forall_mem_cons.mpr ⟨lw_p2, List.forall_mem_cons.mpr ⟨lw_p3, List.forall_mem_cons.mpr ⟨lw_p4, List.forall_mem_cons.mpr ⟨lw_p5, List.forall_mem_cons.mpr ⟨lw_p6, List.forall_mem_cons.mpr ⟨lw_p7, List.forall_mem_cons.mpr ⟨lw_p8, List.forall_mem_cons.mpr ⟨lw_p9, List.forall_mem_cons.mpr ⟨lw_p10, List.forall_mem_cons.mpr ⟨lw_p11, List.forall_mem_cons.mpr ⟨lw_p12, List.forall_mem_cons.mpr ⟨lw_p13, List.forall_mem_cons.mpr ⟨lw_p14, List.forall_mem_cons.mpr ⟨lw_p15, fun _ h => absurd h List.not_mem_nil⟩⟩⟩⟩⟩⟩⟩⟩⟩⟩⟩⟩⟩⟩⟩⟩
theorem lw_p16 : lw_okq (⟨"MarshDrainsModel", "hourOn", "()V"⟩, 14) := ⟨⟨by decide +kernel, by decide +kernel⟩, List.mem_of_getElem? (i := 550) (by decide +kernel), List.mem_of_getElem? (i := 666) (by decide +kernel), List.mem_of_getElem? (i := 667) (by decide +kernel)⟩
theorem lw_p17 : lw_okq (⟨"MarshDrainsModel", "carry", "(I)V"⟩, 14) := ⟨⟨by decide +kernel, by decide +kernel⟩, List.mem_of_getElem? (i := 550) (by decide +kernel), List.mem_of_getElem? (i := 670) (by decide +kernel), List.mem_of_getElem? (i := 671) (by decide +kernel)⟩
theorem lw_p18 : lw_okq (⟨"MarshDrainsModel", "flow", "(I)I"⟩, 14) := ⟨⟨by decide +kernel, by decide +kernel⟩, List.mem_of_getElem? (i := 550) (by decide +kernel), List.mem_of_getElem? (i := 674) (by decide +kernel), List.mem_of_getElem? (i := 675) (by decide +kernel)⟩
theorem lw_p19 : lw_okq (⟨"MarshDrainsModel", "level", "(I)I"⟩, 14) := ⟨⟨by decide +kernel, by decide +kernel⟩, List.mem_of_getElem? (i := 550) (by decide +kernel), List.mem_of_getElem? (i := 679) (by decide +kernel), List.mem_of_getElem? (i := 680) (by decide +kernel)⟩
theorem lw_p20 : lw_okq (⟨"MarshDrainsModel", "ok", "(I)I"⟩, 14) := ⟨⟨by decide +kernel, by decide +kernel⟩, List.mem_of_getElem? (i := 550) (by decide +kernel), List.mem_of_getElem? (i := 688) (by decide +kernel), List.mem_of_getElem? (i := 689) (by decide +kernel)⟩
theorem lw_p21 : lw_okq (⟨"MarshDrainsModel", "allWater", "()I"⟩, 14) := ⟨⟨by decide +kernel, by decide +kernel⟩, List.mem_of_getElem? (i := 550) (by decide +kernel), List.mem_of_getElem? (i := 708) (by decide +kernel), List.mem_of_getElem? (i := 709) (by decide +kernel)⟩
theorem lw_p22 : lw_okq (⟨"MarshDrainsModel", "wet", "()I"⟩, 14) := ⟨⟨by decide +kernel, by decide +kernel⟩, List.mem_of_getElem? (i := 550) (by decide +kernel), List.mem_of_getElem? (i := 720) (by decide +kernel), List.mem_of_getElem? (i := 721) (by decide +kernel)⟩
theorem lw_p23 : lw_okq (⟨"MarshDrainsModel", "lost", "()I"⟩, 14) := ⟨⟨by decide +kernel, by decide +kernel⟩, List.mem_of_getElem? (i := 550) (by decide +kernel), List.mem_of_getElem? (i := 732) (by decide +kernel), List.mem_of_getElem? (i := 733) (by decide +kernel)⟩
theorem lw_p24 : lw_okq (⟨"MarshDrainsModel", "of", "(II)I"⟩, 14) := ⟨⟨by decide +kernel, by decide +kernel⟩, List.mem_of_getElem? (i := 550) (by decide +kernel), List.mem_of_getElem? (i := 740) (by decide +kernel), List.mem_of_getElem? (i := 741) (by decide +kernel)⟩
theorem lw_p25 : lw_okq (⟨"MarshDrainsModel", "openAt", "(I)I"⟩, 14) := ⟨⟨by decide +kernel, by decide +kernel⟩, List.mem_of_getElem? (i := 550) (by decide +kernel), List.mem_of_getElem? (i := 760) (by decide +kernel), List.mem_of_getElem? (i := 761) (by decide +kernel)⟩
theorem lw_p26 : lw_okq (⟨"MarshDrainsModel", "spread", "(I)I"⟩, 14) := ⟨⟨by decide +kernel, by decide +kernel⟩, List.mem_of_getElem? (i := 550) (by decide +kernel), List.mem_of_getElem? (i := 768) (by decide +kernel), List.mem_of_getElem? (i := 769) (by decide +kernel)⟩
theorem lw_p27 : lw_okq (⟨"MarshDrainsModel", "spreads", "(II)Z"⟩, 14) := ⟨⟨by decide +kernel, by decide +kernel⟩, List.mem_of_getElem? (i := 550) (by decide +kernel), List.mem_of_getElem? (i := 772) (by decide +kernel), List.mem_of_getElem? (i := 773) (by decide +kernel)⟩
theorem lw_p28 : lw_okq (⟨"MarshDrainsModel", "high", "()I"⟩, 14) := ⟨⟨by decide +kernel, by decide +kernel⟩, List.mem_of_getElem? (i := 550) (by decide +kernel), List.mem_of_getElem? (i := 780) (by decide +kernel), List.mem_of_getElem? (i := 781) (by decide +kernel)⟩
theorem lw_p29 : lw_okq (⟨"MarshDrainsModel", "busy", "()I"⟩, 14) := ⟨⟨by decide +kernel, by decide +kernel⟩, List.mem_of_getElem? (i := 550) (by decide +kernel), List.mem_of_getElem? (i := 804) (by decide +kernel), List.mem_of_getElem? (i := 805) (by decide +kernel)⟩
theorem lw_p30 : lw_okq (⟨"MarshDrainsModel", "until", "(I)I"⟩, 14) := ⟨⟨by decide +kernel, by decide +kernel⟩, List.mem_of_getElem? (i := 550) (by decide +kernel), List.mem_of_getElem? (i := 812) (by decide +kernel), List.mem_of_getElem? (i := 813) (by decide +kernel)⟩
theorem lw_p31 : lw_okq (⟨"MarshDrainsModel", "keep", "()V"⟩, 14) := ⟨⟨by decide +kernel, by decide +kernel⟩, List.mem_of_getElem? (i := 550) (by decide +kernel), List.mem_of_getElem? (i := 816) (by decide +kernel), List.mem_of_getElem? (i := 817) (by decide +kernel)⟩
def lw_privs_2 : List (MethodName × Nat) := [(⟨"MarshDrainsModel", "hourOn", "()V"⟩, 14), (⟨"MarshDrainsModel", "carry", "(I)V"⟩, 14), (⟨"MarshDrainsModel", "flow", "(I)I"⟩, 14), (⟨"MarshDrainsModel", "level", "(I)I"⟩, 14), (⟨"MarshDrainsModel", "ok", "(I)I"⟩, 14), (⟨"MarshDrainsModel", "allWater", "()I"⟩, 14), (⟨"MarshDrainsModel", "wet", "()I"⟩, 14), (⟨"MarshDrainsModel", "lost", "()I"⟩, 14), (⟨"MarshDrainsModel", "of", "(II)I"⟩, 14), (⟨"MarshDrainsModel", "openAt", "(I)I"⟩, 14), (⟨"MarshDrainsModel", "spread", "(I)I"⟩, 14), (⟨"MarshDrainsModel", "spreads", "(II)Z"⟩, 14), (⟨"MarshDrainsModel", "high", "()I"⟩, 14), (⟨"MarshDrainsModel", "busy", "()I"⟩, 14), (⟨"MarshDrainsModel", "until", "(I)I"⟩, 14), (⟨"MarshDrainsModel", "keep", "()V"⟩, 14)]
theorem lw_r2 : ∀ q ∈ lw_privs_2, lw_okq q := List.forall_mem_cons.mpr ⟨lw_p16, List.forall_mem_cons.mpr ⟨lw_p17, List.forall_mem_cons.mpr ⟨lw_p18, List.forall_mem_cons.mpr ⟨lw_p19, List.forall_mem_cons.mpr ⟨lw_p20, List.forall_mem_cons.mpr ⟨lw_p21, List.forall_mem_cons.mpr ⟨lw_p22, List.forall_mem_cons.mpr ⟨lw_p23, List.forall_mem_cons.mpr ⟨lw_p24, List.forall_mem_cons.mpr ⟨lw_p25, List.forall_mem_cons.mpr ⟨lw_p26, List.forall_mem_cons.mpr ⟨lw_p27, List.forall_mem_cons.mpr ⟨lw_p28, List.forall_mem_cons.mpr ⟨lw_p29, List.forall_mem_cons.mpr ⟨lw_p30, List.forall_mem_cons.mpr ⟨lw_p31, fun _ h => absurd h List.not_mem_nil⟩⟩⟩⟩⟩⟩⟩⟩⟩⟩⟩⟩⟩⟩⟩⟩
theorem lw_p32 : lw_okq (⟨"MarshDrainsModel", "bringBack", "()V"⟩, 14) := ⟨⟨by decide +kernel, by decide +kernel⟩, List.mem_of_getElem? (i := 550) (by decide +kernel), List.mem_of_getElem? (i := 823) (by decide +kernel), List.mem_of_getElem? (i := 824) (by decide +kernel)⟩
theorem lw_p33 : lw_okq (⟨"MarshDrainsModel", "lostBehind", "(III)I"⟩, 14) := ⟨⟨by decide +kernel, by decide +kernel⟩, List.mem_of_getElem? (i := 550) (by decide +kernel), List.mem_of_getElem? (i := 831) (by decide +kernel), List.mem_of_getElem? (i := 832) (by decide +kernel)⟩
theorem lw_p34 : lw_okq (⟨"MarshDrainsModel", "turned", "()I"⟩, 14) := ⟨⟨by decide +kernel, by decide +kernel⟩, List.mem_of_getElem? (i := 550) (by decide +kernel), List.mem_of_getElem? (i := 843) (by decide +kernel), List.mem_of_getElem? (i := 844) (by decide +kernel)⟩
theorem lw_p35 : lw_okq (⟨"MarshDrainsModel", "flooded", "(I)I"⟩, 14) := ⟨⟨by decide +kernel, by decide +kernel⟩, List.mem_of_getElem? (i := 550) (by decide +kernel), List.mem_of_getElem? (i := 851) (by decide +kernel), List.mem_of_getElem? (i := 852) (by decide +kernel)⟩
theorem lw_p36 : lw_okq (⟨"MarshDrainsModel", "borne", "()I"⟩, 14) := ⟨⟨by decide +kernel, by decide +kernel⟩, List.mem_of_getElem? (i := 550) (by decide +kernel), List.mem_of_getElem? (i := 859) (by decide +kernel), List.mem_of_getElem? (i := 860) (by decide +kernel)⟩
def lw_privs_3 : List (MethodName × Nat) := [(⟨"MarshDrainsModel", "bringBack", "()V"⟩, 14), (⟨"MarshDrainsModel", "lostBehind", "(III)I"⟩, 14), (⟨"MarshDrainsModel", "turned", "()I"⟩, 14), (⟨"MarshDrainsModel", "flooded", "(I)I"⟩, 14), (⟨"MarshDrainsModel", "borne", "()I"⟩, 14)]
theorem lw_r3 : ∀ q ∈ lw_privs_3, lw_okq q := List.forall_mem_cons.mpr ⟨lw_p32, List.forall_mem_cons.mpr ⟨lw_p33, List.forall_mem_cons.mpr ⟨lw_p34, List.forall_mem_cons.mpr ⟨lw_p35, List.forall_mem_cons.mpr ⟨lw_p36, fun _ h => absurd h List.not_mem_nil⟩⟩⟩⟩⟩
def lw_privs : List (MethodName × Nat) := lw_privs_1 ++ (lw_privs_2 ++ (lw_privs_3))
def lw_tbl : List Cond := k2_sels lw_privs ++ tables_1
theorem lw_privs_ok : ∀ q ∈ lw_privs, lw_okq q := by
  show ∀ q ∈ lw_privs_1 ++ (lw_privs_2 ++ (lw_privs_3)), lw_okq q
  exact List.forall_mem_append.mpr ⟨lw_r1, List.forall_mem_append.mpr ⟨lw_r2, lw_r3⟩⟩
/-- the streams that the claim lets the run draw from -/
abbrev lw_cs : List Choice := [Jvm.Choice.named "NaN.bits"]
theorem lw_bits : nanBits ∈ lw_cs := by first | decide | exact List.mem_cons_self | simp [lw_cs, nanBits]
/-! ===== BEGIN words of one list among another's, by their places ===== -/
theorem goodIn_r {big : List Cond} (ws : List Cond) (ps : List Nat) (hp : ws = ps.filterMap (fun i => big[i]?)) (h : ws.all goodWord = true) : GoodIn big ws := by
  intro w hw
  have h1 := List.all_eq_true.mp h w hw
  rw [hp] at hw
  obtain ⟨i, -, hi⟩ := List.mem_filterMap.mp hw
  have hm : w ∈ big := by first | exact List.mem_of_getElem? hi | exact List.getElem?_mem hi
  exact ⟨hm, good_of_word h1⟩
theorem goodIn_app {big a b : List Cond} (ha : GoodIn big a) (hb : GoodIn big b) : GoodIn big (a ++ b) := fun w h => (List.mem_append.mp h).elim (ha w) (hb w)
theorem goodIn_ca {big a b : List Cond} {c : Cond} (ha : GoodIn big (c :: a)) (hb : GoodIn big b) : GoodIn big (c :: (a ++ b)) := fun w h => (List.mem_cons.mp h).elim (fun e => ha w (List.mem_cons.mpr (Or.inl e))) (fun h => (List.mem_append.mp h).elim (fun h => ha w (List.mem_cons.mpr (Or.inr h))) (hb w))
theorem goodIn_sub {big ws : List Cond} (hm : ∀ w ∈ ws, w ∈ big) (h : ws.all goodWord = true) : GoodIn big ws := fun w hw => ⟨hm w hw, good_of_word (List.all_eq_true.mp h w hw)⟩
/-! ===== END ===== -/

/-! ===== BEGIN exceptions that leave a method, and their catching by the caller (launches without stack traces) ===== -/
section VXA
/-! The laws vx_back, vx_callV, vx_callS, vx_callSW, vx_throw0, vx_throwS follow proofs of the library, with one case more: JvmDerived/Free/Laws.lean (Back.of_free), Shelf42/LK1.lean (callV, callS), Shelf/KitTraced.lean (throwNew0V, throwNewS). -/
/-- where a method has thrown q: the class by its name, the cell, what was written, the world -/
def vx_T (XC : String → State → State → Prop) (st : State) (q : Addr) (t : State) (mc ms : Nat) (free : Addr → Prop) : Prop :=
  ∃ (E : String) (ce : Cell) (L : List Loc), XC E st t ∧ t.heap[q]? = some ce ∧ ce.vm = .none ∧ st.vm.findClass E = some ce.cls ∧ st.WarmedH t.vm ∧ st.sameButNew ({ t with vm := st.vm } : State) L mc ms ∧ ∀ z ∈ L, free z.base
def vx_Q (Qc : Array Value → State → Outcome → State → Prop) (XC : String → State → State → Prop) (mc ms : Nat) (free : Addr → Prop) : Array Value → State → Outcome → State → Prop := fun a st o t =>
  (Qc a st o t ∧ ∃ L, FrameEnd st o t L mc ms ∧ ∀ q ∈ L, free q.base) ∨ ∃ q, o = .threw q ∧ vx_T XC st q t mc ms free
/-- a callee that returns or throws -/
def vx_Met (l : Launch) (y : MethodName) (ws : List Cond) (rm : Room) (Pc : Array Value → State → Prop) (Qc : Array Value → State → Outcome → State → Prop) (XC : String → State → State → Prop) (mc ms : Nat) (free : Addr → Prop) : Prop :=
  MetFree l y (headSpec ws rm) Pc (fun _ _ _ _ _ => True) (vx_Q Qc XC mc ms free)
def vx_Post (XC : String → State → State → Prop) (mc ms : Nat) (free : Addr → Prop) : Pt → Array Value → Addr → Pt → Prop := fun A a q B =>
  ∃ (g : JFrame) (mk : MethodId) (t : State) (L : List Loc) (E : String) (ce : Cell), B.U.heap = t.heap ∧ B.U.vm = t.vm ∧ XC E (A.U.calling g mk a) t ∧ t.heap[q]? = some ce ∧ ce.vm = .none ∧ A.U.vm.findClass E = some ce.cls ∧ B.locs = A.locs ++ L ∧ (∀ z ∈ L, free z.base) ∧ B.cells = A.cells + mc ∧ B.slots = A.slots + ms
def vx_Back (l : Launch) (R : Room) (p : Program) (e : Env) (below : List Frame) (s : State) (sargs : Array Value) (y : MethodName) (len W9 : Nat)
    (Pre : Pt → Array Value → Prop) (Post : Pt → Array Value → Option Value → Pt → Prop) (PostX : Pt → Array Value → Addr → Pt → Prop) : Prop :=
  ∀ (m : MethodId) (meth : Method) (c : Code) (A : Pt) (g : JFrame) (ig : Instr) (mk : MethodId) (a : Array Value),
    Stand p l e R s m sargs below meth c A.U A.locs A.cells A.slots → g.method = m → g.locals.size = c.maxLocals → decode c.code g.pc = .ok (ig, len) →
    2 * g.monitorRoom + (g.stack.map fun v => v.category).sum ≤ W9 → A.U.methodNamed? y = some mk → Pre A a →
    (∃ (v : Option Value) (B : Pt), Stand p l e R s m sargs below meth c B.U B.locs B.cells B.slots ∧ Post A a v B ∧
      Steps p.tables e below (doInvoke e (A.U.setTop g) [] mk a).1 (B.U.setTop { g with pc := g.pc + len, stack := v.toList ++ g.stack })) ∨
    (∃ (q : Addr) (B : Pt), Stand p l e R s m sargs below meth c B.U B.locs B.cells B.slots ∧ PostX A a q B ∧
      Steps p.tables e below (doInvoke e (A.U.setTop g) [] mk a).1 ((B.U.setTop g).pushFrame (.throwing q)))
section Payer
variable {l : Launch} {R : Room} {p : Program} {e : Env} {below : List Frame} {s : State} {sargs : Array Value} {y : MethodName} {len W9 : Nat}
theorem vx_back {ws : List Cond} {rm : Room} {Pc : Array Value → State → Prop} {Qc : Array Value → State → Outcome → State → Prop} {XC : String → State → State → Prop} {mc ms : Nat} {free : Addr → Prop} {bytes : ByteArray} {maxL : Nat} {ret : Option FieldType}
    (hM : vx_Met l y ws rm Pc Qc XC mc ms free) (hblind : FrameBlind Pc) (hrc : rm.cells = mc) (hrs : rm.slots = ms)
    (hframes : rm.frames + 1 ≤ R.frames) (hlocals : W9 + (maxL + 11) + rm.locals ≤ R.locals)
    (hws : ∀ w ∈ ws, ∀ a' U, s.WarmedH U.vm → w.before a' U = true) (hcode : Cond.code y bytes maxL ret ∈ ws) (hinit : ∀ a' U, s.WarmedH U.vm → (Cond.initialized y.cls).before a' U = true) :
    vx_Back l R p e below s sargs y len W9 (PreOf R mc ms Pc) (PostOf Qc mc ms free) (vx_Post XC mc ms free) := by
  intro m meth c A g ig mk a X hg hsize hdg hW hn hp
  have h1 : (headSpec ws rm).pre.before a A.U = true := atoms_intro fun w hw => hws w hw _ _ X.warmed
  have h2 : (Cond.code y bytes maxL ret).before a A.U = true := hws _ hcode _ _ X.warmed
  have h3 : (Cond.initialized y.cls).before a A.U = true := hinit _ _ X.warmed
  have h4 : A.cells + (headSpec ws rm).room.cells ≤ R.cells := by rw [show (headSpec ws rm).room.cells = mc from hrc]; exact hp.1
  have h5 : A.slots + (headSpec ws rm).room.slots ≤ R.slots := by rw [show (headSpec ws rm).room.slots = ms from hrs]; exact hp.2.1
  have hPc : Pc a (A.U.calling g mk a) := hblind _ _ _ _ hp.2.2
  obtain ⟨U, Ls, c0, s0⟩ := A
  dsimp only [Pt.U, Pt.locs, Pt.cells, Pt.slots] at h1 h2 h3 h4 h5 X hn hPc ⊢
  obtain ⟨methY, cY, hmY, hcY, -, hlY, -, -, -, -⟩ := Cond.code_spec hn h2
  obtain ⟨kY, hkY, -⟩ := className_of_methodNamed hn
  have hinitY : kY.init = .initialized := Cond.initialized_spec (findClass_of_methodNamed hn) hkY h3
  have h : At U g.method c below := by rw [hg]; exact X.here
  have hlocals9 : W9 + (maxL + 11) + (headSpec ws rm).room.locals ≤ R.locals := hlocals
  have happ : (headSpec ws rm).appliesLoose y e.platform (U.calling g mk a) = true :=
    Spec.appliesLoose_calling (g := g) h hdg hn hkY hinitY
      (X.room_calling (g := g) (R' := (headSpec ws rm).room) hsize hmY hcY hframes (by rw [hlY]; omega) h4 h5) h1
  obtain ⟨mid, hmid⟩ := h.above
  have hfr : (U.setTop g).frames = (.java g :: mid) ++ below := by rw [State.frames_setTop' g h.top, hmid]; rfl
  obtain ⟨o, s₂, hsteps, -, hend, hq⟩ := Steps.callFree hM p X.admits X.cas X.clock (acts := []) hfr happ hPc trivial
  have hq' : vx_Q Qc XC mc ms free a (U.calling g mk a) o s₂ := hq
  rw [State.frames_setTop' g h.top] at hend
  obtain ⟨g₀, hg0⟩ := Option.isSome_iff_exists.mp h.top
  obtain ⟨r, hr⟩ := State.topJava?_eq_some.mp hg0
  have hr' : (({ U with heap := s₂.heap, slotsUsed := s₂.slotsUsed } : State).setVm s₂.vm).frames = .java g₀ :: r := hr
  rcases hq' with ⟨hqc, L, hfe, hL⟩ | ⟨q, rfl, E, ce, L, hx, hce, hcv, hcl, hW₂, hsm, hL⟩
  · obtain ⟨⟨v, rfl⟩, hW₂, e2, q2, q3, q4, q5, q6⟩ := id hfe
    have e3 : s₂ = ({ (U.calling g mk a).setFrames s₂.frames with heap := s₂.heap, slotsUsed := s₂.slotsUsed } : State).setVm s₂.vm := by
      have : s₂ = ({ s₂ with vm := (U.calling g mk a).vm } : State).setVm s₂.vm := rfl
      rw [e2] at this
      exact this
    obtain ⟨c₂, i₂, len₂, hc₂, hd₂, hf₂⟩ := hend
    have hW' : U.WarmedH s₂.vm := hW₂
    have hcc : c₂ = c := by
      have h1 : s₂.code? g.method = U.code? g.method := by
        rw [State.code?_eq, State.code?_eq, hW'.alike.method?]
      exact Option.some.inj (hc₂.symm.trans (h1.trans h.code))
    subst hcc
    have hlen : len₂ = len := by rw [hdg] at hd₂; cases hd₂; rfl
    subst hlen
    have hs₂ : s₂ = (({ U with heap := s₂.heap, slotsUsed := s₂.slotsUsed } : State).setVm s₂.vm).setTop { g with pc := g.pc + len₂, stack := v.toList ++ g.stack } := by
      refine e3.trans ?_
      rw [hf₂, State.calling_eq h.top, State.setFrames_setFrames, State.setTop_of_frames _ hr', hr]
      rfl
    have hsame : U.sameButNew ({ U with heap := s₂.heap, slotsUsed := s₂.slotsUsed } : State) L mc ms := by
      refine ⟨?_, q2, q3, q4, q5, q6⟩
      obtain ⟨t, ht, -⟩ := State.frames_cons hr
      show ({ U with heap := s₂.heap, slotsUsed := s₂.slotsUsed } : State) = { U.setFrames U.frames with heap := s₂.heap, slotsUsed := s₂.slotsUsed }
      rw [State.setFrames_self ht]
    subst hg
    refine Or.inl ⟨v, ⟨(({ U with heap := s₂.heap, slotsUsed := s₂.slotsUsed } : State).setVm s₂.vm), Ls ++ L, c0 + mc, s0 + ms⟩,
      ⟨X.admits, X.cas, X.clock, X.frames, X.room, X.hears, X.method, X.code, (X.here.setHeapUsed s₂.heap s₂.slotsUsed).setVm hW'.alike, X.tail, State.WarmedH.trans X.warmed hW', X.limits, X.bytes, X.same.trans (hsame.setVm s.vm)⟩,
      ⟨g, mk, s₂, L, rfl, rfl, hqc, rfl, hL, rfl, rfl⟩, ?_⟩
    show Steps p.tables e below _ ((({ U with heap := s₂.heap, slotsUsed := s₂.slotsUsed } : State).setVm s₂.vm).setTop { g with pc := g.pc + len₂, stack := v.toList ++ g.stack })
    rw [← hs₂]
    exact hsteps
  · obtain ⟨e2, q2, q3, q4, q5, q6⟩ := id hsm
    have e3 : s₂ = ({ (U.calling g mk a).setFrames s₂.frames with heap := s₂.heap, slotsUsed := s₂.slotsUsed } : State).setVm s₂.vm := by
      have : s₂ = ({ s₂ with vm := (U.calling g mk a).vm } : State).setVm s₂.vm := rfl
      rw [e2] at this
      exact this
    have hf₂ : s₂.frames = .throwing q :: .java g :: U.frames.tail := hend
    have hW' : U.WarmedH s₂.vm := hW₂
    have hs₂ : s₂ = ((({ U with heap := s₂.heap, slotsUsed := s₂.slotsUsed } : State).setVm s₂.vm).setTop g).pushFrame (.throwing q) := by
      refine e3.trans ?_
      rw [hf₂, State.calling_eq h.top, State.setFrames_setFrames, State.pushFrame, State.frames_setTop _ hr', State.setTop_of_frames _ hr', State.setFrames_setFrames, hr]
      rfl
    have hsame : U.sameButNew ({ U with heap := s₂.heap, slotsUsed := s₂.slotsUsed } : State) L mc ms := by
      refine ⟨?_, q2, q3, q4, q5, q6⟩
      obtain ⟨t, ht, -⟩ := State.frames_cons hr
      show ({ U with heap := s₂.heap, slotsUsed := s₂.slotsUsed } : State) = { U.setFrames U.frames with heap := s₂.heap, slotsUsed := s₂.slotsUsed }
      rw [State.setFrames_self ht]
    subst hg
    refine Or.inr ⟨q, ⟨(({ U with heap := s₂.heap, slotsUsed := s₂.slotsUsed } : State).setVm s₂.vm), Ls ++ L, c0 + mc, s0 + ms⟩,
      ⟨X.admits, X.cas, X.clock, X.frames, X.room, X.hears, X.method, X.code, (X.here.setHeapUsed s₂.heap s₂.slotsUsed).setVm hW'.alike, X.tail, State.WarmedH.trans X.warmed hW', X.limits, X.bytes, X.same.trans (hsame.setVm s.vm)⟩,
      ⟨g, mk, s₂, L, E, ce, rfl, rfl, hx, hce, hcv, hcl, rfl, hL, rfl, rfl⟩, ?_⟩
    show Steps p.tables e below _ (((({ U with heap := s₂.heap, slotsUsed := s₂.slotsUsed } : State).setVm s₂.vm).setTop g).pushFrame (.throwing q))
    rw [← hs₂]
    exact hsteps
end Payer
section Calls
variable {p : Program} {l : Launch} {e : Env} {R : Room} {s : State} {m : MethodId} {args : Array Value} {below : List Frame} {meth : Method} {c : Code} {T : State} {locs : List Loc} {cells slots : Nat}
theorem vx_callV (X : Stand p l e R s m args below meth c T locs cells slots) (hexec : p.tables.exec = Jvm.exec) {own C : String} {index : Nat} {y : MethodName} {bytes : ByteArray} {maxL : Nat} {ret : Option FieldType}
    (hown : s.vm.findClass own = some m.cls) (hlink : (Cond.methodLink own index y).before args s = true) (hinst : (Cond.instanceMethod y).before args s = true) (hsel : (Cond.selects C y y).before args s = true)
    (hcode : (Cond.code y bytes maxL ret).before args s = true) (hy : y.cls ≠ "java/lang/invoke/MethodHandle" ∧ y.cls ≠ "java/lang/invoke/VarHandle")
    {W9 : Nat} {Pre : Pt → Array Value → Prop} {Post : Pt → Array Value → Option Value → Pt → Prop} {PostX : Pt → Array Value → Addr → Pt → Prop} (hK : vx_Back l R p e below s args y 3 W9 Pre Post PostX)
    {b : Addr} {cellB : Cell} (hcell : T.heap[b]? = some cellB) (hobj : cellB.vm.isStatics = false) (hcls : s.vm.findClass C = some cellB.cls)
    {g : JFrame} (hg : g.method = m) (hsize : g.locals.size = c.maxLocals) {argsL rest : List Value} (hlen : ∀ sig, parseMethodDescriptor y.desc = some sig → argsL.length = sig.parameters.length)
    (hstack : g.stack = argsL.reverse ++ .ref b :: rest) (hW : 2 * g.monitorRoom + (rest.map fun v => v.category).sum ≤ W9) (hdg : decode c.code g.pc = .ok (.invokevirtual index, 3))
    (hpre : ∀ vm₁, s.WarmedH vm₁ → Pre ⟨T.setVm vm₁, locs, cells, slots⟩ (Value.ref b :: argsL).toArray) :
    (∃ (v : Option Value) (vm₁ : Vm) (B : Pt), s.WarmedH vm₁ ∧ Stand p l e R s m args below meth c B.U B.locs B.cells B.slots ∧ Post ⟨T.setVm vm₁, locs, cells, slots⟩ (Value.ref b :: argsL).toArray v B ∧
      ∀ target, Steps p.tables e below (B.U.setTop { g with pc := g.pc + 3, stack := v.toList ++ rest }) target → Steps p.tables e below (T.setTop g) target) ∨
    (∃ (q : Addr) (vm₁ : Vm) (B : Pt), s.WarmedH vm₁ ∧ Stand p l e R s m args below meth c B.U B.locs B.cells B.slots ∧ PostX ⟨T.setVm vm₁, locs, cells, slots⟩ (Value.ref b :: argsL).toArray q B ∧
      Steps p.tables e below (T.setTop g) ((B.U.setTop { g with stack := rest }).pushFrame (.throwing q))) := by
  obtain ⟨mk, methM, hnamed, hmethM, hstM, habM⟩ := Cond.instanceMethod_spec hinst
  obtain ⟨methM', cM, hmethM', -, -, -, -, -, -, hsigM⟩ := Cond.code_spec hnamed hcode
  cases hmethM.symm.trans hmethM'
  obtain ⟨c2, r2, m2, q1, q2, q3, q4, kP, hkP, hkPi⟩ := Cond.selects_spec hsel
  cases hcls.symm.trans q1
  cases (State.methodFound?_of_named hnamed hy).symm.trans q2
  cases hnamed.symm.trans q3
  have hselP : selectMethod e.platform s.vm cellB.cls mk = .method mk := by rw [Launch.admits_selectMethod X.admits]; exact q4
  obtain ⟨vm₁, X₁, hstep₁⟩ := X.invokevirtual hexec hown hlink hnamed hmethM hstM hkP hkPi hy (a := b) (cell := cellB) hcell
    (fun z h => by rw [h] at hobj; cases hobj) hselP hmethM habM hkP hkPi (g := g) hg (argsL := argsL) (rest := rest) (hlen _ hsigM) hstack hdg
  rcases hK m meth c ⟨T.setVm vm₁, locs, cells, slots⟩ { g with stack := rest } (.invokevirtual index) mk (Value.ref b :: argsL).toArray X₁ hg hsize hdg hW (X₁.named hnamed) (hpre vm₁ X₁.warmed) with ⟨v, B, X', hpost, hsteps⟩ | ⟨q, B, X', hpost, hsteps⟩
  · exact Or.inl ⟨v, vm₁, B, X₁.warmed, X', hpost, fun target h => hstep₁ _ fun acts => by rw [doInvoke_state]; exact hsteps.trans h⟩
  · exact Or.inr ⟨q, vm₁, B, X₁.warmed, X', hpost, hstep₁ _ fun acts => by rw [doInvoke_state]; exact hsteps⟩
theorem vx_callS (X : Stand p l e R s m args below meth c T locs cells slots) (hexec : p.tables.exec = Jvm.exec) {own : String} {index : Nat} {y : MethodName} {bytes : ByteArray} {maxL : Nat} {ret : Option FieldType}
    (hown : s.vm.findClass own = some m.cls) (hlink : (Cond.methodLink own index y).before args s = true) (hstat : (Cond.static y).before args s = true) (hinit : (Cond.initialized y.cls).before args s = true)
    (hcode : (Cond.code y bytes maxL ret).before args s = true) (hy : y.cls ≠ "java/lang/invoke/MethodHandle" ∧ y.cls ≠ "java/lang/invoke/VarHandle")
    {W9 : Nat} {Pre : Pt → Array Value → Prop} {Post : Pt → Array Value → Option Value → Pt → Prop} {PostX : Pt → Array Value → Addr → Pt → Prop} (hK : vx_Back l R p e below s args y 3 W9 Pre Post PostX)
    {g : JFrame} (hg : g.method = m) (hsize : g.locals.size = c.maxLocals) {argsL rest : List Value} (hlen : ∀ sig, parseMethodDescriptor y.desc = some sig → argsL.length = sig.parameters.length)
    (hstack : g.stack = argsL.reverse ++ rest) (hW : 2 * g.monitorRoom + (rest.map fun v => v.category).sum ≤ W9) (hdg : decode c.code g.pc = .ok (.invokestatic index, 3))
    (hpre : ∀ vm₁, s.WarmedH vm₁ → Pre ⟨T.setVm vm₁, locs, cells, slots⟩ argsL.toArray) :
    (∃ (v : Option Value) (vm₁ : Vm) (B : Pt), s.WarmedH vm₁ ∧ Stand p l e R s m args below meth c B.U B.locs B.cells B.slots ∧ Post ⟨T.setVm vm₁, locs, cells, slots⟩ argsL.toArray v B ∧
      ∀ target, Steps p.tables e below (B.U.setTop { g with pc := g.pc + 3, stack := v.toList ++ rest }) target → Steps p.tables e below (T.setTop g) target) ∨
    (∃ (q : Addr) (vm₁ : Vm) (B : Pt), s.WarmedH vm₁ ∧ Stand p l e R s m args below meth c B.U B.locs B.cells B.slots ∧ PostX ⟨T.setVm vm₁, locs, cells, slots⟩ argsL.toArray q B ∧
      Steps p.tables e below (T.setTop g) ((B.U.setTop { g with stack := rest }).pushFrame (.throwing q))) := by
  obtain ⟨mk, hnamed⟩ := Cond.code_named hcode
  obtain ⟨methM, cM, hmethM, -, -, -, -, -, -, hsigM⟩ := Cond.code_spec hnamed hcode
  have hstatic : methM.isStatic = true := Cond.static_spec hnamed hmethM hstat
  obtain ⟨kP, hkP, -⟩ := className_of_methodNamed hnamed
  have hinitP : kP.init = .initialized := Cond.initialized_spec (findClass_of_methodNamed hnamed) hkP hinit
  obtain ⟨vm₁, X₁, hstep₁⟩ := X.invokestatic hexec hown hlink hnamed hmethM hstatic hkP hinitP hy (g := g) hg (argsL := argsL) (rest := rest) (hlen _ hsigM) hstack hdg
  rcases hK m meth c ⟨T.setVm vm₁, locs, cells, slots⟩ { g with stack := rest } (.invokestatic index) mk argsL.toArray X₁ hg hsize hdg hW (X₁.named hnamed) (hpre vm₁ X₁.warmed) with ⟨v, B, X', hpost, hsteps⟩ | ⟨q, B, X', hpost, hsteps⟩
  · exact Or.inl ⟨v, vm₁, B, X₁.warmed, X', hpost, fun target h => hstep₁ _ fun acts => by rw [doInvoke_state]; exact hsteps.trans h⟩
  · exact Or.inr ⟨q, vm₁, B, X₁.warmed, X', hpost, hstep₁ _ fun acts => by rw [doInvoke_state]; exact hsteps⟩
end Calls
theorem vx_cls {s : State} {T : State} {vm₁ : Vm} {E : String} {k : ClassId} (hW : s.WarmedH vm₁) (h : (T.setVm vm₁).vm.findClass E = some k) : s.vm.findClass E = some k := by
  have h1 : vm₁.findClass E = some k := h
  rw [hW.alike.findClass] at h1
  exact h1
/-- the method's frame g, with q thrown over it -/
def vx_W (p : Program) (l : Launch) (e : Env) (R : Room) (s : State) (m : MethodId) (args : Array Value) (below : List Frame) (meth : Method) (c : Code) (H : Heap) (locs : List Loc) (cells slots : Nat) (Q : State → Prop) (g : JFrame) (q : Addr) : Prop :=
  ∀ T : State, T.heap = H → Stand p l e R s m args below meth c T locs cells slots → ∃ t, Steps p.tables e below ((T.setTop g).pushFrame (.throwing q)) t ∧ Q t
def vx_Run (p : Program) (l : Launch) (e : Env) (R : Room) (s : State) (m : MethodId) (args : Array Value) (below : List Frame) (meth : Method) (c : Code) (H : Heap) (locs : List Loc) (cells slots mc ms : Nat) (g : JFrame) (rest : List Value) (Qa : State → Outcome → State → Prop) (XC : String → State → State → Prop) (free : Addr → Prop) : Prop :=
  ∀ T : State, T.heap = H → Stand p l e R s m args below meth c T locs cells slots →
    (∃ (v : Option Value) (st₀ t T' : State) (L : List Loc), st₀.heap = H ∧ Stand p l e R s m args below meth c T' (locs ++ L) (cells + mc) (slots + ms) ∧ (∀ q ∈ L, free q.base) ∧ T'.heap = t.heap ∧ T'.vm = t.vm ∧ Qa st₀ (.returned v) t ∧
      Goes p e below T g T' { g with pc := g.pc + 3, stack := v.toList ++ rest }) ∨
    (∃ (q : Addr) (st₀ t T' : State) (L : List Loc) (E : String) (ce : Cell), st₀.heap = H ∧ Stand p l e R s m args below meth c T' (locs ++ L) (cells + mc) (slots + ms) ∧ (∀ z ∈ L, free z.base) ∧ T'.heap = t.heap ∧ T'.vm = t.vm ∧ XC E st₀ t ∧ t.heap[q]? = some ce ∧ ce.vm = .none ∧ s.vm.findClass E = some ce.cls ∧
      Steps p.tables e below (T.setTop g) ((T'.setTop { g with stack := rest }).pushFrame (.throwing q)))
def vx_X {S : Type} (px : S → Prop) (B : String → S → State → Prop) (A : Nat → Prop) : String → State → State → Prop := fun E st t => ∃ u : S, px u ∧ B E u t ∧ va_F A st t
section Runs
variable {p : Program} {l : Launch} {e : Env} {R : Room} {s : State} {m : MethodId} {args : Array Value} {below : List Frame} {meth : Method} {c : Code} {H : Heap} {locs : List Loc} {cells slots : Nat}
variable {y : MethodName} {bytes cc : ByteArray} {maxL nL mc ms n index : Nat} {ret : Option FieldType} {ws : List Cond} {rm : Room} {Pc : Array Value → State → Prop} {Qc : Array Value → State → Outcome → State → Prop} {XC : String → State → State → Prop} {free : Addr → Prop} {Ts : List Cond} {own C : String} {b : Addr} {As rest : List Value} {g : JFrame}
theorem vx_callBack (cb : CallB R s args own index y bytes maxL ret ws rm mc ms n) (hM : vx_Met l y ws rm Pc Qc XC mc ms free) (hbl : FrameBlind Pc) : vx_Back l R p e below s args y 3 8 (PreOf R mc ms Pc) (PostOf Qc mc ms free) (vx_Post XC mc ms free) := by
  obtain ⟨hrc, hrs, hfr, hlo, hws, hcw, -, hini, -⟩ := cb
  exact vx_back (bytes := bytes) (maxL := maxL) (ret := ret) hM hbl hrc hrs hfr hlo hws hcw (fun a' U hW => word_at hW (Or.inl (by first | rfl | simp [Cond.onTables, Cond.keeps, Cond.steady])) hini)
theorem vx_runV (S : CallFix p m c cc nL s args Ts own) (hM : vx_Met l y ws rm Pc Qc XC mc ms free) (cw : CallW R s args own C index y bytes maxL ret ws rm mc ms n) (hp : PreV s H C b Pc As)
    (hg : g.method = m) (hn : As.length = n) (hsize : g.locals.size = nL) (hstack : g.stack = As.reverse ++ .ref b :: rest) (hW : 2 * g.monitorRoom + (rest.map fun v => v.category).sum ≤ 8) (hdg : decode cc g.pc = .ok (.invokevirtual index, 3)) (hf : cells + mc ≤ R.cells ∧ slots + ms ≤ R.slots) :
    vx_Run p l e R s m args below meth c H locs cells slots mc ms g rest (Qc (Value.ref b :: As).toArray) XC free := by
  have hK : vx_Back l R p e below s args y 3 8 (PreOf R mc ms Pc) (PostOf Qc mc ms free) (vx_Post XC mc ms free) := vx_callBack cw.1 hM hp.1
  obtain ⟨⟨-, -, -, -, -, -, hcode, -, hy, hlen, hl⟩, hin, hse⟩ := cw
  obtain ⟨hx, hb, hml, ho, -⟩ := S
  obtain ⟨-, ⟨cellB, hcB, hoB, hclB⟩, hPc⟩ := hp
  intro T hT X
  rcases vx_callV X hx (C := C) (bytes := bytes) (maxL := maxL) (ret := ret) ho hl hin hse hcode hy hK (by rw [hT]; exact hcB) hoB hclB hg (hsize.trans hml.symm) (argsL := As) (rest := rest) (fun sig h => hn.trans (hlen sig h)) hstack hW (by rw [hb]; exact hdg)
    (fun vm₁ hW₁ => ⟨hf.1, hf.2, hPc (T.setVm vm₁) hT hW₁⟩) with ⟨v, vm₁, ⟨U', l2, c2, s2⟩, hW₁, X', ⟨g', mk, t, L, e1, e2, hq, h1, hL, h2, h3⟩, st⟩ | ⟨q, vm₁, ⟨U', l2, c2, s2⟩, hW₁, X', ⟨g', mk, t, L, E, ce, e1, e2, hq, hce, hcv, hcl, h1, hL, h2, h3⟩, st⟩
  · dsimp only [Pt.U, Pt.locs, Pt.cells, Pt.slots] at X' e1 e2 h1 h2 h3 st
    subst h1; subst h2; subst h3
    exact Or.inl ⟨v, (T.setVm vm₁).calling g' mk (Value.ref b :: As).toArray, t, U', L, hT, X', hL, e1, e2, hq, st⟩
  · dsimp only [Pt.U, Pt.locs, Pt.cells, Pt.slots] at X' e1 e2 h1 h2 h3 st hcl
    subst h1; subst h2; subst h3
    exact Or.inr ⟨q, (T.setVm vm₁).calling g' mk (Value.ref b :: As).toArray, t, U', L, E, ce, hT, X', hL, e1, e2, hq, hce, hcv, vx_cls hW₁ hcl, st⟩
theorem vx_runS (S : CallFix p m c cc nL s args Ts own) (hM : vx_Met l y ws rm Pc Qc XC mc ms free) (cw : CallB R s args own index y bytes maxL ret ws rm mc ms n ∧ (Cond.static y).before args s = true) (hp : PreS s H Pc As)
    (hg : g.method = m) (hn : As.length = n) (hsize : g.locals.size = nL) (hstack : g.stack = As.reverse ++ rest) (hW : 2 * g.monitorRoom + (rest.map fun v => v.category).sum ≤ 8) (hdg : decode cc g.pc = .ok (.invokestatic index, 3)) (hf : cells + mc ≤ R.cells ∧ slots + ms ≤ R.slots) :
    vx_Run p l e R s m args below meth c H locs cells slots mc ms g rest (Qc As.toArray) XC free := by
  have hK : vx_Back l R p e below s args y 3 8 (PreOf R mc ms Pc) (PostOf Qc mc ms free) (vx_Post XC mc ms free) := vx_callBack cw.1 hM hp.1
  obtain ⟨⟨-, -, -, -, -, -, hcode, hini, hy, hlen, hl⟩, hstt⟩ := cw
  obtain ⟨hx, hb, hml, ho, -⟩ := S
  intro T hT X
  rcases vx_callS X hx (bytes := bytes) (maxL := maxL) (ret := ret) ho hl hstt hini hcode hy hK hg (hsize.trans hml.symm) (argsL := As) (rest := rest) (fun sig h => hn.trans (hlen sig h)) hstack hW (by rw [hb]; exact hdg)
    (fun vm₁ hW₁ => ⟨hf.1, hf.2, hp.2 (T.setVm vm₁) hT hW₁⟩) with ⟨v, vm₁, ⟨U', l2, c2, s2⟩, hW₁, X', ⟨g', mk, t, L, e1, e2, hq, h1, hL, h2, h3⟩, st⟩ | ⟨q, vm₁, ⟨U', l2, c2, s2⟩, hW₁, X', ⟨g', mk, t, L, E, ce, e1, e2, hq, hce, hcv, hcl, h1, hL, h2, h3⟩, st⟩
  · dsimp only [Pt.U, Pt.locs, Pt.cells, Pt.slots] at X' e1 e2 h1 h2 h3 st
    subst h1; subst h2; subst h3
    exact Or.inl ⟨v, (T.setVm vm₁).calling g' mk As.toArray, t, U', L, hT, X', hL, e1, e2, hq, st⟩
  · dsimp only [Pt.U, Pt.locs, Pt.cells, Pt.slots] at X' e1 e2 h1 h2 h3 st hcl
    subst h1; subst h2; subst h3
    exact Or.inr ⟨q, (T.setVm vm₁).calling g' mk As.toArray, t, U', L, E, ce, hT, X', hL, e1, e2, hq, hce, hcv, vx_cls hW₁ hcl, st⟩
end Runs
section Rows
variable {p : Program} {l : Launch} {e : Env} {R : Room} {s : State} {m : MethodId} {args : Array Value} {below : List Frame} {meth : Method} {c : Code} {H : Heap} {locs : List Loc} {cells slots : Nat} {Q : State → Prop}
variable {mc ms : Nat} {free : Addr → Prop} {A0 A1 : Nat → Prop} {H0 : Heap} {a : Array Value} {pc : Nat} {ls : Array Slot} {st0 rest : List Value}
theorem vx_keep {st₀ t T' : State} {L : List Loc} (h0 : st₀.heap = H) (e1 : T'.heap = t.heap) (hS : va_S A0 H0 H locs) (hA : ∀ q, q < H.size → A1 q → A0 q) (hf : ∀ q, free q → A0 q) (hL : ∀ q ∈ L, free q.base) (hF : va_F A1 st₀ t) :
    H.size ≤ T'.heap.size ∧ (∀ q : Nat, q < H.size → ¬ A1 q → T'.heap[q]? = H[q]?) ∧ va_S A0 H0 T'.heap (locs ++ L) := by
  obtain ⟨hz, hk⟩ := hF
  rw [h0] at hz hk
  exact ⟨by rw [e1]; exact hz, fun q h1 h2 => by rw [e1]; exact hk q h1 h2,
    ⟨Nat.le_trans hS.1 (by rw [e1]; exact hz), fun q h1 h2 => by rw [e1, hk q (Nat.lt_of_lt_of_le h1 hS.1) (fun z => h2 (hA q (Nat.lt_of_lt_of_le h1 hS.1) z))]; exact hS.2.1 q h1 h2, fun q hq => by
      rcases List.mem_append.mp hq with h | h
      · exact hS.2.2 q h
      · exact hf _ (hL q h)⟩⟩
theorem vx_calli {S SX : Type} {post : Int32 → S → Prop} {px : SX → Prop} {B : S → State → Prop} {BX : String → SX → State → Prop} {AX : Nat → Prop} (hr : vx_Run p l e R s m args below meth c H locs cells slots mc ms (F0 m pc ls st0) rest (va_Qi post B A1 a) (vx_X px BX AX) free) (hS : va_S A0 H0 H locs) (hA : ∀ q, q < H.size → A1 q → A0 q) (hf : ∀ q, free q → A0 q) (hAX : ∀ q, q < H.size → AX q → A0 q)
    (kx : ∀ (E : String) (ce : Cell) (q9 : Addr) (u : SX) (t : State) (H1 : Heap) (locs1 : List Loc), t.heap = H1 → s.vm.Alike t.vm → px u → BX E u t → H.size ≤ H1.size → (∀ q : Nat, q < H.size → ¬ AX q → H1[q]? = H[q]?) → va_S A0 H0 H1 locs1 → H1[q9]? = some ce → ce.vm = .none → s.vm.findClass E = some ce.cls → vx_W p l e R s m args below meth c H1 locs1 (cells + mc) (slots + ms) Q (F0 m pc ls rest) q9)
    (kk : ∀ (r : Int32) (u : S) (t : State) (H1 : Heap) (locs1 : List Loc), t.heap = H1 → s.vm.Alike t.vm → post r u → B u t → H.size ≤ H1.size → (∀ q : Nat, q < H.size → ¬ A1 q → H1[q]? = H[q]?) → va_S A0 H0 H1 locs1 → W p l e R s m args below meth c H1 locs1 (cells + mc) (slots + ms) Q (F0 m (pc + 3) ls (.int r :: rest))) : W p l e R s m args below meth c H locs cells slots Q (F0 m pc ls st0) := by
  intro T hT X
  rcases hr T hT X with ⟨v, st₀, t, T', L, h0, X', hL, e1, e2, ⟨⟨r, u, hv, hp, hb⟩, hF⟩, st⟩ | ⟨q, st₀, t, T', L, E, ce, h0, X', hL, e1, e2, ⟨u, hp, hb, hF⟩, hce, hcv, hcl, st⟩
  · cases hv
    obtain ⟨k1, k2, k3⟩ := vx_keep h0 e1 hS hA hf hL hF
    obtain ⟨t2, a1, b1⟩ := kk r u t T'.heap (locs ++ L) e1.symm (by rw [← e2]; exact X'.warmed.alike) hp hb k1 k2 k3 T' rfl X'
    exact ⟨t2, st t2 a1, b1⟩
  · obtain ⟨k1, k2, k3⟩ := vx_keep h0 e1 hS hAX hf hL hF
    obtain ⟨t2, a1, b1⟩ := kx E ce q u t T'.heap (locs ++ L) e1.symm (by rw [← e2]; exact X'.warmed.alike) hp hb k1 k2 k3 (by rw [e1]; exact hce) hcv hcl T' rfl X'
    exact ⟨t2, st.trans a1, b1⟩
theorem vx_calll {S SX : Type} {post : Int64 → S → Prop} {px : SX → Prop} {B : S → State → Prop} {BX : String → SX → State → Prop} {AX : Nat → Prop} (hr : vx_Run p l e R s m args below meth c H locs cells slots mc ms (F0 m pc ls st0) rest (va_Ql post B A1 a) (vx_X px BX AX) free) (hS : va_S A0 H0 H locs) (hA : ∀ q, q < H.size → A1 q → A0 q) (hf : ∀ q, free q → A0 q) (hAX : ∀ q, q < H.size → AX q → A0 q)
    (kx : ∀ (E : String) (ce : Cell) (q9 : Addr) (u : SX) (t : State) (H1 : Heap) (locs1 : List Loc), t.heap = H1 → s.vm.Alike t.vm → px u → BX E u t → H.size ≤ H1.size → (∀ q : Nat, q < H.size → ¬ AX q → H1[q]? = H[q]?) → va_S A0 H0 H1 locs1 → H1[q9]? = some ce → ce.vm = .none → s.vm.findClass E = some ce.cls → vx_W p l e R s m args below meth c H1 locs1 (cells + mc) (slots + ms) Q (F0 m pc ls rest) q9)
    (kk : ∀ (r : Int64) (u : S) (t : State) (H1 : Heap) (locs1 : List Loc), t.heap = H1 → s.vm.Alike t.vm → post r u → B u t → H.size ≤ H1.size → (∀ q : Nat, q < H.size → ¬ A1 q → H1[q]? = H[q]?) → va_S A0 H0 H1 locs1 → W p l e R s m args below meth c H1 locs1 (cells + mc) (slots + ms) Q (F0 m (pc + 3) ls (.long r :: rest))) : W p l e R s m args below meth c H locs cells slots Q (F0 m pc ls st0) := by
  intro T hT X
  rcases hr T hT X with ⟨v, st₀, t, T', L, h0, X', hL, e1, e2, ⟨⟨r, u, hv, hp, hb⟩, hF⟩, st⟩ | ⟨q, st₀, t, T', L, E, ce, h0, X', hL, e1, e2, ⟨u, hp, hb, hF⟩, hce, hcv, hcl, st⟩
  · cases hv
    obtain ⟨k1, k2, k3⟩ := vx_keep h0 e1 hS hA hf hL hF
    obtain ⟨t2, a1, b1⟩ := kk r u t T'.heap (locs ++ L) e1.symm (by rw [← e2]; exact X'.warmed.alike) hp hb k1 k2 k3 T' rfl X'
    exact ⟨t2, st t2 a1, b1⟩
  · obtain ⟨k1, k2, k3⟩ := vx_keep h0 e1 hS hAX hf hL hF
    obtain ⟨t2, a1, b1⟩ := kx E ce q u t T'.heap (locs ++ L) e1.symm (by rw [← e2]; exact X'.warmed.alike) hp hb k1 k2 k3 (by rw [e1]; exact hce) hcv hcl T' rfl X'
    exact ⟨t2, st.trans a1, b1⟩
theorem vx_callf {S SX : Type} {post : UInt32 → S → Prop} {px : SX → Prop} {B : S → State → Prop} {BX : String → SX → State → Prop} {AX : Nat → Prop} (hr : vx_Run p l e R s m args below meth c H locs cells slots mc ms (F0 m pc ls st0) rest (va_Qf post B A1 a) (vx_X px BX AX) free) (hS : va_S A0 H0 H locs) (hA : ∀ q, q < H.size → A1 q → A0 q) (hf : ∀ q, free q → A0 q) (hAX : ∀ q, q < H.size → AX q → A0 q)
    (kx : ∀ (E : String) (ce : Cell) (q9 : Addr) (u : SX) (t : State) (H1 : Heap) (locs1 : List Loc), t.heap = H1 → s.vm.Alike t.vm → px u → BX E u t → H.size ≤ H1.size → (∀ q : Nat, q < H.size → ¬ AX q → H1[q]? = H[q]?) → va_S A0 H0 H1 locs1 → H1[q9]? = some ce → ce.vm = .none → s.vm.findClass E = some ce.cls → vx_W p l e R s m args below meth c H1 locs1 (cells + mc) (slots + ms) Q (F0 m pc ls rest) q9)
    (kk : ∀ (r : UInt32) (u : S) (t : State) (H1 : Heap) (locs1 : List Loc), t.heap = H1 → s.vm.Alike t.vm → post r u → B u t → H.size ≤ H1.size → (∀ q : Nat, q < H.size → ¬ A1 q → H1[q]? = H[q]?) → va_S A0 H0 H1 locs1 → W p l e R s m args below meth c H1 locs1 (cells + mc) (slots + ms) Q (F0 m (pc + 3) ls (.float r :: rest))) : W p l e R s m args below meth c H locs cells slots Q (F0 m pc ls st0) := by
  intro T hT X
  rcases hr T hT X with ⟨v, st₀, t, T', L, h0, X', hL, e1, e2, ⟨⟨r, u, hv, hp, hb⟩, hF⟩, st⟩ | ⟨q, st₀, t, T', L, E, ce, h0, X', hL, e1, e2, ⟨u, hp, hb, hF⟩, hce, hcv, hcl, st⟩
  · cases hv
    obtain ⟨k1, k2, k3⟩ := vx_keep h0 e1 hS hA hf hL hF
    obtain ⟨t2, a1, b1⟩ := kk r u t T'.heap (locs ++ L) e1.symm (by rw [← e2]; exact X'.warmed.alike) hp hb k1 k2 k3 T' rfl X'
    exact ⟨t2, st t2 a1, b1⟩
  · obtain ⟨k1, k2, k3⟩ := vx_keep h0 e1 hS hAX hf hL hF
    obtain ⟨t2, a1, b1⟩ := kx E ce q u t T'.heap (locs ++ L) e1.symm (by rw [← e2]; exact X'.warmed.alike) hp hb k1 k2 k3 (by rw [e1]; exact hce) hcv hcl T' rfl X'
    exact ⟨t2, st.trans a1, b1⟩
theorem vx_calld {S SX : Type} {post : UInt64 → S → Prop} {px : SX → Prop} {B : S → State → Prop} {BX : String → SX → State → Prop} {AX : Nat → Prop} (hr : vx_Run p l e R s m args below meth c H locs cells slots mc ms (F0 m pc ls st0) rest (va_Qd post B A1 a) (vx_X px BX AX) free) (hS : va_S A0 H0 H locs) (hA : ∀ q, q < H.size → A1 q → A0 q) (hf : ∀ q, free q → A0 q) (hAX : ∀ q, q < H.size → AX q → A0 q)
    (kx : ∀ (E : String) (ce : Cell) (q9 : Addr) (u : SX) (t : State) (H1 : Heap) (locs1 : List Loc), t.heap = H1 → s.vm.Alike t.vm → px u → BX E u t → H.size ≤ H1.size → (∀ q : Nat, q < H.size → ¬ AX q → H1[q]? = H[q]?) → va_S A0 H0 H1 locs1 → H1[q9]? = some ce → ce.vm = .none → s.vm.findClass E = some ce.cls → vx_W p l e R s m args below meth c H1 locs1 (cells + mc) (slots + ms) Q (F0 m pc ls rest) q9)
    (kk : ∀ (r : UInt64) (u : S) (t : State) (H1 : Heap) (locs1 : List Loc), t.heap = H1 → s.vm.Alike t.vm → post r u → B u t → H.size ≤ H1.size → (∀ q : Nat, q < H.size → ¬ A1 q → H1[q]? = H[q]?) → va_S A0 H0 H1 locs1 → W p l e R s m args below meth c H1 locs1 (cells + mc) (slots + ms) Q (F0 m (pc + 3) ls (.double r :: rest))) : W p l e R s m args below meth c H locs cells slots Q (F0 m pc ls st0) := by
  intro T hT X
  rcases hr T hT X with ⟨v, st₀, t, T', L, h0, X', hL, e1, e2, ⟨⟨r, u, hv, hp, hb⟩, hF⟩, st⟩ | ⟨q, st₀, t, T', L, E, ce, h0, X', hL, e1, e2, ⟨u, hp, hb, hF⟩, hce, hcv, hcl, st⟩
  · cases hv
    obtain ⟨k1, k2, k3⟩ := vx_keep h0 e1 hS hA hf hL hF
    obtain ⟨t2, a1, b1⟩ := kk r u t T'.heap (locs ++ L) e1.symm (by rw [← e2]; exact X'.warmed.alike) hp hb k1 k2 k3 T' rfl X'
    exact ⟨t2, st t2 a1, b1⟩
  · obtain ⟨k1, k2, k3⟩ := vx_keep h0 e1 hS hAX hf hL hF
    obtain ⟨t2, a1, b1⟩ := kx E ce q u t T'.heap (locs ++ L) e1.symm (by rw [← e2]; exact X'.warmed.alike) hp hb k1 k2 k3 (by rw [e1]; exact hce) hcv hcl T' rfl X'
    exact ⟨t2, st.trans a1, b1⟩
theorem vx_callv {S SX : Type} {post : S → Prop} {px : SX → Prop} {B : S → State → Prop} {BX : String → SX → State → Prop} {AX : Nat → Prop} (hr : vx_Run p l e R s m args below meth c H locs cells slots mc ms (F0 m pc ls st0) rest (va_Qv post B A1 a) (vx_X px BX AX) free) (hS : va_S A0 H0 H locs) (hA : ∀ q, q < H.size → A1 q → A0 q) (hf : ∀ q, free q → A0 q) (hAX : ∀ q, q < H.size → AX q → A0 q)
    (kx : ∀ (E : String) (ce : Cell) (q9 : Addr) (u : SX) (t : State) (H1 : Heap) (locs1 : List Loc), t.heap = H1 → s.vm.Alike t.vm → px u → BX E u t → H.size ≤ H1.size → (∀ q : Nat, q < H.size → ¬ AX q → H1[q]? = H[q]?) → va_S A0 H0 H1 locs1 → H1[q9]? = some ce → ce.vm = .none → s.vm.findClass E = some ce.cls → vx_W p l e R s m args below meth c H1 locs1 (cells + mc) (slots + ms) Q (F0 m pc ls rest) q9)
    (kk : ∀ (u : S) (t : State) (H1 : Heap) (locs1 : List Loc), t.heap = H1 → s.vm.Alike t.vm → post u → B u t → H.size ≤ H1.size → (∀ q : Nat, q < H.size → ¬ A1 q → H1[q]? = H[q]?) → va_S A0 H0 H1 locs1 → W p l e R s m args below meth c H1 locs1 (cells + mc) (slots + ms) Q (F0 m (pc + 3) ls (rest))) : W p l e R s m args below meth c H locs cells slots Q (F0 m pc ls st0) := by
  intro T hT X
  rcases hr T hT X with ⟨v, st₀, t, T', L, h0, X', hL, e1, e2, ⟨⟨u, hv, hp, hb⟩, hF⟩, st⟩ | ⟨q, st₀, t, T', L, E, ce, h0, X', hL, e1, e2, ⟨u, hp, hb, hF⟩, hce, hcv, hcl, st⟩
  · cases hv
    obtain ⟨k1, k2, k3⟩ := vx_keep h0 e1 hS hA hf hL hF
    obtain ⟨t2, a1, b1⟩ := kk u t T'.heap (locs ++ L) e1.symm (by rw [← e2]; exact X'.warmed.alike) hp hb k1 k2 k3 T' rfl X'
    exact ⟨t2, st t2 a1, b1⟩
  · obtain ⟨k1, k2, k3⟩ := vx_keep h0 e1 hS hAX hf hL hF
    obtain ⟨t2, a1, b1⟩ := kx E ce q u t T'.heap (locs ++ L) e1.symm (by rw [← e2]; exact X'.warmed.alike) hp hb k1 k2 k3 (by rw [e1]; exact hce) hcv hcl T' rfl X'
    exact ⟨t2, st.trans a1, b1⟩
/-- caught by the row x of this method's table; the rows ahead don't take it -/
theorem vx_catch {own name : String} {E : String} {ce : Cell} {q : Addr} (hown : s.vm.findClass own = some m.cls) (pre : List ExceptionTableEntry) (x : ExceptionTableEntry) (suf : List ExceptionTableEntry) (hsplit : c.exceptionTable.toList = pre ++ x :: suf)
    (hpass : ∀ z ∈ pre, covers z pc = false ∨ (z.catchType ≠ 0 ∧ ∃ nm : String, (Cond.classLink own z.catchType nm).before args s = true ∧ va_Nc E nm s)) (hx : covers x pc = true) (h0 : x.catchType ≠ 0)
    (hlink : (Cond.classLink own x.catchType name).before args s = true) (hcast : (Cond.castable E name).before args s = true) (hcell : H[q]? = some ce) (hv : ce.vm = .none) (hcl : s.vm.findClass E = some ce.cls)
    (kk : W p l e R s m args below meth c H locs cells slots Q (F0 m x.handlerPc ls [.ref q])) : vx_W p l e R s m args below meth c H locs cells slots Q (F0 m pc ls rest) q := by
  intro T hT X
  have hpl : e.platform.magicAccessors = ({} : Platform).magicAccessors := by rw [X.admits.platform]
  obtain ⟨c3, c4, hc3, hc4, hasg⟩ := Cond.castable_spec hcast
  cases Option.some.inj (hc3.symm.trans hcl)
  obtain ⟨c5, hc5, hcl5⟩ := Cond.classLink_spec hown hlink e.platform hpl
  cases Option.some.inj (hc4.symm.trans hc5)
  obtain ⟨vm', X', st⟩ := X.thenCaughtThrough q (g := F0 m pc ls rest) rfl (Steps.refl _) (by rw [hT]; exact hcell) (by rw [hv]; rfl) (by obtain ⟨k9, h9, -⟩ := Vm.findClass_spec hcl; exact ⟨k9, h9⟩) pre x suf hsplit
    (fun z hz => by
      rcases hpass z hz with h | ⟨hz0, nm, hl1, hn1⟩
      · exact Or.inl h
      · obtain ⟨c6, hc6, hcl6⟩ := Cond.classLink_spec hown hl1 e.platform hpl
        obtain ⟨a8, b8, h1, h2, h3⟩ := hn1
        cases Option.some.inj (h1.symm.trans hcl)
        cases Option.some.inj (h2.symm.trans hc6)
        exact Or.inr ⟨hz0, _, hcl6, h3⟩) hx (Or.inr ⟨h0, c4, hcl5, hasg⟩)
  obtain ⟨t, a1, b1⟩ := kk (T.setVm vm') hT X'
  exact ⟨t, st.trans a1, b1⟩
end Rows
section Ends
variable {p : Program} {l : Launch} {e : Env} {R : Room} {s : State} {m : MethodId} {args : Array Value} {below : List Frame} {meth : Method} {c : Code} {H : Heap} {locs : List Loc} {cells slots : Nat} {Q : State → Prop}
variable {mc ms : Nat} {free : Addr → Prop} {A0 A1 : Nat → Prop} {H0 : Heap} {a : Array Value} {ls : Array Slot} {st0 rest : List Value}
variable {Qc : Array Value → State → Outcome → State → Prop} {XC : String → State → State → Prop}
/-- what a body that may throw owes at its end -/
def vx_MQ (below : List Frame) (Qc : Array Value → State → Outcome → State → Prop) (XC : String → State → State → Prop) (a : Array Value) (s : State) (mc ms : Nat) (free : Addr → Prop) : State → Prop := fun t =>
  ∃ o, t.status = .running ∧ Ended t below o ∧ vx_Q Qc XC mc ms free a s o t
theorem vx_ret {g : JFrame} {mc ms : Nat} (k : W p l e R s m args below meth c H locs cells slots (MQ below Qc args s mc ms free) g) : W p l e R s m args below meth c H locs cells slots (vx_MQ below Qc XC args s mc ms free) g := by
  intro T hT X
  obtain ⟨t, a1, o, b1, b2, b3, b4⟩ := k T hT X
  exact ⟨t, a1, o, b1, b2, Or.inl ⟨b3, b4⟩⟩
/-- not caught here: it goes on to the caller -/
theorem vx_widen {g : JFrame} {q : Addr} {k n : Nat} (h1 : cells ≤ k) (h2 : slots ≤ n) (kk : vx_W p l e R s m args below meth c H locs k n Q g q) : vx_W p l e R s m args below meth c H locs cells slots Q g q := fun T hT X => kk T hT (stand_widen X h1 h2)
theorem vx_out {pc : Nat} {E : String} {ce : Cell} {q : Addr} {mc ms : Nat} (hout : ∀ x ∈ c.exceptionTable.toList, covers x pc = false) (hlocks : meth.locks = false) (hcell : H[q]? = some ce) (hv : ce.vm = .none) (hcl : s.vm.findClass E = some ce.cls)
    (hx : ∀ t : State, t.heap = H → s.vm.Alike t.vm → XC E s t) (hf : ∀ z ∈ locs, free z.base) (hc : cells ≤ mc) (hs : slots ≤ ms) :
    vx_W p l e R s m args below meth c H locs cells slots (vx_MQ below Qc XC args s mc ms free) (F0 m pc ls rest) q := by
  intro T hT X
  obtain ⟨st1, hrun, hend, hW, hsm⟩ := X.leaveThrown q (g := F0 m pc ls rest) rfl rfl rfl hout hlocks
  have hcell9 : (T.setFrames (.throwing q :: below)).heap[q]? = some ce := by
    show T.heap[q]? = some ce
    rw [hT]; exact hcell
  exact ⟨_, st1, .threw q, hrun, hend, Or.inr ⟨q, rfl, E, ce, locs, hx _ hT hW.alike, hcell9, hv, hcl, hW, hsm.mono hc hs, hf⟩⟩
theorem vx_frame {U : State} {k n : Nat} (h : s.sameButNew ({ U with vm := s.vm } : State) locs k n) : s.heap.size ≤ U.heap.size ∧ ∀ q : Nat, q < s.heap.size → (∀ z ∈ locs, z.base ≠ q) → U.heap[q]? = s.heap[q]? := by
  obtain ⟨-, h2, -, -, -, h6⟩ := h
  refine ⟨h2, fun q hq hz => ?_⟩
  obtain ⟨c9, e1, e2, e3, e4⟩ := h6 q _ (Array.getElem?_eq_getElem hq)
  have hs : c9.slots = (s.heap[q]).slots := Array.ext_getElem? fun i => e4 i fun hm => hz _ hm rfl
  have h9 : c9 = s.heap[q] := by
    rw [hs] at e2
    exact e2
  have e5 : U.heap[q]? = some c9 := e1
  rw [e5, h9, Array.getElem?_eq_getElem hq]
/-- the words of a throw but the four that speak of the heap -/
def vx_no (w : Cond) : Bool := decide (w ≠ .isRef (.static Bundle.tN "UNASSIGNED_STACK" Bundle.steD)) && decide (w ≠ .isRef (.static Bundle.tN "SUPPRESSED_SENTINEL" Bundle.listD)) && decide (w ≠ .laysStatic Bundle.tN "UNASSIGNED_STACK" Bundle.steD) && decide (w ≠ .laysStatic Bundle.tN "SUPPRESSED_SENTINEL" Bundle.listD)
def vx_at0 (own : String) (ic : Nat) (X : String) (names : List String) : List Cond := (Bundle.ownAtoms0 own ic X names).filter vx_no
def vx_atS (own : String) (ic : Nat) (X : String) (names : List String) : List Cond := (Bundle.ownAtoms own ic X names).filter vx_no
/-- a word that the tables alone decide, or a good one -/
def vx_ot (w : Cond) : Bool := w.onTables || goodWord w
theorem vx_ot_at {args a' : Array Value} {s U : State} {w : Cond} (hW : s.WarmedH U.vm) (hvm : s.vm = U.vm) (hg : vx_ot w = true) (h : w.before args s = true) : w.before a' U = true := by
  simp only [vx_ot, Bool.or_eq_true] at hg
  rcases hg with hg | hg
  · exact va_tabs hg hvm h
  · exact word_at hW (good_of_word hg) h
/-- a list's words: the good ones out of the method's own list, the others by premises of their own -/
theorem vx_hat {args : Array Value} {s : State} {L B : List Cond} (h1 : ∀ w ∈ L.filter goodWord, w.before args s = true) (h2 : ∀ w ∈ L.filter (fun w => !goodWord w), w ∈ B) (h3 : ∀ w ∈ B, w.before args s = true) : ∀ w ∈ L, w.before args s = true := by
  intro w hw
  by_cases g : goodWord w = true
  · exact h1 w (List.mem_filter.mpr ⟨hw, g⟩)
  · refine h3 w (h2 w (List.mem_filter.mpr ⟨hw, ?_⟩))
    show (!goodWord w) = true
    cases hgw : goodWord w
    · rfl
    · exact absurd hgw g
theorem vx_c {args : Array Value} {s : State} {w : Cond} {B : List Cond} (h : w.before args s = true) (t : ∀ w ∈ B, w.before args s = true) : ∀ w' ∈ w :: B, w'.before args s = true := fun w' h' => (List.mem_cons.mp h').elim (fun e => by rw [e]; exact h) (t w')
theorem vx_n {args : Array Value} {s : State} : ∀ w ∈ ([] : List Cond), w.before args s = true := fun _ h => nomatch h
theorem vx_own {args : Array Value} {s : State} {L : List Cond} (h1 : ∀ w ∈ L.filter vx_no, w.before args s = true)
    (hU : (Cond.isRef (.static Bundle.tN "UNASSIGNED_STACK" Bundle.steD)).before args s = true) (hN : (Cond.isRef (.static Bundle.tN "SUPPRESSED_SENTINEL" Bundle.listD)).before args s = true)
    (lU : (Cond.laysStatic Bundle.tN "UNASSIGNED_STACK" Bundle.steD).before args s = true) (lN : (Cond.laysStatic Bundle.tN "SUPPRESSED_SENTINEL" Bundle.listD).before args s = true) : ∀ w ∈ L, w.before args s = true := by
  intro w hw
  by_cases e1 : w = .isRef (.static Bundle.tN "UNASSIGNED_STACK" Bundle.steD)
  · rw [e1]; exact hU
  · by_cases e2 : w = .isRef (.static Bundle.tN "SUPPRESSED_SENTINEL" Bundle.listD)
    · rw [e2]; exact hN
    · by_cases e3 : w = .laysStatic Bundle.tN "UNASSIGNED_STACK" Bundle.steD
      · rw [e3]; exact lU
      · by_cases e4 : w = .laysStatic Bundle.tN "SUPPRESSED_SENTINEL" Bundle.listD
        · rw [e4]; exact lN
        · exact h1 w (List.mem_filter.mpr ⟨hw, by unfold vx_no; rw [decide_eq_true e1, decide_eq_true e2, decide_eq_true e3, decide_eq_true e4]; rfl⟩)
/-- where a static field lies, its class's statics cell in H -/
def vx_L (C n d : String) (A : Nat → Prop) (U : State) (H : Heap) : Prop := ∃ (c : ClassId) (k : Class) (i : Nat) (f : Field) (a : Nat) (cell : Cell), U.vm.findClass C = some c ∧ U.fieldFound? C n d = some (c, k, i, f) ∧ f.isStatic = true ∧ k.statics = some a ∧ H[a]? = some cell ∧ cell.vm.isStatics = true ∧ cell.cls = c ∧ f.slot < cell.slots.size ∧ k.staticTypes[f.slot]? = some f.type ∧ ¬ A a
theorem vx_L.moved {C n d : String} {A : Nat → Prop} {u U : State} {H : Heap} (hvm : u.vm.Alike U.vm) (h : vx_L C n d A u H) : vx_L C n d A U H := by
  obtain ⟨c, k, i, f, a, cell, h1, h2, h3, h4, h5, h6, h7, h8, h9, h10⟩ := h
  obtain ⟨k', hi', he⟩ := State.fieldFound?_setVm hvm h2
  exact ⟨c, k', i, f, a, cell, by rw [hvm.findClass]; exact h1, hi', h3, by rw [he]; exact h4, h5, h6, h7, h8, by rw [he]; exact h9, h10⟩
theorem vx_L.kept {C n d : String} {A : Nat → Prop} {U : State} {H H1 : Heap} (h : vx_L C n d A U H) (hq : ∀ a : Nat, a < H.size → ¬ A a → H1[a]? = H[a]?) : vx_L C n d A U H1 := by
  obtain ⟨c, k, i, f, a, cell, h1, h2, h3, h4, h5, h6, h7, h8, h9, h10⟩ := h
  exact ⟨c, k, i, f, a, cell, h1, h2, h3, h4, by rw [hq a (Array.getElem?_eq_some_iff.mp h5).1 h10]; exact h5, h6, h7, h8, h9, h10⟩
theorem vx_L.narrow {C n d : String} {A B : Nat → Prop} {U : State} {H : Heap} (h : vx_L C n d A U H) (hAB : ∀ q, B q → A q) : vx_L C n d B U H := by
  obtain ⟨c, k, i, f, a, cell, h1, h2, h3, h4, h5, h6, h7, h8, h9, h10⟩ := h
  exact ⟨c, k, i, f, a, cell, h1, h2, h3, h4, h5, h6, h7, h8, h9, fun z => h10 (hAB _ z)⟩
theorem vx_L.word {C n d : String} {A : Nat → Prop} {s : State} {args : Array Value} (h : vx_L C n d A s s.heap) : (Cond.laysStatic C n d).before args s = true := by
  obtain ⟨c, k, i, f, a, cell, h1, h2, h3, h4, h5, h6, h7, h8, h9, -⟩ := h
  show (Cond.laysStatic C n d).holds args s none s [] = true
  exact Cond.laysStatic_of h1 h2 h3 h4 h5 h6 h7 h8 h9
/-- .. and what it holds: null or some reference -/
def vx_Zq (C n d : String) (A : Nat → Prop) (U : State) (H : Heap) : Prop := va_Zq C n d A U H ∧ vx_L C n d A U H
theorem vx_Zq.moved {C n d : String} {A : Nat → Prop} {u U : State} {H : Heap} (hvm : u.vm.Alike U.vm) (h : vx_Zq C n d A u H) : vx_Zq C n d A U H := ⟨va_Zq.moved hvm h.1, vx_L.moved hvm h.2⟩
theorem vx_Zq.kept {C n d : String} {A : Nat → Prop} {U : State} {H H1 : Heap} (h : vx_Zq C n d A U H) (hq : ∀ a : Nat, a < H.size → ¬ A a → H1[a]? = H[a]?) : vx_Zq C n d A U H1 := ⟨va_Zq.kept h.1 hq, vx_L.kept h.2 hq⟩
theorem vx_Zq.narrow {C n d : String} {A B : Nat → Prop} {U : State} {H : Heap} (h : vx_Zq C n d A U H) (hAB : ∀ q, B q → A q) : vx_Zq C n d B U H := ⟨va_Zq.narrow h.1 hAB, vx_L.narrow h.2 hAB⟩
theorem vx_Zqof {args : Array Value} {s : State} {C n d : String} {A : Nat → Prop} (hl : (Cond.laysStatic C n d).before args s = true) (hini : (Cond.initialized C).before args s = true) (h : (Cond.isRef (.static C n d)).before args s = true) (hA : ∀ a : Nat, a < s.heap.size → ¬ A a) : vx_Zq C n d A s s.heap := by
  refine ⟨va_Zqof hl hini h hA, ?_⟩
  obtain ⟨c, k, i, f, a, cell, h1, h2, h3, h4, h5, h6, h7, h8, h9⟩ := Cond.laysStatic_spec hl
  exact ⟨c, k, i, f, a, cell, h1, h2, h3, h4, h5, h6, h7, h8, h9, hA a (Array.getElem?_eq_some_iff.mp h5).1⟩
theorem vx_isRef {C n d : String} {v : Value} {A : Nat → Prop} {s : State} {args : Array Value} (h : va_Z C n d v A s s.heap) (hv : v.isRef = true) : (Cond.isRef (.static C n d)).before args s = true := by
  obtain ⟨cf, kf, fi, f, a, cell, h1, h2, h3, h4, h5, h6, h7, -⟩ := h
  have he : (Term.static C n d).eval args s none [] s = some v := by
    simp [Term.eval, State.fieldNamed?, h1, h2, h4, h5, h6, h7]
  simp only [Cond.before, Cond.holds, Cond.value, he]
  cases v <;> simp_all [Value.isRef]
theorem vx_isRefq {C n d : String} {A : Nat → Prop} {s : State} {args : Array Value} (h : va_Zq C n d A s s.heap) : (Cond.isRef (.static C n d)).before args s = true := by
  rcases h with h | ⟨t, h⟩
  · exact vx_isRef h rfl
  · exact vx_isRef h rfl
/-- the same frame, seen from here: as if the method were called anew in this heap -/
theorem vx_rebase {T : State} (X : Stand p l e R s m args below meth c T locs cells slots) {R' : Room} (hf : R'.frames ≤ R.frames) (hl : R'.locals ≤ R.locals) (hc : cells + R'.cells ≤ R.cells) (hs : slots + R'.slots ≤ R.slots) :
    Stand p l e R' ((T.setVm s.vm).setFrames (.invoking m args :: below)) m args below meth c T [] 0 0 := by
  have htop : (T.setVm s.vm).topJava?.isSome := X.here.top
  have hF : ((T.setVm s.vm).setFrames (.invoking m args :: below)).frames = .invoking m args :: below := State.frames_setFrames _ (State.cur_lt_of_top htop)
  obtain ⟨g₀, hg0⟩ := Option.isSome_iff_exists.mp htop
  obtain ⟨r, hr⟩ := State.topJava?_eq_some.mp hg0
  have hl9 : e.platform.stackLimits (T.setVm s.vm).me = e.platform.stackLimits s.me := X.limits
  have hb9 : (T.setVm s.vm).me.stackBytes = s.me.stackBytes := X.bytes
  refine ⟨X.admits, X.cas, X.clock, hF, ?_, X.hears, X.method, X.code, X.here, X.tail, X.warmed, ?_, ?_, ?_⟩
  · have h := X.room
    have hU : ((T.setVm s.vm).setFrames (.invoking m args :: below)).localsInUse = s.localsInUse := by
      rw [State.localsInUse_invoking hF (meth := meth) (c := c) X.method X.code, State.localsInUse_invoking X.frames X.method X.code]
    simp only [State.hasRoom, Bool.and_eq_true, decide_eq_true_eq] at h ⊢
    obtain ⟨⟨⟨⟨h1, h2, h3, h4, h5, h6⟩, h7⟩, h8⟩, h9⟩ := h
    rw [X.frames, List.length_cons] at h2 h3
    have q1 := X.heapSize
    have q2 := X.used
    simp only [hF, hU, List.length_cons, State.stackLimits_setFrames, State.stackBytes_setFrames, hl9, hb9]
    refine ⟨⟨⟨⟨by omega, by omega, by omega, by omega, by omega, h6⟩, ?_⟩, ?_⟩, X.book⟩
    · show T.heap.size + R'.cells ≤ e.platform.maxCells
      omega
    · show T.slotsUsed + R'.slots ≤ e.platform.maxSlots
      omega
  · rw [State.stackLimits_setFrames]; rfl
  · rw [State.stackBytes_setFrames]; rfl
  · refine ⟨?_, Nat.le_refl _, Nat.le_refl _, ?_, ?_, fun a c9 h9 => ⟨c9, h9, rfl, rfl, fun _ _ => rfl⟩⟩
    · obtain ⟨t, ht, -⟩ := State.frames_cons hr
      show T.setVm s.vm = { ((T.setVm s.vm).setFrames (.invoking m args :: below)).setFrames (T.setVm s.vm).frames with heap := T.heap, slotsUsed := T.slotsUsed }
      rw [State.setFrames_setFrames, State.setFrames_self ht]
      rfl
    · show T.slotsUsed = T.slotsUsed + ((T.heap.toList.drop T.heap.size).map (·.slots.size)).sum
      rw [List.drop_eq_nil_of_le (Nat.le_of_eq Array.length_toList)]
      rfl
    · show ((T.heap.toList.drop T.heap.size).map (·.slots.size)).sum ≤ 0
      rw [List.drop_eq_nil_of_le (Nat.le_of_eq Array.length_toList)]
      exact Nat.le_refl _
/-- 'throw new E()': new; dup; invokespecial; athrow -/
theorem vx_throw0 {cc : ByteArray} {pc : Nat} (hexec : p.tables.exec = Jvm.exec) (hb : c.code = cc) (hl : l.stackTraces = false) {own cls : String} {names : List String} {ik ic mc ms : Nat} {A : Nat → Prop}
    (hown : s.vm.findClass own = some m.cls) (hcls : Bundle.fit cls = true) (hnames : ∀ n ∈ names, Bundle.fit n = true)
    (hk : (Cond.classLink own ik cls).before args s = true) (hini : (Cond.initialized cls).before args s = true) (hat : ∀ w ∈ vx_at0 own ic cls names, w.before args s = true)
    (hgood : ∀ w ∈ Cond.classLink own ik cls :: Cond.initialized cls :: vx_at0 own ic cls names, vx_ot w = true)
    (hU : vx_Zq Bundle.tN "UNASSIGNED_STACK" Bundle.steD A s s.heap) (hN : vx_Zq Bundle.tN "SUPPRESSED_SENTINEL" Bundle.listD A s s.heap) (hS : va_S A s.heap H locs) (hsize : ls.size = c.maxLocals)
    (d0 : decode cc pc = .ok (.new ik, 3)) (d3 : decode cc (pc + 3) = .ok (.dup, 1)) (d4 : decode cc (pc + 4) = .ok (.invokespecial ic, 3)) (d7 : decode cc (pc + 7) = .ok (.athrow, 1))
    (hout : ∀ x ∈ c.exceptionTable.toList, covers x (pc + 7) = false)
    (hRframes : names.length + 3 < R.frames) (hRlocals : (rest.map fun v => v.category).sum + (13 * (names.length + 1) + 42) ≤ R.locals) (hRcells : cells + 1 ≤ R.cells) (hRslots : slots + 6 ≤ R.slots) (hlocks : meth.locks = false)
    (hx : ∀ t : State, s.vm.Alike t.vm → H.size ≤ t.heap.size → (∀ q : Nat, q < H.size → t.heap[q]? = H[q]?) → XC cls s t)
    (hf : ∀ z ∈ locs, free z.base) (hc : cells + 1 ≤ mc) (hs : slots + 6 ≤ ms) :
    W p l e R s m args below meth c H locs cells slots (vx_MQ below Qc XC args s mc ms free) (F0 m pc ls rest) := by
  intro T hT X
  have htr : e.platform.stackTraces = false := (show e.platform.stackTraces = l.stackTraces by rw [X.admits.platform]).trans hl
  have Y := vx_rebase X (R' := { frames := R.frames, locals := R.locals, cells := 1, slots := 6 }) (Nat.le_refl _) (Nat.le_refl _) hRcells hRslots
  obtain ⟨s', hA⟩ : ∃ z, z = (T.setVm s.vm).setFrames (.invoking m args :: below) := ⟨_, rfl⟩
  rw [← hA] at Y
  have hvm : s'.vm = s.vm := by rw [hA]; rfl
  have hhp : s'.heap = H := by rw [hA]; exact hT
  have hW0 : s.WarmedH s'.vm := by rw [hvm]; exact State.WarmedH.refl s
  have hat' : ∀ w ∈ vx_at0 own ic cls names, w.before args s' = true := fun w hw => vx_ot_at hW0 hvm.symm (hgood w (List.mem_cons_of_mem _ (List.mem_cons_of_mem _ hw))) (hat w hw)
  have hk' : (Cond.classLink own ik cls).before args s' = true := vx_ot_at hW0 hvm.symm (hgood _ List.mem_cons_self) hk
  have hini' : (Cond.initialized cls).before args s' = true := vx_ot_at hW0 hvm.symm (hgood _ (List.mem_cons_of_mem _ List.mem_cons_self)) hini
  have hU' : vx_Zq Bundle.tN "UNASSIGNED_STACK" Bundle.steD A s' s'.heap := by rw [hhp]; exact vx_Zq.moved hW0.alike (hU.kept hS.2.1)
  have hN' : vx_Zq Bundle.tN "SUPPRESSED_SENTINEL" Bundle.listD A s' s'.heap := by rw [hhp]; exact vx_Zq.moved hW0.alike (hN.kept hS.2.1)
  have h : ∀ w ∈ Bundle.ownAtoms0 own ic cls names, w.before args s' = true := vx_own hat' (vx_isRefq hU'.1) (vx_isRefq hN'.1) hU'.2.word hN'.2.word
  have hown' : s'.vm.findClass own = some m.cls := by rw [hvm]; exact hown
  have hins : (Cond.instantiable cls 6).before args s' = true := h _ (by simp [Bundle.ownAtoms0])
  obtain ⟨vm₁, cX, kX, hfX, hkX, -, -, X₁, st1⟩ := Y.newCold hexec (own := own) (C := cls) (index := ik) (n := 6) hown' hk' hins hini'
    (g := F0 m pc ls rest) rfl (by rw [hb]; exact d0) (Nat.le_refl _) (Nat.le_refl _)
  generalize hT1 : (T.setVm vm₁).pushCell { cls := cX, slots := kX.instanceTypes.map defaultValue, vm := .none } = T1 at X₁ st1
  have hcat : (Value.ref T.heap.size).category = 1 := rfl
  have hcellA : T1.heap[T.heap.size]? = some (freshCell cX kX) := by rw [← hT1]; exact State.heap_pushCell_size _ _
  have d3' : decode c.code (pc + 3) = .ok (.dup, 1) := by rw [hb]; exact d3
  obtain ⟨U, hsteps, hrun, hend, hW, hsame, ce, hce, hO⟩ := X₁.ctorThrow0 hexec htr (own := own) (cls := cls) (names := names) (ic := ic) hown' hcls hnames h (fun x hx => nomatch hx) hfX hkX hcellA (by rw [hhp, hT]; exact Nat.le_refl _)
    (g := { method := m, pc := pc + 4, locals := ls, stack := .ref T.heap.size :: .ref T.heap.size :: rest, locked := none }) rfl hsize rfl rfl (rest := rest) rfl
    (by rw [hb]; exact d4) (by rw [hb]; exact d7) hout hRframes (by simp only [List.map_cons, List.sum_cons, hcat]; omega) hlocks
  obtain ⟨f1, f2⟩ := vx_frame hsame
  rw [hhp] at f1 f2
  have hWs : s.WarmedH U.vm := State.WarmedH.trans hW0 hW
  have hcl : s.vm.findClass cls = some ce.cls := by
    have h9 := hO.cls
    rw [hvm] at h9
    exact h9
  have hall : s.sameButNew ({ U with vm := s.vm } : State) locs mc ms := by
    subst hA
    obtain ⟨e1, e2⟩ := hsame
    rw [State.setFrames_setFrames] at e1
    have h2 : (T.setVm s.vm).sameButNew ({ U with vm := s.vm } : State) [] (0 + 1) (0 + 6) := ⟨e1, e2⟩
    have h3 := X.same.trans h2
    rw [List.append_nil] at h3
    exact h3.mono hc hs
  refine ⟨U, ?_, .threw T.heap.size, hrun, hend, Or.inr ⟨T.heap.size, rfl, cls, ce, locs, hx U hWs.alike f1 (fun q hq => f2 q hq (fun z hz => nomatch hz)), hce, hO.vm, hcl, hWs, hall, hf⟩⟩
  refine st1 _ ?_
  show Steps p.tables e below (T1.setTop { method := m, pc := pc + 3, locals := ls, stack := .ref T.heap.size :: rest, locked := none }) _
  jvm_step X₁.here [X₁.here.top, hexec, d3', Value.category]
  exact hsteps
/-- 'throw new E("text")': new; dup; ldc; invokespecial; athrow -/
theorem vx_throwS {cc : ByteArray} {pc : Nat} (hexec : p.tables.exec = Jvm.exec) (hb : c.code = cc) (hl : l.stackTraces = false) {own cls text : String} {names : List String} {ik is ic mc ms sa : Nat} {A : Nat → Prop}
    (hown : s.vm.findClass own = some m.cls) (hcls : Bundle.fit cls = true) (hnames : ∀ n ∈ names, Bundle.fit n = true)
    (hk : (Cond.classLink own ik cls).before args s = true) (hini : (Cond.initialized cls).before args s = true) (hstr : vk_R own is text sa s) (hat : ∀ w ∈ vx_atS own ic cls names, w.before args s = true)
    (hgood : ∀ w ∈ Cond.classLink own ik cls :: Cond.initialized cls :: vx_atS own ic cls names, vx_ot w = true)
    (hU : vx_Zq Bundle.tN "UNASSIGNED_STACK" Bundle.steD A s s.heap) (hN : vx_Zq Bundle.tN "SUPPRESSED_SENTINEL" Bundle.listD A s s.heap) (hS : va_S A s.heap H locs) (hsize : ls.size = c.maxLocals)
    (d0 : decode cc pc = .ok (.new ik, 3)) (d3 : decode cc (pc + 3) = .ok (.dup, 1)) (d4 : decode cc (pc + 4) = .ok (.ldc is, 2)) (d6 : decode cc (pc + 6) = .ok (.invokespecial ic, 3)) (d9 : decode cc (pc + 9) = .ok (.athrow, 1))
    (hout : ∀ x ∈ c.exceptionTable.toList, covers x (pc + 9) = false)
    (hRframes : names.length + 3 < R.frames) (hRlocals : (rest.map fun v => v.category).sum + (13 * (names.length + 1) + 43) ≤ R.locals) (hRcells : cells + 1 ≤ R.cells) (hRslots : slots + 6 ≤ R.slots) (hlocks : meth.locks = false)
    (hx : ∀ t : State, s.vm.Alike t.vm → H.size ≤ t.heap.size → (∀ q : Nat, q < H.size → t.heap[q]? = H[q]?) → XC cls s t)
    (hf : ∀ z ∈ locs, free z.base) (hc : cells + 1 ≤ mc) (hs : slots + 6 ≤ ms) :
    W p l e R s m args below meth c H locs cells slots (vx_MQ below Qc XC args s mc ms free) (F0 m pc ls rest) := by
  intro T hT X
  have htr : e.platform.stackTraces = false := (show e.platform.stackTraces = l.stackTraces by rw [X.admits.platform]).trans hl
  have Y := vx_rebase X (R' := { frames := R.frames, locals := R.locals, cells := 1, slots := 6 }) (Nat.le_refl _) (Nat.le_refl _) hRcells hRslots
  obtain ⟨s', hA⟩ : ∃ z, z = (T.setVm s.vm).setFrames (.invoking m args :: below) := ⟨_, rfl⟩
  rw [← hA] at Y
  have hvm : s'.vm = s.vm := by rw [hA]; rfl
  have hhp : s'.heap = H := by rw [hA]; exact hT
  have hW0 : s.WarmedH s'.vm := by rw [hvm]; exact State.WarmedH.refl s
  have hat' : ∀ w ∈ vx_atS own ic cls names, w.before args s' = true := fun w hw => vx_ot_at hW0 hvm.symm (hgood w (List.mem_cons_of_mem _ (List.mem_cons_of_mem _ hw))) (hat w hw)
  have hk' : (Cond.classLink own ik cls).before args s' = true := vx_ot_at hW0 hvm.symm (hgood _ List.mem_cons_self) hk
  have hini' : (Cond.initialized cls).before args s' = true := vx_ot_at hW0 hvm.symm (hgood _ (List.mem_cons_of_mem _ List.mem_cons_self)) hini
  have hU' : vx_Zq Bundle.tN "UNASSIGNED_STACK" Bundle.steD A s' s'.heap := by rw [hhp]; exact vx_Zq.moved hW0.alike (hU.kept hS.2.1)
  have hN' : vx_Zq Bundle.tN "SUPPRESSED_SENTINEL" Bundle.listD A s' s'.heap := by rw [hhp]; exact vx_Zq.moved hW0.alike (hN.kept hS.2.1)
  have h : ∀ w ∈ Bundle.ownAtoms own ic cls names, w.before args s' = true := vx_own hat' (vx_isRefq hU'.1) (vx_isRefq hN'.1) hU'.2.word hN'.2.word
  have hown' : s'.vm.findClass own = some m.cls := by rw [hvm]; exact hown
  have hins : (Cond.instantiable cls 6).before args s' = true := h _ (by simp [Bundle.ownAtoms])
  obtain ⟨vm₁, cX, kX, hfX, hkX, -, -, X₁, st1⟩ := Y.newCold hexec (own := own) (C := cls) (index := ik) (n := 6) hown' hk' hins hini'
    (g := F0 m pc ls rest) rfl (by rw [hb]; exact d0) (Nat.le_refl _) (Nat.le_refl _)
  generalize hT1 : (T.setVm vm₁).pushCell { cls := cX, slots := kX.instanceTypes.map defaultValue, vm := .none } = T1 at X₁ st1
  have hcat : (Value.ref T.heap.size).category = 1 := rfl
  have hcellA : T1.heap[T.heap.size]? = some (freshCell cX kX) := by rw [← hT1]; exact State.heap_pushCell_size _ _
  have d3' : decode c.code (pc + 3) = .ok (.dup, 1) := by rw [hb]; exact d3
  have d4' : decode c.code (pc + 4) = .ok (.ldc is, 2) := by rw [hb]; exact d4
  have hstr' : vk_R own is text sa s' := vk_R.warm hW0 hstr
  obtain ⟨U, hsteps, hrun, hend, hW, hsame, ce, hce, hO⟩ := X₁.ctorThrowS hexec htr (own := own) (cls := cls) (names := names) (ic := ic) hown' hcls hnames h (fun x hx => nomatch hx) hfX hkX hcellA (by rw [hhp, hT]; exact Nat.le_refl _) (msg := .ref sa) rfl
    (g := { method := m, pc := pc + 6, locals := ls, stack := .ref sa :: .ref T.heap.size :: .ref T.heap.size :: rest, locked := none }) rfl hsize rfl rfl (rest := rest) rfl
    (by rw [hb]; exact d6) (by rw [hb]; exact d9) hout hRframes (by simp only [List.map_cons, List.sum_cons, hcat]; omega) hlocks
  obtain ⟨f1, f2⟩ := vx_frame hsame
  rw [hhp] at f1 f2
  have hWs : s.WarmedH U.vm := State.WarmedH.trans hW0 hW
  have hcl : s.vm.findClass cls = some ce.cls := by
    have h9 := hO.cls
    rw [hvm] at h9
    exact h9
  have hall : s.sameButNew ({ U with vm := s.vm } : State) locs mc ms := by
    subst hA
    obtain ⟨e1, e2⟩ := hsame
    rw [State.setFrames_setFrames] at e1
    have h2 : (T.setVm s.vm).sameButNew ({ U with vm := s.vm } : State) [] (0 + 1) (0 + 6) := ⟨e1, e2⟩
    have h3 := X.same.trans h2
    rw [List.append_nil] at h3
    exact h3.mono hc hs
  refine ⟨U, ?_, .threw T.heap.size, hrun, hend, Or.inr ⟨T.heap.size, rfl, cls, ce, locs, hx U hWs.alike f1 (fun q hq => f2 q hq (fun z hz => nomatch hz)), hce, hO.vm, hcl, hWs, hall, hf⟩⟩
  refine st1 _ ?_
  show Steps p.tables e below (T1.setTop { method := m, pc := pc + 3, locals := ls, stack := .ref T.heap.size :: rest, locked := none }) _
  jvm_step X₁.here [X₁.here.top, hexec, d3', Value.category]
  exact X₁.ldcString hexec (own := own) (text := text) (index := is) (a := sa) hown' hstr'.1 hstr'.2
    (g := { method := m, pc := pc + 4, locals := ls, stack := .ref T.heap.size :: .ref T.heap.size :: rest, locked := none }) rfl d4' _ hsteps
/-- 'throw new E("text")', the text by a wide index -/
theorem vx_throwSW {cc : ByteArray} {pc : Nat} (hexec : p.tables.exec = Jvm.exec) (hb : c.code = cc) (hl : l.stackTraces = false) {own cls text : String} {names : List String} {ik is ic mc ms sa : Nat} {A : Nat → Prop}
    (hown : s.vm.findClass own = some m.cls) (hcls : Bundle.fit cls = true) (hnames : ∀ n ∈ names, Bundle.fit n = true)
    (hk : (Cond.classLink own ik cls).before args s = true) (hini : (Cond.initialized cls).before args s = true) (hstr : vk_R own is text sa s) (hat : ∀ w ∈ vx_atS own ic cls names, w.before args s = true)
    (hgood : ∀ w ∈ Cond.classLink own ik cls :: Cond.initialized cls :: vx_atS own ic cls names, vx_ot w = true)
    (hU : vx_Zq Bundle.tN "UNASSIGNED_STACK" Bundle.steD A s s.heap) (hN : vx_Zq Bundle.tN "SUPPRESSED_SENTINEL" Bundle.listD A s s.heap) (hS : va_S A s.heap H locs) (hsize : ls.size = c.maxLocals)
    (d0 : decode cc pc = .ok (.new ik, 3)) (d3 : decode cc (pc + 3) = .ok (.dup, 1)) (d4 : decode cc (pc + 4) = .ok (.ldc_w is, 3)) (d7 : decode cc (pc + 7) = .ok (.invokespecial ic, 3)) (d10 : decode cc (pc + 10) = .ok (.athrow, 1))
    (hout : ∀ x ∈ c.exceptionTable.toList, covers x (pc + 10) = false)
    (hRframes : names.length + 3 < R.frames) (hRlocals : (rest.map fun v => v.category).sum + (13 * (names.length + 1) + 43) ≤ R.locals) (hRcells : cells + 1 ≤ R.cells) (hRslots : slots + 6 ≤ R.slots) (hlocks : meth.locks = false)
    (hx : ∀ t : State, s.vm.Alike t.vm → H.size ≤ t.heap.size → (∀ q : Nat, q < H.size → t.heap[q]? = H[q]?) → XC cls s t)
    (hf : ∀ z ∈ locs, free z.base) (hc : cells + 1 ≤ mc) (hs : slots + 6 ≤ ms) :
    W p l e R s m args below meth c H locs cells slots (vx_MQ below Qc XC args s mc ms free) (F0 m pc ls rest) := by
  intro T hT X
  have htr : e.platform.stackTraces = false := (show e.platform.stackTraces = l.stackTraces by rw [X.admits.platform]).trans hl
  have Y := vx_rebase X (R' := { frames := R.frames, locals := R.locals, cells := 1, slots := 6 }) (Nat.le_refl _) (Nat.le_refl _) hRcells hRslots
  obtain ⟨s', hA⟩ : ∃ z, z = (T.setVm s.vm).setFrames (.invoking m args :: below) := ⟨_, rfl⟩
  rw [← hA] at Y
  have hvm : s'.vm = s.vm := by rw [hA]; rfl
  have hhp : s'.heap = H := by rw [hA]; exact hT
  have hW0 : s.WarmedH s'.vm := by rw [hvm]; exact State.WarmedH.refl s
  have hat' : ∀ w ∈ vx_atS own ic cls names, w.before args s' = true := fun w hw => vx_ot_at hW0 hvm.symm (hgood w (List.mem_cons_of_mem _ (List.mem_cons_of_mem _ hw))) (hat w hw)
  have hk' : (Cond.classLink own ik cls).before args s' = true := vx_ot_at hW0 hvm.symm (hgood _ List.mem_cons_self) hk
  have hini' : (Cond.initialized cls).before args s' = true := vx_ot_at hW0 hvm.symm (hgood _ (List.mem_cons_of_mem _ List.mem_cons_self)) hini
  have hU' : vx_Zq Bundle.tN "UNASSIGNED_STACK" Bundle.steD A s' s'.heap := by rw [hhp]; exact vx_Zq.moved hW0.alike (hU.kept hS.2.1)
  have hN' : vx_Zq Bundle.tN "SUPPRESSED_SENTINEL" Bundle.listD A s' s'.heap := by rw [hhp]; exact vx_Zq.moved hW0.alike (hN.kept hS.2.1)
  have h : ∀ w ∈ Bundle.ownAtoms own ic cls names, w.before args s' = true := vx_own hat' (vx_isRefq hU'.1) (vx_isRefq hN'.1) hU'.2.word hN'.2.word
  have hown' : s'.vm.findClass own = some m.cls := by rw [hvm]; exact hown
  have hins : (Cond.instantiable cls 6).before args s' = true := h _ (by simp [Bundle.ownAtoms])
  obtain ⟨vm₁, cX, kX, hfX, hkX, -, -, X₁, st1⟩ := Y.newCold hexec (own := own) (C := cls) (index := ik) (n := 6) hown' hk' hins hini'
    (g := F0 m pc ls rest) rfl (by rw [hb]; exact d0) (Nat.le_refl _) (Nat.le_refl _)
  generalize hT1 : (T.setVm vm₁).pushCell { cls := cX, slots := kX.instanceTypes.map defaultValue, vm := .none } = T1 at X₁ st1
  have hcat : (Value.ref T.heap.size).category = 1 := rfl
  have hcellA : T1.heap[T.heap.size]? = some (freshCell cX kX) := by rw [← hT1]; exact State.heap_pushCell_size _ _
  have d3' : decode c.code (pc + 3) = .ok (.dup, 1) := by rw [hb]; exact d3
  have d4' : decode c.code (pc + 4) = .ok (.ldc_w is, 3) := by rw [hb]; exact d4
  have hstr' : vk_R own is text sa s' := vk_R.warm hW0 hstr
  obtain ⟨U, hsteps, hrun, hend, hW, hsame, ce, hce, hO⟩ := X₁.ctorThrowS hexec htr (own := own) (cls := cls) (names := names) (ic := ic) hown' hcls hnames h (fun x hx => nomatch hx) hfX hkX hcellA (by rw [hhp, hT]; exact Nat.le_refl _) (msg := .ref sa) rfl
    (g := { method := m, pc := pc + 7, locals := ls, stack := .ref sa :: .ref T.heap.size :: .ref T.heap.size :: rest, locked := none }) rfl hsize rfl rfl (rest := rest) rfl
    (by rw [hb]; exact d7) (by rw [hb]; exact d10) hout hRframes (by simp only [List.map_cons, List.sum_cons, hcat]; omega) hlocks
  obtain ⟨f1, f2⟩ := vx_frame hsame
  rw [hhp] at f1 f2
  have hWs : s.WarmedH U.vm := State.WarmedH.trans hW0 hW
  have hcl : s.vm.findClass cls = some ce.cls := by
    have h9 := hO.cls
    rw [hvm] at h9
    exact h9
  have hall : s.sameButNew ({ U with vm := s.vm } : State) locs mc ms := by
    subst hA
    obtain ⟨e1, e2⟩ := hsame
    rw [State.setFrames_setFrames] at e1
    have h2 : (T.setVm s.vm).sameButNew ({ U with vm := s.vm } : State) [] (0 + 1) (0 + 6) := ⟨e1, e2⟩
    have h3 := X.same.trans h2
    rw [List.append_nil] at h3
    exact h3.mono hc hs
  refine ⟨U, ?_, .threw T.heap.size, hrun, hend, Or.inr ⟨T.heap.size, rfl, cls, ce, locs, hx U hWs.alike f1 (fun q hq => f2 q hq (fun z hz => nomatch hz)), hce, hO.vm, hcl, hWs, hall, hf⟩⟩
  refine st1 _ ?_
  show Steps p.tables e below (T1.setTop { method := m, pc := pc + 3, locals := ls, stack := .ref T.heap.size :: rest, locked := none }) _
  jvm_step X₁.here [X₁.here.top, hexec, d3', Value.category]
  exact X₁.ldcStringW hexec (own := own) (text := text) (index := is) (a := sa) hown' hstr'.1 hstr'.2
    (g := { method := m, pc := pc + 4, locals := ls, stack := .ref T.heap.size :: .ref T.heap.size :: rest, locked := none }) rfl d4' _ hsteps
end Ends
section Bodies
variable {l : Launch}
theorem vx_ofW {y : MethodName} {ws ws' : List Cond} {rm : Room} {Pc : Array Value → State → Prop} {Qc : Array Value → State → Outcome → State → Prop} {XC : String → State → State → Prop} {mc ms : Nat} {free : Addr → Prop} {cc : ByteArray} {maxL : Nat} {ret : Option FieldType}
    (hy : plainName y.cls = true) (hw : ws = Cond.code y cc maxL ret :: ws')
    (body : ∀ p e s m args below meth c s₁, BodyLoose p l y (headSpec ws rm) cc maxL ret e s m args below meth c s₁ → c.maxLocals = maxL → (∀ x ∈ c.exceptionTable.toList, False) → Pc args s →
      W p l e (headSpec ws rm).room s m args below meth c s.heap [] 0 0 (vx_MQ below Qc XC args s mc ms free) (entryFrame m args maxL)) : vx_Met l y ws rm Pc Qc XC mc ms free := by
  refine MetFree.of_bodyS (code := cc) (maxLocals := maxL) (ret := ret) hy ?_ ?_
  · intro args s m h hn
    obtain ⟨meth, c, h1, h2, h3, h4, h5, h6, -, -⟩ := Cond.code_spec hn (atoms_spec (ws := ws) h _ (by rw [hw]; exact List.mem_cons_self))
    exact ⟨meth, c, h1, h2, h3, h4, h5, h6⟩
  · intro p e s m args below meth c s₁ B hml hP _
    have hh0 : s₁.heap = s.heap := by rw [B.state]; rfl
    have ht : ∀ x ∈ c.exceptionTable.toList, False := by
      obtain ⟨meth9, c9, h1, h2, -, -, -, -, h7, -⟩ := Cond.code_spec B.named (atoms_spec (ws := ws) B.pre _ (by rw [hw]; exact List.mem_cons_self))
      cases Option.some.inj (h1.symm.trans B.method)
      cases Option.some.inj (h2.symm.trans (Stand.of_body B).code)
      intro x hx
      rw [Array.isEmpty_iff.mp h7] at hx
      cases hx
    obtain ⟨t, a1, o, b1, b2, b3⟩ := body p e s m args below meth c s₁ B hml ht hP s₁ hh0 (Stand.of_body B)
    exact ⟨t, o, a1, b1, b2, b3⟩
/-- the table of a body with handlers -/
theorem vx_table {p : Program} {x y : MethodName} {S : Spec} {cc bytes : ByteArray} {maxL maxL' : Nat} {ret ret' : Option FieldType} {e : Env} {s s₁ : State} {m : MethodId} {args : Array Value} {below : List Frame} {meth : Method} {c : Code} {hh : List (Nat × Nat × Nat × Nat)}
    (B : BodyLoose p l y S cc maxL ret e s m args below meth c s₁) (h : (Cond.codeWith y bytes maxL' ret' hh).before args s = true) : c.exceptionTable.toList = tableOf hh := by
  obtain ⟨m9, meth9, c9, hn9, h1, h2, -, -, h6, -⟩ := Cond.codeWith_spec h
  cases Option.some.inj (hn9.symm.trans B.named)
  cases Option.some.inj (h1.symm.trans B.method)
  cases Option.some.inj (h2.symm.trans (Stand.of_body B).code)
  rw [← h6, table_eq]
end Bodies
end VXA
/-! ===== END ===== -/
/-! ===== BEGIN a static call of a method with an exception table ===== -/
section VXS
variable {p : Program} {l : Launch} {e : Env} {R : Room} {s : State} {m : MethodId} {args : Array Value} {below : List Frame} {meth : Method} {c : Code} {T : State} {H : Heap} {locs : List Loc} {cells slots : Nat}
abbrev vx_CSW (R : Room) (s : State) (args : Array Value) (own : String) (index : Nat) (y : MethodName) (bytes : ByteArray) (maxL : Nat) (ret : Option FieldType) (hh : List (Nat × Nat × Nat × Nat)) (ws : List Cond) (rm : Room) (mc ms n : Nat) : Prop :=
  (rm.cells = mc ∧ rm.slots = ms ∧ rm.frames + 1 ≤ R.frames ∧ 8 + (maxL + 11) + rm.locals ≤ R.locals ∧ (∀ w ∈ ws, ∀ (a' : Array Value) (U : State), s.WarmedH U.vm → w.before a' U = true) ∧ Cond.codeWith y bytes maxL ret hh ∈ ws) ∧
  (Cond.codeWith y bytes maxL ret hh).before args s = true ∧ (Cond.initialized y.cls).before args s = true ∧ (y.cls ≠ "java/lang/invoke/MethodHandle" ∧ y.cls ≠ "java/lang/invoke/VarHandle") ∧
  (∀ sig, parseMethodDescriptor y.desc = some sig → n = sig.parameters.length) ∧ (Cond.methodLink own index y).before args s = true ∧ (Cond.static y).before args s = true
theorem vx_cwSW {own : String} {index maxL mc ms : Nat} {y : MethodName} {bytes : ByteArray} {ret : Option FieldType} {hh : List (Nat × Nat × Nat × Nat)} {Ts ws ws' : List Cond} {rm : Room} (n : Nat) (ht : ∀ w ∈ Ts, w.before args s = true) (hT : GoodIn Ts (va_wsS own index y ws)) (hw : ws = Cond.codeWith y bytes maxL ret hh :: ws') (hrc : rm.cells = mc) (hrs : rm.slots = ms)
    (hd : y.cls ≠ "java/lang/invoke/MethodHandle" ∧ y.cls ≠ "java/lang/invoke/VarHandle" ∧ (parseMethodDescriptor y.desc).map (fun d => d.parameters.length) = some n) (hR : rm.frames + 1 ≤ R.frames ∧ 8 + (maxL + 11) + rm.locals ≤ R.locals) :
    vx_CSW R s args own index y bytes maxL ret hh ws rm mc ms n := by
  have ok : ∀ w ∈ va_wsS own index y ws, w.before args s = true := fun w h => ht w (hT w h).1
  have hG : GoodIn Ts ws := fun w h => hT w (by unfold va_wsS; exact List.mem_append_right _ h)
  have hc : Cond.codeWith y bytes maxL ret hh ∈ ws := by rw [hw]; exact List.mem_cons_self
  refine ⟨⟨hrc, hrs, hR.1, hR.2, pay_in ht hG, hc⟩, ht _ (hG _ hc).1, ok _ (by simp [va_wsS]), ⟨hd.1, hd.2.1⟩, fun sig h => ?_, ok _ (by simp [va_wsS]), ok _ (by simp [va_wsS])⟩
  have h2 := hd.2.2
  rw [h] at h2
  exact (Option.some.inj h2).symm
theorem vx_callSW (X : Stand p l e R s m args below meth c T locs cells slots) (hexec : p.tables.exec = Jvm.exec) {own : String} {index : Nat} {y : MethodName} {bytes : ByteArray} {maxL : Nat} {ret : Option FieldType} {hh : List (Nat × Nat × Nat × Nat)}
    (hown : s.vm.findClass own = some m.cls) (hlink : (Cond.methodLink own index y).before args s = true) (hstat : (Cond.static y).before args s = true) (hinit : (Cond.initialized y.cls).before args s = true)
    (hcode : (Cond.codeWith y bytes maxL ret hh).before args s = true) (hy : y.cls ≠ "java/lang/invoke/MethodHandle" ∧ y.cls ≠ "java/lang/invoke/VarHandle")
    {W9 : Nat} {Pre : Pt → Array Value → Prop} {Post : Pt → Array Value → Option Value → Pt → Prop} (hK : Back l R p e below s args y 3 W9 Pre Post)
    {g : JFrame} (hg : g.method = m) (hsize : g.locals.size = c.maxLocals) {argsL rest : List Value} (hlen : ∀ sig, parseMethodDescriptor y.desc = some sig → argsL.length = sig.parameters.length)
    (hstack : g.stack = argsL.reverse ++ rest) (hW : 2 * g.monitorRoom + (rest.map fun v => v.category).sum ≤ W9) (hdg : decode c.code g.pc = .ok (.invokestatic index, 3))
    (hpre : ∀ vm₁, s.WarmedH vm₁ → Pre ⟨T.setVm vm₁, locs, cells, slots⟩ argsL.toArray) :
    ∃ (v : Option Value) (vm₁ : Vm) (B : Pt), s.WarmedH vm₁ ∧ Stand p l e R s m args below meth c B.U B.locs B.cells B.slots ∧ Post ⟨T.setVm vm₁, locs, cells, slots⟩ argsL.toArray v B ∧
      ∀ target, Steps p.tables e below (B.U.setTop { g with pc := g.pc + 3, stack := v.toList ++ rest }) target → Steps p.tables e below (T.setTop g) target := by
  obtain ⟨mk, methM, cM, hnamed, hmethM, -, -, -, -, -, -, hsigM⟩ := Cond.codeWith_spec hcode
  have hstatic : methM.isStatic = true := Cond.static_spec hnamed hmethM hstat
  obtain ⟨kP, hkP, -⟩ := className_of_methodNamed hnamed
  have hinitP : kP.init = .initialized := Cond.initialized_spec (findClass_of_methodNamed hnamed) hkP hinit
  obtain ⟨vm₁, X₁, hstep₁⟩ := X.invokestatic hexec hown hlink hnamed hmethM hstatic hkP hinitP hy (g := g) hg (argsL := argsL) (rest := rest) (hlen _ hsigM) hstack hdg
  obtain ⟨v, B, X', hpost, hsteps⟩ := hK m meth c ⟨T.setVm vm₁, locs, cells, slots⟩ { g with stack := rest } (.invokestatic index) mk argsL.toArray X₁ hg hsize hdg hW (X₁.named hnamed) (hpre vm₁ X₁.warmed)
  exact ⟨v, vm₁, B, X₁.warmed, X', hpost, fun target h => hstep₁ _ fun acts => by rw [doInvoke_state]; exact hsteps.trans h⟩
theorem vx_runSW {y : MethodName} {bytes cc : ByteArray} {maxL nL mc ms n index : Nat} {ret : Option FieldType} {hh : List (Nat × Nat × Nat × Nat)} {ws : List Cond} {rm : Room} {Pc : Array Value → State → Prop} {Qc : Array Value → State → Outcome → State → Prop} {free : Addr → Prop} {Ts : List Cond} {own : String} {As rest : List Value} {g : JFrame}
    (S : CallFix p m c cc nL s args Ts own) (hM : Met l y ws rm Pc Qc mc ms free) (cw : vx_CSW R s args own index y bytes maxL ret hh ws rm mc ms n) (hp : PreS s H Pc As)
    (hg : g.method = m) (hn : As.length = n) (hsize : g.locals.size = nL) (hstack : g.stack = As.reverse ++ rest) (hW : 2 * g.monitorRoom + (rest.map fun v => v.category).sum ≤ 8) (hdg : decode cc g.pc = .ok (.invokestatic index, 3)) (hf : cells + mc ≤ R.cells ∧ slots + ms ≤ R.slots) :
    va_Run p l e R s m args below meth c H locs cells slots mc ms g rest (Qc As.toArray) (free) := by
  obtain ⟨⟨hrc, hrs, hfr, hlo, hws, hcw⟩, hcode, hini, hy, hlen, hl, hstt⟩ := cw
  have hK : Back l R p e below s args y 3 8 (PreOf R mc ms Pc) (PostOf Qc mc ms free) := va_backW (hh := hh) (bytes := bytes) (maxL := maxL) (ret := ret) hM hp.1 hrc hrs hfr hlo hws hcw (fun a' U hW => word_at hW (Or.inl (by first | rfl | simp [Cond.onTables, Cond.keeps, Cond.steady])) hini)
  obtain ⟨hx, hb, hml, ho, -⟩ := S
  intro T hT X
  obtain ⟨v, vm₁, ⟨U', l2, c2, s2⟩, hW₁, X', ⟨g', mk, t, L, e1, e2, hq, h1, hL, h2, h3⟩, st⟩ := vx_callSW X hx (hh := hh) (bytes := bytes) (maxL := maxL) (ret := ret) ho hl hstt hini hcode hy hK hg (hsize.trans hml.symm) (argsL := As) (rest := rest) (fun sig h => hn.trans (hlen sig h)) hstack hW (by rw [hb]; exact hdg)
    (fun vm₁ hW₁ => ⟨hf.1, hf.2, hp.2 (T.setVm vm₁) hT hW₁⟩)
  dsimp only [Pt.U, Pt.locs, Pt.cells, Pt.slots] at X' e1 e2 h1 h2 h3 st
  subst h1; subst h2; subst h3
  exact ⟨v, (T.setVm vm₁).calling g' mk As.toArray, t, U', L, hT, X', hL, e1, e2, hq, st⟩
/-- not caught here, past rows that name other classes: it goes on to the caller -/
theorem vx_outP {p : Program} {l : Launch} {e : Env} {R : Room} {s : State} {m : MethodId} {args : Array Value} {below : List Frame} {meth : Method} {c : Code} {H : Heap} {locs : List Loc} {cells slots : Nat} {free : Addr → Prop} {ls : Array Slot} {rest : List Value} {Qc : Array Value → State → Outcome → State → Prop} {XC : String → State → State → Prop}
    {pc : Nat} {own E : String} {ce : Cell} {q : Addr} {mc ms : Nat} (hown : s.vm.findClass own = some m.cls) (hlocks : meth.locks = false)
    (hpass : ∀ z ∈ c.exceptionTable.toList, covers z pc = false ∨ (z.catchType ≠ 0 ∧ ∃ nm : String, (Cond.classLink own z.catchType nm).before args s = true ∧ va_Nc E nm s)) (hcell : H[q]? = some ce) (hv : ce.vm = .none) (hcl : s.vm.findClass E = some ce.cls)
    (hx : ∀ t : State, t.heap = H → s.vm.Alike t.vm → XC E s t) (hf : ∀ z ∈ locs, free z.base) (hc : cells ≤ mc) (hs : slots ≤ ms) :
    vx_W p l e R s m args below meth c H locs cells slots (vx_MQ below Qc XC args s mc ms free) (F0 m pc ls rest) q := by
  intro T hT X
  have hpl : e.platform.magicAccessors = ({} : Platform).magicAccessors := by rw [X.admits.platform]
  obtain ⟨vm', hW', X', st⟩ := X.outThrough hlocks q (g := F0 m pc ls rest) rfl rfl rfl (cell := ce) (by rw [hT]; exact hcell) (by rw [hv]; rfl)
    (by obtain ⟨k9, h9, -⟩ := Vm.findClass_spec hcl; exact ⟨k9, h9⟩) (fun z hz => by
      rcases hpass z hz with h | ⟨hz0, nm, hl1, hn1⟩
      · exact Or.inl h
      · obtain ⟨c6, hc6, hcl6⟩ := Cond.classLink_spec hown hl1 e.platform hpl
        obtain ⟨a8, b8, h1, h2, h3⟩ := hn1
        cases Option.some.inj (h1.symm.trans hcl)
        cases Option.some.inj (h2.symm.trans hc6)
        exact Or.inr ⟨hz0, _, hcl6, h3⟩)
  obtain ⟨g₀, hfr⟩ := X'.frames_eq
  have hcell9 : ((T.setVm vm').setFrames (.throwing q :: below)).heap[q]? = some ce := by
    show T.heap[q]? = some ce
    rw [hT]; exact hcell
  have hend : Ended ((T.setVm vm').setFrames (.throwing q :: below)) below (.threw q) := State.frames_setFrames _ (State.cur_lt_of_frames hfr)
  refine ⟨(T.setVm vm').setFrames (.throwing q :: below), ?_, .threw q, X'.here.running, hend, Or.inr ⟨q, rfl, E, ce, locs, hx _ hT (X'.ends _).1.alike, hcell9, hv, hcl, (X'.ends _).1, (X'.ends _).2.mono hc hs, hf⟩⟩
  rw [X.pushThrowing_eq]
  exact st
/-- a thing of a world lies in the heap -/
theorem vx_lt {D : va_G} {cl : List vw_C} {ws : va_W} {H1 : Heap} (h : va_P D cl ws H1) {k : Nat} {q : Nat × va_E} (hk : ws[k]? = some q) : q.1 < H1.size := (h k q hk).lt
end VXS
/-! ===== END ===== -/
/-! ===== BEGIN methods with a table of their own: called by a name, returning or throwing ===== -/
section VXH
/-! vx_backW, vx_callVX, vx_callSX, vx_callVW, vx_runVW, vx_runVX, vx_runSX, vx_ofWH follow the same proofs as their sisters above (Free/Laws.lean, Shelf42/LK1.lean); vx_outP calls Shelf42/NT130.lean (outThrough). -/
section
variable {l : Launch} {R : Room} {p : Program} {e : Env} {below : List Frame} {s : State} {sargs : Array Value} {y : MethodName} {len W9 : Nat}
theorem vx_backW {ws : List Cond} {rm : Room} {Pc : Array Value → State → Prop} {Qc : Array Value → State → Outcome → State → Prop} {XC : String → State → State → Prop} {mc ms : Nat} {free : Addr → Prop} {bytes : ByteArray} {maxL : Nat} {ret : Option FieldType} {hh : List (Nat × Nat × Nat × Nat)}
    (hM : vx_Met l y ws rm Pc Qc XC mc ms free) (hblind : FrameBlind Pc) (hrc : rm.cells = mc) (hrs : rm.slots = ms)
    (hframes : rm.frames + 1 ≤ R.frames) (hlocals : W9 + (maxL + 11) + rm.locals ≤ R.locals)
    (hws : ∀ w ∈ ws, ∀ a' U, s.WarmedH U.vm → w.before a' U = true) (hcode : Cond.codeWith y bytes maxL ret hh ∈ ws) (hinit : ∀ a' U, s.WarmedH U.vm → (Cond.initialized y.cls).before a' U = true) :
    vx_Back l R p e below s sargs y len W9 (PreOf R mc ms Pc) (PostOf Qc mc ms free) (vx_Post XC mc ms free) := by
  intro m meth c A g ig mk a X hg hsize hdg hW hn hp
  have h1 : (headSpec ws rm).pre.before a A.U = true := atoms_intro fun w hw => hws w hw _ _ X.warmed
  have h2 : (Cond.codeWith y bytes maxL ret hh).before a A.U = true := hws _ hcode _ _ X.warmed
  have h3 : (Cond.initialized y.cls).before a A.U = true := hinit _ _ X.warmed
  have h4 : A.cells + (headSpec ws rm).room.cells ≤ R.cells := by rw [show (headSpec ws rm).room.cells = mc from hrc]; exact hp.1
  have h5 : A.slots + (headSpec ws rm).room.slots ≤ R.slots := by rw [show (headSpec ws rm).room.slots = ms from hrs]; exact hp.2.1
  have hPc : Pc a (A.U.calling g mk a) := hblind _ _ _ _ hp.2.2
  obtain ⟨U, Ls, c0, s0⟩ := A
  dsimp only [Pt.U, Pt.locs, Pt.cells, Pt.slots] at h1 h2 h3 h4 h5 X hn hPc ⊢
  obtain ⟨m9, methY, cY, hn9, hmY, hcY, -, hlY, -⟩ := Cond.codeWith_spec h2
  cases Option.some.inj (hn9.symm.trans hn)
  obtain ⟨kY, hkY, -⟩ := className_of_methodNamed hn
  have hinitY : kY.init = .initialized := Cond.initialized_spec (findClass_of_methodNamed hn) hkY h3
  have h : At U g.method c below := by rw [hg]; exact X.here
  have hlocals9 : W9 + (maxL + 11) + (headSpec ws rm).room.locals ≤ R.locals := hlocals
  have happ : (headSpec ws rm).appliesLoose y e.platform (U.calling g mk a) = true :=
    Spec.appliesLoose_calling (g := g) h hdg hn hkY hinitY
      (X.room_calling (g := g) (R' := (headSpec ws rm).room) hsize hmY hcY hframes (by rw [hlY]; omega) h4 h5) h1
  obtain ⟨mid, hmid⟩ := h.above
  have hfr : (U.setTop g).frames = (.java g :: mid) ++ below := by rw [State.frames_setTop' g h.top, hmid]; rfl
  obtain ⟨o, s₂, hsteps, -, hend, hq⟩ := Steps.callFree hM p X.admits X.cas X.clock (acts := []) hfr happ hPc trivial
  have hq' : vx_Q Qc XC mc ms free a (U.calling g mk a) o s₂ := hq
  rw [State.frames_setTop' g h.top] at hend
  obtain ⟨g₀, hg0⟩ := Option.isSome_iff_exists.mp h.top
  obtain ⟨r, hr⟩ := State.topJava?_eq_some.mp hg0
  have hr' : (({ U with heap := s₂.heap, slotsUsed := s₂.slotsUsed } : State).setVm s₂.vm).frames = .java g₀ :: r := hr
  rcases hq' with ⟨hqc, L, hfe, hL⟩ | ⟨q, rfl, E, ce, L, hx, hce, hcv, hcl, hW₂, hsm, hL⟩
  · obtain ⟨⟨v, rfl⟩, hW₂, e2, q2, q3, q4, q5, q6⟩ := id hfe
    have e3 : s₂ = ({ (U.calling g mk a).setFrames s₂.frames with heap := s₂.heap, slotsUsed := s₂.slotsUsed } : State).setVm s₂.vm := by
      have : s₂ = ({ s₂ with vm := (U.calling g mk a).vm } : State).setVm s₂.vm := rfl
      rw [e2] at this
      exact this
    obtain ⟨c₂, i₂, len₂, hc₂, hd₂, hf₂⟩ := hend
    have hW' : U.WarmedH s₂.vm := hW₂
    have hcc : c₂ = c := by
      have h1 : s₂.code? g.method = U.code? g.method := by
        rw [State.code?_eq, State.code?_eq, hW'.alike.method?]
      exact Option.some.inj (hc₂.symm.trans (h1.trans h.code))
    subst hcc
    have hlen : len₂ = len := by rw [hdg] at hd₂; cases hd₂; rfl
    subst hlen
    have hs₂ : s₂ = (({ U with heap := s₂.heap, slotsUsed := s₂.slotsUsed } : State).setVm s₂.vm).setTop { g with pc := g.pc + len₂, stack := v.toList ++ g.stack } := by
      refine e3.trans ?_
      rw [hf₂, State.calling_eq h.top, State.setFrames_setFrames, State.setTop_of_frames _ hr', hr]
      rfl
    have hsame : U.sameButNew ({ U with heap := s₂.heap, slotsUsed := s₂.slotsUsed } : State) L mc ms := by
      refine ⟨?_, q2, q3, q4, q5, q6⟩
      obtain ⟨t, ht, -⟩ := State.frames_cons hr
      show ({ U with heap := s₂.heap, slotsUsed := s₂.slotsUsed } : State) = { U.setFrames U.frames with heap := s₂.heap, slotsUsed := s₂.slotsUsed }
      rw [State.setFrames_self ht]
    subst hg
    refine Or.inl ⟨v, ⟨(({ U with heap := s₂.heap, slotsUsed := s₂.slotsUsed } : State).setVm s₂.vm), Ls ++ L, c0 + mc, s0 + ms⟩,
      ⟨X.admits, X.cas, X.clock, X.frames, X.room, X.hears, X.method, X.code, (X.here.setHeapUsed s₂.heap s₂.slotsUsed).setVm hW'.alike, X.tail, State.WarmedH.trans X.warmed hW', X.limits, X.bytes, X.same.trans (hsame.setVm s.vm)⟩,
      ⟨g, mk, s₂, L, rfl, rfl, hqc, rfl, hL, rfl, rfl⟩, ?_⟩
    show Steps p.tables e below _ ((({ U with heap := s₂.heap, slotsUsed := s₂.slotsUsed } : State).setVm s₂.vm).setTop { g with pc := g.pc + len₂, stack := v.toList ++ g.stack })
    rw [← hs₂]
    exact hsteps
  · obtain ⟨e2, q2, q3, q4, q5, q6⟩ := id hsm
    have e3 : s₂ = ({ (U.calling g mk a).setFrames s₂.frames with heap := s₂.heap, slotsUsed := s₂.slotsUsed } : State).setVm s₂.vm := by
      have : s₂ = ({ s₂ with vm := (U.calling g mk a).vm } : State).setVm s₂.vm := rfl
      rw [e2] at this
      exact this
    have hf₂ : s₂.frames = .throwing q :: .java g :: U.frames.tail := hend
    have hW' : U.WarmedH s₂.vm := hW₂
    have hs₂ : s₂ = ((({ U with heap := s₂.heap, slotsUsed := s₂.slotsUsed } : State).setVm s₂.vm).setTop g).pushFrame (.throwing q) := by
      refine e3.trans ?_
      rw [hf₂, State.calling_eq h.top, State.setFrames_setFrames, State.pushFrame, State.frames_setTop _ hr', State.setTop_of_frames _ hr', State.setFrames_setFrames, hr]
      rfl
    have hsame : U.sameButNew ({ U with heap := s₂.heap, slotsUsed := s₂.slotsUsed } : State) L mc ms := by
      refine ⟨?_, q2, q3, q4, q5, q6⟩
      obtain ⟨t, ht, -⟩ := State.frames_cons hr
      show ({ U with heap := s₂.heap, slotsUsed := s₂.slotsUsed } : State) = { U.setFrames U.frames with heap := s₂.heap, slotsUsed := s₂.slotsUsed }
      rw [State.setFrames_self ht]
    subst hg
    refine Or.inr ⟨q, ⟨(({ U with heap := s₂.heap, slotsUsed := s₂.slotsUsed } : State).setVm s₂.vm), Ls ++ L, c0 + mc, s0 + ms⟩,
      ⟨X.admits, X.cas, X.clock, X.frames, X.room, X.hears, X.method, X.code, (X.here.setHeapUsed s₂.heap s₂.slotsUsed).setVm hW'.alike, X.tail, State.WarmedH.trans X.warmed hW', X.limits, X.bytes, X.same.trans (hsame.setVm s.vm)⟩,
      ⟨g, mk, s₂, L, E, ce, rfl, rfl, hx, hce, hcv, hcl, rfl, hL, rfl, rfl⟩, ?_⟩
    show Steps p.tables e below _ (((({ U with heap := s₂.heap, slotsUsed := s₂.slotsUsed } : State).setVm s₂.vm).setTop g).pushFrame (.throwing q))
    rw [← hs₂]
    exact hsteps
end
variable {p : Program} {l : Launch} {e : Env} {R : Room} {s : State} {m : MethodId} {args : Array Value} {below : List Frame} {meth : Method} {c : Code} {T : State} {H : Heap} {locs : List Loc} {cells slots : Nat}
theorem vx_callVX (X : Stand p l e R s m args below meth c T locs cells slots) (hexec : p.tables.exec = Jvm.exec) {own C : String} {index : Nat} {y : MethodName} {bytes : ByteArray} {maxL : Nat} {ret : Option FieldType} {hh : List (Nat × Nat × Nat × Nat)}
    (hown : s.vm.findClass own = some m.cls) (hlink : (Cond.methodLink own index y).before args s = true) (hinst : (Cond.instanceMethod y).before args s = true) (hsel : (Cond.selects C y y).before args s = true)
    (hcode : (Cond.codeWith y bytes maxL ret hh).before args s = true) (hy : y.cls ≠ "java/lang/invoke/MethodHandle" ∧ y.cls ≠ "java/lang/invoke/VarHandle")
    {W9 : Nat} {Pre : Pt → Array Value → Prop} {Post : Pt → Array Value → Option Value → Pt → Prop} {PostX : Pt → Array Value → Addr → Pt → Prop} (hK : vx_Back l R p e below s args y 3 W9 Pre Post PostX)
    {b : Addr} {cellB : Cell} (hcell : T.heap[b]? = some cellB) (hobj : cellB.vm.isStatics = false) (hcls : s.vm.findClass C = some cellB.cls)
    {g : JFrame} (hg : g.method = m) (hsize : g.locals.size = c.maxLocals) {argsL rest : List Value} (hlen : ∀ sig, parseMethodDescriptor y.desc = some sig → argsL.length = sig.parameters.length)
    (hstack : g.stack = argsL.reverse ++ .ref b :: rest) (hW : 2 * g.monitorRoom + (rest.map fun v => v.category).sum ≤ W9) (hdg : decode c.code g.pc = .ok (.invokevirtual index, 3))
    (hpre : ∀ vm₁, s.WarmedH vm₁ → Pre ⟨T.setVm vm₁, locs, cells, slots⟩ (Value.ref b :: argsL).toArray) :
    (∃ (v : Option Value) (vm₁ : Vm) (B : Pt), s.WarmedH vm₁ ∧ Stand p l e R s m args below meth c B.U B.locs B.cells B.slots ∧ Post ⟨T.setVm vm₁, locs, cells, slots⟩ (Value.ref b :: argsL).toArray v B ∧
      ∀ target, Steps p.tables e below (B.U.setTop { g with pc := g.pc + 3, stack := v.toList ++ rest }) target → Steps p.tables e below (T.setTop g) target) ∨
    (∃ (q : Addr) (vm₁ : Vm) (B : Pt), s.WarmedH vm₁ ∧ Stand p l e R s m args below meth c B.U B.locs B.cells B.slots ∧ PostX ⟨T.setVm vm₁, locs, cells, slots⟩ (Value.ref b :: argsL).toArray q B ∧
      Steps p.tables e below (T.setTop g) ((B.U.setTop { g with stack := rest }).pushFrame (.throwing q))) := by
  obtain ⟨mk, methM, hnamed, hmethM, hstM, habM⟩ := Cond.instanceMethod_spec hinst
  obtain ⟨m8, methM', cM, hn8, hmethM', -, -, -, -, -, -, hsigM⟩ := Cond.codeWith_spec hcode
  cases Option.some.inj (hn8.symm.trans hnamed)
  cases hmethM.symm.trans hmethM'
  obtain ⟨c2, r2, m2, q1, q2, q3, q4, kP, hkP, hkPi⟩ := Cond.selects_spec hsel
  cases hcls.symm.trans q1
  cases (State.methodFound?_of_named hnamed hy).symm.trans q2
  cases hnamed.symm.trans q3
  have hselP : selectMethod e.platform s.vm cellB.cls mk = .method mk := by rw [Launch.admits_selectMethod X.admits]; exact q4
  obtain ⟨vm₁, X₁, hstep₁⟩ := X.invokevirtual hexec hown hlink hnamed hmethM hstM hkP hkPi hy (a := b) (cell := cellB) hcell
    (fun z h => by rw [h] at hobj; cases hobj) hselP hmethM habM hkP hkPi (g := g) hg (argsL := argsL) (rest := rest) (hlen _ hsigM) hstack hdg
  rcases hK m meth c ⟨T.setVm vm₁, locs, cells, slots⟩ { g with stack := rest } (.invokevirtual index) mk (Value.ref b :: argsL).toArray X₁ hg hsize hdg hW (X₁.named hnamed) (hpre vm₁ X₁.warmed) with ⟨v, B, X', hpost, hsteps⟩ | ⟨q, B, X', hpost, hsteps⟩
  · exact Or.inl ⟨v, vm₁, B, X₁.warmed, X', hpost, fun target h => hstep₁ _ fun acts => by rw [doInvoke_state]; exact hsteps.trans h⟩
  · exact Or.inr ⟨q, vm₁, B, X₁.warmed, X', hpost, hstep₁ _ fun acts => by rw [doInvoke_state]; exact hsteps⟩
theorem vx_callSX (X : Stand p l e R s m args below meth c T locs cells slots) (hexec : p.tables.exec = Jvm.exec) {own : String} {index : Nat} {y : MethodName} {bytes : ByteArray} {maxL : Nat} {ret : Option FieldType} {hh : List (Nat × Nat × Nat × Nat)}
    (hown : s.vm.findClass own = some m.cls) (hlink : (Cond.methodLink own index y).before args s = true) (hstat : (Cond.static y).before args s = true) (hinit : (Cond.initialized y.cls).before args s = true)
    (hcode : (Cond.codeWith y bytes maxL ret hh).before args s = true) (hy : y.cls ≠ "java/lang/invoke/MethodHandle" ∧ y.cls ≠ "java/lang/invoke/VarHandle")
    {W9 : Nat} {Pre : Pt → Array Value → Prop} {Post : Pt → Array Value → Option Value → Pt → Prop} {PostX : Pt → Array Value → Addr → Pt → Prop} (hK : vx_Back l R p e below s args y 3 W9 Pre Post PostX)
    {g : JFrame} (hg : g.method = m) (hsize : g.locals.size = c.maxLocals) {argsL rest : List Value} (hlen : ∀ sig, parseMethodDescriptor y.desc = some sig → argsL.length = sig.parameters.length)
    (hstack : g.stack = argsL.reverse ++ rest) (hW : 2 * g.monitorRoom + (rest.map fun v => v.category).sum ≤ W9) (hdg : decode c.code g.pc = .ok (.invokestatic index, 3))
    (hpre : ∀ vm₁, s.WarmedH vm₁ → Pre ⟨T.setVm vm₁, locs, cells, slots⟩ argsL.toArray) :
    (∃ (v : Option Value) (vm₁ : Vm) (B : Pt), s.WarmedH vm₁ ∧ Stand p l e R s m args below meth c B.U B.locs B.cells B.slots ∧ Post ⟨T.setVm vm₁, locs, cells, slots⟩ argsL.toArray v B ∧
      ∀ target, Steps p.tables e below (B.U.setTop { g with pc := g.pc + 3, stack := v.toList ++ rest }) target → Steps p.tables e below (T.setTop g) target) ∨
    (∃ (q : Addr) (vm₁ : Vm) (B : Pt), s.WarmedH vm₁ ∧ Stand p l e R s m args below meth c B.U B.locs B.cells B.slots ∧ PostX ⟨T.setVm vm₁, locs, cells, slots⟩ argsL.toArray q B ∧
      Steps p.tables e below (T.setTop g) ((B.U.setTop { g with stack := rest }).pushFrame (.throwing q))) := by
  obtain ⟨mk, methM, cM, hnamed, hmethM, -, -, -, -, -, -, hsigM⟩ := Cond.codeWith_spec hcode
  have hstatic : methM.isStatic = true := Cond.static_spec hnamed hmethM hstat
  obtain ⟨kP, hkP, -⟩ := className_of_methodNamed hnamed
  have hinitP : kP.init = .initialized := Cond.initialized_spec (findClass_of_methodNamed hnamed) hkP hinit
  obtain ⟨vm₁, X₁, hstep₁⟩ := X.invokestatic hexec hown hlink hnamed hmethM hstatic hkP hinitP hy (g := g) hg (argsL := argsL) (rest := rest) (hlen _ hsigM) hstack hdg
  rcases hK m meth c ⟨T.setVm vm₁, locs, cells, slots⟩ { g with stack := rest } (.invokestatic index) mk argsL.toArray X₁ hg hsize hdg hW (X₁.named hnamed) (hpre vm₁ X₁.warmed) with ⟨v, B, X', hpost, hsteps⟩ | ⟨q, B, X', hpost, hsteps⟩
  · exact Or.inl ⟨v, vm₁, B, X₁.warmed, X', hpost, fun target h => hstep₁ _ fun acts => by rw [doInvoke_state]; exact hsteps.trans h⟩
  · exact Or.inr ⟨q, vm₁, B, X₁.warmed, X', hpost, hstep₁ _ fun acts => by rw [doInvoke_state]; exact hsteps⟩
theorem vx_callVW (X : Stand p l e R s m args below meth c T locs cells slots) (hexec : p.tables.exec = Jvm.exec) {own C : String} {index : Nat} {y : MethodName} {bytes : ByteArray} {maxL : Nat} {ret : Option FieldType} {hh : List (Nat × Nat × Nat × Nat)}
    (hown : s.vm.findClass own = some m.cls) (hlink : (Cond.methodLink own index y).before args s = true) (hinst : (Cond.instanceMethod y).before args s = true) (hsel : (Cond.selects C y y).before args s = true)
    (hcode : (Cond.codeWith y bytes maxL ret hh).before args s = true) (hy : y.cls ≠ "java/lang/invoke/MethodHandle" ∧ y.cls ≠ "java/lang/invoke/VarHandle")
    {W9 : Nat} {Pre : Pt → Array Value → Prop} {Post : Pt → Array Value → Option Value → Pt → Prop} (hK : Back l R p e below s args y 3 W9 Pre Post)
    {b : Addr} {cellB : Cell} (hcell : T.heap[b]? = some cellB) (hobj : cellB.vm.isStatics = false) (hcls : s.vm.findClass C = some cellB.cls)
    {g : JFrame} (hg : g.method = m) (hsize : g.locals.size = c.maxLocals) {argsL rest : List Value} (hlen : ∀ sig, parseMethodDescriptor y.desc = some sig → argsL.length = sig.parameters.length)
    (hstack : g.stack = argsL.reverse ++ .ref b :: rest) (hW : 2 * g.monitorRoom + (rest.map fun v => v.category).sum ≤ W9) (hdg : decode c.code g.pc = .ok (.invokevirtual index, 3))
    (hpre : ∀ vm₁, s.WarmedH vm₁ → Pre ⟨T.setVm vm₁, locs, cells, slots⟩ (Value.ref b :: argsL).toArray) :
    ∃ (v : Option Value) (vm₁ : Vm) (B : Pt), s.WarmedH vm₁ ∧ Stand p l e R s m args below meth c B.U B.locs B.cells B.slots ∧ Post ⟨T.setVm vm₁, locs, cells, slots⟩ (Value.ref b :: argsL).toArray v B ∧
      ∀ target, Steps p.tables e below (B.U.setTop { g with pc := g.pc + 3, stack := v.toList ++ rest }) target → Steps p.tables e below (T.setTop g) target := by
  obtain ⟨mk, methM, hnamed, hmethM, hstM, habM⟩ := Cond.instanceMethod_spec hinst
  obtain ⟨m8, methM', cM, hn8, hmethM', -, -, -, -, -, -, hsigM⟩ := Cond.codeWith_spec hcode
  cases Option.some.inj (hn8.symm.trans hnamed)
  cases hmethM.symm.trans hmethM'
  obtain ⟨c2, r2, m2, q1, q2, q3, q4, kP, hkP, hkPi⟩ := Cond.selects_spec hsel
  cases hcls.symm.trans q1
  cases (State.methodFound?_of_named hnamed hy).symm.trans q2
  cases hnamed.symm.trans q3
  have hselP : selectMethod e.platform s.vm cellB.cls mk = .method mk := by rw [Launch.admits_selectMethod X.admits]; exact q4
  obtain ⟨vm₁, X₁, hstep₁⟩ := X.invokevirtual hexec hown hlink hnamed hmethM hstM hkP hkPi hy (a := b) (cell := cellB) hcell
    (fun z h => by rw [h] at hobj; cases hobj) hselP hmethM habM hkP hkPi (g := g) hg (argsL := argsL) (rest := rest) (hlen _ hsigM) hstack hdg
  obtain ⟨v, B, X', hpost, hsteps⟩ := hK m meth c ⟨T.setVm vm₁, locs, cells, slots⟩ { g with stack := rest } (.invokevirtual index) mk (Value.ref b :: argsL).toArray X₁ hg hsize hdg hW (X₁.named hnamed) (hpre vm₁ X₁.warmed)
  exact ⟨v, vm₁, B, X₁.warmed, X', hpost, fun target h => hstep₁ _ fun acts => by rw [doInvoke_state]; exact hsteps.trans h⟩
abbrev vx_CVW (R : Room) (s : State) (args : Array Value) (own C : String) (index : Nat) (y : MethodName) (bytes : ByteArray) (maxL : Nat) (ret : Option FieldType) (hh : List (Nat × Nat × Nat × Nat)) (ws : List Cond) (rm : Room) (mc ms n : Nat) : Prop :=
  (rm.cells = mc ∧ rm.slots = ms ∧ rm.frames + 1 ≤ R.frames ∧ 8 + (maxL + 11) + rm.locals ≤ R.locals ∧ (∀ w ∈ ws, ∀ (a' : Array Value) (U : State), s.WarmedH U.vm → w.before a' U = true) ∧ Cond.codeWith y bytes maxL ret hh ∈ ws) ∧
  (Cond.codeWith y bytes maxL ret hh).before args s = true ∧ (Cond.initialized y.cls).before args s = true ∧ (y.cls ≠ "java/lang/invoke/MethodHandle" ∧ y.cls ≠ "java/lang/invoke/VarHandle") ∧
  (∀ sig, parseMethodDescriptor y.desc = some sig → n = sig.parameters.length) ∧ (Cond.methodLink own index y).before args s = true ∧ (Cond.instanceMethod y).before args s = true ∧ (Cond.selects C y y).before args s = true
theorem vx_cwVW {own C : String} {index maxL mc ms : Nat} {y : MethodName} {bytes : ByteArray} {ret : Option FieldType} {hh : List (Nat × Nat × Nat × Nat)} {Ts ws ws' : List Cond} {rm : Room} (n : Nat) (ht : ∀ w ∈ Ts, w.before args s = true) (hT : GoodIn Ts (wsV own index C y ws)) (hw : ws = Cond.codeWith y bytes maxL ret hh :: ws') (hrc : rm.cells = mc) (hrs : rm.slots = ms)
    (hd : y.cls = C ∧ y.cls ≠ "java/lang/invoke/MethodHandle" ∧ y.cls ≠ "java/lang/invoke/VarHandle" ∧ (parseMethodDescriptor y.desc).map (fun d => d.parameters.length) = some n) (hR : rm.frames + 1 ≤ R.frames ∧ 8 + (maxL + 11) + rm.locals ≤ R.locals) :
    vx_CVW R s args own C index y bytes maxL ret hh ws rm mc ms n := by
  obtain ⟨hC, hd⟩ := hd
  subst hC
  have ok : ∀ w ∈ wsV own index y.cls y ws, w.before args s = true := fun w h => ht w (hT w h).1
  have hG : GoodIn Ts ws := fun w h => hT w (by unfold wsV; exact List.mem_append_right _ h)
  have hc : Cond.codeWith y bytes maxL ret hh ∈ ws := by rw [hw]; exact List.mem_cons_self
  refine ⟨⟨hrc, hrs, hR.1, hR.2, pay_in ht hG, hc⟩, ht _ (hG _ hc).1, ok _ (by simp [wsV]), ⟨hd.1, hd.2.1⟩, fun sig h => ?_, ok _ (by simp [wsV]), ok _ (by simp [wsV]), ok _ (by simp [wsV])⟩
  have h2 := hd.2.2
  rw [h] at h2
  exact (Option.some.inj h2).symm
theorem vx_runVW {y : MethodName} {bytes cc : ByteArray} {maxL nL mc ms n index : Nat} {ret : Option FieldType} {hh : List (Nat × Nat × Nat × Nat)} {ws : List Cond} {rm : Room} {Pc : Array Value → State → Prop} {Qc : Array Value → State → Outcome → State → Prop} {free : Addr → Prop} {Ts : List Cond} {own C : String} {b : Addr} {As rest : List Value} {g : JFrame}
    (S : CallFix p m c cc nL s args Ts own) (hM : Met l y ws rm Pc Qc mc ms free) (cw : vx_CVW R s args own C index y bytes maxL ret hh ws rm mc ms n) (hp : PreV s H C b Pc As)
    (hg : g.method = m) (hn : As.length = n) (hsize : g.locals.size = nL) (hstack : g.stack = As.reverse ++ .ref b :: rest) (hW : 2 * g.monitorRoom + (rest.map fun v => v.category).sum ≤ 8) (hdg : decode cc g.pc = .ok (.invokevirtual index, 3)) (hf : cells + mc ≤ R.cells ∧ slots + ms ≤ R.slots) :
    va_Run p l e R s m args below meth c H locs cells slots mc ms g rest (Qc (Value.ref b :: As).toArray) free := by
  obtain ⟨⟨hrc, hrs, hfr, hlo, hws, hcw⟩, hcode, hini, hy, hlen, hl, hin, hse⟩ := cw
  have hK : Back l R p e below s args y 3 8 (PreOf R mc ms Pc) (PostOf Qc mc ms free) := va_backW (hh := hh) (bytes := bytes) (maxL := maxL) (ret := ret) hM hp.1 hrc hrs hfr hlo hws hcw (fun a' U hW => word_at hW (Or.inl (by first | rfl | simp [Cond.onTables, Cond.keeps, Cond.steady])) hini)
  obtain ⟨hx, hb, hml, ho, -⟩ := S
  obtain ⟨-, ⟨cellB, hcB, hoB, hclB⟩, hPc⟩ := hp
  intro T hT X
  obtain ⟨v, vm₁, ⟨U', l2, c2, s2⟩, hW₁, X', ⟨g', mk, t, L, e1, e2, hq, h1, hL, h2, h3⟩, st⟩ := vx_callVW X hx (C := C) (hh := hh) (bytes := bytes) (maxL := maxL) (ret := ret) ho hl hin hse hcode hy hK (by rw [hT]; exact hcB) hoB hclB hg (hsize.trans hml.symm) (argsL := As) (rest := rest) (fun sig h => hn.trans (hlen sig h)) hstack hW (by rw [hb]; exact hdg)
    (fun vm₁ hW₁ => ⟨hf.1, hf.2, hPc (T.setVm vm₁) hT hW₁⟩)
  dsimp only [Pt.U, Pt.locs, Pt.cells, Pt.slots] at X' e1 e2 h1 h2 h3 st
  subst h1; subst h2; subst h3
  exact ⟨v, (T.setVm vm₁).calling g' mk (Value.ref b :: As).toArray, t, U', L, hT, X', hL, e1, e2, hq, st⟩
section
variable {y : MethodName} {bytes cc : ByteArray} {maxL nL mc ms n index : Nat} {ret : Option FieldType} {ws : List Cond} {rm : Room} {Pc : Array Value → State → Prop} {Qc : Array Value → State → Outcome → State → Prop} {XC : String → State → State → Prop} {free : Addr → Prop} {Ts : List Cond} {own C : String} {b : Addr} {As rest : List Value} {g : JFrame}
theorem vx_runVX {hh : List (Nat × Nat × Nat × Nat)} (S : CallFix p m c cc nL s args Ts own) (hM : vx_Met l y ws rm Pc Qc XC mc ms free) (cw : vx_CVW R s args own C index y bytes maxL ret hh ws rm mc ms n) (hp : PreV s H C b Pc As)
    (hg : g.method = m) (hn : As.length = n) (hsize : g.locals.size = nL) (hstack : g.stack = As.reverse ++ .ref b :: rest) (hW : 2 * g.monitorRoom + (rest.map fun v => v.category).sum ≤ 8) (hdg : decode cc g.pc = .ok (.invokevirtual index, 3)) (hf : cells + mc ≤ R.cells ∧ slots + ms ≤ R.slots) :
    vx_Run p l e R s m args below meth c H locs cells slots mc ms g rest (Qc (Value.ref b :: As).toArray) XC free := by
  obtain ⟨⟨hrc, hrs, hfr, hlo, hws, hcw⟩, hcode, hini, hy, hlen, hl, hin, hse⟩ := cw
  have hK : vx_Back l R p e below s args y 3 8 (PreOf R mc ms Pc) (PostOf Qc mc ms free) (vx_Post XC mc ms free) := vx_backW (hh := hh) (bytes := bytes) (maxL := maxL) (ret := ret) hM hp.1 hrc hrs hfr hlo hws hcw (fun a' U hW => word_at hW (Or.inl (by first | rfl | simp [Cond.onTables, Cond.keeps, Cond.steady])) hini)
  obtain ⟨hx, hb, hml, ho, -⟩ := S
  obtain ⟨-, ⟨cellB, hcB, hoB, hclB⟩, hPc⟩ := hp
  intro T hT X
  rcases vx_callVX X hx (C := C) (hh := hh) (bytes := bytes) (maxL := maxL) (ret := ret) ho hl hin hse hcode hy hK (by rw [hT]; exact hcB) hoB hclB hg (hsize.trans hml.symm) (argsL := As) (rest := rest) (fun sig h => hn.trans (hlen sig h)) hstack hW (by rw [hb]; exact hdg)
    (fun vm₁ hW₁ => ⟨hf.1, hf.2, hPc (T.setVm vm₁) hT hW₁⟩) with ⟨v, vm₁, ⟨U', l2, c2, s2⟩, hW₁, X', ⟨g', mk, t, L, e1, e2, hq, h1, hL, h2, h3⟩, st⟩ | ⟨q, vm₁, ⟨U', l2, c2, s2⟩, hW₁, X', ⟨g', mk, t, L, E, ce, e1, e2, hq, hce, hcv, hcl, h1, hL, h2, h3⟩, st⟩
  · dsimp only [Pt.U, Pt.locs, Pt.cells, Pt.slots] at X' e1 e2 h1 h2 h3 st
    subst h1; subst h2; subst h3
    exact Or.inl ⟨v, (T.setVm vm₁).calling g' mk (Value.ref b :: As).toArray, t, U', L, hT, X', hL, e1, e2, hq, st⟩
  · dsimp only [Pt.U, Pt.locs, Pt.cells, Pt.slots] at X' e1 e2 h1 h2 h3 st hcl
    subst h1; subst h2; subst h3
    exact Or.inr ⟨q, (T.setVm vm₁).calling g' mk (Value.ref b :: As).toArray, t, U', L, E, ce, hT, X', hL, e1, e2, hq, hce, hcv, vx_cls hW₁ hcl, st⟩
theorem vx_runSX {hh : List (Nat × Nat × Nat × Nat)} (S : CallFix p m c cc nL s args Ts own) (hM : vx_Met l y ws rm Pc Qc XC mc ms free) (cw : vx_CSW R s args own index y bytes maxL ret hh ws rm mc ms n) (hp : PreS s H Pc As)
    (hg : g.method = m) (hn : As.length = n) (hsize : g.locals.size = nL) (hstack : g.stack = As.reverse ++ rest) (hW : 2 * g.monitorRoom + (rest.map fun v => v.category).sum ≤ 8) (hdg : decode cc g.pc = .ok (.invokestatic index, 3)) (hf : cells + mc ≤ R.cells ∧ slots + ms ≤ R.slots) :
    vx_Run p l e R s m args below meth c H locs cells slots mc ms g rest (Qc As.toArray) XC free := by
  obtain ⟨⟨hrc, hrs, hfr, hlo, hws, hcw⟩, hcode, hini, hy, hlen, hl, hstt⟩ := cw
  have hK : vx_Back l R p e below s args y 3 8 (PreOf R mc ms Pc) (PostOf Qc mc ms free) (vx_Post XC mc ms free) := vx_backW (hh := hh) (bytes := bytes) (maxL := maxL) (ret := ret) hM hp.1 hrc hrs hfr hlo hws hcw (fun a' U hW => word_at hW (Or.inl (by first | rfl | simp [Cond.onTables, Cond.keeps, Cond.steady])) hini)
  obtain ⟨hx, hb, hml, ho, -⟩ := S
  intro T hT X
  rcases vx_callSX X hx (hh := hh) (bytes := bytes) (maxL := maxL) (ret := ret) ho hl hstt hini hcode hy hK hg (hsize.trans hml.symm) (argsL := As) (rest := rest) (fun sig h => hn.trans (hlen sig h)) hstack hW (by rw [hb]; exact hdg)
    (fun vm₁ hW₁ => ⟨hf.1, hf.2, hp.2 (T.setVm vm₁) hT hW₁⟩) with ⟨v, vm₁, ⟨U', l2, c2, s2⟩, hW₁, X', ⟨g', mk, t, L, e1, e2, hq, h1, hL, h2, h3⟩, st⟩ | ⟨q, vm₁, ⟨U', l2, c2, s2⟩, hW₁, X', ⟨g', mk, t, L, E, ce, e1, e2, hq, hce, hcv, hcl, h1, hL, h2, h3⟩, st⟩
  · dsimp only [Pt.U, Pt.locs, Pt.cells, Pt.slots] at X' e1 e2 h1 h2 h3 st
    subst h1; subst h2; subst h3
    exact Or.inl ⟨v, (T.setVm vm₁).calling g' mk As.toArray, t, U', L, hT, X', hL, e1, e2, hq, st⟩
  · dsimp only [Pt.U, Pt.locs, Pt.cells, Pt.slots] at X' e1 e2 h1 h2 h3 st hcl
    subst h1; subst h2; subst h3
    exact Or.inr ⟨q, (T.setVm vm₁).calling g' mk As.toArray, t, U', L, E, ce, hT, X', hL, e1, e2, hq, hce, hcv, vx_cls hW₁ hcl, st⟩
end
end VXH
theorem vx_ofWH {l : Launch} {y : MethodName} {ws ws' : List Cond} {rm : Room} {Pc : Array Value → State → Prop} {Qc : Array Value → State → Outcome → State → Prop} {XC : String → State → State → Prop} {mc ms : Nat} {free : Addr → Prop} {cc : ByteArray} {maxL : Nat} {ret : Option FieldType} {hh : List (Nat × Nat × Nat × Nat)}
    (hy : plainName y.cls = true) (hw : ws = Cond.codeWith y cc maxL ret hh :: ws')
    (body : ∀ p e s m args below meth c s₁, BodyLoose p l y (headSpec ws rm) cc maxL ret e s m args below meth c s₁ → c.maxLocals = maxL → Pc args s →
      W p l e (headSpec ws rm).room s m args below meth c s.heap [] 0 0 (vx_MQ below Qc XC args s mc ms free) (entryFrame m args maxL)) : vx_Met l y ws rm Pc Qc XC mc ms free := by
  refine MetFree.of_bodyS (code := cc) (maxLocals := maxL) (ret := ret) hy ?_ ?_
  · intro args s m h hn
    obtain ⟨m9, meth, c, hn9, h1, h2, h3, h4, -, h5, h6, -⟩ := Cond.codeWith_spec (atoms_spec (ws := ws) h _ (by rw [hw]; exact List.mem_cons_self))
    cases hn.symm.trans hn9
    exact ⟨meth, c, h1, h2, h3, h4, h5, h6⟩
  · intro p e s m args below meth c s₁ B hml hP _
    have hh0 : s₁.heap = s.heap := by rw [B.state]; rfl
    obtain ⟨t, a1, o, b1, b2, b3⟩ := body p e s m args below meth c s₁ B hml hP s₁ hh0 (Stand.of_body B)
    exact ⟨t, o, a1, b1, b2, b3⟩
/-! ===== END ===== -/
end
section
def RX0 : String := "MarshDrains$Marsh"
def TX0 : u_T := fun k => match k with
  | 0 => ("MarshDrains$Marsh", "floors", "[I", true)
  | 1 => ("MarshDrains$Marsh", "worths", "[I", true)
  | 2 => ("MarshDrains$Marsh", "waters", "[I", true)
  | 3 => ("MarshDrains$Marsh", "wetHours", "[I", true)
  | 4 => ("MarshDrains$Marsh", "ruined", "[Z", true)
  | 5 => ("MarshDrains$Marsh", "froms", "[I", true)
  | 6 => ("MarshDrains$Marsh", "tos", "[I", true)
  | 7 => ("MarshDrains$Marsh", "carries", "[I", true)
  | 8 => ("MarshDrains$Marsh", "carried", "[I", true)
  | 9 => ("MarshDrains$Marsh", "pumps", "[Z", true)
  | 10 => ("MarshDrains$Marsh", "opens", "[Z", true)
  | 11 => ("MarshDrains$Marsh", "fieldCount", "I", false)
  | 12 => ("MarshDrains$Marsh", "drainCount", "I", false)
  | 13 => ("MarshDrains$Marsh", "rainfall", "I", false)
  | 14 => ("MarshDrains$Marsh", "toSea", "I", false)
  | _ => ("MarshDrains$Marsh", "clock", "I", false)
def tyX0 : Nat → FieldType := fun k => match k with
  | 0 => .array .int
  | 1 => .array .int
  | 2 => .array .int
  | 3 => .array .int
  | 4 => .array .boolean
  | 5 => .array .int
  | 6 => .array .int
  | 7 => .array .int
  | 8 => .array .int
  | 9 => .array .boolean
  | 10 => .array .boolean
  | 11 => .int
  | 12 => .int
  | 13 => .int
  | 14 => .int
  | _ => .int
abbrev wsX00 : List Cond := u_ws RX0 TX0 16
theorem nmX0 : ∀ a, a < 16 → ∀ b, b < 16 → a ≠ b → (TX0 a).2.1 ≠ (TX0 b).2.1 := by decide +kernel
theorem tyX0_ok : ∀ k, k < 16 → parseFieldDescriptor (TX0 k).2.2.1 = some (tyX0 k) := by decide +kernel
abbrev cX0_init : ByteArray := prog_2_method_1_code
def yX0_init : MethodName := ⟨RX0, "<init>", "()V"⟩
abbrev cX0_hasField : ByteArray := prog_2_method_2_code
def yX0_hasField : MethodName := ⟨RX0, "hasField", "(I)Z"⟩
abbrev cX0_hasDrain : ByteArray := prog_2_method_3_code
def yX0_hasDrain : MethodName := ⟨RX0, "hasDrain", "(I)Z"⟩
abbrev cX0_putField : ByteArray := prog_2_method_4_code
def yX0_putField : MethodName := ⟨RX0, "putField", "(II)I"⟩
abbrev cX0_putDrain : ByteArray := prog_2_method_5_code
def yX0_putDrain : MethodName := ⟨RX0, "putDrain", "(IIIZ)I"⟩
abbrev cX0_turnDrain : ByteArray := prog_2_method_6_code
def yX0_turnDrain : MethodName := ⟨RX0, "turnDrain", "(I)V"⟩
abbrev cX0_letWaterIn : ByteArray := prog_2_method_7_code
def yX0_letWaterIn : MethodName := ⟨RX0, "letWaterIn", "(II)V"⟩
abbrev cX0_levelAt : ByteArray := prog_2_method_8_code
def yX0_levelAt : MethodName := ⟨RX0, "levelAt", "(I)I"⟩
abbrev cX0_isWet : ByteArray := prog_2_method_9_code
def yX0_isWet : MethodName := ⟨RX0, "isWet", "(I)Z"⟩
abbrev cX0_countRuined : ByteArray := prog_2_method_10_code
def yX0_countRuined : MethodName := ⟨RX0, "countRuined", "()I"⟩
abbrev cX0_lostWorth : ByteArray := prog_2_method_11_code
def yX0_lostWorth : MethodName := ⟨RX0, "lostWorth", "()I"⟩
abbrev cX0_passHours : ByteArray := prog_2_method_12_code
def yX0_passHours : MethodName := ⟨RX0, "passHours", "(I)V"⟩
abbrev cX0_passHour : ByteArray := prog_2_method_13_code
def yX0_passHour : MethodName := ⟨RX0, "passHour", "()V"⟩
abbrev cX0_letFlow : ByteArray := prog_2_method_14_code
def yX0_letFlow : MethodName := ⟨RX0, "letFlow", "(II)V"⟩
abbrev cX0_flowNow : ByteArray := prog_2_method_15_code
def yX0_flowNow : MethodName := ⟨RX0, "flowNow", "(I)I"⟩
abbrev cX0_countWetHours : ByteArray := prog_2_method_16_code
def yX0_countWetHours : MethodName := ⟨RX0, "countWetHours", "()V"⟩
abbrev cX0_spreadByDrains : ByteArray := prog_2_method_17_code
def yX0_spreadByDrains : MethodName := ⟨RX0, "spreadByDrains", "(I)I"⟩
abbrev cX0_becomeLike : ByteArray := prog_2_method_18_code
def yX0_becomeLike : MethodName := ⟨RX0, "becomeLike", "(LMarshDrains$Marsh;)V"⟩
def RX1 : String := "MarshDrains"
def TX1 : u_T := fun k => match k with
  | 0 => ("MarshDrains", "now", "LMarshDrains$Marsh;", true)
  | _ => ("MarshDrains", "trial", "LMarshDrains$Marsh;", true)
def tyX1 : Nat → FieldType := fun k => match k with
  | 0 => .object "MarshDrains$Marsh"
  | _ => .object "MarshDrains$Marsh"
abbrev wsX10 : List Cond := u_ws RX1 TX1 2
theorem nmX1 : ∀ a, a < 2 → ∀ b, b < 2 → a ≠ b → (TX1 a).2.1 ≠ (TX1 b).2.1 := by decide +kernel
theorem tyX1_ok : ∀ k, k < 2 → parseFieldDescriptor (TX1 k).2.2.1 = some (tyX1 k) := by decide +kernel
abbrev cX1_init : ByteArray := prog_1_method_1_code
def yX1_init : MethodName := ⟨RX1, "<init>", "()V"⟩
abbrev cX1_addField : ByteArray := prog_1_method_2_code
def yX1_addField : MethodName := ⟨RX1, "addField", "(II)I"⟩
abbrev cX1_addDitch : ByteArray := prog_1_method_3_code
def yX1_addDitch : MethodName := ⟨RX1, "addDitch", "(III)I"⟩
abbrev cX1_addPump : ByteArray := prog_1_method_4_code
def yX1_addPump : MethodName := ⟨RX1, "addPump", "(III)I"⟩
abbrev cX1_turn : ByteArray := prog_1_method_5_code
def yX1_turn : MethodName := ⟨RX1, "turn", "(I)Z"⟩
abbrev cX1_setRain : ByteArray := prog_1_method_6_code
def yX1_setRain : MethodName := ⟨RX1, "setRain", "(I)I"⟩
abbrev cX1_flood : ByteArray := prog_1_method_7_code
def yX1_flood : MethodName := ⟨RX1, "flood", "(II)I"⟩
abbrev cX1_pass : ByteArray := prog_1_method_8_code
def yX1_pass : MethodName := ⟨RX1, "pass", "(I)I"⟩
abbrev cX1_hour : ByteArray := prog_1_method_9_code
def yX1_hour : MethodName := ⟨RX1, "hour", "()I"⟩
abbrev cX1_fields : ByteArray := prog_1_method_10_code
def yX1_fields : MethodName := ⟨RX1, "fields", "()I"⟩
abbrev cX1_drains : ByteArray := prog_1_method_11_code
def yX1_drains : MethodName := ⟨RX1, "drains", "()I"⟩
abbrev cX1_rain : ByteArray := prog_1_method_12_code
def yX1_rain : MethodName := ⟨RX1, "rain", "()I"⟩
abbrev cX1_water : ByteArray := prog_1_method_13_code
def yX1_water : MethodName := ⟨RX1, "water", "()I"⟩
abbrev cX1_drained : ByteArray := prog_1_method_14_code
def yX1_drained : MethodName := ⟨RX1, "drained", "()I"⟩
abbrev cX1_wetFields : ByteArray := prog_1_method_15_code
def yX1_wetFields : MethodName := ⟨RX1, "wetFields", "()I"⟩
abbrev cX1_ruinedFields : ByteArray := prog_1_method_16_code
def yX1_ruinedFields : MethodName := ⟨RX1, "ruinedFields", "()I"⟩
abbrev cX1_loss : ByteArray := prog_1_method_17_code
def yX1_loss : MethodName := ⟨RX1, "loss", "()I"⟩
abbrev cX1_waterOn : ByteArray := prog_1_method_18_code
def yX1_waterOn : MethodName := ⟨RX1, "waterOn", "(I)I"⟩
abbrev cX1_levelOf : ByteArray := prog_1_method_19_code
def yX1_levelOf : MethodName := ⟨RX1, "levelOf", "(I)I"⟩
abbrev cX1_wetFor : ByteArray := prog_1_method_20_code
def yX1_wetFor : MethodName := ⟨RX1, "wetFor", "(I)I"⟩
abbrev cX1_isRuined : ByteArray := prog_1_method_21_code
def yX1_isRuined : MethodName := ⟨RX1, "isRuined", "(I)Z"⟩
abbrev cX1_drainsAt : ByteArray := prog_1_method_22_code
def yX1_drainsAt : MethodName := ⟨RX1, "drainsAt", "(I)I"⟩
abbrev cX1_reaches : ByteArray := prog_1_method_23_code
def yX1_reaches : MethodName := ⟨RX1, "reaches", "(I)I"⟩
abbrev cX1_highest : ByteArray := prog_1_method_24_code
def yX1_highest : MethodName := ⟨RX1, "highest", "()I"⟩
abbrev cX1_isPump : ByteArray := prog_1_method_25_code
def yX1_isPump : MethodName := ⟨RX1, "isPump", "(I)Z"⟩
abbrev cX1_isOpen : ByteArray := prog_1_method_26_code
def yX1_isOpen : MethodName := ⟨RX1, "isOpen", "(I)Z"⟩
abbrev cX1_carriedBy : ByteArray := prog_1_method_27_code
def yX1_carriedBy : MethodName := ⟨RX1, "carriedBy", "(I)I"⟩
abbrev cX1_wouldCarry : ByteArray := prog_1_method_28_code
def yX1_wouldCarry : MethodName := ⟨RX1, "wouldCarry", "(I)I"⟩
abbrev cX1_busiest : ByteArray := prog_1_method_29_code
def yX1_busiest : MethodName := ⟨RX1, "busiest", "()I"⟩
abbrev cX1_hoursUntilRuined : ByteArray := prog_1_method_30_code
def yX1_hoursUntilRuined : MethodName := ⟨RX1, "hoursUntilRuined", "(I)I"⟩
abbrev cX1_lossIn : ByteArray := prog_1_method_31_code
def yX1_lossIn : MethodName := ⟨RX1, "lossIn", "(I)I"⟩
abbrev cX1_waterIn : ByteArray := prog_1_method_32_code
def yX1_waterIn : MethodName := ⟨RX1, "waterIn", "(II)I"⟩
abbrev cX1_bestToTurn : ByteArray := prog_1_method_33_code
def yX1_bestToTurn : MethodName := ⟨RX1, "bestToTurn", "()I"⟩
abbrev cX1_bestToFlood : ByteArray := prog_1_method_34_code
def yX1_bestToFlood : MethodName := ⟨RX1, "bestToFlood", "(I)I"⟩
abbrev cX1_rainBorne : ByteArray := prog_1_method_35_code
def yX1_rainBorne : MethodName := ⟨RX1, "rainBorne", "()I"⟩
abbrev cX1_meanWater : ByteArray := prog_1_method_36_code
def yX1_meanWater : MethodName := ⟨RX1, "meanWater", "()D"⟩
abbrev cX1_digest : ByteArray := prog_1_method_37_code
def yX1_digest : MethodName := ⟨RX1, "digest", "()J"⟩
abbrev cX1_mixFields : ByteArray := prog_1_method_38_code
def yX1_mixFields : MethodName := ⟨RX1, "mixFields", "(J)J"⟩
abbrev cX1_mixDrains : ByteArray := prog_1_method_39_code
def yX1_mixDrains : MethodName := ⟨RX1, "mixDrains", "(J)J"⟩
abbrev cX1_mix : ByteArray := prog_1_method_40_code
def yX1_mix : MethodName := ⟨RX1, "mix", "(JI)J"⟩
abbrev cX1_addDrain : ByteArray := prog_1_method_41_code
def yX1_addDrain : MethodName := ⟨RX1, "addDrain", "(IIIZ)I"⟩
abbrev cX1_requireField : ByteArray := prog_1_method_42_code
def yX1_requireField : MethodName := ⟨RX1, "requireField", "(I)V"⟩
abbrev cX1_requireDrain : ByteArray := prog_1_method_43_code
def yX1_requireDrain : MethodName := ⟨RX1, "requireDrain", "(I)V"⟩
abbrev cX1_requireWithin : ByteArray := prog_1_method_44_code
def yX1_requireWithin : MethodName := ⟨RX1, "requireWithin", "(III)V"⟩
def RX2 : String := "MarshDrainsModel"
def TX2 : u_T := fun k => match k with
  | 0 => ("MarshDrainsModel", "thrown", "I", false)
  | 1 => ("MarshDrainsModel", "fields", "I", false)
  | 2 => ("MarshDrainsModel", "drains", "I", false)
  | 3 => ("MarshDrainsModel", "rain", "I", false)
  | 4 => ("MarshDrainsModel", "floor", "[I", true)
  | 5 => ("MarshDrainsModel", "worth", "[I", true)
  | 6 => ("MarshDrainsModel", "from", "[I", true)
  | 7 => ("MarshDrainsModel", "to", "[I", true)
  | 8 => ("MarshDrainsModel", "carries", "[I", true)
  | 9 => ("MarshDrainsModel", "isPump", "[Z", true)
  | 10 => ("MarshDrainsModel", "isOpen", "[Z", true)
  | 11 => ("MarshDrainsModel", "now", "[I", true)
  | 12 => ("MarshDrainsModel", "kept", "[I", true)
  | _ => ("MarshDrainsModel", "seen", "[Z", true)
def tyX2 : Nat → FieldType := fun k => match k with
  | 0 => .int
  | 1 => .int
  | 2 => .int
  | 3 => .int
  | 4 => .array .int
  | 5 => .array .int
  | 6 => .array .int
  | 7 => .array .int
  | 8 => .array .int
  | 9 => .array .boolean
  | 10 => .array .boolean
  | 11 => .array .int
  | 12 => .array .int
  | _ => .array .boolean
abbrev wsX20 : List Cond := u_ws RX2 TX2 14
theorem nmX2 : ∀ a, a < 14 → ∀ b, b < 14 → a ≠ b → (TX2 a).2.1 ≠ (TX2 b).2.1 := by decide +kernel
theorem tyX2_ok : ∀ k, k < 14 → parseFieldDescriptor (TX2 k).2.2.1 = some (tyX2 k) := by decide +kernel
abbrev cX2_init : ByteArray := prog_4_method_1_code
def yX2_init : MethodName := ⟨RX2, "<init>", "()V"⟩
abbrev cX2_thrown : ByteArray := prog_4_method_2_code
def yX2_thrown : MethodName := ⟨RX2, "thrown", "()I"⟩
abbrev cX2_no : ByteArray := prog_4_method_3_code
def yX2_no : MethodName := ⟨RX2, "no", "(I)I"⟩
abbrev cX2_isNot : ByteArray := prog_4_method_4_code
def yX2_isNot : MethodName := ⟨RX2, "isNot", "(I)Z"⟩
abbrev cX2_ok : ByteArray := prog_4_method_5_code
def yX2_ok : MethodName := ⟨RX2, "ok", "(I)I"⟩
abbrev cX2_isIn : ByteArray := prog_4_method_6_code
def yX2_isIn : MethodName := ⟨RX2, "isIn", "(III)Z"⟩
abbrev cX2_isField : ByteArray := prog_4_method_7_code
def yX2_isField : MethodName := ⟨RX2, "isField", "(I)Z"⟩
abbrev cX2_isDrain : ByteArray := prog_4_method_8_code
def yX2_isDrain : MethodName := ⟨RX2, "isDrain", "(I)Z"⟩
abbrev cX2_keep : ByteArray := prog_4_method_9_code
def yX2_keep : MethodName := ⟨RX2, "keep", "()V"⟩
abbrev cX2_bringBack : ByteArray := prog_4_method_10_code
def yX2_bringBack : MethodName := ⟨RX2, "bringBack", "()V"⟩
abbrev cX2_water : ByteArray := prog_4_method_11_code
def yX2_water : MethodName := ⟨RX2, "water", "(I)I"⟩
abbrev cX2_level : ByteArray := prog_4_method_12_code
def yX2_level : MethodName := ⟨RX2, "level", "(I)I"⟩
abbrev cX2_flow : ByteArray := prog_4_method_13_code
def yX2_flow : MethodName := ⟨RX2, "flow", "(I)I"⟩
abbrev cX2_carry : ByteArray := prog_4_method_14_code
def yX2_carry : MethodName := ⟨RX2, "carry", "(I)V"⟩
abbrev cX2_hourOn : ByteArray := prog_4_method_15_code
def yX2_hourOn : MethodName := ⟨RX2, "hourOn", "()V"⟩
abbrev cX2_hoursOn : ByteArray := prog_4_method_16_code
def yX2_hoursOn : MethodName := ⟨RX2, "hoursOn", "(I)V"⟩
abbrev cX2_ruined : ByteArray := prog_4_method_17_code
def yX2_ruined : MethodName := ⟨RX2, "ruined", "()I"⟩
abbrev cX2_lost : ByteArray := prog_4_method_18_code
def yX2_lost : MethodName := ⟨RX2, "lost", "()I"⟩
abbrev cX2_addField : ByteArray := prog_4_method_19_code
def yX2_addField : MethodName := ⟨RX2, "addField", "(II)I"⟩
abbrev cX2_add : ByteArray := prog_4_method_20_code
def yX2_add : MethodName := ⟨RX2, "add", "(IIIZ)I"⟩
abbrev cX2_addDitch : ByteArray := prog_4_method_21_code
def yX2_addDitch : MethodName := ⟨RX2, "addDitch", "(III)I"⟩
abbrev cX2_addPump : ByteArray := prog_4_method_22_code
def yX2_addPump : MethodName := ⟨RX2, "addPump", "(III)I"⟩
abbrev cX2_turn : ByteArray := prog_4_method_23_code
def yX2_turn : MethodName := ⟨RX2, "turn", "(I)Z"⟩
abbrev cX2_setRain : ByteArray := prog_4_method_24_code
def yX2_setRain : MethodName := ⟨RX2, "setRain", "(I)I"⟩
abbrev cX2_flood : ByteArray := prog_4_method_25_code
def yX2_flood : MethodName := ⟨RX2, "flood", "(II)I"⟩
abbrev cX2_pass : ByteArray := prog_4_method_26_code
def yX2_pass : MethodName := ⟨RX2, "pass", "(I)I"⟩
abbrev cX2_hour : ByteArray := prog_4_method_27_code
def yX2_hour : MethodName := ⟨RX2, "hour", "()I"⟩
abbrev cX2_fields : ByteArray := prog_4_method_28_code
def yX2_fields : MethodName := ⟨RX2, "fields", "()I"⟩
abbrev cX2_drains : ByteArray := prog_4_method_29_code
def yX2_drains : MethodName := ⟨RX2, "drains", "()I"⟩
abbrev cX2_rain : ByteArray := prog_4_method_30_code
def yX2_rain : MethodName := ⟨RX2, "rain", "()I"⟩
abbrev cX2_allWater : ByteArray := prog_4_method_31_code
def yX2_allWater : MethodName := ⟨RX2, "allWater", "()I"⟩
abbrev cX2_water_ : ByteArray := prog_4_method_32_code
def yX2_water_ : MethodName := ⟨RX2, "water", "()I"⟩
abbrev cX2_drained : ByteArray := prog_4_method_33_code
def yX2_drained : MethodName := ⟨RX2, "drained", "()I"⟩
abbrev cX2_wet : ByteArray := prog_4_method_34_code
def yX2_wet : MethodName := ⟨RX2, "wet", "()I"⟩
abbrev cX2_wetFields : ByteArray := prog_4_method_35_code
def yX2_wetFields : MethodName := ⟨RX2, "wetFields", "()I"⟩
abbrev cX2_ruinedFields : ByteArray := prog_4_method_36_code
def yX2_ruinedFields : MethodName := ⟨RX2, "ruinedFields", "()I"⟩
abbrev cX2_loss : ByteArray := prog_4_method_37_code
def yX2_loss : MethodName := ⟨RX2, "loss", "()I"⟩
abbrev cX2_of : ByteArray := prog_4_method_38_code
def yX2_of : MethodName := ⟨RX2, "of", "(II)I"⟩
abbrev cX2_waterOn : ByteArray := prog_4_method_39_code
def yX2_waterOn : MethodName := ⟨RX2, "waterOn", "(I)I"⟩
abbrev cX2_levelOf : ByteArray := prog_4_method_40_code
def yX2_levelOf : MethodName := ⟨RX2, "levelOf", "(I)I"⟩
abbrev cX2_wetFor : ByteArray := prog_4_method_41_code
def yX2_wetFor : MethodName := ⟨RX2, "wetFor", "(I)I"⟩
abbrev cX2_isRuined : ByteArray := prog_4_method_42_code
def yX2_isRuined : MethodName := ⟨RX2, "isRuined", "(I)Z"⟩
abbrev cX2_openAt : ByteArray := prog_4_method_43_code
def yX2_openAt : MethodName := ⟨RX2, "openAt", "(I)I"⟩
abbrev cX2_drainsAt : ByteArray := prog_4_method_44_code
def yX2_drainsAt : MethodName := ⟨RX2, "drainsAt", "(I)I"⟩
abbrev cX2_spreads : ByteArray := prog_4_method_45_code
def yX2_spreads : MethodName := ⟨RX2, "spreads", "(II)Z"⟩
abbrev cX2_spread : ByteArray := prog_4_method_46_code
def yX2_spread : MethodName := ⟨RX2, "spread", "(I)I"⟩
abbrev cX2_reaches : ByteArray := prog_4_method_47_code
def yX2_reaches : MethodName := ⟨RX2, "reaches", "(I)I"⟩
abbrev cX2_high : ByteArray := prog_4_method_48_code
def yX2_high : MethodName := ⟨RX2, "high", "()I"⟩
abbrev cX2_highest : ByteArray := prog_4_method_49_code
def yX2_highest : MethodName := ⟨RX2, "highest", "()I"⟩
abbrev cX2_isPump : ByteArray := prog_4_method_50_code
def yX2_isPump : MethodName := ⟨RX2, "isPump", "(I)Z"⟩
abbrev cX2_isOpen : ByteArray := prog_4_method_51_code
def yX2_isOpen : MethodName := ⟨RX2, "isOpen", "(I)Z"⟩
abbrev cX2_carriedBy : ByteArray := prog_4_method_52_code
def yX2_carriedBy : MethodName := ⟨RX2, "carriedBy", "(I)I"⟩
abbrev cX2_wouldCarry : ByteArray := prog_4_method_53_code
def yX2_wouldCarry : MethodName := ⟨RX2, "wouldCarry", "(I)I"⟩
abbrev cX2_busy : ByteArray := prog_4_method_54_code
def yX2_busy : MethodName := ⟨RX2, "busy", "()I"⟩
abbrev cX2_busiest : ByteArray := prog_4_method_55_code
def yX2_busiest : MethodName := ⟨RX2, "busiest", "()I"⟩
abbrev cX2_until : ByteArray := prog_4_method_56_code
def yX2_until : MethodName := ⟨RX2, "until", "(I)I"⟩
abbrev cX2_hoursUntilRuined : ByteArray := prog_4_method_57_code
def yX2_hoursUntilRuined : MethodName := ⟨RX2, "hoursUntilRuined", "(I)I"⟩
abbrev cX2_lostBehind : ByteArray := prog_4_method_58_code
def yX2_lostBehind : MethodName := ⟨RX2, "lostBehind", "(III)I"⟩
abbrev cX2_lossIn : ByteArray := prog_4_method_59_code
def yX2_lossIn : MethodName := ⟨RX2, "lossIn", "(I)I"⟩
abbrev cX2_waterIn : ByteArray := prog_4_method_60_code
def yX2_waterIn : MethodName := ⟨RX2, "waterIn", "(II)I"⟩
abbrev cX2_turned : ByteArray := prog_4_method_61_code
def yX2_turned : MethodName := ⟨RX2, "turned", "()I"⟩
abbrev cX2_bestToTurn : ByteArray := prog_4_method_62_code
def yX2_bestToTurn : MethodName := ⟨RX2, "bestToTurn", "()I"⟩
abbrev cX2_flooded : ByteArray := prog_4_method_63_code
def yX2_flooded : MethodName := ⟨RX2, "flooded", "(I)I"⟩
abbrev cX2_bestToFlood : ByteArray := prog_4_method_64_code
def yX2_bestToFlood : MethodName := ⟨RX2, "bestToFlood", "(I)I"⟩
abbrev cX2_borne : ByteArray := prog_4_method_65_code
def yX2_borne : MethodName := ⟨RX2, "borne", "()I"⟩
abbrev cX2_rainBorne : ByteArray := prog_4_method_66_code
def yX2_rainBorne : MethodName := ⟨RX2, "rainBorne", "()I"⟩
abbrev cX2_meanWater : ByteArray := prog_4_method_67_code
def yX2_meanWater : MethodName := ⟨RX2, "meanWater", "()D"⟩
abbrev cX2_digest : ByteArray := prog_4_method_68_code
def yX2_digest : MethodName := ⟨RX2, "digest", "()J"⟩
def RJ6 : String := "java/lang/Integer"
def TJ6 : u_T := fun k => match k with
  | _ => ("", "", "", false)
def tyJ6 : Nat → FieldType := fun k => match k with
  | _ => .int
theorem nmJ6 : ∀ a, a < 0 → ∀ b, b < 0 → a ≠ b → (TJ6 a).2.1 ≠ (TJ6 b).2.1 := by decide +kernel
theorem tyJ6_ok : ∀ k, k < 0 → parseFieldDescriptor (TJ6 k).2.2.1 = some (tyJ6 k) := by decide +kernel
abbrev cJ6_bitCount_0f7a4 : ByteArray := prog_9_method_49_code
def yJ6_bitCount_0f7a4 : MethodName := ⟨RJ6, "bitCount", "(I)I"⟩
def RL : String := "MarshDrainsLaw"
abbrev cL_addField : ByteArray := method_3_code
def yL_addField : MethodName := ⟨RL, "addField", "(LMarshDrains;II[J)I"⟩
abbrev cL_addDitch : ByteArray := method_4_code
def yL_addDitch : MethodName := ⟨RL, "addDitch", "(LMarshDrains;III[J)I"⟩
abbrev cL_addPump : ByteArray := method_5_code
def yL_addPump : MethodName := ⟨RL, "addPump", "(LMarshDrains;III[J)I"⟩
abbrev cL_turn : ByteArray := method_6_code
def yL_turn : MethodName := ⟨RL, "turn", "(LMarshDrains;I[J)I"⟩
abbrev cL_setRain : ByteArray := method_7_code
def yL_setRain : MethodName := ⟨RL, "setRain", "(LMarshDrains;I[J)I"⟩
abbrev cL_flood : ByteArray := method_8_code
def yL_flood : MethodName := ⟨RL, "flood", "(LMarshDrains;II[J)I"⟩
abbrev cL_pass : ByteArray := method_9_code
def yL_pass : MethodName := ⟨RL, "pass", "(LMarshDrains;I[J)I"⟩
abbrev cL_waterOn : ByteArray := method_10_code
def yL_waterOn : MethodName := ⟨RL, "waterOn", "(LMarshDrains;I[J)I"⟩
abbrev cL_levelOf : ByteArray := method_11_code
def yL_levelOf : MethodName := ⟨RL, "levelOf", "(LMarshDrains;I[J)I"⟩
abbrev cL_wetFor : ByteArray := method_12_code
def yL_wetFor : MethodName := ⟨RL, "wetFor", "(LMarshDrains;I[J)I"⟩
abbrev cL_isRuined : ByteArray := method_13_code
def yL_isRuined : MethodName := ⟨RL, "isRuined", "(LMarshDrains;I[J)I"⟩
abbrev cL_drainsAt : ByteArray := method_14_code
def yL_drainsAt : MethodName := ⟨RL, "drainsAt", "(LMarshDrains;I[J)I"⟩
abbrev cL_reaches : ByteArray := method_15_code
def yL_reaches : MethodName := ⟨RL, "reaches", "(LMarshDrains;I[J)I"⟩
abbrev cL_isPump : ByteArray := method_16_code
def yL_isPump : MethodName := ⟨RL, "isPump", "(LMarshDrains;I[J)I"⟩
abbrev cL_isOpen : ByteArray := method_17_code
def yL_isOpen : MethodName := ⟨RL, "isOpen", "(LMarshDrains;I[J)I"⟩
abbrev cL_carriedBy : ByteArray := method_18_code
def yL_carriedBy : MethodName := ⟨RL, "carriedBy", "(LMarshDrains;I[J)I"⟩
abbrev cL_wouldCarry : ByteArray := method_19_code
def yL_wouldCarry : MethodName := ⟨RL, "wouldCarry", "(LMarshDrains;I[J)I"⟩
abbrev cL_hoursUntilRuined : ByteArray := method_20_code
def yL_hoursUntilRuined : MethodName := ⟨RL, "hoursUntilRuined", "(LMarshDrains;I[J)I"⟩
abbrev cL_lossIn : ByteArray := method_21_code
def yL_lossIn : MethodName := ⟨RL, "lossIn", "(LMarshDrains;I[J)I"⟩
abbrev cL_waterIn : ByteArray := method_22_code
def yL_waterIn : MethodName := ⟨RL, "waterIn", "(LMarshDrains;II[J)I"⟩
abbrev cL_bestToFlood : ByteArray := method_23_code
def yL_bestToFlood : MethodName := ⟨RL, "bestToFlood", "(LMarshDrains;I[J)I"⟩
abbrev cL_law : ByteArray := code
def yL_law : MethodName := ⟨RL, "law", "([I)Z"⟩
abbrev vwCl : List vw_C := [(RX0, TX0, 16), (RX1, TX1, 2), (RX2, TX2, 14)]
end
section
theorem dX0_init_0 : decode cX0_init 0 = .ok (.aload_n 0, 1) := by decide +kernel
theorem dX0_init_1 : decode cX0_init 1 = .ok (.invokespecial 3, 3) := by decide +kernel
theorem dX0_init_4 : decode cX0_init 4 = .ok (.aload_n 0, 1) := by decide +kernel
theorem dX0_init_5 : decode cX0_init 5 = .ok (.bipush 10, 2) := by decide +kernel
theorem dX0_init_7 : decode cX0_init 7 = .ok (.newarray .int, 2) := by decide +kernel
theorem dX0_init_9 : decode cX0_init 9 = .ok (.putfield 9, 3) := by decide +kernel
theorem dX0_init_12 : decode cX0_init 12 = .ok (.aload_n 0, 1) := by decide +kernel
theorem dX0_init_13 : decode cX0_init 13 = .ok (.bipush 10, 2) := by decide +kernel
theorem dX0_init_15 : decode cX0_init 15 = .ok (.newarray .int, 2) := by decide +kernel
theorem dX0_init_17 : decode cX0_init 17 = .ok (.putfield 15, 3) := by decide +kernel
theorem dX0_init_20 : decode cX0_init 20 = .ok (.aload_n 0, 1) := by decide +kernel
theorem dX0_init_21 : decode cX0_init 21 = .ok (.bipush 10, 2) := by decide +kernel
theorem dX0_init_23 : decode cX0_init 23 = .ok (.newarray .int, 2) := by decide +kernel
theorem dX0_init_25 : decode cX0_init 25 = .ok (.putfield 18, 3) := by decide +kernel
theorem dX0_init_28 : decode cX0_init 28 = .ok (.aload_n 0, 1) := by decide +kernel
theorem dX0_init_29 : decode cX0_init 29 = .ok (.bipush 10, 2) := by decide +kernel
theorem dX0_init_31 : decode cX0_init 31 = .ok (.newarray .int, 2) := by decide +kernel
theorem dX0_init_33 : decode cX0_init 33 = .ok (.putfield 21, 3) := by decide +kernel
theorem dX0_init_36 : decode cX0_init 36 = .ok (.aload_n 0, 1) := by decide +kernel
theorem dX0_init_37 : decode cX0_init 37 = .ok (.bipush 10, 2) := by decide +kernel
theorem dX0_init_39 : decode cX0_init 39 = .ok (.newarray .boolean, 2) := by decide +kernel
theorem dX0_init_41 : decode cX0_init 41 = .ok (.putfield 24, 3) := by decide +kernel
theorem dX0_init_44 : decode cX0_init 44 = .ok (.aload_n 0, 1) := by decide +kernel
theorem dX0_init_45 : decode cX0_init 45 = .ok (.bipush 16, 2) := by decide +kernel
theorem dX0_init_47 : decode cX0_init 47 = .ok (.newarray .int, 2) := by decide +kernel
theorem dX0_init_49 : decode cX0_init 49 = .ok (.putfield 28, 3) := by decide +kernel
theorem dX0_init_52 : decode cX0_init 52 = .ok (.aload_n 0, 1) := by decide +kernel
theorem dX0_init_53 : decode cX0_init 53 = .ok (.bipush 16, 2) := by decide +kernel
theorem dX0_init_55 : decode cX0_init 55 = .ok (.newarray .int, 2) := by decide +kernel
theorem dX0_init_57 : decode cX0_init 57 = .ok (.putfield 31, 3) := by decide +kernel
theorem dX0_init_60 : decode cX0_init 60 = .ok (.aload_n 0, 1) := by decide +kernel
theorem dX0_init_61 : decode cX0_init 61 = .ok (.bipush 16, 2) := by decide +kernel
theorem dX0_init_63 : decode cX0_init 63 = .ok (.newarray .int, 2) := by decide +kernel
theorem dX0_init_65 : decode cX0_init 65 = .ok (.putfield 34, 3) := by decide +kernel
theorem dX0_init_68 : decode cX0_init 68 = .ok (.aload_n 0, 1) := by decide +kernel
theorem dX0_init_69 : decode cX0_init 69 = .ok (.bipush 16, 2) := by decide +kernel
theorem dX0_init_71 : decode cX0_init 71 = .ok (.newarray .int, 2) := by decide +kernel
theorem dX0_init_73 : decode cX0_init 73 = .ok (.putfield 37, 3) := by decide +kernel
theorem dX0_init_76 : decode cX0_init 76 = .ok (.aload_n 0, 1) := by decide +kernel
theorem dX0_init_77 : decode cX0_init 77 = .ok (.bipush 16, 2) := by decide +kernel
theorem dX0_init_79 : decode cX0_init 79 = .ok (.newarray .boolean, 2) := by decide +kernel
theorem dX0_init_81 : decode cX0_init 81 = .ok (.putfield 40, 3) := by decide +kernel
theorem dX0_init_84 : decode cX0_init 84 = .ok (.aload_n 0, 1) := by decide +kernel
theorem dX0_init_85 : decode cX0_init 85 = .ok (.bipush 16, 2) := by decide +kernel
theorem dX0_init_87 : decode cX0_init 87 = .ok (.newarray .boolean, 2) := by decide +kernel
theorem dX0_init_89 : decode cX0_init 89 = .ok (.putfield 43, 3) := by decide +kernel
theorem dX0_init_92 : decode cX0_init 92 = .ok (.return_, 1) := by decide +kernel
theorem dX0_hasField_0 : decode cX0_hasField 0 = .ok (.iload_n 1, 1) := by decide +kernel
theorem dX0_hasField_1 : decode cX0_hasField 1 = .ok (.ifCond .lt 15, 3) := by decide +kernel
theorem dX0_hasField_4 : decode cX0_hasField 4 = .ok (.iload_n 1, 1) := by decide +kernel
theorem dX0_hasField_5 : decode cX0_hasField 5 = .ok (.aload_n 0, 1) := by decide +kernel
theorem dX0_hasField_6 : decode cX0_hasField 6 = .ok (.getfield 46, 3) := by decide +kernel
theorem dX0_hasField_9 : decode cX0_hasField 9 = .ok (.if_icmp .ge 7, 3) := by decide +kernel
theorem dX0_hasField_12 : decode cX0_hasField 12 = .ok (.iconst 1, 1) := by decide +kernel
theorem dX0_hasField_13 : decode cX0_hasField 13 = .ok (.goto 4, 3) := by decide +kernel
theorem dX0_hasField_16 : decode cX0_hasField 16 = .ok (.iconst 0, 1) := by decide +kernel
theorem dX0_hasField_17 : decode cX0_hasField 17 = .ok (.ireturn, 1) := by decide +kernel
theorem dX0_hasDrain_0 : decode cX0_hasDrain 0 = .ok (.iload_n 1, 1) := by decide +kernel
theorem dX0_hasDrain_1 : decode cX0_hasDrain 1 = .ok (.ifCond .lt 15, 3) := by decide +kernel
theorem dX0_hasDrain_4 : decode cX0_hasDrain 4 = .ok (.iload_n 1, 1) := by decide +kernel
theorem dX0_hasDrain_5 : decode cX0_hasDrain 5 = .ok (.aload_n 0, 1) := by decide +kernel
theorem dX0_hasDrain_6 : decode cX0_hasDrain 6 = .ok (.getfield 50, 3) := by decide +kernel
theorem dX0_hasDrain_9 : decode cX0_hasDrain 9 = .ok (.if_icmp .ge 7, 3) := by decide +kernel
theorem dX0_hasDrain_12 : decode cX0_hasDrain 12 = .ok (.iconst 1, 1) := by decide +kernel
theorem dX0_hasDrain_13 : decode cX0_hasDrain 13 = .ok (.goto 4, 3) := by decide +kernel
theorem dX0_hasDrain_16 : decode cX0_hasDrain 16 = .ok (.iconst 0, 1) := by decide +kernel
theorem dX0_hasDrain_17 : decode cX0_hasDrain 17 = .ok (.ireturn, 1) := by decide +kernel
theorem dX0_putField_0 : decode cX0_putField 0 = .ok (.aload_n 0, 1) := by decide +kernel
theorem dX0_putField_1 : decode cX0_putField 1 = .ok (.getfield 46, 3) := by decide +kernel
theorem dX0_putField_4 : decode cX0_putField 4 = .ok (.istore_n 3, 1) := by decide +kernel
theorem dX0_putField_5 : decode cX0_putField 5 = .ok (.iload_n 3, 1) := by decide +kernel
theorem dX0_putField_6 : decode cX0_putField 6 = .ok (.bipush 10, 2) := by decide +kernel
theorem dX0_putField_8 : decode cX0_putField 8 = .ok (.if_icmp .lt 5, 3) := by decide +kernel
theorem dX0_putField_11 : decode cX0_putField 11 = .ok (.iconst (-1), 1) := by decide +kernel
theorem dX0_putField_12 : decode cX0_putField 12 = .ok (.ireturn, 1) := by decide +kernel
theorem dX0_putField_13 : decode cX0_putField 13 = .ok (.aload_n 0, 1) := by decide +kernel
theorem dX0_putField_14 : decode cX0_putField 14 = .ok (.getfield 9, 3) := by decide +kernel
theorem dX0_putField_17 : decode cX0_putField 17 = .ok (.iload_n 3, 1) := by decide +kernel
theorem dX0_putField_18 : decode cX0_putField 18 = .ok (.iload_n 1, 1) := by decide +kernel
theorem dX0_putField_19 : decode cX0_putField 19 = .ok (.iastore, 1) := by decide +kernel
theorem dX0_putField_20 : decode cX0_putField 20 = .ok (.aload_n 0, 1) := by decide +kernel
theorem dX0_putField_21 : decode cX0_putField 21 = .ok (.getfield 15, 3) := by decide +kernel
theorem dX0_putField_24 : decode cX0_putField 24 = .ok (.iload_n 3, 1) := by decide +kernel
theorem dX0_putField_25 : decode cX0_putField 25 = .ok (.iload_n 2, 1) := by decide +kernel
theorem dX0_putField_26 : decode cX0_putField 26 = .ok (.iastore, 1) := by decide +kernel
theorem dX0_putField_27 : decode cX0_putField 27 = .ok (.aload_n 0, 1) := by decide +kernel
theorem dX0_putField_28 : decode cX0_putField 28 = .ok (.iload_n 3, 1) := by decide +kernel
theorem dX0_putField_29 : decode cX0_putField 29 = .ok (.iconst 1, 1) := by decide +kernel
theorem dX0_putField_30 : decode cX0_putField 30 = .ok (.iadd, 1) := by decide +kernel
theorem dX0_putField_31 : decode cX0_putField 31 = .ok (.putfield 46, 3) := by decide +kernel
theorem dX0_putField_34 : decode cX0_putField 34 = .ok (.iload_n 3, 1) := by decide +kernel
theorem dX0_putField_35 : decode cX0_putField 35 = .ok (.ireturn, 1) := by decide +kernel
theorem dX0_putDrain_0 : decode cX0_putDrain 0 = .ok (.aload_n 0, 1) := by decide +kernel
theorem dX0_putDrain_1 : decode cX0_putDrain 1 = .ok (.getfield 50, 3) := by decide +kernel
theorem dX0_putDrain_4 : decode cX0_putDrain 4 = .ok (.istore 5, 2) := by decide +kernel
theorem dX0_putDrain_6 : decode cX0_putDrain 6 = .ok (.iload 5, 2) := by decide +kernel
theorem dX0_putDrain_8 : decode cX0_putDrain 8 = .ok (.bipush 16, 2) := by decide +kernel
theorem dX0_putDrain_10 : decode cX0_putDrain 10 = .ok (.if_icmp .lt 5, 3) := by decide +kernel
theorem dX0_putDrain_13 : decode cX0_putDrain 13 = .ok (.iconst (-1), 1) := by decide +kernel
theorem dX0_putDrain_14 : decode cX0_putDrain 14 = .ok (.ireturn, 1) := by decide +kernel
theorem dX0_putDrain_15 : decode cX0_putDrain 15 = .ok (.aload_n 0, 1) := by decide +kernel
theorem dX0_putDrain_16 : decode cX0_putDrain 16 = .ok (.getfield 28, 3) := by decide +kernel
theorem dX0_putDrain_19 : decode cX0_putDrain 19 = .ok (.iload 5, 2) := by decide +kernel
theorem dX0_putDrain_21 : decode cX0_putDrain 21 = .ok (.iload_n 1, 1) := by decide +kernel
theorem dX0_putDrain_22 : decode cX0_putDrain 22 = .ok (.iastore, 1) := by decide +kernel
theorem dX0_putDrain_23 : decode cX0_putDrain 23 = .ok (.aload_n 0, 1) := by decide +kernel
theorem dX0_putDrain_24 : decode cX0_putDrain 24 = .ok (.getfield 31, 3) := by decide +kernel
theorem dX0_putDrain_27 : decode cX0_putDrain 27 = .ok (.iload 5, 2) := by decide +kernel
theorem dX0_putDrain_29 : decode cX0_putDrain 29 = .ok (.iload_n 2, 1) := by decide +kernel
theorem dX0_putDrain_30 : decode cX0_putDrain 30 = .ok (.iastore, 1) := by decide +kernel
theorem dX0_putDrain_31 : decode cX0_putDrain 31 = .ok (.aload_n 0, 1) := by decide +kernel
theorem dX0_putDrain_32 : decode cX0_putDrain 32 = .ok (.getfield 34, 3) := by decide +kernel
theorem dX0_putDrain_35 : decode cX0_putDrain 35 = .ok (.iload 5, 2) := by decide +kernel
theorem dX0_putDrain_37 : decode cX0_putDrain 37 = .ok (.iload_n 3, 1) := by decide +kernel
theorem dX0_putDrain_38 : decode cX0_putDrain 38 = .ok (.iastore, 1) := by decide +kernel
theorem dX0_putDrain_39 : decode cX0_putDrain 39 = .ok (.aload_n 0, 1) := by decide +kernel
theorem dX0_putDrain_40 : decode cX0_putDrain 40 = .ok (.getfield 40, 3) := by decide +kernel
theorem dX0_putDrain_43 : decode cX0_putDrain 43 = .ok (.iload 5, 2) := by decide +kernel
theorem dX0_putDrain_45 : decode cX0_putDrain 45 = .ok (.iload 4, 2) := by decide +kernel
theorem dX0_putDrain_47 : decode cX0_putDrain 47 = .ok (.bastore, 1) := by decide +kernel
theorem dX0_putDrain_48 : decode cX0_putDrain 48 = .ok (.aload_n 0, 1) := by decide +kernel
theorem dX0_putDrain_49 : decode cX0_putDrain 49 = .ok (.getfield 43, 3) := by decide +kernel
theorem dX0_putDrain_52 : decode cX0_putDrain 52 = .ok (.iload 5, 2) := by decide +kernel
theorem dX0_putDrain_54 : decode cX0_putDrain 54 = .ok (.iconst 1, 1) := by decide +kernel
theorem dX0_putDrain_55 : decode cX0_putDrain 55 = .ok (.bastore, 1) := by decide +kernel
theorem dX0_putDrain_56 : decode cX0_putDrain 56 = .ok (.aload_n 0, 1) := by decide +kernel
theorem dX0_putDrain_57 : decode cX0_putDrain 57 = .ok (.iload 5, 2) := by decide +kernel
theorem dX0_putDrain_59 : decode cX0_putDrain 59 = .ok (.iconst 1, 1) := by decide +kernel
theorem dX0_putDrain_60 : decode cX0_putDrain 60 = .ok (.iadd, 1) := by decide +kernel
theorem dX0_putDrain_61 : decode cX0_putDrain 61 = .ok (.putfield 50, 3) := by decide +kernel
theorem dX0_putDrain_64 : decode cX0_putDrain 64 = .ok (.iload 5, 2) := by decide +kernel
theorem dX0_putDrain_66 : decode cX0_putDrain 66 = .ok (.ireturn, 1) := by decide +kernel
theorem dX0_turnDrain_0 : decode cX0_turnDrain 0 = .ok (.aload_n 0, 1) := by decide +kernel
theorem dX0_turnDrain_1 : decode cX0_turnDrain 1 = .ok (.iload_n 1, 1) := by decide +kernel
theorem dX0_turnDrain_2 : decode cX0_turnDrain 2 = .ok (.invokevirtual 53, 3) := by decide +kernel
theorem dX0_turnDrain_5 : decode cX0_turnDrain 5 = .ok (.ifCond .eq 23, 3) := by decide +kernel
theorem dX0_turnDrain_8 : decode cX0_turnDrain 8 = .ok (.aload_n 0, 1) := by decide +kernel
theorem dX0_turnDrain_9 : decode cX0_turnDrain 9 = .ok (.getfield 43, 3) := by decide +kernel
theorem dX0_turnDrain_12 : decode cX0_turnDrain 12 = .ok (.iload_n 1, 1) := by decide +kernel
theorem dX0_turnDrain_13 : decode cX0_turnDrain 13 = .ok (.aload_n 0, 1) := by decide +kernel
theorem dX0_turnDrain_14 : decode cX0_turnDrain 14 = .ok (.getfield 43, 3) := by decide +kernel
theorem dX0_turnDrain_17 : decode cX0_turnDrain 17 = .ok (.iload_n 1, 1) := by decide +kernel
theorem dX0_turnDrain_18 : decode cX0_turnDrain 18 = .ok (.baload, 1) := by decide +kernel
theorem dX0_turnDrain_19 : decode cX0_turnDrain 19 = .ok (.ifCond .ne 7, 3) := by decide +kernel
theorem dX0_turnDrain_22 : decode cX0_turnDrain 22 = .ok (.iconst 1, 1) := by decide +kernel
theorem dX0_turnDrain_23 : decode cX0_turnDrain 23 = .ok (.goto 4, 3) := by decide +kernel
theorem dX0_turnDrain_26 : decode cX0_turnDrain 26 = .ok (.iconst 0, 1) := by decide +kernel
theorem dX0_turnDrain_27 : decode cX0_turnDrain 27 = .ok (.bastore, 1) := by decide +kernel
theorem dX0_turnDrain_28 : decode cX0_turnDrain 28 = .ok (.return_, 1) := by decide +kernel
theorem dX0_letWaterIn_0 : decode cX0_letWaterIn 0 = .ok (.aload_n 0, 1) := by decide +kernel
theorem dX0_letWaterIn_1 : decode cX0_letWaterIn 1 = .ok (.iload_n 1, 1) := by decide +kernel
theorem dX0_letWaterIn_2 : decode cX0_letWaterIn 2 = .ok (.invokevirtual 57, 3) := by decide +kernel
theorem dX0_letWaterIn_5 : decode cX0_letWaterIn 5 = .ok (.ifCond .eq 13, 3) := by decide +kernel
theorem dX0_letWaterIn_8 : decode cX0_letWaterIn 8 = .ok (.aload_n 0, 1) := by decide +kernel
theorem dX0_letWaterIn_9 : decode cX0_letWaterIn 9 = .ok (.getfield 18, 3) := by decide +kernel
theorem dX0_letWaterIn_12 : decode cX0_letWaterIn 12 = .ok (.iload_n 1, 1) := by decide +kernel
theorem dX0_letWaterIn_13 : decode cX0_letWaterIn 13 = .ok (.dup2, 1) := by decide +kernel
theorem dX0_letWaterIn_14 : decode cX0_letWaterIn 14 = .ok (.iaload, 1) := by decide +kernel
theorem dX0_letWaterIn_15 : decode cX0_letWaterIn 15 = .ok (.iload_n 2, 1) := by decide +kernel
theorem dX0_letWaterIn_16 : decode cX0_letWaterIn 16 = .ok (.iadd, 1) := by decide +kernel
theorem dX0_letWaterIn_17 : decode cX0_letWaterIn 17 = .ok (.iastore, 1) := by decide +kernel
theorem dX0_letWaterIn_18 : decode cX0_letWaterIn 18 = .ok (.return_, 1) := by decide +kernel
theorem dX0_levelAt_0 : decode cX0_levelAt 0 = .ok (.aload_n 0, 1) := by decide +kernel
theorem dX0_levelAt_1 : decode cX0_levelAt 1 = .ok (.iload_n 1, 1) := by decide +kernel
theorem dX0_levelAt_2 : decode cX0_levelAt 2 = .ok (.invokevirtual 57, 3) := by decide +kernel
theorem dX0_levelAt_5 : decode cX0_levelAt 5 = .ok (.ifCond .eq 19, 3) := by decide +kernel
theorem dX0_levelAt_8 : decode cX0_levelAt 8 = .ok (.aload_n 0, 1) := by decide +kernel
theorem dX0_levelAt_9 : decode cX0_levelAt 9 = .ok (.getfield 9, 3) := by decide +kernel
theorem dX0_levelAt_12 : decode cX0_levelAt 12 = .ok (.iload_n 1, 1) := by decide +kernel
theorem dX0_levelAt_13 : decode cX0_levelAt 13 = .ok (.iaload, 1) := by decide +kernel
theorem dX0_levelAt_14 : decode cX0_levelAt 14 = .ok (.aload_n 0, 1) := by decide +kernel
theorem dX0_levelAt_15 : decode cX0_levelAt 15 = .ok (.getfield 18, 3) := by decide +kernel
theorem dX0_levelAt_18 : decode cX0_levelAt 18 = .ok (.iload_n 1, 1) := by decide +kernel
theorem dX0_levelAt_19 : decode cX0_levelAt 19 = .ok (.iaload, 1) := by decide +kernel
theorem dX0_levelAt_20 : decode cX0_levelAt 20 = .ok (.iadd, 1) := by decide +kernel
theorem dX0_levelAt_21 : decode cX0_levelAt 21 = .ok (.goto 4, 3) := by decide +kernel
theorem dX0_levelAt_24 : decode cX0_levelAt 24 = .ok (.iconst 0, 1) := by decide +kernel
theorem dX0_levelAt_25 : decode cX0_levelAt 25 = .ok (.ireturn, 1) := by decide +kernel
theorem dX0_isWet_0 : decode cX0_isWet 0 = .ok (.aload_n 0, 1) := by decide +kernel
theorem dX0_isWet_1 : decode cX0_isWet 1 = .ok (.iload_n 1, 1) := by decide +kernel
theorem dX0_isWet_2 : decode cX0_isWet 2 = .ok (.invokevirtual 57, 3) := by decide +kernel
theorem dX0_isWet_5 : decode cX0_isWet 5 = .ok (.ifCond .eq 17, 3) := by decide +kernel
theorem dX0_isWet_8 : decode cX0_isWet 8 = .ok (.aload_n 0, 1) := by decide +kernel
theorem dX0_isWet_9 : decode cX0_isWet 9 = .ok (.getfield 18, 3) := by decide +kernel
theorem dX0_isWet_12 : decode cX0_isWet 12 = .ok (.iload_n 1, 1) := by decide +kernel
theorem dX0_isWet_13 : decode cX0_isWet 13 = .ok (.iaload, 1) := by decide +kernel
theorem dX0_isWet_14 : decode cX0_isWet 14 = .ok (.iconst 4, 1) := by decide +kernel
theorem dX0_isWet_15 : decode cX0_isWet 15 = .ok (.if_icmp .lt 7, 3) := by decide +kernel
theorem dX0_isWet_18 : decode cX0_isWet 18 = .ok (.iconst 1, 1) := by decide +kernel
theorem dX0_isWet_19 : decode cX0_isWet 19 = .ok (.goto 4, 3) := by decide +kernel
theorem dX0_isWet_22 : decode cX0_isWet 22 = .ok (.iconst 0, 1) := by decide +kernel
theorem dX0_isWet_23 : decode cX0_isWet 23 = .ok (.ireturn, 1) := by decide +kernel
theorem dX0_countRuined_0 : decode cX0_countRuined 0 = .ok (.iconst 0, 1) := by decide +kernel
theorem dX0_countRuined_1 : decode cX0_countRuined 1 = .ok (.istore_n 1, 1) := by decide +kernel
theorem dX0_countRuined_2 : decode cX0_countRuined 2 = .ok (.iconst 0, 1) := by decide +kernel
theorem dX0_countRuined_3 : decode cX0_countRuined 3 = .ok (.istore_n 2, 1) := by decide +kernel
theorem dX0_countRuined_4 : decode cX0_countRuined 4 = .ok (.iload_n 2, 1) := by decide +kernel
theorem dX0_countRuined_5 : decode cX0_countRuined 5 = .ok (.aload_n 0, 1) := by decide +kernel
theorem dX0_countRuined_6 : decode cX0_countRuined 6 = .ok (.getfield 46, 3) := by decide +kernel
theorem dX0_countRuined_9 : decode cX0_countRuined 9 = .ok (.if_icmp .ge 21, 3) := by decide +kernel
theorem dX0_countRuined_12 : decode cX0_countRuined 12 = .ok (.aload_n 0, 1) := by decide +kernel
theorem dX0_countRuined_13 : decode cX0_countRuined 13 = .ok (.getfield 24, 3) := by decide +kernel
theorem dX0_countRuined_16 : decode cX0_countRuined 16 = .ok (.iload_n 2, 1) := by decide +kernel
theorem dX0_countRuined_17 : decode cX0_countRuined 17 = .ok (.baload, 1) := by decide +kernel
theorem dX0_countRuined_18 : decode cX0_countRuined 18 = .ok (.ifCond .eq 6, 3) := by decide +kernel
theorem dX0_countRuined_21 : decode cX0_countRuined 21 = .ok (.iinc 1 1, 3) := by decide +kernel
theorem dX0_countRuined_24 : decode cX0_countRuined 24 = .ok (.iinc 2 1, 3) := by decide +kernel
theorem dX0_countRuined_27 : decode cX0_countRuined 27 = .ok (.goto (-23), 3) := by decide +kernel
theorem dX0_countRuined_30 : decode cX0_countRuined 30 = .ok (.iload_n 1, 1) := by decide +kernel
theorem dX0_countRuined_31 : decode cX0_countRuined 31 = .ok (.ireturn, 1) := by decide +kernel
theorem dX0_lostWorth_0 : decode cX0_lostWorth 0 = .ok (.iconst 0, 1) := by decide +kernel
theorem dX0_lostWorth_1 : decode cX0_lostWorth 1 = .ok (.istore_n 1, 1) := by decide +kernel
theorem dX0_lostWorth_2 : decode cX0_lostWorth 2 = .ok (.iconst 0, 1) := by decide +kernel
theorem dX0_lostWorth_3 : decode cX0_lostWorth 3 = .ok (.istore_n 2, 1) := by decide +kernel
theorem dX0_lostWorth_4 : decode cX0_lostWorth 4 = .ok (.iload_n 2, 1) := by decide +kernel
theorem dX0_lostWorth_5 : decode cX0_lostWorth 5 = .ok (.aload_n 0, 1) := by decide +kernel
theorem dX0_lostWorth_6 : decode cX0_lostWorth 6 = .ok (.getfield 46, 3) := by decide +kernel
theorem dX0_lostWorth_9 : decode cX0_lostWorth 9 = .ok (.if_icmp .ge 27, 3) := by decide +kernel
theorem dX0_lostWorth_12 : decode cX0_lostWorth 12 = .ok (.aload_n 0, 1) := by decide +kernel
theorem dX0_lostWorth_13 : decode cX0_lostWorth 13 = .ok (.getfield 24, 3) := by decide +kernel
theorem dX0_lostWorth_16 : decode cX0_lostWorth 16 = .ok (.iload_n 2, 1) := by decide +kernel
theorem dX0_lostWorth_17 : decode cX0_lostWorth 17 = .ok (.baload, 1) := by decide +kernel
theorem dX0_lostWorth_18 : decode cX0_lostWorth 18 = .ok (.ifCond .eq 12, 3) := by decide +kernel
theorem dX0_lostWorth_21 : decode cX0_lostWorth 21 = .ok (.iload_n 1, 1) := by decide +kernel
theorem dX0_lostWorth_22 : decode cX0_lostWorth 22 = .ok (.aload_n 0, 1) := by decide +kernel
theorem dX0_lostWorth_23 : decode cX0_lostWorth 23 = .ok (.getfield 15, 3) := by decide +kernel
theorem dX0_lostWorth_26 : decode cX0_lostWorth 26 = .ok (.iload_n 2, 1) := by decide +kernel
theorem dX0_lostWorth_27 : decode cX0_lostWorth 27 = .ok (.iaload, 1) := by decide +kernel
theorem dX0_lostWorth_28 : decode cX0_lostWorth 28 = .ok (.iadd, 1) := by decide +kernel
theorem dX0_lostWorth_29 : decode cX0_lostWorth 29 = .ok (.istore_n 1, 1) := by decide +kernel
theorem dX0_lostWorth_30 : decode cX0_lostWorth 30 = .ok (.iinc 2 1, 3) := by decide +kernel
theorem dX0_lostWorth_33 : decode cX0_lostWorth 33 = .ok (.goto (-29), 3) := by decide +kernel
theorem dX0_lostWorth_36 : decode cX0_lostWorth 36 = .ok (.iload_n 1, 1) := by decide +kernel
theorem dX0_lostWorth_37 : decode cX0_lostWorth 37 = .ok (.ireturn, 1) := by decide +kernel
theorem dX0_passHours_0 : decode cX0_passHours 0 = .ok (.iconst 0, 1) := by decide +kernel
theorem dX0_passHours_1 : decode cX0_passHours 1 = .ok (.istore_n 2, 1) := by decide +kernel
theorem dX0_passHours_2 : decode cX0_passHours 2 = .ok (.iload_n 2, 1) := by decide +kernel
theorem dX0_passHours_3 : decode cX0_passHours 3 = .ok (.iload_n 1, 1) := by decide +kernel
theorem dX0_passHours_4 : decode cX0_passHours 4 = .ok (.if_icmp .ge 13, 3) := by decide +kernel
theorem dX0_passHours_7 : decode cX0_passHours 7 = .ok (.aload_n 0, 1) := by decide +kernel
theorem dX0_passHours_8 : decode cX0_passHours 8 = .ok (.invokevirtual 60, 3) := by decide +kernel
theorem dX0_passHours_11 : decode cX0_passHours 11 = .ok (.iinc 2 1, 3) := by decide +kernel
theorem dX0_passHours_14 : decode cX0_passHours 14 = .ok (.goto (-12), 3) := by decide +kernel
theorem dX0_passHours_17 : decode cX0_passHours 17 = .ok (.return_, 1) := by decide +kernel
theorem dX0_passHour_0 : decode cX0_passHour 0 = .ok (.iconst 0, 1) := by decide +kernel
theorem dX0_passHour_1 : decode cX0_passHour 1 = .ok (.istore_n 1, 1) := by decide +kernel
theorem dX0_passHour_2 : decode cX0_passHour 2 = .ok (.iload_n 1, 1) := by decide +kernel
theorem dX0_passHour_3 : decode cX0_passHour 3 = .ok (.aload_n 0, 1) := by decide +kernel
theorem dX0_passHour_4 : decode cX0_passHour 4 = .ok (.getfield 46, 3) := by decide +kernel
theorem dX0_passHour_7 : decode cX0_passHour 7 = .ok (.if_icmp .ge 22, 3) := by decide +kernel
theorem dX0_passHour_10 : decode cX0_passHour 10 = .ok (.aload_n 0, 1) := by decide +kernel
theorem dX0_passHour_11 : decode cX0_passHour 11 = .ok (.getfield 18, 3) := by decide +kernel
theorem dX0_passHour_14 : decode cX0_passHour 14 = .ok (.iload_n 1, 1) := by decide +kernel
theorem dX0_passHour_15 : decode cX0_passHour 15 = .ok (.dup2, 1) := by decide +kernel
theorem dX0_passHour_16 : decode cX0_passHour 16 = .ok (.iaload, 1) := by decide +kernel
theorem dX0_passHour_17 : decode cX0_passHour 17 = .ok (.aload_n 0, 1) := by decide +kernel
theorem dX0_passHour_18 : decode cX0_passHour 18 = .ok (.getfield 63, 3) := by decide +kernel
theorem dX0_passHour_21 : decode cX0_passHour 21 = .ok (.iadd, 1) := by decide +kernel
theorem dX0_passHour_22 : decode cX0_passHour 22 = .ok (.iastore, 1) := by decide +kernel
theorem dX0_passHour_23 : decode cX0_passHour 23 = .ok (.iinc 1 1, 3) := by decide +kernel
theorem dX0_passHour_26 : decode cX0_passHour 26 = .ok (.goto (-24), 3) := by decide +kernel
theorem dX0_passHour_29 : decode cX0_passHour 29 = .ok (.iconst 0, 1) := by decide +kernel
theorem dX0_passHour_30 : decode cX0_passHour 30 = .ok (.istore_n 1, 1) := by decide +kernel
theorem dX0_passHour_31 : decode cX0_passHour 31 = .ok (.iload_n 1, 1) := by decide +kernel
theorem dX0_passHour_32 : decode cX0_passHour 32 = .ok (.aload_n 0, 1) := by decide +kernel
theorem dX0_passHour_33 : decode cX0_passHour 33 = .ok (.getfield 50, 3) := by decide +kernel
theorem dX0_passHour_36 : decode cX0_passHour 36 = .ok (.if_icmp .ge 19, 3) := by decide +kernel
theorem dX0_passHour_39 : decode cX0_passHour 39 = .ok (.aload_n 0, 1) := by decide +kernel
theorem dX0_passHour_40 : decode cX0_passHour 40 = .ok (.iload_n 1, 1) := by decide +kernel
theorem dX0_passHour_41 : decode cX0_passHour 41 = .ok (.aload_n 0, 1) := by decide +kernel
theorem dX0_passHour_42 : decode cX0_passHour 42 = .ok (.iload_n 1, 1) := by decide +kernel
theorem dX0_passHour_43 : decode cX0_passHour 43 = .ok (.invokevirtual 66, 3) := by decide +kernel
theorem dX0_passHour_46 : decode cX0_passHour 46 = .ok (.invokevirtual 70, 3) := by decide +kernel
theorem dX0_passHour_49 : decode cX0_passHour 49 = .ok (.iinc 1 1, 3) := by decide +kernel
theorem dX0_passHour_52 : decode cX0_passHour 52 = .ok (.goto (-21), 3) := by decide +kernel
theorem dX0_passHour_55 : decode cX0_passHour 55 = .ok (.aload_n 0, 1) := by decide +kernel
theorem dX0_passHour_56 : decode cX0_passHour 56 = .ok (.invokevirtual 74, 3) := by decide +kernel
theorem dX0_passHour_59 : decode cX0_passHour 59 = .ok (.aload_n 0, 1) := by decide +kernel
theorem dX0_passHour_60 : decode cX0_passHour 60 = .ok (.dup, 1) := by decide +kernel
theorem dX0_passHour_61 : decode cX0_passHour 61 = .ok (.getfield 77, 3) := by decide +kernel
theorem dX0_passHour_64 : decode cX0_passHour 64 = .ok (.iconst 1, 1) := by decide +kernel
theorem dX0_passHour_65 : decode cX0_passHour 65 = .ok (.iadd, 1) := by decide +kernel
theorem dX0_passHour_66 : decode cX0_passHour 66 = .ok (.putfield 77, 3) := by decide +kernel
theorem dX0_passHour_69 : decode cX0_passHour 69 = .ok (.return_, 1) := by decide +kernel
theorem dX0_letFlow_0 : decode cX0_letFlow 0 = .ok (.aload_n 0, 1) := by decide +kernel
theorem dX0_letFlow_1 : decode cX0_letFlow 1 = .ok (.iload_n 1, 1) := by decide +kernel
theorem dX0_letFlow_2 : decode cX0_letFlow 2 = .ok (.invokevirtual 53, 3) := by decide +kernel
theorem dX0_letFlow_5 : decode cX0_letFlow 5 = .ok (.ifCond .ne 4, 3) := by decide +kernel
theorem dX0_letFlow_8 : decode cX0_letFlow 8 = .ok (.return_, 1) := by decide +kernel
theorem dX0_letFlow_9 : decode cX0_letFlow 9 = .ok (.aload_n 0, 1) := by decide +kernel
theorem dX0_letFlow_10 : decode cX0_letFlow 10 = .ok (.aload_n 0, 1) := by decide +kernel
theorem dX0_letFlow_11 : decode cX0_letFlow 11 = .ok (.getfield 28, 3) := by decide +kernel
theorem dX0_letFlow_14 : decode cX0_letFlow 14 = .ok (.iload_n 1, 1) := by decide +kernel
theorem dX0_letFlow_15 : decode cX0_letFlow 15 = .ok (.iaload, 1) := by decide +kernel
theorem dX0_letFlow_16 : decode cX0_letFlow 16 = .ok (.iload_n 2, 1) := by decide +kernel
theorem dX0_letFlow_17 : decode cX0_letFlow 17 = .ok (.ineg, 1) := by decide +kernel
theorem dX0_letFlow_18 : decode cX0_letFlow 18 = .ok (.invokevirtual 80, 3) := by decide +kernel
theorem dX0_letFlow_21 : decode cX0_letFlow 21 = .ok (.aload_n 0, 1) := by decide +kernel
theorem dX0_letFlow_22 : decode cX0_letFlow 22 = .ok (.getfield 31, 3) := by decide +kernel
theorem dX0_letFlow_25 : decode cX0_letFlow 25 = .ok (.iload_n 1, 1) := by decide +kernel
theorem dX0_letFlow_26 : decode cX0_letFlow 26 = .ok (.iaload, 1) := by decide +kernel
theorem dX0_letFlow_27 : decode cX0_letFlow 27 = .ok (.iconst (-1), 1) := by decide +kernel
theorem dX0_letFlow_28 : decode cX0_letFlow 28 = .ok (.if_icmp .ne 16, 3) := by decide +kernel
theorem dX0_letFlow_31 : decode cX0_letFlow 31 = .ok (.aload_n 0, 1) := by decide +kernel
theorem dX0_letFlow_32 : decode cX0_letFlow 32 = .ok (.dup, 1) := by decide +kernel
theorem dX0_letFlow_33 : decode cX0_letFlow 33 = .ok (.getfield 83, 3) := by decide +kernel
theorem dX0_letFlow_36 : decode cX0_letFlow 36 = .ok (.iload_n 2, 1) := by decide +kernel
theorem dX0_letFlow_37 : decode cX0_letFlow 37 = .ok (.iadd, 1) := by decide +kernel
theorem dX0_letFlow_38 : decode cX0_letFlow 38 = .ok (.putfield 83, 3) := by decide +kernel
theorem dX0_letFlow_41 : decode cX0_letFlow 41 = .ok (.goto 14, 3) := by decide +kernel
theorem dX0_letFlow_44 : decode cX0_letFlow 44 = .ok (.aload_n 0, 1) := by decide +kernel
theorem dX0_letFlow_45 : decode cX0_letFlow 45 = .ok (.aload_n 0, 1) := by decide +kernel
theorem dX0_letFlow_46 : decode cX0_letFlow 46 = .ok (.getfield 31, 3) := by decide +kernel
theorem dX0_letFlow_49 : decode cX0_letFlow 49 = .ok (.iload_n 1, 1) := by decide +kernel
theorem dX0_letFlow_50 : decode cX0_letFlow 50 = .ok (.iaload, 1) := by decide +kernel
theorem dX0_letFlow_51 : decode cX0_letFlow 51 = .ok (.iload_n 2, 1) := by decide +kernel
theorem dX0_letFlow_52 : decode cX0_letFlow 52 = .ok (.invokevirtual 80, 3) := by decide +kernel
theorem dX0_letFlow_55 : decode cX0_letFlow 55 = .ok (.aload_n 0, 1) := by decide +kernel
theorem dX0_letFlow_56 : decode cX0_letFlow 56 = .ok (.getfield 37, 3) := by decide +kernel
theorem dX0_letFlow_59 : decode cX0_letFlow 59 = .ok (.iload_n 1, 1) := by decide +kernel
theorem dX0_letFlow_60 : decode cX0_letFlow 60 = .ok (.dup2, 1) := by decide +kernel
theorem dX0_letFlow_61 : decode cX0_letFlow 61 = .ok (.iaload, 1) := by decide +kernel
theorem dX0_letFlow_62 : decode cX0_letFlow 62 = .ok (.iload_n 2, 1) := by decide +kernel
theorem dX0_letFlow_63 : decode cX0_letFlow 63 = .ok (.invokestatic 86, 3) := by decide +kernel
theorem dX0_letFlow_66 : decode cX0_letFlow 66 = .ok (.iadd, 1) := by decide +kernel
theorem dX0_letFlow_67 : decode cX0_letFlow 67 = .ok (.iastore, 1) := by decide +kernel
theorem dX0_letFlow_68 : decode cX0_letFlow 68 = .ok (.return_, 1) := by decide +kernel
theorem dX0_flowNow_0 : decode cX0_flowNow 0 = .ok (.aload_n 0, 1) := by decide +kernel
theorem dX0_flowNow_1 : decode cX0_flowNow 1 = .ok (.iload_n 1, 1) := by decide +kernel
theorem dX0_flowNow_2 : decode cX0_flowNow 2 = .ok (.invokevirtual 53, 3) := by decide +kernel
theorem dX0_flowNow_5 : decode cX0_flowNow 5 = .ok (.ifCond .eq 25, 3) := by decide +kernel
theorem dX0_flowNow_8 : decode cX0_flowNow 8 = .ok (.aload_n 0, 1) := by decide +kernel
theorem dX0_flowNow_9 : decode cX0_flowNow 9 = .ok (.getfield 43, 3) := by decide +kernel
theorem dX0_flowNow_12 : decode cX0_flowNow 12 = .ok (.iload_n 1, 1) := by decide +kernel
theorem dX0_flowNow_13 : decode cX0_flowNow 13 = .ok (.baload, 1) := by decide +kernel
theorem dX0_flowNow_14 : decode cX0_flowNow 14 = .ok (.ifCond .eq 16, 3) := by decide +kernel
theorem dX0_flowNow_17 : decode cX0_flowNow 17 = .ok (.aload_n 0, 1) := by decide +kernel
theorem dX0_flowNow_18 : decode cX0_flowNow 18 = .ok (.aload_n 0, 1) := by decide +kernel
theorem dX0_flowNow_19 : decode cX0_flowNow 19 = .ok (.getfield 28, 3) := by decide +kernel
theorem dX0_flowNow_22 : decode cX0_flowNow 22 = .ok (.iload_n 1, 1) := by decide +kernel
theorem dX0_flowNow_23 : decode cX0_flowNow 23 = .ok (.iaload, 1) := by decide +kernel
theorem dX0_flowNow_24 : decode cX0_flowNow 24 = .ok (.invokevirtual 57, 3) := by decide +kernel
theorem dX0_flowNow_27 : decode cX0_flowNow 27 = .ok (.ifCond .ne 5, 3) := by decide +kernel
theorem dX0_flowNow_30 : decode cX0_flowNow 30 = .ok (.iconst 0, 1) := by decide +kernel
theorem dX0_flowNow_31 : decode cX0_flowNow 31 = .ok (.ireturn, 1) := by decide +kernel
theorem dX0_flowNow_32 : decode cX0_flowNow 32 = .ok (.aload_n 0, 1) := by decide +kernel
theorem dX0_flowNow_33 : decode cX0_flowNow 33 = .ok (.getfield 28, 3) := by decide +kernel
theorem dX0_flowNow_36 : decode cX0_flowNow 36 = .ok (.iload_n 1, 1) := by decide +kernel
theorem dX0_flowNow_37 : decode cX0_flowNow 37 = .ok (.iaload, 1) := by decide +kernel
theorem dX0_flowNow_38 : decode cX0_flowNow 38 = .ok (.istore_n 2, 1) := by decide +kernel
theorem dX0_flowNow_39 : decode cX0_flowNow 39 = .ok (.aload_n 0, 1) := by decide +kernel
theorem dX0_flowNow_40 : decode cX0_flowNow 40 = .ok (.getfield 31, 3) := by decide +kernel
theorem dX0_flowNow_43 : decode cX0_flowNow 43 = .ok (.iload_n 1, 1) := by decide +kernel
theorem dX0_flowNow_44 : decode cX0_flowNow 44 = .ok (.iaload, 1) := by decide +kernel
theorem dX0_flowNow_45 : decode cX0_flowNow 45 = .ok (.istore_n 3, 1) := by decide +kernel
theorem dX0_flowNow_46 : decode cX0_flowNow 46 = .ok (.aload_n 0, 1) := by decide +kernel
theorem dX0_flowNow_47 : decode cX0_flowNow 47 = .ok (.getfield 40, 3) := by decide +kernel
theorem dX0_flowNow_50 : decode cX0_flowNow 50 = .ok (.iload_n 1, 1) := by decide +kernel
theorem dX0_flowNow_51 : decode cX0_flowNow 51 = .ok (.baload, 1) := by decide +kernel
theorem dX0_flowNow_52 : decode cX0_flowNow 52 = .ok (.ifCond .eq 19, 3) := by decide +kernel
theorem dX0_flowNow_55 : decode cX0_flowNow 55 = .ok (.aload_n 0, 1) := by decide +kernel
theorem dX0_flowNow_56 : decode cX0_flowNow 56 = .ok (.getfield 34, 3) := by decide +kernel
theorem dX0_flowNow_59 : decode cX0_flowNow 59 = .ok (.iload_n 1, 1) := by decide +kernel
theorem dX0_flowNow_60 : decode cX0_flowNow 60 = .ok (.iaload, 1) := by decide +kernel
theorem dX0_flowNow_61 : decode cX0_flowNow 61 = .ok (.aload_n 0, 1) := by decide +kernel
theorem dX0_flowNow_62 : decode cX0_flowNow 62 = .ok (.getfield 18, 3) := by decide +kernel
theorem dX0_flowNow_65 : decode cX0_flowNow 65 = .ok (.iload_n 2, 1) := by decide +kernel
theorem dX0_flowNow_66 : decode cX0_flowNow 66 = .ok (.iaload, 1) := by decide +kernel
theorem dX0_flowNow_67 : decode cX0_flowNow 67 = .ok (.invokestatic 91, 3) := by decide +kernel
theorem dX0_flowNow_70 : decode cX0_flowNow 70 = .ok (.ireturn, 1) := by decide +kernel
theorem dX0_flowNow_71 : decode cX0_flowNow 71 = .ok (.aload_n 0, 1) := by decide +kernel
theorem dX0_flowNow_72 : decode cX0_flowNow 72 = .ok (.iload_n 3, 1) := by decide +kernel
theorem dX0_flowNow_73 : decode cX0_flowNow 73 = .ok (.invokevirtual 57, 3) := by decide +kernel
theorem dX0_flowNow_76 : decode cX0_flowNow 76 = .ok (.ifCond .ne 5, 3) := by decide +kernel
theorem dX0_flowNow_79 : decode cX0_flowNow 79 = .ok (.iconst 0, 1) := by decide +kernel
theorem dX0_flowNow_80 : decode cX0_flowNow 80 = .ok (.ireturn, 1) := by decide +kernel
theorem dX0_flowNow_81 : decode cX0_flowNow 81 = .ok (.aload_n 0, 1) := by decide +kernel
theorem dX0_flowNow_82 : decode cX0_flowNow 82 = .ok (.getfield 9, 3) := by decide +kernel
theorem dX0_flowNow_85 : decode cX0_flowNow 85 = .ok (.iload_n 2, 1) := by decide +kernel
theorem dX0_flowNow_86 : decode cX0_flowNow 86 = .ok (.iaload, 1) := by decide +kernel
theorem dX0_flowNow_87 : decode cX0_flowNow 87 = .ok (.aload_n 0, 1) := by decide +kernel
theorem dX0_flowNow_88 : decode cX0_flowNow 88 = .ok (.getfield 18, 3) := by decide +kernel
theorem dX0_flowNow_91 : decode cX0_flowNow 91 = .ok (.iload_n 2, 1) := by decide +kernel
theorem dX0_flowNow_92 : decode cX0_flowNow 92 = .ok (.iaload, 1) := by decide +kernel
theorem dX0_flowNow_93 : decode cX0_flowNow 93 = .ok (.iadd, 1) := by decide +kernel
theorem dX0_flowNow_94 : decode cX0_flowNow 94 = .ok (.aload_n 0, 1) := by decide +kernel
theorem dX0_flowNow_95 : decode cX0_flowNow 95 = .ok (.getfield 9, 3) := by decide +kernel
theorem dX0_flowNow_98 : decode cX0_flowNow 98 = .ok (.iload_n 3, 1) := by decide +kernel
theorem dX0_flowNow_99 : decode cX0_flowNow 99 = .ok (.iaload, 1) := by decide +kernel
theorem dX0_flowNow_100 : decode cX0_flowNow 100 = .ok (.isub, 1) := by decide +kernel
theorem dX0_flowNow_101 : decode cX0_flowNow 101 = .ok (.aload_n 0, 1) := by decide +kernel
theorem dX0_flowNow_102 : decode cX0_flowNow 102 = .ok (.getfield 18, 3) := by decide +kernel
theorem dX0_flowNow_105 : decode cX0_flowNow 105 = .ok (.iload_n 3, 1) := by decide +kernel
theorem dX0_flowNow_106 : decode cX0_flowNow 106 = .ok (.iaload, 1) := by decide +kernel
theorem dX0_flowNow_107 : decode cX0_flowNow 107 = .ok (.isub, 1) := by decide +kernel
theorem dX0_flowNow_108 : decode cX0_flowNow 108 = .ok (.iconst 2, 1) := by decide +kernel
theorem dX0_flowNow_109 : decode cX0_flowNow 109 = .ok (.idiv, 1) := by decide +kernel
theorem dX0_flowNow_110 : decode cX0_flowNow 110 = .ok (.istore 4, 2) := by decide +kernel
theorem dX0_flowNow_112 : decode cX0_flowNow 112 = .ok (.iload 4, 2) := by decide +kernel
theorem dX0_flowNow_114 : decode cX0_flowNow 114 = .ok (.ifCond .lt 24, 3) := by decide +kernel
theorem dX0_flowNow_117 : decode cX0_flowNow 117 = .ok (.iload 4, 2) := by decide +kernel
theorem dX0_flowNow_119 : decode cX0_flowNow 119 = .ok (.aload_n 0, 1) := by decide +kernel
theorem dX0_flowNow_120 : decode cX0_flowNow 120 = .ok (.getfield 34, 3) := by decide +kernel
theorem dX0_flowNow_123 : decode cX0_flowNow 123 = .ok (.iload_n 1, 1) := by decide +kernel
theorem dX0_flowNow_124 : decode cX0_flowNow 124 = .ok (.iaload, 1) := by decide +kernel
theorem dX0_flowNow_125 : decode cX0_flowNow 125 = .ok (.aload_n 0, 1) := by decide +kernel
theorem dX0_flowNow_126 : decode cX0_flowNow 126 = .ok (.getfield 18, 3) := by decide +kernel
theorem dX0_flowNow_129 : decode cX0_flowNow 129 = .ok (.iload_n 2, 1) := by decide +kernel
theorem dX0_flowNow_130 : decode cX0_flowNow 130 = .ok (.iaload, 1) := by decide +kernel
theorem dX0_flowNow_131 : decode cX0_flowNow 131 = .ok (.invokestatic 91, 3) := by decide +kernel
theorem dX0_flowNow_134 : decode cX0_flowNow 134 = .ok (.invokestatic 91, 3) := by decide +kernel
theorem dX0_flowNow_137 : decode cX0_flowNow 137 = .ok (.ireturn, 1) := by decide +kernel
theorem dX0_flowNow_138 : decode cX0_flowNow 138 = .ok (.iload 4, 2) := by decide +kernel
theorem dX0_flowNow_140 : decode cX0_flowNow 140 = .ok (.ineg, 1) := by decide +kernel
theorem dX0_flowNow_141 : decode cX0_flowNow 141 = .ok (.aload_n 0, 1) := by decide +kernel
theorem dX0_flowNow_142 : decode cX0_flowNow 142 = .ok (.getfield 34, 3) := by decide +kernel
theorem dX0_flowNow_145 : decode cX0_flowNow 145 = .ok (.iload_n 1, 1) := by decide +kernel
theorem dX0_flowNow_146 : decode cX0_flowNow 146 = .ok (.iaload, 1) := by decide +kernel
theorem dX0_flowNow_147 : decode cX0_flowNow 147 = .ok (.aload_n 0, 1) := by decide +kernel
theorem dX0_flowNow_148 : decode cX0_flowNow 148 = .ok (.getfield 18, 3) := by decide +kernel
theorem dX0_flowNow_151 : decode cX0_flowNow 151 = .ok (.iload_n 3, 1) := by decide +kernel
theorem dX0_flowNow_152 : decode cX0_flowNow 152 = .ok (.iaload, 1) := by decide +kernel
theorem dX0_flowNow_153 : decode cX0_flowNow 153 = .ok (.invokestatic 91, 3) := by decide +kernel
theorem dX0_flowNow_156 : decode cX0_flowNow 156 = .ok (.invokestatic 91, 3) := by decide +kernel
theorem dX0_flowNow_159 : decode cX0_flowNow 159 = .ok (.ineg, 1) := by decide +kernel
theorem dX0_flowNow_160 : decode cX0_flowNow 160 = .ok (.ireturn, 1) := by decide +kernel
theorem dX0_countWetHours_0 : decode cX0_countWetHours 0 = .ok (.iconst 0, 1) := by decide +kernel
theorem dX0_countWetHours_1 : decode cX0_countWetHours 1 = .ok (.istore_n 1, 1) := by decide +kernel
theorem dX0_countWetHours_2 : decode cX0_countWetHours 2 = .ok (.iload_n 1, 1) := by decide +kernel
theorem dX0_countWetHours_3 : decode cX0_countWetHours 3 = .ok (.aload_n 0, 1) := by decide +kernel
theorem dX0_countWetHours_4 : decode cX0_countWetHours 4 = .ok (.getfield 46, 3) := by decide +kernel
theorem dX0_countWetHours_7 : decode cX0_countWetHours 7 = .ok (.if_icmp .ge 53, 3) := by decide +kernel
theorem dX0_countWetHours_10 : decode cX0_countWetHours 10 = .ok (.aload_n 0, 1) := by decide +kernel
theorem dX0_countWetHours_11 : decode cX0_countWetHours 11 = .ok (.getfield 21, 3) := by decide +kernel
theorem dX0_countWetHours_14 : decode cX0_countWetHours 14 = .ok (.iload_n 1, 1) := by decide +kernel
theorem dX0_countWetHours_15 : decode cX0_countWetHours 15 = .ok (.aload_n 0, 1) := by decide +kernel
theorem dX0_countWetHours_16 : decode cX0_countWetHours 16 = .ok (.iload_n 1, 1) := by decide +kernel
theorem dX0_countWetHours_17 : decode cX0_countWetHours 17 = .ok (.invokevirtual 95, 3) := by decide +kernel
theorem dX0_countWetHours_20 : decode cX0_countWetHours 20 = .ok (.ifCond .eq 14, 3) := by decide +kernel
theorem dX0_countWetHours_23 : decode cX0_countWetHours 23 = .ok (.aload_n 0, 1) := by decide +kernel
theorem dX0_countWetHours_24 : decode cX0_countWetHours 24 = .ok (.getfield 21, 3) := by decide +kernel
theorem dX0_countWetHours_27 : decode cX0_countWetHours 27 = .ok (.iload_n 1, 1) := by decide +kernel
theorem dX0_countWetHours_28 : decode cX0_countWetHours 28 = .ok (.iaload, 1) := by decide +kernel
theorem dX0_countWetHours_29 : decode cX0_countWetHours 29 = .ok (.iconst 1, 1) := by decide +kernel
theorem dX0_countWetHours_30 : decode cX0_countWetHours 30 = .ok (.iadd, 1) := by decide +kernel
theorem dX0_countWetHours_31 : decode cX0_countWetHours 31 = .ok (.goto 4, 3) := by decide +kernel
theorem dX0_countWetHours_34 : decode cX0_countWetHours 34 = .ok (.iconst 0, 1) := by decide +kernel
theorem dX0_countWetHours_35 : decode cX0_countWetHours 35 = .ok (.iastore, 1) := by decide +kernel
theorem dX0_countWetHours_36 : decode cX0_countWetHours 36 = .ok (.aload_n 0, 1) := by decide +kernel
theorem dX0_countWetHours_37 : decode cX0_countWetHours 37 = .ok (.getfield 21, 3) := by decide +kernel
theorem dX0_countWetHours_40 : decode cX0_countWetHours 40 = .ok (.iload_n 1, 1) := by decide +kernel
theorem dX0_countWetHours_41 : decode cX0_countWetHours 41 = .ok (.iaload, 1) := by decide +kernel
theorem dX0_countWetHours_42 : decode cX0_countWetHours 42 = .ok (.bipush 6, 2) := by decide +kernel
theorem dX0_countWetHours_44 : decode cX0_countWetHours 44 = .ok (.if_icmp .lt 10, 3) := by decide +kernel
theorem dX0_countWetHours_47 : decode cX0_countWetHours 47 = .ok (.aload_n 0, 1) := by decide +kernel
theorem dX0_countWetHours_48 : decode cX0_countWetHours 48 = .ok (.getfield 24, 3) := by decide +kernel
theorem dX0_countWetHours_51 : decode cX0_countWetHours 51 = .ok (.iload_n 1, 1) := by decide +kernel
theorem dX0_countWetHours_52 : decode cX0_countWetHours 52 = .ok (.iconst 1, 1) := by decide +kernel
theorem dX0_countWetHours_53 : decode cX0_countWetHours 53 = .ok (.bastore, 1) := by decide +kernel
theorem dX0_countWetHours_54 : decode cX0_countWetHours 54 = .ok (.iinc 1 1, 3) := by decide +kernel
theorem dX0_countWetHours_57 : decode cX0_countWetHours 57 = .ok (.goto (-55), 3) := by decide +kernel
theorem dX0_countWetHours_60 : decode cX0_countWetHours 60 = .ok (.return_, 1) := by decide +kernel
theorem dX0_spreadByDrains_0 : decode cX0_spreadByDrains 0 = .ok (.iload_n 1, 1) := by decide +kernel
theorem dX0_spreadByDrains_1 : decode cX0_spreadByDrains 1 = .ok (.istore_n 2, 1) := by decide +kernel
theorem dX0_spreadByDrains_2 : decode cX0_spreadByDrains 2 = .ok (.iconst 0, 1) := by decide +kernel
theorem dX0_spreadByDrains_3 : decode cX0_spreadByDrains 3 = .ok (.istore_n 3, 1) := by decide +kernel
theorem dX0_spreadByDrains_4 : decode cX0_spreadByDrains 4 = .ok (.iload_n 3, 1) := by decide +kernel
theorem dX0_spreadByDrains_5 : decode cX0_spreadByDrains 5 = .ok (.aload_n 0, 1) := by decide +kernel
theorem dX0_spreadByDrains_6 : decode cX0_spreadByDrains 6 = .ok (.getfield 50, 3) := by decide +kernel
theorem dX0_spreadByDrains_9 : decode cX0_spreadByDrains 9 = .ok (.if_icmp .ge 94, 3) := by decide +kernel
theorem dX0_spreadByDrains_12 : decode cX0_spreadByDrains 12 = .ok (.iconst 1, 1) := by decide +kernel
theorem dX0_spreadByDrains_13 : decode cX0_spreadByDrains 13 = .ok (.aload_n 0, 1) := by decide +kernel
theorem dX0_spreadByDrains_14 : decode cX0_spreadByDrains 14 = .ok (.getfield 28, 3) := by decide +kernel
theorem dX0_spreadByDrains_17 : decode cX0_spreadByDrains 17 = .ok (.iload_n 3, 1) := by decide +kernel
theorem dX0_spreadByDrains_18 : decode cX0_spreadByDrains 18 = .ok (.iaload, 1) := by decide +kernel
theorem dX0_spreadByDrains_19 : decode cX0_spreadByDrains 19 = .ok (.ishl, 1) := by decide +kernel
theorem dX0_spreadByDrains_20 : decode cX0_spreadByDrains 20 = .ok (.istore 4, 2) := by decide +kernel
theorem dX0_spreadByDrains_22 : decode cX0_spreadByDrains 22 = .ok (.aload_n 0, 1) := by decide +kernel
theorem dX0_spreadByDrains_23 : decode cX0_spreadByDrains 23 = .ok (.getfield 31, 3) := by decide +kernel
theorem dX0_spreadByDrains_26 : decode cX0_spreadByDrains 26 = .ok (.iload_n 3, 1) := by decide +kernel
theorem dX0_spreadByDrains_27 : decode cX0_spreadByDrains 27 = .ok (.iaload, 1) := by decide +kernel
theorem dX0_spreadByDrains_28 : decode cX0_spreadByDrains 28 = .ok (.iconst (-1), 1) := by decide +kernel
theorem dX0_spreadByDrains_29 : decode cX0_spreadByDrains 29 = .ok (.if_icmp .ne 7, 3) := by decide +kernel
theorem dX0_spreadByDrains_32 : decode cX0_spreadByDrains 32 = .ok (.iconst 0, 1) := by decide +kernel
theorem dX0_spreadByDrains_33 : decode cX0_spreadByDrains 33 = .ok (.goto 11, 3) := by decide +kernel
theorem dX0_spreadByDrains_36 : decode cX0_spreadByDrains 36 = .ok (.iconst 1, 1) := by decide +kernel
theorem dX0_spreadByDrains_37 : decode cX0_spreadByDrains 37 = .ok (.aload_n 0, 1) := by decide +kernel
theorem dX0_spreadByDrains_38 : decode cX0_spreadByDrains 38 = .ok (.getfield 31, 3) := by decide +kernel
theorem dX0_spreadByDrains_41 : decode cX0_spreadByDrains 41 = .ok (.iload_n 3, 1) := by decide +kernel
theorem dX0_spreadByDrains_42 : decode cX0_spreadByDrains 42 = .ok (.iaload, 1) := by decide +kernel
theorem dX0_spreadByDrains_43 : decode cX0_spreadByDrains 43 = .ok (.ishl, 1) := by decide +kernel
theorem dX0_spreadByDrains_44 : decode cX0_spreadByDrains 44 = .ok (.istore 5, 2) := by decide +kernel
theorem dX0_spreadByDrains_46 : decode cX0_spreadByDrains 46 = .ok (.aload_n 0, 1) := by decide +kernel
theorem dX0_spreadByDrains_47 : decode cX0_spreadByDrains 47 = .ok (.getfield 43, 3) := by decide +kernel
theorem dX0_spreadByDrains_50 : decode cX0_spreadByDrains 50 = .ok (.iload_n 3, 1) := by decide +kernel
theorem dX0_spreadByDrains_51 : decode cX0_spreadByDrains 51 = .ok (.baload, 1) := by decide +kernel
theorem dX0_spreadByDrains_52 : decode cX0_spreadByDrains 52 = .ok (.ifCond .eq 15, 3) := by decide +kernel
theorem dX0_spreadByDrains_55 : decode cX0_spreadByDrains 55 = .ok (.iload_n 2, 1) := by decide +kernel
theorem dX0_spreadByDrains_56 : decode cX0_spreadByDrains 56 = .ok (.iload 4, 2) := by decide +kernel
theorem dX0_spreadByDrains_58 : decode cX0_spreadByDrains 58 = .ok (.iand, 1) := by decide +kernel
theorem dX0_spreadByDrains_59 : decode cX0_spreadByDrains 59 = .ok (.ifCond .eq 8, 3) := by decide +kernel
theorem dX0_spreadByDrains_62 : decode cX0_spreadByDrains 62 = .ok (.iload_n 2, 1) := by decide +kernel
theorem dX0_spreadByDrains_63 : decode cX0_spreadByDrains 63 = .ok (.iload 5, 2) := by decide +kernel
theorem dX0_spreadByDrains_65 : decode cX0_spreadByDrains 65 = .ok (.ior, 1) := by decide +kernel
theorem dX0_spreadByDrains_66 : decode cX0_spreadByDrains 66 = .ok (.istore_n 2, 1) := by decide +kernel
theorem dX0_spreadByDrains_67 : decode cX0_spreadByDrains 67 = .ok (.aload_n 0, 1) := by decide +kernel
theorem dX0_spreadByDrains_68 : decode cX0_spreadByDrains 68 = .ok (.getfield 43, 3) := by decide +kernel
theorem dX0_spreadByDrains_71 : decode cX0_spreadByDrains 71 = .ok (.iload_n 3, 1) := by decide +kernel
theorem dX0_spreadByDrains_72 : decode cX0_spreadByDrains 72 = .ok (.baload, 1) := by decide +kernel
theorem dX0_spreadByDrains_73 : decode cX0_spreadByDrains 73 = .ok (.ifCond .eq 24, 3) := by decide +kernel
theorem dX0_spreadByDrains_76 : decode cX0_spreadByDrains 76 = .ok (.aload_n 0, 1) := by decide +kernel
theorem dX0_spreadByDrains_77 : decode cX0_spreadByDrains 77 = .ok (.getfield 40, 3) := by decide +kernel
theorem dX0_spreadByDrains_80 : decode cX0_spreadByDrains 80 = .ok (.iload_n 3, 1) := by decide +kernel
theorem dX0_spreadByDrains_81 : decode cX0_spreadByDrains 81 = .ok (.baload, 1) := by decide +kernel
theorem dX0_spreadByDrains_82 : decode cX0_spreadByDrains 82 = .ok (.ifCond .ne 15, 3) := by decide +kernel
theorem dX0_spreadByDrains_85 : decode cX0_spreadByDrains 85 = .ok (.iload_n 2, 1) := by decide +kernel
theorem dX0_spreadByDrains_86 : decode cX0_spreadByDrains 86 = .ok (.iload 5, 2) := by decide +kernel
theorem dX0_spreadByDrains_88 : decode cX0_spreadByDrains 88 = .ok (.iand, 1) := by decide +kernel
theorem dX0_spreadByDrains_89 : decode cX0_spreadByDrains 89 = .ok (.ifCond .eq 8, 3) := by decide +kernel
theorem dX0_spreadByDrains_92 : decode cX0_spreadByDrains 92 = .ok (.iload_n 2, 1) := by decide +kernel
theorem dX0_spreadByDrains_93 : decode cX0_spreadByDrains 93 = .ok (.iload 4, 2) := by decide +kernel
theorem dX0_spreadByDrains_95 : decode cX0_spreadByDrains 95 = .ok (.ior, 1) := by decide +kernel
theorem dX0_spreadByDrains_96 : decode cX0_spreadByDrains 96 = .ok (.istore_n 2, 1) := by decide +kernel
theorem dX0_spreadByDrains_97 : decode cX0_spreadByDrains 97 = .ok (.iinc 3 1, 3) := by decide +kernel
theorem dX0_spreadByDrains_100 : decode cX0_spreadByDrains 100 = .ok (.goto (-96), 3) := by decide +kernel
theorem dX0_spreadByDrains_103 : decode cX0_spreadByDrains 103 = .ok (.iload_n 2, 1) := by decide +kernel
theorem dX0_spreadByDrains_104 : decode cX0_spreadByDrains 104 = .ok (.ireturn, 1) := by decide +kernel
theorem dX0_becomeLike_0 : decode cX0_becomeLike 0 = .ok (.aload_n 0, 1) := by decide +kernel
theorem dX0_becomeLike_1 : decode cX0_becomeLike 1 = .ok (.aload_n 1, 1) := by decide +kernel
theorem dX0_becomeLike_2 : decode cX0_becomeLike 2 = .ok (.getfield 46, 3) := by decide +kernel
theorem dX0_becomeLike_5 : decode cX0_becomeLike 5 = .ok (.putfield 46, 3) := by decide +kernel
theorem dX0_becomeLike_8 : decode cX0_becomeLike 8 = .ok (.aload_n 0, 1) := by decide +kernel
theorem dX0_becomeLike_9 : decode cX0_becomeLike 9 = .ok (.aload_n 1, 1) := by decide +kernel
theorem dX0_becomeLike_10 : decode cX0_becomeLike 10 = .ok (.getfield 50, 3) := by decide +kernel
theorem dX0_becomeLike_13 : decode cX0_becomeLike 13 = .ok (.putfield 50, 3) := by decide +kernel
theorem dX0_becomeLike_16 : decode cX0_becomeLike 16 = .ok (.aload_n 0, 1) := by decide +kernel
theorem dX0_becomeLike_17 : decode cX0_becomeLike 17 = .ok (.aload_n 1, 1) := by decide +kernel
theorem dX0_becomeLike_18 : decode cX0_becomeLike 18 = .ok (.getfield 63, 3) := by decide +kernel
theorem dX0_becomeLike_21 : decode cX0_becomeLike 21 = .ok (.putfield 63, 3) := by decide +kernel
theorem dX0_becomeLike_24 : decode cX0_becomeLike 24 = .ok (.aload_n 0, 1) := by decide +kernel
theorem dX0_becomeLike_25 : decode cX0_becomeLike 25 = .ok (.aload_n 1, 1) := by decide +kernel
theorem dX0_becomeLike_26 : decode cX0_becomeLike 26 = .ok (.getfield 83, 3) := by decide +kernel
theorem dX0_becomeLike_29 : decode cX0_becomeLike 29 = .ok (.putfield 83, 3) := by decide +kernel
theorem dX0_becomeLike_32 : decode cX0_becomeLike 32 = .ok (.aload_n 0, 1) := by decide +kernel
theorem dX0_becomeLike_33 : decode cX0_becomeLike 33 = .ok (.aload_n 1, 1) := by decide +kernel
theorem dX0_becomeLike_34 : decode cX0_becomeLike 34 = .ok (.getfield 77, 3) := by decide +kernel
theorem dX0_becomeLike_37 : decode cX0_becomeLike 37 = .ok (.putfield 77, 3) := by decide +kernel
theorem dX0_becomeLike_40 : decode cX0_becomeLike 40 = .ok (.iconst 0, 1) := by decide +kernel
theorem dX0_becomeLike_41 : decode cX0_becomeLike 41 = .ok (.istore_n 2, 1) := by decide +kernel
theorem dX0_becomeLike_42 : decode cX0_becomeLike 42 = .ok (.iload_n 2, 1) := by decide +kernel
theorem dX0_becomeLike_43 : decode cX0_becomeLike 43 = .ok (.bipush 10, 2) := by decide +kernel
theorem dX0_becomeLike_45 : decode cX0_becomeLike 45 = .ok (.if_icmp .ge 69, 3) := by decide +kernel
theorem dX0_becomeLike_48 : decode cX0_becomeLike 48 = .ok (.aload_n 0, 1) := by decide +kernel
theorem dX0_becomeLike_49 : decode cX0_becomeLike 49 = .ok (.getfield 9, 3) := by decide +kernel
theorem dX0_becomeLike_52 : decode cX0_becomeLike 52 = .ok (.iload_n 2, 1) := by decide +kernel
theorem dX0_becomeLike_53 : decode cX0_becomeLike 53 = .ok (.aload_n 1, 1) := by decide +kernel
theorem dX0_becomeLike_54 : decode cX0_becomeLike 54 = .ok (.getfield 9, 3) := by decide +kernel
theorem dX0_becomeLike_57 : decode cX0_becomeLike 57 = .ok (.iload_n 2, 1) := by decide +kernel
theorem dX0_becomeLike_58 : decode cX0_becomeLike 58 = .ok (.iaload, 1) := by decide +kernel
theorem dX0_becomeLike_59 : decode cX0_becomeLike 59 = .ok (.iastore, 1) := by decide +kernel
theorem dX0_becomeLike_60 : decode cX0_becomeLike 60 = .ok (.aload_n 0, 1) := by decide +kernel
theorem dX0_becomeLike_61 : decode cX0_becomeLike 61 = .ok (.getfield 15, 3) := by decide +kernel
theorem dX0_becomeLike_64 : decode cX0_becomeLike 64 = .ok (.iload_n 2, 1) := by decide +kernel
theorem dX0_becomeLike_65 : decode cX0_becomeLike 65 = .ok (.aload_n 1, 1) := by decide +kernel
theorem dX0_becomeLike_66 : decode cX0_becomeLike 66 = .ok (.getfield 15, 3) := by decide +kernel
theorem dX0_becomeLike_69 : decode cX0_becomeLike 69 = .ok (.iload_n 2, 1) := by decide +kernel
theorem dX0_becomeLike_70 : decode cX0_becomeLike 70 = .ok (.iaload, 1) := by decide +kernel
theorem dX0_becomeLike_71 : decode cX0_becomeLike 71 = .ok (.iastore, 1) := by decide +kernel
theorem dX0_becomeLike_72 : decode cX0_becomeLike 72 = .ok (.aload_n 0, 1) := by decide +kernel
theorem dX0_becomeLike_73 : decode cX0_becomeLike 73 = .ok (.getfield 18, 3) := by decide +kernel
theorem dX0_becomeLike_76 : decode cX0_becomeLike 76 = .ok (.iload_n 2, 1) := by decide +kernel
theorem dX0_becomeLike_77 : decode cX0_becomeLike 77 = .ok (.aload_n 1, 1) := by decide +kernel
theorem dX0_becomeLike_78 : decode cX0_becomeLike 78 = .ok (.getfield 18, 3) := by decide +kernel
theorem dX0_becomeLike_81 : decode cX0_becomeLike 81 = .ok (.iload_n 2, 1) := by decide +kernel
theorem dX0_becomeLike_82 : decode cX0_becomeLike 82 = .ok (.iaload, 1) := by decide +kernel
theorem dX0_becomeLike_83 : decode cX0_becomeLike 83 = .ok (.iastore, 1) := by decide +kernel
theorem dX0_becomeLike_84 : decode cX0_becomeLike 84 = .ok (.aload_n 0, 1) := by decide +kernel
theorem dX0_becomeLike_85 : decode cX0_becomeLike 85 = .ok (.getfield 21, 3) := by decide +kernel
theorem dX0_becomeLike_88 : decode cX0_becomeLike 88 = .ok (.iload_n 2, 1) := by decide +kernel
theorem dX0_becomeLike_89 : decode cX0_becomeLike 89 = .ok (.aload_n 1, 1) := by decide +kernel
theorem dX0_becomeLike_90 : decode cX0_becomeLike 90 = .ok (.getfield 21, 3) := by decide +kernel
theorem dX0_becomeLike_93 : decode cX0_becomeLike 93 = .ok (.iload_n 2, 1) := by decide +kernel
theorem dX0_becomeLike_94 : decode cX0_becomeLike 94 = .ok (.iaload, 1) := by decide +kernel
theorem dX0_becomeLike_95 : decode cX0_becomeLike 95 = .ok (.iastore, 1) := by decide +kernel
theorem dX0_becomeLike_96 : decode cX0_becomeLike 96 = .ok (.aload_n 0, 1) := by decide +kernel
theorem dX0_becomeLike_97 : decode cX0_becomeLike 97 = .ok (.getfield 24, 3) := by decide +kernel
theorem dX0_becomeLike_100 : decode cX0_becomeLike 100 = .ok (.iload_n 2, 1) := by decide +kernel
theorem dX0_becomeLike_101 : decode cX0_becomeLike 101 = .ok (.aload_n 1, 1) := by decide +kernel
theorem dX0_becomeLike_102 : decode cX0_becomeLike 102 = .ok (.getfield 24, 3) := by decide +kernel
theorem dX0_becomeLike_105 : decode cX0_becomeLike 105 = .ok (.iload_n 2, 1) := by decide +kernel
theorem dX0_becomeLike_106 : decode cX0_becomeLike 106 = .ok (.baload, 1) := by decide +kernel
theorem dX0_becomeLike_107 : decode cX0_becomeLike 107 = .ok (.bastore, 1) := by decide +kernel
theorem dX0_becomeLike_108 : decode cX0_becomeLike 108 = .ok (.iinc 2 1, 3) := by decide +kernel
theorem dX0_becomeLike_111 : decode cX0_becomeLike 111 = .ok (.goto (-69), 3) := by decide +kernel
theorem dX0_becomeLike_114 : decode cX0_becomeLike 114 = .ok (.iconst 0, 1) := by decide +kernel
theorem dX0_becomeLike_115 : decode cX0_becomeLike 115 = .ok (.istore_n 2, 1) := by decide +kernel
theorem dX0_becomeLike_116 : decode cX0_becomeLike 116 = .ok (.iload_n 2, 1) := by decide +kernel
theorem dX0_becomeLike_117 : decode cX0_becomeLike 117 = .ok (.bipush 16, 2) := by decide +kernel
theorem dX0_becomeLike_119 : decode cX0_becomeLike 119 = .ok (.if_icmp .ge 81, 3) := by decide +kernel
theorem dX0_becomeLike_122 : decode cX0_becomeLike 122 = .ok (.aload_n 0, 1) := by decide +kernel
theorem dX0_becomeLike_123 : decode cX0_becomeLike 123 = .ok (.getfield 28, 3) := by decide +kernel
theorem dX0_becomeLike_126 : decode cX0_becomeLike 126 = .ok (.iload_n 2, 1) := by decide +kernel
theorem dX0_becomeLike_127 : decode cX0_becomeLike 127 = .ok (.aload_n 1, 1) := by decide +kernel
theorem dX0_becomeLike_128 : decode cX0_becomeLike 128 = .ok (.getfield 28, 3) := by decide +kernel
theorem dX0_becomeLike_131 : decode cX0_becomeLike 131 = .ok (.iload_n 2, 1) := by decide +kernel
theorem dX0_becomeLike_132 : decode cX0_becomeLike 132 = .ok (.iaload, 1) := by decide +kernel
theorem dX0_becomeLike_133 : decode cX0_becomeLike 133 = .ok (.iastore, 1) := by decide +kernel
theorem dX0_becomeLike_134 : decode cX0_becomeLike 134 = .ok (.aload_n 0, 1) := by decide +kernel
theorem dX0_becomeLike_135 : decode cX0_becomeLike 135 = .ok (.getfield 31, 3) := by decide +kernel
theorem dX0_becomeLike_138 : decode cX0_becomeLike 138 = .ok (.iload_n 2, 1) := by decide +kernel
theorem dX0_becomeLike_139 : decode cX0_becomeLike 139 = .ok (.aload_n 1, 1) := by decide +kernel
theorem dX0_becomeLike_140 : decode cX0_becomeLike 140 = .ok (.getfield 31, 3) := by decide +kernel
theorem dX0_becomeLike_143 : decode cX0_becomeLike 143 = .ok (.iload_n 2, 1) := by decide +kernel
theorem dX0_becomeLike_144 : decode cX0_becomeLike 144 = .ok (.iaload, 1) := by decide +kernel
theorem dX0_becomeLike_145 : decode cX0_becomeLike 145 = .ok (.iastore, 1) := by decide +kernel
theorem dX0_becomeLike_146 : decode cX0_becomeLike 146 = .ok (.aload_n 0, 1) := by decide +kernel
theorem dX0_becomeLike_147 : decode cX0_becomeLike 147 = .ok (.getfield 34, 3) := by decide +kernel
theorem dX0_becomeLike_150 : decode cX0_becomeLike 150 = .ok (.iload_n 2, 1) := by decide +kernel
theorem dX0_becomeLike_151 : decode cX0_becomeLike 151 = .ok (.aload_n 1, 1) := by decide +kernel
theorem dX0_becomeLike_152 : decode cX0_becomeLike 152 = .ok (.getfield 34, 3) := by decide +kernel
theorem dX0_becomeLike_155 : decode cX0_becomeLike 155 = .ok (.iload_n 2, 1) := by decide +kernel
theorem dX0_becomeLike_156 : decode cX0_becomeLike 156 = .ok (.iaload, 1) := by decide +kernel
theorem dX0_becomeLike_157 : decode cX0_becomeLike 157 = .ok (.iastore, 1) := by decide +kernel
theorem dX0_becomeLike_158 : decode cX0_becomeLike 158 = .ok (.aload_n 0, 1) := by decide +kernel
theorem dX0_becomeLike_159 : decode cX0_becomeLike 159 = .ok (.getfield 37, 3) := by decide +kernel
theorem dX0_becomeLike_162 : decode cX0_becomeLike 162 = .ok (.iload_n 2, 1) := by decide +kernel
theorem dX0_becomeLike_163 : decode cX0_becomeLike 163 = .ok (.aload_n 1, 1) := by decide +kernel
theorem dX0_becomeLike_164 : decode cX0_becomeLike 164 = .ok (.getfield 37, 3) := by decide +kernel
theorem dX0_becomeLike_167 : decode cX0_becomeLike 167 = .ok (.iload_n 2, 1) := by decide +kernel
theorem dX0_becomeLike_168 : decode cX0_becomeLike 168 = .ok (.iaload, 1) := by decide +kernel
theorem dX0_becomeLike_169 : decode cX0_becomeLike 169 = .ok (.iastore, 1) := by decide +kernel
theorem dX0_becomeLike_170 : decode cX0_becomeLike 170 = .ok (.aload_n 0, 1) := by decide +kernel
theorem dX0_becomeLike_171 : decode cX0_becomeLike 171 = .ok (.getfield 40, 3) := by decide +kernel
theorem dX0_becomeLike_174 : decode cX0_becomeLike 174 = .ok (.iload_n 2, 1) := by decide +kernel
theorem dX0_becomeLike_175 : decode cX0_becomeLike 175 = .ok (.aload_n 1, 1) := by decide +kernel
theorem dX0_becomeLike_176 : decode cX0_becomeLike 176 = .ok (.getfield 40, 3) := by decide +kernel
theorem dX0_becomeLike_179 : decode cX0_becomeLike 179 = .ok (.iload_n 2, 1) := by decide +kernel
theorem dX0_becomeLike_180 : decode cX0_becomeLike 180 = .ok (.baload, 1) := by decide +kernel
theorem dX0_becomeLike_181 : decode cX0_becomeLike 181 = .ok (.bastore, 1) := by decide +kernel
theorem dX0_becomeLike_182 : decode cX0_becomeLike 182 = .ok (.aload_n 0, 1) := by decide +kernel
theorem dX0_becomeLike_183 : decode cX0_becomeLike 183 = .ok (.getfield 43, 3) := by decide +kernel
theorem dX0_becomeLike_186 : decode cX0_becomeLike 186 = .ok (.iload_n 2, 1) := by decide +kernel
theorem dX0_becomeLike_187 : decode cX0_becomeLike 187 = .ok (.aload_n 1, 1) := by decide +kernel
theorem dX0_becomeLike_188 : decode cX0_becomeLike 188 = .ok (.getfield 43, 3) := by decide +kernel
theorem dX0_becomeLike_191 : decode cX0_becomeLike 191 = .ok (.iload_n 2, 1) := by decide +kernel
theorem dX0_becomeLike_192 : decode cX0_becomeLike 192 = .ok (.baload, 1) := by decide +kernel
theorem dX0_becomeLike_193 : decode cX0_becomeLike 193 = .ok (.bastore, 1) := by decide +kernel
theorem dX0_becomeLike_194 : decode cX0_becomeLike 194 = .ok (.iinc 2 1, 3) := by decide +kernel
theorem dX0_becomeLike_197 : decode cX0_becomeLike 197 = .ok (.goto (-81), 3) := by decide +kernel
theorem dX0_becomeLike_200 : decode cX0_becomeLike 200 = .ok (.return_, 1) := by decide +kernel
theorem dX1_init_0 : decode cX1_init 0 = .ok (.aload_n 0, 1) := by decide +kernel
theorem dX1_init_1 : decode cX1_init 1 = .ok (.invokespecial 1, 3) := by decide +kernel
theorem dX1_init_4 : decode cX1_init 4 = .ok (.aload_n 0, 1) := by decide +kernel
theorem dX1_init_5 : decode cX1_init 5 = .ok (.new 7, 3) := by decide +kernel
theorem dX1_init_8 : decode cX1_init 8 = .ok (.dup, 1) := by decide +kernel
theorem dX1_init_9 : decode cX1_init 9 = .ok (.invokespecial 9, 3) := by decide +kernel
theorem dX1_init_12 : decode cX1_init 12 = .ok (.putfield 10, 3) := by decide +kernel
theorem dX1_init_15 : decode cX1_init 15 = .ok (.aload_n 0, 1) := by decide +kernel
theorem dX1_init_16 : decode cX1_init 16 = .ok (.new 7, 3) := by decide +kernel
theorem dX1_init_19 : decode cX1_init 19 = .ok (.dup, 1) := by decide +kernel
theorem dX1_init_20 : decode cX1_init 20 = .ok (.invokespecial 9, 3) := by decide +kernel
theorem dX1_init_23 : decode cX1_init 23 = .ok (.putfield 16, 3) := by decide +kernel
theorem dX1_init_26 : decode cX1_init 26 = .ok (.return_, 1) := by decide +kernel
theorem dX1_addField_0 : decode cX1_addField 0 = .ok (.iload_n 1, 1) := by decide +kernel
theorem dX1_addField_1 : decode cX1_addField 1 = .ok (.iconst 0, 1) := by decide +kernel
theorem dX1_addField_2 : decode cX1_addField 2 = .ok (.bipush 20, 2) := by decide +kernel
theorem dX1_addField_4 : decode cX1_addField 4 = .ok (.invokestatic 19, 3) := by decide +kernel
theorem dX1_addField_7 : decode cX1_addField 7 = .ok (.iload_n 2, 1) := by decide +kernel
theorem dX1_addField_8 : decode cX1_addField 8 = .ok (.iconst 0, 1) := by decide +kernel
theorem dX1_addField_9 : decode cX1_addField 9 = .ok (.bipush 99, 2) := by decide +kernel
theorem dX1_addField_11 : decode cX1_addField 11 = .ok (.invokestatic 19, 3) := by decide +kernel
theorem dX1_addField_14 : decode cX1_addField 14 = .ok (.aload_n 0, 1) := by decide +kernel
theorem dX1_addField_15 : decode cX1_addField 15 = .ok (.getfield 10, 3) := by decide +kernel
theorem dX1_addField_18 : decode cX1_addField 18 = .ok (.iload_n 1, 1) := by decide +kernel
theorem dX1_addField_19 : decode cX1_addField 19 = .ok (.iload_n 2, 1) := by decide +kernel
theorem dX1_addField_20 : decode cX1_addField 20 = .ok (.invokevirtual 23, 3) := by decide +kernel
theorem dX1_addField_23 : decode cX1_addField 23 = .ok (.istore_n 3, 1) := by decide +kernel
theorem dX1_addField_24 : decode cX1_addField 24 = .ok (.iload_n 3, 1) := by decide +kernel
theorem dX1_addField_25 : decode cX1_addField 25 = .ok (.iconst (-1), 1) := by decide +kernel
theorem dX1_addField_26 : decode cX1_addField 26 = .ok (.if_icmp .ne 13, 3) := by decide +kernel
theorem dX1_addField_29 : decode cX1_addField 29 = .ok (.new 27, 3) := by decide +kernel
theorem dX1_addField_32 : decode cX1_addField 32 = .ok (.dup, 1) := by decide +kernel
theorem dX1_addField_33 : decode cX1_addField 33 = .ok (.ldc 29, 2) := by decide +kernel
theorem dX1_addField_35 : decode cX1_addField 35 = .ok (.invokespecial 31, 3) := by decide +kernel
theorem dX1_addField_38 : decode cX1_addField 38 = .ok (.athrow, 1) := by decide +kernel
theorem dX1_addField_39 : decode cX1_addField 39 = .ok (.iload_n 3, 1) := by decide +kernel
theorem dX1_addField_40 : decode cX1_addField 40 = .ok (.ireturn, 1) := by decide +kernel
theorem dX1_addDitch_0 : decode cX1_addDitch 0 = .ok (.aload_n 0, 1) := by decide +kernel
theorem dX1_addDitch_1 : decode cX1_addDitch 1 = .ok (.iload_n 1, 1) := by decide +kernel
theorem dX1_addDitch_2 : decode cX1_addDitch 2 = .ok (.invokevirtual 34, 3) := by decide +kernel
theorem dX1_addDitch_5 : decode cX1_addDitch 5 = .ok (.aload_n 0, 1) := by decide +kernel
theorem dX1_addDitch_6 : decode cX1_addDitch 6 = .ok (.iload_n 2, 1) := by decide +kernel
theorem dX1_addDitch_7 : decode cX1_addDitch 7 = .ok (.invokevirtual 34, 3) := by decide +kernel
theorem dX1_addDitch_10 : decode cX1_addDitch 10 = .ok (.aload_n 0, 1) := by decide +kernel
theorem dX1_addDitch_11 : decode cX1_addDitch 11 = .ok (.iload_n 1, 1) := by decide +kernel
theorem dX1_addDitch_12 : decode cX1_addDitch 12 = .ok (.iload_n 2, 1) := by decide +kernel
theorem dX1_addDitch_13 : decode cX1_addDitch 13 = .ok (.iload_n 3, 1) := by decide +kernel
theorem dX1_addDitch_14 : decode cX1_addDitch 14 = .ok (.iconst 0, 1) := by decide +kernel
theorem dX1_addDitch_15 : decode cX1_addDitch 15 = .ok (.invokevirtual 38, 3) := by decide +kernel
theorem dX1_addDitch_18 : decode cX1_addDitch 18 = .ok (.ireturn, 1) := by decide +kernel
theorem dX1_addPump_0 : decode cX1_addPump 0 = .ok (.aload_n 0, 1) := by decide +kernel
theorem dX1_addPump_1 : decode cX1_addPump 1 = .ok (.iload_n 1, 1) := by decide +kernel
theorem dX1_addPump_2 : decode cX1_addPump 2 = .ok (.invokevirtual 34, 3) := by decide +kernel
theorem dX1_addPump_5 : decode cX1_addPump 5 = .ok (.iload_n 2, 1) := by decide +kernel
theorem dX1_addPump_6 : decode cX1_addPump 6 = .ok (.iconst (-1), 1) := by decide +kernel
theorem dX1_addPump_7 : decode cX1_addPump 7 = .ok (.if_icmp .eq 8, 3) := by decide +kernel
theorem dX1_addPump_10 : decode cX1_addPump 10 = .ok (.aload_n 0, 1) := by decide +kernel
theorem dX1_addPump_11 : decode cX1_addPump 11 = .ok (.iload_n 2, 1) := by decide +kernel
theorem dX1_addPump_12 : decode cX1_addPump 12 = .ok (.invokevirtual 34, 3) := by decide +kernel
theorem dX1_addPump_15 : decode cX1_addPump 15 = .ok (.aload_n 0, 1) := by decide +kernel
theorem dX1_addPump_16 : decode cX1_addPump 16 = .ok (.iload_n 1, 1) := by decide +kernel
theorem dX1_addPump_17 : decode cX1_addPump 17 = .ok (.iload_n 2, 1) := by decide +kernel
theorem dX1_addPump_18 : decode cX1_addPump 18 = .ok (.iload_n 3, 1) := by decide +kernel
theorem dX1_addPump_19 : decode cX1_addPump 19 = .ok (.iconst 1, 1) := by decide +kernel
theorem dX1_addPump_20 : decode cX1_addPump 20 = .ok (.invokevirtual 38, 3) := by decide +kernel
theorem dX1_addPump_23 : decode cX1_addPump 23 = .ok (.ireturn, 1) := by decide +kernel
theorem dX1_turn_0 : decode cX1_turn 0 = .ok (.aload_n 0, 1) := by decide +kernel
theorem dX1_turn_1 : decode cX1_turn 1 = .ok (.iload_n 1, 1) := by decide +kernel
theorem dX1_turn_2 : decode cX1_turn 2 = .ok (.invokevirtual 42, 3) := by decide +kernel
theorem dX1_turn_5 : decode cX1_turn 5 = .ok (.aload_n 0, 1) := by decide +kernel
theorem dX1_turn_6 : decode cX1_turn 6 = .ok (.getfield 10, 3) := by decide +kernel
theorem dX1_turn_9 : decode cX1_turn 9 = .ok (.iload_n 1, 1) := by decide +kernel
theorem dX1_turn_10 : decode cX1_turn 10 = .ok (.invokevirtual 45, 3) := by decide +kernel
theorem dX1_turn_13 : decode cX1_turn 13 = .ok (.aload_n 0, 1) := by decide +kernel
theorem dX1_turn_14 : decode cX1_turn 14 = .ok (.getfield 10, 3) := by decide +kernel
theorem dX1_turn_17 : decode cX1_turn 17 = .ok (.getfield 48, 3) := by decide +kernel
theorem dX1_turn_20 : decode cX1_turn 20 = .ok (.iload_n 1, 1) := by decide +kernel
theorem dX1_turn_21 : decode cX1_turn 21 = .ok (.baload, 1) := by decide +kernel
theorem dX1_turn_22 : decode cX1_turn 22 = .ok (.ireturn, 1) := by decide +kernel
theorem dX1_setRain_0 : decode cX1_setRain 0 = .ok (.iload_n 1, 1) := by decide +kernel
theorem dX1_setRain_1 : decode cX1_setRain 1 = .ok (.iconst 0, 1) := by decide +kernel
theorem dX1_setRain_2 : decode cX1_setRain 2 = .ok (.bipush 9, 2) := by decide +kernel
theorem dX1_setRain_4 : decode cX1_setRain 4 = .ok (.invokestatic 19, 3) := by decide +kernel
theorem dX1_setRain_7 : decode cX1_setRain 7 = .ok (.aload_n 0, 1) := by decide +kernel
theorem dX1_setRain_8 : decode cX1_setRain 8 = .ok (.getfield 10, 3) := by decide +kernel
theorem dX1_setRain_11 : decode cX1_setRain 11 = .ok (.getfield 52, 3) := by decide +kernel
theorem dX1_setRain_14 : decode cX1_setRain 14 = .ok (.istore_n 2, 1) := by decide +kernel
theorem dX1_setRain_15 : decode cX1_setRain 15 = .ok (.aload_n 0, 1) := by decide +kernel
theorem dX1_setRain_16 : decode cX1_setRain 16 = .ok (.getfield 10, 3) := by decide +kernel
theorem dX1_setRain_19 : decode cX1_setRain 19 = .ok (.iload_n 1, 1) := by decide +kernel
theorem dX1_setRain_20 : decode cX1_setRain 20 = .ok (.putfield 52, 3) := by decide +kernel
theorem dX1_setRain_23 : decode cX1_setRain 23 = .ok (.iload_n 2, 1) := by decide +kernel
theorem dX1_setRain_24 : decode cX1_setRain 24 = .ok (.ireturn, 1) := by decide +kernel
theorem dX1_flood_0 : decode cX1_flood 0 = .ok (.aload_n 0, 1) := by decide +kernel
theorem dX1_flood_1 : decode cX1_flood 1 = .ok (.iload_n 1, 1) := by decide +kernel
theorem dX1_flood_2 : decode cX1_flood 2 = .ok (.invokevirtual 34, 3) := by decide +kernel
theorem dX1_flood_5 : decode cX1_flood 5 = .ok (.iload_n 2, 1) := by decide +kernel
theorem dX1_flood_6 : decode cX1_flood 6 = .ok (.iconst 1, 1) := by decide +kernel
theorem dX1_flood_7 : decode cX1_flood 7 = .ok (.bipush 50, 2) := by decide +kernel
theorem dX1_flood_9 : decode cX1_flood 9 = .ok (.invokestatic 19, 3) := by decide +kernel
theorem dX1_flood_12 : decode cX1_flood 12 = .ok (.aload_n 0, 1) := by decide +kernel
theorem dX1_flood_13 : decode cX1_flood 13 = .ok (.getfield 10, 3) := by decide +kernel
theorem dX1_flood_16 : decode cX1_flood 16 = .ok (.iload_n 1, 1) := by decide +kernel
theorem dX1_flood_17 : decode cX1_flood 17 = .ok (.iload_n 2, 1) := by decide +kernel
theorem dX1_flood_18 : decode cX1_flood 18 = .ok (.invokevirtual 56, 3) := by decide +kernel
theorem dX1_flood_21 : decode cX1_flood 21 = .ok (.aload_n 0, 1) := by decide +kernel
theorem dX1_flood_22 : decode cX1_flood 22 = .ok (.getfield 10, 3) := by decide +kernel
theorem dX1_flood_25 : decode cX1_flood 25 = .ok (.getfield 60, 3) := by decide +kernel
theorem dX1_flood_28 : decode cX1_flood 28 = .ok (.iload_n 1, 1) := by decide +kernel
theorem dX1_flood_29 : decode cX1_flood 29 = .ok (.iaload, 1) := by decide +kernel
theorem dX1_flood_30 : decode cX1_flood 30 = .ok (.ireturn, 1) := by decide +kernel
theorem dX1_pass_0 : decode cX1_pass 0 = .ok (.iload_n 1, 1) := by decide +kernel
theorem dX1_pass_1 : decode cX1_pass 1 = .ok (.iconst 1, 1) := by decide +kernel
theorem dX1_pass_2 : decode cX1_pass 2 = .ok (.bipush 48, 2) := by decide +kernel
theorem dX1_pass_4 : decode cX1_pass 4 = .ok (.invokestatic 19, 3) := by decide +kernel
theorem dX1_pass_7 : decode cX1_pass 7 = .ok (.aload_n 0, 1) := by decide +kernel
theorem dX1_pass_8 : decode cX1_pass 8 = .ok (.getfield 10, 3) := by decide +kernel
theorem dX1_pass_11 : decode cX1_pass 11 = .ok (.invokevirtual 64, 3) := by decide +kernel
theorem dX1_pass_14 : decode cX1_pass 14 = .ok (.istore_n 2, 1) := by decide +kernel
theorem dX1_pass_15 : decode cX1_pass 15 = .ok (.aload_n 0, 1) := by decide +kernel
theorem dX1_pass_16 : decode cX1_pass 16 = .ok (.getfield 10, 3) := by decide +kernel
theorem dX1_pass_19 : decode cX1_pass 19 = .ok (.iload_n 1, 1) := by decide +kernel
theorem dX1_pass_20 : decode cX1_pass 20 = .ok (.invokevirtual 68, 3) := by decide +kernel
theorem dX1_pass_23 : decode cX1_pass 23 = .ok (.aload_n 0, 1) := by decide +kernel
theorem dX1_pass_24 : decode cX1_pass 24 = .ok (.getfield 10, 3) := by decide +kernel
theorem dX1_pass_27 : decode cX1_pass 27 = .ok (.invokevirtual 64, 3) := by decide +kernel
theorem dX1_pass_30 : decode cX1_pass 30 = .ok (.iload_n 2, 1) := by decide +kernel
theorem dX1_pass_31 : decode cX1_pass 31 = .ok (.isub, 1) := by decide +kernel
theorem dX1_pass_32 : decode cX1_pass 32 = .ok (.ireturn, 1) := by decide +kernel
theorem dX1_hour_0 : decode cX1_hour 0 = .ok (.aload_n 0, 1) := by decide +kernel
theorem dX1_hour_1 : decode cX1_hour 1 = .ok (.getfield 10, 3) := by decide +kernel
theorem dX1_hour_4 : decode cX1_hour 4 = .ok (.getfield 71, 3) := by decide +kernel
theorem dX1_hour_7 : decode cX1_hour 7 = .ok (.ireturn, 1) := by decide +kernel
theorem dX1_fields_0 : decode cX1_fields 0 = .ok (.aload_n 0, 1) := by decide +kernel
theorem dX1_fields_1 : decode cX1_fields 1 = .ok (.getfield 10, 3) := by decide +kernel
theorem dX1_fields_4 : decode cX1_fields 4 = .ok (.getfield 74, 3) := by decide +kernel
theorem dX1_fields_7 : decode cX1_fields 7 = .ok (.ireturn, 1) := by decide +kernel
theorem dX1_drains_0 : decode cX1_drains 0 = .ok (.aload_n 0, 1) := by decide +kernel
theorem dX1_drains_1 : decode cX1_drains 1 = .ok (.getfield 10, 3) := by decide +kernel
theorem dX1_drains_4 : decode cX1_drains 4 = .ok (.getfield 77, 3) := by decide +kernel
theorem dX1_drains_7 : decode cX1_drains 7 = .ok (.ireturn, 1) := by decide +kernel
theorem dX1_rain_0 : decode cX1_rain 0 = .ok (.aload_n 0, 1) := by decide +kernel
theorem dX1_rain_1 : decode cX1_rain 1 = .ok (.getfield 10, 3) := by decide +kernel
theorem dX1_rain_4 : decode cX1_rain 4 = .ok (.getfield 52, 3) := by decide +kernel
theorem dX1_rain_7 : decode cX1_rain 7 = .ok (.ireturn, 1) := by decide +kernel
theorem dX1_water_0 : decode cX1_water 0 = .ok (.iconst 0, 1) := by decide +kernel
theorem dX1_water_1 : decode cX1_water 1 = .ok (.istore_n 1, 1) := by decide +kernel
theorem dX1_water_2 : decode cX1_water 2 = .ok (.iconst 0, 1) := by decide +kernel
theorem dX1_water_3 : decode cX1_water 3 = .ok (.istore_n 2, 1) := by decide +kernel
theorem dX1_water_4 : decode cX1_water 4 = .ok (.iload_n 2, 1) := by decide +kernel
theorem dX1_water_5 : decode cX1_water 5 = .ok (.aload_n 0, 1) := by decide +kernel
theorem dX1_water_6 : decode cX1_water 6 = .ok (.getfield 10, 3) := by decide +kernel
theorem dX1_water_9 : decode cX1_water 9 = .ok (.getfield 74, 3) := by decide +kernel
theorem dX1_water_12 : decode cX1_water 12 = .ok (.if_icmp .ge 21, 3) := by decide +kernel
theorem dX1_water_15 : decode cX1_water 15 = .ok (.iload_n 1, 1) := by decide +kernel
theorem dX1_water_16 : decode cX1_water 16 = .ok (.aload_n 0, 1) := by decide +kernel
theorem dX1_water_17 : decode cX1_water 17 = .ok (.getfield 10, 3) := by decide +kernel
theorem dX1_water_20 : decode cX1_water 20 = .ok (.getfield 60, 3) := by decide +kernel
theorem dX1_water_23 : decode cX1_water 23 = .ok (.iload_n 2, 1) := by decide +kernel
theorem dX1_water_24 : decode cX1_water 24 = .ok (.iaload, 1) := by decide +kernel
theorem dX1_water_25 : decode cX1_water 25 = .ok (.iadd, 1) := by decide +kernel
theorem dX1_water_26 : decode cX1_water 26 = .ok (.istore_n 1, 1) := by decide +kernel
theorem dX1_water_27 : decode cX1_water 27 = .ok (.iinc 2 1, 3) := by decide +kernel
theorem dX1_water_30 : decode cX1_water 30 = .ok (.goto (-26), 3) := by decide +kernel
theorem dX1_water_33 : decode cX1_water 33 = .ok (.iload_n 1, 1) := by decide +kernel
theorem dX1_water_34 : decode cX1_water 34 = .ok (.ireturn, 1) := by decide +kernel
theorem dX1_drained_0 : decode cX1_drained 0 = .ok (.aload_n 0, 1) := by decide +kernel
theorem dX1_drained_1 : decode cX1_drained 1 = .ok (.getfield 10, 3) := by decide +kernel
theorem dX1_drained_4 : decode cX1_drained 4 = .ok (.getfield 80, 3) := by decide +kernel
theorem dX1_drained_7 : decode cX1_drained 7 = .ok (.ireturn, 1) := by decide +kernel
theorem dX1_wetFields_0 : decode cX1_wetFields 0 = .ok (.iconst 0, 1) := by decide +kernel
theorem dX1_wetFields_1 : decode cX1_wetFields 1 = .ok (.istore_n 1, 1) := by decide +kernel
theorem dX1_wetFields_2 : decode cX1_wetFields 2 = .ok (.iconst 0, 1) := by decide +kernel
theorem dX1_wetFields_3 : decode cX1_wetFields 3 = .ok (.istore_n 2, 1) := by decide +kernel
theorem dX1_wetFields_4 : decode cX1_wetFields 4 = .ok (.iload_n 2, 1) := by decide +kernel
theorem dX1_wetFields_5 : decode cX1_wetFields 5 = .ok (.aload_n 0, 1) := by decide +kernel
theorem dX1_wetFields_6 : decode cX1_wetFields 6 = .ok (.getfield 10, 3) := by decide +kernel
theorem dX1_wetFields_9 : decode cX1_wetFields 9 = .ok (.getfield 74, 3) := by decide +kernel
theorem dX1_wetFields_12 : decode cX1_wetFields 12 = .ok (.if_icmp .ge 23, 3) := by decide +kernel
theorem dX1_wetFields_15 : decode cX1_wetFields 15 = .ok (.aload_n 0, 1) := by decide +kernel
theorem dX1_wetFields_16 : decode cX1_wetFields 16 = .ok (.getfield 10, 3) := by decide +kernel
theorem dX1_wetFields_19 : decode cX1_wetFields 19 = .ok (.iload_n 2, 1) := by decide +kernel
theorem dX1_wetFields_20 : decode cX1_wetFields 20 = .ok (.invokevirtual 83, 3) := by decide +kernel
theorem dX1_wetFields_23 : decode cX1_wetFields 23 = .ok (.ifCond .eq 6, 3) := by decide +kernel
theorem dX1_wetFields_26 : decode cX1_wetFields 26 = .ok (.iinc 1 1, 3) := by decide +kernel
theorem dX1_wetFields_29 : decode cX1_wetFields 29 = .ok (.iinc 2 1, 3) := by decide +kernel
theorem dX1_wetFields_32 : decode cX1_wetFields 32 = .ok (.goto (-28), 3) := by decide +kernel
theorem dX1_wetFields_35 : decode cX1_wetFields 35 = .ok (.iload_n 1, 1) := by decide +kernel
theorem dX1_wetFields_36 : decode cX1_wetFields 36 = .ok (.ireturn, 1) := by decide +kernel
theorem dX1_ruinedFields_0 : decode cX1_ruinedFields 0 = .ok (.aload_n 0, 1) := by decide +kernel
theorem dX1_ruinedFields_1 : decode cX1_ruinedFields 1 = .ok (.getfield 10, 3) := by decide +kernel
theorem dX1_ruinedFields_4 : decode cX1_ruinedFields 4 = .ok (.invokevirtual 64, 3) := by decide +kernel
theorem dX1_ruinedFields_7 : decode cX1_ruinedFields 7 = .ok (.ireturn, 1) := by decide +kernel
theorem dX1_loss_0 : decode cX1_loss 0 = .ok (.aload_n 0, 1) := by decide +kernel
theorem dX1_loss_1 : decode cX1_loss 1 = .ok (.getfield 10, 3) := by decide +kernel
theorem dX1_loss_4 : decode cX1_loss 4 = .ok (.invokevirtual 87, 3) := by decide +kernel
theorem dX1_loss_7 : decode cX1_loss 7 = .ok (.ireturn, 1) := by decide +kernel
theorem dX1_waterOn_0 : decode cX1_waterOn 0 = .ok (.aload_n 0, 1) := by decide +kernel
theorem dX1_waterOn_1 : decode cX1_waterOn 1 = .ok (.iload_n 1, 1) := by decide +kernel
theorem dX1_waterOn_2 : decode cX1_waterOn 2 = .ok (.invokevirtual 34, 3) := by decide +kernel
theorem dX1_waterOn_5 : decode cX1_waterOn 5 = .ok (.aload_n 0, 1) := by decide +kernel
theorem dX1_waterOn_6 : decode cX1_waterOn 6 = .ok (.getfield 10, 3) := by decide +kernel
theorem dX1_waterOn_9 : decode cX1_waterOn 9 = .ok (.getfield 60, 3) := by decide +kernel
theorem dX1_waterOn_12 : decode cX1_waterOn 12 = .ok (.iload_n 1, 1) := by decide +kernel
theorem dX1_waterOn_13 : decode cX1_waterOn 13 = .ok (.iaload, 1) := by decide +kernel
theorem dX1_waterOn_14 : decode cX1_waterOn 14 = .ok (.ireturn, 1) := by decide +kernel
theorem dX1_levelOf_0 : decode cX1_levelOf 0 = .ok (.aload_n 0, 1) := by decide +kernel
theorem dX1_levelOf_1 : decode cX1_levelOf 1 = .ok (.iload_n 1, 1) := by decide +kernel
theorem dX1_levelOf_2 : decode cX1_levelOf 2 = .ok (.invokevirtual 34, 3) := by decide +kernel
theorem dX1_levelOf_5 : decode cX1_levelOf 5 = .ok (.aload_n 0, 1) := by decide +kernel
theorem dX1_levelOf_6 : decode cX1_levelOf 6 = .ok (.getfield 10, 3) := by decide +kernel
theorem dX1_levelOf_9 : decode cX1_levelOf 9 = .ok (.iload_n 1, 1) := by decide +kernel
theorem dX1_levelOf_10 : decode cX1_levelOf 10 = .ok (.invokevirtual 90, 3) := by decide +kernel
theorem dX1_levelOf_13 : decode cX1_levelOf 13 = .ok (.ireturn, 1) := by decide +kernel
theorem dX1_wetFor_0 : decode cX1_wetFor 0 = .ok (.aload_n 0, 1) := by decide +kernel
theorem dX1_wetFor_1 : decode cX1_wetFor 1 = .ok (.iload_n 1, 1) := by decide +kernel
theorem dX1_wetFor_2 : decode cX1_wetFor 2 = .ok (.invokevirtual 34, 3) := by decide +kernel
theorem dX1_wetFor_5 : decode cX1_wetFor 5 = .ok (.aload_n 0, 1) := by decide +kernel
theorem dX1_wetFor_6 : decode cX1_wetFor 6 = .ok (.getfield 10, 3) := by decide +kernel
theorem dX1_wetFor_9 : decode cX1_wetFor 9 = .ok (.getfield 94, 3) := by decide +kernel
theorem dX1_wetFor_12 : decode cX1_wetFor 12 = .ok (.iload_n 1, 1) := by decide +kernel
theorem dX1_wetFor_13 : decode cX1_wetFor 13 = .ok (.iaload, 1) := by decide +kernel
theorem dX1_wetFor_14 : decode cX1_wetFor 14 = .ok (.ireturn, 1) := by decide +kernel
theorem dX1_isRuined_0 : decode cX1_isRuined 0 = .ok (.aload_n 0, 1) := by decide +kernel
theorem dX1_isRuined_1 : decode cX1_isRuined 1 = .ok (.iload_n 1, 1) := by decide +kernel
theorem dX1_isRuined_2 : decode cX1_isRuined 2 = .ok (.invokevirtual 34, 3) := by decide +kernel
theorem dX1_isRuined_5 : decode cX1_isRuined 5 = .ok (.aload_n 0, 1) := by decide +kernel
theorem dX1_isRuined_6 : decode cX1_isRuined 6 = .ok (.getfield 10, 3) := by decide +kernel
theorem dX1_isRuined_9 : decode cX1_isRuined 9 = .ok (.getfield 97, 3) := by decide +kernel
theorem dX1_isRuined_12 : decode cX1_isRuined 12 = .ok (.iload_n 1, 1) := by decide +kernel
theorem dX1_isRuined_13 : decode cX1_isRuined 13 = .ok (.baload, 1) := by decide +kernel
theorem dX1_isRuined_14 : decode cX1_isRuined 14 = .ok (.ireturn, 1) := by decide +kernel
theorem dX1_drainsAt_0 : decode cX1_drainsAt 0 = .ok (.aload_n 0, 1) := by decide +kernel
theorem dX1_drainsAt_1 : decode cX1_drainsAt 1 = .ok (.iload_n 1, 1) := by decide +kernel
theorem dX1_drainsAt_2 : decode cX1_drainsAt 2 = .ok (.invokevirtual 34, 3) := by decide +kernel
theorem dX1_drainsAt_5 : decode cX1_drainsAt 5 = .ok (.iconst 0, 1) := by decide +kernel
theorem dX1_drainsAt_6 : decode cX1_drainsAt 6 = .ok (.istore_n 2, 1) := by decide +kernel
theorem dX1_drainsAt_7 : decode cX1_drainsAt 7 = .ok (.iconst 0, 1) := by decide +kernel
theorem dX1_drainsAt_8 : decode cX1_drainsAt 8 = .ok (.istore_n 3, 1) := by decide +kernel
theorem dX1_drainsAt_9 : decode cX1_drainsAt 9 = .ok (.iload_n 3, 1) := by decide +kernel
theorem dX1_drainsAt_10 : decode cX1_drainsAt 10 = .ok (.aload_n 0, 1) := by decide +kernel
theorem dX1_drainsAt_11 : decode cX1_drainsAt 11 = .ok (.getfield 10, 3) := by decide +kernel
theorem dX1_drainsAt_14 : decode cX1_drainsAt 14 = .ok (.getfield 77, 3) := by decide +kernel
theorem dX1_drainsAt_17 : decode cX1_drainsAt 17 = .ok (.if_icmp .ge 50, 3) := by decide +kernel
theorem dX1_drainsAt_20 : decode cX1_drainsAt 20 = .ok (.aload_n 0, 1) := by decide +kernel
theorem dX1_drainsAt_21 : decode cX1_drainsAt 21 = .ok (.getfield 10, 3) := by decide +kernel
theorem dX1_drainsAt_24 : decode cX1_drainsAt 24 = .ok (.getfield 48, 3) := by decide +kernel
theorem dX1_drainsAt_27 : decode cX1_drainsAt 27 = .ok (.iload_n 3, 1) := by decide +kernel
theorem dX1_drainsAt_28 : decode cX1_drainsAt 28 = .ok (.baload, 1) := by decide +kernel
theorem dX1_drainsAt_29 : decode cX1_drainsAt 29 = .ok (.ifCond .eq 32, 3) := by decide +kernel
theorem dX1_drainsAt_32 : decode cX1_drainsAt 32 = .ok (.aload_n 0, 1) := by decide +kernel
theorem dX1_drainsAt_33 : decode cX1_drainsAt 33 = .ok (.getfield 10, 3) := by decide +kernel
theorem dX1_drainsAt_36 : decode cX1_drainsAt 36 = .ok (.getfield 100, 3) := by decide +kernel
theorem dX1_drainsAt_39 : decode cX1_drainsAt 39 = .ok (.iload_n 3, 1) := by decide +kernel
theorem dX1_drainsAt_40 : decode cX1_drainsAt 40 = .ok (.iaload, 1) := by decide +kernel
theorem dX1_drainsAt_41 : decode cX1_drainsAt 41 = .ok (.iload_n 1, 1) := by decide +kernel
theorem dX1_drainsAt_42 : decode cX1_drainsAt 42 = .ok (.if_icmp .eq 16, 3) := by decide +kernel
theorem dX1_drainsAt_45 : decode cX1_drainsAt 45 = .ok (.aload_n 0, 1) := by decide +kernel
theorem dX1_drainsAt_46 : decode cX1_drainsAt 46 = .ok (.getfield 10, 3) := by decide +kernel
theorem dX1_drainsAt_49 : decode cX1_drainsAt 49 = .ok (.getfield 103, 3) := by decide +kernel
theorem dX1_drainsAt_52 : decode cX1_drainsAt 52 = .ok (.iload_n 3, 1) := by decide +kernel
theorem dX1_drainsAt_53 : decode cX1_drainsAt 53 = .ok (.iaload, 1) := by decide +kernel
theorem dX1_drainsAt_54 : decode cX1_drainsAt 54 = .ok (.iload_n 1, 1) := by decide +kernel
theorem dX1_drainsAt_55 : decode cX1_drainsAt 55 = .ok (.if_icmp .ne 6, 3) := by decide +kernel
theorem dX1_drainsAt_58 : decode cX1_drainsAt 58 = .ok (.iinc 2 1, 3) := by decide +kernel
theorem dX1_drainsAt_61 : decode cX1_drainsAt 61 = .ok (.iinc 3 1, 3) := by decide +kernel
theorem dX1_drainsAt_64 : decode cX1_drainsAt 64 = .ok (.goto (-55), 3) := by decide +kernel
theorem dX1_drainsAt_67 : decode cX1_drainsAt 67 = .ok (.iload_n 2, 1) := by decide +kernel
theorem dX1_drainsAt_68 : decode cX1_drainsAt 68 = .ok (.ireturn, 1) := by decide +kernel
theorem dX1_reaches_0 : decode cX1_reaches 0 = .ok (.aload_n 0, 1) := by decide +kernel
theorem dX1_reaches_1 : decode cX1_reaches 1 = .ok (.iload_n 1, 1) := by decide +kernel
theorem dX1_reaches_2 : decode cX1_reaches 2 = .ok (.invokevirtual 34, 3) := by decide +kernel
theorem dX1_reaches_5 : decode cX1_reaches 5 = .ok (.iconst 1, 1) := by decide +kernel
theorem dX1_reaches_6 : decode cX1_reaches 6 = .ok (.iload_n 1, 1) := by decide +kernel
theorem dX1_reaches_7 : decode cX1_reaches 7 = .ok (.ishl, 1) := by decide +kernel
theorem dX1_reaches_8 : decode cX1_reaches 8 = .ok (.istore_n 2, 1) := by decide +kernel
theorem dX1_reaches_9 : decode cX1_reaches 9 = .ok (.iconst 1, 1) := by decide +kernel
theorem dX1_reaches_10 : decode cX1_reaches 10 = .ok (.istore_n 3, 1) := by decide +kernel
theorem dX1_reaches_11 : decode cX1_reaches 11 = .ok (.iload_n 3, 1) := by decide +kernel
theorem dX1_reaches_12 : decode cX1_reaches 12 = .ok (.aload_n 0, 1) := by decide +kernel
theorem dX1_reaches_13 : decode cX1_reaches 13 = .ok (.getfield 10, 3) := by decide +kernel
theorem dX1_reaches_16 : decode cX1_reaches 16 = .ok (.getfield 74, 3) := by decide +kernel
theorem dX1_reaches_19 : decode cX1_reaches 19 = .ok (.if_icmp .ge 18, 3) := by decide +kernel
theorem dX1_reaches_22 : decode cX1_reaches 22 = .ok (.aload_n 0, 1) := by decide +kernel
theorem dX1_reaches_23 : decode cX1_reaches 23 = .ok (.getfield 10, 3) := by decide +kernel
theorem dX1_reaches_26 : decode cX1_reaches 26 = .ok (.iload_n 2, 1) := by decide +kernel
theorem dX1_reaches_27 : decode cX1_reaches 27 = .ok (.invokevirtual 106, 3) := by decide +kernel
theorem dX1_reaches_30 : decode cX1_reaches 30 = .ok (.istore_n 2, 1) := by decide +kernel
theorem dX1_reaches_31 : decode cX1_reaches 31 = .ok (.iinc 3 1, 3) := by decide +kernel
theorem dX1_reaches_34 : decode cX1_reaches 34 = .ok (.goto (-23), 3) := by decide +kernel
theorem dX1_reaches_37 : decode cX1_reaches 37 = .ok (.iload_n 2, 1) := by decide +kernel
theorem dX1_reaches_38 : decode cX1_reaches 38 = .ok (.invokestatic 109, 3) := by decide +kernel
theorem dX1_reaches_41 : decode cX1_reaches 41 = .ok (.iconst 1, 1) := by decide +kernel
theorem dX1_reaches_42 : decode cX1_reaches 42 = .ok (.isub, 1) := by decide +kernel
theorem dX1_reaches_43 : decode cX1_reaches 43 = .ok (.ireturn, 1) := by decide +kernel
theorem dX1_highest_0 : decode cX1_highest 0 = .ok (.iconst (-1), 1) := by decide +kernel
theorem dX1_highest_1 : decode cX1_highest 1 = .ok (.istore_n 1, 1) := by decide +kernel
theorem dX1_highest_2 : decode cX1_highest 2 = .ok (.iconst 0, 1) := by decide +kernel
theorem dX1_highest_3 : decode cX1_highest 3 = .ok (.istore_n 2, 1) := by decide +kernel
theorem dX1_highest_4 : decode cX1_highest 4 = .ok (.iconst 0, 1) := by decide +kernel
theorem dX1_highest_5 : decode cX1_highest 5 = .ok (.istore_n 3, 1) := by decide +kernel
theorem dX1_highest_6 : decode cX1_highest 6 = .ok (.iload_n 3, 1) := by decide +kernel
theorem dX1_highest_7 : decode cX1_highest 7 = .ok (.aload_n 0, 1) := by decide +kernel
theorem dX1_highest_8 : decode cX1_highest 8 = .ok (.getfield 10, 3) := by decide +kernel
theorem dX1_highest_11 : decode cX1_highest 11 = .ok (.getfield 74, 3) := by decide +kernel
theorem dX1_highest_14 : decode cX1_highest 14 = .ok (.if_icmp .ge 35, 3) := by decide +kernel
theorem dX1_highest_17 : decode cX1_highest 17 = .ok (.aload_n 0, 1) := by decide +kernel
theorem dX1_highest_18 : decode cX1_highest 18 = .ok (.getfield 10, 3) := by decide +kernel
theorem dX1_highest_21 : decode cX1_highest 21 = .ok (.iload_n 3, 1) := by decide +kernel
theorem dX1_highest_22 : decode cX1_highest 22 = .ok (.invokevirtual 90, 3) := by decide +kernel
theorem dX1_highest_25 : decode cX1_highest 25 = .ok (.istore 4, 2) := by decide +kernel
theorem dX1_highest_27 : decode cX1_highest 27 = .ok (.iload_n 1, 1) := by decide +kernel
theorem dX1_highest_28 : decode cX1_highest 28 = .ok (.iconst (-1), 1) := by decide +kernel
theorem dX1_highest_29 : decode cX1_highest 29 = .ok (.if_icmp .eq 9, 3) := by decide +kernel
theorem dX1_highest_32 : decode cX1_highest 32 = .ok (.iload 4, 2) := by decide +kernel
theorem dX1_highest_34 : decode cX1_highest 34 = .ok (.iload_n 2, 1) := by decide +kernel
theorem dX1_highest_35 : decode cX1_highest 35 = .ok (.if_icmp .le 8, 3) := by decide +kernel
theorem dX1_highest_38 : decode cX1_highest 38 = .ok (.iload_n 3, 1) := by decide +kernel
theorem dX1_highest_39 : decode cX1_highest 39 = .ok (.istore_n 1, 1) := by decide +kernel
theorem dX1_highest_40 : decode cX1_highest 40 = .ok (.iload 4, 2) := by decide +kernel
theorem dX1_highest_42 : decode cX1_highest 42 = .ok (.istore_n 2, 1) := by decide +kernel
theorem dX1_highest_43 : decode cX1_highest 43 = .ok (.iinc 3 1, 3) := by decide +kernel
theorem dX1_highest_46 : decode cX1_highest 46 = .ok (.goto (-40), 3) := by decide +kernel
theorem dX1_highest_49 : decode cX1_highest 49 = .ok (.iload_n 1, 1) := by decide +kernel
theorem dX1_highest_50 : decode cX1_highest 50 = .ok (.ireturn, 1) := by decide +kernel
theorem dX1_isPump_0 : decode cX1_isPump 0 = .ok (.aload_n 0, 1) := by decide +kernel
theorem dX1_isPump_1 : decode cX1_isPump 1 = .ok (.iload_n 1, 1) := by decide +kernel
theorem dX1_isPump_2 : decode cX1_isPump 2 = .ok (.invokevirtual 42, 3) := by decide +kernel
theorem dX1_isPump_5 : decode cX1_isPump 5 = .ok (.aload_n 0, 1) := by decide +kernel
theorem dX1_isPump_6 : decode cX1_isPump 6 = .ok (.getfield 10, 3) := by decide +kernel
theorem dX1_isPump_9 : decode cX1_isPump 9 = .ok (.getfield 114, 3) := by decide +kernel
theorem dX1_isPump_12 : decode cX1_isPump 12 = .ok (.iload_n 1, 1) := by decide +kernel
theorem dX1_isPump_13 : decode cX1_isPump 13 = .ok (.baload, 1) := by decide +kernel
theorem dX1_isPump_14 : decode cX1_isPump 14 = .ok (.ireturn, 1) := by decide +kernel
theorem dX1_isOpen_0 : decode cX1_isOpen 0 = .ok (.aload_n 0, 1) := by decide +kernel
theorem dX1_isOpen_1 : decode cX1_isOpen 1 = .ok (.iload_n 1, 1) := by decide +kernel
theorem dX1_isOpen_2 : decode cX1_isOpen 2 = .ok (.invokevirtual 42, 3) := by decide +kernel
theorem dX1_isOpen_5 : decode cX1_isOpen 5 = .ok (.aload_n 0, 1) := by decide +kernel
theorem dX1_isOpen_6 : decode cX1_isOpen 6 = .ok (.getfield 10, 3) := by decide +kernel
theorem dX1_isOpen_9 : decode cX1_isOpen 9 = .ok (.getfield 48, 3) := by decide +kernel
theorem dX1_isOpen_12 : decode cX1_isOpen 12 = .ok (.iload_n 1, 1) := by decide +kernel
theorem dX1_isOpen_13 : decode cX1_isOpen 13 = .ok (.baload, 1) := by decide +kernel
theorem dX1_isOpen_14 : decode cX1_isOpen 14 = .ok (.ireturn, 1) := by decide +kernel
theorem dX1_carriedBy_0 : decode cX1_carriedBy 0 = .ok (.aload_n 0, 1) := by decide +kernel
theorem dX1_carriedBy_1 : decode cX1_carriedBy 1 = .ok (.iload_n 1, 1) := by decide +kernel
theorem dX1_carriedBy_2 : decode cX1_carriedBy 2 = .ok (.invokevirtual 42, 3) := by decide +kernel
theorem dX1_carriedBy_5 : decode cX1_carriedBy 5 = .ok (.aload_n 0, 1) := by decide +kernel
theorem dX1_carriedBy_6 : decode cX1_carriedBy 6 = .ok (.getfield 10, 3) := by decide +kernel
theorem dX1_carriedBy_9 : decode cX1_carriedBy 9 = .ok (.getfield 117, 3) := by decide +kernel
theorem dX1_carriedBy_12 : decode cX1_carriedBy 12 = .ok (.iload_n 1, 1) := by decide +kernel
theorem dX1_carriedBy_13 : decode cX1_carriedBy 13 = .ok (.iaload, 1) := by decide +kernel
theorem dX1_carriedBy_14 : decode cX1_carriedBy 14 = .ok (.ireturn, 1) := by decide +kernel
theorem dX1_wouldCarry_0 : decode cX1_wouldCarry 0 = .ok (.aload_n 0, 1) := by decide +kernel
theorem dX1_wouldCarry_1 : decode cX1_wouldCarry 1 = .ok (.iload_n 1, 1) := by decide +kernel
theorem dX1_wouldCarry_2 : decode cX1_wouldCarry 2 = .ok (.invokevirtual 42, 3) := by decide +kernel
theorem dX1_wouldCarry_5 : decode cX1_wouldCarry 5 = .ok (.aload_n 0, 1) := by decide +kernel
theorem dX1_wouldCarry_6 : decode cX1_wouldCarry 6 = .ok (.getfield 10, 3) := by decide +kernel
theorem dX1_wouldCarry_9 : decode cX1_wouldCarry 9 = .ok (.iload_n 1, 1) := by decide +kernel
theorem dX1_wouldCarry_10 : decode cX1_wouldCarry 10 = .ok (.invokevirtual 120, 3) := by decide +kernel
theorem dX1_wouldCarry_13 : decode cX1_wouldCarry 13 = .ok (.invokestatic 123, 3) := by decide +kernel
theorem dX1_wouldCarry_16 : decode cX1_wouldCarry 16 = .ok (.ireturn, 1) := by decide +kernel
theorem dX1_busiest_0 : decode cX1_busiest 0 = .ok (.iconst (-1), 1) := by decide +kernel
theorem dX1_busiest_1 : decode cX1_busiest 1 = .ok (.istore_n 1, 1) := by decide +kernel
theorem dX1_busiest_2 : decode cX1_busiest 2 = .ok (.iconst 0, 1) := by decide +kernel
theorem dX1_busiest_3 : decode cX1_busiest 3 = .ok (.istore_n 2, 1) := by decide +kernel
theorem dX1_busiest_4 : decode cX1_busiest 4 = .ok (.iconst 0, 1) := by decide +kernel
theorem dX1_busiest_5 : decode cX1_busiest 5 = .ok (.istore_n 3, 1) := by decide +kernel
theorem dX1_busiest_6 : decode cX1_busiest 6 = .ok (.iload_n 3, 1) := by decide +kernel
theorem dX1_busiest_7 : decode cX1_busiest 7 = .ok (.aload_n 0, 1) := by decide +kernel
theorem dX1_busiest_8 : decode cX1_busiest 8 = .ok (.getfield 10, 3) := by decide +kernel
theorem dX1_busiest_11 : decode cX1_busiest 11 = .ok (.getfield 77, 3) := by decide +kernel
theorem dX1_busiest_14 : decode cX1_busiest 14 = .ok (.if_icmp .ge 36, 3) := by decide +kernel
theorem dX1_busiest_17 : decode cX1_busiest 17 = .ok (.aload_n 0, 1) := by decide +kernel
theorem dX1_busiest_18 : decode cX1_busiest 18 = .ok (.getfield 10, 3) := by decide +kernel
theorem dX1_busiest_21 : decode cX1_busiest 21 = .ok (.getfield 117, 3) := by decide +kernel
theorem dX1_busiest_24 : decode cX1_busiest 24 = .ok (.iload_n 3, 1) := by decide +kernel
theorem dX1_busiest_25 : decode cX1_busiest 25 = .ok (.iaload, 1) := by decide +kernel
theorem dX1_busiest_26 : decode cX1_busiest 26 = .ok (.istore 4, 2) := by decide +kernel
theorem dX1_busiest_28 : decode cX1_busiest 28 = .ok (.iload_n 1, 1) := by decide +kernel
theorem dX1_busiest_29 : decode cX1_busiest 29 = .ok (.iconst (-1), 1) := by decide +kernel
theorem dX1_busiest_30 : decode cX1_busiest 30 = .ok (.if_icmp .eq 9, 3) := by decide +kernel
theorem dX1_busiest_33 : decode cX1_busiest 33 = .ok (.iload 4, 2) := by decide +kernel
theorem dX1_busiest_35 : decode cX1_busiest 35 = .ok (.iload_n 2, 1) := by decide +kernel
theorem dX1_busiest_36 : decode cX1_busiest 36 = .ok (.if_icmp .le 8, 3) := by decide +kernel
theorem dX1_busiest_39 : decode cX1_busiest 39 = .ok (.iload_n 3, 1) := by decide +kernel
theorem dX1_busiest_40 : decode cX1_busiest 40 = .ok (.istore_n 1, 1) := by decide +kernel
theorem dX1_busiest_41 : decode cX1_busiest 41 = .ok (.iload 4, 2) := by decide +kernel
theorem dX1_busiest_43 : decode cX1_busiest 43 = .ok (.istore_n 2, 1) := by decide +kernel
theorem dX1_busiest_44 : decode cX1_busiest 44 = .ok (.iinc 3 1, 3) := by decide +kernel
theorem dX1_busiest_47 : decode cX1_busiest 47 = .ok (.goto (-41), 3) := by decide +kernel
theorem dX1_busiest_50 : decode cX1_busiest 50 = .ok (.iload_n 1, 1) := by decide +kernel
theorem dX1_busiest_51 : decode cX1_busiest 51 = .ok (.ireturn, 1) := by decide +kernel
theorem dX1_hoursUntilRuined_0 : decode cX1_hoursUntilRuined 0 = .ok (.aload_n 0, 1) := by decide +kernel
theorem dX1_hoursUntilRuined_1 : decode cX1_hoursUntilRuined 1 = .ok (.iload_n 1, 1) := by decide +kernel
theorem dX1_hoursUntilRuined_2 : decode cX1_hoursUntilRuined 2 = .ok (.invokevirtual 34, 3) := by decide +kernel
theorem dX1_hoursUntilRuined_5 : decode cX1_hoursUntilRuined 5 = .ok (.aload_n 0, 1) := by decide +kernel
theorem dX1_hoursUntilRuined_6 : decode cX1_hoursUntilRuined 6 = .ok (.getfield 16, 3) := by decide +kernel
theorem dX1_hoursUntilRuined_9 : decode cX1_hoursUntilRuined 9 = .ok (.aload_n 0, 1) := by decide +kernel
theorem dX1_hoursUntilRuined_10 : decode cX1_hoursUntilRuined 10 = .ok (.getfield 10, 3) := by decide +kernel
theorem dX1_hoursUntilRuined_13 : decode cX1_hoursUntilRuined 13 = .ok (.invokevirtual 128, 3) := by decide +kernel
theorem dX1_hoursUntilRuined_16 : decode cX1_hoursUntilRuined 16 = .ok (.iconst 0, 1) := by decide +kernel
theorem dX1_hoursUntilRuined_17 : decode cX1_hoursUntilRuined 17 = .ok (.istore_n 2, 1) := by decide +kernel
theorem dX1_hoursUntilRuined_18 : decode cX1_hoursUntilRuined 18 = .ok (.iload_n 2, 1) := by decide +kernel
theorem dX1_hoursUntilRuined_19 : decode cX1_hoursUntilRuined 19 = .ok (.bipush 100, 2) := by decide +kernel
theorem dX1_hoursUntilRuined_21 : decode cX1_hoursUntilRuined 21 = .ok (.if_icmp .gt 30, 3) := by decide +kernel
theorem dX1_hoursUntilRuined_24 : decode cX1_hoursUntilRuined 24 = .ok (.aload_n 0, 1) := by decide +kernel
theorem dX1_hoursUntilRuined_25 : decode cX1_hoursUntilRuined 25 = .ok (.getfield 16, 3) := by decide +kernel
theorem dX1_hoursUntilRuined_28 : decode cX1_hoursUntilRuined 28 = .ok (.getfield 97, 3) := by decide +kernel
theorem dX1_hoursUntilRuined_31 : decode cX1_hoursUntilRuined 31 = .ok (.iload_n 1, 1) := by decide +kernel
theorem dX1_hoursUntilRuined_32 : decode cX1_hoursUntilRuined 32 = .ok (.baload, 1) := by decide +kernel
theorem dX1_hoursUntilRuined_33 : decode cX1_hoursUntilRuined 33 = .ok (.ifCond .eq 5, 3) := by decide +kernel
theorem dX1_hoursUntilRuined_36 : decode cX1_hoursUntilRuined 36 = .ok (.iload_n 2, 1) := by decide +kernel
theorem dX1_hoursUntilRuined_37 : decode cX1_hoursUntilRuined 37 = .ok (.ireturn, 1) := by decide +kernel
theorem dX1_hoursUntilRuined_38 : decode cX1_hoursUntilRuined 38 = .ok (.aload_n 0, 1) := by decide +kernel
theorem dX1_hoursUntilRuined_39 : decode cX1_hoursUntilRuined 39 = .ok (.getfield 16, 3) := by decide +kernel
theorem dX1_hoursUntilRuined_42 : decode cX1_hoursUntilRuined 42 = .ok (.invokevirtual 132, 3) := by decide +kernel
theorem dX1_hoursUntilRuined_45 : decode cX1_hoursUntilRuined 45 = .ok (.iinc 2 1, 3) := by decide +kernel
theorem dX1_hoursUntilRuined_48 : decode cX1_hoursUntilRuined 48 = .ok (.goto (-30), 3) := by decide +kernel
theorem dX1_hoursUntilRuined_51 : decode cX1_hoursUntilRuined 51 = .ok (.iconst (-1), 1) := by decide +kernel
theorem dX1_hoursUntilRuined_52 : decode cX1_hoursUntilRuined 52 = .ok (.ireturn, 1) := by decide +kernel
theorem dX1_lossIn_0 : decode cX1_lossIn 0 = .ok (.iload_n 1, 1) := by decide +kernel
theorem dX1_lossIn_1 : decode cX1_lossIn 1 = .ok (.iconst 1, 1) := by decide +kernel
theorem dX1_lossIn_2 : decode cX1_lossIn 2 = .ok (.bipush 48, 2) := by decide +kernel
theorem dX1_lossIn_4 : decode cX1_lossIn 4 = .ok (.invokestatic 19, 3) := by decide +kernel
theorem dX1_lossIn_7 : decode cX1_lossIn 7 = .ok (.aload_n 0, 1) := by decide +kernel
theorem dX1_lossIn_8 : decode cX1_lossIn 8 = .ok (.getfield 16, 3) := by decide +kernel
theorem dX1_lossIn_11 : decode cX1_lossIn 11 = .ok (.aload_n 0, 1) := by decide +kernel
theorem dX1_lossIn_12 : decode cX1_lossIn 12 = .ok (.getfield 10, 3) := by decide +kernel
theorem dX1_lossIn_15 : decode cX1_lossIn 15 = .ok (.invokevirtual 128, 3) := by decide +kernel
theorem dX1_lossIn_18 : decode cX1_lossIn 18 = .ok (.aload_n 0, 1) := by decide +kernel
theorem dX1_lossIn_19 : decode cX1_lossIn 19 = .ok (.getfield 16, 3) := by decide +kernel
theorem dX1_lossIn_22 : decode cX1_lossIn 22 = .ok (.iload_n 1, 1) := by decide +kernel
theorem dX1_lossIn_23 : decode cX1_lossIn 23 = .ok (.invokevirtual 68, 3) := by decide +kernel
theorem dX1_lossIn_26 : decode cX1_lossIn 26 = .ok (.aload_n 0, 1) := by decide +kernel
theorem dX1_lossIn_27 : decode cX1_lossIn 27 = .ok (.getfield 16, 3) := by decide +kernel
theorem dX1_lossIn_30 : decode cX1_lossIn 30 = .ok (.invokevirtual 87, 3) := by decide +kernel
theorem dX1_lossIn_33 : decode cX1_lossIn 33 = .ok (.ireturn, 1) := by decide +kernel
theorem dX1_waterIn_0 : decode cX1_waterIn 0 = .ok (.aload_n 0, 1) := by decide +kernel
theorem dX1_waterIn_1 : decode cX1_waterIn 1 = .ok (.iload_n 1, 1) := by decide +kernel
theorem dX1_waterIn_2 : decode cX1_waterIn 2 = .ok (.invokevirtual 34, 3) := by decide +kernel
theorem dX1_waterIn_5 : decode cX1_waterIn 5 = .ok (.iload_n 2, 1) := by decide +kernel
theorem dX1_waterIn_6 : decode cX1_waterIn 6 = .ok (.iconst 1, 1) := by decide +kernel
theorem dX1_waterIn_7 : decode cX1_waterIn 7 = .ok (.bipush 48, 2) := by decide +kernel
theorem dX1_waterIn_9 : decode cX1_waterIn 9 = .ok (.invokestatic 19, 3) := by decide +kernel
theorem dX1_waterIn_12 : decode cX1_waterIn 12 = .ok (.aload_n 0, 1) := by decide +kernel
theorem dX1_waterIn_13 : decode cX1_waterIn 13 = .ok (.getfield 16, 3) := by decide +kernel
theorem dX1_waterIn_16 : decode cX1_waterIn 16 = .ok (.aload_n 0, 1) := by decide +kernel
theorem dX1_waterIn_17 : decode cX1_waterIn 17 = .ok (.getfield 10, 3) := by decide +kernel
theorem dX1_waterIn_20 : decode cX1_waterIn 20 = .ok (.invokevirtual 128, 3) := by decide +kernel
theorem dX1_waterIn_23 : decode cX1_waterIn 23 = .ok (.aload_n 0, 1) := by decide +kernel
theorem dX1_waterIn_24 : decode cX1_waterIn 24 = .ok (.getfield 16, 3) := by decide +kernel
theorem dX1_waterIn_27 : decode cX1_waterIn 27 = .ok (.iload_n 2, 1) := by decide +kernel
theorem dX1_waterIn_28 : decode cX1_waterIn 28 = .ok (.invokevirtual 68, 3) := by decide +kernel
theorem dX1_waterIn_31 : decode cX1_waterIn 31 = .ok (.aload_n 0, 1) := by decide +kernel
theorem dX1_waterIn_32 : decode cX1_waterIn 32 = .ok (.getfield 16, 3) := by decide +kernel
theorem dX1_waterIn_35 : decode cX1_waterIn 35 = .ok (.getfield 60, 3) := by decide +kernel
theorem dX1_waterIn_38 : decode cX1_waterIn 38 = .ok (.iload_n 1, 1) := by decide +kernel
theorem dX1_waterIn_39 : decode cX1_waterIn 39 = .ok (.iaload, 1) := by decide +kernel
theorem dX1_waterIn_40 : decode cX1_waterIn 40 = .ok (.ireturn, 1) := by decide +kernel
theorem dX1_bestToTurn_0 : decode cX1_bestToTurn 0 = .ok (.aload_n 0, 1) := by decide +kernel
theorem dX1_bestToTurn_1 : decode cX1_bestToTurn 1 = .ok (.getfield 16, 3) := by decide +kernel
theorem dX1_bestToTurn_4 : decode cX1_bestToTurn 4 = .ok (.aload_n 0, 1) := by decide +kernel
theorem dX1_bestToTurn_5 : decode cX1_bestToTurn 5 = .ok (.getfield 10, 3) := by decide +kernel
theorem dX1_bestToTurn_8 : decode cX1_bestToTurn 8 = .ok (.invokevirtual 128, 3) := by decide +kernel
theorem dX1_bestToTurn_11 : decode cX1_bestToTurn 11 = .ok (.aload_n 0, 1) := by decide +kernel
theorem dX1_bestToTurn_12 : decode cX1_bestToTurn 12 = .ok (.getfield 16, 3) := by decide +kernel
theorem dX1_bestToTurn_15 : decode cX1_bestToTurn 15 = .ok (.bipush 24, 2) := by decide +kernel
theorem dX1_bestToTurn_17 : decode cX1_bestToTurn 17 = .ok (.invokevirtual 68, 3) := by decide +kernel
theorem dX1_bestToTurn_20 : decode cX1_bestToTurn 20 = .ok (.aload_n 0, 1) := by decide +kernel
theorem dX1_bestToTurn_21 : decode cX1_bestToTurn 21 = .ok (.getfield 16, 3) := by decide +kernel
theorem dX1_bestToTurn_24 : decode cX1_bestToTurn 24 = .ok (.invokevirtual 87, 3) := by decide +kernel
theorem dX1_bestToTurn_27 : decode cX1_bestToTurn 27 = .ok (.istore_n 1, 1) := by decide +kernel
theorem dX1_bestToTurn_28 : decode cX1_bestToTurn 28 = .ok (.iconst (-1), 1) := by decide +kernel
theorem dX1_bestToTurn_29 : decode cX1_bestToTurn 29 = .ok (.istore_n 2, 1) := by decide +kernel
theorem dX1_bestToTurn_30 : decode cX1_bestToTurn 30 = .ok (.iconst 0, 1) := by decide +kernel
theorem dX1_bestToTurn_31 : decode cX1_bestToTurn 31 = .ok (.istore_n 3, 1) := by decide +kernel
theorem dX1_bestToTurn_32 : decode cX1_bestToTurn 32 = .ok (.iload_n 3, 1) := by decide +kernel
theorem dX1_bestToTurn_33 : decode cX1_bestToTurn 33 = .ok (.aload_n 0, 1) := by decide +kernel
theorem dX1_bestToTurn_34 : decode cX1_bestToTurn 34 = .ok (.getfield 10, 3) := by decide +kernel
theorem dX1_bestToTurn_37 : decode cX1_bestToTurn 37 = .ok (.getfield 77, 3) := by decide +kernel
theorem dX1_bestToTurn_40 : decode cX1_bestToTurn 40 = .ok (.if_icmp .ge 57, 3) := by decide +kernel
theorem dX1_bestToTurn_43 : decode cX1_bestToTurn 43 = .ok (.aload_n 0, 1) := by decide +kernel
theorem dX1_bestToTurn_44 : decode cX1_bestToTurn 44 = .ok (.getfield 16, 3) := by decide +kernel
theorem dX1_bestToTurn_47 : decode cX1_bestToTurn 47 = .ok (.aload_n 0, 1) := by decide +kernel
theorem dX1_bestToTurn_48 : decode cX1_bestToTurn 48 = .ok (.getfield 10, 3) := by decide +kernel
theorem dX1_bestToTurn_51 : decode cX1_bestToTurn 51 = .ok (.invokevirtual 128, 3) := by decide +kernel
theorem dX1_bestToTurn_54 : decode cX1_bestToTurn 54 = .ok (.aload_n 0, 1) := by decide +kernel
theorem dX1_bestToTurn_55 : decode cX1_bestToTurn 55 = .ok (.getfield 16, 3) := by decide +kernel
theorem dX1_bestToTurn_58 : decode cX1_bestToTurn 58 = .ok (.iload_n 3, 1) := by decide +kernel
theorem dX1_bestToTurn_59 : decode cX1_bestToTurn 59 = .ok (.invokevirtual 45, 3) := by decide +kernel
theorem dX1_bestToTurn_62 : decode cX1_bestToTurn 62 = .ok (.aload_n 0, 1) := by decide +kernel
theorem dX1_bestToTurn_63 : decode cX1_bestToTurn 63 = .ok (.getfield 16, 3) := by decide +kernel
theorem dX1_bestToTurn_66 : decode cX1_bestToTurn 66 = .ok (.bipush 24, 2) := by decide +kernel
theorem dX1_bestToTurn_68 : decode cX1_bestToTurn 68 = .ok (.invokevirtual 68, 3) := by decide +kernel
theorem dX1_bestToTurn_71 : decode cX1_bestToTurn 71 = .ok (.aload_n 0, 1) := by decide +kernel
theorem dX1_bestToTurn_72 : decode cX1_bestToTurn 72 = .ok (.getfield 16, 3) := by decide +kernel
theorem dX1_bestToTurn_75 : decode cX1_bestToTurn 75 = .ok (.invokevirtual 87, 3) := by decide +kernel
theorem dX1_bestToTurn_78 : decode cX1_bestToTurn 78 = .ok (.istore 4, 2) := by decide +kernel
theorem dX1_bestToTurn_80 : decode cX1_bestToTurn 80 = .ok (.iload 4, 2) := by decide +kernel
theorem dX1_bestToTurn_82 : decode cX1_bestToTurn 82 = .ok (.iload_n 1, 1) := by decide +kernel
theorem dX1_bestToTurn_83 : decode cX1_bestToTurn 83 = .ok (.if_icmp .ge 8, 3) := by decide +kernel
theorem dX1_bestToTurn_86 : decode cX1_bestToTurn 86 = .ok (.iload_n 3, 1) := by decide +kernel
theorem dX1_bestToTurn_87 : decode cX1_bestToTurn 87 = .ok (.istore_n 2, 1) := by decide +kernel
theorem dX1_bestToTurn_88 : decode cX1_bestToTurn 88 = .ok (.iload 4, 2) := by decide +kernel
theorem dX1_bestToTurn_90 : decode cX1_bestToTurn 90 = .ok (.istore_n 1, 1) := by decide +kernel
theorem dX1_bestToTurn_91 : decode cX1_bestToTurn 91 = .ok (.iinc 3 1, 3) := by decide +kernel
theorem dX1_bestToTurn_94 : decode cX1_bestToTurn 94 = .ok (.goto (-62), 3) := by decide +kernel
theorem dX1_bestToTurn_97 : decode cX1_bestToTurn 97 = .ok (.iload_n 2, 1) := by decide +kernel
theorem dX1_bestToTurn_98 : decode cX1_bestToTurn 98 = .ok (.ireturn, 1) := by decide +kernel
theorem dX1_bestToFlood_0 : decode cX1_bestToFlood 0 = .ok (.iload_n 1, 1) := by decide +kernel
theorem dX1_bestToFlood_1 : decode cX1_bestToFlood 1 = .ok (.iconst 1, 1) := by decide +kernel
theorem dX1_bestToFlood_2 : decode cX1_bestToFlood 2 = .ok (.bipush 50, 2) := by decide +kernel
theorem dX1_bestToFlood_4 : decode cX1_bestToFlood 4 = .ok (.invokestatic 19, 3) := by decide +kernel
theorem dX1_bestToFlood_7 : decode cX1_bestToFlood 7 = .ok (.iconst (-1), 1) := by decide +kernel
theorem dX1_bestToFlood_8 : decode cX1_bestToFlood 8 = .ok (.istore_n 2, 1) := by decide +kernel
theorem dX1_bestToFlood_9 : decode cX1_bestToFlood 9 = .ok (.iconst 0, 1) := by decide +kernel
theorem dX1_bestToFlood_10 : decode cX1_bestToFlood 10 = .ok (.istore_n 3, 1) := by decide +kernel
theorem dX1_bestToFlood_11 : decode cX1_bestToFlood 11 = .ok (.iconst 0, 1) := by decide +kernel
theorem dX1_bestToFlood_12 : decode cX1_bestToFlood 12 = .ok (.istore 4, 2) := by decide +kernel
theorem dX1_bestToFlood_14 : decode cX1_bestToFlood 14 = .ok (.iload 4, 2) := by decide +kernel
theorem dX1_bestToFlood_16 : decode cX1_bestToFlood 16 = .ok (.aload_n 0, 1) := by decide +kernel
theorem dX1_bestToFlood_17 : decode cX1_bestToFlood 17 = .ok (.getfield 10, 3) := by decide +kernel
theorem dX1_bestToFlood_20 : decode cX1_bestToFlood 20 = .ok (.getfield 74, 3) := by decide +kernel
theorem dX1_bestToFlood_23 : decode cX1_bestToFlood 23 = .ok (.if_icmp .ge 65, 3) := by decide +kernel
theorem dX1_bestToFlood_26 : decode cX1_bestToFlood 26 = .ok (.aload_n 0, 1) := by decide +kernel
theorem dX1_bestToFlood_27 : decode cX1_bestToFlood 27 = .ok (.getfield 16, 3) := by decide +kernel
theorem dX1_bestToFlood_30 : decode cX1_bestToFlood 30 = .ok (.aload_n 0, 1) := by decide +kernel
theorem dX1_bestToFlood_31 : decode cX1_bestToFlood 31 = .ok (.getfield 10, 3) := by decide +kernel
theorem dX1_bestToFlood_34 : decode cX1_bestToFlood 34 = .ok (.invokevirtual 128, 3) := by decide +kernel
theorem dX1_bestToFlood_37 : decode cX1_bestToFlood 37 = .ok (.aload_n 0, 1) := by decide +kernel
theorem dX1_bestToFlood_38 : decode cX1_bestToFlood 38 = .ok (.getfield 16, 3) := by decide +kernel
theorem dX1_bestToFlood_41 : decode cX1_bestToFlood 41 = .ok (.iload 4, 2) := by decide +kernel
theorem dX1_bestToFlood_43 : decode cX1_bestToFlood 43 = .ok (.iload_n 1, 1) := by decide +kernel
theorem dX1_bestToFlood_44 : decode cX1_bestToFlood 44 = .ok (.invokevirtual 56, 3) := by decide +kernel
theorem dX1_bestToFlood_47 : decode cX1_bestToFlood 47 = .ok (.aload_n 0, 1) := by decide +kernel
theorem dX1_bestToFlood_48 : decode cX1_bestToFlood 48 = .ok (.getfield 16, 3) := by decide +kernel
theorem dX1_bestToFlood_51 : decode cX1_bestToFlood 51 = .ok (.bipush 24, 2) := by decide +kernel
theorem dX1_bestToFlood_53 : decode cX1_bestToFlood 53 = .ok (.invokevirtual 68, 3) := by decide +kernel
theorem dX1_bestToFlood_56 : decode cX1_bestToFlood 56 = .ok (.aload_n 0, 1) := by decide +kernel
theorem dX1_bestToFlood_57 : decode cX1_bestToFlood 57 = .ok (.getfield 16, 3) := by decide +kernel
theorem dX1_bestToFlood_60 : decode cX1_bestToFlood 60 = .ok (.invokevirtual 87, 3) := by decide +kernel
theorem dX1_bestToFlood_63 : decode cX1_bestToFlood 63 = .ok (.istore 5, 2) := by decide +kernel
theorem dX1_bestToFlood_65 : decode cX1_bestToFlood 65 = .ok (.iload_n 2, 1) := by decide +kernel
theorem dX1_bestToFlood_66 : decode cX1_bestToFlood 66 = .ok (.iconst (-1), 1) := by decide +kernel
theorem dX1_bestToFlood_67 : decode cX1_bestToFlood 67 = .ok (.if_icmp .eq 9, 3) := by decide +kernel
theorem dX1_bestToFlood_70 : decode cX1_bestToFlood 70 = .ok (.iload 5, 2) := by decide +kernel
theorem dX1_bestToFlood_72 : decode cX1_bestToFlood 72 = .ok (.iload_n 3, 1) := by decide +kernel
theorem dX1_bestToFlood_73 : decode cX1_bestToFlood 73 = .ok (.if_icmp .ge 9, 3) := by decide +kernel
theorem dX1_bestToFlood_76 : decode cX1_bestToFlood 76 = .ok (.iload 4, 2) := by decide +kernel
theorem dX1_bestToFlood_78 : decode cX1_bestToFlood 78 = .ok (.istore_n 2, 1) := by decide +kernel
theorem dX1_bestToFlood_79 : decode cX1_bestToFlood 79 = .ok (.iload 5, 2) := by decide +kernel
theorem dX1_bestToFlood_81 : decode cX1_bestToFlood 81 = .ok (.istore_n 3, 1) := by decide +kernel
theorem dX1_bestToFlood_82 : decode cX1_bestToFlood 82 = .ok (.iinc 4 1, 3) := by decide +kernel
theorem dX1_bestToFlood_85 : decode cX1_bestToFlood 85 = .ok (.goto (-71), 3) := by decide +kernel
theorem dX1_bestToFlood_88 : decode cX1_bestToFlood 88 = .ok (.iload_n 2, 1) := by decide +kernel
theorem dX1_bestToFlood_89 : decode cX1_bestToFlood 89 = .ok (.ireturn, 1) := by decide +kernel
theorem dX1_rainBorne_0 : decode cX1_rainBorne 0 = .ok (.aload_n 0, 1) := by decide +kernel
theorem dX1_rainBorne_1 : decode cX1_rainBorne 1 = .ok (.getfield 10, 3) := by decide +kernel
theorem dX1_rainBorne_4 : decode cX1_rainBorne 4 = .ok (.invokevirtual 87, 3) := by decide +kernel
theorem dX1_rainBorne_7 : decode cX1_rainBorne 7 = .ok (.istore_n 1, 1) := by decide +kernel
theorem dX1_rainBorne_8 : decode cX1_rainBorne 8 = .ok (.bipush 9, 2) := by decide +kernel
theorem dX1_rainBorne_10 : decode cX1_rainBorne 10 = .ok (.istore_n 2, 1) := by decide +kernel
theorem dX1_rainBorne_11 : decode cX1_rainBorne 11 = .ok (.iload_n 2, 1) := by decide +kernel
theorem dX1_rainBorne_12 : decode cX1_rainBorne 12 = .ok (.ifCond .lt 50, 3) := by decide +kernel
theorem dX1_rainBorne_15 : decode cX1_rainBorne 15 = .ok (.aload_n 0, 1) := by decide +kernel
theorem dX1_rainBorne_16 : decode cX1_rainBorne 16 = .ok (.getfield 16, 3) := by decide +kernel
theorem dX1_rainBorne_19 : decode cX1_rainBorne 19 = .ok (.aload_n 0, 1) := by decide +kernel
theorem dX1_rainBorne_20 : decode cX1_rainBorne 20 = .ok (.getfield 10, 3) := by decide +kernel
theorem dX1_rainBorne_23 : decode cX1_rainBorne 23 = .ok (.invokevirtual 128, 3) := by decide +kernel
theorem dX1_rainBorne_26 : decode cX1_rainBorne 26 = .ok (.aload_n 0, 1) := by decide +kernel
theorem dX1_rainBorne_27 : decode cX1_rainBorne 27 = .ok (.getfield 16, 3) := by decide +kernel
theorem dX1_rainBorne_30 : decode cX1_rainBorne 30 = .ok (.iload_n 2, 1) := by decide +kernel
theorem dX1_rainBorne_31 : decode cX1_rainBorne 31 = .ok (.putfield 52, 3) := by decide +kernel
theorem dX1_rainBorne_34 : decode cX1_rainBorne 34 = .ok (.aload_n 0, 1) := by decide +kernel
theorem dX1_rainBorne_35 : decode cX1_rainBorne 35 = .ok (.getfield 16, 3) := by decide +kernel
theorem dX1_rainBorne_38 : decode cX1_rainBorne 38 = .ok (.bipush 24, 2) := by decide +kernel
theorem dX1_rainBorne_40 : decode cX1_rainBorne 40 = .ok (.invokevirtual 68, 3) := by decide +kernel
theorem dX1_rainBorne_43 : decode cX1_rainBorne 43 = .ok (.aload_n 0, 1) := by decide +kernel
theorem dX1_rainBorne_44 : decode cX1_rainBorne 44 = .ok (.getfield 16, 3) := by decide +kernel
theorem dX1_rainBorne_47 : decode cX1_rainBorne 47 = .ok (.invokevirtual 87, 3) := by decide +kernel
theorem dX1_rainBorne_50 : decode cX1_rainBorne 50 = .ok (.iload_n 1, 1) := by decide +kernel
theorem dX1_rainBorne_51 : decode cX1_rainBorne 51 = .ok (.if_icmp .ne 5, 3) := by decide +kernel
theorem dX1_rainBorne_54 : decode cX1_rainBorne 54 = .ok (.iload_n 2, 1) := by decide +kernel
theorem dX1_rainBorne_55 : decode cX1_rainBorne 55 = .ok (.ireturn, 1) := by decide +kernel
theorem dX1_rainBorne_56 : decode cX1_rainBorne 56 = .ok (.iinc 2 (-1), 3) := by decide +kernel
theorem dX1_rainBorne_59 : decode cX1_rainBorne 59 = .ok (.goto (-48), 3) := by decide +kernel
theorem dX1_rainBorne_62 : decode cX1_rainBorne 62 = .ok (.iconst (-1), 1) := by decide +kernel
theorem dX1_rainBorne_63 : decode cX1_rainBorne 63 = .ok (.ireturn, 1) := by decide +kernel
theorem dX1_meanWater_0 : decode cX1_meanWater 0 = .ok (.aload_n 0, 1) := by decide +kernel
theorem dX1_meanWater_1 : decode cX1_meanWater 1 = .ok (.getfield 10, 3) := by decide +kernel
theorem dX1_meanWater_4 : decode cX1_meanWater 4 = .ok (.getfield 74, 3) := by decide +kernel
theorem dX1_meanWater_7 : decode cX1_meanWater 7 = .ok (.istore_n 1, 1) := by decide +kernel
theorem dX1_meanWater_8 : decode cX1_meanWater 8 = .ok (.iload_n 1, 1) := by decide +kernel
theorem dX1_meanWater_9 : decode cX1_meanWater 9 = .ok (.ifCond .gt 5, 3) := by decide +kernel
theorem dX1_meanWater_12 : decode cX1_meanWater 12 = .ok (.dconst 0, 1) := by decide +kernel
theorem dX1_meanWater_13 : decode cX1_meanWater 13 = .ok (.dreturn, 1) := by decide +kernel
theorem dX1_meanWater_14 : decode cX1_meanWater 14 = .ok (.aload_n 0, 1) := by decide +kernel
theorem dX1_meanWater_15 : decode cX1_meanWater 15 = .ok (.invokevirtual 135, 3) := by decide +kernel
theorem dX1_meanWater_18 : decode cX1_meanWater 18 = .ok (.i2d, 1) := by decide +kernel
theorem dX1_meanWater_19 : decode cX1_meanWater 19 = .ok (.iload_n 1, 1) := by decide +kernel
theorem dX1_meanWater_20 : decode cX1_meanWater 20 = .ok (.i2d, 1) := by decide +kernel
theorem dX1_meanWater_21 : decode cX1_meanWater 21 = .ok (.ddiv, 1) := by decide +kernel
theorem dX1_meanWater_22 : decode cX1_meanWater 22 = .ok (.dreturn, 1) := by decide +kernel
theorem dX1_digest_0 : decode cX1_digest 0 = .ok (.ldc2_w 138, 3) := by decide +kernel
theorem dX1_digest_3 : decode cX1_digest 3 = .ok (.lstore_n 1, 1) := by decide +kernel
theorem dX1_digest_4 : decode cX1_digest 4 = .ok (.lload_n 1, 1) := by decide +kernel
theorem dX1_digest_5 : decode cX1_digest 5 = .ok (.aload_n 0, 1) := by decide +kernel
theorem dX1_digest_6 : decode cX1_digest 6 = .ok (.invokevirtual 140, 3) := by decide +kernel
theorem dX1_digest_9 : decode cX1_digest 9 = .ok (.invokestatic 143, 3) := by decide +kernel
theorem dX1_digest_12 : decode cX1_digest 12 = .ok (.lstore_n 1, 1) := by decide +kernel
theorem dX1_digest_13 : decode cX1_digest 13 = .ok (.lload_n 1, 1) := by decide +kernel
theorem dX1_digest_14 : decode cX1_digest 14 = .ok (.aload_n 0, 1) := by decide +kernel
theorem dX1_digest_15 : decode cX1_digest 15 = .ok (.invokevirtual 147, 3) := by decide +kernel
theorem dX1_digest_18 : decode cX1_digest 18 = .ok (.invokestatic 143, 3) := by decide +kernel
theorem dX1_digest_21 : decode cX1_digest 21 = .ok (.lstore_n 1, 1) := by decide +kernel
theorem dX1_digest_22 : decode cX1_digest 22 = .ok (.lload_n 1, 1) := by decide +kernel
theorem dX1_digest_23 : decode cX1_digest 23 = .ok (.aload_n 0, 1) := by decide +kernel
theorem dX1_digest_24 : decode cX1_digest 24 = .ok (.invokevirtual 150, 3) := by decide +kernel
theorem dX1_digest_27 : decode cX1_digest 27 = .ok (.invokestatic 143, 3) := by decide +kernel
theorem dX1_digest_30 : decode cX1_digest 30 = .ok (.lstore_n 1, 1) := by decide +kernel
theorem dX1_digest_31 : decode cX1_digest 31 = .ok (.lload_n 1, 1) := by decide +kernel
theorem dX1_digest_32 : decode cX1_digest 32 = .ok (.aload_n 0, 1) := by decide +kernel
theorem dX1_digest_33 : decode cX1_digest 33 = .ok (.invokevirtual 153, 3) := by decide +kernel
theorem dX1_digest_36 : decode cX1_digest 36 = .ok (.invokestatic 143, 3) := by decide +kernel
theorem dX1_digest_39 : decode cX1_digest 39 = .ok (.lstore_n 1, 1) := by decide +kernel
theorem dX1_digest_40 : decode cX1_digest 40 = .ok (.lload_n 1, 1) := by decide +kernel
theorem dX1_digest_41 : decode cX1_digest 41 = .ok (.aload_n 0, 1) := by decide +kernel
theorem dX1_digest_42 : decode cX1_digest 42 = .ok (.invokevirtual 135, 3) := by decide +kernel
theorem dX1_digest_45 : decode cX1_digest 45 = .ok (.invokestatic 143, 3) := by decide +kernel
theorem dX1_digest_48 : decode cX1_digest 48 = .ok (.lstore_n 1, 1) := by decide +kernel
theorem dX1_digest_49 : decode cX1_digest 49 = .ok (.lload_n 1, 1) := by decide +kernel
theorem dX1_digest_50 : decode cX1_digest 50 = .ok (.aload_n 0, 1) := by decide +kernel
theorem dX1_digest_51 : decode cX1_digest 51 = .ok (.invokevirtual 156, 3) := by decide +kernel
theorem dX1_digest_54 : decode cX1_digest 54 = .ok (.invokestatic 143, 3) := by decide +kernel
theorem dX1_digest_57 : decode cX1_digest 57 = .ok (.lstore_n 1, 1) := by decide +kernel
theorem dX1_digest_58 : decode cX1_digest 58 = .ok (.lload_n 1, 1) := by decide +kernel
theorem dX1_digest_59 : decode cX1_digest 59 = .ok (.aload_n 0, 1) := by decide +kernel
theorem dX1_digest_60 : decode cX1_digest 60 = .ok (.invokevirtual 159, 3) := by decide +kernel
theorem dX1_digest_63 : decode cX1_digest 63 = .ok (.invokestatic 143, 3) := by decide +kernel
theorem dX1_digest_66 : decode cX1_digest 66 = .ok (.lstore_n 1, 1) := by decide +kernel
theorem dX1_digest_67 : decode cX1_digest 67 = .ok (.lload_n 1, 1) := by decide +kernel
theorem dX1_digest_68 : decode cX1_digest 68 = .ok (.aload_n 0, 1) := by decide +kernel
theorem dX1_digest_69 : decode cX1_digest 69 = .ok (.invokevirtual 162, 3) := by decide +kernel
theorem dX1_digest_72 : decode cX1_digest 72 = .ok (.invokestatic 143, 3) := by decide +kernel
theorem dX1_digest_75 : decode cX1_digest 75 = .ok (.lstore_n 1, 1) := by decide +kernel
theorem dX1_digest_76 : decode cX1_digest 76 = .ok (.lload_n 1, 1) := by decide +kernel
theorem dX1_digest_77 : decode cX1_digest 77 = .ok (.aload_n 0, 1) := by decide +kernel
theorem dX1_digest_78 : decode cX1_digest 78 = .ok (.invokevirtual 165, 3) := by decide +kernel
theorem dX1_digest_81 : decode cX1_digest 81 = .ok (.invokestatic 143, 3) := by decide +kernel
theorem dX1_digest_84 : decode cX1_digest 84 = .ok (.lstore_n 1, 1) := by decide +kernel
theorem dX1_digest_85 : decode cX1_digest 85 = .ok (.lload_n 1, 1) := by decide +kernel
theorem dX1_digest_86 : decode cX1_digest 86 = .ok (.aload_n 0, 1) := by decide +kernel
theorem dX1_digest_87 : decode cX1_digest 87 = .ok (.invokevirtual 168, 3) := by decide +kernel
theorem dX1_digest_90 : decode cX1_digest 90 = .ok (.invokestatic 143, 3) := by decide +kernel
theorem dX1_digest_93 : decode cX1_digest 93 = .ok (.lstore_n 1, 1) := by decide +kernel
theorem dX1_digest_94 : decode cX1_digest 94 = .ok (.lload_n 1, 1) := by decide +kernel
theorem dX1_digest_95 : decode cX1_digest 95 = .ok (.aload_n 0, 1) := by decide +kernel
theorem dX1_digest_96 : decode cX1_digest 96 = .ok (.bipush 12, 2) := by decide +kernel
theorem dX1_digest_98 : decode cX1_digest 98 = .ok (.invokevirtual 171, 3) := by decide +kernel
theorem dX1_digest_101 : decode cX1_digest 101 = .ok (.invokestatic 143, 3) := by decide +kernel
theorem dX1_digest_104 : decode cX1_digest 104 = .ok (.lstore_n 1, 1) := by decide +kernel
theorem dX1_digest_105 : decode cX1_digest 105 = .ok (.lload_n 1, 1) := by decide +kernel
theorem dX1_digest_106 : decode cX1_digest 106 = .ok (.aload_n 0, 1) := by decide +kernel
theorem dX1_digest_107 : decode cX1_digest 107 = .ok (.invokevirtual 174, 3) := by decide +kernel
theorem dX1_digest_110 : decode cX1_digest 110 = .ok (.invokestatic 143, 3) := by decide +kernel
theorem dX1_digest_113 : decode cX1_digest 113 = .ok (.lstore_n 1, 1) := by decide +kernel
theorem dX1_digest_114 : decode cX1_digest 114 = .ok (.lload_n 1, 1) := by decide +kernel
theorem dX1_digest_115 : decode cX1_digest 115 = .ok (.aload_n 0, 1) := by decide +kernel
theorem dX1_digest_116 : decode cX1_digest 116 = .ok (.bipush 10, 2) := by decide +kernel
theorem dX1_digest_118 : decode cX1_digest 118 = .ok (.invokevirtual 177, 3) := by decide +kernel
theorem dX1_digest_121 : decode cX1_digest 121 = .ok (.invokestatic 143, 3) := by decide +kernel
theorem dX1_digest_124 : decode cX1_digest 124 = .ok (.lstore_n 1, 1) := by decide +kernel
theorem dX1_digest_125 : decode cX1_digest 125 = .ok (.lload_n 1, 1) := by decide +kernel
theorem dX1_digest_126 : decode cX1_digest 126 = .ok (.aload_n 0, 1) := by decide +kernel
theorem dX1_digest_127 : decode cX1_digest 127 = .ok (.invokevirtual 180, 3) := by decide +kernel
theorem dX1_digest_130 : decode cX1_digest 130 = .ok (.invokestatic 143, 3) := by decide +kernel
theorem dX1_digest_133 : decode cX1_digest 133 = .ok (.lstore_n 1, 1) := by decide +kernel
theorem dX1_digest_134 : decode cX1_digest 134 = .ok (.aload_n 0, 1) := by decide +kernel
theorem dX1_digest_135 : decode cX1_digest 135 = .ok (.lload_n 1, 1) := by decide +kernel
theorem dX1_digest_136 : decode cX1_digest 136 = .ok (.invokevirtual 183, 3) := by decide +kernel
theorem dX1_digest_139 : decode cX1_digest 139 = .ok (.lstore_n 1, 1) := by decide +kernel
theorem dX1_digest_140 : decode cX1_digest 140 = .ok (.aload_n 0, 1) := by decide +kernel
theorem dX1_digest_141 : decode cX1_digest 141 = .ok (.lload_n 1, 1) := by decide +kernel
theorem dX1_digest_142 : decode cX1_digest 142 = .ok (.invokevirtual 187, 3) := by decide +kernel
theorem dX1_digest_145 : decode cX1_digest 145 = .ok (.lreturn, 1) := by decide +kernel
theorem dX1_mixFields_0 : decode cX1_mixFields 0 = .ok (.lload_n 1, 1) := by decide +kernel
theorem dX1_mixFields_1 : decode cX1_mixFields 1 = .ok (.lstore_n 3, 1) := by decide +kernel
theorem dX1_mixFields_2 : decode cX1_mixFields 2 = .ok (.iconst 0, 1) := by decide +kernel
theorem dX1_mixFields_3 : decode cX1_mixFields 3 = .ok (.istore 5, 2) := by decide +kernel
theorem dX1_mixFields_5 : decode cX1_mixFields 5 = .ok (.iload 5, 2) := by decide +kernel
theorem dX1_mixFields_7 : decode cX1_mixFields 7 = .ok (.aload_n 0, 1) := by decide +kernel
theorem dX1_mixFields_8 : decode cX1_mixFields 8 = .ok (.getfield 10, 3) := by decide +kernel
theorem dX1_mixFields_11 : decode cX1_mixFields 11 = .ok (.getfield 74, 3) := by decide +kernel
theorem dX1_mixFields_14 : decode cX1_mixFields 14 = .ok (.if_icmp .ge 83, 3) := by decide +kernel
theorem dX1_mixFields_17 : decode cX1_mixFields 17 = .ok (.lload_n 3, 1) := by decide +kernel
theorem dX1_mixFields_18 : decode cX1_mixFields 18 = .ok (.aload_n 0, 1) := by decide +kernel
theorem dX1_mixFields_19 : decode cX1_mixFields 19 = .ok (.iload 5, 2) := by decide +kernel
theorem dX1_mixFields_21 : decode cX1_mixFields 21 = .ok (.invokevirtual 190, 3) := by decide +kernel
theorem dX1_mixFields_24 : decode cX1_mixFields 24 = .ok (.invokestatic 143, 3) := by decide +kernel
theorem dX1_mixFields_27 : decode cX1_mixFields 27 = .ok (.lstore_n 3, 1) := by decide +kernel
theorem dX1_mixFields_28 : decode cX1_mixFields 28 = .ok (.lload_n 3, 1) := by decide +kernel
theorem dX1_mixFields_29 : decode cX1_mixFields 29 = .ok (.aload_n 0, 1) := by decide +kernel
theorem dX1_mixFields_30 : decode cX1_mixFields 30 = .ok (.iload 5, 2) := by decide +kernel
theorem dX1_mixFields_32 : decode cX1_mixFields 32 = .ok (.invokevirtual 193, 3) := by decide +kernel
theorem dX1_mixFields_35 : decode cX1_mixFields 35 = .ok (.invokestatic 143, 3) := by decide +kernel
theorem dX1_mixFields_38 : decode cX1_mixFields 38 = .ok (.lstore_n 3, 1) := by decide +kernel
theorem dX1_mixFields_39 : decode cX1_mixFields 39 = .ok (.lload_n 3, 1) := by decide +kernel
theorem dX1_mixFields_40 : decode cX1_mixFields 40 = .ok (.aload_n 0, 1) := by decide +kernel
theorem dX1_mixFields_41 : decode cX1_mixFields 41 = .ok (.iload 5, 2) := by decide +kernel
theorem dX1_mixFields_43 : decode cX1_mixFields 43 = .ok (.invokevirtual 196, 3) := by decide +kernel
theorem dX1_mixFields_46 : decode cX1_mixFields 46 = .ok (.ifCond .eq 7, 3) := by decide +kernel
theorem dX1_mixFields_49 : decode cX1_mixFields 49 = .ok (.iconst 1, 1) := by decide +kernel
theorem dX1_mixFields_50 : decode cX1_mixFields 50 = .ok (.goto 4, 3) := by decide +kernel
theorem dX1_mixFields_53 : decode cX1_mixFields 53 = .ok (.iconst 0, 1) := by decide +kernel
theorem dX1_mixFields_54 : decode cX1_mixFields 54 = .ok (.invokestatic 143, 3) := by decide +kernel
theorem dX1_mixFields_57 : decode cX1_mixFields 57 = .ok (.lstore_n 3, 1) := by decide +kernel
theorem dX1_mixFields_58 : decode cX1_mixFields 58 = .ok (.lload_n 3, 1) := by decide +kernel
theorem dX1_mixFields_59 : decode cX1_mixFields 59 = .ok (.aload_n 0, 1) := by decide +kernel
theorem dX1_mixFields_60 : decode cX1_mixFields 60 = .ok (.iload 5, 2) := by decide +kernel
theorem dX1_mixFields_62 : decode cX1_mixFields 62 = .ok (.invokevirtual 199, 3) := by decide +kernel
theorem dX1_mixFields_65 : decode cX1_mixFields 65 = .ok (.invokestatic 143, 3) := by decide +kernel
theorem dX1_mixFields_68 : decode cX1_mixFields 68 = .ok (.lstore_n 3, 1) := by decide +kernel
theorem dX1_mixFields_69 : decode cX1_mixFields 69 = .ok (.lload_n 3, 1) := by decide +kernel
theorem dX1_mixFields_70 : decode cX1_mixFields 70 = .ok (.aload_n 0, 1) := by decide +kernel
theorem dX1_mixFields_71 : decode cX1_mixFields 71 = .ok (.iload 5, 2) := by decide +kernel
theorem dX1_mixFields_73 : decode cX1_mixFields 73 = .ok (.invokevirtual 202, 3) := by decide +kernel
theorem dX1_mixFields_76 : decode cX1_mixFields 76 = .ok (.invokestatic 143, 3) := by decide +kernel
theorem dX1_mixFields_79 : decode cX1_mixFields 79 = .ok (.lstore_n 3, 1) := by decide +kernel
theorem dX1_mixFields_80 : decode cX1_mixFields 80 = .ok (.lload_n 3, 1) := by decide +kernel
theorem dX1_mixFields_81 : decode cX1_mixFields 81 = .ok (.aload_n 0, 1) := by decide +kernel
theorem dX1_mixFields_82 : decode cX1_mixFields 82 = .ok (.iload 5, 2) := by decide +kernel
theorem dX1_mixFields_84 : decode cX1_mixFields 84 = .ok (.invokevirtual 205, 3) := by decide +kernel
theorem dX1_mixFields_87 : decode cX1_mixFields 87 = .ok (.invokestatic 143, 3) := by decide +kernel
theorem dX1_mixFields_90 : decode cX1_mixFields 90 = .ok (.lstore_n 3, 1) := by decide +kernel
theorem dX1_mixFields_91 : decode cX1_mixFields 91 = .ok (.iinc 5 1, 3) := by decide +kernel
theorem dX1_mixFields_94 : decode cX1_mixFields 94 = .ok (.goto (-89), 3) := by decide +kernel
theorem dX1_mixFields_97 : decode cX1_mixFields 97 = .ok (.lload_n 3, 1) := by decide +kernel
theorem dX1_mixFields_98 : decode cX1_mixFields 98 = .ok (.lreturn, 1) := by decide +kernel
theorem dX1_mixDrains_0 : decode cX1_mixDrains 0 = .ok (.lload_n 1, 1) := by decide +kernel
theorem dX1_mixDrains_1 : decode cX1_mixDrains 1 = .ok (.lstore_n 3, 1) := by decide +kernel
theorem dX1_mixDrains_2 : decode cX1_mixDrains 2 = .ok (.iconst 0, 1) := by decide +kernel
theorem dX1_mixDrains_3 : decode cX1_mixDrains 3 = .ok (.istore 5, 2) := by decide +kernel
theorem dX1_mixDrains_5 : decode cX1_mixDrains 5 = .ok (.iload 5, 2) := by decide +kernel
theorem dX1_mixDrains_7 : decode cX1_mixDrains 7 = .ok (.aload_n 0, 1) := by decide +kernel
theorem dX1_mixDrains_8 : decode cX1_mixDrains 8 = .ok (.getfield 10, 3) := by decide +kernel
theorem dX1_mixDrains_11 : decode cX1_mixDrains 11 = .ok (.getfield 77, 3) := by decide +kernel
theorem dX1_mixDrains_14 : decode cX1_mixDrains 14 = .ok (.if_icmp .ge 50, 3) := by decide +kernel
theorem dX1_mixDrains_17 : decode cX1_mixDrains 17 = .ok (.lload_n 3, 1) := by decide +kernel
theorem dX1_mixDrains_18 : decode cX1_mixDrains 18 = .ok (.aload_n 0, 1) := by decide +kernel
theorem dX1_mixDrains_19 : decode cX1_mixDrains 19 = .ok (.iload 5, 2) := by decide +kernel
theorem dX1_mixDrains_21 : decode cX1_mixDrains 21 = .ok (.invokevirtual 208, 3) := by decide +kernel
theorem dX1_mixDrains_24 : decode cX1_mixDrains 24 = .ok (.ifCond .eq 7, 3) := by decide +kernel
theorem dX1_mixDrains_27 : decode cX1_mixDrains 27 = .ok (.iconst 1, 1) := by decide +kernel
theorem dX1_mixDrains_28 : decode cX1_mixDrains 28 = .ok (.goto 4, 3) := by decide +kernel
theorem dX1_mixDrains_31 : decode cX1_mixDrains 31 = .ok (.iconst 0, 1) := by decide +kernel
theorem dX1_mixDrains_32 : decode cX1_mixDrains 32 = .ok (.invokestatic 143, 3) := by decide +kernel
theorem dX1_mixDrains_35 : decode cX1_mixDrains 35 = .ok (.lstore_n 3, 1) := by decide +kernel
theorem dX1_mixDrains_36 : decode cX1_mixDrains 36 = .ok (.lload_n 3, 1) := by decide +kernel
theorem dX1_mixDrains_37 : decode cX1_mixDrains 37 = .ok (.aload_n 0, 1) := by decide +kernel
theorem dX1_mixDrains_38 : decode cX1_mixDrains 38 = .ok (.iload 5, 2) := by decide +kernel
theorem dX1_mixDrains_40 : decode cX1_mixDrains 40 = .ok (.invokevirtual 211, 3) := by decide +kernel
theorem dX1_mixDrains_43 : decode cX1_mixDrains 43 = .ok (.invokestatic 143, 3) := by decide +kernel
theorem dX1_mixDrains_46 : decode cX1_mixDrains 46 = .ok (.lstore_n 3, 1) := by decide +kernel
theorem dX1_mixDrains_47 : decode cX1_mixDrains 47 = .ok (.lload_n 3, 1) := by decide +kernel
theorem dX1_mixDrains_48 : decode cX1_mixDrains 48 = .ok (.aload_n 0, 1) := by decide +kernel
theorem dX1_mixDrains_49 : decode cX1_mixDrains 49 = .ok (.iload 5, 2) := by decide +kernel
theorem dX1_mixDrains_51 : decode cX1_mixDrains 51 = .ok (.invokevirtual 214, 3) := by decide +kernel
theorem dX1_mixDrains_54 : decode cX1_mixDrains 54 = .ok (.invokestatic 143, 3) := by decide +kernel
theorem dX1_mixDrains_57 : decode cX1_mixDrains 57 = .ok (.lstore_n 3, 1) := by decide +kernel
theorem dX1_mixDrains_58 : decode cX1_mixDrains 58 = .ok (.iinc 5 1, 3) := by decide +kernel
theorem dX1_mixDrains_61 : decode cX1_mixDrains 61 = .ok (.goto (-56), 3) := by decide +kernel
theorem dX1_mixDrains_64 : decode cX1_mixDrains 64 = .ok (.lload_n 3, 1) := by decide +kernel
theorem dX1_mixDrains_65 : decode cX1_mixDrains 65 = .ok (.lreturn, 1) := by decide +kernel
theorem dX1_mix_0 : decode cX1_mix 0 = .ok (.lload_n 0, 1) := by decide +kernel
theorem dX1_mix_1 : decode cX1_mix 1 = .ok (.ldc2_w 217, 3) := by decide +kernel
theorem dX1_mix_4 : decode cX1_mix 4 = .ok (.lmul, 1) := by decide +kernel
theorem dX1_mix_5 : decode cX1_mix 5 = .ok (.iload_n 2, 1) := by decide +kernel
theorem dX1_mix_6 : decode cX1_mix 6 = .ok (.i2l, 1) := by decide +kernel
theorem dX1_mix_7 : decode cX1_mix 7 = .ok (.ladd, 1) := by decide +kernel
theorem dX1_mix_8 : decode cX1_mix 8 = .ok (.lreturn, 1) := by decide +kernel
theorem dX1_addDrain_0 : decode cX1_addDrain 0 = .ok (.iload_n 1, 1) := by decide +kernel
theorem dX1_addDrain_1 : decode cX1_addDrain 1 = .ok (.iload_n 2, 1) := by decide +kernel
theorem dX1_addDrain_2 : decode cX1_addDrain 2 = .ok (.if_icmp .ne 13, 3) := by decide +kernel
theorem dX1_addDrain_5 : decode cX1_addDrain 5 = .ok (.new 219, 3) := by decide +kernel
theorem dX1_addDrain_8 : decode cX1_addDrain 8 = .ok (.dup, 1) := by decide +kernel
theorem dX1_addDrain_9 : decode cX1_addDrain 9 = .ok (.ldc 221, 2) := by decide +kernel
theorem dX1_addDrain_11 : decode cX1_addDrain 11 = .ok (.invokespecial 223, 3) := by decide +kernel
theorem dX1_addDrain_14 : decode cX1_addDrain 14 = .ok (.athrow, 1) := by decide +kernel
theorem dX1_addDrain_15 : decode cX1_addDrain 15 = .ok (.iload_n 3, 1) := by decide +kernel
theorem dX1_addDrain_16 : decode cX1_addDrain 16 = .ok (.iconst 1, 1) := by decide +kernel
theorem dX1_addDrain_17 : decode cX1_addDrain 17 = .ok (.bipush 9, 2) := by decide +kernel
theorem dX1_addDrain_19 : decode cX1_addDrain 19 = .ok (.invokestatic 19, 3) := by decide +kernel
theorem dX1_addDrain_22 : decode cX1_addDrain 22 = .ok (.aload_n 0, 1) := by decide +kernel
theorem dX1_addDrain_23 : decode cX1_addDrain 23 = .ok (.getfield 10, 3) := by decide +kernel
theorem dX1_addDrain_26 : decode cX1_addDrain 26 = .ok (.iload_n 1, 1) := by decide +kernel
theorem dX1_addDrain_27 : decode cX1_addDrain 27 = .ok (.iload_n 2, 1) := by decide +kernel
theorem dX1_addDrain_28 : decode cX1_addDrain 28 = .ok (.iload_n 3, 1) := by decide +kernel
theorem dX1_addDrain_29 : decode cX1_addDrain 29 = .ok (.iload 4, 2) := by decide +kernel
theorem dX1_addDrain_31 : decode cX1_addDrain 31 = .ok (.invokevirtual 224, 3) := by decide +kernel
theorem dX1_addDrain_34 : decode cX1_addDrain 34 = .ok (.istore 5, 2) := by decide +kernel
theorem dX1_addDrain_36 : decode cX1_addDrain 36 = .ok (.iload 5, 2) := by decide +kernel
theorem dX1_addDrain_38 : decode cX1_addDrain 38 = .ok (.iconst (-1), 1) := by decide +kernel
theorem dX1_addDrain_39 : decode cX1_addDrain 39 = .ok (.if_icmp .ne 13, 3) := by decide +kernel
theorem dX1_addDrain_42 : decode cX1_addDrain 42 = .ok (.new 27, 3) := by decide +kernel
theorem dX1_addDrain_45 : decode cX1_addDrain 45 = .ok (.dup, 1) := by decide +kernel
theorem dX1_addDrain_46 : decode cX1_addDrain 46 = .ok (.ldc 227, 2) := by decide +kernel
theorem dX1_addDrain_48 : decode cX1_addDrain 48 = .ok (.invokespecial 31, 3) := by decide +kernel
theorem dX1_addDrain_51 : decode cX1_addDrain 51 = .ok (.athrow, 1) := by decide +kernel
theorem dX1_addDrain_52 : decode cX1_addDrain 52 = .ok (.iload 5, 2) := by decide +kernel
theorem dX1_addDrain_54 : decode cX1_addDrain 54 = .ok (.ireturn, 1) := by decide +kernel
theorem dX1_requireField_0 : decode cX1_requireField 0 = .ok (.aload_n 0, 1) := by decide +kernel
theorem dX1_requireField_1 : decode cX1_requireField 1 = .ok (.getfield 10, 3) := by decide +kernel
theorem dX1_requireField_4 : decode cX1_requireField 4 = .ok (.iload_n 1, 1) := by decide +kernel
theorem dX1_requireField_5 : decode cX1_requireField 5 = .ok (.invokevirtual 229, 3) := by decide +kernel
theorem dX1_requireField_8 : decode cX1_requireField 8 = .ok (.ifCond .ne 13, 3) := by decide +kernel
theorem dX1_requireField_11 : decode cX1_requireField 11 = .ok (.new 232, 3) := by decide +kernel
theorem dX1_requireField_14 : decode cX1_requireField 14 = .ok (.dup, 1) := by decide +kernel
theorem dX1_requireField_15 : decode cX1_requireField 15 = .ok (.ldc 234, 2) := by decide +kernel
theorem dX1_requireField_17 : decode cX1_requireField 17 = .ok (.invokespecial 236, 3) := by decide +kernel
theorem dX1_requireField_20 : decode cX1_requireField 20 = .ok (.athrow, 1) := by decide +kernel
theorem dX1_requireField_21 : decode cX1_requireField 21 = .ok (.return_, 1) := by decide +kernel
theorem dX1_requireDrain_0 : decode cX1_requireDrain 0 = .ok (.aload_n 0, 1) := by decide +kernel
theorem dX1_requireDrain_1 : decode cX1_requireDrain 1 = .ok (.getfield 10, 3) := by decide +kernel
theorem dX1_requireDrain_4 : decode cX1_requireDrain 4 = .ok (.iload_n 1, 1) := by decide +kernel
theorem dX1_requireDrain_5 : decode cX1_requireDrain 5 = .ok (.invokevirtual 237, 3) := by decide +kernel
theorem dX1_requireDrain_8 : decode cX1_requireDrain 8 = .ok (.ifCond .ne 13, 3) := by decide +kernel
theorem dX1_requireDrain_11 : decode cX1_requireDrain 11 = .ok (.new 232, 3) := by decide +kernel
theorem dX1_requireDrain_14 : decode cX1_requireDrain 14 = .ok (.dup, 1) := by decide +kernel
theorem dX1_requireDrain_15 : decode cX1_requireDrain 15 = .ok (.ldc 240, 2) := by decide +kernel
theorem dX1_requireDrain_17 : decode cX1_requireDrain 17 = .ok (.invokespecial 236, 3) := by decide +kernel
theorem dX1_requireDrain_20 : decode cX1_requireDrain 20 = .ok (.athrow, 1) := by decide +kernel
end
section
theorem dX1_requireDrain_21 : decode cX1_requireDrain 21 = .ok (.return_, 1) := by decide +kernel
theorem dX1_requireWithin_0 : decode cX1_requireWithin 0 = .ok (.iload_n 0, 1) := by decide +kernel
theorem dX1_requireWithin_1 : decode cX1_requireWithin 1 = .ok (.iload_n 1, 1) := by decide +kernel
theorem dX1_requireWithin_2 : decode cX1_requireWithin 2 = .ok (.if_icmp .lt 8, 3) := by decide +kernel
theorem dX1_requireWithin_5 : decode cX1_requireWithin 5 = .ok (.iload_n 0, 1) := by decide +kernel
theorem dX1_requireWithin_6 : decode cX1_requireWithin 6 = .ok (.iload_n 2, 1) := by decide +kernel
theorem dX1_requireWithin_7 : decode cX1_requireWithin 7 = .ok (.if_icmp .le 13, 3) := by decide +kernel
theorem dX1_requireWithin_10 : decode cX1_requireWithin 10 = .ok (.new 219, 3) := by decide +kernel
theorem dX1_requireWithin_13 : decode cX1_requireWithin 13 = .ok (.dup, 1) := by decide +kernel
theorem dX1_requireWithin_14 : decode cX1_requireWithin 14 = .ok (.ldc 242, 2) := by decide +kernel
theorem dX1_requireWithin_16 : decode cX1_requireWithin 16 = .ok (.invokespecial 223, 3) := by decide +kernel
theorem dX1_requireWithin_19 : decode cX1_requireWithin 19 = .ok (.athrow, 1) := by decide +kernel
theorem dX1_requireWithin_20 : decode cX1_requireWithin 20 = .ok (.return_, 1) := by decide +kernel
theorem dX2_init_0 : decode cX2_init 0 = .ok (.aload_n 0, 1) := by decide +kernel
theorem dX2_init_1 : decode cX2_init 1 = .ok (.invokespecial 3, 3) := by decide +kernel
theorem dX2_init_4 : decode cX2_init 4 = .ok (.aload_n 0, 1) := by decide +kernel
theorem dX2_init_5 : decode cX2_init 5 = .ok (.bipush 10, 2) := by decide +kernel
theorem dX2_init_7 : decode cX2_init 7 = .ok (.newarray .int, 2) := by decide +kernel
theorem dX2_init_9 : decode cX2_init 9 = .ok (.putfield 9, 3) := by decide +kernel
theorem dX2_init_12 : decode cX2_init 12 = .ok (.aload_n 0, 1) := by decide +kernel
theorem dX2_init_13 : decode cX2_init 13 = .ok (.bipush 10, 2) := by decide +kernel
theorem dX2_init_15 : decode cX2_init 15 = .ok (.newarray .int, 2) := by decide +kernel
theorem dX2_init_17 : decode cX2_init 17 = .ok (.putfield 13, 3) := by decide +kernel
theorem dX2_init_20 : decode cX2_init 20 = .ok (.aload_n 0, 1) := by decide +kernel
theorem dX2_init_21 : decode cX2_init 21 = .ok (.bipush 16, 2) := by decide +kernel
theorem dX2_init_23 : decode cX2_init 23 = .ok (.newarray .int, 2) := by decide +kernel
theorem dX2_init_25 : decode cX2_init 25 = .ok (.putfield 16, 3) := by decide +kernel
theorem dX2_init_28 : decode cX2_init 28 = .ok (.aload_n 0, 1) := by decide +kernel
theorem dX2_init_29 : decode cX2_init 29 = .ok (.bipush 16, 2) := by decide +kernel
theorem dX2_init_31 : decode cX2_init 31 = .ok (.newarray .int, 2) := by decide +kernel
theorem dX2_init_33 : decode cX2_init 33 = .ok (.putfield 19, 3) := by decide +kernel
theorem dX2_init_36 : decode cX2_init 36 = .ok (.aload_n 0, 1) := by decide +kernel
theorem dX2_init_37 : decode cX2_init 37 = .ok (.bipush 16, 2) := by decide +kernel
theorem dX2_init_39 : decode cX2_init 39 = .ok (.newarray .int, 2) := by decide +kernel
theorem dX2_init_41 : decode cX2_init 41 = .ok (.putfield 22, 3) := by decide +kernel
theorem dX2_init_44 : decode cX2_init 44 = .ok (.aload_n 0, 1) := by decide +kernel
theorem dX2_init_45 : decode cX2_init 45 = .ok (.bipush 16, 2) := by decide +kernel
theorem dX2_init_47 : decode cX2_init 47 = .ok (.newarray .boolean, 2) := by decide +kernel
theorem dX2_init_49 : decode cX2_init 49 = .ok (.putfield 25, 3) := by decide +kernel
theorem dX2_init_52 : decode cX2_init 52 = .ok (.aload_n 0, 1) := by decide +kernel
theorem dX2_init_53 : decode cX2_init 53 = .ok (.bipush 16, 2) := by decide +kernel
theorem dX2_init_55 : decode cX2_init 55 = .ok (.newarray .boolean, 2) := by decide +kernel
theorem dX2_init_57 : decode cX2_init 57 = .ok (.putfield 29, 3) := by decide +kernel
theorem dX2_init_60 : decode cX2_init 60 = .ok (.aload_n 0, 1) := by decide +kernel
theorem dX2_init_61 : decode cX2_init 61 = .ok (.bipush 48, 2) := by decide +kernel
theorem dX2_init_63 : decode cX2_init 63 = .ok (.newarray .int, 2) := by decide +kernel
theorem dX2_init_65 : decode cX2_init 65 = .ok (.putfield 32, 3) := by decide +kernel
theorem dX2_init_68 : decode cX2_init 68 = .ok (.aload_n 0, 1) := by decide +kernel
theorem dX2_init_69 : decode cX2_init 69 = .ok (.bipush 48, 2) := by decide +kernel
theorem dX2_init_71 : decode cX2_init 71 = .ok (.newarray .int, 2) := by decide +kernel
theorem dX2_init_73 : decode cX2_init 73 = .ok (.putfield 35, 3) := by decide +kernel
theorem dX2_init_76 : decode cX2_init 76 = .ok (.aload_n 0, 1) := by decide +kernel
theorem dX2_init_77 : decode cX2_init 77 = .ok (.bipush 10, 2) := by decide +kernel
theorem dX2_init_79 : decode cX2_init 79 = .ok (.newarray .boolean, 2) := by decide +kernel
theorem dX2_init_81 : decode cX2_init 81 = .ok (.putfield 38, 3) := by decide +kernel
theorem dX2_init_84 : decode cX2_init 84 = .ok (.return_, 1) := by decide +kernel
theorem dX2_thrown_0 : decode cX2_thrown 0 = .ok (.aload_n 0, 1) := by decide +kernel
theorem dX2_thrown_1 : decode cX2_thrown 1 = .ok (.getfield 41, 3) := by decide +kernel
theorem dX2_thrown_4 : decode cX2_thrown 4 = .ok (.ireturn, 1) := by decide +kernel
theorem dX2_no_0 : decode cX2_no 0 = .ok (.aload_n 0, 1) := by decide +kernel
theorem dX2_no_1 : decode cX2_no 1 = .ok (.iload_n 1, 1) := by decide +kernel
theorem dX2_no_2 : decode cX2_no 2 = .ok (.putfield 41, 3) := by decide +kernel
theorem dX2_no_5 : decode cX2_no 5 = .ok (.iconst 0, 1) := by decide +kernel
theorem dX2_no_6 : decode cX2_no 6 = .ok (.ireturn, 1) := by decide +kernel
theorem dX2_isNot_0 : decode cX2_isNot 0 = .ok (.aload_n 0, 1) := by decide +kernel
theorem dX2_isNot_1 : decode cX2_isNot 1 = .ok (.iload_n 1, 1) := by decide +kernel
theorem dX2_isNot_2 : decode cX2_isNot 2 = .ok (.putfield 41, 3) := by decide +kernel
theorem dX2_isNot_5 : decode cX2_isNot 5 = .ok (.iconst 0, 1) := by decide +kernel
theorem dX2_isNot_6 : decode cX2_isNot 6 = .ok (.ireturn, 1) := by decide +kernel
theorem dX2_ok_0 : decode cX2_ok 0 = .ok (.aload_n 0, 1) := by decide +kernel
theorem dX2_ok_1 : decode cX2_ok 1 = .ok (.iconst 0, 1) := by decide +kernel
theorem dX2_ok_2 : decode cX2_ok 2 = .ok (.putfield 41, 3) := by decide +kernel
theorem dX2_ok_5 : decode cX2_ok 5 = .ok (.iload_n 1, 1) := by decide +kernel
theorem dX2_ok_6 : decode cX2_ok 6 = .ok (.ireturn, 1) := by decide +kernel
theorem dX2_isIn_0 : decode cX2_isIn 0 = .ok (.iload_n 0, 1) := by decide +kernel
theorem dX2_isIn_1 : decode cX2_isIn 1 = .ok (.iload_n 1, 1) := by decide +kernel
theorem dX2_isIn_2 : decode cX2_isIn 2 = .ok (.if_icmp .lt 12, 3) := by decide +kernel
theorem dX2_isIn_5 : decode cX2_isIn 5 = .ok (.iload_n 0, 1) := by decide +kernel
theorem dX2_isIn_6 : decode cX2_isIn 6 = .ok (.iload_n 2, 1) := by decide +kernel
theorem dX2_isIn_7 : decode cX2_isIn 7 = .ok (.if_icmp .gt 7, 3) := by decide +kernel
theorem dX2_isIn_10 : decode cX2_isIn 10 = .ok (.iconst 1, 1) := by decide +kernel
theorem dX2_isIn_11 : decode cX2_isIn 11 = .ok (.goto 4, 3) := by decide +kernel
theorem dX2_isIn_14 : decode cX2_isIn 14 = .ok (.iconst 0, 1) := by decide +kernel
theorem dX2_isIn_15 : decode cX2_isIn 15 = .ok (.ireturn, 1) := by decide +kernel
theorem dX2_isField_0 : decode cX2_isField 0 = .ok (.iload_n 1, 1) := by decide +kernel
theorem dX2_isField_1 : decode cX2_isField 1 = .ok (.iconst 0, 1) := by decide +kernel
theorem dX2_isField_2 : decode cX2_isField 2 = .ok (.aload_n 0, 1) := by decide +kernel
theorem dX2_isField_3 : decode cX2_isField 3 = .ok (.getfield 45, 3) := by decide +kernel
theorem dX2_isField_6 : decode cX2_isField 6 = .ok (.iconst 1, 1) := by decide +kernel
theorem dX2_isField_7 : decode cX2_isField 7 = .ok (.isub, 1) := by decide +kernel
theorem dX2_isField_8 : decode cX2_isField 8 = .ok (.invokestatic 48, 3) := by decide +kernel
theorem dX2_isField_11 : decode cX2_isField 11 = .ok (.ireturn, 1) := by decide +kernel
theorem dX2_isDrain_0 : decode cX2_isDrain 0 = .ok (.iload_n 1, 1) := by decide +kernel
theorem dX2_isDrain_1 : decode cX2_isDrain 1 = .ok (.iconst 0, 1) := by decide +kernel
theorem dX2_isDrain_2 : decode cX2_isDrain 2 = .ok (.aload_n 0, 1) := by decide +kernel
theorem dX2_isDrain_3 : decode cX2_isDrain 3 = .ok (.getfield 52, 3) := by decide +kernel
theorem dX2_isDrain_6 : decode cX2_isDrain 6 = .ok (.iconst 1, 1) := by decide +kernel
theorem dX2_isDrain_7 : decode cX2_isDrain 7 = .ok (.isub, 1) := by decide +kernel
theorem dX2_isDrain_8 : decode cX2_isDrain 8 = .ok (.invokestatic 48, 3) := by decide +kernel
theorem dX2_isDrain_11 : decode cX2_isDrain 11 = .ok (.ireturn, 1) := by decide +kernel
theorem dX2_keep_0 : decode cX2_keep 0 = .ok (.aload_n 0, 1) := by decide +kernel
theorem dX2_keep_1 : decode cX2_keep 1 = .ok (.getfield 32, 3) := by decide +kernel
theorem dX2_keep_4 : decode cX2_keep 4 = .ok (.iconst 0, 1) := by decide +kernel
theorem dX2_keep_5 : decode cX2_keep 5 = .ok (.aload_n 0, 1) := by decide +kernel
theorem dX2_keep_6 : decode cX2_keep 6 = .ok (.getfield 35, 3) := by decide +kernel
theorem dX2_keep_9 : decode cX2_keep 9 = .ok (.iconst 0, 1) := by decide +kernel
theorem dX2_keep_10 : decode cX2_keep 10 = .ok (.bipush 48, 2) := by decide +kernel
theorem dX2_keep_12 : decode cX2_keep 12 = .ok (.invokestatic 55, 3) := by decide +kernel
theorem dX2_keep_15 : decode cX2_keep 15 = .ok (.return_, 1) := by decide +kernel
theorem dX2_bringBack_0 : decode cX2_bringBack 0 = .ok (.aload_n 0, 1) := by decide +kernel
theorem dX2_bringBack_1 : decode cX2_bringBack 1 = .ok (.getfield 35, 3) := by decide +kernel
theorem dX2_bringBack_4 : decode cX2_bringBack 4 = .ok (.iconst 0, 1) := by decide +kernel
theorem dX2_bringBack_5 : decode cX2_bringBack 5 = .ok (.aload_n 0, 1) := by decide +kernel
theorem dX2_bringBack_6 : decode cX2_bringBack 6 = .ok (.getfield 32, 3) := by decide +kernel
theorem dX2_bringBack_9 : decode cX2_bringBack 9 = .ok (.iconst 0, 1) := by decide +kernel
theorem dX2_bringBack_10 : decode cX2_bringBack 10 = .ok (.bipush 48, 2) := by decide +kernel
theorem dX2_bringBack_12 : decode cX2_bringBack 12 = .ok (.invokestatic 55, 3) := by decide +kernel
theorem dX2_bringBack_15 : decode cX2_bringBack 15 = .ok (.return_, 1) := by decide +kernel
theorem dX2_water_0 : decode cX2_water 0 = .ok (.aload_n 0, 1) := by decide +kernel
theorem dX2_water_1 : decode cX2_water 1 = .ok (.getfield 32, 3) := by decide +kernel
theorem dX2_water_4 : decode cX2_water 4 = .ok (.iconst 2, 1) := by decide +kernel
theorem dX2_water_5 : decode cX2_water 5 = .ok (.iload_n 1, 1) := by decide +kernel
theorem dX2_water_6 : decode cX2_water 6 = .ok (.iadd, 1) := by decide +kernel
theorem dX2_water_7 : decode cX2_water 7 = .ok (.iaload, 1) := by decide +kernel
theorem dX2_water_8 : decode cX2_water 8 = .ok (.ireturn, 1) := by decide +kernel
theorem dX2_level_0 : decode cX2_level 0 = .ok (.aload_n 0, 1) := by decide +kernel
theorem dX2_level_1 : decode cX2_level 1 = .ok (.getfield 9, 3) := by decide +kernel
theorem dX2_level_4 : decode cX2_level 4 = .ok (.iload_n 1, 1) := by decide +kernel
theorem dX2_level_5 : decode cX2_level 5 = .ok (.iaload, 1) := by decide +kernel
theorem dX2_level_6 : decode cX2_level 6 = .ok (.aload_n 0, 1) := by decide +kernel
theorem dX2_level_7 : decode cX2_level 7 = .ok (.iload_n 1, 1) := by decide +kernel
theorem dX2_level_8 : decode cX2_level 8 = .ok (.invokevirtual 61, 3) := by decide +kernel
theorem dX2_level_11 : decode cX2_level 11 = .ok (.iadd, 1) := by decide +kernel
theorem dX2_level_12 : decode cX2_level 12 = .ok (.ireturn, 1) := by decide +kernel
theorem dX2_flow_0 : decode cX2_flow 0 = .ok (.aload_n 0, 1) := by decide +kernel
theorem dX2_flow_1 : decode cX2_flow 1 = .ok (.getfield 29, 3) := by decide +kernel
theorem dX2_flow_4 : decode cX2_flow 4 = .ok (.iload_n 1, 1) := by decide +kernel
theorem dX2_flow_5 : decode cX2_flow 5 = .ok (.baload, 1) := by decide +kernel
theorem dX2_flow_6 : decode cX2_flow 6 = .ok (.ifCond .ne 5, 3) := by decide +kernel
theorem dX2_flow_9 : decode cX2_flow 9 = .ok (.iconst 0, 1) := by decide +kernel
theorem dX2_flow_10 : decode cX2_flow 10 = .ok (.ireturn, 1) := by decide +kernel
theorem dX2_flow_11 : decode cX2_flow 11 = .ok (.aload_n 0, 1) := by decide +kernel
theorem dX2_flow_12 : decode cX2_flow 12 = .ok (.getfield 25, 3) := by decide +kernel
theorem dX2_flow_15 : decode cX2_flow 15 = .ok (.iload_n 1, 1) := by decide +kernel
theorem dX2_flow_16 : decode cX2_flow 16 = .ok (.baload, 1) := by decide +kernel
theorem dX2_flow_17 : decode cX2_flow 17 = .ok (.ifCond .eq 23, 3) := by decide +kernel
theorem dX2_flow_20 : decode cX2_flow 20 = .ok (.aload_n 0, 1) := by decide +kernel
theorem dX2_flow_21 : decode cX2_flow 21 = .ok (.getfield 22, 3) := by decide +kernel
theorem dX2_flow_24 : decode cX2_flow 24 = .ok (.iload_n 1, 1) := by decide +kernel
theorem dX2_flow_25 : decode cX2_flow 25 = .ok (.iaload, 1) := by decide +kernel
theorem dX2_flow_26 : decode cX2_flow 26 = .ok (.aload_n 0, 1) := by decide +kernel
theorem dX2_flow_27 : decode cX2_flow 27 = .ok (.aload_n 0, 1) := by decide +kernel
theorem dX2_flow_28 : decode cX2_flow 28 = .ok (.getfield 16, 3) := by decide +kernel
theorem dX2_flow_31 : decode cX2_flow 31 = .ok (.iload_n 1, 1) := by decide +kernel
theorem dX2_flow_32 : decode cX2_flow 32 = .ok (.iaload, 1) := by decide +kernel
theorem dX2_flow_33 : decode cX2_flow 33 = .ok (.invokevirtual 61, 3) := by decide +kernel
theorem dX2_flow_36 : decode cX2_flow 36 = .ok (.invokestatic 65, 3) := by decide +kernel
theorem dX2_flow_39 : decode cX2_flow 39 = .ok (.ireturn, 1) := by decide +kernel
theorem dX2_flow_40 : decode cX2_flow 40 = .ok (.aload_n 0, 1) := by decide +kernel
theorem dX2_flow_41 : decode cX2_flow 41 = .ok (.aload_n 0, 1) := by decide +kernel
theorem dX2_flow_42 : decode cX2_flow 42 = .ok (.getfield 16, 3) := by decide +kernel
theorem dX2_flow_45 : decode cX2_flow 45 = .ok (.iload_n 1, 1) := by decide +kernel
theorem dX2_flow_46 : decode cX2_flow 46 = .ok (.iaload, 1) := by decide +kernel
theorem dX2_flow_47 : decode cX2_flow 47 = .ok (.invokevirtual 71, 3) := by decide +kernel
theorem dX2_flow_50 : decode cX2_flow 50 = .ok (.aload_n 0, 1) := by decide +kernel
theorem dX2_flow_51 : decode cX2_flow 51 = .ok (.aload_n 0, 1) := by decide +kernel
theorem dX2_flow_52 : decode cX2_flow 52 = .ok (.getfield 19, 3) := by decide +kernel
theorem dX2_flow_55 : decode cX2_flow 55 = .ok (.iload_n 1, 1) := by decide +kernel
theorem dX2_flow_56 : decode cX2_flow 56 = .ok (.iaload, 1) := by decide +kernel
theorem dX2_flow_57 : decode cX2_flow 57 = .ok (.invokevirtual 71, 3) := by decide +kernel
theorem dX2_flow_60 : decode cX2_flow 60 = .ok (.isub, 1) := by decide +kernel
theorem dX2_flow_61 : decode cX2_flow 61 = .ok (.istore_n 2, 1) := by decide +kernel
theorem dX2_flow_62 : decode cX2_flow 62 = .ok (.aload_n 0, 1) := by decide +kernel
theorem dX2_flow_63 : decode cX2_flow 63 = .ok (.getfield 22, 3) := by decide +kernel
theorem dX2_flow_66 : decode cX2_flow 66 = .ok (.iload_n 1, 1) := by decide +kernel
theorem dX2_flow_67 : decode cX2_flow 67 = .ok (.iaload, 1) := by decide +kernel
theorem dX2_flow_68 : decode cX2_flow 68 = .ok (.iload_n 2, 1) := by decide +kernel
theorem dX2_flow_69 : decode cX2_flow 69 = .ok (.invokestatic 74, 3) := by decide +kernel
theorem dX2_flow_72 : decode cX2_flow 72 = .ok (.iconst 2, 1) := by decide +kernel
theorem dX2_flow_73 : decode cX2_flow 73 = .ok (.idiv, 1) := by decide +kernel
theorem dX2_flow_74 : decode cX2_flow 74 = .ok (.invokestatic 65, 3) := by decide +kernel
theorem dX2_flow_77 : decode cX2_flow 77 = .ok (.istore_n 3, 1) := by decide +kernel
theorem dX2_flow_78 : decode cX2_flow 78 = .ok (.iload_n 2, 1) := by decide +kernel
theorem dX2_flow_79 : decode cX2_flow 79 = .ok (.ifCond .le 20, 3) := by decide +kernel
theorem dX2_flow_82 : decode cX2_flow 82 = .ok (.iload_n 3, 1) := by decide +kernel
theorem dX2_flow_83 : decode cX2_flow 83 = .ok (.aload_n 0, 1) := by decide +kernel
theorem dX2_flow_84 : decode cX2_flow 84 = .ok (.aload_n 0, 1) := by decide +kernel
theorem dX2_flow_85 : decode cX2_flow 85 = .ok (.getfield 16, 3) := by decide +kernel
theorem dX2_flow_88 : decode cX2_flow 88 = .ok (.iload_n 1, 1) := by decide +kernel
theorem dX2_flow_89 : decode cX2_flow 89 = .ok (.iaload, 1) := by decide +kernel
theorem dX2_flow_90 : decode cX2_flow 90 = .ok (.invokevirtual 61, 3) := by decide +kernel
theorem dX2_flow_93 : decode cX2_flow 93 = .ok (.invokestatic 65, 3) := by decide +kernel
theorem dX2_flow_96 : decode cX2_flow 96 = .ok (.goto 18, 3) := by decide +kernel
theorem dX2_flow_99 : decode cX2_flow 99 = .ok (.iload_n 3, 1) := by decide +kernel
theorem dX2_flow_100 : decode cX2_flow 100 = .ok (.aload_n 0, 1) := by decide +kernel
theorem dX2_flow_101 : decode cX2_flow 101 = .ok (.aload_n 0, 1) := by decide +kernel
theorem dX2_flow_102 : decode cX2_flow 102 = .ok (.getfield 19, 3) := by decide +kernel
theorem dX2_flow_105 : decode cX2_flow 105 = .ok (.iload_n 1, 1) := by decide +kernel
theorem dX2_flow_106 : decode cX2_flow 106 = .ok (.iaload, 1) := by decide +kernel
theorem dX2_flow_107 : decode cX2_flow 107 = .ok (.invokevirtual 61, 3) := by decide +kernel
theorem dX2_flow_110 : decode cX2_flow 110 = .ok (.invokestatic 65, 3) := by decide +kernel
theorem dX2_flow_113 : decode cX2_flow 113 = .ok (.ineg, 1) := by decide +kernel
theorem dX2_flow_114 : decode cX2_flow 114 = .ok (.ireturn, 1) := by decide +kernel
theorem dX2_carry_0 : decode cX2_carry 0 = .ok (.aload_n 0, 1) := by decide +kernel
theorem dX2_carry_1 : decode cX2_carry 1 = .ok (.iload_n 1, 1) := by decide +kernel
theorem dX2_carry_2 : decode cX2_carry 2 = .ok (.invokevirtual 77, 3) := by decide +kernel
theorem dX2_carry_5 : decode cX2_carry 5 = .ok (.istore_n 2, 1) := by decide +kernel
theorem dX2_carry_6 : decode cX2_carry 6 = .ok (.aload_n 0, 1) := by decide +kernel
theorem dX2_carry_7 : decode cX2_carry 7 = .ok (.getfield 32, 3) := by decide +kernel
theorem dX2_carry_10 : decode cX2_carry 10 = .ok (.bipush 32, 2) := by decide +kernel
theorem dX2_carry_12 : decode cX2_carry 12 = .ok (.iload_n 1, 1) := by decide +kernel
theorem dX2_carry_13 : decode cX2_carry 13 = .ok (.iadd, 1) := by decide +kernel
theorem dX2_carry_14 : decode cX2_carry 14 = .ok (.dup2, 1) := by decide +kernel
theorem dX2_carry_15 : decode cX2_carry 15 = .ok (.iaload, 1) := by decide +kernel
theorem dX2_carry_16 : decode cX2_carry 16 = .ok (.iload_n 2, 1) := by decide +kernel
theorem dX2_carry_17 : decode cX2_carry 17 = .ok (.invokestatic 74, 3) := by decide +kernel
theorem dX2_carry_20 : decode cX2_carry 20 = .ok (.iadd, 1) := by decide +kernel
theorem dX2_carry_21 : decode cX2_carry 21 = .ok (.iastore, 1) := by decide +kernel
theorem dX2_carry_22 : decode cX2_carry 22 = .ok (.aload_n 0, 1) := by decide +kernel
theorem dX2_carry_23 : decode cX2_carry 23 = .ok (.getfield 32, 3) := by decide +kernel
theorem dX2_carry_26 : decode cX2_carry 26 = .ok (.iconst 2, 1) := by decide +kernel
theorem dX2_carry_27 : decode cX2_carry 27 = .ok (.aload_n 0, 1) := by decide +kernel
theorem dX2_carry_28 : decode cX2_carry 28 = .ok (.getfield 16, 3) := by decide +kernel
theorem dX2_carry_31 : decode cX2_carry 31 = .ok (.iload_n 1, 1) := by decide +kernel
theorem dX2_carry_32 : decode cX2_carry 32 = .ok (.iaload, 1) := by decide +kernel
theorem dX2_carry_33 : decode cX2_carry 33 = .ok (.iadd, 1) := by decide +kernel
theorem dX2_carry_34 : decode cX2_carry 34 = .ok (.dup2, 1) := by decide +kernel
theorem dX2_carry_35 : decode cX2_carry 35 = .ok (.iaload, 1) := by decide +kernel
theorem dX2_carry_36 : decode cX2_carry 36 = .ok (.iload_n 2, 1) := by decide +kernel
theorem dX2_carry_37 : decode cX2_carry 37 = .ok (.isub, 1) := by decide +kernel
theorem dX2_carry_38 : decode cX2_carry 38 = .ok (.iastore, 1) := by decide +kernel
theorem dX2_carry_39 : decode cX2_carry 39 = .ok (.aload_n 0, 1) := by decide +kernel
theorem dX2_carry_40 : decode cX2_carry 40 = .ok (.getfield 19, 3) := by decide +kernel
theorem dX2_carry_43 : decode cX2_carry 43 = .ok (.iload_n 1, 1) := by decide +kernel
theorem dX2_carry_44 : decode cX2_carry 44 = .ok (.iaload, 1) := by decide +kernel
theorem dX2_carry_45 : decode cX2_carry 45 = .ok (.iconst (-1), 1) := by decide +kernel
theorem dX2_carry_46 : decode cX2_carry 46 = .ok (.if_icmp .ne 16, 3) := by decide +kernel
theorem dX2_carry_49 : decode cX2_carry 49 = .ok (.aload_n 0, 1) := by decide +kernel
theorem dX2_carry_50 : decode cX2_carry 50 = .ok (.getfield 32, 3) := by decide +kernel
theorem dX2_carry_53 : decode cX2_carry 53 = .ok (.iconst 1, 1) := by decide +kernel
theorem dX2_carry_54 : decode cX2_carry 54 = .ok (.dup2, 1) := by decide +kernel
theorem dX2_carry_55 : decode cX2_carry 55 = .ok (.iaload, 1) := by decide +kernel
theorem dX2_carry_56 : decode cX2_carry 56 = .ok (.iload_n 2, 1) := by decide +kernel
theorem dX2_carry_57 : decode cX2_carry 57 = .ok (.iadd, 1) := by decide +kernel
theorem dX2_carry_58 : decode cX2_carry 58 = .ok (.iastore, 1) := by decide +kernel
theorem dX2_carry_59 : decode cX2_carry 59 = .ok (.goto 20, 3) := by decide +kernel
theorem dX2_carry_62 : decode cX2_carry 62 = .ok (.aload_n 0, 1) := by decide +kernel
theorem dX2_carry_63 : decode cX2_carry 63 = .ok (.getfield 32, 3) := by decide +kernel
theorem dX2_carry_66 : decode cX2_carry 66 = .ok (.iconst 2, 1) := by decide +kernel
theorem dX2_carry_67 : decode cX2_carry 67 = .ok (.aload_n 0, 1) := by decide +kernel
theorem dX2_carry_68 : decode cX2_carry 68 = .ok (.getfield 19, 3) := by decide +kernel
theorem dX2_carry_71 : decode cX2_carry 71 = .ok (.iload_n 1, 1) := by decide +kernel
theorem dX2_carry_72 : decode cX2_carry 72 = .ok (.iaload, 1) := by decide +kernel
theorem dX2_carry_73 : decode cX2_carry 73 = .ok (.iadd, 1) := by decide +kernel
theorem dX2_carry_74 : decode cX2_carry 74 = .ok (.dup2, 1) := by decide +kernel
theorem dX2_carry_75 : decode cX2_carry 75 = .ok (.iaload, 1) := by decide +kernel
theorem dX2_carry_76 : decode cX2_carry 76 = .ok (.iload_n 2, 1) := by decide +kernel
theorem dX2_carry_77 : decode cX2_carry 77 = .ok (.iadd, 1) := by decide +kernel
theorem dX2_carry_78 : decode cX2_carry 78 = .ok (.iastore, 1) := by decide +kernel
theorem dX2_carry_79 : decode cX2_carry 79 = .ok (.return_, 1) := by decide +kernel
theorem dX2_hourOn_0 : decode cX2_hourOn 0 = .ok (.iconst 0, 1) := by decide +kernel
theorem dX2_hourOn_1 : decode cX2_hourOn 1 = .ok (.istore_n 1, 1) := by decide +kernel
theorem dX2_hourOn_2 : decode cX2_hourOn 2 = .ok (.iload_n 1, 1) := by decide +kernel
theorem dX2_hourOn_3 : decode cX2_hourOn 3 = .ok (.aload_n 0, 1) := by decide +kernel
theorem dX2_hourOn_4 : decode cX2_hourOn 4 = .ok (.getfield 45, 3) := by decide +kernel
theorem dX2_hourOn_7 : decode cX2_hourOn 7 = .ok (.if_icmp .ge 24, 3) := by decide +kernel
theorem dX2_hourOn_10 : decode cX2_hourOn 10 = .ok (.aload_n 0, 1) := by decide +kernel
theorem dX2_hourOn_11 : decode cX2_hourOn 11 = .ok (.getfield 32, 3) := by decide +kernel
theorem dX2_hourOn_14 : decode cX2_hourOn 14 = .ok (.iconst 2, 1) := by decide +kernel
theorem dX2_hourOn_15 : decode cX2_hourOn 15 = .ok (.iload_n 1, 1) := by decide +kernel
theorem dX2_hourOn_16 : decode cX2_hourOn 16 = .ok (.iadd, 1) := by decide +kernel
theorem dX2_hourOn_17 : decode cX2_hourOn 17 = .ok (.dup2, 1) := by decide +kernel
theorem dX2_hourOn_18 : decode cX2_hourOn 18 = .ok (.iaload, 1) := by decide +kernel
theorem dX2_hourOn_19 : decode cX2_hourOn 19 = .ok (.aload_n 0, 1) := by decide +kernel
theorem dX2_hourOn_20 : decode cX2_hourOn 20 = .ok (.getfield 80, 3) := by decide +kernel
theorem dX2_hourOn_23 : decode cX2_hourOn 23 = .ok (.iadd, 1) := by decide +kernel
theorem dX2_hourOn_24 : decode cX2_hourOn 24 = .ok (.iastore, 1) := by decide +kernel
theorem dX2_hourOn_25 : decode cX2_hourOn 25 = .ok (.iinc 1 1, 3) := by decide +kernel
theorem dX2_hourOn_28 : decode cX2_hourOn 28 = .ok (.goto (-26), 3) := by decide +kernel
theorem dX2_hourOn_31 : decode cX2_hourOn 31 = .ok (.iconst 0, 1) := by decide +kernel
theorem dX2_hourOn_32 : decode cX2_hourOn 32 = .ok (.istore_n 1, 1) := by decide +kernel
theorem dX2_hourOn_33 : decode cX2_hourOn 33 = .ok (.iload_n 1, 1) := by decide +kernel
theorem dX2_hourOn_34 : decode cX2_hourOn 34 = .ok (.aload_n 0, 1) := by decide +kernel
theorem dX2_hourOn_35 : decode cX2_hourOn 35 = .ok (.getfield 52, 3) := by decide +kernel
theorem dX2_hourOn_38 : decode cX2_hourOn 38 = .ok (.if_icmp .ge 14, 3) := by decide +kernel
theorem dX2_hourOn_41 : decode cX2_hourOn 41 = .ok (.aload_n 0, 1) := by decide +kernel
theorem dX2_hourOn_42 : decode cX2_hourOn 42 = .ok (.iload_n 1, 1) := by decide +kernel
theorem dX2_hourOn_43 : decode cX2_hourOn 43 = .ok (.invokevirtual 83, 3) := by decide +kernel
theorem dX2_hourOn_46 : decode cX2_hourOn 46 = .ok (.iinc 1 1, 3) := by decide +kernel
theorem dX2_hourOn_49 : decode cX2_hourOn 49 = .ok (.goto (-16), 3) := by decide +kernel
theorem dX2_hourOn_52 : decode cX2_hourOn 52 = .ok (.iconst 0, 1) := by decide +kernel
theorem dX2_hourOn_53 : decode cX2_hourOn 53 = .ok (.istore_n 1, 1) := by decide +kernel
theorem dX2_hourOn_54 : decode cX2_hourOn 54 = .ok (.iload_n 1, 1) := by decide +kernel
theorem dX2_hourOn_55 : decode cX2_hourOn 55 = .ok (.aload_n 0, 1) := by decide +kernel
theorem dX2_hourOn_56 : decode cX2_hourOn 56 = .ok (.getfield 45, 3) := by decide +kernel
theorem dX2_hourOn_59 : decode cX2_hourOn 59 = .ok (.if_icmp .ge 66, 3) := by decide +kernel
theorem dX2_hourOn_62 : decode cX2_hourOn 62 = .ok (.aload_n 0, 1) := by decide +kernel
theorem dX2_hourOn_63 : decode cX2_hourOn 63 = .ok (.getfield 32, 3) := by decide +kernel
theorem dX2_hourOn_66 : decode cX2_hourOn 66 = .ok (.bipush 12, 2) := by decide +kernel
theorem dX2_hourOn_68 : decode cX2_hourOn 68 = .ok (.iload_n 1, 1) := by decide +kernel
theorem dX2_hourOn_69 : decode cX2_hourOn 69 = .ok (.iadd, 1) := by decide +kernel
theorem dX2_hourOn_70 : decode cX2_hourOn 70 = .ok (.aload_n 0, 1) := by decide +kernel
theorem dX2_hourOn_71 : decode cX2_hourOn 71 = .ok (.iload_n 1, 1) := by decide +kernel
theorem dX2_hourOn_72 : decode cX2_hourOn 72 = .ok (.invokevirtual 61, 3) := by decide +kernel
theorem dX2_hourOn_75 : decode cX2_hourOn 75 = .ok (.iconst 4, 1) := by decide +kernel
theorem dX2_hourOn_76 : decode cX2_hourOn 76 = .ok (.if_icmp .ge 7, 3) := by decide +kernel
theorem dX2_hourOn_79 : decode cX2_hourOn 79 = .ok (.iconst 0, 1) := by decide +kernel
theorem dX2_hourOn_80 : decode cX2_hourOn 80 = .ok (.goto 14, 3) := by decide +kernel
theorem dX2_hourOn_83 : decode cX2_hourOn 83 = .ok (.aload_n 0, 1) := by decide +kernel
theorem dX2_hourOn_84 : decode cX2_hourOn 84 = .ok (.getfield 32, 3) := by decide +kernel
theorem dX2_hourOn_87 : decode cX2_hourOn 87 = .ok (.bipush 12, 2) := by decide +kernel
theorem dX2_hourOn_89 : decode cX2_hourOn 89 = .ok (.iload_n 1, 1) := by decide +kernel
theorem dX2_hourOn_90 : decode cX2_hourOn 90 = .ok (.iadd, 1) := by decide +kernel
theorem dX2_hourOn_91 : decode cX2_hourOn 91 = .ok (.iaload, 1) := by decide +kernel
theorem dX2_hourOn_92 : decode cX2_hourOn 92 = .ok (.iconst 1, 1) := by decide +kernel
theorem dX2_hourOn_93 : decode cX2_hourOn 93 = .ok (.iadd, 1) := by decide +kernel
theorem dX2_hourOn_94 : decode cX2_hourOn 94 = .ok (.iastore, 1) := by decide +kernel
theorem dX2_hourOn_95 : decode cX2_hourOn 95 = .ok (.aload_n 0, 1) := by decide +kernel
theorem dX2_hourOn_96 : decode cX2_hourOn 96 = .ok (.getfield 32, 3) := by decide +kernel
theorem dX2_hourOn_99 : decode cX2_hourOn 99 = .ok (.bipush 12, 2) := by decide +kernel
theorem dX2_hourOn_101 : decode cX2_hourOn 101 = .ok (.iload_n 1, 1) := by decide +kernel
theorem dX2_hourOn_102 : decode cX2_hourOn 102 = .ok (.iadd, 1) := by decide +kernel
theorem dX2_hourOn_103 : decode cX2_hourOn 103 = .ok (.iaload, 1) := by decide +kernel
theorem dX2_hourOn_104 : decode cX2_hourOn 104 = .ok (.bipush 6, 2) := by decide +kernel
theorem dX2_hourOn_106 : decode cX2_hourOn 106 = .ok (.if_icmp .lt 13, 3) := by decide +kernel
theorem dX2_hourOn_109 : decode cX2_hourOn 109 = .ok (.aload_n 0, 1) := by decide +kernel
theorem dX2_hourOn_110 : decode cX2_hourOn 110 = .ok (.getfield 32, 3) := by decide +kernel
theorem dX2_hourOn_113 : decode cX2_hourOn 113 = .ok (.bipush 22, 2) := by decide +kernel
theorem dX2_hourOn_115 : decode cX2_hourOn 115 = .ok (.iload_n 1, 1) := by decide +kernel
theorem dX2_hourOn_116 : decode cX2_hourOn 116 = .ok (.iadd, 1) := by decide +kernel
theorem dX2_hourOn_117 : decode cX2_hourOn 117 = .ok (.iconst 1, 1) := by decide +kernel
theorem dX2_hourOn_118 : decode cX2_hourOn 118 = .ok (.iastore, 1) := by decide +kernel
theorem dX2_hourOn_119 : decode cX2_hourOn 119 = .ok (.iinc 1 1, 3) := by decide +kernel
theorem dX2_hourOn_122 : decode cX2_hourOn 122 = .ok (.goto (-68), 3) := by decide +kernel
theorem dX2_hourOn_125 : decode cX2_hourOn 125 = .ok (.aload_n 0, 1) := by decide +kernel
theorem dX2_hourOn_126 : decode cX2_hourOn 126 = .ok (.getfield 32, 3) := by decide +kernel
theorem dX2_hourOn_129 : decode cX2_hourOn 129 = .ok (.iconst 0, 1) := by decide +kernel
theorem dX2_hourOn_130 : decode cX2_hourOn 130 = .ok (.dup2, 1) := by decide +kernel
theorem dX2_hourOn_131 : decode cX2_hourOn 131 = .ok (.iaload, 1) := by decide +kernel
theorem dX2_hourOn_132 : decode cX2_hourOn 132 = .ok (.iconst 1, 1) := by decide +kernel
theorem dX2_hourOn_133 : decode cX2_hourOn 133 = .ok (.iadd, 1) := by decide +kernel
theorem dX2_hourOn_134 : decode cX2_hourOn 134 = .ok (.iastore, 1) := by decide +kernel
theorem dX2_hourOn_135 : decode cX2_hourOn 135 = .ok (.return_, 1) := by decide +kernel
theorem dX2_hoursOn_0 : decode cX2_hoursOn 0 = .ok (.iconst 0, 1) := by decide +kernel
theorem dX2_hoursOn_1 : decode cX2_hoursOn 1 = .ok (.istore_n 2, 1) := by decide +kernel
theorem dX2_hoursOn_2 : decode cX2_hoursOn 2 = .ok (.iload_n 2, 1) := by decide +kernel
theorem dX2_hoursOn_3 : decode cX2_hoursOn 3 = .ok (.iload_n 1, 1) := by decide +kernel
theorem dX2_hoursOn_4 : decode cX2_hoursOn 4 = .ok (.if_icmp .ge 13, 3) := by decide +kernel
theorem dX2_hoursOn_7 : decode cX2_hoursOn 7 = .ok (.aload_n 0, 1) := by decide +kernel
theorem dX2_hoursOn_8 : decode cX2_hoursOn 8 = .ok (.invokevirtual 87, 3) := by decide +kernel
theorem dX2_hoursOn_11 : decode cX2_hoursOn 11 = .ok (.iinc 2 1, 3) := by decide +kernel
theorem dX2_hoursOn_14 : decode cX2_hoursOn 14 = .ok (.goto (-12), 3) := by decide +kernel
theorem dX2_hoursOn_17 : decode cX2_hoursOn 17 = .ok (.return_, 1) := by decide +kernel
theorem dX2_ruined_0 : decode cX2_ruined 0 = .ok (.iconst 0, 1) := by decide +kernel
theorem dX2_ruined_1 : decode cX2_ruined 1 = .ok (.istore_n 1, 1) := by decide +kernel
theorem dX2_ruined_2 : decode cX2_ruined 2 = .ok (.iconst 0, 1) := by decide +kernel
theorem dX2_ruined_3 : decode cX2_ruined 3 = .ok (.istore_n 2, 1) := by decide +kernel
theorem dX2_ruined_4 : decode cX2_ruined 4 = .ok (.iload_n 2, 1) := by decide +kernel
theorem dX2_ruined_5 : decode cX2_ruined 5 = .ok (.aload_n 0, 1) := by decide +kernel
theorem dX2_ruined_6 : decode cX2_ruined 6 = .ok (.getfield 45, 3) := by decide +kernel
theorem dX2_ruined_9 : decode cX2_ruined 9 = .ok (.if_icmp .ge 21, 3) := by decide +kernel
theorem dX2_ruined_12 : decode cX2_ruined 12 = .ok (.iload_n 1, 1) := by decide +kernel
theorem dX2_ruined_13 : decode cX2_ruined 13 = .ok (.aload_n 0, 1) := by decide +kernel
theorem dX2_ruined_14 : decode cX2_ruined 14 = .ok (.getfield 32, 3) := by decide +kernel
theorem dX2_ruined_17 : decode cX2_ruined 17 = .ok (.bipush 22, 2) := by decide +kernel
theorem dX2_ruined_19 : decode cX2_ruined 19 = .ok (.iload_n 2, 1) := by decide +kernel
theorem dX2_ruined_20 : decode cX2_ruined 20 = .ok (.iadd, 1) := by decide +kernel
theorem dX2_ruined_21 : decode cX2_ruined 21 = .ok (.iaload, 1) := by decide +kernel
theorem dX2_ruined_22 : decode cX2_ruined 22 = .ok (.iadd, 1) := by decide +kernel
theorem dX2_ruined_23 : decode cX2_ruined 23 = .ok (.istore_n 1, 1) := by decide +kernel
theorem dX2_ruined_24 : decode cX2_ruined 24 = .ok (.iinc 2 1, 3) := by decide +kernel
theorem dX2_ruined_27 : decode cX2_ruined 27 = .ok (.goto (-23), 3) := by decide +kernel
theorem dX2_ruined_30 : decode cX2_ruined 30 = .ok (.iload_n 1, 1) := by decide +kernel
theorem dX2_ruined_31 : decode cX2_ruined 31 = .ok (.ireturn, 1) := by decide +kernel
theorem dX2_lost_0 : decode cX2_lost 0 = .ok (.iconst 0, 1) := by decide +kernel
theorem dX2_lost_1 : decode cX2_lost 1 = .ok (.istore_n 1, 1) := by decide +kernel
theorem dX2_lost_2 : decode cX2_lost 2 = .ok (.iconst 0, 1) := by decide +kernel
theorem dX2_lost_3 : decode cX2_lost 3 = .ok (.istore_n 2, 1) := by decide +kernel
theorem dX2_lost_4 : decode cX2_lost 4 = .ok (.iload_n 2, 1) := by decide +kernel
theorem dX2_lost_5 : decode cX2_lost 5 = .ok (.aload_n 0, 1) := by decide +kernel
theorem dX2_lost_6 : decode cX2_lost 6 = .ok (.getfield 45, 3) := by decide +kernel
theorem dX2_lost_9 : decode cX2_lost 9 = .ok (.if_icmp .ge 28, 3) := by decide +kernel
theorem dX2_lost_12 : decode cX2_lost 12 = .ok (.iload_n 1, 1) := by decide +kernel
theorem dX2_lost_13 : decode cX2_lost 13 = .ok (.aload_n 0, 1) := by decide +kernel
theorem dX2_lost_14 : decode cX2_lost 14 = .ok (.getfield 32, 3) := by decide +kernel
theorem dX2_lost_17 : decode cX2_lost 17 = .ok (.bipush 22, 2) := by decide +kernel
theorem dX2_lost_19 : decode cX2_lost 19 = .ok (.iload_n 2, 1) := by decide +kernel
theorem dX2_lost_20 : decode cX2_lost 20 = .ok (.iadd, 1) := by decide +kernel
theorem dX2_lost_21 : decode cX2_lost 21 = .ok (.iaload, 1) := by decide +kernel
theorem dX2_lost_22 : decode cX2_lost 22 = .ok (.aload_n 0, 1) := by decide +kernel
theorem dX2_lost_23 : decode cX2_lost 23 = .ok (.getfield 13, 3) := by decide +kernel
theorem dX2_lost_26 : decode cX2_lost 26 = .ok (.iload_n 2, 1) := by decide +kernel
theorem dX2_lost_27 : decode cX2_lost 27 = .ok (.iaload, 1) := by decide +kernel
theorem dX2_lost_28 : decode cX2_lost 28 = .ok (.imul, 1) := by decide +kernel
theorem dX2_lost_29 : decode cX2_lost 29 = .ok (.iadd, 1) := by decide +kernel
theorem dX2_lost_30 : decode cX2_lost 30 = .ok (.istore_n 1, 1) := by decide +kernel
theorem dX2_lost_31 : decode cX2_lost 31 = .ok (.iinc 2 1, 3) := by decide +kernel
theorem dX2_lost_34 : decode cX2_lost 34 = .ok (.goto (-30), 3) := by decide +kernel
theorem dX2_lost_37 : decode cX2_lost 37 = .ok (.iload_n 1, 1) := by decide +kernel
theorem dX2_lost_38 : decode cX2_lost 38 = .ok (.ireturn, 1) := by decide +kernel
theorem dX2_addField_0 : decode cX2_addField 0 = .ok (.aload_n 0, 1) := by decide +kernel
theorem dX2_addField_1 : decode cX2_addField 1 = .ok (.iconst 0, 1) := by decide +kernel
theorem dX2_addField_2 : decode cX2_addField 2 = .ok (.putfield 41, 3) := by decide +kernel
theorem dX2_addField_5 : decode cX2_addField 5 = .ok (.iload_n 1, 1) := by decide +kernel
theorem dX2_addField_6 : decode cX2_addField 6 = .ok (.iconst 0, 1) := by decide +kernel
theorem dX2_addField_7 : decode cX2_addField 7 = .ok (.bipush 20, 2) := by decide +kernel
theorem dX2_addField_9 : decode cX2_addField 9 = .ok (.invokestatic 48, 3) := by decide +kernel
theorem dX2_addField_12 : decode cX2_addField 12 = .ok (.ifCond .eq 13, 3) := by decide +kernel
theorem dX2_addField_15 : decode cX2_addField 15 = .ok (.iload_n 2, 1) := by decide +kernel
theorem dX2_addField_16 : decode cX2_addField 16 = .ok (.iconst 0, 1) := by decide +kernel
theorem dX2_addField_17 : decode cX2_addField 17 = .ok (.bipush 99, 2) := by decide +kernel
theorem dX2_addField_19 : decode cX2_addField 19 = .ok (.invokestatic 48, 3) := by decide +kernel
theorem dX2_addField_22 : decode cX2_addField 22 = .ok (.ifCond .ne 9, 3) := by decide +kernel
theorem dX2_addField_25 : decode cX2_addField 25 = .ok (.aload_n 0, 1) := by decide +kernel
theorem dX2_addField_26 : decode cX2_addField 26 = .ok (.iconst 1, 1) := by decide +kernel
theorem dX2_addField_27 : decode cX2_addField 27 = .ok (.invokevirtual 90, 3) := by decide +kernel
theorem dX2_addField_30 : decode cX2_addField 30 = .ok (.ireturn, 1) := by decide +kernel
theorem dX2_addField_31 : decode cX2_addField 31 = .ok (.aload_n 0, 1) := by decide +kernel
theorem dX2_addField_32 : decode cX2_addField 32 = .ok (.getfield 45, 3) := by decide +kernel
theorem dX2_addField_35 : decode cX2_addField 35 = .ok (.bipush 10, 2) := by decide +kernel
theorem dX2_addField_37 : decode cX2_addField 37 = .ok (.if_icmp .ne 9, 3) := by decide +kernel
theorem dX2_addField_40 : decode cX2_addField 40 = .ok (.aload_n 0, 1) := by decide +kernel
theorem dX2_addField_41 : decode cX2_addField 41 = .ok (.iconst 2, 1) := by decide +kernel
theorem dX2_addField_42 : decode cX2_addField 42 = .ok (.invokevirtual 90, 3) := by decide +kernel
theorem dX2_addField_45 : decode cX2_addField 45 = .ok (.ireturn, 1) := by decide +kernel
theorem dX2_addField_46 : decode cX2_addField 46 = .ok (.aload_n 0, 1) := by decide +kernel
theorem dX2_addField_47 : decode cX2_addField 47 = .ok (.getfield 9, 3) := by decide +kernel
theorem dX2_addField_50 : decode cX2_addField 50 = .ok (.aload_n 0, 1) := by decide +kernel
theorem dX2_addField_51 : decode cX2_addField 51 = .ok (.getfield 45, 3) := by decide +kernel
theorem dX2_addField_54 : decode cX2_addField 54 = .ok (.iload_n 1, 1) := by decide +kernel
theorem dX2_addField_55 : decode cX2_addField 55 = .ok (.iastore, 1) := by decide +kernel
theorem dX2_addField_56 : decode cX2_addField 56 = .ok (.aload_n 0, 1) := by decide +kernel
theorem dX2_addField_57 : decode cX2_addField 57 = .ok (.getfield 13, 3) := by decide +kernel
theorem dX2_addField_60 : decode cX2_addField 60 = .ok (.aload_n 0, 1) := by decide +kernel
theorem dX2_addField_61 : decode cX2_addField 61 = .ok (.getfield 45, 3) := by decide +kernel
theorem dX2_addField_64 : decode cX2_addField 64 = .ok (.iload_n 2, 1) := by decide +kernel
theorem dX2_addField_65 : decode cX2_addField 65 = .ok (.iastore, 1) := by decide +kernel
theorem dX2_addField_66 : decode cX2_addField 66 = .ok (.aload_n 0, 1) := by decide +kernel
theorem dX2_addField_67 : decode cX2_addField 67 = .ok (.dup, 1) := by decide +kernel
theorem dX2_addField_68 : decode cX2_addField 68 = .ok (.getfield 45, 3) := by decide +kernel
theorem dX2_addField_71 : decode cX2_addField 71 = .ok (.iconst 1, 1) := by decide +kernel
theorem dX2_addField_72 : decode cX2_addField 72 = .ok (.iadd, 1) := by decide +kernel
theorem dX2_addField_73 : decode cX2_addField 73 = .ok (.putfield 45, 3) := by decide +kernel
theorem dX2_addField_76 : decode cX2_addField 76 = .ok (.aload_n 0, 1) := by decide +kernel
theorem dX2_addField_77 : decode cX2_addField 77 = .ok (.getfield 45, 3) := by decide +kernel
theorem dX2_addField_80 : decode cX2_addField 80 = .ok (.iconst 1, 1) := by decide +kernel
theorem dX2_addField_81 : decode cX2_addField 81 = .ok (.isub, 1) := by decide +kernel
theorem dX2_addField_82 : decode cX2_addField 82 = .ok (.ireturn, 1) := by decide +kernel
theorem dX2_add_0 : decode cX2_add 0 = .ok (.iload_n 1, 1) := by decide +kernel
theorem dX2_add_1 : decode cX2_add 1 = .ok (.iload_n 2, 1) := by decide +kernel
theorem dX2_add_2 : decode cX2_add 2 = .ok (.if_icmp .eq 13, 3) := by decide +kernel
theorem dX2_add_5 : decode cX2_add 5 = .ok (.iload_n 3, 1) := by decide +kernel
theorem dX2_add_6 : decode cX2_add 6 = .ok (.iconst 1, 1) := by decide +kernel
theorem dX2_add_7 : decode cX2_add 7 = .ok (.bipush 9, 2) := by decide +kernel
theorem dX2_add_9 : decode cX2_add 9 = .ok (.invokestatic 48, 3) := by decide +kernel
theorem dX2_add_12 : decode cX2_add 12 = .ok (.ifCond .ne 9, 3) := by decide +kernel
theorem dX2_add_15 : decode cX2_add 15 = .ok (.aload_n 0, 1) := by decide +kernel
theorem dX2_add_16 : decode cX2_add 16 = .ok (.iconst 2, 1) := by decide +kernel
theorem dX2_add_17 : decode cX2_add 17 = .ok (.invokevirtual 90, 3) := by decide +kernel
theorem dX2_add_20 : decode cX2_add 20 = .ok (.ireturn, 1) := by decide +kernel
theorem dX2_add_21 : decode cX2_add 21 = .ok (.aload_n 0, 1) := by decide +kernel
theorem dX2_add_22 : decode cX2_add 22 = .ok (.getfield 52, 3) := by decide +kernel
theorem dX2_add_25 : decode cX2_add 25 = .ok (.bipush 16, 2) := by decide +kernel
theorem dX2_add_27 : decode cX2_add 27 = .ok (.if_icmp .ne 9, 3) := by decide +kernel
theorem dX2_add_30 : decode cX2_add 30 = .ok (.aload_n 0, 1) := by decide +kernel
theorem dX2_add_31 : decode cX2_add 31 = .ok (.iconst 3, 1) := by decide +kernel
theorem dX2_add_32 : decode cX2_add 32 = .ok (.invokevirtual 90, 3) := by decide +kernel
theorem dX2_add_35 : decode cX2_add 35 = .ok (.ireturn, 1) := by decide +kernel
theorem dX2_add_36 : decode cX2_add 36 = .ok (.aload_n 0, 1) := by decide +kernel
theorem dX2_add_37 : decode cX2_add 37 = .ok (.getfield 16, 3) := by decide +kernel
theorem dX2_add_40 : decode cX2_add 40 = .ok (.aload_n 0, 1) := by decide +kernel
theorem dX2_add_41 : decode cX2_add 41 = .ok (.getfield 52, 3) := by decide +kernel
theorem dX2_add_44 : decode cX2_add 44 = .ok (.iload_n 1, 1) := by decide +kernel
theorem dX2_add_45 : decode cX2_add 45 = .ok (.iastore, 1) := by decide +kernel
theorem dX2_add_46 : decode cX2_add 46 = .ok (.aload_n 0, 1) := by decide +kernel
theorem dX2_add_47 : decode cX2_add 47 = .ok (.getfield 19, 3) := by decide +kernel
theorem dX2_add_50 : decode cX2_add 50 = .ok (.aload_n 0, 1) := by decide +kernel
theorem dX2_add_51 : decode cX2_add 51 = .ok (.getfield 52, 3) := by decide +kernel
theorem dX2_add_54 : decode cX2_add 54 = .ok (.iload_n 2, 1) := by decide +kernel
theorem dX2_add_55 : decode cX2_add 55 = .ok (.iastore, 1) := by decide +kernel
theorem dX2_add_56 : decode cX2_add 56 = .ok (.aload_n 0, 1) := by decide +kernel
theorem dX2_add_57 : decode cX2_add 57 = .ok (.getfield 22, 3) := by decide +kernel
theorem dX2_add_60 : decode cX2_add 60 = .ok (.aload_n 0, 1) := by decide +kernel
theorem dX2_add_61 : decode cX2_add 61 = .ok (.getfield 52, 3) := by decide +kernel
theorem dX2_add_64 : decode cX2_add 64 = .ok (.iload_n 3, 1) := by decide +kernel
theorem dX2_add_65 : decode cX2_add 65 = .ok (.iastore, 1) := by decide +kernel
theorem dX2_add_66 : decode cX2_add 66 = .ok (.aload_n 0, 1) := by decide +kernel
theorem dX2_add_67 : decode cX2_add 67 = .ok (.getfield 25, 3) := by decide +kernel
theorem dX2_add_70 : decode cX2_add 70 = .ok (.aload_n 0, 1) := by decide +kernel
theorem dX2_add_71 : decode cX2_add 71 = .ok (.getfield 52, 3) := by decide +kernel
theorem dX2_add_74 : decode cX2_add 74 = .ok (.iload 4, 2) := by decide +kernel
theorem dX2_add_76 : decode cX2_add 76 = .ok (.bastore, 1) := by decide +kernel
theorem dX2_add_77 : decode cX2_add 77 = .ok (.aload_n 0, 1) := by decide +kernel
theorem dX2_add_78 : decode cX2_add 78 = .ok (.getfield 29, 3) := by decide +kernel
theorem dX2_add_81 : decode cX2_add 81 = .ok (.aload_n 0, 1) := by decide +kernel
theorem dX2_add_82 : decode cX2_add 82 = .ok (.getfield 52, 3) := by decide +kernel
theorem dX2_add_85 : decode cX2_add 85 = .ok (.iconst 1, 1) := by decide +kernel
theorem dX2_add_86 : decode cX2_add 86 = .ok (.bastore, 1) := by decide +kernel
theorem dX2_add_87 : decode cX2_add 87 = .ok (.aload_n 0, 1) := by decide +kernel
theorem dX2_add_88 : decode cX2_add 88 = .ok (.dup, 1) := by decide +kernel
theorem dX2_add_89 : decode cX2_add 89 = .ok (.getfield 52, 3) := by decide +kernel
theorem dX2_add_92 : decode cX2_add 92 = .ok (.iconst 1, 1) := by decide +kernel
theorem dX2_add_93 : decode cX2_add 93 = .ok (.iadd, 1) := by decide +kernel
theorem dX2_add_94 : decode cX2_add 94 = .ok (.putfield 52, 3) := by decide +kernel
theorem dX2_add_97 : decode cX2_add 97 = .ok (.aload_n 0, 1) := by decide +kernel
theorem dX2_add_98 : decode cX2_add 98 = .ok (.getfield 52, 3) := by decide +kernel
theorem dX2_add_101 : decode cX2_add 101 = .ok (.iconst 1, 1) := by decide +kernel
theorem dX2_add_102 : decode cX2_add 102 = .ok (.isub, 1) := by decide +kernel
theorem dX2_add_103 : decode cX2_add 103 = .ok (.ireturn, 1) := by decide +kernel
theorem dX2_addDitch_0 : decode cX2_addDitch 0 = .ok (.aload_n 0, 1) := by decide +kernel
theorem dX2_addDitch_1 : decode cX2_addDitch 1 = .ok (.iconst 0, 1) := by decide +kernel
theorem dX2_addDitch_2 : decode cX2_addDitch 2 = .ok (.putfield 41, 3) := by decide +kernel
theorem dX2_addDitch_5 : decode cX2_addDitch 5 = .ok (.aload_n 0, 1) := by decide +kernel
theorem dX2_addDitch_6 : decode cX2_addDitch 6 = .ok (.iload_n 1, 1) := by decide +kernel
theorem dX2_addDitch_7 : decode cX2_addDitch 7 = .ok (.invokevirtual 93, 3) := by decide +kernel
theorem dX2_addDitch_10 : decode cX2_addDitch 10 = .ok (.ifCond .eq 22, 3) := by decide +kernel
theorem dX2_addDitch_13 : decode cX2_addDitch 13 = .ok (.aload_n 0, 1) := by decide +kernel
theorem dX2_addDitch_14 : decode cX2_addDitch 14 = .ok (.iload_n 2, 1) := by decide +kernel
theorem dX2_addDitch_15 : decode cX2_addDitch 15 = .ok (.invokevirtual 93, 3) := by decide +kernel
theorem dX2_addDitch_18 : decode cX2_addDitch 18 = .ok (.ifCond .eq 14, 3) := by decide +kernel
theorem dX2_addDitch_21 : decode cX2_addDitch 21 = .ok (.aload_n 0, 1) := by decide +kernel
theorem dX2_addDitch_22 : decode cX2_addDitch 22 = .ok (.iload_n 1, 1) := by decide +kernel
theorem dX2_addDitch_23 : decode cX2_addDitch 23 = .ok (.iload_n 2, 1) := by decide +kernel
theorem dX2_addDitch_24 : decode cX2_addDitch 24 = .ok (.iload_n 3, 1) := by decide +kernel
theorem dX2_addDitch_25 : decode cX2_addDitch 25 = .ok (.iconst 0, 1) := by decide +kernel
theorem dX2_addDitch_26 : decode cX2_addDitch 26 = .ok (.invokevirtual 97, 3) := by decide +kernel
theorem dX2_addDitch_29 : decode cX2_addDitch 29 = .ok (.goto 8, 3) := by decide +kernel
theorem dX2_addDitch_32 : decode cX2_addDitch 32 = .ok (.aload_n 0, 1) := by decide +kernel
theorem dX2_addDitch_33 : decode cX2_addDitch 33 = .ok (.iconst 1, 1) := by decide +kernel
theorem dX2_addDitch_34 : decode cX2_addDitch 34 = .ok (.invokevirtual 90, 3) := by decide +kernel
theorem dX2_addDitch_37 : decode cX2_addDitch 37 = .ok (.ireturn, 1) := by decide +kernel
theorem dX2_addPump_0 : decode cX2_addPump 0 = .ok (.aload_n 0, 1) := by decide +kernel
theorem dX2_addPump_1 : decode cX2_addPump 1 = .ok (.iconst 0, 1) := by decide +kernel
theorem dX2_addPump_2 : decode cX2_addPump 2 = .ok (.putfield 41, 3) := by decide +kernel
theorem dX2_addPump_5 : decode cX2_addPump 5 = .ok (.aload_n 0, 1) := by decide +kernel
theorem dX2_addPump_6 : decode cX2_addPump 6 = .ok (.iload_n 1, 1) := by decide +kernel
theorem dX2_addPump_7 : decode cX2_addPump 7 = .ok (.invokevirtual 93, 3) := by decide +kernel
theorem dX2_addPump_10 : decode cX2_addPump 10 = .ok (.ifCond .eq 27, 3) := by decide +kernel
theorem dX2_addPump_13 : decode cX2_addPump 13 = .ok (.iload_n 2, 1) := by decide +kernel
theorem dX2_addPump_14 : decode cX2_addPump 14 = .ok (.iconst (-1), 1) := by decide +kernel
theorem dX2_addPump_15 : decode cX2_addPump 15 = .ok (.if_icmp .eq 11, 3) := by decide +kernel
theorem dX2_addPump_18 : decode cX2_addPump 18 = .ok (.aload_n 0, 1) := by decide +kernel
theorem dX2_addPump_19 : decode cX2_addPump 19 = .ok (.iload_n 2, 1) := by decide +kernel
theorem dX2_addPump_20 : decode cX2_addPump 20 = .ok (.invokevirtual 93, 3) := by decide +kernel
theorem dX2_addPump_23 : decode cX2_addPump 23 = .ok (.ifCond .eq 14, 3) := by decide +kernel
theorem dX2_addPump_26 : decode cX2_addPump 26 = .ok (.aload_n 0, 1) := by decide +kernel
theorem dX2_addPump_27 : decode cX2_addPump 27 = .ok (.iload_n 1, 1) := by decide +kernel
theorem dX2_addPump_28 : decode cX2_addPump 28 = .ok (.iload_n 2, 1) := by decide +kernel
theorem dX2_addPump_29 : decode cX2_addPump 29 = .ok (.iload_n 3, 1) := by decide +kernel
theorem dX2_addPump_30 : decode cX2_addPump 30 = .ok (.iconst 1, 1) := by decide +kernel
theorem dX2_addPump_31 : decode cX2_addPump 31 = .ok (.invokevirtual 97, 3) := by decide +kernel
theorem dX2_addPump_34 : decode cX2_addPump 34 = .ok (.goto 8, 3) := by decide +kernel
theorem dX2_addPump_37 : decode cX2_addPump 37 = .ok (.aload_n 0, 1) := by decide +kernel
theorem dX2_addPump_38 : decode cX2_addPump 38 = .ok (.iconst 1, 1) := by decide +kernel
theorem dX2_addPump_39 : decode cX2_addPump 39 = .ok (.invokevirtual 90, 3) := by decide +kernel
theorem dX2_addPump_42 : decode cX2_addPump 42 = .ok (.ireturn, 1) := by decide +kernel
theorem dX2_turn_0 : decode cX2_turn 0 = .ok (.aload_n 0, 1) := by decide +kernel
theorem dX2_turn_1 : decode cX2_turn 1 = .ok (.iconst 0, 1) := by decide +kernel
theorem dX2_turn_2 : decode cX2_turn 2 = .ok (.putfield 41, 3) := by decide +kernel
theorem dX2_turn_5 : decode cX2_turn 5 = .ok (.aload_n 0, 1) := by decide +kernel
theorem dX2_turn_6 : decode cX2_turn 6 = .ok (.iload_n 1, 1) := by decide +kernel
theorem dX2_turn_7 : decode cX2_turn 7 = .ok (.invokevirtual 101, 3) := by decide +kernel
theorem dX2_turn_10 : decode cX2_turn 10 = .ok (.ifCond .ne 9, 3) := by decide +kernel
theorem dX2_turn_13 : decode cX2_turn 13 = .ok (.aload_n 0, 1) := by decide +kernel
theorem dX2_turn_14 : decode cX2_turn 14 = .ok (.iconst 1, 1) := by decide +kernel
theorem dX2_turn_15 : decode cX2_turn 15 = .ok (.invokevirtual 104, 3) := by decide +kernel
theorem dX2_turn_18 : decode cX2_turn 18 = .ok (.ireturn, 1) := by decide +kernel
theorem dX2_turn_19 : decode cX2_turn 19 = .ok (.aload_n 0, 1) := by decide +kernel
theorem dX2_turn_20 : decode cX2_turn 20 = .ok (.getfield 29, 3) := by decide +kernel
theorem dX2_turn_23 : decode cX2_turn 23 = .ok (.iload_n 1, 1) := by decide +kernel
theorem dX2_turn_24 : decode cX2_turn 24 = .ok (.aload_n 0, 1) := by decide +kernel
theorem dX2_turn_25 : decode cX2_turn 25 = .ok (.getfield 29, 3) := by decide +kernel
theorem dX2_turn_28 : decode cX2_turn 28 = .ok (.iload_n 1, 1) := by decide +kernel
theorem dX2_turn_29 : decode cX2_turn 29 = .ok (.baload, 1) := by decide +kernel
theorem dX2_turn_30 : decode cX2_turn 30 = .ok (.ifCond .ne 7, 3) := by decide +kernel
theorem dX2_turn_33 : decode cX2_turn 33 = .ok (.iconst 1, 1) := by decide +kernel
theorem dX2_turn_34 : decode cX2_turn 34 = .ok (.goto 4, 3) := by decide +kernel
theorem dX2_turn_37 : decode cX2_turn 37 = .ok (.iconst 0, 1) := by decide +kernel
theorem dX2_turn_38 : decode cX2_turn 38 = .ok (.bastore, 1) := by decide +kernel
theorem dX2_turn_39 : decode cX2_turn 39 = .ok (.aload_n 0, 1) := by decide +kernel
theorem dX2_turn_40 : decode cX2_turn 40 = .ok (.getfield 29, 3) := by decide +kernel
theorem dX2_turn_43 : decode cX2_turn 43 = .ok (.iload_n 1, 1) := by decide +kernel
theorem dX2_turn_44 : decode cX2_turn 44 = .ok (.baload, 1) := by decide +kernel
theorem dX2_turn_45 : decode cX2_turn 45 = .ok (.ireturn, 1) := by decide +kernel
theorem dX2_setRain_0 : decode cX2_setRain 0 = .ok (.aload_n 0, 1) := by decide +kernel
theorem dX2_setRain_1 : decode cX2_setRain 1 = .ok (.iconst 0, 1) := by decide +kernel
theorem dX2_setRain_2 : decode cX2_setRain 2 = .ok (.putfield 41, 3) := by decide +kernel
theorem dX2_setRain_5 : decode cX2_setRain 5 = .ok (.iload_n 1, 1) := by decide +kernel
theorem dX2_setRain_6 : decode cX2_setRain 6 = .ok (.iconst 0, 1) := by decide +kernel
theorem dX2_setRain_7 : decode cX2_setRain 7 = .ok (.bipush 9, 2) := by decide +kernel
theorem dX2_setRain_9 : decode cX2_setRain 9 = .ok (.invokestatic 48, 3) := by decide +kernel
theorem dX2_setRain_12 : decode cX2_setRain 12 = .ok (.ifCond .ne 9, 3) := by decide +kernel
theorem dX2_setRain_15 : decode cX2_setRain 15 = .ok (.aload_n 0, 1) := by decide +kernel
theorem dX2_setRain_16 : decode cX2_setRain 16 = .ok (.iconst 1, 1) := by decide +kernel
theorem dX2_setRain_17 : decode cX2_setRain 17 = .ok (.invokevirtual 90, 3) := by decide +kernel
theorem dX2_setRain_20 : decode cX2_setRain 20 = .ok (.ireturn, 1) := by decide +kernel
theorem dX2_setRain_21 : decode cX2_setRain 21 = .ok (.aload_n 0, 1) := by decide +kernel
theorem dX2_setRain_22 : decode cX2_setRain 22 = .ok (.getfield 80, 3) := by decide +kernel
theorem dX2_setRain_25 : decode cX2_setRain 25 = .ok (.istore_n 2, 1) := by decide +kernel
theorem dX2_setRain_26 : decode cX2_setRain 26 = .ok (.aload_n 0, 1) := by decide +kernel
theorem dX2_setRain_27 : decode cX2_setRain 27 = .ok (.iload_n 1, 1) := by decide +kernel
theorem dX2_setRain_28 : decode cX2_setRain 28 = .ok (.putfield 80, 3) := by decide +kernel
theorem dX2_setRain_31 : decode cX2_setRain 31 = .ok (.iload_n 2, 1) := by decide +kernel
theorem dX2_setRain_32 : decode cX2_setRain 32 = .ok (.ireturn, 1) := by decide +kernel
theorem dX2_flood_0 : decode cX2_flood 0 = .ok (.aload_n 0, 1) := by decide +kernel
theorem dX2_flood_1 : decode cX2_flood 1 = .ok (.iconst 0, 1) := by decide +kernel
theorem dX2_flood_2 : decode cX2_flood 2 = .ok (.putfield 41, 3) := by decide +kernel
theorem dX2_flood_5 : decode cX2_flood 5 = .ok (.aload_n 0, 1) := by decide +kernel
theorem dX2_flood_6 : decode cX2_flood 6 = .ok (.iload_n 1, 1) := by decide +kernel
theorem dX2_flood_7 : decode cX2_flood 7 = .ok (.invokevirtual 93, 3) := by decide +kernel
theorem dX2_flood_10 : decode cX2_flood 10 = .ok (.ifCond .ne 9, 3) := by decide +kernel
theorem dX2_flood_13 : decode cX2_flood 13 = .ok (.aload_n 0, 1) := by decide +kernel
theorem dX2_flood_14 : decode cX2_flood 14 = .ok (.iconst 1, 1) := by decide +kernel
theorem dX2_flood_15 : decode cX2_flood 15 = .ok (.invokevirtual 90, 3) := by decide +kernel
theorem dX2_flood_18 : decode cX2_flood 18 = .ok (.ireturn, 1) := by decide +kernel
theorem dX2_flood_19 : decode cX2_flood 19 = .ok (.iload_n 2, 1) := by decide +kernel
theorem dX2_flood_20 : decode cX2_flood 20 = .ok (.iconst 1, 1) := by decide +kernel
theorem dX2_flood_21 : decode cX2_flood 21 = .ok (.bipush 50, 2) := by decide +kernel
theorem dX2_flood_23 : decode cX2_flood 23 = .ok (.invokestatic 48, 3) := by decide +kernel
theorem dX2_flood_26 : decode cX2_flood 26 = .ok (.ifCond .ne 9, 3) := by decide +kernel
theorem dX2_flood_29 : decode cX2_flood 29 = .ok (.aload_n 0, 1) := by decide +kernel
theorem dX2_flood_30 : decode cX2_flood 30 = .ok (.iconst 2, 1) := by decide +kernel
theorem dX2_flood_31 : decode cX2_flood 31 = .ok (.invokevirtual 90, 3) := by decide +kernel
theorem dX2_flood_34 : decode cX2_flood 34 = .ok (.ireturn, 1) := by decide +kernel
theorem dX2_flood_35 : decode cX2_flood 35 = .ok (.aload_n 0, 1) := by decide +kernel
theorem dX2_flood_36 : decode cX2_flood 36 = .ok (.getfield 32, 3) := by decide +kernel
theorem dX2_flood_39 : decode cX2_flood 39 = .ok (.iconst 2, 1) := by decide +kernel
theorem dX2_flood_40 : decode cX2_flood 40 = .ok (.iload_n 1, 1) := by decide +kernel
theorem dX2_flood_41 : decode cX2_flood 41 = .ok (.iadd, 1) := by decide +kernel
theorem dX2_flood_42 : decode cX2_flood 42 = .ok (.dup2, 1) := by decide +kernel
theorem dX2_flood_43 : decode cX2_flood 43 = .ok (.iaload, 1) := by decide +kernel
theorem dX2_flood_44 : decode cX2_flood 44 = .ok (.iload_n 2, 1) := by decide +kernel
theorem dX2_flood_45 : decode cX2_flood 45 = .ok (.iadd, 1) := by decide +kernel
theorem dX2_flood_46 : decode cX2_flood 46 = .ok (.iastore, 1) := by decide +kernel
theorem dX2_flood_47 : decode cX2_flood 47 = .ok (.aload_n 0, 1) := by decide +kernel
theorem dX2_flood_48 : decode cX2_flood 48 = .ok (.iload_n 1, 1) := by decide +kernel
theorem dX2_flood_49 : decode cX2_flood 49 = .ok (.invokevirtual 61, 3) := by decide +kernel
theorem dX2_flood_52 : decode cX2_flood 52 = .ok (.ireturn, 1) := by decide +kernel
theorem dX2_pass_0 : decode cX2_pass 0 = .ok (.aload_n 0, 1) := by decide +kernel
theorem dX2_pass_1 : decode cX2_pass 1 = .ok (.iconst 0, 1) := by decide +kernel
theorem dX2_pass_2 : decode cX2_pass 2 = .ok (.putfield 41, 3) := by decide +kernel
theorem dX2_pass_5 : decode cX2_pass 5 = .ok (.iload_n 1, 1) := by decide +kernel
theorem dX2_pass_6 : decode cX2_pass 6 = .ok (.iconst 1, 1) := by decide +kernel
theorem dX2_pass_7 : decode cX2_pass 7 = .ok (.bipush 48, 2) := by decide +kernel
theorem dX2_pass_9 : decode cX2_pass 9 = .ok (.invokestatic 48, 3) := by decide +kernel
theorem dX2_pass_12 : decode cX2_pass 12 = .ok (.ifCond .ne 9, 3) := by decide +kernel
theorem dX2_pass_15 : decode cX2_pass 15 = .ok (.aload_n 0, 1) := by decide +kernel
theorem dX2_pass_16 : decode cX2_pass 16 = .ok (.iconst 1, 1) := by decide +kernel
theorem dX2_pass_17 : decode cX2_pass 17 = .ok (.invokevirtual 90, 3) := by decide +kernel
theorem dX2_pass_20 : decode cX2_pass 20 = .ok (.ireturn, 1) := by decide +kernel
theorem dX2_pass_21 : decode cX2_pass 21 = .ok (.aload_n 0, 1) := by decide +kernel
theorem dX2_pass_22 : decode cX2_pass 22 = .ok (.invokevirtual 107, 3) := by decide +kernel
theorem dX2_pass_25 : decode cX2_pass 25 = .ok (.istore_n 2, 1) := by decide +kernel
theorem dX2_pass_26 : decode cX2_pass 26 = .ok (.aload_n 0, 1) := by decide +kernel
theorem dX2_pass_27 : decode cX2_pass 27 = .ok (.iload_n 1, 1) := by decide +kernel
theorem dX2_pass_28 : decode cX2_pass 28 = .ok (.invokevirtual 111, 3) := by decide +kernel
theorem dX2_pass_31 : decode cX2_pass 31 = .ok (.aload_n 0, 1) := by decide +kernel
theorem dX2_pass_32 : decode cX2_pass 32 = .ok (.invokevirtual 107, 3) := by decide +kernel
theorem dX2_pass_35 : decode cX2_pass 35 = .ok (.iload_n 2, 1) := by decide +kernel
theorem dX2_pass_36 : decode cX2_pass 36 = .ok (.isub, 1) := by decide +kernel
theorem dX2_pass_37 : decode cX2_pass 37 = .ok (.ireturn, 1) := by decide +kernel
theorem dX2_hour_0 : decode cX2_hour 0 = .ok (.aload_n 0, 1) := by decide +kernel
theorem dX2_hour_1 : decode cX2_hour 1 = .ok (.aload_n 0, 1) := by decide +kernel
theorem dX2_hour_2 : decode cX2_hour 2 = .ok (.getfield 32, 3) := by decide +kernel
theorem dX2_hour_5 : decode cX2_hour 5 = .ok (.iconst 0, 1) := by decide +kernel
theorem dX2_hour_6 : decode cX2_hour 6 = .ok (.iaload, 1) := by decide +kernel
theorem dX2_hour_7 : decode cX2_hour 7 = .ok (.invokevirtual 114, 3) := by decide +kernel
theorem dX2_hour_10 : decode cX2_hour 10 = .ok (.ireturn, 1) := by decide +kernel
theorem dX2_fields_0 : decode cX2_fields 0 = .ok (.aload_n 0, 1) := by decide +kernel
theorem dX2_fields_1 : decode cX2_fields 1 = .ok (.aload_n 0, 1) := by decide +kernel
theorem dX2_fields_2 : decode cX2_fields 2 = .ok (.getfield 45, 3) := by decide +kernel
theorem dX2_fields_5 : decode cX2_fields 5 = .ok (.invokevirtual 114, 3) := by decide +kernel
theorem dX2_fields_8 : decode cX2_fields 8 = .ok (.ireturn, 1) := by decide +kernel
theorem dX2_drains_0 : decode cX2_drains 0 = .ok (.aload_n 0, 1) := by decide +kernel
theorem dX2_drains_1 : decode cX2_drains 1 = .ok (.aload_n 0, 1) := by decide +kernel
theorem dX2_drains_2 : decode cX2_drains 2 = .ok (.getfield 52, 3) := by decide +kernel
theorem dX2_drains_5 : decode cX2_drains 5 = .ok (.invokevirtual 114, 3) := by decide +kernel
theorem dX2_drains_8 : decode cX2_drains 8 = .ok (.ireturn, 1) := by decide +kernel
theorem dX2_rain_0 : decode cX2_rain 0 = .ok (.aload_n 0, 1) := by decide +kernel
theorem dX2_rain_1 : decode cX2_rain 1 = .ok (.aload_n 0, 1) := by decide +kernel
theorem dX2_rain_2 : decode cX2_rain 2 = .ok (.getfield 80, 3) := by decide +kernel
theorem dX2_rain_5 : decode cX2_rain 5 = .ok (.invokevirtual 114, 3) := by decide +kernel
theorem dX2_rain_8 : decode cX2_rain 8 = .ok (.ireturn, 1) := by decide +kernel
theorem dX2_allWater_0 : decode cX2_allWater 0 = .ok (.iconst 0, 1) := by decide +kernel
theorem dX2_allWater_1 : decode cX2_allWater 1 = .ok (.istore_n 1, 1) := by decide +kernel
theorem dX2_allWater_2 : decode cX2_allWater 2 = .ok (.iconst 0, 1) := by decide +kernel
theorem dX2_allWater_3 : decode cX2_allWater 3 = .ok (.istore_n 2, 1) := by decide +kernel
theorem dX2_allWater_4 : decode cX2_allWater 4 = .ok (.iload_n 2, 1) := by decide +kernel
theorem dX2_allWater_5 : decode cX2_allWater 5 = .ok (.aload_n 0, 1) := by decide +kernel
theorem dX2_allWater_6 : decode cX2_allWater 6 = .ok (.getfield 45, 3) := by decide +kernel
theorem dX2_allWater_9 : decode cX2_allWater 9 = .ok (.if_icmp .ge 17, 3) := by decide +kernel
theorem dX2_allWater_12 : decode cX2_allWater 12 = .ok (.iload_n 1, 1) := by decide +kernel
theorem dX2_allWater_13 : decode cX2_allWater 13 = .ok (.aload_n 0, 1) := by decide +kernel
theorem dX2_allWater_14 : decode cX2_allWater 14 = .ok (.iload_n 2, 1) := by decide +kernel
theorem dX2_allWater_15 : decode cX2_allWater 15 = .ok (.invokevirtual 61, 3) := by decide +kernel
theorem dX2_allWater_18 : decode cX2_allWater 18 = .ok (.iadd, 1) := by decide +kernel
theorem dX2_allWater_19 : decode cX2_allWater 19 = .ok (.istore_n 1, 1) := by decide +kernel
theorem dX2_allWater_20 : decode cX2_allWater 20 = .ok (.iinc 2 1, 3) := by decide +kernel
theorem dX2_allWater_23 : decode cX2_allWater 23 = .ok (.goto (-19), 3) := by decide +kernel
theorem dX2_allWater_26 : decode cX2_allWater 26 = .ok (.iload_n 1, 1) := by decide +kernel
theorem dX2_allWater_27 : decode cX2_allWater 27 = .ok (.ireturn, 1) := by decide +kernel
theorem dX2_water__0 : decode cX2_water_ 0 = .ok (.aload_n 0, 1) := by decide +kernel
theorem dX2_water__1 : decode cX2_water_ 1 = .ok (.aload_n 0, 1) := by decide +kernel
theorem dX2_water__2 : decode cX2_water_ 2 = .ok (.invokevirtual 117, 3) := by decide +kernel
theorem dX2_water__5 : decode cX2_water_ 5 = .ok (.invokevirtual 114, 3) := by decide +kernel
theorem dX2_water__8 : decode cX2_water_ 8 = .ok (.ireturn, 1) := by decide +kernel
theorem dX2_drained_0 : decode cX2_drained 0 = .ok (.aload_n 0, 1) := by decide +kernel
theorem dX2_drained_1 : decode cX2_drained 1 = .ok (.aload_n 0, 1) := by decide +kernel
theorem dX2_drained_2 : decode cX2_drained 2 = .ok (.getfield 32, 3) := by decide +kernel
theorem dX2_drained_5 : decode cX2_drained 5 = .ok (.iconst 1, 1) := by decide +kernel
theorem dX2_drained_6 : decode cX2_drained 6 = .ok (.iaload, 1) := by decide +kernel
theorem dX2_drained_7 : decode cX2_drained 7 = .ok (.invokevirtual 114, 3) := by decide +kernel
theorem dX2_drained_10 : decode cX2_drained 10 = .ok (.ireturn, 1) := by decide +kernel
theorem dX2_wet_0 : decode cX2_wet 0 = .ok (.iconst 0, 1) := by decide +kernel
theorem dX2_wet_1 : decode cX2_wet 1 = .ok (.istore_n 1, 1) := by decide +kernel
theorem dX2_wet_2 : decode cX2_wet 2 = .ok (.iconst 0, 1) := by decide +kernel
theorem dX2_wet_3 : decode cX2_wet 3 = .ok (.istore_n 2, 1) := by decide +kernel
theorem dX2_wet_4 : decode cX2_wet 4 = .ok (.iload_n 2, 1) := by decide +kernel
theorem dX2_wet_5 : decode cX2_wet 5 = .ok (.aload_n 0, 1) := by decide +kernel
theorem dX2_wet_6 : decode cX2_wet 6 = .ok (.getfield 45, 3) := by decide +kernel
theorem dX2_wet_9 : decode cX2_wet 9 = .ok (.if_icmp .ge 26, 3) := by decide +kernel
theorem dX2_wet_12 : decode cX2_wet 12 = .ok (.iload_n 1, 1) := by decide +kernel
theorem dX2_wet_13 : decode cX2_wet 13 = .ok (.aload_n 0, 1) := by decide +kernel
theorem dX2_wet_14 : decode cX2_wet 14 = .ok (.iload_n 2, 1) := by decide +kernel
theorem dX2_wet_15 : decode cX2_wet 15 = .ok (.invokevirtual 61, 3) := by decide +kernel
theorem dX2_wet_18 : decode cX2_wet 18 = .ok (.iconst 4, 1) := by decide +kernel
theorem dX2_wet_19 : decode cX2_wet 19 = .ok (.if_icmp .lt 7, 3) := by decide +kernel
theorem dX2_wet_22 : decode cX2_wet 22 = .ok (.iconst 1, 1) := by decide +kernel
theorem dX2_wet_23 : decode cX2_wet 23 = .ok (.goto 4, 3) := by decide +kernel
theorem dX2_wet_26 : decode cX2_wet 26 = .ok (.iconst 0, 1) := by decide +kernel
theorem dX2_wet_27 : decode cX2_wet 27 = .ok (.iadd, 1) := by decide +kernel
theorem dX2_wet_28 : decode cX2_wet 28 = .ok (.istore_n 1, 1) := by decide +kernel
theorem dX2_wet_29 : decode cX2_wet 29 = .ok (.iinc 2 1, 3) := by decide +kernel
theorem dX2_wet_32 : decode cX2_wet 32 = .ok (.goto (-28), 3) := by decide +kernel
theorem dX2_wet_35 : decode cX2_wet 35 = .ok (.iload_n 1, 1) := by decide +kernel
theorem dX2_wet_36 : decode cX2_wet 36 = .ok (.ireturn, 1) := by decide +kernel
theorem dX2_wetFields_0 : decode cX2_wetFields 0 = .ok (.aload_n 0, 1) := by decide +kernel
theorem dX2_wetFields_1 : decode cX2_wetFields 1 = .ok (.aload_n 0, 1) := by decide +kernel
theorem dX2_wetFields_2 : decode cX2_wetFields 2 = .ok (.invokevirtual 120, 3) := by decide +kernel
theorem dX2_wetFields_5 : decode cX2_wetFields 5 = .ok (.invokevirtual 114, 3) := by decide +kernel
theorem dX2_wetFields_8 : decode cX2_wetFields 8 = .ok (.ireturn, 1) := by decide +kernel
theorem dX2_ruinedFields_0 : decode cX2_ruinedFields 0 = .ok (.aload_n 0, 1) := by decide +kernel
theorem dX2_ruinedFields_1 : decode cX2_ruinedFields 1 = .ok (.aload_n 0, 1) := by decide +kernel
theorem dX2_ruinedFields_2 : decode cX2_ruinedFields 2 = .ok (.invokevirtual 107, 3) := by decide +kernel
theorem dX2_ruinedFields_5 : decode cX2_ruinedFields 5 = .ok (.invokevirtual 114, 3) := by decide +kernel
theorem dX2_ruinedFields_8 : decode cX2_ruinedFields 8 = .ok (.ireturn, 1) := by decide +kernel
theorem dX2_loss_0 : decode cX2_loss 0 = .ok (.aload_n 0, 1) := by decide +kernel
theorem dX2_loss_1 : decode cX2_loss 1 = .ok (.aload_n 0, 1) := by decide +kernel
theorem dX2_loss_2 : decode cX2_loss 2 = .ok (.invokevirtual 123, 3) := by decide +kernel
theorem dX2_loss_5 : decode cX2_loss 5 = .ok (.invokevirtual 114, 3) := by decide +kernel
theorem dX2_loss_8 : decode cX2_loss 8 = .ok (.ireturn, 1) := by decide +kernel
theorem dX2_of_0 : decode cX2_of 0 = .ok (.aload_n 0, 1) := by decide +kernel
theorem dX2_of_1 : decode cX2_of 1 = .ok (.iconst 0, 1) := by decide +kernel
theorem dX2_of_2 : decode cX2_of 2 = .ok (.putfield 41, 3) := by decide +kernel
theorem dX2_of_5 : decode cX2_of 5 = .ok (.aload_n 0, 1) := by decide +kernel
theorem dX2_of_6 : decode cX2_of 6 = .ok (.iload_n 1, 1) := by decide +kernel
theorem dX2_of_7 : decode cX2_of 7 = .ok (.invokevirtual 93, 3) := by decide +kernel
theorem dX2_of_10 : decode cX2_of 10 = .ok (.ifCond .eq 14, 3) := by decide +kernel
theorem dX2_of_13 : decode cX2_of 13 = .ok (.aload_n 0, 1) := by decide +kernel
theorem dX2_of_14 : decode cX2_of 14 = .ok (.getfield 32, 3) := by decide +kernel
theorem dX2_of_17 : decode cX2_of 17 = .ok (.iload_n 2, 1) := by decide +kernel
theorem dX2_of_18 : decode cX2_of 18 = .ok (.iload_n 1, 1) := by decide +kernel
theorem dX2_of_19 : decode cX2_of 19 = .ok (.iadd, 1) := by decide +kernel
theorem dX2_of_20 : decode cX2_of 20 = .ok (.iaload, 1) := by decide +kernel
theorem dX2_of_21 : decode cX2_of 21 = .ok (.goto 8, 3) := by decide +kernel
theorem dX2_of_24 : decode cX2_of 24 = .ok (.aload_n 0, 1) := by decide +kernel
theorem dX2_of_25 : decode cX2_of 25 = .ok (.iconst 1, 1) := by decide +kernel
theorem dX2_of_26 : decode cX2_of 26 = .ok (.invokevirtual 90, 3) := by decide +kernel
theorem dX2_of_29 : decode cX2_of 29 = .ok (.ireturn, 1) := by decide +kernel
theorem dX2_waterOn_0 : decode cX2_waterOn 0 = .ok (.aload_n 0, 1) := by decide +kernel
theorem dX2_waterOn_1 : decode cX2_waterOn 1 = .ok (.iload_n 1, 1) := by decide +kernel
theorem dX2_waterOn_2 : decode cX2_waterOn 2 = .ok (.iconst 2, 1) := by decide +kernel
theorem dX2_waterOn_3 : decode cX2_waterOn 3 = .ok (.invokevirtual 126, 3) := by decide +kernel
theorem dX2_waterOn_6 : decode cX2_waterOn 6 = .ok (.ireturn, 1) := by decide +kernel
theorem dX2_levelOf_0 : decode cX2_levelOf 0 = .ok (.aload_n 0, 1) := by decide +kernel
theorem dX2_levelOf_1 : decode cX2_levelOf 1 = .ok (.iconst 0, 1) := by decide +kernel
theorem dX2_levelOf_2 : decode cX2_levelOf 2 = .ok (.putfield 41, 3) := by decide +kernel
theorem dX2_levelOf_5 : decode cX2_levelOf 5 = .ok (.aload_n 0, 1) := by decide +kernel
theorem dX2_levelOf_6 : decode cX2_levelOf 6 = .ok (.iload_n 1, 1) := by decide +kernel
theorem dX2_levelOf_7 : decode cX2_levelOf 7 = .ok (.invokevirtual 93, 3) := by decide +kernel
theorem dX2_levelOf_10 : decode cX2_levelOf 10 = .ok (.ifCond .eq 11, 3) := by decide +kernel
theorem dX2_levelOf_13 : decode cX2_levelOf 13 = .ok (.aload_n 0, 1) := by decide +kernel
theorem dX2_levelOf_14 : decode cX2_levelOf 14 = .ok (.iload_n 1, 1) := by decide +kernel
theorem dX2_levelOf_15 : decode cX2_levelOf 15 = .ok (.invokevirtual 71, 3) := by decide +kernel
theorem dX2_levelOf_18 : decode cX2_levelOf 18 = .ok (.goto 8, 3) := by decide +kernel
theorem dX2_levelOf_21 : decode cX2_levelOf 21 = .ok (.aload_n 0, 1) := by decide +kernel
theorem dX2_levelOf_22 : decode cX2_levelOf 22 = .ok (.iconst 1, 1) := by decide +kernel
theorem dX2_levelOf_23 : decode cX2_levelOf 23 = .ok (.invokevirtual 90, 3) := by decide +kernel
theorem dX2_levelOf_26 : decode cX2_levelOf 26 = .ok (.ireturn, 1) := by decide +kernel
theorem dX2_wetFor_0 : decode cX2_wetFor 0 = .ok (.aload_n 0, 1) := by decide +kernel
theorem dX2_wetFor_1 : decode cX2_wetFor 1 = .ok (.iload_n 1, 1) := by decide +kernel
theorem dX2_wetFor_2 : decode cX2_wetFor 2 = .ok (.bipush 12, 2) := by decide +kernel
theorem dX2_wetFor_4 : decode cX2_wetFor 4 = .ok (.invokevirtual 126, 3) := by decide +kernel
theorem dX2_wetFor_7 : decode cX2_wetFor 7 = .ok (.ireturn, 1) := by decide +kernel
theorem dX2_isRuined_0 : decode cX2_isRuined 0 = .ok (.aload_n 0, 1) := by decide +kernel
theorem dX2_isRuined_1 : decode cX2_isRuined 1 = .ok (.iconst 0, 1) := by decide +kernel
theorem dX2_isRuined_2 : decode cX2_isRuined 2 = .ok (.putfield 41, 3) := by decide +kernel
theorem dX2_isRuined_5 : decode cX2_isRuined 5 = .ok (.aload_n 0, 1) := by decide +kernel
theorem dX2_isRuined_6 : decode cX2_isRuined 6 = .ok (.iload_n 1, 1) := by decide +kernel
theorem dX2_isRuined_7 : decode cX2_isRuined 7 = .ok (.invokevirtual 93, 3) := by decide +kernel
theorem dX2_isRuined_10 : decode cX2_isRuined 10 = .ok (.ifCond .eq 24, 3) := by decide +kernel
theorem dX2_isRuined_13 : decode cX2_isRuined 13 = .ok (.aload_n 0, 1) := by decide +kernel
theorem dX2_isRuined_14 : decode cX2_isRuined 14 = .ok (.getfield 32, 3) := by decide +kernel
theorem dX2_isRuined_17 : decode cX2_isRuined 17 = .ok (.bipush 22, 2) := by decide +kernel
theorem dX2_isRuined_19 : decode cX2_isRuined 19 = .ok (.iload_n 1, 1) := by decide +kernel
theorem dX2_isRuined_20 : decode cX2_isRuined 20 = .ok (.iadd, 1) := by decide +kernel
theorem dX2_isRuined_21 : decode cX2_isRuined 21 = .ok (.iaload, 1) := by decide +kernel
theorem dX2_isRuined_22 : decode cX2_isRuined 22 = .ok (.iconst 1, 1) := by decide +kernel
theorem dX2_isRuined_23 : decode cX2_isRuined 23 = .ok (.if_icmp .ne 7, 3) := by decide +kernel
theorem dX2_isRuined_26 : decode cX2_isRuined 26 = .ok (.iconst 1, 1) := by decide +kernel
theorem dX2_isRuined_27 : decode cX2_isRuined 27 = .ok (.goto 12, 3) := by decide +kernel
theorem dX2_isRuined_30 : decode cX2_isRuined 30 = .ok (.iconst 0, 1) := by decide +kernel
theorem dX2_isRuined_31 : decode cX2_isRuined 31 = .ok (.goto 8, 3) := by decide +kernel
theorem dX2_isRuined_34 : decode cX2_isRuined 34 = .ok (.aload_n 0, 1) := by decide +kernel
theorem dX2_isRuined_35 : decode cX2_isRuined 35 = .ok (.iconst 1, 1) := by decide +kernel
theorem dX2_isRuined_36 : decode cX2_isRuined 36 = .ok (.invokevirtual 104, 3) := by decide +kernel
theorem dX2_isRuined_39 : decode cX2_isRuined 39 = .ok (.ireturn, 1) := by decide +kernel
theorem dX2_openAt_0 : decode cX2_openAt 0 = .ok (.iconst 0, 1) := by decide +kernel
theorem dX2_openAt_1 : decode cX2_openAt 1 = .ok (.istore_n 2, 1) := by decide +kernel
theorem dX2_openAt_2 : decode cX2_openAt 2 = .ok (.iconst 0, 1) := by decide +kernel
theorem dX2_openAt_3 : decode cX2_openAt 3 = .ok (.istore_n 3, 1) := by decide +kernel
theorem dX2_openAt_4 : decode cX2_openAt 4 = .ok (.iload_n 3, 1) := by decide +kernel
theorem dX2_openAt_5 : decode cX2_openAt 5 = .ok (.aload_n 0, 1) := by decide +kernel
theorem dX2_openAt_6 : decode cX2_openAt 6 = .ok (.getfield 52, 3) := by decide +kernel
theorem dX2_openAt_9 : decode cX2_openAt 9 = .ok (.if_icmp .ge 46, 3) := by decide +kernel
theorem dX2_openAt_12 : decode cX2_openAt 12 = .ok (.iload_n 2, 1) := by decide +kernel
theorem dX2_openAt_13 : decode cX2_openAt 13 = .ok (.aload_n 0, 1) := by decide +kernel
theorem dX2_openAt_14 : decode cX2_openAt 14 = .ok (.getfield 29, 3) := by decide +kernel
theorem dX2_openAt_17 : decode cX2_openAt 17 = .ok (.iload_n 3, 1) := by decide +kernel
theorem dX2_openAt_18 : decode cX2_openAt 18 = .ok (.baload, 1) := by decide +kernel
theorem dX2_openAt_19 : decode cX2_openAt 19 = .ok (.ifCond .eq 27, 3) := by decide +kernel
theorem dX2_openAt_22 : decode cX2_openAt 22 = .ok (.aload_n 0, 1) := by decide +kernel
theorem dX2_openAt_23 : decode cX2_openAt 23 = .ok (.getfield 16, 3) := by decide +kernel
theorem dX2_openAt_26 : decode cX2_openAt 26 = .ok (.iload_n 3, 1) := by decide +kernel
theorem dX2_openAt_27 : decode cX2_openAt 27 = .ok (.iaload, 1) := by decide +kernel
theorem dX2_openAt_28 : decode cX2_openAt 28 = .ok (.iload_n 1, 1) := by decide +kernel
theorem dX2_openAt_29 : decode cX2_openAt 29 = .ok (.if_icmp .eq 13, 3) := by decide +kernel
theorem dX2_openAt_32 : decode cX2_openAt 32 = .ok (.aload_n 0, 1) := by decide +kernel
theorem dX2_openAt_33 : decode cX2_openAt 33 = .ok (.getfield 19, 3) := by decide +kernel
theorem dX2_openAt_36 : decode cX2_openAt 36 = .ok (.iload_n 3, 1) := by decide +kernel
theorem dX2_openAt_37 : decode cX2_openAt 37 = .ok (.iaload, 1) := by decide +kernel
theorem dX2_openAt_38 : decode cX2_openAt 38 = .ok (.iload_n 1, 1) := by decide +kernel
theorem dX2_openAt_39 : decode cX2_openAt 39 = .ok (.if_icmp .ne 7, 3) := by decide +kernel
theorem dX2_openAt_42 : decode cX2_openAt 42 = .ok (.iconst 1, 1) := by decide +kernel
theorem dX2_openAt_43 : decode cX2_openAt 43 = .ok (.goto 4, 3) := by decide +kernel
theorem dX2_openAt_46 : decode cX2_openAt 46 = .ok (.iconst 0, 1) := by decide +kernel
theorem dX2_openAt_47 : decode cX2_openAt 47 = .ok (.iadd, 1) := by decide +kernel
theorem dX2_openAt_48 : decode cX2_openAt 48 = .ok (.istore_n 2, 1) := by decide +kernel
theorem dX2_openAt_49 : decode cX2_openAt 49 = .ok (.iinc 3 1, 3) := by decide +kernel
theorem dX2_openAt_52 : decode cX2_openAt 52 = .ok (.goto (-48), 3) := by decide +kernel
theorem dX2_openAt_55 : decode cX2_openAt 55 = .ok (.iload_n 2, 1) := by decide +kernel
theorem dX2_openAt_56 : decode cX2_openAt 56 = .ok (.ireturn, 1) := by decide +kernel
theorem dX2_drainsAt_0 : decode cX2_drainsAt 0 = .ok (.aload_n 0, 1) := by decide +kernel
theorem dX2_drainsAt_1 : decode cX2_drainsAt 1 = .ok (.iconst 0, 1) := by decide +kernel
theorem dX2_drainsAt_2 : decode cX2_drainsAt 2 = .ok (.putfield 41, 3) := by decide +kernel
theorem dX2_drainsAt_5 : decode cX2_drainsAt 5 = .ok (.aload_n 0, 1) := by decide +kernel
theorem dX2_drainsAt_6 : decode cX2_drainsAt 6 = .ok (.iload_n 1, 1) := by decide +kernel
theorem dX2_drainsAt_7 : decode cX2_drainsAt 7 = .ok (.invokevirtual 93, 3) := by decide +kernel
theorem dX2_drainsAt_10 : decode cX2_drainsAt 10 = .ok (.ifCond .eq 11, 3) := by decide +kernel
theorem dX2_drainsAt_13 : decode cX2_drainsAt 13 = .ok (.aload_n 0, 1) := by decide +kernel
theorem dX2_drainsAt_14 : decode cX2_drainsAt 14 = .ok (.iload_n 1, 1) := by decide +kernel
theorem dX2_drainsAt_15 : decode cX2_drainsAt 15 = .ok (.invokevirtual 129, 3) := by decide +kernel
theorem dX2_drainsAt_18 : decode cX2_drainsAt 18 = .ok (.goto 8, 3) := by decide +kernel
theorem dX2_drainsAt_21 : decode cX2_drainsAt 21 = .ok (.aload_n 0, 1) := by decide +kernel
theorem dX2_drainsAt_22 : decode cX2_drainsAt 22 = .ok (.iconst 1, 1) := by decide +kernel
theorem dX2_drainsAt_23 : decode cX2_drainsAt 23 = .ok (.invokevirtual 90, 3) := by decide +kernel
theorem dX2_drainsAt_26 : decode cX2_drainsAt 26 = .ok (.ireturn, 1) := by decide +kernel
theorem dX2_spreads_0 : decode cX2_spreads 0 = .ok (.iload_n 2, 1) := by decide +kernel
theorem dX2_spreads_1 : decode cX2_spreads 1 = .ok (.iconst (-1), 1) := by decide +kernel
theorem dX2_spreads_2 : decode cX2_spreads 2 = .ok (.if_icmp .eq 21, 3) := by decide +kernel
theorem dX2_spreads_5 : decode cX2_spreads 5 = .ok (.aload_n 0, 1) := by decide +kernel
theorem dX2_spreads_6 : decode cX2_spreads 6 = .ok (.getfield 38, 3) := by decide +kernel
theorem dX2_spreads_9 : decode cX2_spreads 9 = .ok (.iload_n 1, 1) := by decide +kernel
theorem dX2_spreads_10 : decode cX2_spreads 10 = .ok (.baload, 1) := by decide +kernel
theorem dX2_spreads_11 : decode cX2_spreads 11 = .ok (.ifCond .eq 12, 3) := by decide +kernel
theorem dX2_spreads_14 : decode cX2_spreads 14 = .ok (.aload_n 0, 1) := by decide +kernel
theorem dX2_spreads_15 : decode cX2_spreads 15 = .ok (.getfield 38, 3) := by decide +kernel
theorem dX2_spreads_18 : decode cX2_spreads 18 = .ok (.iload_n 2, 1) := by decide +kernel
theorem dX2_spreads_19 : decode cX2_spreads 19 = .ok (.baload, 1) := by decide +kernel
theorem dX2_spreads_20 : decode cX2_spreads 20 = .ok (.ifCond .eq 5, 3) := by decide +kernel
theorem dX2_spreads_23 : decode cX2_spreads 23 = .ok (.iconst 0, 1) := by decide +kernel
theorem dX2_spreads_24 : decode cX2_spreads 24 = .ok (.ireturn, 1) := by decide +kernel
theorem dX2_spreads_25 : decode cX2_spreads 25 = .ok (.aload_n 0, 1) := by decide +kernel
theorem dX2_spreads_26 : decode cX2_spreads 26 = .ok (.getfield 38, 3) := by decide +kernel
theorem dX2_spreads_29 : decode cX2_spreads 29 = .ok (.iload_n 2, 1) := by decide +kernel
theorem dX2_spreads_30 : decode cX2_spreads 30 = .ok (.iconst 1, 1) := by decide +kernel
theorem dX2_spreads_31 : decode cX2_spreads 31 = .ok (.bastore, 1) := by decide +kernel
theorem dX2_spreads_32 : decode cX2_spreads 32 = .ok (.iconst 1, 1) := by decide +kernel
theorem dX2_spreads_33 : decode cX2_spreads 33 = .ok (.ireturn, 1) := by decide +kernel
theorem dX2_spread_0 : decode cX2_spread 0 = .ok (.iconst 0, 1) := by decide +kernel
theorem dX2_spread_1 : decode cX2_spread 1 = .ok (.istore_n 2, 1) := by decide +kernel
theorem dX2_spread_2 : decode cX2_spread 2 = .ok (.iload_n 2, 1) := by decide +kernel
theorem dX2_spread_3 : decode cX2_spread 3 = .ok (.aload_n 0, 1) := by decide +kernel
theorem dX2_spread_4 : decode cX2_spread 4 = .ok (.getfield 45, 3) := by decide +kernel
theorem dX2_spread_7 : decode cX2_spread 7 = .ok (.if_icmp .ge 25, 3) := by decide +kernel
theorem dX2_spread_10 : decode cX2_spread 10 = .ok (.aload_n 0, 1) := by decide +kernel
theorem dX2_spread_11 : decode cX2_spread 11 = .ok (.getfield 38, 3) := by decide +kernel
theorem dX2_spread_14 : decode cX2_spread 14 = .ok (.iload_n 2, 1) := by decide +kernel
theorem dX2_spread_15 : decode cX2_spread 15 = .ok (.iload_n 2, 1) := by decide +kernel
theorem dX2_spread_16 : decode cX2_spread 16 = .ok (.iload_n 1, 1) := by decide +kernel
theorem dX2_spread_17 : decode cX2_spread 17 = .ok (.if_icmp .ne 7, 3) := by decide +kernel
theorem dX2_spread_20 : decode cX2_spread 20 = .ok (.iconst 1, 1) := by decide +kernel
theorem dX2_spread_21 : decode cX2_spread 21 = .ok (.goto 4, 3) := by decide +kernel
theorem dX2_spread_24 : decode cX2_spread 24 = .ok (.iconst 0, 1) := by decide +kernel
theorem dX2_spread_25 : decode cX2_spread 25 = .ok (.bastore, 1) := by decide +kernel
theorem dX2_spread_26 : decode cX2_spread 26 = .ok (.iinc 2 1, 3) := by decide +kernel
theorem dX2_spread_29 : decode cX2_spread 29 = .ok (.goto (-27), 3) := by decide +kernel
theorem dX2_spread_32 : decode cX2_spread 32 = .ok (.iconst 1, 1) := by decide +kernel
theorem dX2_spread_33 : decode cX2_spread 33 = .ok (.istore_n 2, 1) := by decide +kernel
theorem dX2_spread_34 : decode cX2_spread 34 = .ok (.iload_n 2, 1) := by decide +kernel
theorem dX2_spread_35 : decode cX2_spread 35 = .ok (.ifCond .eq 83, 3) := by decide +kernel
theorem dX2_spread_38 : decode cX2_spread 38 = .ok (.iconst 0, 1) := by decide +kernel
theorem dX2_spread_39 : decode cX2_spread 39 = .ok (.istore_n 2, 1) := by decide +kernel
theorem dX2_spread_40 : decode cX2_spread 40 = .ok (.iconst 0, 1) := by decide +kernel
theorem dX2_spread_41 : decode cX2_spread 41 = .ok (.istore_n 3, 1) := by decide +kernel
theorem dX2_spread_42 : decode cX2_spread 42 = .ok (.iload_n 3, 1) := by decide +kernel
theorem dX2_spread_43 : decode cX2_spread 43 = .ok (.aload_n 0, 1) := by decide +kernel
theorem dX2_spread_44 : decode cX2_spread 44 = .ok (.getfield 52, 3) := by decide +kernel
theorem dX2_spread_47 : decode cX2_spread 47 = .ok (.if_icmp .ge 68, 3) := by decide +kernel
theorem dX2_spread_50 : decode cX2_spread 50 = .ok (.aload_n 0, 1) := by decide +kernel
theorem dX2_spread_51 : decode cX2_spread 51 = .ok (.getfield 29, 3) := by decide +kernel
theorem dX2_spread_54 : decode cX2_spread 54 = .ok (.iload_n 3, 1) := by decide +kernel
theorem dX2_spread_55 : decode cX2_spread 55 = .ok (.baload, 1) := by decide +kernel
theorem dX2_spread_56 : decode cX2_spread 56 = .ok (.ifCond .ne 6, 3) := by decide +kernel
theorem dX2_spread_59 : decode cX2_spread 59 = .ok (.goto 50, 3) := by decide +kernel
theorem dX2_spread_62 : decode cX2_spread 62 = .ok (.iload_n 2, 1) := by decide +kernel
theorem dX2_spread_63 : decode cX2_spread 63 = .ok (.aload_n 0, 1) := by decide +kernel
theorem dX2_spread_64 : decode cX2_spread 64 = .ok (.aload_n 0, 1) := by decide +kernel
theorem dX2_spread_65 : decode cX2_spread 65 = .ok (.getfield 16, 3) := by decide +kernel
theorem dX2_spread_68 : decode cX2_spread 68 = .ok (.iload_n 3, 1) := by decide +kernel
theorem dX2_spread_69 : decode cX2_spread 69 = .ok (.iaload, 1) := by decide +kernel
theorem dX2_spread_70 : decode cX2_spread 70 = .ok (.aload_n 0, 1) := by decide +kernel
theorem dX2_spread_71 : decode cX2_spread 71 = .ok (.getfield 19, 3) := by decide +kernel
theorem dX2_spread_74 : decode cX2_spread 74 = .ok (.iload_n 3, 1) := by decide +kernel
theorem dX2_spread_75 : decode cX2_spread 75 = .ok (.iaload, 1) := by decide +kernel
theorem dX2_spread_76 : decode cX2_spread 76 = .ok (.invokevirtual 132, 3) := by decide +kernel
theorem dX2_spread_79 : decode cX2_spread 79 = .ok (.ior, 1) := by decide +kernel
theorem dX2_spread_80 : decode cX2_spread 80 = .ok (.istore_n 2, 1) := by decide +kernel
theorem dX2_spread_81 : decode cX2_spread 81 = .ok (.aload_n 0, 1) := by decide +kernel
theorem dX2_spread_82 : decode cX2_spread 82 = .ok (.getfield 25, 3) := by decide +kernel
theorem dX2_spread_85 : decode cX2_spread 85 = .ok (.iload_n 3, 1) := by decide +kernel
theorem dX2_spread_86 : decode cX2_spread 86 = .ok (.baload, 1) := by decide +kernel
theorem dX2_spread_87 : decode cX2_spread 87 = .ok (.ifCond .ne 22, 3) := by decide +kernel
theorem dX2_spread_90 : decode cX2_spread 90 = .ok (.iload_n 2, 1) := by decide +kernel
theorem dX2_spread_91 : decode cX2_spread 91 = .ok (.aload_n 0, 1) := by decide +kernel
theorem dX2_spread_92 : decode cX2_spread 92 = .ok (.aload_n 0, 1) := by decide +kernel
theorem dX2_spread_93 : decode cX2_spread 93 = .ok (.getfield 19, 3) := by decide +kernel
theorem dX2_spread_96 : decode cX2_spread 96 = .ok (.iload_n 3, 1) := by decide +kernel
theorem dX2_spread_97 : decode cX2_spread 97 = .ok (.iaload, 1) := by decide +kernel
theorem dX2_spread_98 : decode cX2_spread 98 = .ok (.aload_n 0, 1) := by decide +kernel
theorem dX2_spread_99 : decode cX2_spread 99 = .ok (.getfield 16, 3) := by decide +kernel
theorem dX2_spread_102 : decode cX2_spread 102 = .ok (.iload_n 3, 1) := by decide +kernel
theorem dX2_spread_103 : decode cX2_spread 103 = .ok (.iaload, 1) := by decide +kernel
theorem dX2_spread_104 : decode cX2_spread 104 = .ok (.invokevirtual 132, 3) := by decide +kernel
theorem dX2_spread_107 : decode cX2_spread 107 = .ok (.ior, 1) := by decide +kernel
theorem dX2_spread_108 : decode cX2_spread 108 = .ok (.istore_n 2, 1) := by decide +kernel
theorem dX2_spread_109 : decode cX2_spread 109 = .ok (.iinc 3 1, 3) := by decide +kernel
theorem dX2_spread_112 : decode cX2_spread 112 = .ok (.goto (-70), 3) := by decide +kernel
theorem dX2_spread_115 : decode cX2_spread 115 = .ok (.goto (-81), 3) := by decide +kernel
theorem dX2_spread_118 : decode cX2_spread 118 = .ok (.iconst 0, 1) := by decide +kernel
theorem dX2_spread_119 : decode cX2_spread 119 = .ok (.istore_n 3, 1) := by decide +kernel
theorem dX2_spread_120 : decode cX2_spread 120 = .ok (.iconst 0, 1) := by decide +kernel
theorem dX2_spread_121 : decode cX2_spread 121 = .ok (.istore 4, 2) := by decide +kernel
theorem dX2_spread_123 : decode cX2_spread 123 = .ok (.iload 4, 2) := by decide +kernel
theorem dX2_spread_125 : decode cX2_spread 125 = .ok (.aload_n 0, 1) := by decide +kernel
theorem dX2_spread_126 : decode cX2_spread 126 = .ok (.getfield 45, 3) := by decide +kernel
theorem dX2_spread_129 : decode cX2_spread 129 = .ok (.if_icmp .ge 27, 3) := by decide +kernel
theorem dX2_spread_132 : decode cX2_spread 132 = .ok (.iload_n 3, 1) := by decide +kernel
theorem dX2_spread_133 : decode cX2_spread 133 = .ok (.aload_n 0, 1) := by decide +kernel
theorem dX2_spread_134 : decode cX2_spread 134 = .ok (.getfield 38, 3) := by decide +kernel
theorem dX2_spread_137 : decode cX2_spread 137 = .ok (.iload 4, 2) := by decide +kernel
theorem dX2_spread_139 : decode cX2_spread 139 = .ok (.baload, 1) := by decide +kernel
theorem dX2_spread_140 : decode cX2_spread 140 = .ok (.ifCond .eq 7, 3) := by decide +kernel
theorem dX2_spread_143 : decode cX2_spread 143 = .ok (.iconst 1, 1) := by decide +kernel
theorem dX2_spread_144 : decode cX2_spread 144 = .ok (.goto 4, 3) := by decide +kernel
theorem dX2_spread_147 : decode cX2_spread 147 = .ok (.iconst 0, 1) := by decide +kernel
theorem dX2_spread_148 : decode cX2_spread 148 = .ok (.iadd, 1) := by decide +kernel
theorem dX2_spread_149 : decode cX2_spread 149 = .ok (.istore_n 3, 1) := by decide +kernel
theorem dX2_spread_150 : decode cX2_spread 150 = .ok (.iinc 4 1, 3) := by decide +kernel
theorem dX2_spread_153 : decode cX2_spread 153 = .ok (.goto (-30), 3) := by decide +kernel
theorem dX2_spread_156 : decode cX2_spread 156 = .ok (.iload_n 3, 1) := by decide +kernel
theorem dX2_spread_157 : decode cX2_spread 157 = .ok (.iconst 1, 1) := by decide +kernel
theorem dX2_spread_158 : decode cX2_spread 158 = .ok (.isub, 1) := by decide +kernel
theorem dX2_spread_159 : decode cX2_spread 159 = .ok (.ireturn, 1) := by decide +kernel
theorem dX2_reaches_0 : decode cX2_reaches 0 = .ok (.aload_n 0, 1) := by decide +kernel
theorem dX2_reaches_1 : decode cX2_reaches 1 = .ok (.iconst 0, 1) := by decide +kernel
theorem dX2_reaches_2 : decode cX2_reaches 2 = .ok (.putfield 41, 3) := by decide +kernel
theorem dX2_reaches_5 : decode cX2_reaches 5 = .ok (.aload_n 0, 1) := by decide +kernel
theorem dX2_reaches_6 : decode cX2_reaches 6 = .ok (.iload_n 1, 1) := by decide +kernel
theorem dX2_reaches_7 : decode cX2_reaches 7 = .ok (.invokevirtual 93, 3) := by decide +kernel
theorem dX2_reaches_10 : decode cX2_reaches 10 = .ok (.ifCond .eq 11, 3) := by decide +kernel
theorem dX2_reaches_13 : decode cX2_reaches 13 = .ok (.aload_n 0, 1) := by decide +kernel
theorem dX2_reaches_14 : decode cX2_reaches 14 = .ok (.iload_n 1, 1) := by decide +kernel
theorem dX2_reaches_15 : decode cX2_reaches 15 = .ok (.invokevirtual 136, 3) := by decide +kernel
theorem dX2_reaches_18 : decode cX2_reaches 18 = .ok (.goto 8, 3) := by decide +kernel
theorem dX2_reaches_21 : decode cX2_reaches 21 = .ok (.aload_n 0, 1) := by decide +kernel
theorem dX2_reaches_22 : decode cX2_reaches 22 = .ok (.iconst 1, 1) := by decide +kernel
theorem dX2_reaches_23 : decode cX2_reaches 23 = .ok (.invokevirtual 90, 3) := by decide +kernel
theorem dX2_reaches_26 : decode cX2_reaches 26 = .ok (.ireturn, 1) := by decide +kernel
theorem dX2_high_0 : decode cX2_high 0 = .ok (.iconst (-1), 1) := by decide +kernel
theorem dX2_high_1 : decode cX2_high 1 = .ok (.istore_n 1, 1) := by decide +kernel
theorem dX2_high_2 : decode cX2_high 2 = .ok (.iconst 0, 1) := by decide +kernel
theorem dX2_high_3 : decode cX2_high 3 = .ok (.istore_n 2, 1) := by decide +kernel
theorem dX2_high_4 : decode cX2_high 4 = .ok (.iload_n 2, 1) := by decide +kernel
theorem dX2_high_5 : decode cX2_high 5 = .ok (.aload_n 0, 1) := by decide +kernel
theorem dX2_high_6 : decode cX2_high 6 = .ok (.getfield 45, 3) := by decide +kernel
theorem dX2_high_9 : decode cX2_high 9 = .ok (.if_icmp .ge 29, 3) := by decide +kernel
theorem dX2_high_12 : decode cX2_high 12 = .ok (.iload_n 1, 1) := by decide +kernel
theorem dX2_high_13 : decode cX2_high 13 = .ok (.iconst (-1), 1) := by decide +kernel
theorem dX2_high_14 : decode cX2_high 14 = .ok (.if_icmp .eq 16, 3) := by decide +kernel
theorem dX2_high_17 : decode cX2_high 17 = .ok (.aload_n 0, 1) := by decide +kernel
theorem dX2_high_18 : decode cX2_high 18 = .ok (.iload_n 2, 1) := by decide +kernel
theorem dX2_high_19 : decode cX2_high 19 = .ok (.invokevirtual 71, 3) := by decide +kernel
theorem dX2_high_22 : decode cX2_high 22 = .ok (.aload_n 0, 1) := by decide +kernel
theorem dX2_high_23 : decode cX2_high 23 = .ok (.iload_n 1, 1) := by decide +kernel
theorem dX2_high_24 : decode cX2_high 24 = .ok (.invokevirtual 71, 3) := by decide +kernel
theorem dX2_high_27 : decode cX2_high 27 = .ok (.if_icmp .le 5, 3) := by decide +kernel
theorem dX2_high_30 : decode cX2_high 30 = .ok (.iload_n 2, 1) := by decide +kernel
theorem dX2_high_31 : decode cX2_high 31 = .ok (.istore_n 1, 1) := by decide +kernel
theorem dX2_high_32 : decode cX2_high 32 = .ok (.iinc 2 1, 3) := by decide +kernel
theorem dX2_high_35 : decode cX2_high 35 = .ok (.goto (-31), 3) := by decide +kernel
theorem dX2_high_38 : decode cX2_high 38 = .ok (.iload_n 1, 1) := by decide +kernel
theorem dX2_high_39 : decode cX2_high 39 = .ok (.ireturn, 1) := by decide +kernel
theorem dX2_highest_0 : decode cX2_highest 0 = .ok (.aload_n 0, 1) := by decide +kernel
theorem dX2_highest_1 : decode cX2_highest 1 = .ok (.aload_n 0, 1) := by decide +kernel
theorem dX2_highest_2 : decode cX2_highest 2 = .ok (.invokevirtual 139, 3) := by decide +kernel
theorem dX2_highest_5 : decode cX2_highest 5 = .ok (.invokevirtual 114, 3) := by decide +kernel
theorem dX2_highest_8 : decode cX2_highest 8 = .ok (.ireturn, 1) := by decide +kernel
theorem dX2_isPump_0 : decode cX2_isPump 0 = .ok (.aload_n 0, 1) := by decide +kernel
theorem dX2_isPump_1 : decode cX2_isPump 1 = .ok (.iconst 0, 1) := by decide +kernel
theorem dX2_isPump_2 : decode cX2_isPump 2 = .ok (.putfield 41, 3) := by decide +kernel
theorem dX2_isPump_5 : decode cX2_isPump 5 = .ok (.aload_n 0, 1) := by decide +kernel
theorem dX2_isPump_6 : decode cX2_isPump 6 = .ok (.iload_n 1, 1) := by decide +kernel
theorem dX2_isPump_7 : decode cX2_isPump 7 = .ok (.invokevirtual 101, 3) := by decide +kernel
theorem dX2_isPump_10 : decode cX2_isPump 10 = .ok (.ifCond .eq 12, 3) := by decide +kernel
theorem dX2_isPump_13 : decode cX2_isPump 13 = .ok (.aload_n 0, 1) := by decide +kernel
theorem dX2_isPump_14 : decode cX2_isPump 14 = .ok (.getfield 25, 3) := by decide +kernel
theorem dX2_isPump_17 : decode cX2_isPump 17 = .ok (.iload_n 1, 1) := by decide +kernel
theorem dX2_isPump_18 : decode cX2_isPump 18 = .ok (.baload, 1) := by decide +kernel
theorem dX2_isPump_19 : decode cX2_isPump 19 = .ok (.goto 8, 3) := by decide +kernel
theorem dX2_isPump_22 : decode cX2_isPump 22 = .ok (.aload_n 0, 1) := by decide +kernel
theorem dX2_isPump_23 : decode cX2_isPump 23 = .ok (.iconst 1, 1) := by decide +kernel
theorem dX2_isPump_24 : decode cX2_isPump 24 = .ok (.invokevirtual 104, 3) := by decide +kernel
theorem dX2_isPump_27 : decode cX2_isPump 27 = .ok (.ireturn, 1) := by decide +kernel
theorem dX2_isOpen_0 : decode cX2_isOpen 0 = .ok (.aload_n 0, 1) := by decide +kernel
theorem dX2_isOpen_1 : decode cX2_isOpen 1 = .ok (.iconst 0, 1) := by decide +kernel
theorem dX2_isOpen_2 : decode cX2_isOpen 2 = .ok (.putfield 41, 3) := by decide +kernel
theorem dX2_isOpen_5 : decode cX2_isOpen 5 = .ok (.aload_n 0, 1) := by decide +kernel
theorem dX2_isOpen_6 : decode cX2_isOpen 6 = .ok (.iload_n 1, 1) := by decide +kernel
theorem dX2_isOpen_7 : decode cX2_isOpen 7 = .ok (.invokevirtual 101, 3) := by decide +kernel
theorem dX2_isOpen_10 : decode cX2_isOpen 10 = .ok (.ifCond .eq 12, 3) := by decide +kernel
theorem dX2_isOpen_13 : decode cX2_isOpen 13 = .ok (.aload_n 0, 1) := by decide +kernel
theorem dX2_isOpen_14 : decode cX2_isOpen 14 = .ok (.getfield 29, 3) := by decide +kernel
theorem dX2_isOpen_17 : decode cX2_isOpen 17 = .ok (.iload_n 1, 1) := by decide +kernel
theorem dX2_isOpen_18 : decode cX2_isOpen 18 = .ok (.baload, 1) := by decide +kernel
theorem dX2_isOpen_19 : decode cX2_isOpen 19 = .ok (.goto 8, 3) := by decide +kernel
theorem dX2_isOpen_22 : decode cX2_isOpen 22 = .ok (.aload_n 0, 1) := by decide +kernel
theorem dX2_isOpen_23 : decode cX2_isOpen 23 = .ok (.iconst 1, 1) := by decide +kernel
theorem dX2_isOpen_24 : decode cX2_isOpen 24 = .ok (.invokevirtual 104, 3) := by decide +kernel
theorem dX2_isOpen_27 : decode cX2_isOpen 27 = .ok (.ireturn, 1) := by decide +kernel
theorem dX2_carriedBy_0 : decode cX2_carriedBy 0 = .ok (.aload_n 0, 1) := by decide +kernel
theorem dX2_carriedBy_1 : decode cX2_carriedBy 1 = .ok (.iconst 0, 1) := by decide +kernel
theorem dX2_carriedBy_2 : decode cX2_carriedBy 2 = .ok (.putfield 41, 3) := by decide +kernel
theorem dX2_carriedBy_5 : decode cX2_carriedBy 5 = .ok (.aload_n 0, 1) := by decide +kernel
theorem dX2_carriedBy_6 : decode cX2_carriedBy 6 = .ok (.iload_n 1, 1) := by decide +kernel
theorem dX2_carriedBy_7 : decode cX2_carriedBy 7 = .ok (.invokevirtual 101, 3) := by decide +kernel
theorem dX2_carriedBy_10 : decode cX2_carriedBy 10 = .ok (.ifCond .eq 15, 3) := by decide +kernel
theorem dX2_carriedBy_13 : decode cX2_carriedBy 13 = .ok (.aload_n 0, 1) := by decide +kernel
theorem dX2_carriedBy_14 : decode cX2_carriedBy 14 = .ok (.getfield 32, 3) := by decide +kernel
theorem dX2_carriedBy_17 : decode cX2_carriedBy 17 = .ok (.bipush 32, 2) := by decide +kernel
theorem dX2_carriedBy_19 : decode cX2_carriedBy 19 = .ok (.iload_n 1, 1) := by decide +kernel
theorem dX2_carriedBy_20 : decode cX2_carriedBy 20 = .ok (.iadd, 1) := by decide +kernel
theorem dX2_carriedBy_21 : decode cX2_carriedBy 21 = .ok (.iaload, 1) := by decide +kernel
theorem dX2_carriedBy_22 : decode cX2_carriedBy 22 = .ok (.goto 8, 3) := by decide +kernel
theorem dX2_carriedBy_25 : decode cX2_carriedBy 25 = .ok (.aload_n 0, 1) := by decide +kernel
theorem dX2_carriedBy_26 : decode cX2_carriedBy 26 = .ok (.iconst 1, 1) := by decide +kernel
theorem dX2_carriedBy_27 : decode cX2_carriedBy 27 = .ok (.invokevirtual 90, 3) := by decide +kernel
theorem dX2_carriedBy_30 : decode cX2_carriedBy 30 = .ok (.ireturn, 1) := by decide +kernel
theorem dX2_wouldCarry_0 : decode cX2_wouldCarry 0 = .ok (.aload_n 0, 1) := by decide +kernel
theorem dX2_wouldCarry_1 : decode cX2_wouldCarry 1 = .ok (.iconst 0, 1) := by decide +kernel
theorem dX2_wouldCarry_2 : decode cX2_wouldCarry 2 = .ok (.putfield 41, 3) := by decide +kernel
theorem dX2_wouldCarry_5 : decode cX2_wouldCarry 5 = .ok (.aload_n 0, 1) := by decide +kernel
theorem dX2_wouldCarry_6 : decode cX2_wouldCarry 6 = .ok (.iload_n 1, 1) := by decide +kernel
theorem dX2_wouldCarry_7 : decode cX2_wouldCarry 7 = .ok (.invokevirtual 101, 3) := by decide +kernel
theorem dX2_wouldCarry_10 : decode cX2_wouldCarry 10 = .ok (.ifCond .eq 14, 3) := by decide +kernel
theorem dX2_wouldCarry_13 : decode cX2_wouldCarry 13 = .ok (.aload_n 0, 1) := by decide +kernel
theorem dX2_wouldCarry_14 : decode cX2_wouldCarry 14 = .ok (.iload_n 1, 1) := by decide +kernel
theorem dX2_wouldCarry_15 : decode cX2_wouldCarry 15 = .ok (.invokevirtual 77, 3) := by decide +kernel
theorem dX2_wouldCarry_18 : decode cX2_wouldCarry 18 = .ok (.invokestatic 74, 3) := by decide +kernel
theorem dX2_wouldCarry_21 : decode cX2_wouldCarry 21 = .ok (.goto 8, 3) := by decide +kernel
theorem dX2_wouldCarry_24 : decode cX2_wouldCarry 24 = .ok (.aload_n 0, 1) := by decide +kernel
theorem dX2_wouldCarry_25 : decode cX2_wouldCarry 25 = .ok (.iconst 1, 1) := by decide +kernel
theorem dX2_wouldCarry_26 : decode cX2_wouldCarry 26 = .ok (.invokevirtual 90, 3) := by decide +kernel
theorem dX2_wouldCarry_29 : decode cX2_wouldCarry 29 = .ok (.ireturn, 1) := by decide +kernel
theorem dX2_busy_0 : decode cX2_busy 0 = .ok (.iconst (-1), 1) := by decide +kernel
theorem dX2_busy_1 : decode cX2_busy 1 = .ok (.istore_n 1, 1) := by decide +kernel
theorem dX2_busy_2 : decode cX2_busy 2 = .ok (.iconst 0, 1) := by decide +kernel
theorem dX2_busy_3 : decode cX2_busy 3 = .ok (.istore_n 2, 1) := by decide +kernel
theorem dX2_busy_4 : decode cX2_busy 4 = .ok (.iload_n 2, 1) := by decide +kernel
theorem dX2_busy_5 : decode cX2_busy 5 = .ok (.aload_n 0, 1) := by decide +kernel
theorem dX2_busy_6 : decode cX2_busy 6 = .ok (.getfield 52, 3) := by decide +kernel
theorem dX2_busy_9 : decode cX2_busy 9 = .ok (.if_icmp .ge 37, 3) := by decide +kernel
theorem dX2_busy_12 : decode cX2_busy 12 = .ok (.iload_n 1, 1) := by decide +kernel
theorem dX2_busy_13 : decode cX2_busy 13 = .ok (.iconst (-1), 1) := by decide +kernel
theorem dX2_busy_14 : decode cX2_busy 14 = .ok (.if_icmp .eq 24, 3) := by decide +kernel
theorem dX2_busy_17 : decode cX2_busy 17 = .ok (.aload_n 0, 1) := by decide +kernel
theorem dX2_busy_18 : decode cX2_busy 18 = .ok (.getfield 32, 3) := by decide +kernel
theorem dX2_busy_21 : decode cX2_busy 21 = .ok (.bipush 32, 2) := by decide +kernel
theorem dX2_busy_23 : decode cX2_busy 23 = .ok (.iload_n 2, 1) := by decide +kernel
theorem dX2_busy_24 : decode cX2_busy 24 = .ok (.iadd, 1) := by decide +kernel
theorem dX2_busy_25 : decode cX2_busy 25 = .ok (.iaload, 1) := by decide +kernel
theorem dX2_busy_26 : decode cX2_busy 26 = .ok (.aload_n 0, 1) := by decide +kernel
theorem dX2_busy_27 : decode cX2_busy 27 = .ok (.getfield 32, 3) := by decide +kernel
theorem dX2_busy_30 : decode cX2_busy 30 = .ok (.bipush 32, 2) := by decide +kernel
theorem dX2_busy_32 : decode cX2_busy 32 = .ok (.iload_n 1, 1) := by decide +kernel
theorem dX2_busy_33 : decode cX2_busy 33 = .ok (.iadd, 1) := by decide +kernel
theorem dX2_busy_34 : decode cX2_busy 34 = .ok (.iaload, 1) := by decide +kernel
theorem dX2_busy_35 : decode cX2_busy 35 = .ok (.if_icmp .le 5, 3) := by decide +kernel
theorem dX2_busy_38 : decode cX2_busy 38 = .ok (.iload_n 2, 1) := by decide +kernel
theorem dX2_busy_39 : decode cX2_busy 39 = .ok (.istore_n 1, 1) := by decide +kernel
theorem dX2_busy_40 : decode cX2_busy 40 = .ok (.iinc 2 1, 3) := by decide +kernel
theorem dX2_busy_43 : decode cX2_busy 43 = .ok (.goto (-39), 3) := by decide +kernel
theorem dX2_busy_46 : decode cX2_busy 46 = .ok (.iload_n 1, 1) := by decide +kernel
theorem dX2_busy_47 : decode cX2_busy 47 = .ok (.ireturn, 1) := by decide +kernel
theorem dX2_busiest_0 : decode cX2_busiest 0 = .ok (.aload_n 0, 1) := by decide +kernel
theorem dX2_busiest_1 : decode cX2_busiest 1 = .ok (.aload_n 0, 1) := by decide +kernel
theorem dX2_busiest_2 : decode cX2_busiest 2 = .ok (.invokevirtual 142, 3) := by decide +kernel
theorem dX2_busiest_5 : decode cX2_busiest 5 = .ok (.invokevirtual 114, 3) := by decide +kernel
theorem dX2_busiest_8 : decode cX2_busiest 8 = .ok (.ireturn, 1) := by decide +kernel
theorem dX2_until_0 : decode cX2_until 0 = .ok (.aload_n 0, 1) := by decide +kernel
theorem dX2_until_1 : decode cX2_until 1 = .ok (.invokevirtual 145, 3) := by decide +kernel
theorem dX2_until_4 : decode cX2_until 4 = .ok (.iconst 0, 1) := by decide +kernel
theorem dX2_until_5 : decode cX2_until 5 = .ok (.istore_n 2, 1) := by decide +kernel
theorem dX2_until_6 : decode cX2_until 6 = .ok (.iload_n 2, 1) := by decide +kernel
theorem dX2_until_7 : decode cX2_until 7 = .ok (.bipush 100, 2) := by decide +kernel
theorem dX2_until_9 : decode cX2_until 9 = .ok (.if_icmp .gt 25, 3) := by decide +kernel
theorem dX2_until_12 : decode cX2_until 12 = .ok (.aload_n 0, 1) := by decide +kernel
theorem dX2_until_13 : decode cX2_until 13 = .ok (.getfield 32, 3) := by decide +kernel
theorem dX2_until_16 : decode cX2_until 16 = .ok (.bipush 22, 2) := by decide +kernel
theorem dX2_until_18 : decode cX2_until 18 = .ok (.iload_n 1, 1) := by decide +kernel
theorem dX2_until_19 : decode cX2_until 19 = .ok (.iadd, 1) := by decide +kernel
theorem dX2_until_20 : decode cX2_until 20 = .ok (.iaload, 1) := by decide +kernel
theorem dX2_until_21 : decode cX2_until 21 = .ok (.ifCond .ne 13, 3) := by decide +kernel
theorem dX2_until_24 : decode cX2_until 24 = .ok (.aload_n 0, 1) := by decide +kernel
theorem dX2_until_25 : decode cX2_until 25 = .ok (.invokevirtual 87, 3) := by decide +kernel
theorem dX2_until_28 : decode cX2_until 28 = .ok (.iinc 2 1, 3) := by decide +kernel
theorem dX2_until_31 : decode cX2_until 31 = .ok (.goto (-25), 3) := by decide +kernel
theorem dX2_until_34 : decode cX2_until 34 = .ok (.aload_n 0, 1) := by decide +kernel
theorem dX2_until_35 : decode cX2_until 35 = .ok (.invokevirtual 148, 3) := by decide +kernel
theorem dX2_until_38 : decode cX2_until 38 = .ok (.iload_n 2, 1) := by decide +kernel
theorem dX2_until_39 : decode cX2_until 39 = .ok (.bipush 100, 2) := by decide +kernel
theorem dX2_until_41 : decode cX2_until 41 = .ok (.if_icmp .le 7, 3) := by decide +kernel
theorem dX2_until_44 : decode cX2_until 44 = .ok (.iconst (-1), 1) := by decide +kernel
theorem dX2_until_45 : decode cX2_until 45 = .ok (.goto 4, 3) := by decide +kernel
theorem dX2_until_48 : decode cX2_until 48 = .ok (.iload_n 2, 1) := by decide +kernel
theorem dX2_until_49 : decode cX2_until 49 = .ok (.ireturn, 1) := by decide +kernel
theorem dX2_hoursUntilRuined_0 : decode cX2_hoursUntilRuined 0 = .ok (.aload_n 0, 1) := by decide +kernel
theorem dX2_hoursUntilRuined_1 : decode cX2_hoursUntilRuined 1 = .ok (.iconst 0, 1) := by decide +kernel
theorem dX2_hoursUntilRuined_2 : decode cX2_hoursUntilRuined 2 = .ok (.putfield 41, 3) := by decide +kernel
theorem dX2_hoursUntilRuined_5 : decode cX2_hoursUntilRuined 5 = .ok (.aload_n 0, 1) := by decide +kernel
theorem dX2_hoursUntilRuined_6 : decode cX2_hoursUntilRuined 6 = .ok (.iload_n 1, 1) := by decide +kernel
theorem dX2_hoursUntilRuined_7 : decode cX2_hoursUntilRuined 7 = .ok (.invokevirtual 93, 3) := by decide +kernel
theorem dX2_hoursUntilRuined_10 : decode cX2_hoursUntilRuined 10 = .ok (.ifCond .eq 11, 3) := by decide +kernel
theorem dX2_hoursUntilRuined_13 : decode cX2_hoursUntilRuined 13 = .ok (.aload_n 0, 1) := by decide +kernel
theorem dX2_hoursUntilRuined_14 : decode cX2_hoursUntilRuined 14 = .ok (.iload_n 1, 1) := by decide +kernel
theorem dX2_hoursUntilRuined_15 : decode cX2_hoursUntilRuined 15 = .ok (.invokevirtual 151, 3) := by decide +kernel
theorem dX2_hoursUntilRuined_18 : decode cX2_hoursUntilRuined 18 = .ok (.goto 8, 3) := by decide +kernel
theorem dX2_hoursUntilRuined_21 : decode cX2_hoursUntilRuined 21 = .ok (.aload_n 0, 1) := by decide +kernel
theorem dX2_hoursUntilRuined_22 : decode cX2_hoursUntilRuined 22 = .ok (.iconst 1, 1) := by decide +kernel
theorem dX2_hoursUntilRuined_23 : decode cX2_hoursUntilRuined 23 = .ok (.invokevirtual 90, 3) := by decide +kernel
theorem dX2_hoursUntilRuined_26 : decode cX2_hoursUntilRuined 26 = .ok (.ireturn, 1) := by decide +kernel
theorem dX2_lostBehind_0 : decode cX2_lostBehind 0 = .ok (.aload_n 0, 1) := by decide +kernel
theorem dX2_lostBehind_1 : decode cX2_lostBehind 1 = .ok (.invokevirtual 145, 3) := by decide +kernel
theorem dX2_lostBehind_4 : decode cX2_lostBehind 4 = .ok (.iload_n 2, 1) := by decide +kernel
theorem dX2_lostBehind_5 : decode cX2_lostBehind 5 = .ok (.iconst (-1), 1) := by decide +kernel
theorem dX2_lostBehind_6 : decode cX2_lostBehind 6 = .ok (.if_icmp .eq 15, 3) := by decide +kernel
theorem dX2_lostBehind_9 : decode cX2_lostBehind 9 = .ok (.aload_n 0, 1) := by decide +kernel
theorem dX2_lostBehind_10 : decode cX2_lostBehind 10 = .ok (.getfield 32, 3) := by decide +kernel
theorem dX2_lostBehind_13 : decode cX2_lostBehind 13 = .ok (.iconst 2, 1) := by decide +kernel
theorem dX2_lostBehind_14 : decode cX2_lostBehind 14 = .ok (.iload_n 2, 1) := by decide +kernel
theorem dX2_lostBehind_15 : decode cX2_lostBehind 15 = .ok (.iadd, 1) := by decide +kernel
theorem dX2_lostBehind_16 : decode cX2_lostBehind 16 = .ok (.dup2, 1) := by decide +kernel
theorem dX2_lostBehind_17 : decode cX2_lostBehind 17 = .ok (.iaload, 1) := by decide +kernel
theorem dX2_lostBehind_18 : decode cX2_lostBehind 18 = .ok (.iload_n 3, 1) := by decide +kernel
theorem dX2_lostBehind_19 : decode cX2_lostBehind 19 = .ok (.iadd, 1) := by decide +kernel
theorem dX2_lostBehind_20 : decode cX2_lostBehind 20 = .ok (.iastore, 1) := by decide +kernel
theorem dX2_lostBehind_21 : decode cX2_lostBehind 21 = .ok (.aload_n 0, 1) := by decide +kernel
theorem dX2_lostBehind_22 : decode cX2_lostBehind 22 = .ok (.iload_n 1, 1) := by decide +kernel
theorem dX2_lostBehind_23 : decode cX2_lostBehind 23 = .ok (.invokevirtual 111, 3) := by decide +kernel
theorem dX2_lostBehind_26 : decode cX2_lostBehind 26 = .ok (.aload_n 0, 1) := by decide +kernel
theorem dX2_lostBehind_27 : decode cX2_lostBehind 27 = .ok (.invokevirtual 123, 3) := by decide +kernel
theorem dX2_lostBehind_30 : decode cX2_lostBehind 30 = .ok (.istore 4, 2) := by decide +kernel
theorem dX2_lostBehind_32 : decode cX2_lostBehind 32 = .ok (.aload_n 0, 1) := by decide +kernel
theorem dX2_lostBehind_33 : decode cX2_lostBehind 33 = .ok (.invokevirtual 148, 3) := by decide +kernel
theorem dX2_lostBehind_36 : decode cX2_lostBehind 36 = .ok (.iload 4, 2) := by decide +kernel
theorem dX2_lostBehind_38 : decode cX2_lostBehind 38 = .ok (.ireturn, 1) := by decide +kernel
theorem dX2_lossIn_0 : decode cX2_lossIn 0 = .ok (.aload_n 0, 1) := by decide +kernel
theorem dX2_lossIn_1 : decode cX2_lossIn 1 = .ok (.iconst 0, 1) := by decide +kernel
theorem dX2_lossIn_2 : decode cX2_lossIn 2 = .ok (.putfield 41, 3) := by decide +kernel
theorem dX2_lossIn_5 : decode cX2_lossIn 5 = .ok (.iload_n 1, 1) := by decide +kernel
theorem dX2_lossIn_6 : decode cX2_lossIn 6 = .ok (.iconst 1, 1) := by decide +kernel
theorem dX2_lossIn_7 : decode cX2_lossIn 7 = .ok (.bipush 48, 2) := by decide +kernel
theorem dX2_lossIn_9 : decode cX2_lossIn 9 = .ok (.invokestatic 48, 3) := by decide +kernel
theorem dX2_lossIn_12 : decode cX2_lossIn 12 = .ok (.ifCond .eq 13, 3) := by decide +kernel
theorem dX2_lossIn_15 : decode cX2_lossIn 15 = .ok (.aload_n 0, 1) := by decide +kernel
theorem dX2_lossIn_16 : decode cX2_lossIn 16 = .ok (.iload_n 1, 1) := by decide +kernel
theorem dX2_lossIn_17 : decode cX2_lossIn 17 = .ok (.iconst (-1), 1) := by decide +kernel
theorem dX2_lossIn_18 : decode cX2_lossIn 18 = .ok (.iconst 0, 1) := by decide +kernel
theorem dX2_lossIn_19 : decode cX2_lossIn 19 = .ok (.invokevirtual 154, 3) := by decide +kernel
theorem dX2_lossIn_22 : decode cX2_lossIn 22 = .ok (.goto 8, 3) := by decide +kernel
theorem dX2_lossIn_25 : decode cX2_lossIn 25 = .ok (.aload_n 0, 1) := by decide +kernel
theorem dX2_lossIn_26 : decode cX2_lossIn 26 = .ok (.iconst 1, 1) := by decide +kernel
theorem dX2_lossIn_27 : decode cX2_lossIn 27 = .ok (.invokevirtual 90, 3) := by decide +kernel
theorem dX2_lossIn_30 : decode cX2_lossIn 30 = .ok (.ireturn, 1) := by decide +kernel
theorem dX2_waterIn_0 : decode cX2_waterIn 0 = .ok (.aload_n 0, 1) := by decide +kernel
theorem dX2_waterIn_1 : decode cX2_waterIn 1 = .ok (.iconst 0, 1) := by decide +kernel
theorem dX2_waterIn_2 : decode cX2_waterIn 2 = .ok (.putfield 41, 3) := by decide +kernel
theorem dX2_waterIn_5 : decode cX2_waterIn 5 = .ok (.aload_n 0, 1) := by decide +kernel
theorem dX2_waterIn_6 : decode cX2_waterIn 6 = .ok (.iload_n 1, 1) := by decide +kernel
theorem dX2_waterIn_7 : decode cX2_waterIn 7 = .ok (.invokevirtual 93, 3) := by decide +kernel
theorem dX2_waterIn_10 : decode cX2_waterIn 10 = .ok (.ifCond .ne 9, 3) := by decide +kernel
theorem dX2_waterIn_13 : decode cX2_waterIn 13 = .ok (.aload_n 0, 1) := by decide +kernel
theorem dX2_waterIn_14 : decode cX2_waterIn 14 = .ok (.iconst 1, 1) := by decide +kernel
theorem dX2_waterIn_15 : decode cX2_waterIn 15 = .ok (.invokevirtual 90, 3) := by decide +kernel
theorem dX2_waterIn_18 : decode cX2_waterIn 18 = .ok (.ireturn, 1) := by decide +kernel
theorem dX2_waterIn_19 : decode cX2_waterIn 19 = .ok (.iload_n 2, 1) := by decide +kernel
theorem dX2_waterIn_20 : decode cX2_waterIn 20 = .ok (.iconst 1, 1) := by decide +kernel
theorem dX2_waterIn_21 : decode cX2_waterIn 21 = .ok (.bipush 48, 2) := by decide +kernel
theorem dX2_waterIn_23 : decode cX2_waterIn 23 = .ok (.invokestatic 48, 3) := by decide +kernel
theorem dX2_waterIn_26 : decode cX2_waterIn 26 = .ok (.ifCond .ne 9, 3) := by decide +kernel
theorem dX2_waterIn_29 : decode cX2_waterIn 29 = .ok (.aload_n 0, 1) := by decide +kernel
theorem dX2_waterIn_30 : decode cX2_waterIn 30 = .ok (.iconst 2, 1) := by decide +kernel
theorem dX2_waterIn_31 : decode cX2_waterIn 31 = .ok (.invokevirtual 90, 3) := by decide +kernel
theorem dX2_waterIn_34 : decode cX2_waterIn 34 = .ok (.ireturn, 1) := by decide +kernel
theorem dX2_waterIn_35 : decode cX2_waterIn 35 = .ok (.aload_n 0, 1) := by decide +kernel
theorem dX2_waterIn_36 : decode cX2_waterIn 36 = .ok (.invokevirtual 145, 3) := by decide +kernel
theorem dX2_waterIn_39 : decode cX2_waterIn 39 = .ok (.aload_n 0, 1) := by decide +kernel
theorem dX2_waterIn_40 : decode cX2_waterIn 40 = .ok (.iload_n 2, 1) := by decide +kernel
theorem dX2_waterIn_41 : decode cX2_waterIn 41 = .ok (.invokevirtual 111, 3) := by decide +kernel
theorem dX2_waterIn_44 : decode cX2_waterIn 44 = .ok (.aload_n 0, 1) := by decide +kernel
theorem dX2_waterIn_45 : decode cX2_waterIn 45 = .ok (.iload_n 1, 1) := by decide +kernel
theorem dX2_waterIn_46 : decode cX2_waterIn 46 = .ok (.invokevirtual 61, 3) := by decide +kernel
theorem dX2_waterIn_49 : decode cX2_waterIn 49 = .ok (.istore_n 3, 1) := by decide +kernel
theorem dX2_waterIn_50 : decode cX2_waterIn 50 = .ok (.aload_n 0, 1) := by decide +kernel
theorem dX2_waterIn_51 : decode cX2_waterIn 51 = .ok (.invokevirtual 148, 3) := by decide +kernel
theorem dX2_waterIn_54 : decode cX2_waterIn 54 = .ok (.iload_n 3, 1) := by decide +kernel
theorem dX2_waterIn_55 : decode cX2_waterIn 55 = .ok (.ireturn, 1) := by decide +kernel
theorem dX2_turned_0 : decode cX2_turned 0 = .ok (.iconst (-1), 1) := by decide +kernel
theorem dX2_turned_1 : decode cX2_turned 1 = .ok (.istore_n 1, 1) := by decide +kernel
theorem dX2_turned_2 : decode cX2_turned 2 = .ok (.aload_n 0, 1) := by decide +kernel
theorem dX2_turned_3 : decode cX2_turned 3 = .ok (.bipush 24, 2) := by decide +kernel
theorem dX2_turned_5 : decode cX2_turned 5 = .ok (.iconst (-1), 1) := by decide +kernel
theorem dX2_turned_6 : decode cX2_turned 6 = .ok (.iconst 0, 1) := by decide +kernel
theorem dX2_turned_7 : decode cX2_turned 7 = .ok (.invokevirtual 154, 3) := by decide +kernel
theorem dX2_turned_10 : decode cX2_turned 10 = .ok (.istore_n 2, 1) := by decide +kernel
theorem dX2_turned_11 : decode cX2_turned 11 = .ok (.iconst 0, 1) := by decide +kernel
theorem dX2_turned_12 : decode cX2_turned 12 = .ok (.istore_n 3, 1) := by decide +kernel
theorem dX2_turned_13 : decode cX2_turned 13 = .ok (.iload_n 3, 1) := by decide +kernel
theorem dX2_turned_14 : decode cX2_turned 14 = .ok (.aload_n 0, 1) := by decide +kernel
theorem dX2_turned_15 : decode cX2_turned 15 = .ok (.getfield 52, 3) := by decide +kernel
theorem dX2_turned_18 : decode cX2_turned 18 = .ok (.if_icmp .ge 73, 3) := by decide +kernel
theorem dX2_turned_21 : decode cX2_turned 21 = .ok (.aload_n 0, 1) := by decide +kernel
theorem dX2_turned_22 : decode cX2_turned 22 = .ok (.getfield 29, 3) := by decide +kernel
theorem dX2_turned_25 : decode cX2_turned 25 = .ok (.iload_n 3, 1) := by decide +kernel
theorem dX2_turned_26 : decode cX2_turned 26 = .ok (.aload_n 0, 1) := by decide +kernel
theorem dX2_turned_27 : decode cX2_turned 27 = .ok (.getfield 29, 3) := by decide +kernel
theorem dX2_turned_30 : decode cX2_turned 30 = .ok (.iload_n 3, 1) := by decide +kernel
theorem dX2_turned_31 : decode cX2_turned 31 = .ok (.baload, 1) := by decide +kernel
theorem dX2_turned_32 : decode cX2_turned 32 = .ok (.ifCond .ne 7, 3) := by decide +kernel
theorem dX2_turned_35 : decode cX2_turned 35 = .ok (.iconst 1, 1) := by decide +kernel
theorem dX2_turned_36 : decode cX2_turned 36 = .ok (.goto 4, 3) := by decide +kernel
theorem dX2_turned_39 : decode cX2_turned 39 = .ok (.iconst 0, 1) := by decide +kernel
theorem dX2_turned_40 : decode cX2_turned 40 = .ok (.bastore, 1) := by decide +kernel
theorem dX2_turned_41 : decode cX2_turned 41 = .ok (.aload_n 0, 1) := by decide +kernel
theorem dX2_turned_42 : decode cX2_turned 42 = .ok (.bipush 24, 2) := by decide +kernel
theorem dX2_turned_44 : decode cX2_turned 44 = .ok (.iconst (-1), 1) := by decide +kernel
theorem dX2_turned_45 : decode cX2_turned 45 = .ok (.iconst 0, 1) := by decide +kernel
theorem dX2_turned_46 : decode cX2_turned 46 = .ok (.invokevirtual 154, 3) := by decide +kernel
theorem dX2_turned_49 : decode cX2_turned 49 = .ok (.istore 4, 2) := by decide +kernel
theorem dX2_turned_51 : decode cX2_turned 51 = .ok (.aload_n 0, 1) := by decide +kernel
theorem dX2_turned_52 : decode cX2_turned 52 = .ok (.getfield 29, 3) := by decide +kernel
theorem dX2_turned_55 : decode cX2_turned 55 = .ok (.iload_n 3, 1) := by decide +kernel
theorem dX2_turned_56 : decode cX2_turned 56 = .ok (.aload_n 0, 1) := by decide +kernel
theorem dX2_turned_57 : decode cX2_turned 57 = .ok (.getfield 29, 3) := by decide +kernel
theorem dX2_turned_60 : decode cX2_turned 60 = .ok (.iload_n 3, 1) := by decide +kernel
theorem dX2_turned_61 : decode cX2_turned 61 = .ok (.baload, 1) := by decide +kernel
theorem dX2_turned_62 : decode cX2_turned 62 = .ok (.ifCond .ne 7, 3) := by decide +kernel
theorem dX2_turned_65 : decode cX2_turned 65 = .ok (.iconst 1, 1) := by decide +kernel
theorem dX2_turned_66 : decode cX2_turned 66 = .ok (.goto 4, 3) := by decide +kernel
theorem dX2_turned_69 : decode cX2_turned 69 = .ok (.iconst 0, 1) := by decide +kernel
theorem dX2_turned_70 : decode cX2_turned 70 = .ok (.bastore, 1) := by decide +kernel
theorem dX2_turned_71 : decode cX2_turned 71 = .ok (.iload 4, 2) := by decide +kernel
theorem dX2_turned_73 : decode cX2_turned 73 = .ok (.iload_n 2, 1) := by decide +kernel
theorem dX2_turned_74 : decode cX2_turned 74 = .ok (.if_icmp .lt 6, 3) := by decide +kernel
theorem dX2_turned_77 : decode cX2_turned 77 = .ok (.goto 8, 3) := by decide +kernel
theorem dX2_turned_80 : decode cX2_turned 80 = .ok (.iload_n 3, 1) := by decide +kernel
theorem dX2_turned_81 : decode cX2_turned 81 = .ok (.istore_n 1, 1) := by decide +kernel
theorem dX2_turned_82 : decode cX2_turned 82 = .ok (.iload 4, 2) := by decide +kernel
theorem dX2_turned_84 : decode cX2_turned 84 = .ok (.istore_n 2, 1) := by decide +kernel
theorem dX2_turned_85 : decode cX2_turned 85 = .ok (.iinc 3 1, 3) := by decide +kernel
theorem dX2_turned_88 : decode cX2_turned 88 = .ok (.goto (-75), 3) := by decide +kernel
theorem dX2_turned_91 : decode cX2_turned 91 = .ok (.iload_n 1, 1) := by decide +kernel
theorem dX2_turned_92 : decode cX2_turned 92 = .ok (.ireturn, 1) := by decide +kernel
theorem dX2_bestToTurn_0 : decode cX2_bestToTurn 0 = .ok (.aload_n 0, 1) := by decide +kernel
theorem dX2_bestToTurn_1 : decode cX2_bestToTurn 1 = .ok (.aload_n 0, 1) := by decide +kernel
theorem dX2_bestToTurn_2 : decode cX2_bestToTurn 2 = .ok (.invokevirtual 158, 3) := by decide +kernel
theorem dX2_bestToTurn_5 : decode cX2_bestToTurn 5 = .ok (.invokevirtual 114, 3) := by decide +kernel
theorem dX2_bestToTurn_8 : decode cX2_bestToTurn 8 = .ok (.ireturn, 1) := by decide +kernel
theorem dX2_flooded_0 : decode cX2_flooded 0 = .ok (.iconst (-1), 1) := by decide +kernel
theorem dX2_flooded_1 : decode cX2_flooded 1 = .ok (.istore_n 2, 1) := by decide +kernel
theorem dX2_flooded_2 : decode cX2_flooded 2 = .ok (.iconst 0, 1) := by decide +kernel
theorem dX2_flooded_3 : decode cX2_flooded 3 = .ok (.istore_n 3, 1) := by decide +kernel
theorem dX2_flooded_4 : decode cX2_flooded 4 = .ok (.iconst 0, 1) := by decide +kernel
theorem dX2_flooded_5 : decode cX2_flooded 5 = .ok (.istore 4, 2) := by decide +kernel
theorem dX2_flooded_7 : decode cX2_flooded 7 = .ok (.iload 4, 2) := by decide +kernel
theorem dX2_flooded_9 : decode cX2_flooded 9 = .ok (.aload_n 0, 1) := by decide +kernel
theorem dX2_flooded_10 : decode cX2_flooded 10 = .ok (.getfield 45, 3) := by decide +kernel
theorem dX2_flooded_13 : decode cX2_flooded 13 = .ok (.if_icmp .ge 40, 3) := by decide +kernel
theorem dX2_flooded_16 : decode cX2_flooded 16 = .ok (.aload_n 0, 1) := by decide +kernel
theorem dX2_flooded_17 : decode cX2_flooded 17 = .ok (.bipush 24, 2) := by decide +kernel
theorem dX2_flooded_19 : decode cX2_flooded 19 = .ok (.iload 4, 2) := by decide +kernel
theorem dX2_flooded_21 : decode cX2_flooded 21 = .ok (.iload_n 1, 1) := by decide +kernel
theorem dX2_flooded_22 : decode cX2_flooded 22 = .ok (.invokevirtual 154, 3) := by decide +kernel
theorem dX2_flooded_25 : decode cX2_flooded 25 = .ok (.istore 5, 2) := by decide +kernel
theorem dX2_flooded_27 : decode cX2_flooded 27 = .ok (.iload_n 2, 1) := by decide +kernel
theorem dX2_flooded_28 : decode cX2_flooded 28 = .ok (.iconst (-1), 1) := by decide +kernel
theorem dX2_flooded_29 : decode cX2_flooded 29 = .ok (.if_icmp .eq 12, 3) := by decide +kernel
theorem dX2_flooded_32 : decode cX2_flooded 32 = .ok (.iload 5, 2) := by decide +kernel
theorem dX2_flooded_34 : decode cX2_flooded 34 = .ok (.iload_n 3, 1) := by decide +kernel
theorem dX2_flooded_35 : decode cX2_flooded 35 = .ok (.if_icmp .lt 6, 3) := by decide +kernel
theorem dX2_flooded_38 : decode cX2_flooded 38 = .ok (.goto 9, 3) := by decide +kernel
theorem dX2_flooded_41 : decode cX2_flooded 41 = .ok (.iload 4, 2) := by decide +kernel
theorem dX2_flooded_43 : decode cX2_flooded 43 = .ok (.istore_n 2, 1) := by decide +kernel
theorem dX2_flooded_44 : decode cX2_flooded 44 = .ok (.iload 5, 2) := by decide +kernel
theorem dX2_flooded_46 : decode cX2_flooded 46 = .ok (.istore_n 3, 1) := by decide +kernel
theorem dX2_flooded_47 : decode cX2_flooded 47 = .ok (.iinc 4 1, 3) := by decide +kernel
theorem dX2_flooded_50 : decode cX2_flooded 50 = .ok (.goto (-43), 3) := by decide +kernel
theorem dX2_flooded_53 : decode cX2_flooded 53 = .ok (.iload_n 2, 1) := by decide +kernel
theorem dX2_flooded_54 : decode cX2_flooded 54 = .ok (.ireturn, 1) := by decide +kernel
theorem dX2_bestToFlood_0 : decode cX2_bestToFlood 0 = .ok (.aload_n 0, 1) := by decide +kernel
theorem dX2_bestToFlood_1 : decode cX2_bestToFlood 1 = .ok (.iconst 0, 1) := by decide +kernel
theorem dX2_bestToFlood_2 : decode cX2_bestToFlood 2 = .ok (.putfield 41, 3) := by decide +kernel
theorem dX2_bestToFlood_5 : decode cX2_bestToFlood 5 = .ok (.iload_n 1, 1) := by decide +kernel
theorem dX2_bestToFlood_6 : decode cX2_bestToFlood 6 = .ok (.iconst 1, 1) := by decide +kernel
theorem dX2_bestToFlood_7 : decode cX2_bestToFlood 7 = .ok (.bipush 50, 2) := by decide +kernel
theorem dX2_bestToFlood_9 : decode cX2_bestToFlood 9 = .ok (.invokestatic 48, 3) := by decide +kernel
theorem dX2_bestToFlood_12 : decode cX2_bestToFlood 12 = .ok (.ifCond .eq 11, 3) := by decide +kernel
theorem dX2_bestToFlood_15 : decode cX2_bestToFlood 15 = .ok (.aload_n 0, 1) := by decide +kernel
theorem dX2_bestToFlood_16 : decode cX2_bestToFlood 16 = .ok (.iload_n 1, 1) := by decide +kernel
theorem dX2_bestToFlood_17 : decode cX2_bestToFlood 17 = .ok (.invokevirtual 161, 3) := by decide +kernel
theorem dX2_bestToFlood_20 : decode cX2_bestToFlood 20 = .ok (.goto 8, 3) := by decide +kernel
theorem dX2_bestToFlood_23 : decode cX2_bestToFlood 23 = .ok (.aload_n 0, 1) := by decide +kernel
theorem dX2_bestToFlood_24 : decode cX2_bestToFlood 24 = .ok (.iconst 1, 1) := by decide +kernel
theorem dX2_bestToFlood_25 : decode cX2_bestToFlood 25 = .ok (.invokevirtual 90, 3) := by decide +kernel
theorem dX2_bestToFlood_28 : decode cX2_bestToFlood 28 = .ok (.ireturn, 1) := by decide +kernel
theorem dX2_borne_0 : decode cX2_borne 0 = .ok (.aload_n 0, 1) := by decide +kernel
theorem dX2_borne_1 : decode cX2_borne 1 = .ok (.getfield 80, 3) := by decide +kernel
theorem dX2_borne_4 : decode cX2_borne 4 = .ok (.istore_n 1, 1) := by decide +kernel
theorem dX2_borne_5 : decode cX2_borne 5 = .ok (.aload_n 0, 1) := by decide +kernel
theorem dX2_borne_6 : decode cX2_borne 6 = .ok (.invokevirtual 123, 3) := by decide +kernel
theorem dX2_borne_9 : decode cX2_borne 9 = .ok (.istore_n 2, 1) := by decide +kernel
theorem dX2_borne_10 : decode cX2_borne 10 = .ok (.iconst (-1), 1) := by decide +kernel
theorem dX2_borne_11 : decode cX2_borne 11 = .ok (.istore_n 3, 1) := by decide +kernel
theorem dX2_borne_12 : decode cX2_borne 12 = .ok (.aload_n 0, 1) := by decide +kernel
theorem dX2_borne_13 : decode cX2_borne 13 = .ok (.iconst 0, 1) := by decide +kernel
theorem dX2_borne_14 : decode cX2_borne 14 = .ok (.putfield 80, 3) := by decide +kernel
theorem dX2_borne_17 : decode cX2_borne 17 = .ok (.aload_n 0, 1) := by decide +kernel
theorem dX2_borne_18 : decode cX2_borne 18 = .ok (.getfield 80, 3) := by decide +kernel
theorem dX2_borne_21 : decode cX2_borne 21 = .ok (.bipush 9, 2) := by decide +kernel
theorem dX2_borne_23 : decode cX2_borne 23 = .ok (.if_icmp .gt 33, 3) := by decide +kernel
theorem dX2_borne_26 : decode cX2_borne 26 = .ok (.aload_n 0, 1) := by decide +kernel
theorem dX2_borne_27 : decode cX2_borne 27 = .ok (.bipush 24, 2) := by decide +kernel
theorem dX2_borne_29 : decode cX2_borne 29 = .ok (.iconst (-1), 1) := by decide +kernel
theorem dX2_borne_30 : decode cX2_borne 30 = .ok (.iconst 0, 1) := by decide +kernel
theorem dX2_borne_31 : decode cX2_borne 31 = .ok (.invokevirtual 154, 3) := by decide +kernel
theorem dX2_borne_34 : decode cX2_borne 34 = .ok (.iload_n 2, 1) := by decide +kernel
theorem dX2_borne_35 : decode cX2_borne 35 = .ok (.if_icmp .ne 8, 3) := by decide +kernel
theorem dX2_borne_38 : decode cX2_borne 38 = .ok (.aload_n 0, 1) := by decide +kernel
theorem dX2_borne_39 : decode cX2_borne 39 = .ok (.getfield 80, 3) := by decide +kernel
theorem dX2_borne_42 : decode cX2_borne 42 = .ok (.istore_n 3, 1) := by decide +kernel
theorem dX2_borne_43 : decode cX2_borne 43 = .ok (.aload_n 0, 1) := by decide +kernel
theorem dX2_borne_44 : decode cX2_borne 44 = .ok (.dup, 1) := by decide +kernel
theorem dX2_borne_45 : decode cX2_borne 45 = .ok (.getfield 80, 3) := by decide +kernel
theorem dX2_borne_48 : decode cX2_borne 48 = .ok (.iconst 1, 1) := by decide +kernel
theorem dX2_borne_49 : decode cX2_borne 49 = .ok (.iadd, 1) := by decide +kernel
theorem dX2_borne_50 : decode cX2_borne 50 = .ok (.putfield 80, 3) := by decide +kernel
theorem dX2_borne_53 : decode cX2_borne 53 = .ok (.goto (-36), 3) := by decide +kernel
theorem dX2_borne_56 : decode cX2_borne 56 = .ok (.aload_n 0, 1) := by decide +kernel
theorem dX2_borne_57 : decode cX2_borne 57 = .ok (.iload_n 1, 1) := by decide +kernel
theorem dX2_borne_58 : decode cX2_borne 58 = .ok (.putfield 80, 3) := by decide +kernel
theorem dX2_borne_61 : decode cX2_borne 61 = .ok (.iload_n 3, 1) := by decide +kernel
theorem dX2_borne_62 : decode cX2_borne 62 = .ok (.ireturn, 1) := by decide +kernel
theorem dX2_rainBorne_0 : decode cX2_rainBorne 0 = .ok (.aload_n 0, 1) := by decide +kernel
theorem dX2_rainBorne_1 : decode cX2_rainBorne 1 = .ok (.aload_n 0, 1) := by decide +kernel
theorem dX2_rainBorne_2 : decode cX2_rainBorne 2 = .ok (.invokevirtual 164, 3) := by decide +kernel
theorem dX2_rainBorne_5 : decode cX2_rainBorne 5 = .ok (.invokevirtual 114, 3) := by decide +kernel
theorem dX2_rainBorne_8 : decode cX2_rainBorne 8 = .ok (.ireturn, 1) := by decide +kernel
theorem dX2_meanWater_0 : decode cX2_meanWater 0 = .ok (.aload_n 0, 1) := by decide +kernel
theorem dX2_meanWater_1 : decode cX2_meanWater 1 = .ok (.iconst 0, 1) := by decide +kernel
theorem dX2_meanWater_2 : decode cX2_meanWater 2 = .ok (.putfield 41, 3) := by decide +kernel
theorem dX2_meanWater_5 : decode cX2_meanWater 5 = .ok (.aload_n 0, 1) := by decide +kernel
theorem dX2_meanWater_6 : decode cX2_meanWater 6 = .ok (.getfield 45, 3) := by decide +kernel
theorem dX2_meanWater_9 : decode cX2_meanWater 9 = .ok (.ifCond .ne 7, 3) := by decide +kernel
theorem dX2_meanWater_12 : decode cX2_meanWater 12 = .ok (.dconst 0, 1) := by decide +kernel
theorem dX2_meanWater_13 : decode cX2_meanWater 13 = .ok (.goto 14, 3) := by decide +kernel
theorem dX2_meanWater_16 : decode cX2_meanWater 16 = .ok (.aload_n 0, 1) := by decide +kernel
theorem dX2_meanWater_17 : decode cX2_meanWater 17 = .ok (.invokevirtual 117, 3) := by decide +kernel
theorem dX2_meanWater_20 : decode cX2_meanWater 20 = .ok (.i2d, 1) := by decide +kernel
theorem dX2_meanWater_21 : decode cX2_meanWater 21 = .ok (.aload_n 0, 1) := by decide +kernel
theorem dX2_meanWater_22 : decode cX2_meanWater 22 = .ok (.getfield 45, 3) := by decide +kernel
theorem dX2_meanWater_25 : decode cX2_meanWater 25 = .ok (.i2d, 1) := by decide +kernel
theorem dX2_meanWater_26 : decode cX2_meanWater 26 = .ok (.ddiv, 1) := by decide +kernel
theorem dX2_meanWater_27 : decode cX2_meanWater 27 = .ok (.dreturn, 1) := by decide +kernel
theorem dX2_digest_0 : decode cX2_digest 0 = .ok (.aload_n 0, 1) := by decide +kernel
theorem dX2_digest_1 : decode cX2_digest 1 = .ok (.iconst 0, 1) := by decide +kernel
theorem dX2_digest_2 : decode cX2_digest 2 = .ok (.putfield 41, 3) := by decide +kernel
theorem dX2_digest_5 : decode cX2_digest 5 = .ok (.bipush 14, 2) := by decide +kernel
theorem dX2_digest_7 : decode cX2_digest 7 = .ok (.newarray .int, 2) := by decide +kernel
theorem dX2_digest_9 : decode cX2_digest 9 = .ok (.dup, 1) := by decide +kernel
theorem dX2_digest_10 : decode cX2_digest 10 = .ok (.iconst 0, 1) := by decide +kernel
theorem dX2_digest_11 : decode cX2_digest 11 = .ok (.aload_n 0, 1) := by decide +kernel
theorem dX2_digest_12 : decode cX2_digest 12 = .ok (.getfield 32, 3) := by decide +kernel
theorem dX2_digest_15 : decode cX2_digest 15 = .ok (.iconst 0, 1) := by decide +kernel
theorem dX2_digest_16 : decode cX2_digest 16 = .ok (.iaload, 1) := by decide +kernel
theorem dX2_digest_17 : decode cX2_digest 17 = .ok (.iastore, 1) := by decide +kernel
theorem dX2_digest_18 : decode cX2_digest 18 = .ok (.dup, 1) := by decide +kernel
theorem dX2_digest_19 : decode cX2_digest 19 = .ok (.iconst 1, 1) := by decide +kernel
theorem dX2_digest_20 : decode cX2_digest 20 = .ok (.aload_n 0, 1) := by decide +kernel
theorem dX2_digest_21 : decode cX2_digest 21 = .ok (.getfield 45, 3) := by decide +kernel
theorem dX2_digest_24 : decode cX2_digest 24 = .ok (.iastore, 1) := by decide +kernel
theorem dX2_digest_25 : decode cX2_digest 25 = .ok (.dup, 1) := by decide +kernel
theorem dX2_digest_26 : decode cX2_digest 26 = .ok (.iconst 2, 1) := by decide +kernel
theorem dX2_digest_27 : decode cX2_digest 27 = .ok (.aload_n 0, 1) := by decide +kernel
theorem dX2_digest_28 : decode cX2_digest 28 = .ok (.getfield 52, 3) := by decide +kernel
theorem dX2_digest_31 : decode cX2_digest 31 = .ok (.iastore, 1) := by decide +kernel
theorem dX2_digest_32 : decode cX2_digest 32 = .ok (.dup, 1) := by decide +kernel
theorem dX2_digest_33 : decode cX2_digest 33 = .ok (.iconst 3, 1) := by decide +kernel
theorem dX2_digest_34 : decode cX2_digest 34 = .ok (.aload_n 0, 1) := by decide +kernel
theorem dX2_digest_35 : decode cX2_digest 35 = .ok (.getfield 80, 3) := by decide +kernel
theorem dX2_digest_38 : decode cX2_digest 38 = .ok (.iastore, 1) := by decide +kernel
theorem dX2_digest_39 : decode cX2_digest 39 = .ok (.dup, 1) := by decide +kernel
theorem dX2_digest_40 : decode cX2_digest 40 = .ok (.iconst 4, 1) := by decide +kernel
theorem dX2_digest_41 : decode cX2_digest 41 = .ok (.aload_n 0, 1) := by decide +kernel
theorem dX2_digest_42 : decode cX2_digest 42 = .ok (.invokevirtual 117, 3) := by decide +kernel
theorem dX2_digest_45 : decode cX2_digest 45 = .ok (.iastore, 1) := by decide +kernel
theorem dX2_digest_46 : decode cX2_digest 46 = .ok (.dup, 1) := by decide +kernel
theorem dX2_digest_47 : decode cX2_digest 47 = .ok (.iconst 5, 1) := by decide +kernel
theorem dX2_digest_48 : decode cX2_digest 48 = .ok (.aload_n 0, 1) := by decide +kernel
theorem dX2_digest_49 : decode cX2_digest 49 = .ok (.getfield 32, 3) := by decide +kernel
theorem dX2_digest_52 : decode cX2_digest 52 = .ok (.iconst 1, 1) := by decide +kernel
theorem dX2_digest_53 : decode cX2_digest 53 = .ok (.iaload, 1) := by decide +kernel
theorem dX2_digest_54 : decode cX2_digest 54 = .ok (.iastore, 1) := by decide +kernel
theorem dX2_digest_55 : decode cX2_digest 55 = .ok (.dup, 1) := by decide +kernel
theorem dX2_digest_56 : decode cX2_digest 56 = .ok (.bipush 6, 2) := by decide +kernel
theorem dX2_digest_58 : decode cX2_digest 58 = .ok (.aload_n 0, 1) := by decide +kernel
theorem dX2_digest_59 : decode cX2_digest 59 = .ok (.invokevirtual 120, 3) := by decide +kernel
theorem dX2_digest_62 : decode cX2_digest 62 = .ok (.iastore, 1) := by decide +kernel
theorem dX2_digest_63 : decode cX2_digest 63 = .ok (.dup, 1) := by decide +kernel
theorem dX2_digest_64 : decode cX2_digest 64 = .ok (.bipush 7, 2) := by decide +kernel
theorem dX2_digest_66 : decode cX2_digest 66 = .ok (.aload_n 0, 1) := by decide +kernel
theorem dX2_digest_67 : decode cX2_digest 67 = .ok (.invokevirtual 123, 3) := by decide +kernel
theorem dX2_digest_70 : decode cX2_digest 70 = .ok (.iastore, 1) := by decide +kernel
theorem dX2_digest_71 : decode cX2_digest 71 = .ok (.dup, 1) := by decide +kernel
theorem dX2_digest_72 : decode cX2_digest 72 = .ok (.bipush 8, 2) := by decide +kernel
theorem dX2_digest_74 : decode cX2_digest 74 = .ok (.aload_n 0, 1) := by decide +kernel
theorem dX2_digest_75 : decode cX2_digest 75 = .ok (.invokevirtual 139, 3) := by decide +kernel
theorem dX2_digest_78 : decode cX2_digest 78 = .ok (.iastore, 1) := by decide +kernel
theorem dX2_digest_79 : decode cX2_digest 79 = .ok (.dup, 1) := by decide +kernel
theorem dX2_digest_80 : decode cX2_digest 80 = .ok (.bipush 9, 2) := by decide +kernel
theorem dX2_digest_82 : decode cX2_digest 82 = .ok (.aload_n 0, 1) := by decide +kernel
theorem dX2_digest_83 : decode cX2_digest 83 = .ok (.invokevirtual 142, 3) := by decide +kernel
theorem dX2_digest_86 : decode cX2_digest 86 = .ok (.iastore, 1) := by decide +kernel
theorem dX2_digest_87 : decode cX2_digest 87 = .ok (.dup, 1) := by decide +kernel
theorem dX2_digest_88 : decode cX2_digest 88 = .ok (.bipush 10, 2) := by decide +kernel
theorem dX2_digest_90 : decode cX2_digest 90 = .ok (.aload_n 0, 1) := by decide +kernel
theorem dX2_digest_91 : decode cX2_digest 91 = .ok (.bipush 12, 2) := by decide +kernel
theorem dX2_digest_93 : decode cX2_digest 93 = .ok (.iconst (-1), 1) := by decide +kernel
theorem dX2_digest_94 : decode cX2_digest 94 = .ok (.iconst 0, 1) := by decide +kernel
theorem dX2_digest_95 : decode cX2_digest 95 = .ok (.invokevirtual 154, 3) := by decide +kernel
theorem dX2_digest_98 : decode cX2_digest 98 = .ok (.iastore, 1) := by decide +kernel
theorem dX2_digest_99 : decode cX2_digest 99 = .ok (.dup, 1) := by decide +kernel
end
section
theorem dX2_digest_100 : decode cX2_digest 100 = .ok (.bipush 11, 2) := by decide +kernel
theorem dX2_digest_102 : decode cX2_digest 102 = .ok (.aload_n 0, 1) := by decide +kernel
theorem dX2_digest_103 : decode cX2_digest 103 = .ok (.invokevirtual 158, 3) := by decide +kernel
theorem dX2_digest_106 : decode cX2_digest 106 = .ok (.iastore, 1) := by decide +kernel
theorem dX2_digest_107 : decode cX2_digest 107 = .ok (.dup, 1) := by decide +kernel
theorem dX2_digest_108 : decode cX2_digest 108 = .ok (.bipush 12, 2) := by decide +kernel
theorem dX2_digest_110 : decode cX2_digest 110 = .ok (.aload_n 0, 1) := by decide +kernel
theorem dX2_digest_111 : decode cX2_digest 111 = .ok (.bipush 10, 2) := by decide +kernel
theorem dX2_digest_113 : decode cX2_digest 113 = .ok (.invokevirtual 161, 3) := by decide +kernel
theorem dX2_digest_116 : decode cX2_digest 116 = .ok (.iastore, 1) := by decide +kernel
theorem dX2_digest_117 : decode cX2_digest 117 = .ok (.dup, 1) := by decide +kernel
theorem dX2_digest_118 : decode cX2_digest 118 = .ok (.bipush 13, 2) := by decide +kernel
theorem dX2_digest_120 : decode cX2_digest 120 = .ok (.aload_n 0, 1) := by decide +kernel
theorem dX2_digest_121 : decode cX2_digest 121 = .ok (.invokevirtual 164, 3) := by decide +kernel
theorem dX2_digest_124 : decode cX2_digest 124 = .ok (.iastore, 1) := by decide +kernel
theorem dX2_digest_125 : decode cX2_digest 125 = .ok (.astore_n 1, 1) := by decide +kernel
theorem dX2_digest_126 : decode cX2_digest 126 = .ok (.ldc2_w 167, 3) := by decide +kernel
theorem dX2_digest_129 : decode cX2_digest 129 = .ok (.lstore_n 2, 1) := by decide +kernel
theorem dX2_digest_130 : decode cX2_digest 130 = .ok (.aload_n 1, 1) := by decide +kernel
theorem dX2_digest_131 : decode cX2_digest 131 = .ok (.astore 4, 2) := by decide +kernel
theorem dX2_digest_133 : decode cX2_digest 133 = .ok (.aload 4, 2) := by decide +kernel
theorem dX2_digest_135 : decode cX2_digest 135 = .ok (.arraylength, 1) := by decide +kernel
theorem dX2_digest_136 : decode cX2_digest 136 = .ok (.istore 5, 2) := by decide +kernel
theorem dX2_digest_138 : decode cX2_digest 138 = .ok (.iconst 0, 1) := by decide +kernel
theorem dX2_digest_139 : decode cX2_digest 139 = .ok (.istore 6, 2) := by decide +kernel
theorem dX2_digest_141 : decode cX2_digest 141 = .ok (.iload 6, 2) := by decide +kernel
theorem dX2_digest_143 : decode cX2_digest 143 = .ok (.iload 5, 2) := by decide +kernel
theorem dX2_digest_145 : decode cX2_digest 145 = .ok (.if_icmp .ge 26, 3) := by decide +kernel
theorem dX2_digest_148 : decode cX2_digest 148 = .ok (.aload 4, 2) := by decide +kernel
theorem dX2_digest_150 : decode cX2_digest 150 = .ok (.iload 6, 2) := by decide +kernel
theorem dX2_digest_152 : decode cX2_digest 152 = .ok (.iaload, 1) := by decide +kernel
theorem dX2_digest_153 : decode cX2_digest 153 = .ok (.istore 7, 2) := by decide +kernel
theorem dX2_digest_155 : decode cX2_digest 155 = .ok (.lload_n 2, 1) := by decide +kernel
theorem dX2_digest_156 : decode cX2_digest 156 = .ok (.ldc2_w 169, 3) := by decide +kernel
theorem dX2_digest_159 : decode cX2_digest 159 = .ok (.lmul, 1) := by decide +kernel
theorem dX2_digest_160 : decode cX2_digest 160 = .ok (.iload 7, 2) := by decide +kernel
theorem dX2_digest_162 : decode cX2_digest 162 = .ok (.i2l, 1) := by decide +kernel
theorem dX2_digest_163 : decode cX2_digest 163 = .ok (.ladd, 1) := by decide +kernel
theorem dX2_digest_164 : decode cX2_digest 164 = .ok (.lstore_n 2, 1) := by decide +kernel
theorem dX2_digest_165 : decode cX2_digest 165 = .ok (.iinc 6 1, 3) := by decide +kernel
theorem dX2_digest_168 : decode cX2_digest 168 = .ok (.goto (-27), 3) := by decide +kernel
theorem dX2_digest_171 : decode cX2_digest 171 = .ok (.iconst 0, 1) := by decide +kernel
theorem dX2_digest_172 : decode cX2_digest 172 = .ok (.istore 4, 2) := by decide +kernel
theorem dX2_digest_174 : decode cX2_digest 174 = .ok (.iload 4, 2) := by decide +kernel
theorem dX2_digest_176 : decode cX2_digest 176 = .ok (.aload_n 0, 1) := by decide +kernel
theorem dX2_digest_177 : decode cX2_digest 177 = .ok (.getfield 45, 3) := by decide +kernel
theorem dX2_digest_180 : decode cX2_digest 180 = .ok (.if_icmp .ge 119, 3) := by decide +kernel
theorem dX2_digest_183 : decode cX2_digest 183 = .ok (.bipush 6, 2) := by decide +kernel
theorem dX2_digest_185 : decode cX2_digest 185 = .ok (.newarray .int, 2) := by decide +kernel
theorem dX2_digest_187 : decode cX2_digest 187 = .ok (.dup, 1) := by decide +kernel
theorem dX2_digest_188 : decode cX2_digest 188 = .ok (.iconst 0, 1) := by decide +kernel
theorem dX2_digest_189 : decode cX2_digest 189 = .ok (.aload_n 0, 1) := by decide +kernel
theorem dX2_digest_190 : decode cX2_digest 190 = .ok (.iload 4, 2) := by decide +kernel
theorem dX2_digest_192 : decode cX2_digest 192 = .ok (.invokevirtual 61, 3) := by decide +kernel
theorem dX2_digest_195 : decode cX2_digest 195 = .ok (.iastore, 1) := by decide +kernel
theorem dX2_digest_196 : decode cX2_digest 196 = .ok (.dup, 1) := by decide +kernel
theorem dX2_digest_197 : decode cX2_digest 197 = .ok (.iconst 1, 1) := by decide +kernel
theorem dX2_digest_198 : decode cX2_digest 198 = .ok (.aload_n 0, 1) := by decide +kernel
theorem dX2_digest_199 : decode cX2_digest 199 = .ok (.getfield 32, 3) := by decide +kernel
theorem dX2_digest_202 : decode cX2_digest 202 = .ok (.bipush 12, 2) := by decide +kernel
theorem dX2_digest_204 : decode cX2_digest 204 = .ok (.iload 4, 2) := by decide +kernel
theorem dX2_digest_206 : decode cX2_digest 206 = .ok (.iadd, 1) := by decide +kernel
theorem dX2_digest_207 : decode cX2_digest 207 = .ok (.iaload, 1) := by decide +kernel
theorem dX2_digest_208 : decode cX2_digest 208 = .ok (.iastore, 1) := by decide +kernel
theorem dX2_digest_209 : decode cX2_digest 209 = .ok (.dup, 1) := by decide +kernel
theorem dX2_digest_210 : decode cX2_digest 210 = .ok (.iconst 2, 1) := by decide +kernel
theorem dX2_digest_211 : decode cX2_digest 211 = .ok (.aload_n 0, 1) := by decide +kernel
theorem dX2_digest_212 : decode cX2_digest 212 = .ok (.getfield 32, 3) := by decide +kernel
theorem dX2_digest_215 : decode cX2_digest 215 = .ok (.bipush 22, 2) := by decide +kernel
theorem dX2_digest_217 : decode cX2_digest 217 = .ok (.iload 4, 2) := by decide +kernel
theorem dX2_digest_219 : decode cX2_digest 219 = .ok (.iadd, 1) := by decide +kernel
theorem dX2_digest_220 : decode cX2_digest 220 = .ok (.iaload, 1) := by decide +kernel
theorem dX2_digest_221 : decode cX2_digest 221 = .ok (.iastore, 1) := by decide +kernel
theorem dX2_digest_222 : decode cX2_digest 222 = .ok (.dup, 1) := by decide +kernel
theorem dX2_digest_223 : decode cX2_digest 223 = .ok (.iconst 3, 1) := by decide +kernel
theorem dX2_digest_224 : decode cX2_digest 224 = .ok (.aload_n 0, 1) := by decide +kernel
theorem dX2_digest_225 : decode cX2_digest 225 = .ok (.iload 4, 2) := by decide +kernel
theorem dX2_digest_227 : decode cX2_digest 227 = .ok (.invokevirtual 129, 3) := by decide +kernel
theorem dX2_digest_230 : decode cX2_digest 230 = .ok (.iastore, 1) := by decide +kernel
theorem dX2_digest_231 : decode cX2_digest 231 = .ok (.dup, 1) := by decide +kernel
theorem dX2_digest_232 : decode cX2_digest 232 = .ok (.iconst 4, 1) := by decide +kernel
theorem dX2_digest_233 : decode cX2_digest 233 = .ok (.aload_n 0, 1) := by decide +kernel
theorem dX2_digest_234 : decode cX2_digest 234 = .ok (.iload 4, 2) := by decide +kernel
theorem dX2_digest_236 : decode cX2_digest 236 = .ok (.invokevirtual 136, 3) := by decide +kernel
theorem dX2_digest_239 : decode cX2_digest 239 = .ok (.iastore, 1) := by decide +kernel
theorem dX2_digest_240 : decode cX2_digest 240 = .ok (.dup, 1) := by decide +kernel
theorem dX2_digest_241 : decode cX2_digest 241 = .ok (.iconst 5, 1) := by decide +kernel
theorem dX2_digest_242 : decode cX2_digest 242 = .ok (.aload_n 0, 1) := by decide +kernel
theorem dX2_digest_243 : decode cX2_digest 243 = .ok (.iload 4, 2) := by decide +kernel
theorem dX2_digest_245 : decode cX2_digest 245 = .ok (.invokevirtual 151, 3) := by decide +kernel
theorem dX2_digest_248 : decode cX2_digest 248 = .ok (.iastore, 1) := by decide +kernel
theorem dX2_digest_249 : decode cX2_digest 249 = .ok (.astore 5, 2) := by decide +kernel
theorem dX2_digest_251 : decode cX2_digest 251 = .ok (.aload 5, 2) := by decide +kernel
theorem dX2_digest_253 : decode cX2_digest 253 = .ok (.astore 6, 2) := by decide +kernel
theorem dX2_digest_255 : decode cX2_digest 255 = .ok (.aload 6, 2) := by decide +kernel
theorem dX2_digest_257 : decode cX2_digest 257 = .ok (.arraylength, 1) := by decide +kernel
theorem dX2_digest_258 : decode cX2_digest 258 = .ok (.istore 7, 2) := by decide +kernel
theorem dX2_digest_260 : decode cX2_digest 260 = .ok (.iconst 0, 1) := by decide +kernel
theorem dX2_digest_261 : decode cX2_digest 261 = .ok (.istore 8, 2) := by decide +kernel
theorem dX2_digest_263 : decode cX2_digest 263 = .ok (.iload 8, 2) := by decide +kernel
theorem dX2_digest_265 : decode cX2_digest 265 = .ok (.iload 7, 2) := by decide +kernel
theorem dX2_digest_267 : decode cX2_digest 267 = .ok (.if_icmp .ge 26, 3) := by decide +kernel
theorem dX2_digest_270 : decode cX2_digest 270 = .ok (.aload 6, 2) := by decide +kernel
theorem dX2_digest_272 : decode cX2_digest 272 = .ok (.iload 8, 2) := by decide +kernel
theorem dX2_digest_274 : decode cX2_digest 274 = .ok (.iaload, 1) := by decide +kernel
theorem dX2_digest_275 : decode cX2_digest 275 = .ok (.istore 9, 2) := by decide +kernel
theorem dX2_digest_277 : decode cX2_digest 277 = .ok (.lload_n 2, 1) := by decide +kernel
theorem dX2_digest_278 : decode cX2_digest 278 = .ok (.ldc2_w 169, 3) := by decide +kernel
theorem dX2_digest_281 : decode cX2_digest 281 = .ok (.lmul, 1) := by decide +kernel
theorem dX2_digest_282 : decode cX2_digest 282 = .ok (.iload 9, 2) := by decide +kernel
theorem dX2_digest_284 : decode cX2_digest 284 = .ok (.i2l, 1) := by decide +kernel
theorem dX2_digest_285 : decode cX2_digest 285 = .ok (.ladd, 1) := by decide +kernel
theorem dX2_digest_286 : decode cX2_digest 286 = .ok (.lstore_n 2, 1) := by decide +kernel
theorem dX2_digest_287 : decode cX2_digest 287 = .ok (.iinc 8 1, 3) := by decide +kernel
theorem dX2_digest_290 : decode cX2_digest 290 = .ok (.goto (-27), 3) := by decide +kernel
theorem dX2_digest_293 : decode cX2_digest 293 = .ok (.iinc 4 1, 3) := by decide +kernel
theorem dX2_digest_296 : decode cX2_digest 296 = .ok (.goto (-122), 3) := by decide +kernel
theorem dX2_digest_299 : decode cX2_digest 299 = .ok (.iconst 0, 1) := by decide +kernel
theorem dX2_digest_300 : decode cX2_digest 300 = .ok (.istore 4, 2) := by decide +kernel
theorem dX2_digest_302 : decode cX2_digest 302 = .ok (.iload 4, 2) := by decide +kernel
theorem dX2_digest_304 : decode cX2_digest 304 = .ok (.aload_n 0, 1) := by decide +kernel
theorem dX2_digest_305 : decode cX2_digest 305 = .ok (.getfield 52, 3) := by decide +kernel
theorem dX2_digest_308 : decode cX2_digest 308 = .ok (.if_icmp .ge 63, 3) := by decide +kernel
theorem dX2_digest_311 : decode cX2_digest 311 = .ok (.lload_n 2, 1) := by decide +kernel
theorem dX2_digest_312 : decode cX2_digest 312 = .ok (.ldc2_w 169, 3) := by decide +kernel
theorem dX2_digest_315 : decode cX2_digest 315 = .ok (.lmul, 1) := by decide +kernel
theorem dX2_digest_316 : decode cX2_digest 316 = .ok (.aload_n 0, 1) := by decide +kernel
theorem dX2_digest_317 : decode cX2_digest 317 = .ok (.getfield 29, 3) := by decide +kernel
theorem dX2_digest_320 : decode cX2_digest 320 = .ok (.iload 4, 2) := by decide +kernel
theorem dX2_digest_322 : decode cX2_digest 322 = .ok (.baload, 1) := by decide +kernel
theorem dX2_digest_323 : decode cX2_digest 323 = .ok (.ifCond .eq 7, 3) := by decide +kernel
theorem dX2_digest_326 : decode cX2_digest 326 = .ok (.iconst 1, 1) := by decide +kernel
theorem dX2_digest_327 : decode cX2_digest 327 = .ok (.goto 4, 3) := by decide +kernel
theorem dX2_digest_330 : decode cX2_digest 330 = .ok (.iconst 0, 1) := by decide +kernel
theorem dX2_digest_331 : decode cX2_digest 331 = .ok (.i2l, 1) := by decide +kernel
theorem dX2_digest_332 : decode cX2_digest 332 = .ok (.ladd, 1) := by decide +kernel
theorem dX2_digest_333 : decode cX2_digest 333 = .ok (.ldc2_w 169, 3) := by decide +kernel
theorem dX2_digest_336 : decode cX2_digest 336 = .ok (.lmul, 1) := by decide +kernel
theorem dX2_digest_337 : decode cX2_digest 337 = .ok (.aload_n 0, 1) := by decide +kernel
theorem dX2_digest_338 : decode cX2_digest 338 = .ok (.getfield 32, 3) := by decide +kernel
theorem dX2_digest_341 : decode cX2_digest 341 = .ok (.bipush 32, 2) := by decide +kernel
theorem dX2_digest_343 : decode cX2_digest 343 = .ok (.iload 4, 2) := by decide +kernel
theorem dX2_digest_345 : decode cX2_digest 345 = .ok (.iadd, 1) := by decide +kernel
theorem dX2_digest_346 : decode cX2_digest 346 = .ok (.iaload, 1) := by decide +kernel
theorem dX2_digest_347 : decode cX2_digest 347 = .ok (.i2l, 1) := by decide +kernel
theorem dX2_digest_348 : decode cX2_digest 348 = .ok (.ladd, 1) := by decide +kernel
theorem dX2_digest_349 : decode cX2_digest 349 = .ok (.ldc2_w 169, 3) := by decide +kernel
theorem dX2_digest_352 : decode cX2_digest 352 = .ok (.lmul, 1) := by decide +kernel
theorem dX2_digest_353 : decode cX2_digest 353 = .ok (.aload_n 0, 1) := by decide +kernel
theorem dX2_digest_354 : decode cX2_digest 354 = .ok (.iload 4, 2) := by decide +kernel
theorem dX2_digest_356 : decode cX2_digest 356 = .ok (.invokevirtual 77, 3) := by decide +kernel
theorem dX2_digest_359 : decode cX2_digest 359 = .ok (.invokestatic 74, 3) := by decide +kernel
theorem dX2_digest_362 : decode cX2_digest 362 = .ok (.i2l, 1) := by decide +kernel
theorem dX2_digest_363 : decode cX2_digest 363 = .ok (.ladd, 1) := by decide +kernel
theorem dX2_digest_364 : decode cX2_digest 364 = .ok (.lstore_n 2, 1) := by decide +kernel
theorem dX2_digest_365 : decode cX2_digest 365 = .ok (.iinc 4 1, 3) := by decide +kernel
theorem dX2_digest_368 : decode cX2_digest 368 = .ok (.goto (-66), 3) := by decide +kernel
theorem dX2_digest_371 : decode cX2_digest 371 = .ok (.lload_n 2, 1) := by decide +kernel
theorem dX2_digest_372 : decode cX2_digest 372 = .ok (.lreturn, 1) := by decide +kernel
theorem dJ6_bitCount_0f7a4_0 : decode cJ6_bitCount_0f7a4 0 = .ok (.iload_n 0, 1) := by decide +kernel
theorem dJ6_bitCount_0f7a4_1 : decode cJ6_bitCount_0f7a4 1 = .ok (.iload_n 0, 1) := by decide +kernel
theorem dJ6_bitCount_0f7a4_2 : decode cJ6_bitCount_0f7a4 2 = .ok (.iconst 1, 1) := by decide +kernel
theorem dJ6_bitCount_0f7a4_3 : decode cJ6_bitCount_0f7a4 3 = .ok (.iushr, 1) := by decide +kernel
theorem dJ6_bitCount_0f7a4_4 : decode cJ6_bitCount_0f7a4 4 = .ok (.ldc_w 265, 3) := by decide +kernel
theorem dJ6_bitCount_0f7a4_7 : decode cJ6_bitCount_0f7a4 7 = .ok (.iand, 1) := by decide +kernel
theorem dJ6_bitCount_0f7a4_8 : decode cJ6_bitCount_0f7a4 8 = .ok (.isub, 1) := by decide +kernel
theorem dJ6_bitCount_0f7a4_9 : decode cJ6_bitCount_0f7a4 9 = .ok (.istore_n 0, 1) := by decide +kernel
theorem dJ6_bitCount_0f7a4_10 : decode cJ6_bitCount_0f7a4 10 = .ok (.iload_n 0, 1) := by decide +kernel
theorem dJ6_bitCount_0f7a4_11 : decode cJ6_bitCount_0f7a4 11 = .ok (.ldc_w 266, 3) := by decide +kernel
theorem dJ6_bitCount_0f7a4_14 : decode cJ6_bitCount_0f7a4 14 = .ok (.iand, 1) := by decide +kernel
theorem dJ6_bitCount_0f7a4_15 : decode cJ6_bitCount_0f7a4 15 = .ok (.iload_n 0, 1) := by decide +kernel
theorem dJ6_bitCount_0f7a4_16 : decode cJ6_bitCount_0f7a4 16 = .ok (.iconst 2, 1) := by decide +kernel
theorem dJ6_bitCount_0f7a4_17 : decode cJ6_bitCount_0f7a4 17 = .ok (.iushr, 1) := by decide +kernel
theorem dJ6_bitCount_0f7a4_18 : decode cJ6_bitCount_0f7a4 18 = .ok (.ldc_w 266, 3) := by decide +kernel
theorem dJ6_bitCount_0f7a4_21 : decode cJ6_bitCount_0f7a4 21 = .ok (.iand, 1) := by decide +kernel
theorem dJ6_bitCount_0f7a4_22 : decode cJ6_bitCount_0f7a4 22 = .ok (.iadd, 1) := by decide +kernel
theorem dJ6_bitCount_0f7a4_23 : decode cJ6_bitCount_0f7a4 23 = .ok (.istore_n 0, 1) := by decide +kernel
theorem dJ6_bitCount_0f7a4_24 : decode cJ6_bitCount_0f7a4 24 = .ok (.iload_n 0, 1) := by decide +kernel
theorem dJ6_bitCount_0f7a4_25 : decode cJ6_bitCount_0f7a4 25 = .ok (.iload_n 0, 1) := by decide +kernel
theorem dJ6_bitCount_0f7a4_26 : decode cJ6_bitCount_0f7a4 26 = .ok (.iconst 4, 1) := by decide +kernel
theorem dJ6_bitCount_0f7a4_27 : decode cJ6_bitCount_0f7a4 27 = .ok (.iushr, 1) := by decide +kernel
theorem dJ6_bitCount_0f7a4_28 : decode cJ6_bitCount_0f7a4 28 = .ok (.iadd, 1) := by decide +kernel
theorem dJ6_bitCount_0f7a4_29 : decode cJ6_bitCount_0f7a4 29 = .ok (.ldc_w 267, 3) := by decide +kernel
theorem dJ6_bitCount_0f7a4_32 : decode cJ6_bitCount_0f7a4 32 = .ok (.iand, 1) := by decide +kernel
theorem dJ6_bitCount_0f7a4_33 : decode cJ6_bitCount_0f7a4 33 = .ok (.istore_n 0, 1) := by decide +kernel
theorem dJ6_bitCount_0f7a4_34 : decode cJ6_bitCount_0f7a4 34 = .ok (.iload_n 0, 1) := by decide +kernel
theorem dJ6_bitCount_0f7a4_35 : decode cJ6_bitCount_0f7a4 35 = .ok (.iload_n 0, 1) := by decide +kernel
theorem dJ6_bitCount_0f7a4_36 : decode cJ6_bitCount_0f7a4 36 = .ok (.bipush 8, 2) := by decide +kernel
theorem dJ6_bitCount_0f7a4_38 : decode cJ6_bitCount_0f7a4 38 = .ok (.iushr, 1) := by decide +kernel
theorem dJ6_bitCount_0f7a4_39 : decode cJ6_bitCount_0f7a4 39 = .ok (.iadd, 1) := by decide +kernel
theorem dJ6_bitCount_0f7a4_40 : decode cJ6_bitCount_0f7a4 40 = .ok (.istore_n 0, 1) := by decide +kernel
theorem dJ6_bitCount_0f7a4_41 : decode cJ6_bitCount_0f7a4 41 = .ok (.iload_n 0, 1) := by decide +kernel
theorem dJ6_bitCount_0f7a4_42 : decode cJ6_bitCount_0f7a4 42 = .ok (.iload_n 0, 1) := by decide +kernel
theorem dJ6_bitCount_0f7a4_43 : decode cJ6_bitCount_0f7a4 43 = .ok (.bipush 16, 2) := by decide +kernel
theorem dJ6_bitCount_0f7a4_45 : decode cJ6_bitCount_0f7a4 45 = .ok (.iushr, 1) := by decide +kernel
theorem dJ6_bitCount_0f7a4_46 : decode cJ6_bitCount_0f7a4 46 = .ok (.iadd, 1) := by decide +kernel
theorem dJ6_bitCount_0f7a4_47 : decode cJ6_bitCount_0f7a4 47 = .ok (.istore_n 0, 1) := by decide +kernel
theorem dJ6_bitCount_0f7a4_48 : decode cJ6_bitCount_0f7a4 48 = .ok (.iload_n 0, 1) := by decide +kernel
theorem dJ6_bitCount_0f7a4_49 : decode cJ6_bitCount_0f7a4 49 = .ok (.bipush 63, 2) := by decide +kernel
theorem dJ6_bitCount_0f7a4_51 : decode cJ6_bitCount_0f7a4 51 = .ok (.iand, 1) := by decide +kernel
theorem dJ6_bitCount_0f7a4_52 : decode cJ6_bitCount_0f7a4 52 = .ok (.ireturn, 1) := by decide +kernel
theorem dL_addField_0 : decode cL_addField 0 = .ok (.aload_n 3, 1) := by decide +kernel
theorem dL_addField_1 : decode cL_addField 1 = .ok (.iconst 0, 1) := by decide +kernel
theorem dL_addField_2 : decode cL_addField 2 = .ok (.aload_n 0, 1) := by decide +kernel
theorem dL_addField_3 : decode cL_addField 3 = .ok (.iload_n 1, 1) := by decide +kernel
theorem dL_addField_4 : decode cL_addField 4 = .ok (.iload_n 2, 1) := by decide +kernel
theorem dL_addField_5 : decode cL_addField 5 = .ok (.invokevirtual 7, 3) := by decide +kernel
theorem dL_addField_8 : decode cL_addField 8 = .ok (.i2l, 1) := by decide +kernel
theorem dL_addField_9 : decode cL_addField 9 = .ok (.lastore, 1) := by decide +kernel
theorem dL_addField_10 : decode cL_addField 10 = .ok (.goto 11, 3) := by decide +kernel
theorem dL_addField_13 : decode cL_addField 13 = .ok (.astore 4, 2) := by decide +kernel
theorem dL_addField_15 : decode cL_addField 15 = .ok (.iconst 1, 1) := by decide +kernel
theorem dL_addField_16 : decode cL_addField 16 = .ok (.ireturn, 1) := by decide +kernel
theorem dL_addField_17 : decode cL_addField 17 = .ok (.astore 4, 2) := by decide +kernel
theorem dL_addField_19 : decode cL_addField 19 = .ok (.iconst 2, 1) := by decide +kernel
theorem dL_addField_20 : decode cL_addField 20 = .ok (.ireturn, 1) := by decide +kernel
theorem dL_addField_21 : decode cL_addField 21 = .ok (.iconst 0, 1) := by decide +kernel
theorem dL_addField_22 : decode cL_addField 22 = .ok (.ireturn, 1) := by decide +kernel
theorem dL_addDitch_0 : decode cL_addDitch 0 = .ok (.aload 4, 2) := by decide +kernel
theorem dL_addDitch_2 : decode cL_addDitch 2 = .ok (.iconst 0, 1) := by decide +kernel
theorem dL_addDitch_3 : decode cL_addDitch 3 = .ok (.aload_n 0, 1) := by decide +kernel
theorem dL_addDitch_4 : decode cL_addDitch 4 = .ok (.iload_n 1, 1) := by decide +kernel
theorem dL_addDitch_5 : decode cL_addDitch 5 = .ok (.iload_n 2, 1) := by decide +kernel
theorem dL_addDitch_6 : decode cL_addDitch 6 = .ok (.iload_n 3, 1) := by decide +kernel
theorem dL_addDitch_7 : decode cL_addDitch 7 = .ok (.invokevirtual 17, 3) := by decide +kernel
theorem dL_addDitch_10 : decode cL_addDitch 10 = .ok (.i2l, 1) := by decide +kernel
theorem dL_addDitch_11 : decode cL_addDitch 11 = .ok (.lastore, 1) := by decide +kernel
theorem dL_addDitch_12 : decode cL_addDitch 12 = .ok (.goto 15, 3) := by decide +kernel
theorem dL_addDitch_15 : decode cL_addDitch 15 = .ok (.astore 5, 2) := by decide +kernel
theorem dL_addDitch_17 : decode cL_addDitch 17 = .ok (.iconst 1, 1) := by decide +kernel
theorem dL_addDitch_18 : decode cL_addDitch 18 = .ok (.ireturn, 1) := by decide +kernel
theorem dL_addDitch_19 : decode cL_addDitch 19 = .ok (.astore 5, 2) := by decide +kernel
theorem dL_addDitch_21 : decode cL_addDitch 21 = .ok (.iconst 2, 1) := by decide +kernel
theorem dL_addDitch_22 : decode cL_addDitch 22 = .ok (.ireturn, 1) := by decide +kernel
theorem dL_addDitch_23 : decode cL_addDitch 23 = .ok (.astore 5, 2) := by decide +kernel
theorem dL_addDitch_25 : decode cL_addDitch 25 = .ok (.iconst 3, 1) := by decide +kernel
theorem dL_addDitch_26 : decode cL_addDitch 26 = .ok (.ireturn, 1) := by decide +kernel
theorem dL_addDitch_27 : decode cL_addDitch 27 = .ok (.iconst 0, 1) := by decide +kernel
theorem dL_addDitch_28 : decode cL_addDitch 28 = .ok (.ireturn, 1) := by decide +kernel
theorem dL_addPump_0 : decode cL_addPump 0 = .ok (.aload 4, 2) := by decide +kernel
theorem dL_addPump_2 : decode cL_addPump 2 = .ok (.iconst 0, 1) := by decide +kernel
theorem dL_addPump_3 : decode cL_addPump 3 = .ok (.aload_n 0, 1) := by decide +kernel
theorem dL_addPump_4 : decode cL_addPump 4 = .ok (.iload_n 1, 1) := by decide +kernel
theorem dL_addPump_5 : decode cL_addPump 5 = .ok (.iload_n 2, 1) := by decide +kernel
theorem dL_addPump_6 : decode cL_addPump 6 = .ok (.iload_n 3, 1) := by decide +kernel
theorem dL_addPump_7 : decode cL_addPump 7 = .ok (.invokevirtual 23, 3) := by decide +kernel
theorem dL_addPump_10 : decode cL_addPump 10 = .ok (.i2l, 1) := by decide +kernel
theorem dL_addPump_11 : decode cL_addPump 11 = .ok (.lastore, 1) := by decide +kernel
theorem dL_addPump_12 : decode cL_addPump 12 = .ok (.goto 15, 3) := by decide +kernel
theorem dL_addPump_15 : decode cL_addPump 15 = .ok (.astore 5, 2) := by decide +kernel
theorem dL_addPump_17 : decode cL_addPump 17 = .ok (.iconst 1, 1) := by decide +kernel
theorem dL_addPump_18 : decode cL_addPump 18 = .ok (.ireturn, 1) := by decide +kernel
theorem dL_addPump_19 : decode cL_addPump 19 = .ok (.astore 5, 2) := by decide +kernel
theorem dL_addPump_21 : decode cL_addPump 21 = .ok (.iconst 2, 1) := by decide +kernel
theorem dL_addPump_22 : decode cL_addPump 22 = .ok (.ireturn, 1) := by decide +kernel
theorem dL_addPump_23 : decode cL_addPump 23 = .ok (.astore 5, 2) := by decide +kernel
theorem dL_addPump_25 : decode cL_addPump 25 = .ok (.iconst 3, 1) := by decide +kernel
theorem dL_addPump_26 : decode cL_addPump 26 = .ok (.ireturn, 1) := by decide +kernel
theorem dL_addPump_27 : decode cL_addPump 27 = .ok (.iconst 0, 1) := by decide +kernel
theorem dL_addPump_28 : decode cL_addPump 28 = .ok (.ireturn, 1) := by decide +kernel
theorem dL_turn_0 : decode cL_turn 0 = .ok (.aload_n 2, 1) := by decide +kernel
theorem dL_turn_1 : decode cL_turn 1 = .ok (.iconst 0, 1) := by decide +kernel
theorem dL_turn_2 : decode cL_turn 2 = .ok (.aload_n 0, 1) := by decide +kernel
theorem dL_turn_3 : decode cL_turn 3 = .ok (.iload_n 1, 1) := by decide +kernel
theorem dL_turn_4 : decode cL_turn 4 = .ok (.invokevirtual 26, 3) := by decide +kernel
theorem dL_turn_7 : decode cL_turn 7 = .ok (.ifCond .eq 7, 3) := by decide +kernel
theorem dL_turn_10 : decode cL_turn 10 = .ok (.lconst 1, 1) := by decide +kernel
theorem dL_turn_11 : decode cL_turn 11 = .ok (.goto 4, 3) := by decide +kernel
theorem dL_turn_14 : decode cL_turn 14 = .ok (.lconst 0, 1) := by decide +kernel
theorem dL_turn_15 : decode cL_turn 15 = .ok (.lastore, 1) := by decide +kernel
theorem dL_turn_16 : decode cL_turn 16 = .ok (.goto 6, 3) := by decide +kernel
theorem dL_turn_19 : decode cL_turn 19 = .ok (.astore_n 3, 1) := by decide +kernel
theorem dL_turn_20 : decode cL_turn 20 = .ok (.iconst 1, 1) := by decide +kernel
theorem dL_turn_21 : decode cL_turn 21 = .ok (.ireturn, 1) := by decide +kernel
theorem dL_turn_22 : decode cL_turn 22 = .ok (.iconst 0, 1) := by decide +kernel
theorem dL_turn_23 : decode cL_turn 23 = .ok (.ireturn, 1) := by decide +kernel
theorem dL_setRain_0 : decode cL_setRain 0 = .ok (.aload_n 2, 1) := by decide +kernel
theorem dL_setRain_1 : decode cL_setRain 1 = .ok (.iconst 0, 1) := by decide +kernel
theorem dL_setRain_2 : decode cL_setRain 2 = .ok (.aload_n 0, 1) := by decide +kernel
theorem dL_setRain_3 : decode cL_setRain 3 = .ok (.iload_n 1, 1) := by decide +kernel
theorem dL_setRain_4 : decode cL_setRain 4 = .ok (.invokevirtual 30, 3) := by decide +kernel
theorem dL_setRain_7 : decode cL_setRain 7 = .ok (.i2l, 1) := by decide +kernel
theorem dL_setRain_8 : decode cL_setRain 8 = .ok (.lastore, 1) := by decide +kernel
theorem dL_setRain_9 : decode cL_setRain 9 = .ok (.goto 6, 3) := by decide +kernel
theorem dL_setRain_12 : decode cL_setRain 12 = .ok (.astore_n 3, 1) := by decide +kernel
theorem dL_setRain_13 : decode cL_setRain 13 = .ok (.iconst 1, 1) := by decide +kernel
theorem dL_setRain_14 : decode cL_setRain 14 = .ok (.ireturn, 1) := by decide +kernel
theorem dL_setRain_15 : decode cL_setRain 15 = .ok (.iconst 0, 1) := by decide +kernel
theorem dL_setRain_16 : decode cL_setRain 16 = .ok (.ireturn, 1) := by decide +kernel
theorem dL_flood_0 : decode cL_flood 0 = .ok (.aload_n 3, 1) := by decide +kernel
theorem dL_flood_1 : decode cL_flood 1 = .ok (.iconst 0, 1) := by decide +kernel
theorem dL_flood_2 : decode cL_flood 2 = .ok (.aload_n 0, 1) := by decide +kernel
theorem dL_flood_3 : decode cL_flood 3 = .ok (.iload_n 1, 1) := by decide +kernel
theorem dL_flood_4 : decode cL_flood 4 = .ok (.iload_n 2, 1) := by decide +kernel
theorem dL_flood_5 : decode cL_flood 5 = .ok (.invokevirtual 34, 3) := by decide +kernel
theorem dL_flood_8 : decode cL_flood 8 = .ok (.i2l, 1) := by decide +kernel
theorem dL_flood_9 : decode cL_flood 9 = .ok (.lastore, 1) := by decide +kernel
theorem dL_flood_10 : decode cL_flood 10 = .ok (.goto 11, 3) := by decide +kernel
theorem dL_flood_13 : decode cL_flood 13 = .ok (.astore 4, 2) := by decide +kernel
theorem dL_flood_15 : decode cL_flood 15 = .ok (.iconst 1, 1) := by decide +kernel
theorem dL_flood_16 : decode cL_flood 16 = .ok (.ireturn, 1) := by decide +kernel
theorem dL_flood_17 : decode cL_flood 17 = .ok (.astore 4, 2) := by decide +kernel
theorem dL_flood_19 : decode cL_flood 19 = .ok (.iconst 2, 1) := by decide +kernel
theorem dL_flood_20 : decode cL_flood 20 = .ok (.ireturn, 1) := by decide +kernel
theorem dL_flood_21 : decode cL_flood 21 = .ok (.iconst 0, 1) := by decide +kernel
theorem dL_flood_22 : decode cL_flood 22 = .ok (.ireturn, 1) := by decide +kernel
theorem dL_pass_0 : decode cL_pass 0 = .ok (.aload_n 2, 1) := by decide +kernel
theorem dL_pass_1 : decode cL_pass 1 = .ok (.iconst 0, 1) := by decide +kernel
theorem dL_pass_2 : decode cL_pass 2 = .ok (.aload_n 0, 1) := by decide +kernel
theorem dL_pass_3 : decode cL_pass 3 = .ok (.iload_n 1, 1) := by decide +kernel
theorem dL_pass_4 : decode cL_pass 4 = .ok (.invokevirtual 37, 3) := by decide +kernel
theorem dL_pass_7 : decode cL_pass 7 = .ok (.i2l, 1) := by decide +kernel
theorem dL_pass_8 : decode cL_pass 8 = .ok (.lastore, 1) := by decide +kernel
theorem dL_pass_9 : decode cL_pass 9 = .ok (.goto 6, 3) := by decide +kernel
theorem dL_pass_12 : decode cL_pass 12 = .ok (.astore_n 3, 1) := by decide +kernel
theorem dL_pass_13 : decode cL_pass 13 = .ok (.iconst 1, 1) := by decide +kernel
theorem dL_pass_14 : decode cL_pass 14 = .ok (.ireturn, 1) := by decide +kernel
theorem dL_pass_15 : decode cL_pass 15 = .ok (.iconst 0, 1) := by decide +kernel
theorem dL_pass_16 : decode cL_pass 16 = .ok (.ireturn, 1) := by decide +kernel
theorem dL_waterOn_0 : decode cL_waterOn 0 = .ok (.aload_n 2, 1) := by decide +kernel
theorem dL_waterOn_1 : decode cL_waterOn 1 = .ok (.iconst 0, 1) := by decide +kernel
theorem dL_waterOn_2 : decode cL_waterOn 2 = .ok (.aload_n 0, 1) := by decide +kernel
theorem dL_waterOn_3 : decode cL_waterOn 3 = .ok (.iload_n 1, 1) := by decide +kernel
theorem dL_waterOn_4 : decode cL_waterOn 4 = .ok (.invokevirtual 40, 3) := by decide +kernel
theorem dL_waterOn_7 : decode cL_waterOn 7 = .ok (.i2l, 1) := by decide +kernel
theorem dL_waterOn_8 : decode cL_waterOn 8 = .ok (.lastore, 1) := by decide +kernel
theorem dL_waterOn_9 : decode cL_waterOn 9 = .ok (.goto 6, 3) := by decide +kernel
theorem dL_waterOn_12 : decode cL_waterOn 12 = .ok (.astore_n 3, 1) := by decide +kernel
theorem dL_waterOn_13 : decode cL_waterOn 13 = .ok (.iconst 1, 1) := by decide +kernel
theorem dL_waterOn_14 : decode cL_waterOn 14 = .ok (.ireturn, 1) := by decide +kernel
theorem dL_waterOn_15 : decode cL_waterOn 15 = .ok (.iconst 0, 1) := by decide +kernel
theorem dL_waterOn_16 : decode cL_waterOn 16 = .ok (.ireturn, 1) := by decide +kernel
theorem dL_levelOf_0 : decode cL_levelOf 0 = .ok (.aload_n 2, 1) := by decide +kernel
theorem dL_levelOf_1 : decode cL_levelOf 1 = .ok (.iconst 0, 1) := by decide +kernel
theorem dL_levelOf_2 : decode cL_levelOf 2 = .ok (.aload_n 0, 1) := by decide +kernel
theorem dL_levelOf_3 : decode cL_levelOf 3 = .ok (.iload_n 1, 1) := by decide +kernel
theorem dL_levelOf_4 : decode cL_levelOf 4 = .ok (.invokevirtual 43, 3) := by decide +kernel
theorem dL_levelOf_7 : decode cL_levelOf 7 = .ok (.i2l, 1) := by decide +kernel
theorem dL_levelOf_8 : decode cL_levelOf 8 = .ok (.lastore, 1) := by decide +kernel
theorem dL_levelOf_9 : decode cL_levelOf 9 = .ok (.goto 6, 3) := by decide +kernel
theorem dL_levelOf_12 : decode cL_levelOf 12 = .ok (.astore_n 3, 1) := by decide +kernel
theorem dL_levelOf_13 : decode cL_levelOf 13 = .ok (.iconst 1, 1) := by decide +kernel
theorem dL_levelOf_14 : decode cL_levelOf 14 = .ok (.ireturn, 1) := by decide +kernel
theorem dL_levelOf_15 : decode cL_levelOf 15 = .ok (.iconst 0, 1) := by decide +kernel
theorem dL_levelOf_16 : decode cL_levelOf 16 = .ok (.ireturn, 1) := by decide +kernel
theorem dL_wetFor_0 : decode cL_wetFor 0 = .ok (.aload_n 2, 1) := by decide +kernel
theorem dL_wetFor_1 : decode cL_wetFor 1 = .ok (.iconst 0, 1) := by decide +kernel
theorem dL_wetFor_2 : decode cL_wetFor 2 = .ok (.aload_n 0, 1) := by decide +kernel
theorem dL_wetFor_3 : decode cL_wetFor 3 = .ok (.iload_n 1, 1) := by decide +kernel
theorem dL_wetFor_4 : decode cL_wetFor 4 = .ok (.invokevirtual 46, 3) := by decide +kernel
theorem dL_wetFor_7 : decode cL_wetFor 7 = .ok (.i2l, 1) := by decide +kernel
theorem dL_wetFor_8 : decode cL_wetFor 8 = .ok (.lastore, 1) := by decide +kernel
theorem dL_wetFor_9 : decode cL_wetFor 9 = .ok (.goto 6, 3) := by decide +kernel
theorem dL_wetFor_12 : decode cL_wetFor 12 = .ok (.astore_n 3, 1) := by decide +kernel
theorem dL_wetFor_13 : decode cL_wetFor 13 = .ok (.iconst 1, 1) := by decide +kernel
theorem dL_wetFor_14 : decode cL_wetFor 14 = .ok (.ireturn, 1) := by decide +kernel
theorem dL_wetFor_15 : decode cL_wetFor 15 = .ok (.iconst 0, 1) := by decide +kernel
theorem dL_wetFor_16 : decode cL_wetFor 16 = .ok (.ireturn, 1) := by decide +kernel
theorem dL_isRuined_0 : decode cL_isRuined 0 = .ok (.aload_n 2, 1) := by decide +kernel
theorem dL_isRuined_1 : decode cL_isRuined 1 = .ok (.iconst 0, 1) := by decide +kernel
theorem dL_isRuined_2 : decode cL_isRuined 2 = .ok (.aload_n 0, 1) := by decide +kernel
theorem dL_isRuined_3 : decode cL_isRuined 3 = .ok (.iload_n 1, 1) := by decide +kernel
theorem dL_isRuined_4 : decode cL_isRuined 4 = .ok (.invokevirtual 49, 3) := by decide +kernel
theorem dL_isRuined_7 : decode cL_isRuined 7 = .ok (.ifCond .eq 7, 3) := by decide +kernel
theorem dL_isRuined_10 : decode cL_isRuined 10 = .ok (.lconst 1, 1) := by decide +kernel
theorem dL_isRuined_11 : decode cL_isRuined 11 = .ok (.goto 4, 3) := by decide +kernel
theorem dL_isRuined_14 : decode cL_isRuined 14 = .ok (.lconst 0, 1) := by decide +kernel
theorem dL_isRuined_15 : decode cL_isRuined 15 = .ok (.lastore, 1) := by decide +kernel
theorem dL_isRuined_16 : decode cL_isRuined 16 = .ok (.goto 6, 3) := by decide +kernel
theorem dL_isRuined_19 : decode cL_isRuined 19 = .ok (.astore_n 3, 1) := by decide +kernel
theorem dL_isRuined_20 : decode cL_isRuined 20 = .ok (.iconst 1, 1) := by decide +kernel
theorem dL_isRuined_21 : decode cL_isRuined 21 = .ok (.ireturn, 1) := by decide +kernel
theorem dL_isRuined_22 : decode cL_isRuined 22 = .ok (.iconst 0, 1) := by decide +kernel
theorem dL_isRuined_23 : decode cL_isRuined 23 = .ok (.ireturn, 1) := by decide +kernel
theorem dL_drainsAt_0 : decode cL_drainsAt 0 = .ok (.aload_n 2, 1) := by decide +kernel
theorem dL_drainsAt_1 : decode cL_drainsAt 1 = .ok (.iconst 0, 1) := by decide +kernel
theorem dL_drainsAt_2 : decode cL_drainsAt 2 = .ok (.aload_n 0, 1) := by decide +kernel
theorem dL_drainsAt_3 : decode cL_drainsAt 3 = .ok (.iload_n 1, 1) := by decide +kernel
theorem dL_drainsAt_4 : decode cL_drainsAt 4 = .ok (.invokevirtual 52, 3) := by decide +kernel
theorem dL_drainsAt_7 : decode cL_drainsAt 7 = .ok (.i2l, 1) := by decide +kernel
theorem dL_drainsAt_8 : decode cL_drainsAt 8 = .ok (.lastore, 1) := by decide +kernel
theorem dL_drainsAt_9 : decode cL_drainsAt 9 = .ok (.goto 6, 3) := by decide +kernel
theorem dL_drainsAt_12 : decode cL_drainsAt 12 = .ok (.astore_n 3, 1) := by decide +kernel
theorem dL_drainsAt_13 : decode cL_drainsAt 13 = .ok (.iconst 1, 1) := by decide +kernel
theorem dL_drainsAt_14 : decode cL_drainsAt 14 = .ok (.ireturn, 1) := by decide +kernel
theorem dL_drainsAt_15 : decode cL_drainsAt 15 = .ok (.iconst 0, 1) := by decide +kernel
theorem dL_drainsAt_16 : decode cL_drainsAt 16 = .ok (.ireturn, 1) := by decide +kernel
theorem dL_reaches_0 : decode cL_reaches 0 = .ok (.aload_n 2, 1) := by decide +kernel
theorem dL_reaches_1 : decode cL_reaches 1 = .ok (.iconst 0, 1) := by decide +kernel
theorem dL_reaches_2 : decode cL_reaches 2 = .ok (.aload_n 0, 1) := by decide +kernel
theorem dL_reaches_3 : decode cL_reaches 3 = .ok (.iload_n 1, 1) := by decide +kernel
theorem dL_reaches_4 : decode cL_reaches 4 = .ok (.invokevirtual 55, 3) := by decide +kernel
theorem dL_reaches_7 : decode cL_reaches 7 = .ok (.i2l, 1) := by decide +kernel
theorem dL_reaches_8 : decode cL_reaches 8 = .ok (.lastore, 1) := by decide +kernel
theorem dL_reaches_9 : decode cL_reaches 9 = .ok (.goto 6, 3) := by decide +kernel
theorem dL_reaches_12 : decode cL_reaches 12 = .ok (.astore_n 3, 1) := by decide +kernel
theorem dL_reaches_13 : decode cL_reaches 13 = .ok (.iconst 1, 1) := by decide +kernel
theorem dL_reaches_14 : decode cL_reaches 14 = .ok (.ireturn, 1) := by decide +kernel
theorem dL_reaches_15 : decode cL_reaches 15 = .ok (.iconst 0, 1) := by decide +kernel
theorem dL_reaches_16 : decode cL_reaches 16 = .ok (.ireturn, 1) := by decide +kernel
theorem dL_isPump_0 : decode cL_isPump 0 = .ok (.aload_n 2, 1) := by decide +kernel
theorem dL_isPump_1 : decode cL_isPump 1 = .ok (.iconst 0, 1) := by decide +kernel
theorem dL_isPump_2 : decode cL_isPump 2 = .ok (.aload_n 0, 1) := by decide +kernel
theorem dL_isPump_3 : decode cL_isPump 3 = .ok (.iload_n 1, 1) := by decide +kernel
theorem dL_isPump_4 : decode cL_isPump 4 = .ok (.invokevirtual 58, 3) := by decide +kernel
theorem dL_isPump_7 : decode cL_isPump 7 = .ok (.ifCond .eq 7, 3) := by decide +kernel
theorem dL_isPump_10 : decode cL_isPump 10 = .ok (.lconst 1, 1) := by decide +kernel
theorem dL_isPump_11 : decode cL_isPump 11 = .ok (.goto 4, 3) := by decide +kernel
theorem dL_isPump_14 : decode cL_isPump 14 = .ok (.lconst 0, 1) := by decide +kernel
theorem dL_isPump_15 : decode cL_isPump 15 = .ok (.lastore, 1) := by decide +kernel
theorem dL_isPump_16 : decode cL_isPump 16 = .ok (.goto 6, 3) := by decide +kernel
theorem dL_isPump_19 : decode cL_isPump 19 = .ok (.astore_n 3, 1) := by decide +kernel
theorem dL_isPump_20 : decode cL_isPump 20 = .ok (.iconst 1, 1) := by decide +kernel
theorem dL_isPump_21 : decode cL_isPump 21 = .ok (.ireturn, 1) := by decide +kernel
theorem dL_isPump_22 : decode cL_isPump 22 = .ok (.iconst 0, 1) := by decide +kernel
theorem dL_isPump_23 : decode cL_isPump 23 = .ok (.ireturn, 1) := by decide +kernel
theorem dL_isOpen_0 : decode cL_isOpen 0 = .ok (.aload_n 2, 1) := by decide +kernel
theorem dL_isOpen_1 : decode cL_isOpen 1 = .ok (.iconst 0, 1) := by decide +kernel
theorem dL_isOpen_2 : decode cL_isOpen 2 = .ok (.aload_n 0, 1) := by decide +kernel
theorem dL_isOpen_3 : decode cL_isOpen 3 = .ok (.iload_n 1, 1) := by decide +kernel
theorem dL_isOpen_4 : decode cL_isOpen 4 = .ok (.invokevirtual 61, 3) := by decide +kernel
theorem dL_isOpen_7 : decode cL_isOpen 7 = .ok (.ifCond .eq 7, 3) := by decide +kernel
theorem dL_isOpen_10 : decode cL_isOpen 10 = .ok (.lconst 1, 1) := by decide +kernel
theorem dL_isOpen_11 : decode cL_isOpen 11 = .ok (.goto 4, 3) := by decide +kernel
theorem dL_isOpen_14 : decode cL_isOpen 14 = .ok (.lconst 0, 1) := by decide +kernel
theorem dL_isOpen_15 : decode cL_isOpen 15 = .ok (.lastore, 1) := by decide +kernel
theorem dL_isOpen_16 : decode cL_isOpen 16 = .ok (.goto 6, 3) := by decide +kernel
theorem dL_isOpen_19 : decode cL_isOpen 19 = .ok (.astore_n 3, 1) := by decide +kernel
theorem dL_isOpen_20 : decode cL_isOpen 20 = .ok (.iconst 1, 1) := by decide +kernel
theorem dL_isOpen_21 : decode cL_isOpen 21 = .ok (.ireturn, 1) := by decide +kernel
theorem dL_isOpen_22 : decode cL_isOpen 22 = .ok (.iconst 0, 1) := by decide +kernel
theorem dL_isOpen_23 : decode cL_isOpen 23 = .ok (.ireturn, 1) := by decide +kernel
theorem dL_carriedBy_0 : decode cL_carriedBy 0 = .ok (.aload_n 2, 1) := by decide +kernel
theorem dL_carriedBy_1 : decode cL_carriedBy 1 = .ok (.iconst 0, 1) := by decide +kernel
theorem dL_carriedBy_2 : decode cL_carriedBy 2 = .ok (.aload_n 0, 1) := by decide +kernel
theorem dL_carriedBy_3 : decode cL_carriedBy 3 = .ok (.iload_n 1, 1) := by decide +kernel
theorem dL_carriedBy_4 : decode cL_carriedBy 4 = .ok (.invokevirtual 64, 3) := by decide +kernel
theorem dL_carriedBy_7 : decode cL_carriedBy 7 = .ok (.i2l, 1) := by decide +kernel
theorem dL_carriedBy_8 : decode cL_carriedBy 8 = .ok (.lastore, 1) := by decide +kernel
theorem dL_carriedBy_9 : decode cL_carriedBy 9 = .ok (.goto 6, 3) := by decide +kernel
theorem dL_carriedBy_12 : decode cL_carriedBy 12 = .ok (.astore_n 3, 1) := by decide +kernel
theorem dL_carriedBy_13 : decode cL_carriedBy 13 = .ok (.iconst 1, 1) := by decide +kernel
theorem dL_carriedBy_14 : decode cL_carriedBy 14 = .ok (.ireturn, 1) := by decide +kernel
theorem dL_carriedBy_15 : decode cL_carriedBy 15 = .ok (.iconst 0, 1) := by decide +kernel
theorem dL_carriedBy_16 : decode cL_carriedBy 16 = .ok (.ireturn, 1) := by decide +kernel
theorem dL_wouldCarry_0 : decode cL_wouldCarry 0 = .ok (.aload_n 2, 1) := by decide +kernel
theorem dL_wouldCarry_1 : decode cL_wouldCarry 1 = .ok (.iconst 0, 1) := by decide +kernel
theorem dL_wouldCarry_2 : decode cL_wouldCarry 2 = .ok (.aload_n 0, 1) := by decide +kernel
theorem dL_wouldCarry_3 : decode cL_wouldCarry 3 = .ok (.iload_n 1, 1) := by decide +kernel
theorem dL_wouldCarry_4 : decode cL_wouldCarry 4 = .ok (.invokevirtual 67, 3) := by decide +kernel
theorem dL_wouldCarry_7 : decode cL_wouldCarry 7 = .ok (.i2l, 1) := by decide +kernel
theorem dL_wouldCarry_8 : decode cL_wouldCarry 8 = .ok (.lastore, 1) := by decide +kernel
theorem dL_wouldCarry_9 : decode cL_wouldCarry 9 = .ok (.goto 6, 3) := by decide +kernel
theorem dL_wouldCarry_12 : decode cL_wouldCarry 12 = .ok (.astore_n 3, 1) := by decide +kernel
theorem dL_wouldCarry_13 : decode cL_wouldCarry 13 = .ok (.iconst 1, 1) := by decide +kernel
theorem dL_wouldCarry_14 : decode cL_wouldCarry 14 = .ok (.ireturn, 1) := by decide +kernel
theorem dL_wouldCarry_15 : decode cL_wouldCarry 15 = .ok (.iconst 0, 1) := by decide +kernel
theorem dL_wouldCarry_16 : decode cL_wouldCarry 16 = .ok (.ireturn, 1) := by decide +kernel
theorem dL_hoursUntilRuined_0 : decode cL_hoursUntilRuined 0 = .ok (.aload_n 2, 1) := by decide +kernel
theorem dL_hoursUntilRuined_1 : decode cL_hoursUntilRuined 1 = .ok (.iconst 0, 1) := by decide +kernel
theorem dL_hoursUntilRuined_2 : decode cL_hoursUntilRuined 2 = .ok (.aload_n 0, 1) := by decide +kernel
theorem dL_hoursUntilRuined_3 : decode cL_hoursUntilRuined 3 = .ok (.iload_n 1, 1) := by decide +kernel
theorem dL_hoursUntilRuined_4 : decode cL_hoursUntilRuined 4 = .ok (.invokevirtual 70, 3) := by decide +kernel
theorem dL_hoursUntilRuined_7 : decode cL_hoursUntilRuined 7 = .ok (.i2l, 1) := by decide +kernel
theorem dL_hoursUntilRuined_8 : decode cL_hoursUntilRuined 8 = .ok (.lastore, 1) := by decide +kernel
theorem dL_hoursUntilRuined_9 : decode cL_hoursUntilRuined 9 = .ok (.goto 6, 3) := by decide +kernel
theorem dL_hoursUntilRuined_12 : decode cL_hoursUntilRuined 12 = .ok (.astore_n 3, 1) := by decide +kernel
theorem dL_hoursUntilRuined_13 : decode cL_hoursUntilRuined 13 = .ok (.iconst 1, 1) := by decide +kernel
theorem dL_hoursUntilRuined_14 : decode cL_hoursUntilRuined 14 = .ok (.ireturn, 1) := by decide +kernel
theorem dL_hoursUntilRuined_15 : decode cL_hoursUntilRuined 15 = .ok (.iconst 0, 1) := by decide +kernel
theorem dL_hoursUntilRuined_16 : decode cL_hoursUntilRuined 16 = .ok (.ireturn, 1) := by decide +kernel
theorem dL_lossIn_0 : decode cL_lossIn 0 = .ok (.aload_n 2, 1) := by decide +kernel
theorem dL_lossIn_1 : decode cL_lossIn 1 = .ok (.iconst 0, 1) := by decide +kernel
theorem dL_lossIn_2 : decode cL_lossIn 2 = .ok (.aload_n 0, 1) := by decide +kernel
theorem dL_lossIn_3 : decode cL_lossIn 3 = .ok (.iload_n 1, 1) := by decide +kernel
theorem dL_lossIn_4 : decode cL_lossIn 4 = .ok (.invokevirtual 73, 3) := by decide +kernel
theorem dL_lossIn_7 : decode cL_lossIn 7 = .ok (.i2l, 1) := by decide +kernel
theorem dL_lossIn_8 : decode cL_lossIn 8 = .ok (.lastore, 1) := by decide +kernel
theorem dL_lossIn_9 : decode cL_lossIn 9 = .ok (.goto 6, 3) := by decide +kernel
theorem dL_lossIn_12 : decode cL_lossIn 12 = .ok (.astore_n 3, 1) := by decide +kernel
theorem dL_lossIn_13 : decode cL_lossIn 13 = .ok (.iconst 1, 1) := by decide +kernel
theorem dL_lossIn_14 : decode cL_lossIn 14 = .ok (.ireturn, 1) := by decide +kernel
theorem dL_lossIn_15 : decode cL_lossIn 15 = .ok (.iconst 0, 1) := by decide +kernel
theorem dL_lossIn_16 : decode cL_lossIn 16 = .ok (.ireturn, 1) := by decide +kernel
theorem dL_waterIn_0 : decode cL_waterIn 0 = .ok (.aload_n 3, 1) := by decide +kernel
theorem dL_waterIn_1 : decode cL_waterIn 1 = .ok (.iconst 0, 1) := by decide +kernel
theorem dL_waterIn_2 : decode cL_waterIn 2 = .ok (.aload_n 0, 1) := by decide +kernel
theorem dL_waterIn_3 : decode cL_waterIn 3 = .ok (.iload_n 1, 1) := by decide +kernel
theorem dL_waterIn_4 : decode cL_waterIn 4 = .ok (.iload_n 2, 1) := by decide +kernel
theorem dL_waterIn_5 : decode cL_waterIn 5 = .ok (.invokevirtual 76, 3) := by decide +kernel
theorem dL_waterIn_8 : decode cL_waterIn 8 = .ok (.i2l, 1) := by decide +kernel
theorem dL_waterIn_9 : decode cL_waterIn 9 = .ok (.lastore, 1) := by decide +kernel
theorem dL_waterIn_10 : decode cL_waterIn 10 = .ok (.goto 11, 3) := by decide +kernel
theorem dL_waterIn_13 : decode cL_waterIn 13 = .ok (.astore 4, 2) := by decide +kernel
theorem dL_waterIn_15 : decode cL_waterIn 15 = .ok (.iconst 1, 1) := by decide +kernel
theorem dL_waterIn_16 : decode cL_waterIn 16 = .ok (.ireturn, 1) := by decide +kernel
theorem dL_waterIn_17 : decode cL_waterIn 17 = .ok (.astore 4, 2) := by decide +kernel
theorem dL_waterIn_19 : decode cL_waterIn 19 = .ok (.iconst 2, 1) := by decide +kernel
theorem dL_waterIn_20 : decode cL_waterIn 20 = .ok (.ireturn, 1) := by decide +kernel
theorem dL_waterIn_21 : decode cL_waterIn 21 = .ok (.iconst 0, 1) := by decide +kernel
theorem dL_waterIn_22 : decode cL_waterIn 22 = .ok (.ireturn, 1) := by decide +kernel
theorem dL_bestToFlood_0 : decode cL_bestToFlood 0 = .ok (.aload_n 2, 1) := by decide +kernel
theorem dL_bestToFlood_1 : decode cL_bestToFlood 1 = .ok (.iconst 0, 1) := by decide +kernel
theorem dL_bestToFlood_2 : decode cL_bestToFlood 2 = .ok (.aload_n 0, 1) := by decide +kernel
theorem dL_bestToFlood_3 : decode cL_bestToFlood 3 = .ok (.iload_n 1, 1) := by decide +kernel
theorem dL_bestToFlood_4 : decode cL_bestToFlood 4 = .ok (.invokevirtual 79, 3) := by decide +kernel
theorem dL_bestToFlood_7 : decode cL_bestToFlood 7 = .ok (.i2l, 1) := by decide +kernel
theorem dL_bestToFlood_8 : decode cL_bestToFlood 8 = .ok (.lastore, 1) := by decide +kernel
theorem dL_bestToFlood_9 : decode cL_bestToFlood 9 = .ok (.goto 6, 3) := by decide +kernel
theorem dL_bestToFlood_12 : decode cL_bestToFlood 12 = .ok (.astore_n 3, 1) := by decide +kernel
theorem dL_bestToFlood_13 : decode cL_bestToFlood 13 = .ok (.iconst 1, 1) := by decide +kernel
theorem dL_bestToFlood_14 : decode cL_bestToFlood 14 = .ok (.ireturn, 1) := by decide +kernel
theorem dL_bestToFlood_15 : decode cL_bestToFlood 15 = .ok (.iconst 0, 1) := by decide +kernel
theorem dL_bestToFlood_16 : decode cL_bestToFlood 16 = .ok (.ireturn, 1) := by decide +kernel
theorem dL_law_0 : decode cL_law 0 = .ok (.new 8, 3) := by decide +kernel
theorem dL_law_3 : decode cL_law 3 = .ok (.dup, 1) := by decide +kernel
theorem dL_law_4 : decode cL_law 4 = .ok (.invokespecial 82, 3) := by decide +kernel
theorem dL_law_7 : decode cL_law 7 = .ok (.astore_n 1, 1) := by decide +kernel
theorem dL_law_8 : decode cL_law 8 = .ok (.new 83, 3) := by decide +kernel
theorem dL_law_11 : decode cL_law 11 = .ok (.dup, 1) := by decide +kernel
theorem dL_law_12 : decode cL_law 12 = .ok (.invokespecial 85, 3) := by decide +kernel
theorem dL_law_15 : decode cL_law 15 = .ok (.astore_n 2, 1) := by decide +kernel
theorem dL_law_16 : decode cL_law 16 = .ok (.iconst 1, 1) := by decide +kernel
theorem dL_law_17 : decode cL_law 17 = .ok (.newarray .long, 2) := by decide +kernel
theorem dL_law_19 : decode cL_law 19 = .ok (.astore_n 3, 1) := by decide +kernel
theorem dL_law_20 : decode cL_law 20 = .ok (.iconst 0, 1) := by decide +kernel
theorem dL_law_21 : decode cL_law 21 = .ok (.istore 4, 2) := by decide +kernel
theorem dL_law_23 : decode cL_law 23 = .ok (.iload 4, 2) := by decide +kernel
theorem dL_law_25 : decode cL_law 25 = .ok (.aload_n 0, 1) := by decide +kernel
theorem dL_law_26 : decode cL_law 26 = .ok (.arraylength, 1) := by decide +kernel
theorem dL_law_27 : decode cL_law 27 = .ok (.iconst 4, 1) := by decide +kernel
theorem dL_law_28 : decode cL_law 28 = .ok (.isub, 1) := by decide +kernel
theorem dL_law_29 : decode cL_law 29 = .ok (.if_icmp .gt 1685, 3) := by decide +kernel
theorem dL_law_32 : decode cL_law 32 = .ok (.aload_n 0, 1) := by decide +kernel
theorem dL_law_33 : decode cL_law 33 = .ok (.iload 4, 2) := by decide +kernel
theorem dL_law_35 : decode cL_law 35 = .ok (.iaload, 1) := by decide +kernel
theorem dL_law_36 : decode cL_law 36 = .ok (.bipush 63, 2) := by decide +kernel
theorem dL_law_38 : decode cL_law 38 = .ok (.iand, 1) := by decide +kernel
theorem dL_law_39 : decode cL_law 39 = .ok (.tableswitch 1669 0 35 #[157, 225, 305, 385, 448, 504, 572, 628, 641, 654, 667, 680, 693, 706, 719, 732, 745, 801, 857, 913, 976, 1032, 1088, 1101, 1164, 1227, 1283, 1339, 1352, 1408, 1464, 1532, 1545, 1601, 1614, 1655], 157) := by decide +kernel
theorem dL_law_196 : decode cL_law 196 = .ok (.aload_n 1, 1) := by decide +kernel
theorem dL_law_197 : decode cL_law 197 = .ok (.aload_n 0, 1) := by decide +kernel
theorem dL_law_198 : decode cL_law 198 = .ok (.iload 4, 2) := by decide +kernel
theorem dL_law_200 : decode cL_law 200 = .ok (.iconst 1, 1) := by decide +kernel
theorem dL_law_201 : decode cL_law 201 = .ok (.iadd, 1) := by decide +kernel
theorem dL_law_202 : decode cL_law 202 = .ok (.iaload, 1) := by decide +kernel
theorem dL_law_203 : decode cL_law 203 = .ok (.aload_n 0, 1) := by decide +kernel
theorem dL_law_204 : decode cL_law 204 = .ok (.iload 4, 2) := by decide +kernel
theorem dL_law_206 : decode cL_law 206 = .ok (.iconst 2, 1) := by decide +kernel
theorem dL_law_207 : decode cL_law 207 = .ok (.iadd, 1) := by decide +kernel
theorem dL_law_208 : decode cL_law 208 = .ok (.iaload, 1) := by decide +kernel
theorem dL_law_209 : decode cL_law 209 = .ok (.aload_n 3, 1) := by decide +kernel
theorem dL_law_210 : decode cL_law 210 = .ok (.invokestatic 86, 3) := by decide +kernel
theorem dL_law_213 : decode cL_law 213 = .ok (.istore 5, 2) := by decide +kernel
theorem dL_law_215 : decode cL_law 215 = .ok (.aload_n 2, 1) := by decide +kernel
theorem dL_law_216 : decode cL_law 216 = .ok (.aload_n 0, 1) := by decide +kernel
theorem dL_law_217 : decode cL_law 217 = .ok (.iload 4, 2) := by decide +kernel
theorem dL_law_219 : decode cL_law 219 = .ok (.iconst 1, 1) := by decide +kernel
theorem dL_law_220 : decode cL_law 220 = .ok (.iadd, 1) := by decide +kernel
theorem dL_law_221 : decode cL_law 221 = .ok (.iaload, 1) := by decide +kernel
theorem dL_law_222 : decode cL_law 222 = .ok (.aload_n 0, 1) := by decide +kernel
theorem dL_law_223 : decode cL_law 223 = .ok (.iload 4, 2) := by decide +kernel
theorem dL_law_225 : decode cL_law 225 = .ok (.iconst 2, 1) := by decide +kernel
theorem dL_law_226 : decode cL_law 226 = .ok (.iadd, 1) := by decide +kernel
theorem dL_law_227 : decode cL_law 227 = .ok (.iaload, 1) := by decide +kernel
theorem dL_law_228 : decode cL_law 228 = .ok (.invokevirtual 91, 3) := by decide +kernel
theorem dL_law_231 : decode cL_law 231 = .ok (.istore 6, 2) := by decide +kernel
theorem dL_law_233 : decode cL_law 233 = .ok (.aload_n 2, 1) := by decide +kernel
theorem dL_law_234 : decode cL_law 234 = .ok (.invokevirtual 92, 3) := by decide +kernel
theorem dL_law_237 : decode cL_law 237 = .ok (.iload 5, 2) := by decide +kernel
theorem dL_law_239 : decode cL_law 239 = .ok (.if_icmp .eq 5, 3) := by decide +kernel
theorem dL_law_242 : decode cL_law 242 = .ok (.iconst 0, 1) := by decide +kernel
theorem dL_law_243 : decode cL_law 243 = .ok (.ireturn, 1) := by decide +kernel
theorem dL_law_244 : decode cL_law 244 = .ok (.iload 5, 2) := by decide +kernel
theorem dL_law_246 : decode cL_law 246 = .ok (.ifCond .ne 15, 3) := by decide +kernel
theorem dL_law_249 : decode cL_law 249 = .ok (.aload_n 3, 1) := by decide +kernel
theorem dL_law_250 : decode cL_law 250 = .ok (.iconst 0, 1) := by decide +kernel
theorem dL_law_251 : decode cL_law 251 = .ok (.laload, 1) := by decide +kernel
theorem dL_law_252 : decode cL_law 252 = .ok (.iload 6, 2) := by decide +kernel
theorem dL_law_254 : decode cL_law 254 = .ok (.i2l, 1) := by decide +kernel
theorem dL_law_255 : decode cL_law 255 = .ok (.lcmp, 1) := by decide +kernel
theorem dL_law_256 : decode cL_law 256 = .ok (.ifCond .eq 5, 3) := by decide +kernel
theorem dL_law_259 : decode cL_law 259 = .ok (.iconst 0, 1) := by decide +kernel
theorem dL_law_260 : decode cL_law 260 = .ok (.ireturn, 1) := by decide +kernel
theorem dL_law_261 : decode cL_law 261 = .ok (.goto 1447, 3) := by decide +kernel
theorem dL_law_264 : decode cL_law 264 = .ok (.aload_n 1, 1) := by decide +kernel
theorem dL_law_265 : decode cL_law 265 = .ok (.aload_n 0, 1) := by decide +kernel
theorem dL_law_266 : decode cL_law 266 = .ok (.iload 4, 2) := by decide +kernel
theorem dL_law_268 : decode cL_law 268 = .ok (.iconst 1, 1) := by decide +kernel
theorem dL_law_269 : decode cL_law 269 = .ok (.iadd, 1) := by decide +kernel
theorem dL_law_270 : decode cL_law 270 = .ok (.iaload, 1) := by decide +kernel
theorem dL_law_271 : decode cL_law 271 = .ok (.aload_n 0, 1) := by decide +kernel
theorem dL_law_272 : decode cL_law 272 = .ok (.iload 4, 2) := by decide +kernel
theorem dL_law_274 : decode cL_law 274 = .ok (.iconst 2, 1) := by decide +kernel
theorem dL_law_275 : decode cL_law 275 = .ok (.iadd, 1) := by decide +kernel
theorem dL_law_276 : decode cL_law 276 = .ok (.iaload, 1) := by decide +kernel
theorem dL_law_277 : decode cL_law 277 = .ok (.aload_n 0, 1) := by decide +kernel
theorem dL_law_278 : decode cL_law 278 = .ok (.iload 4, 2) := by decide +kernel
theorem dL_law_280 : decode cL_law 280 = .ok (.iconst 3, 1) := by decide +kernel
theorem dL_law_281 : decode cL_law 281 = .ok (.iadd, 1) := by decide +kernel
theorem dL_law_282 : decode cL_law 282 = .ok (.iaload, 1) := by decide +kernel
theorem dL_law_283 : decode cL_law 283 = .ok (.aload_n 3, 1) := by decide +kernel
theorem dL_law_284 : decode cL_law 284 = .ok (.invokestatic 96, 3) := by decide +kernel
theorem dL_law_287 : decode cL_law 287 = .ok (.istore 5, 2) := by decide +kernel
theorem dL_law_289 : decode cL_law 289 = .ok (.aload_n 2, 1) := by decide +kernel
theorem dL_law_290 : decode cL_law 290 = .ok (.aload_n 0, 1) := by decide +kernel
theorem dL_law_291 : decode cL_law 291 = .ok (.iload 4, 2) := by decide +kernel
theorem dL_law_293 : decode cL_law 293 = .ok (.iconst 1, 1) := by decide +kernel
theorem dL_law_294 : decode cL_law 294 = .ok (.iadd, 1) := by decide +kernel
theorem dL_law_295 : decode cL_law 295 = .ok (.iaload, 1) := by decide +kernel
theorem dL_law_296 : decode cL_law 296 = .ok (.aload_n 0, 1) := by decide +kernel
theorem dL_law_297 : decode cL_law 297 = .ok (.iload 4, 2) := by decide +kernel
theorem dL_law_299 : decode cL_law 299 = .ok (.iconst 2, 1) := by decide +kernel
theorem dL_law_300 : decode cL_law 300 = .ok (.iadd, 1) := by decide +kernel
theorem dL_law_301 : decode cL_law 301 = .ok (.iaload, 1) := by decide +kernel
theorem dL_law_302 : decode cL_law 302 = .ok (.aload_n 0, 1) := by decide +kernel
theorem dL_law_303 : decode cL_law 303 = .ok (.iload 4, 2) := by decide +kernel
theorem dL_law_305 : decode cL_law 305 = .ok (.iconst 3, 1) := by decide +kernel
theorem dL_law_306 : decode cL_law 306 = .ok (.iadd, 1) := by decide +kernel
theorem dL_law_307 : decode cL_law 307 = .ok (.iaload, 1) := by decide +kernel
theorem dL_law_308 : decode cL_law 308 = .ok (.invokevirtual 99, 3) := by decide +kernel
theorem dL_law_311 : decode cL_law 311 = .ok (.istore 6, 2) := by decide +kernel
theorem dL_law_313 : decode cL_law 313 = .ok (.aload_n 2, 1) := by decide +kernel
theorem dL_law_314 : decode cL_law 314 = .ok (.invokevirtual 92, 3) := by decide +kernel
theorem dL_law_317 : decode cL_law 317 = .ok (.iload 5, 2) := by decide +kernel
theorem dL_law_319 : decode cL_law 319 = .ok (.if_icmp .eq 5, 3) := by decide +kernel
theorem dL_law_322 : decode cL_law 322 = .ok (.iconst 0, 1) := by decide +kernel
theorem dL_law_323 : decode cL_law 323 = .ok (.ireturn, 1) := by decide +kernel
theorem dL_law_324 : decode cL_law 324 = .ok (.iload 5, 2) := by decide +kernel
theorem dL_law_326 : decode cL_law 326 = .ok (.ifCond .ne 15, 3) := by decide +kernel
theorem dL_law_329 : decode cL_law 329 = .ok (.aload_n 3, 1) := by decide +kernel
theorem dL_law_330 : decode cL_law 330 = .ok (.iconst 0, 1) := by decide +kernel
theorem dL_law_331 : decode cL_law 331 = .ok (.laload, 1) := by decide +kernel
theorem dL_law_332 : decode cL_law 332 = .ok (.iload 6, 2) := by decide +kernel
theorem dL_law_334 : decode cL_law 334 = .ok (.i2l, 1) := by decide +kernel
theorem dL_law_335 : decode cL_law 335 = .ok (.lcmp, 1) := by decide +kernel
theorem dL_law_336 : decode cL_law 336 = .ok (.ifCond .eq 5, 3) := by decide +kernel
theorem dL_law_339 : decode cL_law 339 = .ok (.iconst 0, 1) := by decide +kernel
theorem dL_law_340 : decode cL_law 340 = .ok (.ireturn, 1) := by decide +kernel
theorem dL_law_341 : decode cL_law 341 = .ok (.goto 1367, 3) := by decide +kernel
theorem dL_law_344 : decode cL_law 344 = .ok (.aload_n 1, 1) := by decide +kernel
theorem dL_law_345 : decode cL_law 345 = .ok (.aload_n 0, 1) := by decide +kernel
theorem dL_law_346 : decode cL_law 346 = .ok (.iload 4, 2) := by decide +kernel
theorem dL_law_348 : decode cL_law 348 = .ok (.iconst 1, 1) := by decide +kernel
theorem dL_law_349 : decode cL_law 349 = .ok (.iadd, 1) := by decide +kernel
theorem dL_law_350 : decode cL_law 350 = .ok (.iaload, 1) := by decide +kernel
theorem dL_law_351 : decode cL_law 351 = .ok (.aload_n 0, 1) := by decide +kernel
theorem dL_law_352 : decode cL_law 352 = .ok (.iload 4, 2) := by decide +kernel
theorem dL_law_354 : decode cL_law 354 = .ok (.iconst 2, 1) := by decide +kernel
theorem dL_law_355 : decode cL_law 355 = .ok (.iadd, 1) := by decide +kernel
theorem dL_law_356 : decode cL_law 356 = .ok (.iaload, 1) := by decide +kernel
theorem dL_law_357 : decode cL_law 357 = .ok (.aload_n 0, 1) := by decide +kernel
theorem dL_law_358 : decode cL_law 358 = .ok (.iload 4, 2) := by decide +kernel
theorem dL_law_360 : decode cL_law 360 = .ok (.iconst 3, 1) := by decide +kernel
theorem dL_law_361 : decode cL_law 361 = .ok (.iadd, 1) := by decide +kernel
theorem dL_law_362 : decode cL_law 362 = .ok (.iaload, 1) := by decide +kernel
theorem dL_law_363 : decode cL_law 363 = .ok (.aload_n 3, 1) := by decide +kernel
theorem dL_law_364 : decode cL_law 364 = .ok (.invokestatic 100, 3) := by decide +kernel
theorem dL_law_367 : decode cL_law 367 = .ok (.istore 5, 2) := by decide +kernel
theorem dL_law_369 : decode cL_law 369 = .ok (.aload_n 2, 1) := by decide +kernel
theorem dL_law_370 : decode cL_law 370 = .ok (.aload_n 0, 1) := by decide +kernel
theorem dL_law_371 : decode cL_law 371 = .ok (.iload 4, 2) := by decide +kernel
theorem dL_law_373 : decode cL_law 373 = .ok (.iconst 1, 1) := by decide +kernel
theorem dL_law_374 : decode cL_law 374 = .ok (.iadd, 1) := by decide +kernel
theorem dL_law_375 : decode cL_law 375 = .ok (.iaload, 1) := by decide +kernel
theorem dL_law_376 : decode cL_law 376 = .ok (.aload_n 0, 1) := by decide +kernel
theorem dL_law_377 : decode cL_law 377 = .ok (.iload 4, 2) := by decide +kernel
theorem dL_law_379 : decode cL_law 379 = .ok (.iconst 2, 1) := by decide +kernel
theorem dL_law_380 : decode cL_law 380 = .ok (.iadd, 1) := by decide +kernel
theorem dL_law_381 : decode cL_law 381 = .ok (.iaload, 1) := by decide +kernel
theorem dL_law_382 : decode cL_law 382 = .ok (.aload_n 0, 1) := by decide +kernel
theorem dL_law_383 : decode cL_law 383 = .ok (.iload 4, 2) := by decide +kernel
theorem dL_law_385 : decode cL_law 385 = .ok (.iconst 3, 1) := by decide +kernel
theorem dL_law_386 : decode cL_law 386 = .ok (.iadd, 1) := by decide +kernel
theorem dL_law_387 : decode cL_law 387 = .ok (.iaload, 1) := by decide +kernel
theorem dL_law_388 : decode cL_law 388 = .ok (.invokevirtual 102, 3) := by decide +kernel
theorem dL_law_391 : decode cL_law 391 = .ok (.istore 6, 2) := by decide +kernel
theorem dL_law_393 : decode cL_law 393 = .ok (.aload_n 2, 1) := by decide +kernel
theorem dL_law_394 : decode cL_law 394 = .ok (.invokevirtual 92, 3) := by decide +kernel
theorem dL_law_397 : decode cL_law 397 = .ok (.iload 5, 2) := by decide +kernel
theorem dL_law_399 : decode cL_law 399 = .ok (.if_icmp .eq 5, 3) := by decide +kernel
theorem dL_law_402 : decode cL_law 402 = .ok (.iconst 0, 1) := by decide +kernel
theorem dL_law_403 : decode cL_law 403 = .ok (.ireturn, 1) := by decide +kernel
theorem dL_law_404 : decode cL_law 404 = .ok (.iload 5, 2) := by decide +kernel
theorem dL_law_406 : decode cL_law 406 = .ok (.ifCond .ne 15, 3) := by decide +kernel
theorem dL_law_409 : decode cL_law 409 = .ok (.aload_n 3, 1) := by decide +kernel
theorem dL_law_410 : decode cL_law 410 = .ok (.iconst 0, 1) := by decide +kernel
theorem dL_law_411 : decode cL_law 411 = .ok (.laload, 1) := by decide +kernel
theorem dL_law_412 : decode cL_law 412 = .ok (.iload 6, 2) := by decide +kernel
theorem dL_law_414 : decode cL_law 414 = .ok (.i2l, 1) := by decide +kernel
theorem dL_law_415 : decode cL_law 415 = .ok (.lcmp, 1) := by decide +kernel
theorem dL_law_416 : decode cL_law 416 = .ok (.ifCond .eq 5, 3) := by decide +kernel
theorem dL_law_419 : decode cL_law 419 = .ok (.iconst 0, 1) := by decide +kernel
theorem dL_law_420 : decode cL_law 420 = .ok (.ireturn, 1) := by decide +kernel
theorem dL_law_421 : decode cL_law 421 = .ok (.goto 1287, 3) := by decide +kernel
theorem dL_law_424 : decode cL_law 424 = .ok (.aload_n 1, 1) := by decide +kernel
theorem dL_law_425 : decode cL_law 425 = .ok (.aload_n 0, 1) := by decide +kernel
theorem dL_law_426 : decode cL_law 426 = .ok (.iload 4, 2) := by decide +kernel
theorem dL_law_428 : decode cL_law 428 = .ok (.iconst 1, 1) := by decide +kernel
theorem dL_law_429 : decode cL_law 429 = .ok (.iadd, 1) := by decide +kernel
theorem dL_law_430 : decode cL_law 430 = .ok (.iaload, 1) := by decide +kernel
theorem dL_law_431 : decode cL_law 431 = .ok (.aload_n 3, 1) := by decide +kernel
theorem dL_law_432 : decode cL_law 432 = .ok (.invokestatic 103, 3) := by decide +kernel
theorem dL_law_435 : decode cL_law 435 = .ok (.istore 5, 2) := by decide +kernel
theorem dL_law_437 : decode cL_law 437 = .ok (.aload_n 2, 1) := by decide +kernel
theorem dL_law_438 : decode cL_law 438 = .ok (.aload_n 0, 1) := by decide +kernel
theorem dL_law_439 : decode cL_law 439 = .ok (.iload 4, 2) := by decide +kernel
theorem dL_law_441 : decode cL_law 441 = .ok (.iconst 1, 1) := by decide +kernel
theorem dL_law_442 : decode cL_law 442 = .ok (.iadd, 1) := by decide +kernel
theorem dL_law_443 : decode cL_law 443 = .ok (.iaload, 1) := by decide +kernel
theorem dL_law_444 : decode cL_law 444 = .ok (.invokevirtual 106, 3) := by decide +kernel
theorem dL_law_447 : decode cL_law 447 = .ok (.istore 6, 2) := by decide +kernel
theorem dL_law_449 : decode cL_law 449 = .ok (.aload_n 2, 1) := by decide +kernel
theorem dL_law_450 : decode cL_law 450 = .ok (.invokevirtual 92, 3) := by decide +kernel
theorem dL_law_453 : decode cL_law 453 = .ok (.iload 5, 2) := by decide +kernel
theorem dL_law_455 : decode cL_law 455 = .ok (.if_icmp .eq 5, 3) := by decide +kernel
theorem dL_law_458 : decode cL_law 458 = .ok (.iconst 0, 1) := by decide +kernel
theorem dL_law_459 : decode cL_law 459 = .ok (.ireturn, 1) := by decide +kernel
theorem dL_law_460 : decode cL_law 460 = .ok (.iload 5, 2) := by decide +kernel
theorem dL_law_462 : decode cL_law 462 = .ok (.ifCond .ne 22, 3) := by decide +kernel
theorem dL_law_465 : decode cL_law 465 = .ok (.aload_n 3, 1) := by decide +kernel
theorem dL_law_466 : decode cL_law 466 = .ok (.iconst 0, 1) := by decide +kernel
theorem dL_law_467 : decode cL_law 467 = .ok (.laload, 1) := by decide +kernel
theorem dL_law_468 : decode cL_law 468 = .ok (.iload 6, 2) := by decide +kernel
theorem dL_law_470 : decode cL_law 470 = .ok (.ifCond .eq 7, 3) := by decide +kernel
theorem dL_law_473 : decode cL_law 473 = .ok (.lconst 1, 1) := by decide +kernel
theorem dL_law_474 : decode cL_law 474 = .ok (.goto 4, 3) := by decide +kernel
theorem dL_law_477 : decode cL_law 477 = .ok (.lconst 0, 1) := by decide +kernel
theorem dL_law_478 : decode cL_law 478 = .ok (.lcmp, 1) := by decide +kernel
theorem dL_law_479 : decode cL_law 479 = .ok (.ifCond .eq 5, 3) := by decide +kernel
theorem dL_law_482 : decode cL_law 482 = .ok (.iconst 0, 1) := by decide +kernel
theorem dL_law_483 : decode cL_law 483 = .ok (.ireturn, 1) := by decide +kernel
theorem dL_law_484 : decode cL_law 484 = .ok (.goto 1224, 3) := by decide +kernel
theorem dL_law_487 : decode cL_law 487 = .ok (.aload_n 1, 1) := by decide +kernel
theorem dL_law_488 : decode cL_law 488 = .ok (.aload_n 0, 1) := by decide +kernel
theorem dL_law_489 : decode cL_law 489 = .ok (.iload 4, 2) := by decide +kernel
theorem dL_law_491 : decode cL_law 491 = .ok (.iconst 1, 1) := by decide +kernel
theorem dL_law_492 : decode cL_law 492 = .ok (.iadd, 1) := by decide +kernel
theorem dL_law_493 : decode cL_law 493 = .ok (.iaload, 1) := by decide +kernel
theorem dL_law_494 : decode cL_law 494 = .ok (.aload_n 3, 1) := by decide +kernel
theorem dL_law_495 : decode cL_law 495 = .ok (.invokestatic 107, 3) := by decide +kernel
theorem dL_law_498 : decode cL_law 498 = .ok (.istore 5, 2) := by decide +kernel
theorem dL_law_500 : decode cL_law 500 = .ok (.aload_n 2, 1) := by decide +kernel
theorem dL_law_501 : decode cL_law 501 = .ok (.aload_n 0, 1) := by decide +kernel
theorem dL_law_502 : decode cL_law 502 = .ok (.iload 4, 2) := by decide +kernel
theorem dL_law_504 : decode cL_law 504 = .ok (.iconst 1, 1) := by decide +kernel
theorem dL_law_505 : decode cL_law 505 = .ok (.iadd, 1) := by decide +kernel
theorem dL_law_506 : decode cL_law 506 = .ok (.iaload, 1) := by decide +kernel
theorem dL_law_507 : decode cL_law 507 = .ok (.invokevirtual 109, 3) := by decide +kernel
theorem dL_law_510 : decode cL_law 510 = .ok (.istore 6, 2) := by decide +kernel
theorem dL_law_512 : decode cL_law 512 = .ok (.aload_n 2, 1) := by decide +kernel
theorem dL_law_513 : decode cL_law 513 = .ok (.invokevirtual 92, 3) := by decide +kernel
theorem dL_law_516 : decode cL_law 516 = .ok (.iload 5, 2) := by decide +kernel
theorem dL_law_518 : decode cL_law 518 = .ok (.if_icmp .eq 5, 3) := by decide +kernel
theorem dL_law_521 : decode cL_law 521 = .ok (.iconst 0, 1) := by decide +kernel
theorem dL_law_522 : decode cL_law 522 = .ok (.ireturn, 1) := by decide +kernel
theorem dL_law_523 : decode cL_law 523 = .ok (.iload 5, 2) := by decide +kernel
theorem dL_law_525 : decode cL_law 525 = .ok (.ifCond .ne 15, 3) := by decide +kernel
theorem dL_law_528 : decode cL_law 528 = .ok (.aload_n 3, 1) := by decide +kernel
theorem dL_law_529 : decode cL_law 529 = .ok (.iconst 0, 1) := by decide +kernel
theorem dL_law_530 : decode cL_law 530 = .ok (.laload, 1) := by decide +kernel
theorem dL_law_531 : decode cL_law 531 = .ok (.iload 6, 2) := by decide +kernel
theorem dL_law_533 : decode cL_law 533 = .ok (.i2l, 1) := by decide +kernel
theorem dL_law_534 : decode cL_law 534 = .ok (.lcmp, 1) := by decide +kernel
theorem dL_law_535 : decode cL_law 535 = .ok (.ifCond .eq 5, 3) := by decide +kernel
theorem dL_law_538 : decode cL_law 538 = .ok (.iconst 0, 1) := by decide +kernel
theorem dL_law_539 : decode cL_law 539 = .ok (.ireturn, 1) := by decide +kernel
theorem dL_law_540 : decode cL_law 540 = .ok (.goto 1168, 3) := by decide +kernel
theorem dL_law_543 : decode cL_law 543 = .ok (.aload_n 1, 1) := by decide +kernel
theorem dL_law_544 : decode cL_law 544 = .ok (.aload_n 0, 1) := by decide +kernel
theorem dL_law_545 : decode cL_law 545 = .ok (.iload 4, 2) := by decide +kernel
theorem dL_law_547 : decode cL_law 547 = .ok (.iconst 1, 1) := by decide +kernel
theorem dL_law_548 : decode cL_law 548 = .ok (.iadd, 1) := by decide +kernel
theorem dL_law_549 : decode cL_law 549 = .ok (.iaload, 1) := by decide +kernel
theorem dL_law_550 : decode cL_law 550 = .ok (.aload_n 0, 1) := by decide +kernel
theorem dL_law_551 : decode cL_law 551 = .ok (.iload 4, 2) := by decide +kernel
theorem dL_law_553 : decode cL_law 553 = .ok (.iconst 2, 1) := by decide +kernel
theorem dL_law_554 : decode cL_law 554 = .ok (.iadd, 1) := by decide +kernel
theorem dL_law_555 : decode cL_law 555 = .ok (.iaload, 1) := by decide +kernel
theorem dL_law_556 : decode cL_law 556 = .ok (.aload_n 3, 1) := by decide +kernel
theorem dL_law_557 : decode cL_law 557 = .ok (.invokestatic 110, 3) := by decide +kernel
theorem dL_law_560 : decode cL_law 560 = .ok (.istore 5, 2) := by decide +kernel
theorem dL_law_562 : decode cL_law 562 = .ok (.aload_n 2, 1) := by decide +kernel
theorem dL_law_563 : decode cL_law 563 = .ok (.aload_n 0, 1) := by decide +kernel
theorem dL_law_564 : decode cL_law 564 = .ok (.iload 4, 2) := by decide +kernel
theorem dL_law_566 : decode cL_law 566 = .ok (.iconst 1, 1) := by decide +kernel
theorem dL_law_567 : decode cL_law 567 = .ok (.iadd, 1) := by decide +kernel
theorem dL_law_568 : decode cL_law 568 = .ok (.iaload, 1) := by decide +kernel
theorem dL_law_569 : decode cL_law 569 = .ok (.aload_n 0, 1) := by decide +kernel
theorem dL_law_570 : decode cL_law 570 = .ok (.iload 4, 2) := by decide +kernel
theorem dL_law_572 : decode cL_law 572 = .ok (.iconst 2, 1) := by decide +kernel
theorem dL_law_573 : decode cL_law 573 = .ok (.iadd, 1) := by decide +kernel
theorem dL_law_574 : decode cL_law 574 = .ok (.iaload, 1) := by decide +kernel
theorem dL_law_575 : decode cL_law 575 = .ok (.invokevirtual 112, 3) := by decide +kernel
theorem dL_law_578 : decode cL_law 578 = .ok (.istore 6, 2) := by decide +kernel
theorem dL_law_580 : decode cL_law 580 = .ok (.aload_n 2, 1) := by decide +kernel
theorem dL_law_581 : decode cL_law 581 = .ok (.invokevirtual 92, 3) := by decide +kernel
theorem dL_law_584 : decode cL_law 584 = .ok (.iload 5, 2) := by decide +kernel
theorem dL_law_586 : decode cL_law 586 = .ok (.if_icmp .eq 5, 3) := by decide +kernel
theorem dL_law_589 : decode cL_law 589 = .ok (.iconst 0, 1) := by decide +kernel
theorem dL_law_590 : decode cL_law 590 = .ok (.ireturn, 1) := by decide +kernel
theorem dL_law_591 : decode cL_law 591 = .ok (.iload 5, 2) := by decide +kernel
theorem dL_law_593 : decode cL_law 593 = .ok (.ifCond .ne 15, 3) := by decide +kernel
theorem dL_law_596 : decode cL_law 596 = .ok (.aload_n 3, 1) := by decide +kernel
theorem dL_law_597 : decode cL_law 597 = .ok (.iconst 0, 1) := by decide +kernel
theorem dL_law_598 : decode cL_law 598 = .ok (.laload, 1) := by decide +kernel
theorem dL_law_599 : decode cL_law 599 = .ok (.iload 6, 2) := by decide +kernel
theorem dL_law_601 : decode cL_law 601 = .ok (.i2l, 1) := by decide +kernel
theorem dL_law_602 : decode cL_law 602 = .ok (.lcmp, 1) := by decide +kernel
theorem dL_law_603 : decode cL_law 603 = .ok (.ifCond .eq 5, 3) := by decide +kernel
theorem dL_law_606 : decode cL_law 606 = .ok (.iconst 0, 1) := by decide +kernel
theorem dL_law_607 : decode cL_law 607 = .ok (.ireturn, 1) := by decide +kernel
theorem dL_law_608 : decode cL_law 608 = .ok (.goto 1100, 3) := by decide +kernel
theorem dL_law_611 : decode cL_law 611 = .ok (.aload_n 1, 1) := by decide +kernel
theorem dL_law_612 : decode cL_law 612 = .ok (.aload_n 0, 1) := by decide +kernel
theorem dL_law_613 : decode cL_law 613 = .ok (.iload 4, 2) := by decide +kernel
theorem dL_law_615 : decode cL_law 615 = .ok (.iconst 1, 1) := by decide +kernel
theorem dL_law_616 : decode cL_law 616 = .ok (.iadd, 1) := by decide +kernel
theorem dL_law_617 : decode cL_law 617 = .ok (.iaload, 1) := by decide +kernel
theorem dL_law_618 : decode cL_law 618 = .ok (.aload_n 3, 1) := by decide +kernel
theorem dL_law_619 : decode cL_law 619 = .ok (.invokestatic 113, 3) := by decide +kernel
theorem dL_law_622 : decode cL_law 622 = .ok (.istore 5, 2) := by decide +kernel
theorem dL_law_624 : decode cL_law 624 = .ok (.aload_n 2, 1) := by decide +kernel
theorem dL_law_625 : decode cL_law 625 = .ok (.aload_n 0, 1) := by decide +kernel
theorem dL_law_626 : decode cL_law 626 = .ok (.iload 4, 2) := by decide +kernel
theorem dL_law_628 : decode cL_law 628 = .ok (.iconst 1, 1) := by decide +kernel
theorem dL_law_629 : decode cL_law 629 = .ok (.iadd, 1) := by decide +kernel
theorem dL_law_630 : decode cL_law 630 = .ok (.iaload, 1) := by decide +kernel
theorem dL_law_631 : decode cL_law 631 = .ok (.invokevirtual 115, 3) := by decide +kernel
theorem dL_law_634 : decode cL_law 634 = .ok (.istore 6, 2) := by decide +kernel
theorem dL_law_636 : decode cL_law 636 = .ok (.aload_n 2, 1) := by decide +kernel
theorem dL_law_637 : decode cL_law 637 = .ok (.invokevirtual 92, 3) := by decide +kernel
theorem dL_law_640 : decode cL_law 640 = .ok (.iload 5, 2) := by decide +kernel
theorem dL_law_642 : decode cL_law 642 = .ok (.if_icmp .eq 5, 3) := by decide +kernel
theorem dL_law_645 : decode cL_law 645 = .ok (.iconst 0, 1) := by decide +kernel
theorem dL_law_646 : decode cL_law 646 = .ok (.ireturn, 1) := by decide +kernel
theorem dL_law_647 : decode cL_law 647 = .ok (.iload 5, 2) := by decide +kernel
theorem dL_law_649 : decode cL_law 649 = .ok (.ifCond .ne 15, 3) := by decide +kernel
theorem dL_law_652 : decode cL_law 652 = .ok (.aload_n 3, 1) := by decide +kernel
theorem dL_law_653 : decode cL_law 653 = .ok (.iconst 0, 1) := by decide +kernel
theorem dL_law_654 : decode cL_law 654 = .ok (.laload, 1) := by decide +kernel
theorem dL_law_655 : decode cL_law 655 = .ok (.iload 6, 2) := by decide +kernel
theorem dL_law_657 : decode cL_law 657 = .ok (.i2l, 1) := by decide +kernel
theorem dL_law_658 : decode cL_law 658 = .ok (.lcmp, 1) := by decide +kernel
theorem dL_law_659 : decode cL_law 659 = .ok (.ifCond .eq 5, 3) := by decide +kernel
theorem dL_law_662 : decode cL_law 662 = .ok (.iconst 0, 1) := by decide +kernel
theorem dL_law_663 : decode cL_law 663 = .ok (.ireturn, 1) := by decide +kernel
theorem dL_law_664 : decode cL_law 664 = .ok (.goto 1044, 3) := by decide +kernel
theorem dL_law_667 : decode cL_law 667 = .ok (.aload_n 1, 1) := by decide +kernel
theorem dL_law_668 : decode cL_law 668 = .ok (.invokevirtual 116, 3) := by decide +kernel
theorem dL_law_671 : decode cL_law 671 = .ok (.aload_n 2, 1) := by decide +kernel
theorem dL_law_672 : decode cL_law 672 = .ok (.invokevirtual 119, 3) := by decide +kernel
theorem dL_law_675 : decode cL_law 675 = .ok (.if_icmp .eq 1033, 3) := by decide +kernel
theorem dL_law_678 : decode cL_law 678 = .ok (.iconst 0, 1) := by decide +kernel
theorem dL_law_679 : decode cL_law 679 = .ok (.ireturn, 1) := by decide +kernel
theorem dL_law_680 : decode cL_law 680 = .ok (.aload_n 1, 1) := by decide +kernel
theorem dL_law_681 : decode cL_law 681 = .ok (.invokevirtual 120, 3) := by decide +kernel
theorem dL_law_684 : decode cL_law 684 = .ok (.aload_n 2, 1) := by decide +kernel
theorem dL_law_685 : decode cL_law 685 = .ok (.invokevirtual 123, 3) := by decide +kernel
theorem dL_law_688 : decode cL_law 688 = .ok (.if_icmp .eq 1020, 3) := by decide +kernel
theorem dL_law_691 : decode cL_law 691 = .ok (.iconst 0, 1) := by decide +kernel
theorem dL_law_692 : decode cL_law 692 = .ok (.ireturn, 1) := by decide +kernel
theorem dL_law_693 : decode cL_law 693 = .ok (.aload_n 1, 1) := by decide +kernel
theorem dL_law_694 : decode cL_law 694 = .ok (.invokevirtual 124, 3) := by decide +kernel
theorem dL_law_697 : decode cL_law 697 = .ok (.aload_n 2, 1) := by decide +kernel
theorem dL_law_698 : decode cL_law 698 = .ok (.invokevirtual 127, 3) := by decide +kernel
theorem dL_law_701 : decode cL_law 701 = .ok (.if_icmp .eq 1007, 3) := by decide +kernel
theorem dL_law_704 : decode cL_law 704 = .ok (.iconst 0, 1) := by decide +kernel
theorem dL_law_705 : decode cL_law 705 = .ok (.ireturn, 1) := by decide +kernel
theorem dL_law_706 : decode cL_law 706 = .ok (.aload_n 1, 1) := by decide +kernel
theorem dL_law_707 : decode cL_law 707 = .ok (.invokevirtual 128, 3) := by decide +kernel
theorem dL_law_710 : decode cL_law 710 = .ok (.aload_n 2, 1) := by decide +kernel
theorem dL_law_711 : decode cL_law 711 = .ok (.invokevirtual 131, 3) := by decide +kernel
theorem dL_law_714 : decode cL_law 714 = .ok (.if_icmp .eq 994, 3) := by decide +kernel
theorem dL_law_717 : decode cL_law 717 = .ok (.iconst 0, 1) := by decide +kernel
theorem dL_law_718 : decode cL_law 718 = .ok (.ireturn, 1) := by decide +kernel
theorem dL_law_719 : decode cL_law 719 = .ok (.aload_n 1, 1) := by decide +kernel
theorem dL_law_720 : decode cL_law 720 = .ok (.invokevirtual 132, 3) := by decide +kernel
theorem dL_law_723 : decode cL_law 723 = .ok (.aload_n 2, 1) := by decide +kernel
theorem dL_law_724 : decode cL_law 724 = .ok (.invokevirtual 135, 3) := by decide +kernel
theorem dL_law_727 : decode cL_law 727 = .ok (.if_icmp .eq 981, 3) := by decide +kernel
theorem dL_law_730 : decode cL_law 730 = .ok (.iconst 0, 1) := by decide +kernel
theorem dL_law_731 : decode cL_law 731 = .ok (.ireturn, 1) := by decide +kernel
theorem dL_law_732 : decode cL_law 732 = .ok (.aload_n 1, 1) := by decide +kernel
theorem dL_law_733 : decode cL_law 733 = .ok (.invokevirtual 136, 3) := by decide +kernel
theorem dL_law_736 : decode cL_law 736 = .ok (.aload_n 2, 1) := by decide +kernel
theorem dL_law_737 : decode cL_law 737 = .ok (.invokevirtual 139, 3) := by decide +kernel
theorem dL_law_740 : decode cL_law 740 = .ok (.if_icmp .eq 968, 3) := by decide +kernel
theorem dL_law_743 : decode cL_law 743 = .ok (.iconst 0, 1) := by decide +kernel
theorem dL_law_744 : decode cL_law 744 = .ok (.ireturn, 1) := by decide +kernel
theorem dL_law_745 : decode cL_law 745 = .ok (.aload_n 1, 1) := by decide +kernel
theorem dL_law_746 : decode cL_law 746 = .ok (.invokevirtual 140, 3) := by decide +kernel
theorem dL_law_749 : decode cL_law 749 = .ok (.aload_n 2, 1) := by decide +kernel
theorem dL_law_750 : decode cL_law 750 = .ok (.invokevirtual 143, 3) := by decide +kernel
theorem dL_law_753 : decode cL_law 753 = .ok (.if_icmp .eq 955, 3) := by decide +kernel
theorem dL_law_756 : decode cL_law 756 = .ok (.iconst 0, 1) := by decide +kernel
theorem dL_law_757 : decode cL_law 757 = .ok (.ireturn, 1) := by decide +kernel
theorem dL_law_758 : decode cL_law 758 = .ok (.aload_n 1, 1) := by decide +kernel
theorem dL_law_759 : decode cL_law 759 = .ok (.invokevirtual 144, 3) := by decide +kernel
theorem dL_law_762 : decode cL_law 762 = .ok (.aload_n 2, 1) := by decide +kernel
theorem dL_law_763 : decode cL_law 763 = .ok (.invokevirtual 147, 3) := by decide +kernel
theorem dL_law_766 : decode cL_law 766 = .ok (.if_icmp .eq 942, 3) := by decide +kernel
theorem dL_law_769 : decode cL_law 769 = .ok (.iconst 0, 1) := by decide +kernel
theorem dL_law_770 : decode cL_law 770 = .ok (.ireturn, 1) := by decide +kernel
theorem dL_law_771 : decode cL_law 771 = .ok (.aload_n 1, 1) := by decide +kernel
theorem dL_law_772 : decode cL_law 772 = .ok (.invokevirtual 148, 3) := by decide +kernel
theorem dL_law_775 : decode cL_law 775 = .ok (.aload_n 2, 1) := by decide +kernel
theorem dL_law_776 : decode cL_law 776 = .ok (.invokevirtual 151, 3) := by decide +kernel
theorem dL_law_779 : decode cL_law 779 = .ok (.if_icmp .eq 929, 3) := by decide +kernel
theorem dL_law_782 : decode cL_law 782 = .ok (.iconst 0, 1) := by decide +kernel
theorem dL_law_783 : decode cL_law 783 = .ok (.ireturn, 1) := by decide +kernel
theorem dL_law_784 : decode cL_law 784 = .ok (.aload_n 1, 1) := by decide +kernel
theorem dL_law_785 : decode cL_law 785 = .ok (.aload_n 0, 1) := by decide +kernel
theorem dL_law_786 : decode cL_law 786 = .ok (.iload 4, 2) := by decide +kernel
theorem dL_law_788 : decode cL_law 788 = .ok (.iconst 1, 1) := by decide +kernel
theorem dL_law_789 : decode cL_law 789 = .ok (.iadd, 1) := by decide +kernel
theorem dL_law_790 : decode cL_law 790 = .ok (.iaload, 1) := by decide +kernel
theorem dL_law_791 : decode cL_law 791 = .ok (.aload_n 3, 1) := by decide +kernel
theorem dL_law_792 : decode cL_law 792 = .ok (.invokestatic 152, 3) := by decide +kernel
theorem dL_law_795 : decode cL_law 795 = .ok (.istore 5, 2) := by decide +kernel
theorem dL_law_797 : decode cL_law 797 = .ok (.aload_n 2, 1) := by decide +kernel
theorem dL_law_798 : decode cL_law 798 = .ok (.aload_n 0, 1) := by decide +kernel
theorem dL_law_799 : decode cL_law 799 = .ok (.iload 4, 2) := by decide +kernel
theorem dL_law_801 : decode cL_law 801 = .ok (.iconst 1, 1) := by decide +kernel
theorem dL_law_802 : decode cL_law 802 = .ok (.iadd, 1) := by decide +kernel
theorem dL_law_803 : decode cL_law 803 = .ok (.iaload, 1) := by decide +kernel
theorem dL_law_804 : decode cL_law 804 = .ok (.invokevirtual 154, 3) := by decide +kernel
theorem dL_law_807 : decode cL_law 807 = .ok (.istore 6, 2) := by decide +kernel
theorem dL_law_809 : decode cL_law 809 = .ok (.aload_n 2, 1) := by decide +kernel
theorem dL_law_810 : decode cL_law 810 = .ok (.invokevirtual 92, 3) := by decide +kernel
theorem dL_law_813 : decode cL_law 813 = .ok (.iload 5, 2) := by decide +kernel
theorem dL_law_815 : decode cL_law 815 = .ok (.if_icmp .eq 5, 3) := by decide +kernel
theorem dL_law_818 : decode cL_law 818 = .ok (.iconst 0, 1) := by decide +kernel
theorem dL_law_819 : decode cL_law 819 = .ok (.ireturn, 1) := by decide +kernel
theorem dL_law_820 : decode cL_law 820 = .ok (.iload 5, 2) := by decide +kernel
theorem dL_law_822 : decode cL_law 822 = .ok (.ifCond .ne 15, 3) := by decide +kernel
theorem dL_law_825 : decode cL_law 825 = .ok (.aload_n 3, 1) := by decide +kernel
theorem dL_law_826 : decode cL_law 826 = .ok (.iconst 0, 1) := by decide +kernel
theorem dL_law_827 : decode cL_law 827 = .ok (.laload, 1) := by decide +kernel
theorem dL_law_828 : decode cL_law 828 = .ok (.iload 6, 2) := by decide +kernel
theorem dL_law_830 : decode cL_law 830 = .ok (.i2l, 1) := by decide +kernel
theorem dL_law_831 : decode cL_law 831 = .ok (.lcmp, 1) := by decide +kernel
theorem dL_law_832 : decode cL_law 832 = .ok (.ifCond .eq 5, 3) := by decide +kernel
theorem dL_law_835 : decode cL_law 835 = .ok (.iconst 0, 1) := by decide +kernel
theorem dL_law_836 : decode cL_law 836 = .ok (.ireturn, 1) := by decide +kernel
theorem dL_law_837 : decode cL_law 837 = .ok (.goto 871, 3) := by decide +kernel
theorem dL_law_840 : decode cL_law 840 = .ok (.aload_n 1, 1) := by decide +kernel
theorem dL_law_841 : decode cL_law 841 = .ok (.aload_n 0, 1) := by decide +kernel
theorem dL_law_842 : decode cL_law 842 = .ok (.iload 4, 2) := by decide +kernel
theorem dL_law_844 : decode cL_law 844 = .ok (.iconst 1, 1) := by decide +kernel
theorem dL_law_845 : decode cL_law 845 = .ok (.iadd, 1) := by decide +kernel
theorem dL_law_846 : decode cL_law 846 = .ok (.iaload, 1) := by decide +kernel
theorem dL_law_847 : decode cL_law 847 = .ok (.aload_n 3, 1) := by decide +kernel
theorem dL_law_848 : decode cL_law 848 = .ok (.invokestatic 155, 3) := by decide +kernel
theorem dL_law_851 : decode cL_law 851 = .ok (.istore 5, 2) := by decide +kernel
theorem dL_law_853 : decode cL_law 853 = .ok (.aload_n 2, 1) := by decide +kernel
theorem dL_law_854 : decode cL_law 854 = .ok (.aload_n 0, 1) := by decide +kernel
theorem dL_law_855 : decode cL_law 855 = .ok (.iload 4, 2) := by decide +kernel
theorem dL_law_857 : decode cL_law 857 = .ok (.iconst 1, 1) := by decide +kernel
theorem dL_law_858 : decode cL_law 858 = .ok (.iadd, 1) := by decide +kernel
theorem dL_law_859 : decode cL_law 859 = .ok (.iaload, 1) := by decide +kernel
theorem dL_law_860 : decode cL_law 860 = .ok (.invokevirtual 157, 3) := by decide +kernel
theorem dL_law_863 : decode cL_law 863 = .ok (.istore 6, 2) := by decide +kernel
theorem dL_law_865 : decode cL_law 865 = .ok (.aload_n 2, 1) := by decide +kernel
theorem dL_law_866 : decode cL_law 866 = .ok (.invokevirtual 92, 3) := by decide +kernel
theorem dL_law_869 : decode cL_law 869 = .ok (.iload 5, 2) := by decide +kernel
theorem dL_law_871 : decode cL_law 871 = .ok (.if_icmp .eq 5, 3) := by decide +kernel
theorem dL_law_874 : decode cL_law 874 = .ok (.iconst 0, 1) := by decide +kernel
theorem dL_law_875 : decode cL_law 875 = .ok (.ireturn, 1) := by decide +kernel
theorem dL_law_876 : decode cL_law 876 = .ok (.iload 5, 2) := by decide +kernel
theorem dL_law_878 : decode cL_law 878 = .ok (.ifCond .ne 15, 3) := by decide +kernel
theorem dL_law_881 : decode cL_law 881 = .ok (.aload_n 3, 1) := by decide +kernel
theorem dL_law_882 : decode cL_law 882 = .ok (.iconst 0, 1) := by decide +kernel
theorem dL_law_883 : decode cL_law 883 = .ok (.laload, 1) := by decide +kernel
theorem dL_law_884 : decode cL_law 884 = .ok (.iload 6, 2) := by decide +kernel
theorem dL_law_886 : decode cL_law 886 = .ok (.i2l, 1) := by decide +kernel
theorem dL_law_887 : decode cL_law 887 = .ok (.lcmp, 1) := by decide +kernel
theorem dL_law_888 : decode cL_law 888 = .ok (.ifCond .eq 5, 3) := by decide +kernel
theorem dL_law_891 : decode cL_law 891 = .ok (.iconst 0, 1) := by decide +kernel
theorem dL_law_892 : decode cL_law 892 = .ok (.ireturn, 1) := by decide +kernel
theorem dL_law_893 : decode cL_law 893 = .ok (.goto 815, 3) := by decide +kernel
theorem dL_law_896 : decode cL_law 896 = .ok (.aload_n 1, 1) := by decide +kernel
theorem dL_law_897 : decode cL_law 897 = .ok (.aload_n 0, 1) := by decide +kernel
theorem dL_law_898 : decode cL_law 898 = .ok (.iload 4, 2) := by decide +kernel
theorem dL_law_900 : decode cL_law 900 = .ok (.iconst 1, 1) := by decide +kernel
theorem dL_law_901 : decode cL_law 901 = .ok (.iadd, 1) := by decide +kernel
theorem dL_law_902 : decode cL_law 902 = .ok (.iaload, 1) := by decide +kernel
theorem dL_law_903 : decode cL_law 903 = .ok (.aload_n 3, 1) := by decide +kernel
theorem dL_law_904 : decode cL_law 904 = .ok (.invokestatic 158, 3) := by decide +kernel
theorem dL_law_907 : decode cL_law 907 = .ok (.istore 5, 2) := by decide +kernel
theorem dL_law_909 : decode cL_law 909 = .ok (.aload_n 2, 1) := by decide +kernel
theorem dL_law_910 : decode cL_law 910 = .ok (.aload_n 0, 1) := by decide +kernel
theorem dL_law_911 : decode cL_law 911 = .ok (.iload 4, 2) := by decide +kernel
theorem dL_law_913 : decode cL_law 913 = .ok (.iconst 1, 1) := by decide +kernel
theorem dL_law_914 : decode cL_law 914 = .ok (.iadd, 1) := by decide +kernel
theorem dL_law_915 : decode cL_law 915 = .ok (.iaload, 1) := by decide +kernel
theorem dL_law_916 : decode cL_law 916 = .ok (.invokevirtual 160, 3) := by decide +kernel
theorem dL_law_919 : decode cL_law 919 = .ok (.istore 6, 2) := by decide +kernel
theorem dL_law_921 : decode cL_law 921 = .ok (.aload_n 2, 1) := by decide +kernel
theorem dL_law_922 : decode cL_law 922 = .ok (.invokevirtual 92, 3) := by decide +kernel
theorem dL_law_925 : decode cL_law 925 = .ok (.iload 5, 2) := by decide +kernel
theorem dL_law_927 : decode cL_law 927 = .ok (.if_icmp .eq 5, 3) := by decide +kernel
theorem dL_law_930 : decode cL_law 930 = .ok (.iconst 0, 1) := by decide +kernel
theorem dL_law_931 : decode cL_law 931 = .ok (.ireturn, 1) := by decide +kernel
theorem dL_law_932 : decode cL_law 932 = .ok (.iload 5, 2) := by decide +kernel
theorem dL_law_934 : decode cL_law 934 = .ok (.ifCond .ne 15, 3) := by decide +kernel
theorem dL_law_937 : decode cL_law 937 = .ok (.aload_n 3, 1) := by decide +kernel
theorem dL_law_938 : decode cL_law 938 = .ok (.iconst 0, 1) := by decide +kernel
theorem dL_law_939 : decode cL_law 939 = .ok (.laload, 1) := by decide +kernel
theorem dL_law_940 : decode cL_law 940 = .ok (.iload 6, 2) := by decide +kernel
theorem dL_law_942 : decode cL_law 942 = .ok (.i2l, 1) := by decide +kernel
theorem dL_law_943 : decode cL_law 943 = .ok (.lcmp, 1) := by decide +kernel
theorem dL_law_944 : decode cL_law 944 = .ok (.ifCond .eq 5, 3) := by decide +kernel
theorem dL_law_947 : decode cL_law 947 = .ok (.iconst 0, 1) := by decide +kernel
theorem dL_law_948 : decode cL_law 948 = .ok (.ireturn, 1) := by decide +kernel
theorem dL_law_949 : decode cL_law 949 = .ok (.goto 759, 3) := by decide +kernel
theorem dL_law_952 : decode cL_law 952 = .ok (.aload_n 1, 1) := by decide +kernel
theorem dL_law_953 : decode cL_law 953 = .ok (.aload_n 0, 1) := by decide +kernel
theorem dL_law_954 : decode cL_law 954 = .ok (.iload 4, 2) := by decide +kernel
theorem dL_law_956 : decode cL_law 956 = .ok (.iconst 1, 1) := by decide +kernel
theorem dL_law_957 : decode cL_law 957 = .ok (.iadd, 1) := by decide +kernel
theorem dL_law_958 : decode cL_law 958 = .ok (.iaload, 1) := by decide +kernel
theorem dL_law_959 : decode cL_law 959 = .ok (.aload_n 3, 1) := by decide +kernel
theorem dL_law_960 : decode cL_law 960 = .ok (.invokestatic 161, 3) := by decide +kernel
theorem dL_law_963 : decode cL_law 963 = .ok (.istore 5, 2) := by decide +kernel
theorem dL_law_965 : decode cL_law 965 = .ok (.aload_n 2, 1) := by decide +kernel
theorem dL_law_966 : decode cL_law 966 = .ok (.aload_n 0, 1) := by decide +kernel
theorem dL_law_967 : decode cL_law 967 = .ok (.iload 4, 2) := by decide +kernel
theorem dL_law_969 : decode cL_law 969 = .ok (.iconst 1, 1) := by decide +kernel
theorem dL_law_970 : decode cL_law 970 = .ok (.iadd, 1) := by decide +kernel
theorem dL_law_971 : decode cL_law 971 = .ok (.iaload, 1) := by decide +kernel
theorem dL_law_972 : decode cL_law 972 = .ok (.invokevirtual 163, 3) := by decide +kernel
theorem dL_law_975 : decode cL_law 975 = .ok (.istore 6, 2) := by decide +kernel
theorem dL_law_977 : decode cL_law 977 = .ok (.aload_n 2, 1) := by decide +kernel
theorem dL_law_978 : decode cL_law 978 = .ok (.invokevirtual 92, 3) := by decide +kernel
theorem dL_law_981 : decode cL_law 981 = .ok (.iload 5, 2) := by decide +kernel
theorem dL_law_983 : decode cL_law 983 = .ok (.if_icmp .eq 5, 3) := by decide +kernel
theorem dL_law_986 : decode cL_law 986 = .ok (.iconst 0, 1) := by decide +kernel
theorem dL_law_987 : decode cL_law 987 = .ok (.ireturn, 1) := by decide +kernel
theorem dL_law_988 : decode cL_law 988 = .ok (.iload 5, 2) := by decide +kernel
theorem dL_law_990 : decode cL_law 990 = .ok (.ifCond .ne 22, 3) := by decide +kernel
theorem dL_law_993 : decode cL_law 993 = .ok (.aload_n 3, 1) := by decide +kernel
theorem dL_law_994 : decode cL_law 994 = .ok (.iconst 0, 1) := by decide +kernel
theorem dL_law_995 : decode cL_law 995 = .ok (.laload, 1) := by decide +kernel
theorem dL_law_996 : decode cL_law 996 = .ok (.iload 6, 2) := by decide +kernel
theorem dL_law_998 : decode cL_law 998 = .ok (.ifCond .eq 7, 3) := by decide +kernel
theorem dL_law_1001 : decode cL_law 1001 = .ok (.lconst 1, 1) := by decide +kernel
theorem dL_law_1002 : decode cL_law 1002 = .ok (.goto 4, 3) := by decide +kernel
theorem dL_law_1005 : decode cL_law 1005 = .ok (.lconst 0, 1) := by decide +kernel
theorem dL_law_1006 : decode cL_law 1006 = .ok (.lcmp, 1) := by decide +kernel
theorem dL_law_1007 : decode cL_law 1007 = .ok (.ifCond .eq 5, 3) := by decide +kernel
theorem dL_law_1010 : decode cL_law 1010 = .ok (.iconst 0, 1) := by decide +kernel
theorem dL_law_1011 : decode cL_law 1011 = .ok (.ireturn, 1) := by decide +kernel
theorem dL_law_1012 : decode cL_law 1012 = .ok (.goto 696, 3) := by decide +kernel
theorem dL_law_1015 : decode cL_law 1015 = .ok (.aload_n 1, 1) := by decide +kernel
theorem dL_law_1016 : decode cL_law 1016 = .ok (.aload_n 0, 1) := by decide +kernel
theorem dL_law_1017 : decode cL_law 1017 = .ok (.iload 4, 2) := by decide +kernel
theorem dL_law_1019 : decode cL_law 1019 = .ok (.iconst 1, 1) := by decide +kernel
theorem dL_law_1020 : decode cL_law 1020 = .ok (.iadd, 1) := by decide +kernel
theorem dL_law_1021 : decode cL_law 1021 = .ok (.iaload, 1) := by decide +kernel
theorem dL_law_1022 : decode cL_law 1022 = .ok (.aload_n 3, 1) := by decide +kernel
theorem dL_law_1023 : decode cL_law 1023 = .ok (.invokestatic 164, 3) := by decide +kernel
theorem dL_law_1026 : decode cL_law 1026 = .ok (.istore 5, 2) := by decide +kernel
theorem dL_law_1028 : decode cL_law 1028 = .ok (.aload_n 2, 1) := by decide +kernel
theorem dL_law_1029 : decode cL_law 1029 = .ok (.aload_n 0, 1) := by decide +kernel
theorem dL_law_1030 : decode cL_law 1030 = .ok (.iload 4, 2) := by decide +kernel
theorem dL_law_1032 : decode cL_law 1032 = .ok (.iconst 1, 1) := by decide +kernel
theorem dL_law_1033 : decode cL_law 1033 = .ok (.iadd, 1) := by decide +kernel
theorem dL_law_1034 : decode cL_law 1034 = .ok (.iaload, 1) := by decide +kernel
theorem dL_law_1035 : decode cL_law 1035 = .ok (.invokevirtual 166, 3) := by decide +kernel
theorem dL_law_1038 : decode cL_law 1038 = .ok (.istore 6, 2) := by decide +kernel
theorem dL_law_1040 : decode cL_law 1040 = .ok (.aload_n 2, 1) := by decide +kernel
theorem dL_law_1041 : decode cL_law 1041 = .ok (.invokevirtual 92, 3) := by decide +kernel
theorem dL_law_1044 : decode cL_law 1044 = .ok (.iload 5, 2) := by decide +kernel
theorem dL_law_1046 : decode cL_law 1046 = .ok (.if_icmp .eq 5, 3) := by decide +kernel
theorem dL_law_1049 : decode cL_law 1049 = .ok (.iconst 0, 1) := by decide +kernel
theorem dL_law_1050 : decode cL_law 1050 = .ok (.ireturn, 1) := by decide +kernel
theorem dL_law_1051 : decode cL_law 1051 = .ok (.iload 5, 2) := by decide +kernel
theorem dL_law_1053 : decode cL_law 1053 = .ok (.ifCond .ne 15, 3) := by decide +kernel
theorem dL_law_1056 : decode cL_law 1056 = .ok (.aload_n 3, 1) := by decide +kernel
theorem dL_law_1057 : decode cL_law 1057 = .ok (.iconst 0, 1) := by decide +kernel
theorem dL_law_1058 : decode cL_law 1058 = .ok (.laload, 1) := by decide +kernel
theorem dL_law_1059 : decode cL_law 1059 = .ok (.iload 6, 2) := by decide +kernel
theorem dL_law_1061 : decode cL_law 1061 = .ok (.i2l, 1) := by decide +kernel
theorem dL_law_1062 : decode cL_law 1062 = .ok (.lcmp, 1) := by decide +kernel
theorem dL_law_1063 : decode cL_law 1063 = .ok (.ifCond .eq 5, 3) := by decide +kernel
theorem dL_law_1066 : decode cL_law 1066 = .ok (.iconst 0, 1) := by decide +kernel
theorem dL_law_1067 : decode cL_law 1067 = .ok (.ireturn, 1) := by decide +kernel
theorem dL_law_1068 : decode cL_law 1068 = .ok (.goto 640, 3) := by decide +kernel
theorem dL_law_1071 : decode cL_law 1071 = .ok (.aload_n 1, 1) := by decide +kernel
theorem dL_law_1072 : decode cL_law 1072 = .ok (.aload_n 0, 1) := by decide +kernel
theorem dL_law_1073 : decode cL_law 1073 = .ok (.iload 4, 2) := by decide +kernel
theorem dL_law_1075 : decode cL_law 1075 = .ok (.iconst 1, 1) := by decide +kernel
theorem dL_law_1076 : decode cL_law 1076 = .ok (.iadd, 1) := by decide +kernel
theorem dL_law_1077 : decode cL_law 1077 = .ok (.iaload, 1) := by decide +kernel
theorem dL_law_1078 : decode cL_law 1078 = .ok (.aload_n 3, 1) := by decide +kernel
theorem dL_law_1079 : decode cL_law 1079 = .ok (.invokestatic 167, 3) := by decide +kernel
theorem dL_law_1082 : decode cL_law 1082 = .ok (.istore 5, 2) := by decide +kernel
theorem dL_law_1084 : decode cL_law 1084 = .ok (.aload_n 2, 1) := by decide +kernel
theorem dL_law_1085 : decode cL_law 1085 = .ok (.aload_n 0, 1) := by decide +kernel
theorem dL_law_1086 : decode cL_law 1086 = .ok (.iload 4, 2) := by decide +kernel
theorem dL_law_1088 : decode cL_law 1088 = .ok (.iconst 1, 1) := by decide +kernel
theorem dL_law_1089 : decode cL_law 1089 = .ok (.iadd, 1) := by decide +kernel
theorem dL_law_1090 : decode cL_law 1090 = .ok (.iaload, 1) := by decide +kernel
theorem dL_law_1091 : decode cL_law 1091 = .ok (.invokevirtual 169, 3) := by decide +kernel
theorem dL_law_1094 : decode cL_law 1094 = .ok (.istore 6, 2) := by decide +kernel
theorem dL_law_1096 : decode cL_law 1096 = .ok (.aload_n 2, 1) := by decide +kernel
theorem dL_law_1097 : decode cL_law 1097 = .ok (.invokevirtual 92, 3) := by decide +kernel
theorem dL_law_1100 : decode cL_law 1100 = .ok (.iload 5, 2) := by decide +kernel
theorem dL_law_1102 : decode cL_law 1102 = .ok (.if_icmp .eq 5, 3) := by decide +kernel
theorem dL_law_1105 : decode cL_law 1105 = .ok (.iconst 0, 1) := by decide +kernel
theorem dL_law_1106 : decode cL_law 1106 = .ok (.ireturn, 1) := by decide +kernel
theorem dL_law_1107 : decode cL_law 1107 = .ok (.iload 5, 2) := by decide +kernel
theorem dL_law_1109 : decode cL_law 1109 = .ok (.ifCond .ne 15, 3) := by decide +kernel
theorem dL_law_1112 : decode cL_law 1112 = .ok (.aload_n 3, 1) := by decide +kernel
theorem dL_law_1113 : decode cL_law 1113 = .ok (.iconst 0, 1) := by decide +kernel
theorem dL_law_1114 : decode cL_law 1114 = .ok (.laload, 1) := by decide +kernel
theorem dL_law_1115 : decode cL_law 1115 = .ok (.iload 6, 2) := by decide +kernel
theorem dL_law_1117 : decode cL_law 1117 = .ok (.i2l, 1) := by decide +kernel
theorem dL_law_1118 : decode cL_law 1118 = .ok (.lcmp, 1) := by decide +kernel
theorem dL_law_1119 : decode cL_law 1119 = .ok (.ifCond .eq 5, 3) := by decide +kernel
theorem dL_law_1122 : decode cL_law 1122 = .ok (.iconst 0, 1) := by decide +kernel
theorem dL_law_1123 : decode cL_law 1123 = .ok (.ireturn, 1) := by decide +kernel
theorem dL_law_1124 : decode cL_law 1124 = .ok (.goto 584, 3) := by decide +kernel
theorem dL_law_1127 : decode cL_law 1127 = .ok (.aload_n 1, 1) := by decide +kernel
theorem dL_law_1128 : decode cL_law 1128 = .ok (.invokevirtual 170, 3) := by decide +kernel
theorem dL_law_1131 : decode cL_law 1131 = .ok (.aload_n 2, 1) := by decide +kernel
theorem dL_law_1132 : decode cL_law 1132 = .ok (.invokevirtual 173, 3) := by decide +kernel
theorem dL_law_1135 : decode cL_law 1135 = .ok (.if_icmp .eq 573, 3) := by decide +kernel
theorem dL_law_1138 : decode cL_law 1138 = .ok (.iconst 0, 1) := by decide +kernel
theorem dL_law_1139 : decode cL_law 1139 = .ok (.ireturn, 1) := by decide +kernel
theorem dL_law_1140 : decode cL_law 1140 = .ok (.aload_n 1, 1) := by decide +kernel
theorem dL_law_1141 : decode cL_law 1141 = .ok (.aload_n 0, 1) := by decide +kernel
theorem dL_law_1142 : decode cL_law 1142 = .ok (.iload 4, 2) := by decide +kernel
theorem dL_law_1144 : decode cL_law 1144 = .ok (.iconst 1, 1) := by decide +kernel
theorem dL_law_1145 : decode cL_law 1145 = .ok (.iadd, 1) := by decide +kernel
theorem dL_law_1146 : decode cL_law 1146 = .ok (.iaload, 1) := by decide +kernel
theorem dL_law_1147 : decode cL_law 1147 = .ok (.aload_n 3, 1) := by decide +kernel
theorem dL_law_1148 : decode cL_law 1148 = .ok (.invokestatic 174, 3) := by decide +kernel
theorem dL_law_1151 : decode cL_law 1151 = .ok (.istore 5, 2) := by decide +kernel
theorem dL_law_1153 : decode cL_law 1153 = .ok (.aload_n 2, 1) := by decide +kernel
theorem dL_law_1154 : decode cL_law 1154 = .ok (.aload_n 0, 1) := by decide +kernel
theorem dL_law_1155 : decode cL_law 1155 = .ok (.iload 4, 2) := by decide +kernel
theorem dL_law_1157 : decode cL_law 1157 = .ok (.iconst 1, 1) := by decide +kernel
theorem dL_law_1158 : decode cL_law 1158 = .ok (.iadd, 1) := by decide +kernel
theorem dL_law_1159 : decode cL_law 1159 = .ok (.iaload, 1) := by decide +kernel
theorem dL_law_1160 : decode cL_law 1160 = .ok (.invokevirtual 176, 3) := by decide +kernel
theorem dL_law_1163 : decode cL_law 1163 = .ok (.istore 6, 2) := by decide +kernel
theorem dL_law_1165 : decode cL_law 1165 = .ok (.aload_n 2, 1) := by decide +kernel
theorem dL_law_1166 : decode cL_law 1166 = .ok (.invokevirtual 92, 3) := by decide +kernel
theorem dL_law_1169 : decode cL_law 1169 = .ok (.iload 5, 2) := by decide +kernel
theorem dL_law_1171 : decode cL_law 1171 = .ok (.if_icmp .eq 5, 3) := by decide +kernel
theorem dL_law_1174 : decode cL_law 1174 = .ok (.iconst 0, 1) := by decide +kernel
theorem dL_law_1175 : decode cL_law 1175 = .ok (.ireturn, 1) := by decide +kernel
theorem dL_law_1176 : decode cL_law 1176 = .ok (.iload 5, 2) := by decide +kernel
theorem dL_law_1178 : decode cL_law 1178 = .ok (.ifCond .ne 22, 3) := by decide +kernel
theorem dL_law_1181 : decode cL_law 1181 = .ok (.aload_n 3, 1) := by decide +kernel
theorem dL_law_1182 : decode cL_law 1182 = .ok (.iconst 0, 1) := by decide +kernel
theorem dL_law_1183 : decode cL_law 1183 = .ok (.laload, 1) := by decide +kernel
theorem dL_law_1184 : decode cL_law 1184 = .ok (.iload 6, 2) := by decide +kernel
theorem dL_law_1186 : decode cL_law 1186 = .ok (.ifCond .eq 7, 3) := by decide +kernel
theorem dL_law_1189 : decode cL_law 1189 = .ok (.lconst 1, 1) := by decide +kernel
theorem dL_law_1190 : decode cL_law 1190 = .ok (.goto 4, 3) := by decide +kernel
theorem dL_law_1193 : decode cL_law 1193 = .ok (.lconst 0, 1) := by decide +kernel
theorem dL_law_1194 : decode cL_law 1194 = .ok (.lcmp, 1) := by decide +kernel
theorem dL_law_1195 : decode cL_law 1195 = .ok (.ifCond .eq 5, 3) := by decide +kernel
theorem dL_law_1198 : decode cL_law 1198 = .ok (.iconst 0, 1) := by decide +kernel
theorem dL_law_1199 : decode cL_law 1199 = .ok (.ireturn, 1) := by decide +kernel
theorem dL_law_1200 : decode cL_law 1200 = .ok (.goto 508, 3) := by decide +kernel
theorem dL_law_1203 : decode cL_law 1203 = .ok (.aload_n 1, 1) := by decide +kernel
theorem dL_law_1204 : decode cL_law 1204 = .ok (.aload_n 0, 1) := by decide +kernel
theorem dL_law_1205 : decode cL_law 1205 = .ok (.iload 4, 2) := by decide +kernel
theorem dL_law_1207 : decode cL_law 1207 = .ok (.iconst 1, 1) := by decide +kernel
theorem dL_law_1208 : decode cL_law 1208 = .ok (.iadd, 1) := by decide +kernel
theorem dL_law_1209 : decode cL_law 1209 = .ok (.iaload, 1) := by decide +kernel
theorem dL_law_1210 : decode cL_law 1210 = .ok (.aload_n 3, 1) := by decide +kernel
theorem dL_law_1211 : decode cL_law 1211 = .ok (.invokestatic 177, 3) := by decide +kernel
theorem dL_law_1214 : decode cL_law 1214 = .ok (.istore 5, 2) := by decide +kernel
theorem dL_law_1216 : decode cL_law 1216 = .ok (.aload_n 2, 1) := by decide +kernel
theorem dL_law_1217 : decode cL_law 1217 = .ok (.aload_n 0, 1) := by decide +kernel
theorem dL_law_1218 : decode cL_law 1218 = .ok (.iload 4, 2) := by decide +kernel
theorem dL_law_1220 : decode cL_law 1220 = .ok (.iconst 1, 1) := by decide +kernel
theorem dL_law_1221 : decode cL_law 1221 = .ok (.iadd, 1) := by decide +kernel
theorem dL_law_1222 : decode cL_law 1222 = .ok (.iaload, 1) := by decide +kernel
theorem dL_law_1223 : decode cL_law 1223 = .ok (.invokevirtual 179, 3) := by decide +kernel
theorem dL_law_1226 : decode cL_law 1226 = .ok (.istore 6, 2) := by decide +kernel
theorem dL_law_1228 : decode cL_law 1228 = .ok (.aload_n 2, 1) := by decide +kernel
theorem dL_law_1229 : decode cL_law 1229 = .ok (.invokevirtual 92, 3) := by decide +kernel
theorem dL_law_1232 : decode cL_law 1232 = .ok (.iload 5, 2) := by decide +kernel
theorem dL_law_1234 : decode cL_law 1234 = .ok (.if_icmp .eq 5, 3) := by decide +kernel
theorem dL_law_1237 : decode cL_law 1237 = .ok (.iconst 0, 1) := by decide +kernel
theorem dL_law_1238 : decode cL_law 1238 = .ok (.ireturn, 1) := by decide +kernel
theorem dL_law_1239 : decode cL_law 1239 = .ok (.iload 5, 2) := by decide +kernel
theorem dL_law_1241 : decode cL_law 1241 = .ok (.ifCond .ne 22, 3) := by decide +kernel
theorem dL_law_1244 : decode cL_law 1244 = .ok (.aload_n 3, 1) := by decide +kernel
theorem dL_law_1245 : decode cL_law 1245 = .ok (.iconst 0, 1) := by decide +kernel
theorem dL_law_1246 : decode cL_law 1246 = .ok (.laload, 1) := by decide +kernel
theorem dL_law_1247 : decode cL_law 1247 = .ok (.iload 6, 2) := by decide +kernel
theorem dL_law_1249 : decode cL_law 1249 = .ok (.ifCond .eq 7, 3) := by decide +kernel
theorem dL_law_1252 : decode cL_law 1252 = .ok (.lconst 1, 1) := by decide +kernel
theorem dL_law_1253 : decode cL_law 1253 = .ok (.goto 4, 3) := by decide +kernel
theorem dL_law_1256 : decode cL_law 1256 = .ok (.lconst 0, 1) := by decide +kernel
theorem dL_law_1257 : decode cL_law 1257 = .ok (.lcmp, 1) := by decide +kernel
theorem dL_law_1258 : decode cL_law 1258 = .ok (.ifCond .eq 5, 3) := by decide +kernel
theorem dL_law_1261 : decode cL_law 1261 = .ok (.iconst 0, 1) := by decide +kernel
theorem dL_law_1262 : decode cL_law 1262 = .ok (.ireturn, 1) := by decide +kernel
theorem dL_law_1263 : decode cL_law 1263 = .ok (.goto 445, 3) := by decide +kernel
theorem dL_law_1266 : decode cL_law 1266 = .ok (.aload_n 1, 1) := by decide +kernel
theorem dL_law_1267 : decode cL_law 1267 = .ok (.aload_n 0, 1) := by decide +kernel
theorem dL_law_1268 : decode cL_law 1268 = .ok (.iload 4, 2) := by decide +kernel
theorem dL_law_1270 : decode cL_law 1270 = .ok (.iconst 1, 1) := by decide +kernel
theorem dL_law_1271 : decode cL_law 1271 = .ok (.iadd, 1) := by decide +kernel
theorem dL_law_1272 : decode cL_law 1272 = .ok (.iaload, 1) := by decide +kernel
theorem dL_law_1273 : decode cL_law 1273 = .ok (.aload_n 3, 1) := by decide +kernel
theorem dL_law_1274 : decode cL_law 1274 = .ok (.invokestatic 180, 3) := by decide +kernel
theorem dL_law_1277 : decode cL_law 1277 = .ok (.istore 5, 2) := by decide +kernel
theorem dL_law_1279 : decode cL_law 1279 = .ok (.aload_n 2, 1) := by decide +kernel
theorem dL_law_1280 : decode cL_law 1280 = .ok (.aload_n 0, 1) := by decide +kernel
theorem dL_law_1281 : decode cL_law 1281 = .ok (.iload 4, 2) := by decide +kernel
theorem dL_law_1283 : decode cL_law 1283 = .ok (.iconst 1, 1) := by decide +kernel
theorem dL_law_1284 : decode cL_law 1284 = .ok (.iadd, 1) := by decide +kernel
theorem dL_law_1285 : decode cL_law 1285 = .ok (.iaload, 1) := by decide +kernel
theorem dL_law_1286 : decode cL_law 1286 = .ok (.invokevirtual 182, 3) := by decide +kernel
theorem dL_law_1289 : decode cL_law 1289 = .ok (.istore 6, 2) := by decide +kernel
theorem dL_law_1291 : decode cL_law 1291 = .ok (.aload_n 2, 1) := by decide +kernel
theorem dL_law_1292 : decode cL_law 1292 = .ok (.invokevirtual 92, 3) := by decide +kernel
theorem dL_law_1295 : decode cL_law 1295 = .ok (.iload 5, 2) := by decide +kernel
theorem dL_law_1297 : decode cL_law 1297 = .ok (.if_icmp .eq 5, 3) := by decide +kernel
theorem dL_law_1300 : decode cL_law 1300 = .ok (.iconst 0, 1) := by decide +kernel
theorem dL_law_1301 : decode cL_law 1301 = .ok (.ireturn, 1) := by decide +kernel
theorem dL_law_1302 : decode cL_law 1302 = .ok (.iload 5, 2) := by decide +kernel
theorem dL_law_1304 : decode cL_law 1304 = .ok (.ifCond .ne 15, 3) := by decide +kernel
theorem dL_law_1307 : decode cL_law 1307 = .ok (.aload_n 3, 1) := by decide +kernel
theorem dL_law_1308 : decode cL_law 1308 = .ok (.iconst 0, 1) := by decide +kernel
theorem dL_law_1309 : decode cL_law 1309 = .ok (.laload, 1) := by decide +kernel
theorem dL_law_1310 : decode cL_law 1310 = .ok (.iload 6, 2) := by decide +kernel
theorem dL_law_1312 : decode cL_law 1312 = .ok (.i2l, 1) := by decide +kernel
theorem dL_law_1313 : decode cL_law 1313 = .ok (.lcmp, 1) := by decide +kernel
theorem dL_law_1314 : decode cL_law 1314 = .ok (.ifCond .eq 5, 3) := by decide +kernel
theorem dL_law_1317 : decode cL_law 1317 = .ok (.iconst 0, 1) := by decide +kernel
theorem dL_law_1318 : decode cL_law 1318 = .ok (.ireturn, 1) := by decide +kernel
theorem dL_law_1319 : decode cL_law 1319 = .ok (.goto 389, 3) := by decide +kernel
theorem dL_law_1322 : decode cL_law 1322 = .ok (.aload_n 1, 1) := by decide +kernel
theorem dL_law_1323 : decode cL_law 1323 = .ok (.aload_n 0, 1) := by decide +kernel
theorem dL_law_1324 : decode cL_law 1324 = .ok (.iload 4, 2) := by decide +kernel
theorem dL_law_1326 : decode cL_law 1326 = .ok (.iconst 1, 1) := by decide +kernel
theorem dL_law_1327 : decode cL_law 1327 = .ok (.iadd, 1) := by decide +kernel
theorem dL_law_1328 : decode cL_law 1328 = .ok (.iaload, 1) := by decide +kernel
theorem dL_law_1329 : decode cL_law 1329 = .ok (.aload_n 3, 1) := by decide +kernel
theorem dL_law_1330 : decode cL_law 1330 = .ok (.invokestatic 183, 3) := by decide +kernel
theorem dL_law_1333 : decode cL_law 1333 = .ok (.istore 5, 2) := by decide +kernel
theorem dL_law_1335 : decode cL_law 1335 = .ok (.aload_n 2, 1) := by decide +kernel
theorem dL_law_1336 : decode cL_law 1336 = .ok (.aload_n 0, 1) := by decide +kernel
theorem dL_law_1337 : decode cL_law 1337 = .ok (.iload 4, 2) := by decide +kernel
theorem dL_law_1339 : decode cL_law 1339 = .ok (.iconst 1, 1) := by decide +kernel
theorem dL_law_1340 : decode cL_law 1340 = .ok (.iadd, 1) := by decide +kernel
theorem dL_law_1341 : decode cL_law 1341 = .ok (.iaload, 1) := by decide +kernel
theorem dL_law_1342 : decode cL_law 1342 = .ok (.invokevirtual 185, 3) := by decide +kernel
theorem dL_law_1345 : decode cL_law 1345 = .ok (.istore 6, 2) := by decide +kernel
theorem dL_law_1347 : decode cL_law 1347 = .ok (.aload_n 2, 1) := by decide +kernel
theorem dL_law_1348 : decode cL_law 1348 = .ok (.invokevirtual 92, 3) := by decide +kernel
theorem dL_law_1351 : decode cL_law 1351 = .ok (.iload 5, 2) := by decide +kernel
theorem dL_law_1353 : decode cL_law 1353 = .ok (.if_icmp .eq 5, 3) := by decide +kernel
theorem dL_law_1356 : decode cL_law 1356 = .ok (.iconst 0, 1) := by decide +kernel
theorem dL_law_1357 : decode cL_law 1357 = .ok (.ireturn, 1) := by decide +kernel
theorem dL_law_1358 : decode cL_law 1358 = .ok (.iload 5, 2) := by decide +kernel
theorem dL_law_1360 : decode cL_law 1360 = .ok (.ifCond .ne 15, 3) := by decide +kernel
theorem dL_law_1363 : decode cL_law 1363 = .ok (.aload_n 3, 1) := by decide +kernel
theorem dL_law_1364 : decode cL_law 1364 = .ok (.iconst 0, 1) := by decide +kernel
theorem dL_law_1365 : decode cL_law 1365 = .ok (.laload, 1) := by decide +kernel
theorem dL_law_1366 : decode cL_law 1366 = .ok (.iload 6, 2) := by decide +kernel
theorem dL_law_1368 : decode cL_law 1368 = .ok (.i2l, 1) := by decide +kernel
theorem dL_law_1369 : decode cL_law 1369 = .ok (.lcmp, 1) := by decide +kernel
theorem dL_law_1370 : decode cL_law 1370 = .ok (.ifCond .eq 5, 3) := by decide +kernel
theorem dL_law_1373 : decode cL_law 1373 = .ok (.iconst 0, 1) := by decide +kernel
theorem dL_law_1374 : decode cL_law 1374 = .ok (.ireturn, 1) := by decide +kernel
theorem dL_law_1375 : decode cL_law 1375 = .ok (.goto 333, 3) := by decide +kernel
theorem dL_law_1378 : decode cL_law 1378 = .ok (.aload_n 1, 1) := by decide +kernel
theorem dL_law_1379 : decode cL_law 1379 = .ok (.invokevirtual 186, 3) := by decide +kernel
theorem dL_law_1382 : decode cL_law 1382 = .ok (.aload_n 2, 1) := by decide +kernel
theorem dL_law_1383 : decode cL_law 1383 = .ok (.invokevirtual 189, 3) := by decide +kernel
theorem dL_law_1386 : decode cL_law 1386 = .ok (.if_icmp .eq 322, 3) := by decide +kernel
theorem dL_law_1389 : decode cL_law 1389 = .ok (.iconst 0, 1) := by decide +kernel
theorem dL_law_1390 : decode cL_law 1390 = .ok (.ireturn, 1) := by decide +kernel
theorem dL_law_1391 : decode cL_law 1391 = .ok (.aload_n 1, 1) := by decide +kernel
theorem dL_law_1392 : decode cL_law 1392 = .ok (.aload_n 0, 1) := by decide +kernel
theorem dL_law_1393 : decode cL_law 1393 = .ok (.iload 4, 2) := by decide +kernel
theorem dL_law_1395 : decode cL_law 1395 = .ok (.iconst 1, 1) := by decide +kernel
theorem dL_law_1396 : decode cL_law 1396 = .ok (.iadd, 1) := by decide +kernel
theorem dL_law_1397 : decode cL_law 1397 = .ok (.iaload, 1) := by decide +kernel
theorem dL_law_1398 : decode cL_law 1398 = .ok (.aload_n 3, 1) := by decide +kernel
theorem dL_law_1399 : decode cL_law 1399 = .ok (.invokestatic 190, 3) := by decide +kernel
theorem dL_law_1402 : decode cL_law 1402 = .ok (.istore 5, 2) := by decide +kernel
theorem dL_law_1404 : decode cL_law 1404 = .ok (.aload_n 2, 1) := by decide +kernel
theorem dL_law_1405 : decode cL_law 1405 = .ok (.aload_n 0, 1) := by decide +kernel
theorem dL_law_1406 : decode cL_law 1406 = .ok (.iload 4, 2) := by decide +kernel
theorem dL_law_1408 : decode cL_law 1408 = .ok (.iconst 1, 1) := by decide +kernel
theorem dL_law_1409 : decode cL_law 1409 = .ok (.iadd, 1) := by decide +kernel
theorem dL_law_1410 : decode cL_law 1410 = .ok (.iaload, 1) := by decide +kernel
theorem dL_law_1411 : decode cL_law 1411 = .ok (.invokevirtual 192, 3) := by decide +kernel
theorem dL_law_1414 : decode cL_law 1414 = .ok (.istore 6, 2) := by decide +kernel
theorem dL_law_1416 : decode cL_law 1416 = .ok (.aload_n 2, 1) := by decide +kernel
theorem dL_law_1417 : decode cL_law 1417 = .ok (.invokevirtual 92, 3) := by decide +kernel
theorem dL_law_1420 : decode cL_law 1420 = .ok (.iload 5, 2) := by decide +kernel
theorem dL_law_1422 : decode cL_law 1422 = .ok (.if_icmp .eq 5, 3) := by decide +kernel
theorem dL_law_1425 : decode cL_law 1425 = .ok (.iconst 0, 1) := by decide +kernel
theorem dL_law_1426 : decode cL_law 1426 = .ok (.ireturn, 1) := by decide +kernel
theorem dL_law_1427 : decode cL_law 1427 = .ok (.iload 5, 2) := by decide +kernel
theorem dL_law_1429 : decode cL_law 1429 = .ok (.ifCond .ne 15, 3) := by decide +kernel
theorem dL_law_1432 : decode cL_law 1432 = .ok (.aload_n 3, 1) := by decide +kernel
theorem dL_law_1433 : decode cL_law 1433 = .ok (.iconst 0, 1) := by decide +kernel
theorem dL_law_1434 : decode cL_law 1434 = .ok (.laload, 1) := by decide +kernel
theorem dL_law_1435 : decode cL_law 1435 = .ok (.iload 6, 2) := by decide +kernel
theorem dL_law_1437 : decode cL_law 1437 = .ok (.i2l, 1) := by decide +kernel
theorem dL_law_1438 : decode cL_law 1438 = .ok (.lcmp, 1) := by decide +kernel
theorem dL_law_1439 : decode cL_law 1439 = .ok (.ifCond .eq 5, 3) := by decide +kernel
theorem dL_law_1442 : decode cL_law 1442 = .ok (.iconst 0, 1) := by decide +kernel
theorem dL_law_1443 : decode cL_law 1443 = .ok (.ireturn, 1) := by decide +kernel
theorem dL_law_1444 : decode cL_law 1444 = .ok (.goto 264, 3) := by decide +kernel
theorem dL_law_1447 : decode cL_law 1447 = .ok (.aload_n 1, 1) := by decide +kernel
theorem dL_law_1448 : decode cL_law 1448 = .ok (.aload_n 0, 1) := by decide +kernel
theorem dL_law_1449 : decode cL_law 1449 = .ok (.iload 4, 2) := by decide +kernel
theorem dL_law_1451 : decode cL_law 1451 = .ok (.iconst 1, 1) := by decide +kernel
theorem dL_law_1452 : decode cL_law 1452 = .ok (.iadd, 1) := by decide +kernel
theorem dL_law_1453 : decode cL_law 1453 = .ok (.iaload, 1) := by decide +kernel
theorem dL_law_1454 : decode cL_law 1454 = .ok (.aload_n 3, 1) := by decide +kernel
theorem dL_law_1455 : decode cL_law 1455 = .ok (.invokestatic 193, 3) := by decide +kernel
theorem dL_law_1458 : decode cL_law 1458 = .ok (.istore 5, 2) := by decide +kernel
theorem dL_law_1460 : decode cL_law 1460 = .ok (.aload_n 2, 1) := by decide +kernel
theorem dL_law_1461 : decode cL_law 1461 = .ok (.aload_n 0, 1) := by decide +kernel
theorem dL_law_1462 : decode cL_law 1462 = .ok (.iload 4, 2) := by decide +kernel
theorem dL_law_1464 : decode cL_law 1464 = .ok (.iconst 1, 1) := by decide +kernel
theorem dL_law_1465 : decode cL_law 1465 = .ok (.iadd, 1) := by decide +kernel
theorem dL_law_1466 : decode cL_law 1466 = .ok (.iaload, 1) := by decide +kernel
theorem dL_law_1467 : decode cL_law 1467 = .ok (.invokevirtual 195, 3) := by decide +kernel
theorem dL_law_1470 : decode cL_law 1470 = .ok (.istore 6, 2) := by decide +kernel
theorem dL_law_1472 : decode cL_law 1472 = .ok (.aload_n 2, 1) := by decide +kernel
theorem dL_law_1473 : decode cL_law 1473 = .ok (.invokevirtual 92, 3) := by decide +kernel
theorem dL_law_1476 : decode cL_law 1476 = .ok (.iload 5, 2) := by decide +kernel
theorem dL_law_1478 : decode cL_law 1478 = .ok (.if_icmp .eq 5, 3) := by decide +kernel
theorem dL_law_1481 : decode cL_law 1481 = .ok (.iconst 0, 1) := by decide +kernel
theorem dL_law_1482 : decode cL_law 1482 = .ok (.ireturn, 1) := by decide +kernel
theorem dL_law_1483 : decode cL_law 1483 = .ok (.iload 5, 2) := by decide +kernel
theorem dL_law_1485 : decode cL_law 1485 = .ok (.ifCond .ne 15, 3) := by decide +kernel
theorem dL_law_1488 : decode cL_law 1488 = .ok (.aload_n 3, 1) := by decide +kernel
theorem dL_law_1489 : decode cL_law 1489 = .ok (.iconst 0, 1) := by decide +kernel
theorem dL_law_1490 : decode cL_law 1490 = .ok (.laload, 1) := by decide +kernel
theorem dL_law_1491 : decode cL_law 1491 = .ok (.iload 6, 2) := by decide +kernel
theorem dL_law_1493 : decode cL_law 1493 = .ok (.i2l, 1) := by decide +kernel
theorem dL_law_1494 : decode cL_law 1494 = .ok (.lcmp, 1) := by decide +kernel
theorem dL_law_1495 : decode cL_law 1495 = .ok (.ifCond .eq 5, 3) := by decide +kernel
theorem dL_law_1498 : decode cL_law 1498 = .ok (.iconst 0, 1) := by decide +kernel
theorem dL_law_1499 : decode cL_law 1499 = .ok (.ireturn, 1) := by decide +kernel
theorem dL_law_1500 : decode cL_law 1500 = .ok (.goto 208, 3) := by decide +kernel
theorem dL_law_1503 : decode cL_law 1503 = .ok (.aload_n 1, 1) := by decide +kernel
theorem dL_law_1504 : decode cL_law 1504 = .ok (.aload_n 0, 1) := by decide +kernel
theorem dL_law_1505 : decode cL_law 1505 = .ok (.iload 4, 2) := by decide +kernel
theorem dL_law_1507 : decode cL_law 1507 = .ok (.iconst 1, 1) := by decide +kernel
theorem dL_law_1508 : decode cL_law 1508 = .ok (.iadd, 1) := by decide +kernel
theorem dL_law_1509 : decode cL_law 1509 = .ok (.iaload, 1) := by decide +kernel
theorem dL_law_1510 : decode cL_law 1510 = .ok (.aload_n 0, 1) := by decide +kernel
theorem dL_law_1511 : decode cL_law 1511 = .ok (.iload 4, 2) := by decide +kernel
theorem dL_law_1513 : decode cL_law 1513 = .ok (.iconst 2, 1) := by decide +kernel
theorem dL_law_1514 : decode cL_law 1514 = .ok (.iadd, 1) := by decide +kernel
theorem dL_law_1515 : decode cL_law 1515 = .ok (.iaload, 1) := by decide +kernel
theorem dL_law_1516 : decode cL_law 1516 = .ok (.aload_n 3, 1) := by decide +kernel
theorem dL_law_1517 : decode cL_law 1517 = .ok (.invokestatic 196, 3) := by decide +kernel
theorem dL_law_1520 : decode cL_law 1520 = .ok (.istore 5, 2) := by decide +kernel
theorem dL_law_1522 : decode cL_law 1522 = .ok (.aload_n 2, 1) := by decide +kernel
theorem dL_law_1523 : decode cL_law 1523 = .ok (.aload_n 0, 1) := by decide +kernel
theorem dL_law_1524 : decode cL_law 1524 = .ok (.iload 4, 2) := by decide +kernel
theorem dL_law_1526 : decode cL_law 1526 = .ok (.iconst 1, 1) := by decide +kernel
theorem dL_law_1527 : decode cL_law 1527 = .ok (.iadd, 1) := by decide +kernel
theorem dL_law_1528 : decode cL_law 1528 = .ok (.iaload, 1) := by decide +kernel
theorem dL_law_1529 : decode cL_law 1529 = .ok (.aload_n 0, 1) := by decide +kernel
theorem dL_law_1530 : decode cL_law 1530 = .ok (.iload 4, 2) := by decide +kernel
theorem dL_law_1532 : decode cL_law 1532 = .ok (.iconst 2, 1) := by decide +kernel
theorem dL_law_1533 : decode cL_law 1533 = .ok (.iadd, 1) := by decide +kernel
theorem dL_law_1534 : decode cL_law 1534 = .ok (.iaload, 1) := by decide +kernel
theorem dL_law_1535 : decode cL_law 1535 = .ok (.invokevirtual 198, 3) := by decide +kernel
theorem dL_law_1538 : decode cL_law 1538 = .ok (.istore 6, 2) := by decide +kernel
theorem dL_law_1540 : decode cL_law 1540 = .ok (.aload_n 2, 1) := by decide +kernel
theorem dL_law_1541 : decode cL_law 1541 = .ok (.invokevirtual 92, 3) := by decide +kernel
theorem dL_law_1544 : decode cL_law 1544 = .ok (.iload 5, 2) := by decide +kernel
theorem dL_law_1546 : decode cL_law 1546 = .ok (.if_icmp .eq 5, 3) := by decide +kernel
theorem dL_law_1549 : decode cL_law 1549 = .ok (.iconst 0, 1) := by decide +kernel
theorem dL_law_1550 : decode cL_law 1550 = .ok (.ireturn, 1) := by decide +kernel
theorem dL_law_1551 : decode cL_law 1551 = .ok (.iload 5, 2) := by decide +kernel
theorem dL_law_1553 : decode cL_law 1553 = .ok (.ifCond .ne 15, 3) := by decide +kernel
theorem dL_law_1556 : decode cL_law 1556 = .ok (.aload_n 3, 1) := by decide +kernel
theorem dL_law_1557 : decode cL_law 1557 = .ok (.iconst 0, 1) := by decide +kernel
theorem dL_law_1558 : decode cL_law 1558 = .ok (.laload, 1) := by decide +kernel
theorem dL_law_1559 : decode cL_law 1559 = .ok (.iload 6, 2) := by decide +kernel
theorem dL_law_1561 : decode cL_law 1561 = .ok (.i2l, 1) := by decide +kernel
theorem dL_law_1562 : decode cL_law 1562 = .ok (.lcmp, 1) := by decide +kernel
theorem dL_law_1563 : decode cL_law 1563 = .ok (.ifCond .eq 5, 3) := by decide +kernel
theorem dL_law_1566 : decode cL_law 1566 = .ok (.iconst 0, 1) := by decide +kernel
theorem dL_law_1567 : decode cL_law 1567 = .ok (.ireturn, 1) := by decide +kernel
theorem dL_law_1568 : decode cL_law 1568 = .ok (.goto 140, 3) := by decide +kernel
theorem dL_law_1571 : decode cL_law 1571 = .ok (.aload_n 1, 1) := by decide +kernel
theorem dL_law_1572 : decode cL_law 1572 = .ok (.invokevirtual 199, 3) := by decide +kernel
theorem dL_law_1575 : decode cL_law 1575 = .ok (.aload_n 2, 1) := by decide +kernel
theorem dL_law_1576 : decode cL_law 1576 = .ok (.invokevirtual 202, 3) := by decide +kernel
theorem dL_law_1579 : decode cL_law 1579 = .ok (.if_icmp .eq 129, 3) := by decide +kernel
theorem dL_law_1582 : decode cL_law 1582 = .ok (.iconst 0, 1) := by decide +kernel
theorem dL_law_1583 : decode cL_law 1583 = .ok (.ireturn, 1) := by decide +kernel
theorem dL_law_1584 : decode cL_law 1584 = .ok (.aload_n 1, 1) := by decide +kernel
theorem dL_law_1585 : decode cL_law 1585 = .ok (.aload_n 0, 1) := by decide +kernel
theorem dL_law_1586 : decode cL_law 1586 = .ok (.iload 4, 2) := by decide +kernel
theorem dL_law_1588 : decode cL_law 1588 = .ok (.iconst 1, 1) := by decide +kernel
theorem dL_law_1589 : decode cL_law 1589 = .ok (.iadd, 1) := by decide +kernel
theorem dL_law_1590 : decode cL_law 1590 = .ok (.iaload, 1) := by decide +kernel
theorem dL_law_1591 : decode cL_law 1591 = .ok (.aload_n 3, 1) := by decide +kernel
theorem dL_law_1592 : decode cL_law 1592 = .ok (.invokestatic 203, 3) := by decide +kernel
theorem dL_law_1595 : decode cL_law 1595 = .ok (.istore 5, 2) := by decide +kernel
theorem dL_law_1597 : decode cL_law 1597 = .ok (.aload_n 2, 1) := by decide +kernel
theorem dL_law_1598 : decode cL_law 1598 = .ok (.aload_n 0, 1) := by decide +kernel
theorem dL_law_1599 : decode cL_law 1599 = .ok (.iload 4, 2) := by decide +kernel
theorem dL_law_1601 : decode cL_law 1601 = .ok (.iconst 1, 1) := by decide +kernel
theorem dL_law_1602 : decode cL_law 1602 = .ok (.iadd, 1) := by decide +kernel
theorem dL_law_1603 : decode cL_law 1603 = .ok (.iaload, 1) := by decide +kernel
theorem dL_law_1604 : decode cL_law 1604 = .ok (.invokevirtual 205, 3) := by decide +kernel
theorem dL_law_1607 : decode cL_law 1607 = .ok (.istore 6, 2) := by decide +kernel
theorem dL_law_1609 : decode cL_law 1609 = .ok (.aload_n 2, 1) := by decide +kernel
theorem dL_law_1610 : decode cL_law 1610 = .ok (.invokevirtual 92, 3) := by decide +kernel
theorem dL_law_1613 : decode cL_law 1613 = .ok (.iload 5, 2) := by decide +kernel
theorem dL_law_1615 : decode cL_law 1615 = .ok (.if_icmp .eq 5, 3) := by decide +kernel
theorem dL_law_1618 : decode cL_law 1618 = .ok (.iconst 0, 1) := by decide +kernel
theorem dL_law_1619 : decode cL_law 1619 = .ok (.ireturn, 1) := by decide +kernel
theorem dL_law_1620 : decode cL_law 1620 = .ok (.iload 5, 2) := by decide +kernel
theorem dL_law_1622 : decode cL_law 1622 = .ok (.ifCond .ne 15, 3) := by decide +kernel
theorem dL_law_1625 : decode cL_law 1625 = .ok (.aload_n 3, 1) := by decide +kernel
theorem dL_law_1626 : decode cL_law 1626 = .ok (.iconst 0, 1) := by decide +kernel
theorem dL_law_1627 : decode cL_law 1627 = .ok (.laload, 1) := by decide +kernel
theorem dL_law_1628 : decode cL_law 1628 = .ok (.iload 6, 2) := by decide +kernel
theorem dL_law_1630 : decode cL_law 1630 = .ok (.i2l, 1) := by decide +kernel
theorem dL_law_1631 : decode cL_law 1631 = .ok (.lcmp, 1) := by decide +kernel
theorem dL_law_1632 : decode cL_law 1632 = .ok (.ifCond .eq 5, 3) := by decide +kernel
theorem dL_law_1635 : decode cL_law 1635 = .ok (.iconst 0, 1) := by decide +kernel
theorem dL_law_1636 : decode cL_law 1636 = .ok (.ireturn, 1) := by decide +kernel
theorem dL_law_1637 : decode cL_law 1637 = .ok (.goto 71, 3) := by decide +kernel
theorem dL_law_1640 : decode cL_law 1640 = .ok (.aload_n 1, 1) := by decide +kernel
theorem dL_law_1641 : decode cL_law 1641 = .ok (.invokevirtual 206, 3) := by decide +kernel
theorem dL_law_1644 : decode cL_law 1644 = .ok (.aload_n 2, 1) := by decide +kernel
theorem dL_law_1645 : decode cL_law 1645 = .ok (.invokevirtual 209, 3) := by decide +kernel
theorem dL_law_1648 : decode cL_law 1648 = .ok (.if_icmp .eq 60, 3) := by decide +kernel
theorem dL_law_1651 : decode cL_law 1651 = .ok (.iconst 0, 1) := by decide +kernel
theorem dL_law_1652 : decode cL_law 1652 = .ok (.ireturn, 1) := by decide +kernel
theorem dL_law_1653 : decode cL_law 1653 = .ok (.aload_n 1, 1) := by decide +kernel
theorem dL_law_1654 : decode cL_law 1654 = .ok (.invokevirtual 210, 3) := by decide +kernel
theorem dL_law_1657 : decode cL_law 1657 = .ok (.dstore 5, 2) := by decide +kernel
theorem dL_law_1659 : decode cL_law 1659 = .ok (.aload_n 2, 1) := by decide +kernel
theorem dL_law_1660 : decode cL_law 1660 = .ok (.invokevirtual 214, 3) := by decide +kernel
theorem dL_law_1663 : decode cL_law 1663 = .ok (.dstore 7, 2) := by decide +kernel
theorem dL_law_1665 : decode cL_law 1665 = .ok (.dload 5, 2) := by decide +kernel
theorem dL_law_1667 : decode cL_law 1667 = .ok (.dload 7, 2) := by decide +kernel
theorem dL_law_1669 : decode cL_law 1669 = .ok (.dcmp .l, 1) := by decide +kernel
theorem dL_law_1670 : decode cL_law 1670 = .ok (.ifCond .eq 21, 3) := by decide +kernel
theorem dL_law_1673 : decode cL_law 1673 = .ok (.dload 5, 2) := by decide +kernel
theorem dL_law_1675 : decode cL_law 1675 = .ok (.dload 5, 2) := by decide +kernel
theorem dL_law_1677 : decode cL_law 1677 = .ok (.dcmp .l, 1) := by decide +kernel
theorem dL_law_1678 : decode cL_law 1678 = .ok (.ifCond .eq 11, 3) := by decide +kernel
theorem dL_law_1681 : decode cL_law 1681 = .ok (.dload 7, 2) := by decide +kernel
theorem dL_law_1683 : decode cL_law 1683 = .ok (.dload 7, 2) := by decide +kernel
theorem dL_law_1685 : decode cL_law 1685 = .ok (.dcmp .l, 1) := by decide +kernel
theorem dL_law_1686 : decode cL_law 1686 = .ok (.ifCond .ne 5, 3) := by decide +kernel
theorem dL_law_1689 : decode cL_law 1689 = .ok (.iconst 0, 1) := by decide +kernel
theorem dL_law_1690 : decode cL_law 1690 = .ok (.ireturn, 1) := by decide +kernel
theorem dL_law_1691 : decode cL_law 1691 = .ok (.goto 17, 3) := by decide +kernel
theorem dL_law_1694 : decode cL_law 1694 = .ok (.aload_n 1, 1) := by decide +kernel
theorem dL_law_1695 : decode cL_law 1695 = .ok (.invokevirtual 215, 3) := by decide +kernel
theorem dL_law_1698 : decode cL_law 1698 = .ok (.aload_n 2, 1) := by decide +kernel
theorem dL_law_1699 : decode cL_law 1699 = .ok (.invokevirtual 219, 3) := by decide +kernel
theorem dL_law_1702 : decode cL_law 1702 = .ok (.lcmp, 1) := by decide +kernel
theorem dL_law_1703 : decode cL_law 1703 = .ok (.ifCond .eq 5, 3) := by decide +kernel
theorem dL_law_1706 : decode cL_law 1706 = .ok (.iconst 0, 1) := by decide +kernel
theorem dL_law_1707 : decode cL_law 1707 = .ok (.ireturn, 1) := by decide +kernel
theorem dL_law_1708 : decode cL_law 1708 = .ok (.iinc 4 4, 3) := by decide +kernel
theorem dL_law_1711 : decode cL_law 1711 = .ok (.goto (-1688), 3) := by decide +kernel
theorem dL_law_1714 : decode cL_law 1714 = .ok (.iconst 1, 1) := by decide +kernel
theorem dL_law_1715 : decode cL_law 1715 = .ok (.ireturn, 1) := by decide +kernel
end
section
/-- the tables' words that stay true  -/
def LW : List Cond := lw_tbl.filter goodWord
theorem LW_of {w : Cond} (h : w ∈ lw_tbl) (hg : goodWord w = true) : w ∈ LW := List.mem_filter.mpr ⟨h, hg⟩
theorem LW_tbl {w : Cond} (h : w ∈ LW) : w ∈ lw_tbl := (List.mem_filter.mp h).1
theorem LW_good : GoodIn LW LW := fun w h => ⟨h, good_of_word (List.mem_filter.mp h).2⟩
abbrev wL (y : MethodName) (c : ByteArray) (n : Nat) (r : Option FieldType) : List Cond := Cond.code y c n r :: LW
theorem wsX00_tbl : ∀ w ∈ wsX00, w ∈ lw_tbl := fun w h => (goodIn_of (big := lw_tbl) wsX00 (by decide +kernel) w h).1
theorem in_wsX00 : ∀ w ∈ wsX00, w ∈ LW := fun w h => LW_of (wsX00_tbl w h) (List.all_eq_true.mp (show wsX00.all goodWord = true by decide +kernel) w h)
theorem wsX10_tbl : ∀ w ∈ wsX10, w ∈ lw_tbl := fun w h => (goodIn_of (big := lw_tbl) wsX10 (by decide +kernel) w h).1
theorem in_wsX10 : ∀ w ∈ wsX10, w ∈ LW := fun w h => LW_of (wsX10_tbl w h) (List.all_eq_true.mp (show wsX10.all goodWord = true by decide +kernel) w h)
theorem wsX20_tbl : ∀ w ∈ wsX20, w ∈ lw_tbl := fun w h => (goodIn_of (big := lw_tbl) wsX20 (by decide +kernel) w h).1
theorem in_wsX20 : ∀ w ∈ wsX20, w ∈ LW := fun w h => LW_of (wsX20_tbl w h) (List.all_eq_true.mp (show wsX20.all goodWord = true by decide +kernel) w h)
theorem q0 : Cond.selects RX0 yX0_letFlow yX0_letFlow ∈ LW := LW_of (List.mem_of_getElem? (i := 0) (by decide +kernel)) rfl
theorem q1 : Cond.selects RX0 yX0_countWetHours yX0_countWetHours ∈ LW := LW_of (List.mem_of_getElem? (i := 1) (by decide +kernel)) rfl
theorem q3 : Cond.selects RX1 yX1_mixFields yX1_mixFields ∈ LW := LW_of (List.mem_of_getElem? (i := 3) (by decide +kernel)) rfl
theorem q4 : Cond.selects RX1 yX1_requireField yX1_requireField ∈ LW := LW_of (List.mem_of_getElem? (i := 4) (by decide +kernel)) rfl
theorem q5 : Cond.selects RX1 yX1_mixDrains yX1_mixDrains ∈ LW := LW_of (List.mem_of_getElem? (i := 5) (by decide +kernel)) rfl
theorem q6 : Cond.selects RX1 yX1_requireDrain yX1_requireDrain ∈ LW := LW_of (List.mem_of_getElem? (i := 6) (by decide +kernel)) rfl
theorem q7 : Cond.selects RX1 yX1_addDrain yX1_addDrain ∈ LW := LW_of (List.mem_of_getElem? (i := 7) (by decide +kernel)) rfl
theorem q8 : Cond.selects RX2 yX2_no yX2_no ∈ LW := LW_of (List.mem_of_getElem? (i := 8) (by decide +kernel)) rfl
theorem q9 : Cond.selects RX2 yX2_isField yX2_isField ∈ LW := LW_of (List.mem_of_getElem? (i := 9) (by decide +kernel)) rfl
theorem q10 : Cond.selects RX2 yX2_add yX2_add ∈ LW := LW_of (List.mem_of_getElem? (i := 10) (by decide +kernel)) rfl
theorem q11 : Cond.selects RX2 yX2_isDrain yX2_isDrain ∈ LW := LW_of (List.mem_of_getElem? (i := 11) (by decide +kernel)) rfl
theorem q12 : Cond.selects RX2 yX2_isNot yX2_isNot ∈ LW := LW_of (List.mem_of_getElem? (i := 12) (by decide +kernel)) rfl
theorem q13 : Cond.selects RX2 yX2_water yX2_water ∈ LW := LW_of (List.mem_of_getElem? (i := 13) (by decide +kernel)) rfl
theorem q14 : Cond.selects RX2 yX2_ruined yX2_ruined ∈ LW := LW_of (List.mem_of_getElem? (i := 14) (by decide +kernel)) rfl
theorem q15 : Cond.selects RX2 yX2_hoursOn yX2_hoursOn ∈ LW := LW_of (List.mem_of_getElem? (i := 15) (by decide +kernel)) rfl
theorem q16 : Cond.selects RX2 yX2_hourOn yX2_hourOn ∈ LW := LW_of (List.mem_of_getElem? (i := 16) (by decide +kernel)) rfl
theorem q17 : Cond.selects RX2 yX2_carry yX2_carry ∈ LW := LW_of (List.mem_of_getElem? (i := 17) (by decide +kernel)) rfl
theorem q18 : Cond.selects RX2 yX2_flow yX2_flow ∈ LW := LW_of (List.mem_of_getElem? (i := 18) (by decide +kernel)) rfl
theorem q19 : Cond.selects RX2 yX2_level yX2_level ∈ LW := LW_of (List.mem_of_getElem? (i := 19) (by decide +kernel)) rfl
theorem q20 : Cond.selects RX2 yX2_ok yX2_ok ∈ LW := LW_of (List.mem_of_getElem? (i := 20) (by decide +kernel)) rfl
theorem q21 : Cond.selects RX2 yX2_allWater yX2_allWater ∈ LW := LW_of (List.mem_of_getElem? (i := 21) (by decide +kernel)) rfl
theorem q22 : Cond.selects RX2 yX2_wet yX2_wet ∈ LW := LW_of (List.mem_of_getElem? (i := 22) (by decide +kernel)) rfl
theorem q23 : Cond.selects RX2 yX2_lost yX2_lost ∈ LW := LW_of (List.mem_of_getElem? (i := 23) (by decide +kernel)) rfl
theorem q24 : Cond.selects RX2 yX2_of yX2_of ∈ LW := LW_of (List.mem_of_getElem? (i := 24) (by decide +kernel)) rfl
theorem q25 : Cond.selects RX2 yX2_openAt yX2_openAt ∈ LW := LW_of (List.mem_of_getElem? (i := 25) (by decide +kernel)) rfl
theorem q26 : Cond.selects RX2 yX2_spread yX2_spread ∈ LW := LW_of (List.mem_of_getElem? (i := 26) (by decide +kernel)) rfl
theorem q27 : Cond.selects RX2 yX2_spreads yX2_spreads ∈ LW := LW_of (List.mem_of_getElem? (i := 27) (by decide +kernel)) rfl
theorem q28 : Cond.selects RX2 yX2_high yX2_high ∈ LW := LW_of (List.mem_of_getElem? (i := 28) (by decide +kernel)) rfl
theorem q29 : Cond.selects RX2 yX2_busy yX2_busy ∈ LW := LW_of (List.mem_of_getElem? (i := 29) (by decide +kernel)) rfl
theorem q30 : Cond.selects RX2 yX2_until yX2_until ∈ LW := LW_of (List.mem_of_getElem? (i := 30) (by decide +kernel)) rfl
theorem q31 : Cond.selects RX2 yX2_keep yX2_keep ∈ LW := LW_of (List.mem_of_getElem? (i := 31) (by decide +kernel)) rfl
theorem q32 : Cond.selects RX2 yX2_bringBack yX2_bringBack ∈ LW := LW_of (List.mem_of_getElem? (i := 32) (by decide +kernel)) rfl
theorem q33 : Cond.selects RX2 yX2_lostBehind yX2_lostBehind ∈ LW := LW_of (List.mem_of_getElem? (i := 33) (by decide +kernel)) rfl
theorem q34 : Cond.selects RX2 yX2_turned yX2_turned ∈ LW := LW_of (List.mem_of_getElem? (i := 34) (by decide +kernel)) rfl
theorem q35 : Cond.selects RX2 yX2_flooded yX2_flooded ∈ LW := LW_of (List.mem_of_getElem? (i := 35) (by decide +kernel)) rfl
theorem q36 : Cond.selects RX2 yX2_borne yX2_borne ∈ LW := LW_of (List.mem_of_getElem? (i := 36) (by decide +kernel)) rfl
theorem q37 : Cond.initialized RL ∈ LW := LW_of (List.mem_of_getElem? (i := 37) (by decide +kernel)) rfl
theorem q38 : Cond.initialized RX1 ∈ LW := LW_of (List.mem_of_getElem? (i := 38) (by decide +kernel)) rfl
theorem q39 : Cond.initialized RX0 ∈ LW := LW_of (List.mem_of_getElem? (i := 39) (by decide +kernel)) rfl
theorem q40 : Cond.initialized RX2 ∈ LW := LW_of (List.mem_of_getElem? (i := 40) (by decide +kernel)) rfl
theorem q41 : Cond.initialized "java/lang/Throwable" ∈ LW := LW_of (List.mem_of_getElem? (i := 41) (by decide +kernel)) rfl
theorem q42 : Cond.initialized "java/lang/Exception" ∈ LW := LW_of (List.mem_of_getElem? (i := 42) (by decide +kernel)) rfl
theorem q43 : Cond.initialized "java/lang/RuntimeException" ∈ LW := LW_of (List.mem_of_getElem? (i := 43) (by decide +kernel)) rfl
theorem q44 : Cond.initialized "java/lang/IllegalArgumentException" ∈ LW := LW_of (List.mem_of_getElem? (i := 44) (by decide +kernel)) rfl
theorem q45 : Cond.initialized "java/lang/IllegalStateException" ∈ LW := LW_of (List.mem_of_getElem? (i := 45) (by decide +kernel)) rfl
theorem q46 : Cond.initialized "java/lang/IndexOutOfBoundsException" ∈ LW := LW_of (List.mem_of_getElem? (i := 46) (by decide +kernel)) rfl
theorem q47 : Cond.initialized "java/lang/Math" ∈ LW := LW_of (List.mem_of_getElem? (i := 47) (by decide +kernel)) rfl
theorem q48 : Cond.initialized RJ6 ∈ LW := LW_of (List.mem_of_getElem? (i := 48) (by decide +kernel)) rfl
theorem q49 : Cond.initialized "java/lang/System" ∈ LW := LW_of (List.mem_of_getElem? (i := 49) (by decide +kernel)) rfl
theorem q50 : Cond.classLink RL 8 RX1 ∈ LW := LW_of (List.mem_of_getElem? (i := 50) (by decide +kernel)) rfl
theorem q51 : Cond.instantiable RX1 2 ∈ LW := LW_of (List.mem_of_getElem? (i := 51) (by decide +kernel)) rfl
theorem q52 : Cond.methodLink RL 82 yX1_init ∈ LW := LW_of (List.mem_of_getElem? (i := 52) (by decide +kernel)) rfl
theorem q53 : Cond.instanceMethod yX1_init ∈ LW := LW_of (List.mem_of_getElem? (i := 53) (by decide +kernel)) rfl
theorem q54 : Cond.code yX1_init cX1_init 1 none ∈ LW := LW_of (List.mem_of_getElem? (i := 54) (by decide +kernel)) rfl
theorem q55 : Cond.methodLink RX1 1 objectInit ∈ LW := LW_of (List.mem_of_getElem? (i := 55) (by decide +kernel)) rfl
theorem q56 : Cond.instanceMethod objectInit ∈ LW := LW_of (List.mem_of_getElem? (i := 56) (by decide +kernel)) rfl
theorem q57 : Cond.code objectInit ⟨#[0xb1]⟩ 1 none ∈ LW := LW_of (List.mem_of_getElem? (i := 57) (by decide +kernel)) rfl
theorem q58 : Cond.classLink RX1 7 RX0 ∈ LW := LW_of (List.mem_of_getElem? (i := 58) (by decide +kernel)) rfl
theorem q59 : Cond.instantiable RX0 16 ∈ LW := LW_of (List.mem_of_getElem? (i := 59) (by decide +kernel)) rfl
theorem q61 : Cond.instanceMethod yX0_init ∈ LW := LW_of (List.mem_of_getElem? (i := 61) (by decide +kernel)) rfl
theorem q62 : Cond.code yX0_init cX0_init 1 none ∈ LW := LW_of (List.mem_of_getElem? (i := 62) (by decide +kernel)) rfl
theorem q63 : Cond.methodLink RX0 3 objectInit ∈ LW := LW_of (List.mem_of_getElem? (i := 63) (by decide +kernel)) rfl
theorem q64 : Cond.fieldLink RX0 9 "MarshDrains$Marsh" "floors" "[I" ∈ LW := LW_of (List.mem_of_getElem? (i := 64) (by decide +kernel)) rfl
theorem q65 : Cond.fieldLink RX0 15 "MarshDrains$Marsh" "worths" "[I" ∈ LW := LW_of (List.mem_of_getElem? (i := 65) (by decide +kernel)) rfl
theorem q66 : Cond.fieldLink RX0 18 "MarshDrains$Marsh" "waters" "[I" ∈ LW := LW_of (List.mem_of_getElem? (i := 66) (by decide +kernel)) rfl
theorem q68 : Cond.fieldLink RX0 21 "MarshDrains$Marsh" "wetHours" "[I" ∈ LW := LW_of (List.mem_of_getElem? (i := 68) (by decide +kernel)) rfl
theorem q70 : Cond.fieldLink RX0 24 "MarshDrains$Marsh" "ruined" "[Z" ∈ LW := LW_of (List.mem_of_getElem? (i := 70) (by decide +kernel)) rfl
theorem q72 : Cond.fieldLink RX0 28 "MarshDrains$Marsh" "froms" "[I" ∈ LW := LW_of (List.mem_of_getElem? (i := 72) (by decide +kernel)) rfl
theorem q74 : Cond.fieldLink RX0 31 "MarshDrains$Marsh" "tos" "[I" ∈ LW := LW_of (List.mem_of_getElem? (i := 74) (by decide +kernel)) rfl
theorem q76 : Cond.fieldLink RX0 34 "MarshDrains$Marsh" "carries" "[I" ∈ LW := LW_of (List.mem_of_getElem? (i := 76) (by decide +kernel)) rfl
theorem q77 : Cond.fieldLink RX0 37 "MarshDrains$Marsh" "carried" "[I" ∈ LW := LW_of (List.mem_of_getElem? (i := 77) (by decide +kernel)) rfl
theorem q79 : Cond.fieldLink RX0 40 "MarshDrains$Marsh" "pumps" "[Z" ∈ LW := LW_of (List.mem_of_getElem? (i := 79) (by decide +kernel)) rfl
theorem q81 : Cond.fieldLink RX0 43 "MarshDrains$Marsh" "opens" "[Z" ∈ LW := LW_of (List.mem_of_getElem? (i := 81) (by decide +kernel)) rfl
theorem q83 : Cond.fieldLink RX0 46 "MarshDrains$Marsh" "fieldCount" "I" ∈ LW := LW_of (List.mem_of_getElem? (i := 83) (by decide +kernel)) rfl
theorem q85 : Cond.fieldLink RX0 50 "MarshDrains$Marsh" "drainCount" "I" ∈ LW := LW_of (List.mem_of_getElem? (i := 85) (by decide +kernel)) rfl
theorem q88 : Cond.fieldLink RX0 63 "MarshDrains$Marsh" "rainfall" "I" ∈ LW := LW_of (List.mem_of_getElem? (i := 88) (by decide +kernel)) rfl
theorem q90 : Cond.fieldLink RX0 83 "MarshDrains$Marsh" "toSea" "I" ∈ LW := LW_of (List.mem_of_getElem? (i := 90) (by decide +kernel)) rfl
theorem q92 : Cond.fieldLink RX0 77 "MarshDrains$Marsh" "clock" "I" ∈ LW := LW_of (List.mem_of_getElem? (i := 92) (by decide +kernel)) rfl
theorem q126 : Cond.arrayClass .int ∈ LW := LW_of (List.mem_of_getElem? (i := 126) (by decide +kernel)) rfl
theorem q127 : Cond.arrayClass .boolean ∈ LW := LW_of (List.mem_of_getElem? (i := 127) (by decide +kernel)) rfl
theorem q128 : Cond.fieldLink RX1 10 "MarshDrains" "now" "LMarshDrains$Marsh;" ∈ LW := LW_of (List.mem_of_getElem? (i := 128) (by decide +kernel)) rfl
theorem q129 : Cond.fieldLink RX1 16 "MarshDrains" "trial" "LMarshDrains$Marsh;" ∈ LW := LW_of (List.mem_of_getElem? (i := 129) (by decide +kernel)) rfl
theorem q135 : Cond.methodLink RL 116 yX1_hour ∈ LW := LW_of (List.mem_of_getElem? (i := 135) (by decide +kernel)) rfl
theorem q136 : Cond.instanceMethod yX1_hour ∈ LW := LW_of (List.mem_of_getElem? (i := 136) (by decide +kernel)) rfl
theorem q137 : Cond.selects RX1 yX1_hour yX1_hour ∈ LW := LW_of (List.mem_of_getElem? (i := 137) (by decide +kernel)) rfl
theorem q138 : Cond.code yX1_hour cX1_hour 1 (some .int) ∈ LW := LW_of (List.mem_of_getElem? (i := 138) (by decide +kernel)) rfl
theorem q139 : Cond.methodLink RL 120 yX1_fields ∈ LW := LW_of (List.mem_of_getElem? (i := 139) (by decide +kernel)) rfl
theorem q140 : Cond.instanceMethod yX1_fields ∈ LW := LW_of (List.mem_of_getElem? (i := 140) (by decide +kernel)) rfl
theorem q141 : Cond.selects RX1 yX1_fields yX1_fields ∈ LW := LW_of (List.mem_of_getElem? (i := 141) (by decide +kernel)) rfl
theorem q142 : Cond.code yX1_fields cX1_fields 1 (some .int) ∈ LW := LW_of (List.mem_of_getElem? (i := 142) (by decide +kernel)) rfl
theorem q143 : Cond.methodLink RL 124 yX1_drains ∈ LW := LW_of (List.mem_of_getElem? (i := 143) (by decide +kernel)) rfl
theorem q144 : Cond.instanceMethod yX1_drains ∈ LW := LW_of (List.mem_of_getElem? (i := 144) (by decide +kernel)) rfl
theorem q145 : Cond.selects RX1 yX1_drains yX1_drains ∈ LW := LW_of (List.mem_of_getElem? (i := 145) (by decide +kernel)) rfl
theorem q146 : Cond.code yX1_drains cX1_drains 1 (some .int) ∈ LW := LW_of (List.mem_of_getElem? (i := 146) (by decide +kernel)) rfl
theorem q147 : Cond.methodLink RL 128 yX1_rain ∈ LW := LW_of (List.mem_of_getElem? (i := 147) (by decide +kernel)) rfl
theorem q148 : Cond.instanceMethod yX1_rain ∈ LW := LW_of (List.mem_of_getElem? (i := 148) (by decide +kernel)) rfl
theorem q149 : Cond.selects RX1 yX1_rain yX1_rain ∈ LW := LW_of (List.mem_of_getElem? (i := 149) (by decide +kernel)) rfl
theorem q150 : Cond.code yX1_rain cX1_rain 1 (some .int) ∈ LW := LW_of (List.mem_of_getElem? (i := 150) (by decide +kernel)) rfl
theorem q151 : Cond.methodLink RL 132 yX1_water ∈ LW := LW_of (List.mem_of_getElem? (i := 151) (by decide +kernel)) rfl
theorem q152 : Cond.instanceMethod yX1_water ∈ LW := LW_of (List.mem_of_getElem? (i := 152) (by decide +kernel)) rfl
theorem q153 : Cond.selects RX1 yX1_water yX1_water ∈ LW := LW_of (List.mem_of_getElem? (i := 153) (by decide +kernel)) rfl
theorem q154 : Cond.code yX1_water cX1_water 3 (some .int) ∈ LW := LW_of (List.mem_of_getElem? (i := 154) (by decide +kernel)) rfl
theorem q155 : Cond.methodLink RL 136 yX1_drained ∈ LW := LW_of (List.mem_of_getElem? (i := 155) (by decide +kernel)) rfl
theorem q156 : Cond.instanceMethod yX1_drained ∈ LW := LW_of (List.mem_of_getElem? (i := 156) (by decide +kernel)) rfl
theorem q157 : Cond.selects RX1 yX1_drained yX1_drained ∈ LW := LW_of (List.mem_of_getElem? (i := 157) (by decide +kernel)) rfl
theorem q158 : Cond.code yX1_drained cX1_drained 1 (some .int) ∈ LW := LW_of (List.mem_of_getElem? (i := 158) (by decide +kernel)) rfl
theorem q159 : Cond.methodLink RL 140 yX1_wetFields ∈ LW := LW_of (List.mem_of_getElem? (i := 159) (by decide +kernel)) rfl
theorem q160 : Cond.instanceMethod yX1_wetFields ∈ LW := LW_of (List.mem_of_getElem? (i := 160) (by decide +kernel)) rfl
theorem q161 : Cond.selects RX1 yX1_wetFields yX1_wetFields ∈ LW := LW_of (List.mem_of_getElem? (i := 161) (by decide +kernel)) rfl
theorem q162 : Cond.code yX1_wetFields cX1_wetFields 3 (some .int) ∈ LW := LW_of (List.mem_of_getElem? (i := 162) (by decide +kernel)) rfl
theorem q163 : Cond.methodLink RX1 83 yX0_isWet ∈ LW := LW_of (List.mem_of_getElem? (i := 163) (by decide +kernel)) rfl
theorem q164 : Cond.instanceMethod yX0_isWet ∈ LW := LW_of (List.mem_of_getElem? (i := 164) (by decide +kernel)) rfl
theorem q165 : Cond.selects RX0 yX0_isWet yX0_isWet ∈ LW := LW_of (List.mem_of_getElem? (i := 165) (by decide +kernel)) rfl
theorem q166 : Cond.code yX0_isWet cX0_isWet 2 (some .boolean) ∈ LW := LW_of (List.mem_of_getElem? (i := 166) (by decide +kernel)) rfl
theorem q167 : Cond.methodLink RX0 57 yX0_hasField ∈ LW := LW_of (List.mem_of_getElem? (i := 167) (by decide +kernel)) rfl
theorem q168 : Cond.instanceMethod yX0_hasField ∈ LW := LW_of (List.mem_of_getElem? (i := 168) (by decide +kernel)) rfl
theorem q169 : Cond.selects RX0 yX0_hasField yX0_hasField ∈ LW := LW_of (List.mem_of_getElem? (i := 169) (by decide +kernel)) rfl
theorem q170 : Cond.code yX0_hasField cX0_hasField 2 (some .boolean) ∈ LW := LW_of (List.mem_of_getElem? (i := 170) (by decide +kernel)) rfl
theorem q171 : Cond.methodLink RL 144 yX1_ruinedFields ∈ LW := LW_of (List.mem_of_getElem? (i := 171) (by decide +kernel)) rfl
theorem q172 : Cond.instanceMethod yX1_ruinedFields ∈ LW := LW_of (List.mem_of_getElem? (i := 172) (by decide +kernel)) rfl
theorem q173 : Cond.selects RX1 yX1_ruinedFields yX1_ruinedFields ∈ LW := LW_of (List.mem_of_getElem? (i := 173) (by decide +kernel)) rfl
theorem q174 : Cond.code yX1_ruinedFields cX1_ruinedFields 1 (some .int) ∈ LW := LW_of (List.mem_of_getElem? (i := 174) (by decide +kernel)) rfl
theorem q175 : Cond.methodLink RX1 64 yX0_countRuined ∈ LW := LW_of (List.mem_of_getElem? (i := 175) (by decide +kernel)) rfl
theorem q176 : Cond.instanceMethod yX0_countRuined ∈ LW := LW_of (List.mem_of_getElem? (i := 176) (by decide +kernel)) rfl
theorem q177 : Cond.selects RX0 yX0_countRuined yX0_countRuined ∈ LW := LW_of (List.mem_of_getElem? (i := 177) (by decide +kernel)) rfl
theorem q178 : Cond.code yX0_countRuined cX0_countRuined 3 (some .int) ∈ LW := LW_of (List.mem_of_getElem? (i := 178) (by decide +kernel)) rfl
theorem q179 : Cond.methodLink RL 148 yX1_loss ∈ LW := LW_of (List.mem_of_getElem? (i := 179) (by decide +kernel)) rfl
theorem q180 : Cond.instanceMethod yX1_loss ∈ LW := LW_of (List.mem_of_getElem? (i := 180) (by decide +kernel)) rfl
theorem q181 : Cond.selects RX1 yX1_loss yX1_loss ∈ LW := LW_of (List.mem_of_getElem? (i := 181) (by decide +kernel)) rfl
theorem q182 : Cond.code yX1_loss cX1_loss 1 (some .int) ∈ LW := LW_of (List.mem_of_getElem? (i := 182) (by decide +kernel)) rfl
theorem q183 : Cond.methodLink RX1 87 yX0_lostWorth ∈ LW := LW_of (List.mem_of_getElem? (i := 183) (by decide +kernel)) rfl
theorem q184 : Cond.instanceMethod yX0_lostWorth ∈ LW := LW_of (List.mem_of_getElem? (i := 184) (by decide +kernel)) rfl
theorem q185 : Cond.selects RX0 yX0_lostWorth yX0_lostWorth ∈ LW := LW_of (List.mem_of_getElem? (i := 185) (by decide +kernel)) rfl
theorem q186 : Cond.code yX0_lostWorth cX0_lostWorth 3 (some .int) ∈ LW := LW_of (List.mem_of_getElem? (i := 186) (by decide +kernel)) rfl
theorem q187 : Cond.methodLink RL 170 yX1_highest ∈ LW := LW_of (List.mem_of_getElem? (i := 187) (by decide +kernel)) rfl
theorem q188 : Cond.instanceMethod yX1_highest ∈ LW := LW_of (List.mem_of_getElem? (i := 188) (by decide +kernel)) rfl
theorem q189 : Cond.selects RX1 yX1_highest yX1_highest ∈ LW := LW_of (List.mem_of_getElem? (i := 189) (by decide +kernel)) rfl
theorem q190 : Cond.code yX1_highest cX1_highest 5 (some .int) ∈ LW := LW_of (List.mem_of_getElem? (i := 190) (by decide +kernel)) rfl
theorem q191 : Cond.methodLink RX1 90 yX0_levelAt ∈ LW := LW_of (List.mem_of_getElem? (i := 191) (by decide +kernel)) rfl
theorem q192 : Cond.instanceMethod yX0_levelAt ∈ LW := LW_of (List.mem_of_getElem? (i := 192) (by decide +kernel)) rfl
theorem q193 : Cond.selects RX0 yX0_levelAt yX0_levelAt ∈ LW := LW_of (List.mem_of_getElem? (i := 193) (by decide +kernel)) rfl
theorem q194 : Cond.code yX0_levelAt cX0_levelAt 2 (some .int) ∈ LW := LW_of (List.mem_of_getElem? (i := 194) (by decide +kernel)) rfl
theorem q195 : Cond.methodLink RL 186 yX1_busiest ∈ LW := LW_of (List.mem_of_getElem? (i := 195) (by decide +kernel)) rfl
theorem q196 : Cond.instanceMethod yX1_busiest ∈ LW := LW_of (List.mem_of_getElem? (i := 196) (by decide +kernel)) rfl
theorem q197 : Cond.selects RX1 yX1_busiest yX1_busiest ∈ LW := LW_of (List.mem_of_getElem? (i := 197) (by decide +kernel)) rfl
theorem q198 : Cond.code yX1_busiest cX1_busiest 5 (some .int) ∈ LW := LW_of (List.mem_of_getElem? (i := 198) (by decide +kernel)) rfl
theorem q199 : Cond.methodLink RL 199 yX1_bestToTurn ∈ LW := LW_of (List.mem_of_getElem? (i := 199) (by decide +kernel)) rfl
theorem q200 : Cond.instanceMethod yX1_bestToTurn ∈ LW := LW_of (List.mem_of_getElem? (i := 200) (by decide +kernel)) rfl
theorem q201 : Cond.selects RX1 yX1_bestToTurn yX1_bestToTurn ∈ LW := LW_of (List.mem_of_getElem? (i := 201) (by decide +kernel)) rfl
theorem q202 : Cond.code yX1_bestToTurn cX1_bestToTurn 5 (some .int) ∈ LW := LW_of (List.mem_of_getElem? (i := 202) (by decide +kernel)) rfl
theorem q203 : Cond.methodLink RX1 128 yX0_becomeLike ∈ LW := LW_of (List.mem_of_getElem? (i := 203) (by decide +kernel)) rfl
theorem q204 : Cond.instanceMethod yX0_becomeLike ∈ LW := LW_of (List.mem_of_getElem? (i := 204) (by decide +kernel)) rfl
theorem q205 : Cond.selects RX0 yX0_becomeLike yX0_becomeLike ∈ LW := LW_of (List.mem_of_getElem? (i := 205) (by decide +kernel)) rfl
theorem q206 : Cond.code yX0_becomeLike cX0_becomeLike 3 none ∈ LW := LW_of (List.mem_of_getElem? (i := 206) (by decide +kernel)) rfl
theorem q207 : Cond.methodLink RX1 68 yX0_passHours ∈ LW := LW_of (List.mem_of_getElem? (i := 207) (by decide +kernel)) rfl
theorem q208 : Cond.instanceMethod yX0_passHours ∈ LW := LW_of (List.mem_of_getElem? (i := 208) (by decide +kernel)) rfl
theorem q209 : Cond.selects RX0 yX0_passHours yX0_passHours ∈ LW := LW_of (List.mem_of_getElem? (i := 209) (by decide +kernel)) rfl
theorem q210 : Cond.code yX0_passHours cX0_passHours 3 none ∈ LW := LW_of (List.mem_of_getElem? (i := 210) (by decide +kernel)) rfl
theorem q211 : Cond.methodLink RX0 60 yX0_passHour ∈ LW := LW_of (List.mem_of_getElem? (i := 211) (by decide +kernel)) rfl
theorem q212 : Cond.instanceMethod yX0_passHour ∈ LW := LW_of (List.mem_of_getElem? (i := 212) (by decide +kernel)) rfl
theorem q213 : Cond.selects RX0 yX0_passHour yX0_passHour ∈ LW := LW_of (List.mem_of_getElem? (i := 213) (by decide +kernel)) rfl
theorem q214 : Cond.code yX0_passHour cX0_passHour 2 none ∈ LW := LW_of (List.mem_of_getElem? (i := 214) (by decide +kernel)) rfl
theorem q215 : Cond.methodLink RX0 66 yX0_flowNow ∈ LW := LW_of (List.mem_of_getElem? (i := 215) (by decide +kernel)) rfl
theorem q216 : Cond.instanceMethod yX0_flowNow ∈ LW := LW_of (List.mem_of_getElem? (i := 216) (by decide +kernel)) rfl
theorem q217 : Cond.selects RX0 yX0_flowNow yX0_flowNow ∈ LW := LW_of (List.mem_of_getElem? (i := 217) (by decide +kernel)) rfl
theorem q218 : Cond.code yX0_flowNow cX0_flowNow 5 (some .int) ∈ LW := LW_of (List.mem_of_getElem? (i := 218) (by decide +kernel)) rfl
theorem q219 : Cond.methodLink RX0 53 yX0_hasDrain ∈ LW := LW_of (List.mem_of_getElem? (i := 219) (by decide +kernel)) rfl
theorem q220 : Cond.instanceMethod yX0_hasDrain ∈ LW := LW_of (List.mem_of_getElem? (i := 220) (by decide +kernel)) rfl
theorem q221 : Cond.selects RX0 yX0_hasDrain yX0_hasDrain ∈ LW := LW_of (List.mem_of_getElem? (i := 221) (by decide +kernel)) rfl
theorem q222 : Cond.code yX0_hasDrain cX0_hasDrain 2 (some .boolean) ∈ LW := LW_of (List.mem_of_getElem? (i := 222) (by decide +kernel)) rfl
theorem q223 : Cond.methodLink RX0 91 Lib.Math.min.name ∈ LW := LW_of (List.mem_of_getElem? (i := 223) (by decide +kernel)) rfl
theorem q224 : Cond.static Lib.Math.min.name ∈ LW := LW_of (List.mem_of_getElem? (i := 224) (by decide +kernel)) rfl
theorem q225 : Cond.code Lib.Math.min.name Lib.Math.min.code 2 (some .int) ∈ LW := LW_of (List.mem_of_getElem? (i := 225) (by decide +kernel)) rfl
theorem q226 : Cond.methodLink RX0 70 yX0_letFlow ∈ LW := LW_of (List.mem_of_getElem? (i := 226) (by decide +kernel)) rfl
theorem q228 : Cond.instanceMethod yX0_letFlow ∈ LW := LW_of (List.mem_of_getElem? (i := 228) (by decide +kernel)) rfl
theorem q229 : Cond.code yX0_letFlow cX0_letFlow 3 none ∈ LW := LW_of (List.mem_of_getElem? (i := 229) (by decide +kernel)) rfl
theorem q230 : Cond.methodLink RX0 80 yX0_letWaterIn ∈ LW := LW_of (List.mem_of_getElem? (i := 230) (by decide +kernel)) rfl
theorem q231 : Cond.instanceMethod yX0_letWaterIn ∈ LW := LW_of (List.mem_of_getElem? (i := 231) (by decide +kernel)) rfl
theorem q232 : Cond.selects RX0 yX0_letWaterIn yX0_letWaterIn ∈ LW := LW_of (List.mem_of_getElem? (i := 232) (by decide +kernel)) rfl
theorem q233 : Cond.code yX0_letWaterIn cX0_letWaterIn 3 none ∈ LW := LW_of (List.mem_of_getElem? (i := 233) (by decide +kernel)) rfl
theorem q234 : Cond.methodLink RX0 86 Lib.Math.abs.name ∈ LW := LW_of (List.mem_of_getElem? (i := 234) (by decide +kernel)) rfl
theorem q235 : Cond.static Lib.Math.abs.name ∈ LW := LW_of (List.mem_of_getElem? (i := 235) (by decide +kernel)) rfl
theorem q236 : Cond.code Lib.Math.abs.name Lib.Math.abs.code 1 (some .int) ∈ LW := LW_of (List.mem_of_getElem? (i := 236) (by decide +kernel)) rfl
theorem q237 : Cond.methodLink RX0 74 yX0_countWetHours ∈ LW := LW_of (List.mem_of_getElem? (i := 237) (by decide +kernel)) rfl
theorem q239 : Cond.instanceMethod yX0_countWetHours ∈ LW := LW_of (List.mem_of_getElem? (i := 239) (by decide +kernel)) rfl
theorem q240 : Cond.code yX0_countWetHours cX0_countWetHours 2 none ∈ LW := LW_of (List.mem_of_getElem? (i := 240) (by decide +kernel)) rfl
theorem q241 : Cond.methodLink RX0 95 yX0_isWet ∈ LW := LW_of (List.mem_of_getElem? (i := 241) (by decide +kernel)) rfl
theorem q242 : Cond.methodLink RX1 45 yX0_turnDrain ∈ LW := LW_of (List.mem_of_getElem? (i := 242) (by decide +kernel)) rfl
theorem q243 : Cond.instanceMethod yX0_turnDrain ∈ LW := LW_of (List.mem_of_getElem? (i := 243) (by decide +kernel)) rfl
theorem q244 : Cond.selects RX0 yX0_turnDrain yX0_turnDrain ∈ LW := LW_of (List.mem_of_getElem? (i := 244) (by decide +kernel)) rfl
theorem q245 : Cond.code yX0_turnDrain cX0_turnDrain 2 none ∈ LW := LW_of (List.mem_of_getElem? (i := 245) (by decide +kernel)) rfl
theorem q246 : Cond.methodLink RL 206 yX1_rainBorne ∈ LW := LW_of (List.mem_of_getElem? (i := 246) (by decide +kernel)) rfl
theorem q247 : Cond.instanceMethod yX1_rainBorne ∈ LW := LW_of (List.mem_of_getElem? (i := 247) (by decide +kernel)) rfl
theorem q248 : Cond.selects RX1 yX1_rainBorne yX1_rainBorne ∈ LW := LW_of (List.mem_of_getElem? (i := 248) (by decide +kernel)) rfl
theorem q249 : Cond.code yX1_rainBorne cX1_rainBorne 3 (some .int) ∈ LW := LW_of (List.mem_of_getElem? (i := 249) (by decide +kernel)) rfl
theorem q250 : Cond.methodLink RL 210 yX1_meanWater ∈ LW := LW_of (List.mem_of_getElem? (i := 250) (by decide +kernel)) rfl
theorem q251 : Cond.instanceMethod yX1_meanWater ∈ LW := LW_of (List.mem_of_getElem? (i := 251) (by decide +kernel)) rfl
theorem q252 : Cond.selects RX1 yX1_meanWater yX1_meanWater ∈ LW := LW_of (List.mem_of_getElem? (i := 252) (by decide +kernel)) rfl
theorem q253 : Cond.code yX1_meanWater cX1_meanWater 2 (some .double) ∈ LW := LW_of (List.mem_of_getElem? (i := 253) (by decide +kernel)) rfl
theorem q254 : Cond.methodLink RX1 135 yX1_water ∈ LW := LW_of (List.mem_of_getElem? (i := 254) (by decide +kernel)) rfl
theorem q255 : Cond.methodLink RL 215 yX1_digest ∈ LW := LW_of (List.mem_of_getElem? (i := 255) (by decide +kernel)) rfl
theorem q256 : Cond.instanceMethod yX1_digest ∈ LW := LW_of (List.mem_of_getElem? (i := 256) (by decide +kernel)) rfl
theorem q257 : Cond.selects RX1 yX1_digest yX1_digest ∈ LW := LW_of (List.mem_of_getElem? (i := 257) (by decide +kernel)) rfl
theorem q258 : Cond.code yX1_digest cX1_digest 3 (some .long) ∈ LW := LW_of (List.mem_of_getElem? (i := 258) (by decide +kernel)) rfl
theorem q259 : Cond.constantLong RX1 138 2341 ∈ LW := LW_of (List.mem_of_getElem? (i := 259) (by decide +kernel)) rfl
theorem q260 : Cond.methodLink RX1 140 yX1_hour ∈ LW := LW_of (List.mem_of_getElem? (i := 260) (by decide +kernel)) rfl
theorem q261 : Cond.methodLink RX1 143 yX1_mix ∈ LW := LW_of (List.mem_of_getElem? (i := 261) (by decide +kernel)) rfl
theorem q262 : Cond.static yX1_mix ∈ LW := LW_of (List.mem_of_getElem? (i := 262) (by decide +kernel)) rfl
theorem q263 : Cond.code yX1_mix cX1_mix 3 (some .long) ∈ LW := LW_of (List.mem_of_getElem? (i := 263) (by decide +kernel)) rfl
theorem q264 : Cond.constantLong RX1 217 31 ∈ LW := LW_of (List.mem_of_getElem? (i := 264) (by decide +kernel)) rfl
theorem q265 : Cond.methodLink RX1 147 yX1_fields ∈ LW := LW_of (List.mem_of_getElem? (i := 265) (by decide +kernel)) rfl
theorem q266 : Cond.methodLink RX1 150 yX1_drains ∈ LW := LW_of (List.mem_of_getElem? (i := 266) (by decide +kernel)) rfl
theorem q267 : Cond.methodLink RX1 153 yX1_rain ∈ LW := LW_of (List.mem_of_getElem? (i := 267) (by decide +kernel)) rfl
theorem q268 : Cond.methodLink RX1 156 yX1_drained ∈ LW := LW_of (List.mem_of_getElem? (i := 268) (by decide +kernel)) rfl
theorem q269 : Cond.methodLink RX1 159 yX1_wetFields ∈ LW := LW_of (List.mem_of_getElem? (i := 269) (by decide +kernel)) rfl
theorem q270 : Cond.methodLink RX1 162 yX1_loss ∈ LW := LW_of (List.mem_of_getElem? (i := 270) (by decide +kernel)) rfl
theorem q271 : Cond.methodLink RX1 165 yX1_highest ∈ LW := LW_of (List.mem_of_getElem? (i := 271) (by decide +kernel)) rfl
theorem q272 : Cond.methodLink RX1 168 yX1_busiest ∈ LW := LW_of (List.mem_of_getElem? (i := 272) (by decide +kernel)) rfl
theorem q273 : Cond.methodLink RX1 171 yX1_lossIn ∈ LW := LW_of (List.mem_of_getElem? (i := 273) (by decide +kernel)) rfl
theorem q274 : Cond.instanceMethod yX1_lossIn ∈ LW := LW_of (List.mem_of_getElem? (i := 274) (by decide +kernel)) rfl
theorem q275 : Cond.selects RX1 yX1_lossIn yX1_lossIn ∈ LW := LW_of (List.mem_of_getElem? (i := 275) (by decide +kernel)) rfl
theorem q276 : Cond.code yX1_lossIn cX1_lossIn 2 (some .int) ∈ LW := LW_of (List.mem_of_getElem? (i := 276) (by decide +kernel)) rfl
theorem q277 : Cond.methodLink RX1 19 yX1_requireWithin ∈ LW := LW_of (List.mem_of_getElem? (i := 277) (by decide +kernel)) rfl
theorem q278 : Cond.static yX1_requireWithin ∈ LW := LW_of (List.mem_of_getElem? (i := 278) (by decide +kernel)) rfl
theorem q279 : Cond.code yX1_requireWithin cX1_requireWithin 3 none ∈ LW := LW_of (List.mem_of_getElem? (i := 279) (by decide +kernel)) rfl
theorem q280 : Cond.classLink RX1 219 "java/lang/IllegalArgumentException" ∈ LW := LW_of (List.mem_of_getElem? (i := 280) (by decide +kernel)) rfl
theorem q281 : Cond.instantiable "java/lang/IllegalArgumentException" 6 ∈ LW := LW_of (List.mem_of_getElem? (i := 281) (by decide +kernel)) rfl
theorem q301 : Cond.fieldLink "java/lang/Throwable" 198 "java/lang/Throwable" "backtrace" "Ljava/lang/Object;" ∈ LW := LW_of (List.mem_of_getElem? (i := 301) (by decide +kernel)) rfl
theorem q305 : Cond.methodLink "java/lang/Throwable" 1 objectInit ∈ LW := LW_of (List.mem_of_getElem? (i := 305) (by decide +kernel)) rfl
theorem q306 : Cond.fieldLink "java/lang/Throwable" 13 "java/lang/Throwable" "UNASSIGNED_STACK" "[Ljava/lang/StackTraceElement;" ∈ LW := LW_of (List.mem_of_getElem? (i := 306) (by decide +kernel)) rfl
theorem q308 : Cond.fieldLink "java/lang/Throwable" 20 "java/lang/Throwable" "SUPPRESSED_SENTINEL" "Ljava/util/List;" ∈ LW := LW_of (List.mem_of_getElem? (i := 308) (by decide +kernel)) rfl
theorem q319 : Cond.instantiable "java/lang/Throwable" 6 ∈ LW := LW_of (List.mem_of_getElem? (i := 319) (by decide +kernel)) rfl
theorem q335 : Cond.fieldLink "java/lang/Throwable" 31 "java/lang/Throwable" "detailMessage" "Ljava/lang/String;" ∈ LW := LW_of (List.mem_of_getElem? (i := 335) (by decide +kernel)) rfl
theorem q336 : Cond.fieldLink "java/lang/Throwable" 7 "java/lang/Throwable" "cause" "Ljava/lang/Throwable;" ∈ LW := LW_of (List.mem_of_getElem? (i := 336) (by decide +kernel)) rfl
theorem q337 : Cond.fieldLink "java/lang/Throwable" 17 "java/lang/Throwable" "stackTrace" "[Ljava/lang/StackTraceElement;" ∈ LW := LW_of (List.mem_of_getElem? (i := 337) (by decide +kernel)) rfl
theorem q338 : Cond.fieldLink "java/lang/Throwable" 24 "java/lang/Throwable" "suppressedExceptions" "Ljava/util/List;" ∈ LW := LW_of (List.mem_of_getElem? (i := 338) (by decide +kernel)) rfl
theorem q348 : Cond.methodLink RX1 174 yX1_bestToTurn ∈ LW := LW_of (List.mem_of_getElem? (i := 348) (by decide +kernel)) rfl
theorem q349 : Cond.methodLink RX1 177 yX1_bestToFlood ∈ LW := LW_of (List.mem_of_getElem? (i := 349) (by decide +kernel)) rfl
theorem q350 : Cond.instanceMethod yX1_bestToFlood ∈ LW := LW_of (List.mem_of_getElem? (i := 350) (by decide +kernel)) rfl
theorem q351 : Cond.selects RX1 yX1_bestToFlood yX1_bestToFlood ∈ LW := LW_of (List.mem_of_getElem? (i := 351) (by decide +kernel)) rfl
theorem q352 : Cond.code yX1_bestToFlood cX1_bestToFlood 6 (some .int) ∈ LW := LW_of (List.mem_of_getElem? (i := 352) (by decide +kernel)) rfl
theorem q353 : Cond.methodLink RX1 56 yX0_letWaterIn ∈ LW := LW_of (List.mem_of_getElem? (i := 353) (by decide +kernel)) rfl
theorem q354 : Cond.methodLink RX1 180 yX1_rainBorne ∈ LW := LW_of (List.mem_of_getElem? (i := 354) (by decide +kernel)) rfl
theorem q355 : Cond.methodLink RX1 183 yX1_mixFields ∈ LW := LW_of (List.mem_of_getElem? (i := 355) (by decide +kernel)) rfl
theorem q357 : Cond.instanceMethod yX1_mixFields ∈ LW := LW_of (List.mem_of_getElem? (i := 357) (by decide +kernel)) rfl
theorem q358 : Cond.code yX1_mixFields cX1_mixFields 6 (some .long) ∈ LW := LW_of (List.mem_of_getElem? (i := 358) (by decide +kernel)) rfl
theorem q359 : Cond.methodLink RX1 190 yX1_waterOn ∈ LW := LW_of (List.mem_of_getElem? (i := 359) (by decide +kernel)) rfl
theorem q360 : Cond.instanceMethod yX1_waterOn ∈ LW := LW_of (List.mem_of_getElem? (i := 360) (by decide +kernel)) rfl
theorem q361 : Cond.selects RX1 yX1_waterOn yX1_waterOn ∈ LW := LW_of (List.mem_of_getElem? (i := 361) (by decide +kernel)) rfl
theorem q362 : Cond.code yX1_waterOn cX1_waterOn 2 (some .int) ∈ LW := LW_of (List.mem_of_getElem? (i := 362) (by decide +kernel)) rfl
theorem q363 : Cond.methodLink RX1 34 yX1_requireField ∈ LW := LW_of (List.mem_of_getElem? (i := 363) (by decide +kernel)) rfl
theorem q365 : Cond.instanceMethod yX1_requireField ∈ LW := LW_of (List.mem_of_getElem? (i := 365) (by decide +kernel)) rfl
theorem q366 : Cond.code yX1_requireField cX1_requireField 2 none ∈ LW := LW_of (List.mem_of_getElem? (i := 366) (by decide +kernel)) rfl
theorem q367 : Cond.methodLink RX1 229 yX0_hasField ∈ LW := LW_of (List.mem_of_getElem? (i := 367) (by decide +kernel)) rfl
theorem q368 : Cond.classLink RX1 232 "java/lang/IndexOutOfBoundsException" ∈ LW := LW_of (List.mem_of_getElem? (i := 368) (by decide +kernel)) rfl
theorem q369 : Cond.instantiable "java/lang/IndexOutOfBoundsException" 6 ∈ LW := LW_of (List.mem_of_getElem? (i := 369) (by decide +kernel)) rfl
theorem q384 : Cond.methodLink RX1 193 yX1_wetFor ∈ LW := LW_of (List.mem_of_getElem? (i := 384) (by decide +kernel)) rfl
theorem q385 : Cond.instanceMethod yX1_wetFor ∈ LW := LW_of (List.mem_of_getElem? (i := 385) (by decide +kernel)) rfl
theorem q386 : Cond.selects RX1 yX1_wetFor yX1_wetFor ∈ LW := LW_of (List.mem_of_getElem? (i := 386) (by decide +kernel)) rfl
theorem q387 : Cond.code yX1_wetFor cX1_wetFor 2 (some .int) ∈ LW := LW_of (List.mem_of_getElem? (i := 387) (by decide +kernel)) rfl
theorem q388 : Cond.methodLink RX1 196 yX1_isRuined ∈ LW := LW_of (List.mem_of_getElem? (i := 388) (by decide +kernel)) rfl
theorem q389 : Cond.instanceMethod yX1_isRuined ∈ LW := LW_of (List.mem_of_getElem? (i := 389) (by decide +kernel)) rfl
theorem q390 : Cond.selects RX1 yX1_isRuined yX1_isRuined ∈ LW := LW_of (List.mem_of_getElem? (i := 390) (by decide +kernel)) rfl
theorem q391 : Cond.code yX1_isRuined cX1_isRuined 2 (some .boolean) ∈ LW := LW_of (List.mem_of_getElem? (i := 391) (by decide +kernel)) rfl
theorem q392 : Cond.methodLink RX1 199 yX1_drainsAt ∈ LW := LW_of (List.mem_of_getElem? (i := 392) (by decide +kernel)) rfl
theorem q393 : Cond.instanceMethod yX1_drainsAt ∈ LW := LW_of (List.mem_of_getElem? (i := 393) (by decide +kernel)) rfl
theorem q394 : Cond.selects RX1 yX1_drainsAt yX1_drainsAt ∈ LW := LW_of (List.mem_of_getElem? (i := 394) (by decide +kernel)) rfl
theorem q395 : Cond.code yX1_drainsAt cX1_drainsAt 4 (some .int) ∈ LW := LW_of (List.mem_of_getElem? (i := 395) (by decide +kernel)) rfl
theorem q396 : Cond.methodLink RX1 202 yX1_reaches ∈ LW := LW_of (List.mem_of_getElem? (i := 396) (by decide +kernel)) rfl
theorem q397 : Cond.instanceMethod yX1_reaches ∈ LW := LW_of (List.mem_of_getElem? (i := 397) (by decide +kernel)) rfl
theorem q398 : Cond.selects RX1 yX1_reaches yX1_reaches ∈ LW := LW_of (List.mem_of_getElem? (i := 398) (by decide +kernel)) rfl
theorem q399 : Cond.code yX1_reaches cX1_reaches 4 (some .int) ∈ LW := LW_of (List.mem_of_getElem? (i := 399) (by decide +kernel)) rfl
theorem q400 : Cond.methodLink RX1 106 yX0_spreadByDrains ∈ LW := LW_of (List.mem_of_getElem? (i := 400) (by decide +kernel)) rfl
theorem q401 : Cond.instanceMethod yX0_spreadByDrains ∈ LW := LW_of (List.mem_of_getElem? (i := 401) (by decide +kernel)) rfl
theorem q402 : Cond.selects RX0 yX0_spreadByDrains yX0_spreadByDrains ∈ LW := LW_of (List.mem_of_getElem? (i := 402) (by decide +kernel)) rfl
theorem q403 : Cond.code yX0_spreadByDrains cX0_spreadByDrains 6 (some .int) ∈ LW := LW_of (List.mem_of_getElem? (i := 403) (by decide +kernel)) rfl
theorem q404 : Cond.methodLink RX1 109 yJ6_bitCount_0f7a4 ∈ LW := LW_of (List.mem_of_getElem? (i := 404) (by decide +kernel)) rfl
theorem q405 : Cond.static yJ6_bitCount_0f7a4 ∈ LW := LW_of (List.mem_of_getElem? (i := 405) (by decide +kernel)) rfl
theorem q406 : Cond.code yJ6_bitCount_0f7a4 cJ6_bitCount_0f7a4 1 (some .int) ∈ LW := LW_of (List.mem_of_getElem? (i := 406) (by decide +kernel)) rfl
theorem q407 : Cond.constant RJ6 265 1431655765 ∈ LW := LW_of (List.mem_of_getElem? (i := 407) (by decide +kernel)) rfl
theorem q408 : Cond.constant RJ6 266 858993459 ∈ LW := LW_of (List.mem_of_getElem? (i := 408) (by decide +kernel)) rfl
theorem q409 : Cond.constant RJ6 267 252645135 ∈ LW := LW_of (List.mem_of_getElem? (i := 409) (by decide +kernel)) rfl
theorem q410 : Cond.methodLink RX1 205 yX1_hoursUntilRuined ∈ LW := LW_of (List.mem_of_getElem? (i := 410) (by decide +kernel)) rfl
theorem q411 : Cond.instanceMethod yX1_hoursUntilRuined ∈ LW := LW_of (List.mem_of_getElem? (i := 411) (by decide +kernel)) rfl
theorem q412 : Cond.selects RX1 yX1_hoursUntilRuined yX1_hoursUntilRuined ∈ LW := LW_of (List.mem_of_getElem? (i := 412) (by decide +kernel)) rfl
theorem q413 : Cond.code yX1_hoursUntilRuined cX1_hoursUntilRuined 3 (some .int) ∈ LW := LW_of (List.mem_of_getElem? (i := 413) (by decide +kernel)) rfl
theorem q414 : Cond.methodLink RX1 132 yX0_passHour ∈ LW := LW_of (List.mem_of_getElem? (i := 414) (by decide +kernel)) rfl
theorem q415 : Cond.methodLink RX1 187 yX1_mixDrains ∈ LW := LW_of (List.mem_of_getElem? (i := 415) (by decide +kernel)) rfl
theorem q417 : Cond.instanceMethod yX1_mixDrains ∈ LW := LW_of (List.mem_of_getElem? (i := 417) (by decide +kernel)) rfl
theorem q418 : Cond.code yX1_mixDrains cX1_mixDrains 6 (some .long) ∈ LW := LW_of (List.mem_of_getElem? (i := 418) (by decide +kernel)) rfl
theorem q419 : Cond.methodLink RX1 208 yX1_isOpen ∈ LW := LW_of (List.mem_of_getElem? (i := 419) (by decide +kernel)) rfl
theorem q420 : Cond.instanceMethod yX1_isOpen ∈ LW := LW_of (List.mem_of_getElem? (i := 420) (by decide +kernel)) rfl
theorem q421 : Cond.selects RX1 yX1_isOpen yX1_isOpen ∈ LW := LW_of (List.mem_of_getElem? (i := 421) (by decide +kernel)) rfl
theorem q422 : Cond.code yX1_isOpen cX1_isOpen 2 (some .boolean) ∈ LW := LW_of (List.mem_of_getElem? (i := 422) (by decide +kernel)) rfl
theorem q423 : Cond.methodLink RX1 42 yX1_requireDrain ∈ LW := LW_of (List.mem_of_getElem? (i := 423) (by decide +kernel)) rfl
theorem q425 : Cond.instanceMethod yX1_requireDrain ∈ LW := LW_of (List.mem_of_getElem? (i := 425) (by decide +kernel)) rfl
theorem q426 : Cond.code yX1_requireDrain cX1_requireDrain 2 none ∈ LW := LW_of (List.mem_of_getElem? (i := 426) (by decide +kernel)) rfl
theorem q427 : Cond.methodLink RX1 237 yX0_hasDrain ∈ LW := LW_of (List.mem_of_getElem? (i := 427) (by decide +kernel)) rfl
theorem q429 : Cond.methodLink RX1 211 yX1_carriedBy ∈ LW := LW_of (List.mem_of_getElem? (i := 429) (by decide +kernel)) rfl
theorem q430 : Cond.instanceMethod yX1_carriedBy ∈ LW := LW_of (List.mem_of_getElem? (i := 430) (by decide +kernel)) rfl
theorem q431 : Cond.selects RX1 yX1_carriedBy yX1_carriedBy ∈ LW := LW_of (List.mem_of_getElem? (i := 431) (by decide +kernel)) rfl
theorem q432 : Cond.code yX1_carriedBy cX1_carriedBy 2 (some .int) ∈ LW := LW_of (List.mem_of_getElem? (i := 432) (by decide +kernel)) rfl
theorem q433 : Cond.methodLink RX1 214 yX1_wouldCarry ∈ LW := LW_of (List.mem_of_getElem? (i := 433) (by decide +kernel)) rfl
theorem q434 : Cond.instanceMethod yX1_wouldCarry ∈ LW := LW_of (List.mem_of_getElem? (i := 434) (by decide +kernel)) rfl
theorem q435 : Cond.selects RX1 yX1_wouldCarry yX1_wouldCarry ∈ LW := LW_of (List.mem_of_getElem? (i := 435) (by decide +kernel)) rfl
theorem q436 : Cond.code yX1_wouldCarry cX1_wouldCarry 2 (some .int) ∈ LW := LW_of (List.mem_of_getElem? (i := 436) (by decide +kernel)) rfl
theorem q437 : Cond.methodLink RX1 120 yX0_flowNow ∈ LW := LW_of (List.mem_of_getElem? (i := 437) (by decide +kernel)) rfl
theorem q438 : Cond.methodLink RX1 123 Lib.Math.abs.name ∈ LW := LW_of (List.mem_of_getElem? (i := 438) (by decide +kernel)) rfl
theorem q439 : Cond.methodLink RL 86 yL_addField ∈ LW := LW_of (List.mem_of_getElem? (i := 439) (by decide +kernel)) rfl
theorem q440 : Cond.static yL_addField ∈ LW := LW_of (List.mem_of_getElem? (i := 440) (by decide +kernel)) rfl
theorem q441 : Cond.codeWith yL_addField cL_addField 5 (some .int) [(0, 10, 13, 13), (0, 10, 17, 15)] ∈ LW := LW_of (List.mem_of_getElem? (i := 441) (by decide +kernel)) rfl
theorem q442 : Cond.classLink RL 13 "java/lang/IllegalArgumentException" ∈ LW := LW_of (List.mem_of_getElem? (i := 442) (by decide +kernel)) rfl
theorem q443 : Cond.classLink RL 15 "java/lang/IllegalStateException" ∈ LW := LW_of (List.mem_of_getElem? (i := 443) (by decide +kernel)) rfl
theorem q444 : Cond.methodLink RL 7 yX1_addField ∈ LW := LW_of (List.mem_of_getElem? (i := 444) (by decide +kernel)) rfl
theorem q445 : Cond.instanceMethod yX1_addField ∈ LW := LW_of (List.mem_of_getElem? (i := 445) (by decide +kernel)) rfl
theorem q446 : Cond.selects RX1 yX1_addField yX1_addField ∈ LW := LW_of (List.mem_of_getElem? (i := 446) (by decide +kernel)) rfl
theorem q447 : Cond.code yX1_addField cX1_addField 4 (some .int) ∈ LW := LW_of (List.mem_of_getElem? (i := 447) (by decide +kernel)) rfl
theorem q448 : Cond.methodLink RX1 23 yX0_putField ∈ LW := LW_of (List.mem_of_getElem? (i := 448) (by decide +kernel)) rfl
theorem q449 : Cond.instanceMethod yX0_putField ∈ LW := LW_of (List.mem_of_getElem? (i := 449) (by decide +kernel)) rfl
theorem q450 : Cond.selects RX0 yX0_putField yX0_putField ∈ LW := LW_of (List.mem_of_getElem? (i := 450) (by decide +kernel)) rfl
theorem q451 : Cond.code yX0_putField cX0_putField 4 (some .int) ∈ LW := LW_of (List.mem_of_getElem? (i := 451) (by decide +kernel)) rfl
theorem q452 : Cond.classLink RX1 27 "java/lang/IllegalStateException" ∈ LW := LW_of (List.mem_of_getElem? (i := 452) (by decide +kernel)) rfl
theorem q453 : Cond.instantiable "java/lang/IllegalStateException" 6 ∈ LW := LW_of (List.mem_of_getElem? (i := 453) (by decide +kernel)) rfl
theorem q468 : Cond.methodLink RL 96 yL_addDitch ∈ LW := LW_of (List.mem_of_getElem? (i := 468) (by decide +kernel)) rfl
theorem q469 : Cond.static yL_addDitch ∈ LW := LW_of (List.mem_of_getElem? (i := 469) (by decide +kernel)) rfl
theorem q470 : Cond.codeWith yL_addDitch cL_addDitch 6 (some .int) [(0, 12, 15, 21), (0, 12, 19, 13), (0, 12, 23, 15)] ∈ LW := LW_of (List.mem_of_getElem? (i := 470) (by decide +kernel)) rfl
theorem q471 : Cond.classLink RL 21 "java/lang/IndexOutOfBoundsException" ∈ LW := LW_of (List.mem_of_getElem? (i := 471) (by decide +kernel)) rfl
theorem q472 : Cond.methodLink RL 17 yX1_addDitch ∈ LW := LW_of (List.mem_of_getElem? (i := 472) (by decide +kernel)) rfl
theorem q473 : Cond.instanceMethod yX1_addDitch ∈ LW := LW_of (List.mem_of_getElem? (i := 473) (by decide +kernel)) rfl
theorem q474 : Cond.selects RX1 yX1_addDitch yX1_addDitch ∈ LW := LW_of (List.mem_of_getElem? (i := 474) (by decide +kernel)) rfl
theorem q475 : Cond.code yX1_addDitch cX1_addDitch 4 (some .int) ∈ LW := LW_of (List.mem_of_getElem? (i := 475) (by decide +kernel)) rfl
theorem q476 : Cond.methodLink RX1 38 yX1_addDrain ∈ LW := LW_of (List.mem_of_getElem? (i := 476) (by decide +kernel)) rfl
theorem q478 : Cond.instanceMethod yX1_addDrain ∈ LW := LW_of (List.mem_of_getElem? (i := 478) (by decide +kernel)) rfl
theorem q479 : Cond.code yX1_addDrain cX1_addDrain 6 (some .int) ∈ LW := LW_of (List.mem_of_getElem? (i := 479) (by decide +kernel)) rfl
theorem q481 : Cond.methodLink RX1 224 yX0_putDrain ∈ LW := LW_of (List.mem_of_getElem? (i := 481) (by decide +kernel)) rfl
theorem q482 : Cond.instanceMethod yX0_putDrain ∈ LW := LW_of (List.mem_of_getElem? (i := 482) (by decide +kernel)) rfl
theorem q483 : Cond.selects RX0 yX0_putDrain yX0_putDrain ∈ LW := LW_of (List.mem_of_getElem? (i := 483) (by decide +kernel)) rfl
theorem q484 : Cond.code yX0_putDrain cX0_putDrain 6 (some .int) ∈ LW := LW_of (List.mem_of_getElem? (i := 484) (by decide +kernel)) rfl
theorem q486 : Cond.methodLink RL 100 yL_addPump ∈ LW := LW_of (List.mem_of_getElem? (i := 486) (by decide +kernel)) rfl
theorem q487 : Cond.static yL_addPump ∈ LW := LW_of (List.mem_of_getElem? (i := 487) (by decide +kernel)) rfl
theorem q488 : Cond.codeWith yL_addPump cL_addPump 6 (some .int) [(0, 12, 15, 21), (0, 12, 19, 13), (0, 12, 23, 15)] ∈ LW := LW_of (List.mem_of_getElem? (i := 488) (by decide +kernel)) rfl
theorem q489 : Cond.methodLink RL 23 yX1_addPump ∈ LW := LW_of (List.mem_of_getElem? (i := 489) (by decide +kernel)) rfl
theorem q490 : Cond.instanceMethod yX1_addPump ∈ LW := LW_of (List.mem_of_getElem? (i := 490) (by decide +kernel)) rfl
theorem q491 : Cond.selects RX1 yX1_addPump yX1_addPump ∈ LW := LW_of (List.mem_of_getElem? (i := 491) (by decide +kernel)) rfl
theorem q492 : Cond.code yX1_addPump cX1_addPump 4 (some .int) ∈ LW := LW_of (List.mem_of_getElem? (i := 492) (by decide +kernel)) rfl
theorem q493 : Cond.methodLink RL 103 yL_turn ∈ LW := LW_of (List.mem_of_getElem? (i := 493) (by decide +kernel)) rfl
theorem q494 : Cond.static yL_turn ∈ LW := LW_of (List.mem_of_getElem? (i := 494) (by decide +kernel)) rfl
theorem q495 : Cond.codeWith yL_turn cL_turn 4 (some .int) [(0, 16, 19, 21)] ∈ LW := LW_of (List.mem_of_getElem? (i := 495) (by decide +kernel)) rfl
theorem q496 : Cond.methodLink RL 26 yX1_turn ∈ LW := LW_of (List.mem_of_getElem? (i := 496) (by decide +kernel)) rfl
theorem q497 : Cond.instanceMethod yX1_turn ∈ LW := LW_of (List.mem_of_getElem? (i := 497) (by decide +kernel)) rfl
theorem q498 : Cond.selects RX1 yX1_turn yX1_turn ∈ LW := LW_of (List.mem_of_getElem? (i := 498) (by decide +kernel)) rfl
theorem q499 : Cond.code yX1_turn cX1_turn 2 (some .boolean) ∈ LW := LW_of (List.mem_of_getElem? (i := 499) (by decide +kernel)) rfl
theorem q500 : Cond.methodLink RL 107 yL_setRain ∈ LW := LW_of (List.mem_of_getElem? (i := 500) (by decide +kernel)) rfl
theorem q501 : Cond.static yL_setRain ∈ LW := LW_of (List.mem_of_getElem? (i := 501) (by decide +kernel)) rfl
theorem q502 : Cond.codeWith yL_setRain cL_setRain 4 (some .int) [(0, 9, 12, 13)] ∈ LW := LW_of (List.mem_of_getElem? (i := 502) (by decide +kernel)) rfl
theorem q503 : Cond.methodLink RL 30 yX1_setRain ∈ LW := LW_of (List.mem_of_getElem? (i := 503) (by decide +kernel)) rfl
theorem q504 : Cond.instanceMethod yX1_setRain ∈ LW := LW_of (List.mem_of_getElem? (i := 504) (by decide +kernel)) rfl
theorem q505 : Cond.selects RX1 yX1_setRain yX1_setRain ∈ LW := LW_of (List.mem_of_getElem? (i := 505) (by decide +kernel)) rfl
theorem q506 : Cond.code yX1_setRain cX1_setRain 3 (some .int) ∈ LW := LW_of (List.mem_of_getElem? (i := 506) (by decide +kernel)) rfl
theorem q507 : Cond.methodLink RL 110 yL_flood ∈ LW := LW_of (List.mem_of_getElem? (i := 507) (by decide +kernel)) rfl
theorem q508 : Cond.static yL_flood ∈ LW := LW_of (List.mem_of_getElem? (i := 508) (by decide +kernel)) rfl
theorem q509 : Cond.codeWith yL_flood cL_flood 5 (some .int) [(0, 10, 13, 21), (0, 10, 17, 13)] ∈ LW := LW_of (List.mem_of_getElem? (i := 509) (by decide +kernel)) rfl
theorem q510 : Cond.methodLink RL 34 yX1_flood ∈ LW := LW_of (List.mem_of_getElem? (i := 510) (by decide +kernel)) rfl
theorem q511 : Cond.instanceMethod yX1_flood ∈ LW := LW_of (List.mem_of_getElem? (i := 511) (by decide +kernel)) rfl
theorem q512 : Cond.selects RX1 yX1_flood yX1_flood ∈ LW := LW_of (List.mem_of_getElem? (i := 512) (by decide +kernel)) rfl
theorem q513 : Cond.code yX1_flood cX1_flood 3 (some .int) ∈ LW := LW_of (List.mem_of_getElem? (i := 513) (by decide +kernel)) rfl
theorem q514 : Cond.methodLink RL 113 yL_pass ∈ LW := LW_of (List.mem_of_getElem? (i := 514) (by decide +kernel)) rfl
theorem q515 : Cond.static yL_pass ∈ LW := LW_of (List.mem_of_getElem? (i := 515) (by decide +kernel)) rfl
theorem q516 : Cond.codeWith yL_pass cL_pass 4 (some .int) [(0, 9, 12, 13)] ∈ LW := LW_of (List.mem_of_getElem? (i := 516) (by decide +kernel)) rfl
theorem q517 : Cond.methodLink RL 37 yX1_pass ∈ LW := LW_of (List.mem_of_getElem? (i := 517) (by decide +kernel)) rfl
theorem q518 : Cond.instanceMethod yX1_pass ∈ LW := LW_of (List.mem_of_getElem? (i := 518) (by decide +kernel)) rfl
theorem q519 : Cond.selects RX1 yX1_pass yX1_pass ∈ LW := LW_of (List.mem_of_getElem? (i := 519) (by decide +kernel)) rfl
theorem q520 : Cond.code yX1_pass cX1_pass 3 (some .int) ∈ LW := LW_of (List.mem_of_getElem? (i := 520) (by decide +kernel)) rfl
theorem q521 : Cond.methodLink RL 152 yL_waterOn ∈ LW := LW_of (List.mem_of_getElem? (i := 521) (by decide +kernel)) rfl
theorem q522 : Cond.static yL_waterOn ∈ LW := LW_of (List.mem_of_getElem? (i := 522) (by decide +kernel)) rfl
theorem q523 : Cond.codeWith yL_waterOn cL_waterOn 4 (some .int) [(0, 9, 12, 21)] ∈ LW := LW_of (List.mem_of_getElem? (i := 523) (by decide +kernel)) rfl
theorem q524 : Cond.methodLink RL 40 yX1_waterOn ∈ LW := LW_of (List.mem_of_getElem? (i := 524) (by decide +kernel)) rfl
theorem q525 : Cond.methodLink RL 155 yL_levelOf ∈ LW := LW_of (List.mem_of_getElem? (i := 525) (by decide +kernel)) rfl
theorem q526 : Cond.static yL_levelOf ∈ LW := LW_of (List.mem_of_getElem? (i := 526) (by decide +kernel)) rfl
theorem q527 : Cond.codeWith yL_levelOf cL_levelOf 4 (some .int) [(0, 9, 12, 21)] ∈ LW := LW_of (List.mem_of_getElem? (i := 527) (by decide +kernel)) rfl
theorem q528 : Cond.methodLink RL 43 yX1_levelOf ∈ LW := LW_of (List.mem_of_getElem? (i := 528) (by decide +kernel)) rfl
theorem q529 : Cond.instanceMethod yX1_levelOf ∈ LW := LW_of (List.mem_of_getElem? (i := 529) (by decide +kernel)) rfl
theorem q530 : Cond.selects RX1 yX1_levelOf yX1_levelOf ∈ LW := LW_of (List.mem_of_getElem? (i := 530) (by decide +kernel)) rfl
theorem q531 : Cond.code yX1_levelOf cX1_levelOf 2 (some .int) ∈ LW := LW_of (List.mem_of_getElem? (i := 531) (by decide +kernel)) rfl
theorem q532 : Cond.methodLink RL 158 yL_wetFor ∈ LW := LW_of (List.mem_of_getElem? (i := 532) (by decide +kernel)) rfl
theorem q533 : Cond.static yL_wetFor ∈ LW := LW_of (List.mem_of_getElem? (i := 533) (by decide +kernel)) rfl
theorem q534 : Cond.codeWith yL_wetFor cL_wetFor 4 (some .int) [(0, 9, 12, 21)] ∈ LW := LW_of (List.mem_of_getElem? (i := 534) (by decide +kernel)) rfl
theorem q535 : Cond.methodLink RL 46 yX1_wetFor ∈ LW := LW_of (List.mem_of_getElem? (i := 535) (by decide +kernel)) rfl
theorem q536 : Cond.methodLink RL 161 yL_isRuined ∈ LW := LW_of (List.mem_of_getElem? (i := 536) (by decide +kernel)) rfl
theorem q537 : Cond.static yL_isRuined ∈ LW := LW_of (List.mem_of_getElem? (i := 537) (by decide +kernel)) rfl
theorem q538 : Cond.codeWith yL_isRuined cL_isRuined 4 (some .int) [(0, 16, 19, 21)] ∈ LW := LW_of (List.mem_of_getElem? (i := 538) (by decide +kernel)) rfl
theorem q539 : Cond.methodLink RL 49 yX1_isRuined ∈ LW := LW_of (List.mem_of_getElem? (i := 539) (by decide +kernel)) rfl
theorem q540 : Cond.methodLink RL 164 yL_drainsAt ∈ LW := LW_of (List.mem_of_getElem? (i := 540) (by decide +kernel)) rfl
theorem q541 : Cond.static yL_drainsAt ∈ LW := LW_of (List.mem_of_getElem? (i := 541) (by decide +kernel)) rfl
theorem q542 : Cond.codeWith yL_drainsAt cL_drainsAt 4 (some .int) [(0, 9, 12, 21)] ∈ LW := LW_of (List.mem_of_getElem? (i := 542) (by decide +kernel)) rfl
theorem q543 : Cond.methodLink RL 52 yX1_drainsAt ∈ LW := LW_of (List.mem_of_getElem? (i := 543) (by decide +kernel)) rfl
theorem q544 : Cond.methodLink RL 167 yL_reaches ∈ LW := LW_of (List.mem_of_getElem? (i := 544) (by decide +kernel)) rfl
theorem q545 : Cond.static yL_reaches ∈ LW := LW_of (List.mem_of_getElem? (i := 545) (by decide +kernel)) rfl
theorem q546 : Cond.codeWith yL_reaches cL_reaches 4 (some .int) [(0, 9, 12, 21)] ∈ LW := LW_of (List.mem_of_getElem? (i := 546) (by decide +kernel)) rfl
theorem q547 : Cond.methodLink RL 55 yX1_reaches ∈ LW := LW_of (List.mem_of_getElem? (i := 547) (by decide +kernel)) rfl
theorem q548 : Cond.methodLink RL 174 yL_isPump ∈ LW := LW_of (List.mem_of_getElem? (i := 548) (by decide +kernel)) rfl
theorem q549 : Cond.static yL_isPump ∈ LW := LW_of (List.mem_of_getElem? (i := 549) (by decide +kernel)) rfl
theorem q550 : Cond.codeWith yL_isPump cL_isPump 4 (some .int) [(0, 16, 19, 21)] ∈ LW := LW_of (List.mem_of_getElem? (i := 550) (by decide +kernel)) rfl
theorem q551 : Cond.methodLink RL 58 yX1_isPump ∈ LW := LW_of (List.mem_of_getElem? (i := 551) (by decide +kernel)) rfl
theorem q552 : Cond.instanceMethod yX1_isPump ∈ LW := LW_of (List.mem_of_getElem? (i := 552) (by decide +kernel)) rfl
theorem q553 : Cond.selects RX1 yX1_isPump yX1_isPump ∈ LW := LW_of (List.mem_of_getElem? (i := 553) (by decide +kernel)) rfl
theorem q554 : Cond.code yX1_isPump cX1_isPump 2 (some .boolean) ∈ LW := LW_of (List.mem_of_getElem? (i := 554) (by decide +kernel)) rfl
theorem q555 : Cond.methodLink RL 177 yL_isOpen ∈ LW := LW_of (List.mem_of_getElem? (i := 555) (by decide +kernel)) rfl
theorem q556 : Cond.static yL_isOpen ∈ LW := LW_of (List.mem_of_getElem? (i := 556) (by decide +kernel)) rfl
theorem q557 : Cond.codeWith yL_isOpen cL_isOpen 4 (some .int) [(0, 16, 19, 21)] ∈ LW := LW_of (List.mem_of_getElem? (i := 557) (by decide +kernel)) rfl
theorem q558 : Cond.methodLink RL 61 yX1_isOpen ∈ LW := LW_of (List.mem_of_getElem? (i := 558) (by decide +kernel)) rfl
theorem q559 : Cond.methodLink RL 180 yL_carriedBy ∈ LW := LW_of (List.mem_of_getElem? (i := 559) (by decide +kernel)) rfl
theorem q560 : Cond.static yL_carriedBy ∈ LW := LW_of (List.mem_of_getElem? (i := 560) (by decide +kernel)) rfl
theorem q561 : Cond.codeWith yL_carriedBy cL_carriedBy 4 (some .int) [(0, 9, 12, 21)] ∈ LW := LW_of (List.mem_of_getElem? (i := 561) (by decide +kernel)) rfl
theorem q562 : Cond.methodLink RL 64 yX1_carriedBy ∈ LW := LW_of (List.mem_of_getElem? (i := 562) (by decide +kernel)) rfl
theorem q563 : Cond.methodLink RL 183 yL_wouldCarry ∈ LW := LW_of (List.mem_of_getElem? (i := 563) (by decide +kernel)) rfl
theorem q564 : Cond.static yL_wouldCarry ∈ LW := LW_of (List.mem_of_getElem? (i := 564) (by decide +kernel)) rfl
theorem q565 : Cond.codeWith yL_wouldCarry cL_wouldCarry 4 (some .int) [(0, 9, 12, 21)] ∈ LW := LW_of (List.mem_of_getElem? (i := 565) (by decide +kernel)) rfl
theorem q566 : Cond.methodLink RL 67 yX1_wouldCarry ∈ LW := LW_of (List.mem_of_getElem? (i := 566) (by decide +kernel)) rfl
theorem q567 : Cond.methodLink RL 190 yL_hoursUntilRuined ∈ LW := LW_of (List.mem_of_getElem? (i := 567) (by decide +kernel)) rfl
theorem q568 : Cond.static yL_hoursUntilRuined ∈ LW := LW_of (List.mem_of_getElem? (i := 568) (by decide +kernel)) rfl
theorem q569 : Cond.codeWith yL_hoursUntilRuined cL_hoursUntilRuined 4 (some .int) [(0, 9, 12, 21)] ∈ LW := LW_of (List.mem_of_getElem? (i := 569) (by decide +kernel)) rfl
theorem q570 : Cond.methodLink RL 70 yX1_hoursUntilRuined ∈ LW := LW_of (List.mem_of_getElem? (i := 570) (by decide +kernel)) rfl
theorem q571 : Cond.methodLink RL 193 yL_lossIn ∈ LW := LW_of (List.mem_of_getElem? (i := 571) (by decide +kernel)) rfl
theorem q572 : Cond.static yL_lossIn ∈ LW := LW_of (List.mem_of_getElem? (i := 572) (by decide +kernel)) rfl
theorem q573 : Cond.codeWith yL_lossIn cL_lossIn 4 (some .int) [(0, 9, 12, 13)] ∈ LW := LW_of (List.mem_of_getElem? (i := 573) (by decide +kernel)) rfl
theorem q574 : Cond.methodLink RL 73 yX1_lossIn ∈ LW := LW_of (List.mem_of_getElem? (i := 574) (by decide +kernel)) rfl
theorem q575 : Cond.methodLink RL 196 yL_waterIn ∈ LW := LW_of (List.mem_of_getElem? (i := 575) (by decide +kernel)) rfl
theorem q576 : Cond.static yL_waterIn ∈ LW := LW_of (List.mem_of_getElem? (i := 576) (by decide +kernel)) rfl
theorem q577 : Cond.codeWith yL_waterIn cL_waterIn 5 (some .int) [(0, 10, 13, 21), (0, 10, 17, 13)] ∈ LW := LW_of (List.mem_of_getElem? (i := 577) (by decide +kernel)) rfl
theorem q578 : Cond.methodLink RL 76 yX1_waterIn ∈ LW := LW_of (List.mem_of_getElem? (i := 578) (by decide +kernel)) rfl
theorem q579 : Cond.instanceMethod yX1_waterIn ∈ LW := LW_of (List.mem_of_getElem? (i := 579) (by decide +kernel)) rfl
theorem q580 : Cond.selects RX1 yX1_waterIn yX1_waterIn ∈ LW := LW_of (List.mem_of_getElem? (i := 580) (by decide +kernel)) rfl
theorem q581 : Cond.code yX1_waterIn cX1_waterIn 3 (some .int) ∈ LW := LW_of (List.mem_of_getElem? (i := 581) (by decide +kernel)) rfl
theorem q582 : Cond.methodLink RL 203 yL_bestToFlood ∈ LW := LW_of (List.mem_of_getElem? (i := 582) (by decide +kernel)) rfl
theorem q583 : Cond.static yL_bestToFlood ∈ LW := LW_of (List.mem_of_getElem? (i := 583) (by decide +kernel)) rfl
theorem q584 : Cond.codeWith yL_bestToFlood cL_bestToFlood 4 (some .int) [(0, 9, 12, 13)] ∈ LW := LW_of (List.mem_of_getElem? (i := 584) (by decide +kernel)) rfl
theorem q585 : Cond.methodLink RL 79 yX1_bestToFlood ∈ LW := LW_of (List.mem_of_getElem? (i := 585) (by decide +kernel)) rfl
theorem q586 : Cond.classLink RL 83 RX2 ∈ LW := LW_of (List.mem_of_getElem? (i := 586) (by decide +kernel)) rfl
theorem q587 : Cond.instantiable RX2 14 ∈ LW := LW_of (List.mem_of_getElem? (i := 587) (by decide +kernel)) rfl
theorem q588 : Cond.methodLink RL 85 yX2_init ∈ LW := LW_of (List.mem_of_getElem? (i := 588) (by decide +kernel)) rfl
theorem q589 : Cond.instanceMethod yX2_init ∈ LW := LW_of (List.mem_of_getElem? (i := 589) (by decide +kernel)) rfl
theorem q590 : Cond.code yX2_init cX2_init 1 none ∈ LW := LW_of (List.mem_of_getElem? (i := 590) (by decide +kernel)) rfl
theorem q591 : Cond.methodLink RX2 3 objectInit ∈ LW := LW_of (List.mem_of_getElem? (i := 591) (by decide +kernel)) rfl
theorem q592 : Cond.fieldLink RX2 41 "MarshDrainsModel" "thrown" "I" ∈ LW := LW_of (List.mem_of_getElem? (i := 592) (by decide +kernel)) rfl
theorem q593 : Cond.fieldLink RX2 45 "MarshDrainsModel" "fields" "I" ∈ LW := LW_of (List.mem_of_getElem? (i := 593) (by decide +kernel)) rfl
theorem q594 : Cond.fieldLink RX2 52 "MarshDrainsModel" "drains" "I" ∈ LW := LW_of (List.mem_of_getElem? (i := 594) (by decide +kernel)) rfl
theorem q595 : Cond.fieldLink RX2 80 "MarshDrainsModel" "rain" "I" ∈ LW := LW_of (List.mem_of_getElem? (i := 595) (by decide +kernel)) rfl
theorem q596 : Cond.fieldLink RX2 9 "MarshDrainsModel" "floor" "[I" ∈ LW := LW_of (List.mem_of_getElem? (i := 596) (by decide +kernel)) rfl
theorem q597 : Cond.fieldLink RX2 13 "MarshDrainsModel" "worth" "[I" ∈ LW := LW_of (List.mem_of_getElem? (i := 597) (by decide +kernel)) rfl
theorem q598 : Cond.fieldLink RX2 16 "MarshDrainsModel" "from" "[I" ∈ LW := LW_of (List.mem_of_getElem? (i := 598) (by decide +kernel)) rfl
theorem q599 : Cond.fieldLink RX2 19 "MarshDrainsModel" "to" "[I" ∈ LW := LW_of (List.mem_of_getElem? (i := 599) (by decide +kernel)) rfl
theorem q600 : Cond.fieldLink RX2 22 "MarshDrainsModel" "carries" "[I" ∈ LW := LW_of (List.mem_of_getElem? (i := 600) (by decide +kernel)) rfl
theorem q601 : Cond.fieldLink RX2 25 "MarshDrainsModel" "isPump" "[Z" ∈ LW := LW_of (List.mem_of_getElem? (i := 601) (by decide +kernel)) rfl
theorem q602 : Cond.fieldLink RX2 29 "MarshDrainsModel" "isOpen" "[Z" ∈ LW := LW_of (List.mem_of_getElem? (i := 602) (by decide +kernel)) rfl
theorem q603 : Cond.fieldLink RX2 32 "MarshDrainsModel" "now" "[I" ∈ LW := LW_of (List.mem_of_getElem? (i := 603) (by decide +kernel)) rfl
theorem q604 : Cond.fieldLink RX2 35 "MarshDrainsModel" "kept" "[I" ∈ LW := LW_of (List.mem_of_getElem? (i := 604) (by decide +kernel)) rfl
theorem q605 : Cond.fieldLink RX2 38 "MarshDrainsModel" "seen" "[Z" ∈ LW := LW_of (List.mem_of_getElem? (i := 605) (by decide +kernel)) rfl
theorem q635 : Cond.methodLink RL 92 yX2_thrown ∈ LW := LW_of (List.mem_of_getElem? (i := 635) (by decide +kernel)) rfl
theorem q636 : Cond.instanceMethod yX2_thrown ∈ LW := LW_of (List.mem_of_getElem? (i := 636) (by decide +kernel)) rfl
theorem q637 : Cond.selects RX2 yX2_thrown yX2_thrown ∈ LW := LW_of (List.mem_of_getElem? (i := 637) (by decide +kernel)) rfl
theorem q638 : Cond.code yX2_thrown cX2_thrown 1 (some .int) ∈ LW := LW_of (List.mem_of_getElem? (i := 638) (by decide +kernel)) rfl
theorem q639 : Cond.methodLink RL 91 yX2_addField ∈ LW := LW_of (List.mem_of_getElem? (i := 639) (by decide +kernel)) rfl
theorem q640 : Cond.instanceMethod yX2_addField ∈ LW := LW_of (List.mem_of_getElem? (i := 640) (by decide +kernel)) rfl
theorem q641 : Cond.selects RX2 yX2_addField yX2_addField ∈ LW := LW_of (List.mem_of_getElem? (i := 641) (by decide +kernel)) rfl
theorem q642 : Cond.code yX2_addField cX2_addField 3 (some .int) ∈ LW := LW_of (List.mem_of_getElem? (i := 642) (by decide +kernel)) rfl
theorem q643 : Cond.methodLink RX2 48 yX2_isIn ∈ LW := LW_of (List.mem_of_getElem? (i := 643) (by decide +kernel)) rfl
theorem q644 : Cond.static yX2_isIn ∈ LW := LW_of (List.mem_of_getElem? (i := 644) (by decide +kernel)) rfl
theorem q645 : Cond.code yX2_isIn cX2_isIn 3 (some .boolean) ∈ LW := LW_of (List.mem_of_getElem? (i := 645) (by decide +kernel)) rfl
theorem q646 : Cond.methodLink RX2 90 yX2_no ∈ LW := LW_of (List.mem_of_getElem? (i := 646) (by decide +kernel)) rfl
theorem q648 : Cond.instanceMethod yX2_no ∈ LW := LW_of (List.mem_of_getElem? (i := 648) (by decide +kernel)) rfl
theorem q649 : Cond.code yX2_no cX2_no 2 (some .int) ∈ LW := LW_of (List.mem_of_getElem? (i := 649) (by decide +kernel)) rfl
theorem q650 : Cond.methodLink RL 99 yX2_addDitch ∈ LW := LW_of (List.mem_of_getElem? (i := 650) (by decide +kernel)) rfl
theorem q651 : Cond.instanceMethod yX2_addDitch ∈ LW := LW_of (List.mem_of_getElem? (i := 651) (by decide +kernel)) rfl
theorem q652 : Cond.selects RX2 yX2_addDitch yX2_addDitch ∈ LW := LW_of (List.mem_of_getElem? (i := 652) (by decide +kernel)) rfl
theorem q653 : Cond.code yX2_addDitch cX2_addDitch 4 (some .int) ∈ LW := LW_of (List.mem_of_getElem? (i := 653) (by decide +kernel)) rfl
theorem q654 : Cond.methodLink RX2 93 yX2_isField ∈ LW := LW_of (List.mem_of_getElem? (i := 654) (by decide +kernel)) rfl
theorem q656 : Cond.instanceMethod yX2_isField ∈ LW := LW_of (List.mem_of_getElem? (i := 656) (by decide +kernel)) rfl
theorem q657 : Cond.code yX2_isField cX2_isField 2 (some .boolean) ∈ LW := LW_of (List.mem_of_getElem? (i := 657) (by decide +kernel)) rfl
theorem q658 : Cond.methodLink RX2 97 yX2_add ∈ LW := LW_of (List.mem_of_getElem? (i := 658) (by decide +kernel)) rfl
theorem q660 : Cond.instanceMethod yX2_add ∈ LW := LW_of (List.mem_of_getElem? (i := 660) (by decide +kernel)) rfl
theorem q661 : Cond.code yX2_add cX2_add 5 (some .int) ∈ LW := LW_of (List.mem_of_getElem? (i := 661) (by decide +kernel)) rfl
theorem q662 : Cond.methodLink RL 102 yX2_addPump ∈ LW := LW_of (List.mem_of_getElem? (i := 662) (by decide +kernel)) rfl
theorem q663 : Cond.instanceMethod yX2_addPump ∈ LW := LW_of (List.mem_of_getElem? (i := 663) (by decide +kernel)) rfl
theorem q664 : Cond.selects RX2 yX2_addPump yX2_addPump ∈ LW := LW_of (List.mem_of_getElem? (i := 664) (by decide +kernel)) rfl
theorem q665 : Cond.code yX2_addPump cX2_addPump 4 (some .int) ∈ LW := LW_of (List.mem_of_getElem? (i := 665) (by decide +kernel)) rfl
theorem q666 : Cond.methodLink RL 106 yX2_turn ∈ LW := LW_of (List.mem_of_getElem? (i := 666) (by decide +kernel)) rfl
theorem q667 : Cond.instanceMethod yX2_turn ∈ LW := LW_of (List.mem_of_getElem? (i := 667) (by decide +kernel)) rfl
theorem q668 : Cond.selects RX2 yX2_turn yX2_turn ∈ LW := LW_of (List.mem_of_getElem? (i := 668) (by decide +kernel)) rfl
theorem q669 : Cond.code yX2_turn cX2_turn 2 (some .boolean) ∈ LW := LW_of (List.mem_of_getElem? (i := 669) (by decide +kernel)) rfl
theorem q670 : Cond.methodLink RX2 101 yX2_isDrain ∈ LW := LW_of (List.mem_of_getElem? (i := 670) (by decide +kernel)) rfl
theorem q672 : Cond.instanceMethod yX2_isDrain ∈ LW := LW_of (List.mem_of_getElem? (i := 672) (by decide +kernel)) rfl
theorem q673 : Cond.code yX2_isDrain cX2_isDrain 2 (some .boolean) ∈ LW := LW_of (List.mem_of_getElem? (i := 673) (by decide +kernel)) rfl
theorem q674 : Cond.methodLink RX2 104 yX2_isNot ∈ LW := LW_of (List.mem_of_getElem? (i := 674) (by decide +kernel)) rfl
theorem q676 : Cond.instanceMethod yX2_isNot ∈ LW := LW_of (List.mem_of_getElem? (i := 676) (by decide +kernel)) rfl
theorem q677 : Cond.code yX2_isNot cX2_isNot 2 (some .boolean) ∈ LW := LW_of (List.mem_of_getElem? (i := 677) (by decide +kernel)) rfl
theorem q678 : Cond.methodLink RL 109 yX2_setRain ∈ LW := LW_of (List.mem_of_getElem? (i := 678) (by decide +kernel)) rfl
theorem q679 : Cond.instanceMethod yX2_setRain ∈ LW := LW_of (List.mem_of_getElem? (i := 679) (by decide +kernel)) rfl
theorem q680 : Cond.selects RX2 yX2_setRain yX2_setRain ∈ LW := LW_of (List.mem_of_getElem? (i := 680) (by decide +kernel)) rfl
theorem q681 : Cond.code yX2_setRain cX2_setRain 3 (some .int) ∈ LW := LW_of (List.mem_of_getElem? (i := 681) (by decide +kernel)) rfl
theorem q682 : Cond.methodLink RL 112 yX2_flood ∈ LW := LW_of (List.mem_of_getElem? (i := 682) (by decide +kernel)) rfl
theorem q683 : Cond.instanceMethod yX2_flood ∈ LW := LW_of (List.mem_of_getElem? (i := 683) (by decide +kernel)) rfl
theorem q684 : Cond.selects RX2 yX2_flood yX2_flood ∈ LW := LW_of (List.mem_of_getElem? (i := 684) (by decide +kernel)) rfl
theorem q685 : Cond.code yX2_flood cX2_flood 3 (some .int) ∈ LW := LW_of (List.mem_of_getElem? (i := 685) (by decide +kernel)) rfl
theorem q686 : Cond.methodLink RX2 61 yX2_water ∈ LW := LW_of (List.mem_of_getElem? (i := 686) (by decide +kernel)) rfl
theorem q688 : Cond.instanceMethod yX2_water ∈ LW := LW_of (List.mem_of_getElem? (i := 688) (by decide +kernel)) rfl
theorem q689 : Cond.code yX2_water cX2_water 2 (some .int) ∈ LW := LW_of (List.mem_of_getElem? (i := 689) (by decide +kernel)) rfl
theorem q690 : Cond.methodLink RL 115 yX2_pass ∈ LW := LW_of (List.mem_of_getElem? (i := 690) (by decide +kernel)) rfl
theorem q691 : Cond.instanceMethod yX2_pass ∈ LW := LW_of (List.mem_of_getElem? (i := 691) (by decide +kernel)) rfl
theorem q692 : Cond.selects RX2 yX2_pass yX2_pass ∈ LW := LW_of (List.mem_of_getElem? (i := 692) (by decide +kernel)) rfl
theorem q693 : Cond.code yX2_pass cX2_pass 3 (some .int) ∈ LW := LW_of (List.mem_of_getElem? (i := 693) (by decide +kernel)) rfl
theorem q694 : Cond.methodLink RX2 107 yX2_ruined ∈ LW := LW_of (List.mem_of_getElem? (i := 694) (by decide +kernel)) rfl
theorem q696 : Cond.instanceMethod yX2_ruined ∈ LW := LW_of (List.mem_of_getElem? (i := 696) (by decide +kernel)) rfl
theorem q697 : Cond.code yX2_ruined cX2_ruined 3 (some .int) ∈ LW := LW_of (List.mem_of_getElem? (i := 697) (by decide +kernel)) rfl
theorem q698 : Cond.methodLink RX2 111 yX2_hoursOn ∈ LW := LW_of (List.mem_of_getElem? (i := 698) (by decide +kernel)) rfl
theorem q700 : Cond.instanceMethod yX2_hoursOn ∈ LW := LW_of (List.mem_of_getElem? (i := 700) (by decide +kernel)) rfl
theorem q701 : Cond.code yX2_hoursOn cX2_hoursOn 3 none ∈ LW := LW_of (List.mem_of_getElem? (i := 701) (by decide +kernel)) rfl
theorem q702 : Cond.methodLink RX2 87 yX2_hourOn ∈ LW := LW_of (List.mem_of_getElem? (i := 702) (by decide +kernel)) rfl
theorem q704 : Cond.instanceMethod yX2_hourOn ∈ LW := LW_of (List.mem_of_getElem? (i := 704) (by decide +kernel)) rfl
theorem q705 : Cond.code yX2_hourOn cX2_hourOn 2 none ∈ LW := LW_of (List.mem_of_getElem? (i := 705) (by decide +kernel)) rfl
theorem q706 : Cond.methodLink RX2 83 yX2_carry ∈ LW := LW_of (List.mem_of_getElem? (i := 706) (by decide +kernel)) rfl
theorem q708 : Cond.instanceMethod yX2_carry ∈ LW := LW_of (List.mem_of_getElem? (i := 708) (by decide +kernel)) rfl
theorem q709 : Cond.code yX2_carry cX2_carry 3 none ∈ LW := LW_of (List.mem_of_getElem? (i := 709) (by decide +kernel)) rfl
theorem q710 : Cond.methodLink RX2 77 yX2_flow ∈ LW := LW_of (List.mem_of_getElem? (i := 710) (by decide +kernel)) rfl
theorem q712 : Cond.instanceMethod yX2_flow ∈ LW := LW_of (List.mem_of_getElem? (i := 712) (by decide +kernel)) rfl
theorem q713 : Cond.code yX2_flow cX2_flow 4 (some .int) ∈ LW := LW_of (List.mem_of_getElem? (i := 713) (by decide +kernel)) rfl
theorem q714 : Cond.methodLink RX2 65 Lib.Math.min.name ∈ LW := LW_of (List.mem_of_getElem? (i := 714) (by decide +kernel)) rfl
theorem q715 : Cond.methodLink RX2 71 yX2_level ∈ LW := LW_of (List.mem_of_getElem? (i := 715) (by decide +kernel)) rfl
theorem q717 : Cond.instanceMethod yX2_level ∈ LW := LW_of (List.mem_of_getElem? (i := 717) (by decide +kernel)) rfl
theorem q718 : Cond.code yX2_level cX2_level 2 (some .int) ∈ LW := LW_of (List.mem_of_getElem? (i := 718) (by decide +kernel)) rfl
theorem q719 : Cond.methodLink RX2 74 Lib.Math.abs.name ∈ LW := LW_of (List.mem_of_getElem? (i := 719) (by decide +kernel)) rfl
theorem q720 : Cond.methodLink RL 119 yX2_hour ∈ LW := LW_of (List.mem_of_getElem? (i := 720) (by decide +kernel)) rfl
theorem q721 : Cond.instanceMethod yX2_hour ∈ LW := LW_of (List.mem_of_getElem? (i := 721) (by decide +kernel)) rfl
theorem q722 : Cond.selects RX2 yX2_hour yX2_hour ∈ LW := LW_of (List.mem_of_getElem? (i := 722) (by decide +kernel)) rfl
theorem q723 : Cond.code yX2_hour cX2_hour 1 (some .int) ∈ LW := LW_of (List.mem_of_getElem? (i := 723) (by decide +kernel)) rfl
theorem q724 : Cond.methodLink RX2 114 yX2_ok ∈ LW := LW_of (List.mem_of_getElem? (i := 724) (by decide +kernel)) rfl
theorem q726 : Cond.instanceMethod yX2_ok ∈ LW := LW_of (List.mem_of_getElem? (i := 726) (by decide +kernel)) rfl
theorem q727 : Cond.code yX2_ok cX2_ok 2 (some .int) ∈ LW := LW_of (List.mem_of_getElem? (i := 727) (by decide +kernel)) rfl
theorem q728 : Cond.methodLink RL 123 yX2_fields ∈ LW := LW_of (List.mem_of_getElem? (i := 728) (by decide +kernel)) rfl
theorem q729 : Cond.instanceMethod yX2_fields ∈ LW := LW_of (List.mem_of_getElem? (i := 729) (by decide +kernel)) rfl
theorem q730 : Cond.selects RX2 yX2_fields yX2_fields ∈ LW := LW_of (List.mem_of_getElem? (i := 730) (by decide +kernel)) rfl
theorem q731 : Cond.code yX2_fields cX2_fields 1 (some .int) ∈ LW := LW_of (List.mem_of_getElem? (i := 731) (by decide +kernel)) rfl
theorem q732 : Cond.methodLink RL 127 yX2_drains ∈ LW := LW_of (List.mem_of_getElem? (i := 732) (by decide +kernel)) rfl
theorem q733 : Cond.instanceMethod yX2_drains ∈ LW := LW_of (List.mem_of_getElem? (i := 733) (by decide +kernel)) rfl
theorem q734 : Cond.selects RX2 yX2_drains yX2_drains ∈ LW := LW_of (List.mem_of_getElem? (i := 734) (by decide +kernel)) rfl
theorem q735 : Cond.code yX2_drains cX2_drains 1 (some .int) ∈ LW := LW_of (List.mem_of_getElem? (i := 735) (by decide +kernel)) rfl
theorem q736 : Cond.methodLink RL 131 yX2_rain ∈ LW := LW_of (List.mem_of_getElem? (i := 736) (by decide +kernel)) rfl
theorem q737 : Cond.instanceMethod yX2_rain ∈ LW := LW_of (List.mem_of_getElem? (i := 737) (by decide +kernel)) rfl
theorem q738 : Cond.selects RX2 yX2_rain yX2_rain ∈ LW := LW_of (List.mem_of_getElem? (i := 738) (by decide +kernel)) rfl
theorem q739 : Cond.code yX2_rain cX2_rain 1 (some .int) ∈ LW := LW_of (List.mem_of_getElem? (i := 739) (by decide +kernel)) rfl
theorem q740 : Cond.methodLink RL 135 yX2_water_ ∈ LW := LW_of (List.mem_of_getElem? (i := 740) (by decide +kernel)) rfl
theorem q741 : Cond.instanceMethod yX2_water_ ∈ LW := LW_of (List.mem_of_getElem? (i := 741) (by decide +kernel)) rfl
theorem q742 : Cond.selects RX2 yX2_water_ yX2_water_ ∈ LW := LW_of (List.mem_of_getElem? (i := 742) (by decide +kernel)) rfl
theorem q743 : Cond.code yX2_water_ cX2_water_ 1 (some .int) ∈ LW := LW_of (List.mem_of_getElem? (i := 743) (by decide +kernel)) rfl
theorem q744 : Cond.methodLink RX2 117 yX2_allWater ∈ LW := LW_of (List.mem_of_getElem? (i := 744) (by decide +kernel)) rfl
theorem q746 : Cond.instanceMethod yX2_allWater ∈ LW := LW_of (List.mem_of_getElem? (i := 746) (by decide +kernel)) rfl
theorem q747 : Cond.code yX2_allWater cX2_allWater 3 (some .int) ∈ LW := LW_of (List.mem_of_getElem? (i := 747) (by decide +kernel)) rfl
theorem q748 : Cond.methodLink RL 139 yX2_drained ∈ LW := LW_of (List.mem_of_getElem? (i := 748) (by decide +kernel)) rfl
theorem q749 : Cond.instanceMethod yX2_drained ∈ LW := LW_of (List.mem_of_getElem? (i := 749) (by decide +kernel)) rfl
theorem q750 : Cond.selects RX2 yX2_drained yX2_drained ∈ LW := LW_of (List.mem_of_getElem? (i := 750) (by decide +kernel)) rfl
theorem q751 : Cond.code yX2_drained cX2_drained 1 (some .int) ∈ LW := LW_of (List.mem_of_getElem? (i := 751) (by decide +kernel)) rfl
theorem q752 : Cond.methodLink RL 143 yX2_wetFields ∈ LW := LW_of (List.mem_of_getElem? (i := 752) (by decide +kernel)) rfl
theorem q753 : Cond.instanceMethod yX2_wetFields ∈ LW := LW_of (List.mem_of_getElem? (i := 753) (by decide +kernel)) rfl
theorem q754 : Cond.selects RX2 yX2_wetFields yX2_wetFields ∈ LW := LW_of (List.mem_of_getElem? (i := 754) (by decide +kernel)) rfl
theorem q755 : Cond.code yX2_wetFields cX2_wetFields 1 (some .int) ∈ LW := LW_of (List.mem_of_getElem? (i := 755) (by decide +kernel)) rfl
theorem q756 : Cond.methodLink RX2 120 yX2_wet ∈ LW := LW_of (List.mem_of_getElem? (i := 756) (by decide +kernel)) rfl
theorem q758 : Cond.instanceMethod yX2_wet ∈ LW := LW_of (List.mem_of_getElem? (i := 758) (by decide +kernel)) rfl
theorem q759 : Cond.code yX2_wet cX2_wet 3 (some .int) ∈ LW := LW_of (List.mem_of_getElem? (i := 759) (by decide +kernel)) rfl
theorem q760 : Cond.methodLink RL 147 yX2_ruinedFields ∈ LW := LW_of (List.mem_of_getElem? (i := 760) (by decide +kernel)) rfl
theorem q761 : Cond.instanceMethod yX2_ruinedFields ∈ LW := LW_of (List.mem_of_getElem? (i := 761) (by decide +kernel)) rfl
theorem q762 : Cond.selects RX2 yX2_ruinedFields yX2_ruinedFields ∈ LW := LW_of (List.mem_of_getElem? (i := 762) (by decide +kernel)) rfl
theorem q763 : Cond.code yX2_ruinedFields cX2_ruinedFields 1 (some .int) ∈ LW := LW_of (List.mem_of_getElem? (i := 763) (by decide +kernel)) rfl
theorem q764 : Cond.methodLink RL 151 yX2_loss ∈ LW := LW_of (List.mem_of_getElem? (i := 764) (by decide +kernel)) rfl
theorem q765 : Cond.instanceMethod yX2_loss ∈ LW := LW_of (List.mem_of_getElem? (i := 765) (by decide +kernel)) rfl
theorem q766 : Cond.selects RX2 yX2_loss yX2_loss ∈ LW := LW_of (List.mem_of_getElem? (i := 766) (by decide +kernel)) rfl
theorem q767 : Cond.code yX2_loss cX2_loss 1 (some .int) ∈ LW := LW_of (List.mem_of_getElem? (i := 767) (by decide +kernel)) rfl
theorem q768 : Cond.methodLink RX2 123 yX2_lost ∈ LW := LW_of (List.mem_of_getElem? (i := 768) (by decide +kernel)) rfl
theorem q770 : Cond.instanceMethod yX2_lost ∈ LW := LW_of (List.mem_of_getElem? (i := 770) (by decide +kernel)) rfl
theorem q771 : Cond.code yX2_lost cX2_lost 3 (some .int) ∈ LW := LW_of (List.mem_of_getElem? (i := 771) (by decide +kernel)) rfl
theorem q772 : Cond.methodLink RL 154 yX2_waterOn ∈ LW := LW_of (List.mem_of_getElem? (i := 772) (by decide +kernel)) rfl
theorem q773 : Cond.instanceMethod yX2_waterOn ∈ LW := LW_of (List.mem_of_getElem? (i := 773) (by decide +kernel)) rfl
theorem q774 : Cond.selects RX2 yX2_waterOn yX2_waterOn ∈ LW := LW_of (List.mem_of_getElem? (i := 774) (by decide +kernel)) rfl
theorem q775 : Cond.code yX2_waterOn cX2_waterOn 2 (some .int) ∈ LW := LW_of (List.mem_of_getElem? (i := 775) (by decide +kernel)) rfl
theorem q776 : Cond.methodLink RX2 126 yX2_of ∈ LW := LW_of (List.mem_of_getElem? (i := 776) (by decide +kernel)) rfl
theorem q778 : Cond.instanceMethod yX2_of ∈ LW := LW_of (List.mem_of_getElem? (i := 778) (by decide +kernel)) rfl
theorem q779 : Cond.code yX2_of cX2_of 3 (some .int) ∈ LW := LW_of (List.mem_of_getElem? (i := 779) (by decide +kernel)) rfl
theorem q780 : Cond.methodLink RL 157 yX2_levelOf ∈ LW := LW_of (List.mem_of_getElem? (i := 780) (by decide +kernel)) rfl
theorem q781 : Cond.instanceMethod yX2_levelOf ∈ LW := LW_of (List.mem_of_getElem? (i := 781) (by decide +kernel)) rfl
theorem q782 : Cond.selects RX2 yX2_levelOf yX2_levelOf ∈ LW := LW_of (List.mem_of_getElem? (i := 782) (by decide +kernel)) rfl
theorem q783 : Cond.code yX2_levelOf cX2_levelOf 2 (some .int) ∈ LW := LW_of (List.mem_of_getElem? (i := 783) (by decide +kernel)) rfl
theorem q784 : Cond.methodLink RL 160 yX2_wetFor ∈ LW := LW_of (List.mem_of_getElem? (i := 784) (by decide +kernel)) rfl
theorem q785 : Cond.instanceMethod yX2_wetFor ∈ LW := LW_of (List.mem_of_getElem? (i := 785) (by decide +kernel)) rfl
theorem q786 : Cond.selects RX2 yX2_wetFor yX2_wetFor ∈ LW := LW_of (List.mem_of_getElem? (i := 786) (by decide +kernel)) rfl
theorem q787 : Cond.code yX2_wetFor cX2_wetFor 2 (some .int) ∈ LW := LW_of (List.mem_of_getElem? (i := 787) (by decide +kernel)) rfl
theorem q788 : Cond.methodLink RL 163 yX2_isRuined ∈ LW := LW_of (List.mem_of_getElem? (i := 788) (by decide +kernel)) rfl
theorem q789 : Cond.instanceMethod yX2_isRuined ∈ LW := LW_of (List.mem_of_getElem? (i := 789) (by decide +kernel)) rfl
theorem q790 : Cond.selects RX2 yX2_isRuined yX2_isRuined ∈ LW := LW_of (List.mem_of_getElem? (i := 790) (by decide +kernel)) rfl
theorem q791 : Cond.code yX2_isRuined cX2_isRuined 2 (some .boolean) ∈ LW := LW_of (List.mem_of_getElem? (i := 791) (by decide +kernel)) rfl
theorem q792 : Cond.methodLink RL 166 yX2_drainsAt ∈ LW := LW_of (List.mem_of_getElem? (i := 792) (by decide +kernel)) rfl
theorem q793 : Cond.instanceMethod yX2_drainsAt ∈ LW := LW_of (List.mem_of_getElem? (i := 793) (by decide +kernel)) rfl
theorem q794 : Cond.selects RX2 yX2_drainsAt yX2_drainsAt ∈ LW := LW_of (List.mem_of_getElem? (i := 794) (by decide +kernel)) rfl
theorem q795 : Cond.code yX2_drainsAt cX2_drainsAt 2 (some .int) ∈ LW := LW_of (List.mem_of_getElem? (i := 795) (by decide +kernel)) rfl
theorem q796 : Cond.methodLink RX2 129 yX2_openAt ∈ LW := LW_of (List.mem_of_getElem? (i := 796) (by decide +kernel)) rfl
theorem q798 : Cond.instanceMethod yX2_openAt ∈ LW := LW_of (List.mem_of_getElem? (i := 798) (by decide +kernel)) rfl
theorem q799 : Cond.code yX2_openAt cX2_openAt 4 (some .int) ∈ LW := LW_of (List.mem_of_getElem? (i := 799) (by decide +kernel)) rfl
theorem q800 : Cond.methodLink RL 169 yX2_reaches ∈ LW := LW_of (List.mem_of_getElem? (i := 800) (by decide +kernel)) rfl
theorem q801 : Cond.instanceMethod yX2_reaches ∈ LW := LW_of (List.mem_of_getElem? (i := 801) (by decide +kernel)) rfl
theorem q802 : Cond.selects RX2 yX2_reaches yX2_reaches ∈ LW := LW_of (List.mem_of_getElem? (i := 802) (by decide +kernel)) rfl
theorem q803 : Cond.code yX2_reaches cX2_reaches 2 (some .int) ∈ LW := LW_of (List.mem_of_getElem? (i := 803) (by decide +kernel)) rfl
theorem q804 : Cond.methodLink RX2 136 yX2_spread ∈ LW := LW_of (List.mem_of_getElem? (i := 804) (by decide +kernel)) rfl
theorem q806 : Cond.instanceMethod yX2_spread ∈ LW := LW_of (List.mem_of_getElem? (i := 806) (by decide +kernel)) rfl
theorem q807 : Cond.code yX2_spread cX2_spread 5 (some .int) ∈ LW := LW_of (List.mem_of_getElem? (i := 807) (by decide +kernel)) rfl
theorem q808 : Cond.methodLink RX2 132 yX2_spreads ∈ LW := LW_of (List.mem_of_getElem? (i := 808) (by decide +kernel)) rfl
theorem q810 : Cond.instanceMethod yX2_spreads ∈ LW := LW_of (List.mem_of_getElem? (i := 810) (by decide +kernel)) rfl
theorem q811 : Cond.code yX2_spreads cX2_spreads 3 (some .boolean) ∈ LW := LW_of (List.mem_of_getElem? (i := 811) (by decide +kernel)) rfl
theorem q812 : Cond.methodLink RL 173 yX2_highest ∈ LW := LW_of (List.mem_of_getElem? (i := 812) (by decide +kernel)) rfl
theorem q813 : Cond.instanceMethod yX2_highest ∈ LW := LW_of (List.mem_of_getElem? (i := 813) (by decide +kernel)) rfl
theorem q814 : Cond.selects RX2 yX2_highest yX2_highest ∈ LW := LW_of (List.mem_of_getElem? (i := 814) (by decide +kernel)) rfl
theorem q815 : Cond.code yX2_highest cX2_highest 1 (some .int) ∈ LW := LW_of (List.mem_of_getElem? (i := 815) (by decide +kernel)) rfl
theorem q816 : Cond.methodLink RX2 139 yX2_high ∈ LW := LW_of (List.mem_of_getElem? (i := 816) (by decide +kernel)) rfl
theorem q818 : Cond.instanceMethod yX2_high ∈ LW := LW_of (List.mem_of_getElem? (i := 818) (by decide +kernel)) rfl
theorem q819 : Cond.code yX2_high cX2_high 3 (some .int) ∈ LW := LW_of (List.mem_of_getElem? (i := 819) (by decide +kernel)) rfl
theorem q820 : Cond.methodLink RL 176 yX2_isPump ∈ LW := LW_of (List.mem_of_getElem? (i := 820) (by decide +kernel)) rfl
theorem q821 : Cond.instanceMethod yX2_isPump ∈ LW := LW_of (List.mem_of_getElem? (i := 821) (by decide +kernel)) rfl
theorem q822 : Cond.selects RX2 yX2_isPump yX2_isPump ∈ LW := LW_of (List.mem_of_getElem? (i := 822) (by decide +kernel)) rfl
theorem q823 : Cond.code yX2_isPump cX2_isPump 2 (some .boolean) ∈ LW := LW_of (List.mem_of_getElem? (i := 823) (by decide +kernel)) rfl
theorem q824 : Cond.methodLink RL 179 yX2_isOpen ∈ LW := LW_of (List.mem_of_getElem? (i := 824) (by decide +kernel)) rfl
theorem q825 : Cond.instanceMethod yX2_isOpen ∈ LW := LW_of (List.mem_of_getElem? (i := 825) (by decide +kernel)) rfl
theorem q826 : Cond.selects RX2 yX2_isOpen yX2_isOpen ∈ LW := LW_of (List.mem_of_getElem? (i := 826) (by decide +kernel)) rfl
theorem q827 : Cond.code yX2_isOpen cX2_isOpen 2 (some .boolean) ∈ LW := LW_of (List.mem_of_getElem? (i := 827) (by decide +kernel)) rfl
theorem q828 : Cond.methodLink RL 182 yX2_carriedBy ∈ LW := LW_of (List.mem_of_getElem? (i := 828) (by decide +kernel)) rfl
theorem q829 : Cond.instanceMethod yX2_carriedBy ∈ LW := LW_of (List.mem_of_getElem? (i := 829) (by decide +kernel)) rfl
theorem q830 : Cond.selects RX2 yX2_carriedBy yX2_carriedBy ∈ LW := LW_of (List.mem_of_getElem? (i := 830) (by decide +kernel)) rfl
theorem q831 : Cond.code yX2_carriedBy cX2_carriedBy 2 (some .int) ∈ LW := LW_of (List.mem_of_getElem? (i := 831) (by decide +kernel)) rfl
theorem q832 : Cond.methodLink RL 185 yX2_wouldCarry ∈ LW := LW_of (List.mem_of_getElem? (i := 832) (by decide +kernel)) rfl
theorem q833 : Cond.instanceMethod yX2_wouldCarry ∈ LW := LW_of (List.mem_of_getElem? (i := 833) (by decide +kernel)) rfl
theorem q834 : Cond.selects RX2 yX2_wouldCarry yX2_wouldCarry ∈ LW := LW_of (List.mem_of_getElem? (i := 834) (by decide +kernel)) rfl
theorem q835 : Cond.code yX2_wouldCarry cX2_wouldCarry 2 (some .int) ∈ LW := LW_of (List.mem_of_getElem? (i := 835) (by decide +kernel)) rfl
theorem q836 : Cond.methodLink RL 189 yX2_busiest ∈ LW := LW_of (List.mem_of_getElem? (i := 836) (by decide +kernel)) rfl
theorem q837 : Cond.instanceMethod yX2_busiest ∈ LW := LW_of (List.mem_of_getElem? (i := 837) (by decide +kernel)) rfl
theorem q838 : Cond.selects RX2 yX2_busiest yX2_busiest ∈ LW := LW_of (List.mem_of_getElem? (i := 838) (by decide +kernel)) rfl
theorem q839 : Cond.code yX2_busiest cX2_busiest 1 (some .int) ∈ LW := LW_of (List.mem_of_getElem? (i := 839) (by decide +kernel)) rfl
theorem q840 : Cond.methodLink RX2 142 yX2_busy ∈ LW := LW_of (List.mem_of_getElem? (i := 840) (by decide +kernel)) rfl
theorem q842 : Cond.instanceMethod yX2_busy ∈ LW := LW_of (List.mem_of_getElem? (i := 842) (by decide +kernel)) rfl
theorem q843 : Cond.code yX2_busy cX2_busy 3 (some .int) ∈ LW := LW_of (List.mem_of_getElem? (i := 843) (by decide +kernel)) rfl
theorem q844 : Cond.methodLink RL 192 yX2_hoursUntilRuined ∈ LW := LW_of (List.mem_of_getElem? (i := 844) (by decide +kernel)) rfl
theorem q845 : Cond.instanceMethod yX2_hoursUntilRuined ∈ LW := LW_of (List.mem_of_getElem? (i := 845) (by decide +kernel)) rfl
theorem q846 : Cond.selects RX2 yX2_hoursUntilRuined yX2_hoursUntilRuined ∈ LW := LW_of (List.mem_of_getElem? (i := 846) (by decide +kernel)) rfl
theorem q847 : Cond.code yX2_hoursUntilRuined cX2_hoursUntilRuined 2 (some .int) ∈ LW := LW_of (List.mem_of_getElem? (i := 847) (by decide +kernel)) rfl
theorem q848 : Cond.methodLink RX2 151 yX2_until ∈ LW := LW_of (List.mem_of_getElem? (i := 848) (by decide +kernel)) rfl
theorem q850 : Cond.instanceMethod yX2_until ∈ LW := LW_of (List.mem_of_getElem? (i := 850) (by decide +kernel)) rfl
theorem q851 : Cond.code yX2_until cX2_until 3 (some .int) ∈ LW := LW_of (List.mem_of_getElem? (i := 851) (by decide +kernel)) rfl
theorem q852 : Cond.methodLink RX2 145 yX2_keep ∈ LW := LW_of (List.mem_of_getElem? (i := 852) (by decide +kernel)) rfl
theorem q854 : Cond.instanceMethod yX2_keep ∈ LW := LW_of (List.mem_of_getElem? (i := 854) (by decide +kernel)) rfl
theorem q855 : Cond.code yX2_keep cX2_keep 1 none ∈ LW := LW_of (List.mem_of_getElem? (i := 855) (by decide +kernel)) rfl
theorem q856 : Cond.methodLink RX2 55 arraycopyName ∈ LW := LW_of (List.mem_of_getElem? (i := 856) (by decide +kernel)) rfl
theorem q857 : Cond.static arraycopyName ∈ LW := LW_of (List.mem_of_getElem? (i := 857) (by decide +kernel)) rfl
theorem q858 : Cond.native arraycopyName ∈ LW := LW_of (List.mem_of_getElem? (i := 858) (by decide +kernel)) rfl
theorem q859 : Cond.methodLink RX2 148 yX2_bringBack ∈ LW := LW_of (List.mem_of_getElem? (i := 859) (by decide +kernel)) rfl
theorem q861 : Cond.instanceMethod yX2_bringBack ∈ LW := LW_of (List.mem_of_getElem? (i := 861) (by decide +kernel)) rfl
theorem q862 : Cond.code yX2_bringBack cX2_bringBack 1 none ∈ LW := LW_of (List.mem_of_getElem? (i := 862) (by decide +kernel)) rfl
theorem q863 : Cond.methodLink RL 195 yX2_lossIn ∈ LW := LW_of (List.mem_of_getElem? (i := 863) (by decide +kernel)) rfl
theorem q864 : Cond.instanceMethod yX2_lossIn ∈ LW := LW_of (List.mem_of_getElem? (i := 864) (by decide +kernel)) rfl
theorem q865 : Cond.selects RX2 yX2_lossIn yX2_lossIn ∈ LW := LW_of (List.mem_of_getElem? (i := 865) (by decide +kernel)) rfl
theorem q866 : Cond.code yX2_lossIn cX2_lossIn 2 (some .int) ∈ LW := LW_of (List.mem_of_getElem? (i := 866) (by decide +kernel)) rfl
theorem q867 : Cond.methodLink RX2 154 yX2_lostBehind ∈ LW := LW_of (List.mem_of_getElem? (i := 867) (by decide +kernel)) rfl
theorem q869 : Cond.instanceMethod yX2_lostBehind ∈ LW := LW_of (List.mem_of_getElem? (i := 869) (by decide +kernel)) rfl
theorem q870 : Cond.code yX2_lostBehind cX2_lostBehind 5 (some .int) ∈ LW := LW_of (List.mem_of_getElem? (i := 870) (by decide +kernel)) rfl
theorem q871 : Cond.methodLink RL 198 yX2_waterIn ∈ LW := LW_of (List.mem_of_getElem? (i := 871) (by decide +kernel)) rfl
theorem q872 : Cond.instanceMethod yX2_waterIn ∈ LW := LW_of (List.mem_of_getElem? (i := 872) (by decide +kernel)) rfl
theorem q873 : Cond.selects RX2 yX2_waterIn yX2_waterIn ∈ LW := LW_of (List.mem_of_getElem? (i := 873) (by decide +kernel)) rfl
theorem q874 : Cond.code yX2_waterIn cX2_waterIn 4 (some .int) ∈ LW := LW_of (List.mem_of_getElem? (i := 874) (by decide +kernel)) rfl
theorem q875 : Cond.methodLink RL 202 yX2_bestToTurn ∈ LW := LW_of (List.mem_of_getElem? (i := 875) (by decide +kernel)) rfl
theorem q876 : Cond.instanceMethod yX2_bestToTurn ∈ LW := LW_of (List.mem_of_getElem? (i := 876) (by decide +kernel)) rfl
theorem q877 : Cond.selects RX2 yX2_bestToTurn yX2_bestToTurn ∈ LW := LW_of (List.mem_of_getElem? (i := 877) (by decide +kernel)) rfl
theorem q878 : Cond.code yX2_bestToTurn cX2_bestToTurn 1 (some .int) ∈ LW := LW_of (List.mem_of_getElem? (i := 878) (by decide +kernel)) rfl
theorem q879 : Cond.methodLink RX2 158 yX2_turned ∈ LW := LW_of (List.mem_of_getElem? (i := 879) (by decide +kernel)) rfl
theorem q881 : Cond.instanceMethod yX2_turned ∈ LW := LW_of (List.mem_of_getElem? (i := 881) (by decide +kernel)) rfl
theorem q882 : Cond.code yX2_turned cX2_turned 5 (some .int) ∈ LW := LW_of (List.mem_of_getElem? (i := 882) (by decide +kernel)) rfl
theorem q883 : Cond.methodLink RL 205 yX2_bestToFlood ∈ LW := LW_of (List.mem_of_getElem? (i := 883) (by decide +kernel)) rfl
theorem q884 : Cond.instanceMethod yX2_bestToFlood ∈ LW := LW_of (List.mem_of_getElem? (i := 884) (by decide +kernel)) rfl
theorem q885 : Cond.selects RX2 yX2_bestToFlood yX2_bestToFlood ∈ LW := LW_of (List.mem_of_getElem? (i := 885) (by decide +kernel)) rfl
theorem q886 : Cond.code yX2_bestToFlood cX2_bestToFlood 2 (some .int) ∈ LW := LW_of (List.mem_of_getElem? (i := 886) (by decide +kernel)) rfl
theorem q887 : Cond.methodLink RX2 161 yX2_flooded ∈ LW := LW_of (List.mem_of_getElem? (i := 887) (by decide +kernel)) rfl
theorem q889 : Cond.instanceMethod yX2_flooded ∈ LW := LW_of (List.mem_of_getElem? (i := 889) (by decide +kernel)) rfl
theorem q890 : Cond.code yX2_flooded cX2_flooded 6 (some .int) ∈ LW := LW_of (List.mem_of_getElem? (i := 890) (by decide +kernel)) rfl
theorem q891 : Cond.methodLink RL 209 yX2_rainBorne ∈ LW := LW_of (List.mem_of_getElem? (i := 891) (by decide +kernel)) rfl
theorem q892 : Cond.instanceMethod yX2_rainBorne ∈ LW := LW_of (List.mem_of_getElem? (i := 892) (by decide +kernel)) rfl
theorem q893 : Cond.selects RX2 yX2_rainBorne yX2_rainBorne ∈ LW := LW_of (List.mem_of_getElem? (i := 893) (by decide +kernel)) rfl
theorem q894 : Cond.code yX2_rainBorne cX2_rainBorne 1 (some .int) ∈ LW := LW_of (List.mem_of_getElem? (i := 894) (by decide +kernel)) rfl
theorem q895 : Cond.methodLink RX2 164 yX2_borne ∈ LW := LW_of (List.mem_of_getElem? (i := 895) (by decide +kernel)) rfl
theorem q897 : Cond.instanceMethod yX2_borne ∈ LW := LW_of (List.mem_of_getElem? (i := 897) (by decide +kernel)) rfl
theorem q898 : Cond.code yX2_borne cX2_borne 4 (some .int) ∈ LW := LW_of (List.mem_of_getElem? (i := 898) (by decide +kernel)) rfl
theorem q899 : Cond.methodLink RL 214 yX2_meanWater ∈ LW := LW_of (List.mem_of_getElem? (i := 899) (by decide +kernel)) rfl
theorem q900 : Cond.instanceMethod yX2_meanWater ∈ LW := LW_of (List.mem_of_getElem? (i := 900) (by decide +kernel)) rfl
theorem q901 : Cond.selects RX2 yX2_meanWater yX2_meanWater ∈ LW := LW_of (List.mem_of_getElem? (i := 901) (by decide +kernel)) rfl
theorem q902 : Cond.code yX2_meanWater cX2_meanWater 1 (some .double) ∈ LW := LW_of (List.mem_of_getElem? (i := 902) (by decide +kernel)) rfl
theorem q903 : Cond.methodLink RL 219 yX2_digest ∈ LW := LW_of (List.mem_of_getElem? (i := 903) (by decide +kernel)) rfl
theorem q904 : Cond.instanceMethod yX2_digest ∈ LW := LW_of (List.mem_of_getElem? (i := 904) (by decide +kernel)) rfl
theorem q905 : Cond.selects RX2 yX2_digest yX2_digest ∈ LW := LW_of (List.mem_of_getElem? (i := 905) (by decide +kernel)) rfl
theorem q906 : Cond.code yX2_digest cX2_digest 10 (some .long) ∈ LW := LW_of (List.mem_of_getElem? (i := 906) (by decide +kernel)) rfl
theorem q907 : Cond.constantLong RX2 167 2341 ∈ LW := LW_of (List.mem_of_getElem? (i := 907) (by decide +kernel)) rfl
theorem q908 : Cond.constantLong RX2 169 31 ∈ LW := LW_of (List.mem_of_getElem? (i := 908) (by decide +kernel)) rfl
theorem q909 : Cond.arrayClass .long ∈ LW := LW_of (List.mem_of_getElem? (i := 909) (by decide +kernel)) rfl
end
section
-- OWN KIT: worlds in blocks, contracts with one given answer, rows with indices that are natural numbers
abbrev Sg : Type := Nat → Nat → Int32
/-- one row of a state -/
def sr (σ : Sg) (i : Nat) (f : Nat → Int32) : Sg := fun k => cond (Nat.beq k i) f (σ k)
def up1 (f : Nat → Int32) (j : Nat) (x : Int32) : Nat → Int32 := fun i => cond (Nat.beq i j) x (f i)
/-- one place of a row -/
def su (σ : Sg) (i j : Nat) (x : Int32) : Sg := sr σ i (upd (σ i) j x)
/-- one number of the last row -/
def sc (σ : Sg) (i : Nat) (x : Int32) : Sg := sr σ 11 (up1 (σ 11) i x)
section KB
variable {D : va_G} {cl : List vw_C} {tys : List (ClassId × FieldType)} {A A0 : Nat → Prop} {ws w0 wc wc' w2 : va_W} {H H1 : Heap}
theorem kP_iff : va_P D cl ws H ↔ ∀ q ∈ ws, va_at D cl q H := by
  constructor
  · intro h q hq
    obtain ⟨k, hk⟩ := List.mem_iff_getElem?.mp hq
    exact h k q hk
  · intro h k q hk
    exact h q (List.mem_of_getElem? hk)
theorem kD_iff : va_D A ws ↔ (ws.map Prod.fst).Nodup ∧ ∀ q ∈ ws, A q.1 := by
  constructor
  · intro h
    refine ⟨?_, fun q hq => ?_⟩
    · refine List.pairwise_iff_getElem.mpr ?_
      intro i j hi hj hij e
      rw [List.length_map] at hi hj
      rw [List.getElem_map, List.getElem_map] at e
      have := h.1 i j _ _ (List.getElem?_eq_getElem hi) (List.getElem?_eq_getElem hj) e
      omega
    · obtain ⟨k, hk⟩ := List.mem_iff_getElem?.mp hq
      exact h.2 k q hk
  · intro ⟨h1, h2⟩
    refine ⟨fun i j p q hi hj e => ?_, fun k q hk => h2 q (List.mem_of_getElem? hk)⟩
    have h3 := List.pairwise_iff_getElem.mp h1
    obtain ⟨li, ei⟩ := List.getElem?_eq_some_iff.mp hi
    obtain ⟨lj, ej⟩ := List.getElem?_eq_some_iff.mp hj
    have mi : i < (ws.map Prod.fst).length := by rw [List.length_map]; exact li
    have mj : j < (ws.map Prod.fst).length := by rw [List.length_map]; exact lj
    have gi : (ws.map Prod.fst)[i] = p.1 := by rw [List.getElem_map, ei]
    have gj : (ws.map Prod.fst)[j] = q.1 := by rw [List.getElem_map, ej]
    rcases Nat.lt_trichotomy i j with q1 | q1 | q1
    · exact absurd (by rw [gi, gj, e]) (h3 i j mi mj q1)
    · exact q1
    · exact absurd (by rw [gi, gj, e]) (h3 j i mj mi q1)
theorem kA_mem {sz q : Nat} : va_A wc sz q ↔ (∃ e, (q, e) ∈ wc) ∨ sz ≤ q := by
  unfold va_A
  constructor
  · rintro (⟨k, e, h⟩ | h)
    · exact Or.inl ⟨e, List.mem_of_getElem? h⟩
    · exact Or.inr h
  · rintro (⟨e, h⟩ | h)
    · obtain ⟨k, hk⟩ := List.mem_iff_getElem?.mp h
      exact Or.inl ⟨k, e, hk⟩
    · exact Or.inr h
/-- the callee's cells lie in the caller's room -/
theorem kb_free {H0 : Heap} {locs : List Loc} (hD : va_D A0 (w0 ++ (wc ++ w2))) (hS : va_S A0 H0 H locs) (hA : ∀ q, H0.size ≤ q → A0 q) : ∀ q, va_A wc H.size q → A0 q := by
  intro q hq
  rcases kA_mem.mp hq with ⟨e, h⟩ | h
  · exact (kD_iff.mp hD).2 (q, e) (List.mem_append_right _ (List.mem_append_left _ h))
  · exact hA q (Nat.le_trans hS.1 h)
/-- a block's part of the world -/
theorem kb_sub (hP : va_P D cl (w0 ++ (wc ++ w2)) H) : va_P D cl wc H := kP_iff.mpr fun q hq => kP_iff.mp hP q (List.mem_append_right _ (List.mem_append_left _ hq))
theorem kb_subD (hD : va_D A0 (w0 ++ (wc ++ w2))) : va_D (fun _ => True) wc := by
  refine kD_iff.mpr ⟨?_, fun _ _ => trivial⟩
  have h := (kD_iff.mp hD).1
  rw [List.map_append, List.map_append] at h
  exact (List.nodup_append.mp (List.nodup_append.mp h).2.1).1
/-- behind a call: the block's new cells in their place -/
theorem kb_join (hP : va_P D cl (w0 ++ (wc ++ w2)) H) (hD : va_D A0 (w0 ++ (wc ++ w2))) (hk : ∀ q : Nat, q < H.size → ¬ va_A wc H.size q → H1[q]? = H[q]?) (hP1 : va_P D cl wc' H1) (hD1 : va_D (va_A wc H.size) wc') (hf : ∀ q, va_A wc H.size q → A0 q) : va_P D cl (w0 ++ (wc' ++ w2)) H1 ∧ va_D A0 (w0 ++ (wc' ++ w2)) := by
  have hP0 := kP_iff.mp hP
  obtain ⟨hN, hA⟩ := kD_iff.mp hD
  rw [List.map_append, List.map_append] at hN
  obtain ⟨n0, nc2, d0⟩ := List.nodup_append.mp hN
  obtain ⟨nc, n2, d2⟩ := List.nodup_append.mp nc2
  obtain ⟨hN1, hA1⟩ := kD_iff.mp hD1
  have apart : ∀ q ∈ w0 ++ w2, ¬ va_A wc H.size q.1 := by
    intro q hq h
    have hlt : q.1 < H.size := by
      refine (hP0 q ?_).lt
      rcases List.mem_append.mp hq with h | h
      · exact List.mem_append_left _ h
      · exact List.mem_append_right _ (List.mem_append_right _ h)
    rcases kA_mem.mp h with ⟨e, he⟩ | he
    · rcases List.mem_append.mp hq with h1 | h1
      · exact d0 q.1 (List.mem_map_of_mem h1) q.1 (List.mem_append_left _ (List.mem_map.mpr ⟨_, he, rfl⟩)) rfl
      · exact d2 q.1 (List.mem_map.mpr ⟨_, he, rfl⟩) q.1 (List.mem_map_of_mem h1) rfl
    · omega
  have lt0 : ∀ q ∈ w0 ++ w2, q.1 < H.size := by
    intro q hq
    refine (hP0 q ?_).lt
    rcases List.mem_append.mp hq with h | h
    · exact List.mem_append_left _ h
    · exact List.mem_append_right _ (List.mem_append_right _ h)
  have keep : ∀ q ∈ w0 ++ w2, va_at D cl q H1 := by
    intro q hq
    refine (hP0 q ?_).kept (hk q.1 (lt0 q hq) (apart q hq))
    rcases List.mem_append.mp hq with h | h
    · exact List.mem_append_left _ h
    · exact List.mem_append_right _ (List.mem_append_right _ h)
  refine ⟨kP_iff.mpr fun q hq => ?_, kD_iff.mpr ⟨?_, fun q hq => ?_⟩⟩
  · rcases List.mem_append.mp hq with h | h
    · exact keep q (List.mem_append_left _ h)
    · rcases List.mem_append.mp h with h | h
      · exact kP_iff.mp hP1 q h
      · exact keep q (List.mem_append_right _ h)
  · rw [List.map_append, List.map_append]
    refine List.nodup_append.mpr ⟨n0, List.nodup_append.mpr ⟨hN1, n2, ?_⟩, ?_⟩
    · intro a ha b hb e
      obtain ⟨qa, h1, rfl⟩ := List.mem_map.mp ha
      obtain ⟨qb, h2, rfl⟩ := List.mem_map.mp hb
      exact apart qb (List.mem_append_right _ h2) (by rw [← e]; exact hA1 qa h1)
    · intro a ha b hb e
      obtain ⟨qa, h1, rfl⟩ := List.mem_map.mp ha
      rcases List.mem_append.mp hb with hb | hb
      · obtain ⟨qb, h2, rfl⟩ := List.mem_map.mp hb
        exact apart qa (List.mem_append_left _ h1) (by rw [e]; exact hA1 qb h2)
      · exact d0 qa.1 ha b (List.mem_append_right _ hb) e
  · rcases List.mem_append.mp hq with h | h
    · exact hA q (List.mem_append_left _ h)
    · rcases List.mem_append.mp h with h | h
      · exact hf _ (hA1 q h)
      · exact hA q (List.mem_append_right _ (List.mem_append_right _ h))
/-- a row's values beyond its length don't matter -/
theorem kb_row {k a n : Nat} {c : ClassId} {f g : Nat → Int32} (hP : va_P D cl ws H) (hD : va_D A ws) (hk : ws[k]? = some (a, .inl (c, n, .inl f))) (h : ∀ j, j < n → f j = g j) : va_P D cl (ws.set k (a, .inl (c, n, .inl g))) H ∧ va_D A (ws.set k (a, .inl (c, n, .inl g))) := by
  refine ⟨hP.set hD hk ?_ (fun _ _ => rfl), hD.set hk⟩
  have h0 : H[a]? = some (vp_cell c (n, .inl f)) := hP k _ hk
  show H[a]? = some (vp_cell c (n, .inl g))
  rw [h0, vp_cell_i, vp_cell_i]
  congr 1
  simp only [arrV]
  congr 1
  apply Array.ext
  · simp
  · intro i h1 h2
    simp at h1
    simp [h i h1]
end KB
theorem sp0 (wc : va_W) : wc = [] ++ (wc ++ []) := by simp
theorem spE (w : va_W) : w = w ++ ([] ++ []) := by simp
theorem sp1 (a b c : va_W) : a ++ (b ++ c) = a ++ (b ++ c) := rfl
theorem sp3 (a b c : va_W) : a ++ (b ++ c) = a ++ ((b ++ c) ++ []) := by simp
theorem sp2 (a b c : va_W) : a ++ (b ++ c) = (a ++ b) ++ (c ++ []) := by simp
-- contracts with one given answer v and one given end of the world
def pw (D : va_G) (tys : List (ClassId × FieldType)) (wc : va_W) (sz : Nat) (U : State) : Prop := U.heap.size = sz ∧ va_P D vwCl wc U.heap ∧ va_K D vwCl tys U ∧ va_D (fun _ => True) wc
def qv (D : va_G) (tys : List (ClassId × FieldType)) (A : Nat → Prop) (wc' : va_W) (v : Option Value) : Array Value → State → Outcome → State → Prop := fun _ st o t => (o = .returned v ∧ va_P D vwCl wc' t.heap ∧ va_K D vwCl tys t ∧ va_D A wc') ∧ va_F A st t
def MC (l : Launch) (y : MethodName) (c : ByteArray) (n : Nat) (r : Option FieldType) (rm : Room) (D : va_G) (tys : List (ClassId × FieldType)) (av : List Value) (wc wc' : va_W) (v : Option Value) : Prop := ∀ sz, Met l y (wL y c n r) rm (va_Pc av (pw D tys wc sz)) (qv D tys (va_A wc sz) wc' v) rm.cells rm.slots (va_A wc sz)
theorem pw_blind {D : va_G} {tys : List (ClassId × FieldType)} {av : List Value} {wc : va_W} {sz : Nat} : FrameBlind (va_Pc av (pw D tys wc sz)) := fun a U g mk q => by
  obtain ⟨q0, q1, qP, qK, qD⟩ := q
  exact ⟨q0, q1, qP, va_K.moved (u := U) (U := U.calling g mk a) (Vm.Alike.refl U.vm) qK, qD⟩
section KC
variable {p : Program} {l : Launch} {e : Env} {R : Room} {s : State} {m : MethodId} {args : Array Value} {below : List Frame} {meth : Method} {c : Code} {H : Heap} {locs : List Loc} {cells slots : Nat} {Q : State → Prop}
variable {D : va_G} {tys : List (ClassId × FieldType)} {A A0 : Nat → Prop} {H0 : Heap} {pc : Nat} {ls : Array Slot} {rest st0 : List Value} {cc : ByteArray}
theorem MC.of {y : MethodName} {rm : Room} {av : List Value} {wc wc' : va_W} {v : Option Value} {maxL : Nat} {ret : Option FieldType}
    (hy : plainName y.cls = true) (hlen : (lg_sl av).length ≤ maxL)
    (body : ∀ (p : Program) (e : Env) (s : State) (m : MethodId) (args : Array Value) (below : List Frame) (meth : Method) (c : Code) (A : Nat → Prop) (ls : Array Slot) (Q : State → Prop),
      p.tables.exec = Jvm.exec → c.code = cc → c.maxLocals = maxL → meth.sig.returnType = ret → (∀ w ∈ LW, w.before args s = true) → s.vm.findClass y.cls = some m.cls → meth.locks = false →
      (∀ q : Nat, s.heap.size ≤ q → A q) → va_P D vwCl wc s.heap → va_D A wc → va_K D vwCl tys s → va_S A s.heap s.heap [] → lv_has ls maxL (lv_args 0 av) → Q = MQ below (qv D tys A wc' v) args s rm.cells rm.slots A →
      W p l e rm s m args below meth c s.heap [] 0 0 Q (F0 m 0 ls [])) : MC l y cc maxL ret rm D tys av wc wc' v := by
  intro sz
  refine Met.ofW (cc := cc) (maxL := maxL) (ret := ret) hy rfl ?_
  intro p e s m args below meth c s₁ B hml hv
  obtain ⟨rfl, hsz, hP, hK, hD0⟩ := hv
  subst hsz
  rw [lg_entry_eq]
  exact body p e s m av.toArray below meth c (va_A wc s.heap.size) _ _ B.exec B.bytes hml B.returns (fun w h => atoms_spec (ws := wL y cc maxL ret) B.pre w (List.mem_cons_of_mem _ h)) (findClass_of_methodNamed B.named) B.notSynchronized (fun q h => Or.inr h) hP hD0.self hK va_S.rf (lv_entry av hlen) rfl
theorem gV {own : String} {idx n : Nat} {C : String} {y : MethodName} {bt : ByteArray} {r : Option FieldType} (h1 : Cond.methodLink own idx y ∈ LW) (h2 : Cond.instanceMethod y ∈ LW ∧ Cond.selects C y y ∈ LW ∧ Cond.initialized C ∈ LW ∧ Cond.code y bt n r ∈ LW) : GoodIn LW (wsV own idx C y (wL y bt n r)) := by
  intro w hw
  refine LW_good w ?_
  obtain ⟨h3, h4, h5, h6⟩ := h2
  simp only [wsV, wL, List.mem_append, List.mem_cons, List.not_mem_nil, or_false] at hw
  rcases hw with (rfl | rfl | rfl | rfl) | (rfl | h) <;> assumption
theorem gS {own : String} {idx n : Nat} {y : MethodName} {bt : ByteArray} {r : Option FieldType} (h1 : Cond.methodLink own idx y ∈ LW) (h2 : Cond.static y ∈ LW ∧ Cond.initialized y.cls ∈ LW ∧ Cond.code y bt n r ∈ LW) : GoodIn LW (va_wsS own idx y (wL y bt n r)) := by
  intro w hw
  refine LW_good w ?_
  obtain ⟨h3, h4, h5⟩ := h2
  simp only [va_wsS, wL, List.mem_append, List.mem_cons, List.not_mem_nil, or_false] at hw
  rcases hw with (rfl | rfl | rfl) | (rfl | h) <;> assumption
theorem x_top {x y : Int32} (h : x = y) (k : W p l e R s m args below meth c H locs cells slots Q (F0 m pc ls (.int y :: rest))) : W p l e R s m args below meth c H locs cells slots Q (F0 m pc ls (.int x :: rest)) := by rw [h]; exact k
/-- what a call of such a method does -/
theorem run_go {wc wc' w0 w2 wA wB : va_W} {v : Option Value} {mc ms : Nat} {a : Array Value}
    (hr : va_Run p l e R s m args below meth c H locs cells slots mc ms (F0 m pc ls st0) rest (qv D tys (va_A wc H.size) wc' v a) (va_A wc H.size))
    (hP : va_P D vwCl wA H) (hD : va_D A0 wA) (hS : va_S A0 H0 H locs) (hA : ∀ q, H0.size ≤ q → A0 q) (hsp : wA = w0 ++ (wc ++ w2)) (hsp' : wB = w0 ++ (wc' ++ w2))
    (kk : ∀ (H1 : Heap) (locs1 : List Loc), va_P D vwCl wB H1 → va_D A0 wB → va_S A0 H0 H1 locs1 → W p l e R s m args below meth c H1 locs1 (cells + mc) (slots + ms) Q (F0 m (pc + 3) ls (v.toList ++ rest))) :
    W p l e R s m args below meth c H locs cells slots Q (F0 m pc ls st0) := by
  subst hsp
  subst hsp'
  have hf := kb_free hD hS hA
  intro T hT X
  obtain ⟨v', st₀, t, T', L, h0, X', hL, e1, e2, ⟨⟨hv, hP1, hK1, hD1⟩, hz, hk⟩, st⟩ := hr T hT X
  cases hv
  rw [h0] at hz hk
  rw [← e1] at hP1 hz hk
  obtain ⟨j1, j2⟩ := kb_join hP hD hk hP1 hD1 hf
  obtain ⟨t2, a1, b1⟩ := kk T'.heap (locs ++ L) j1 j2
    ⟨Nat.le_trans hS.1 hz, fun q h1 h2 => by rw [hk q (Nat.lt_of_lt_of_le h1 hS.1) (fun z => h2 (hf q z))]; exact hS.2.1 q h1 h2, fun q hq => by
      rcases List.mem_append.mp hq with h | h
      · exact hS.2.2 q h
      · exact hf _ (hL q h)⟩ T' rfl X'
  exact ⟨t2, st t2 a1, b1⟩
theorem MC.callV {own C : String} {T : u_T} {N ci q0 nL n index maxL : Nat} {bytes : ByteArray} {ret : Option FieldType} {y : MethodName} {rm : Room} {As : List Value} {b : Nat} {fs : List Value} {wc wc' w0 w2 wA wB : va_W} {v : Option Value}
    (hM : MC l y bytes maxL ret rm D tys (.ref b :: As) wc wc' v) (S : CallFix p m c cc nL s args LW own) (hw1 : Cond.methodLink own index y ∈ LW) (hw2 : Cond.instanceMethod y ∈ LW ∧ Cond.selects C y y ∈ LW ∧ Cond.initialized C ∈ LW ∧ Cond.code y bytes maxL ret ∈ LW)
    (hd : y.cls = C ∧ y.cls ≠ "java/lang/invoke/MethodHandle" ∧ y.cls ≠ "java/lang/invoke/VarHandle" ∧ (parseMethodDescriptor y.desc).map (fun d => d.parameters.length) = some n) (hR : rm.frames + 1 ≤ R.frames ∧ 8 + (maxL + 11) + rm.locals ≤ R.locals)
    (hK : va_K D vwCl tys s) (hP : va_P D vwCl wA H) (hD : va_D A0 wA) (hS : va_S A0 H0 H locs) (hA : ∀ q, H0.size ≤ q → A0 q) (hsp : wA = w0 ++ (wc ++ w2)) (hsp' : wB = w0 ++ (wc' ++ w2))
    (hci : vwCl[ci]? = some (C, T, N)) (hrec : wA[q0]? = some (b, .inr (ci, fs))) (hn : As.length = n) (hls : ls.size = nL) (hst : st0 = As.reverse ++ .ref b :: rest) (hroom : (rest.map fun v => v.category).sum ≤ 8)
    (hdg : decode cc pc = .ok (.invokevirtual index, 3)) (hf : cells + rm.cells ≤ R.cells ∧ slots + rm.slots ≤ R.slots)
    (kk : ∀ (H1 : Heap) (locs1 : List Loc), va_P D vwCl wB H1 → va_D A0 wB → va_S A0 H0 H1 locs1 → W p l e R s m args below meth c H1 locs1 (cells + rm.cells) (slots + rm.slots) Q (F0 m (pc + 3) ls (v.toList ++ rest))) :
    W p l e R s m args below meth c H locs cells slots Q (F0 m pc ls st0) := by
  have hPc : va_P D vwCl wc H := kb_sub (by rw [← hsp]; exact hP)
  have hDc : va_D (fun _ => True) wc := kb_subD (by rw [← hsp]; exact hD)
  exact run_go (va_runV S (hM H.size) (cwV n S.2.2.2.2 (gV hw1 hw2) rfl rfl rfl hd hR) ⟨pw_blind, va_recv hK hP hci hrec, fun U hU hW => ⟨rfl, by rw [hU], by rw [hU]; exact hPc, va_K.moved hW.alike hK, hDc⟩⟩ rfl hn hls hst (lv_room hroom) hdg hf) hP hD hS hA hsp hsp' kk
theorem MC.callS {own : String} {nL n index maxL : Nat} {bytes : ByteArray} {ret : Option FieldType} {y : MethodName} {rm : Room} {As : List Value} {wc wc' w0 w2 wA wB : va_W} {v : Option Value}
    (hM : MC l y bytes maxL ret rm D tys As wc wc' v) (S : CallFix p m c cc nL s args LW own) (hw1 : Cond.methodLink own index y ∈ LW) (hw2 : Cond.static y ∈ LW ∧ Cond.initialized y.cls ∈ LW ∧ Cond.code y bytes maxL ret ∈ LW)
    (hd : y.cls ≠ "java/lang/invoke/MethodHandle" ∧ y.cls ≠ "java/lang/invoke/VarHandle" ∧ (parseMethodDescriptor y.desc).map (fun d => d.parameters.length) = some n) (hR : rm.frames + 1 ≤ R.frames ∧ 8 + (maxL + 11) + rm.locals ≤ R.locals)
    (hK : va_K D vwCl tys s) (hP : va_P D vwCl wA H) (hD : va_D A0 wA) (hS : va_S A0 H0 H locs) (hA : ∀ q, H0.size ≤ q → A0 q) (hsp : wA = w0 ++ (wc ++ w2)) (hsp' : wB = w0 ++ (wc' ++ w2))
    (hn : As.length = n) (hls : ls.size = nL) (hst : st0 = As.reverse ++ rest) (hroom : (rest.map fun v => v.category).sum ≤ 8)
    (hdg : decode cc pc = .ok (.invokestatic index, 3)) (hf : cells + rm.cells ≤ R.cells ∧ slots + rm.slots ≤ R.slots)
    (kk : ∀ (H1 : Heap) (locs1 : List Loc), va_P D vwCl wB H1 → va_D A0 wB → va_S A0 H0 H1 locs1 → W p l e R s m args below meth c H1 locs1 (cells + rm.cells) (slots + rm.slots) Q (F0 m (pc + 3) ls (v.toList ++ rest))) :
    W p l e R s m args below meth c H locs cells slots Q (F0 m pc ls st0) := by
  have hPc : va_P D vwCl wc H := kb_sub (by rw [← hsp]; exact hP)
  have hDc : va_D (fun _ => True) wc := kb_subD (by rw [← hsp]; exact hD)
  exact run_go (va_runS S (hM H.size) (va_cwS n S.2.2.2.2 (gS hw1 hw2) rfl rfl rfl hd hR) ⟨pw_blind, fun U hU hW => ⟨rfl, by rw [hU], by rw [hU]; exact hPc, va_K.moved hW.alike hK, hDc⟩⟩ rfl hn hls hst (lv_room hroom) hdg hf) hP hD hS hA hsp hsp' kk
-- the ends
theorem ri {wc wc' : va_W} {v r : Int32} (hx : p.tables.exec = Jvm.exec) (hb : c.code = cc) (hr : meth.sig.returnType = some .int) (hlocks : meth.locks = false) (hK : va_K D vwCl tys s) (hP : va_P D vwCl wc H) (hD : va_D A wc) (hS : va_S A s.heap H locs) (hdg : decode cc pc = .ok (.ireturn, 1)) (hw : wc = wc') (hv : v = r) :
    W p l e R s m args below meth c H locs cells slots (MQ below (qv D tys A wc' (some (.int r))) args s cells slots A) (F0 m pc ls [.int v]) := by
  subst hw; subst hv
  exact W.iret hx hb hr (fun t ht hW => ⟨⟨rfl, by rw [ht]; exact hP, va_K.moved hW.alike hK, hD⟩, hS.F ht⟩) hS.2.2 hdg hlocks
theorem rz {wc wc' : va_W} {v r : Int32} (hx : p.tables.exec = Jvm.exec) (hb : c.code = cc) (hr : meth.sig.returnType = some .boolean) (hlocks : meth.locks = false) (hK : va_K D vwCl tys s) (hP : va_P D vwCl wc H) (hD : va_D A wc) (hS : va_S A s.heap H locs) (hdg : decode cc pc = .ok (.ireturn, 1)) (h01 : v = 0 ∨ v = 1) (hw : wc = wc') (hv : v = r) :
    W p l e R s m args below meth c H locs cells slots (MQ below (qv D tys A wc' (some (.int r))) args s cells slots A) (F0 m pc ls [.int v]) := by
  subst hw; subst hv
  exact W.zret hx hb hr (by rcases h01 with rfl | rfl <;> rfl) (fun t ht hW => ⟨⟨rfl, by rw [ht]; exact hP, va_K.moved hW.alike hK, hD⟩, hS.F ht⟩) hS.2.2 hdg hlocks
theorem rv {wc wc' : va_W} (hx : p.tables.exec = Jvm.exec) (hb : c.code = cc) (hr : meth.sig.returnType = none) (hlocks : meth.locks = false) (hK : va_K D vwCl tys s) (hP : va_P D vwCl wc H) (hD : va_D A wc) (hS : va_S A s.heap H locs) (hdg : decode cc pc = .ok (.return_, 1)) (hw : wc = wc') :
    W p l e R s m args below meth c H locs cells slots (MQ below (qv D tys A wc' none) args s cells slots A) (F0 m pc ls []) := by
  subst hw
  exact W.vret hx hb hr (fun t ht hW => ⟨⟨rfl, by rw [ht]; exact hP, va_K.moved hW.alike hK, hD⟩, hS.F ht⟩) hS.2.2 hdg hlocks
theorem rl {wc wc' : va_W} {v r : Int64} (hx : p.tables.exec = Jvm.exec) (hb : c.code = cc) (hr : meth.sig.returnType = some .long) (hlocks : meth.locks = false) (hK : va_K D vwCl tys s) (hP : va_P D vwCl wc H) (hD : va_D A wc) (hS : va_S A s.heap H locs) (hdg : decode cc pc = .ok (.lreturn, 1)) (hw : wc = wc') (hv : v = r) :
    W p l e R s m args below meth c H locs cells slots (MQ below (qv D tys A wc' (some (.long r))) args s cells slots A) (F0 m pc ls [.long v]) := by
  subst hw; subst hv
  exact W.lret hx hb hr (fun t ht hW => ⟨⟨rfl, by rw [ht]; exact hP, va_K.moved hW.alike hK, hD⟩, hS.F ht⟩) hS.2.2 hdg hlocks
-- arrays with an index that is a natural number
variable {cl : List vw_C} {ws ws2 : va_W} {a : Nat} {cA : ClassId} {n : Nat} {f : Nat → Int32} {i x v : Int32}
theorem x_ild (hx : p.tables.exec = Jvm.exec) (hb : c.code = cc) (hK : va_K D cl tys s) (hP : va_P D cl ws H) (q0 t0 : Nat) (ha : ws[q0]? = some (a, .inl (cA, n, .inl f))) (ht : tys[t0]? = some (cA, .int)) (j : Nat) (hi : i = nI j) (hj : j < n) (hn : n < 2 ^ 31) (hv : f j = v) (hdg : decode cc pc = .ok (.iaload, 1))
    (kk : W p l e R s m args below meth c H locs cells slots Q (F0 m (pc + 1) ls (.int v :: rest))) : W p l e R s m args below meth c H locs cells slots Q (F0 m pc ls (.int i :: .ref a :: rest)) := by
  subst hi
  refine va_iald hx hb hK hP q0 t0 ha ht (vp_in_nI hj hn) hdg ?_
  rw [nI_clamp (by omega), hv]
  exact kk
theorem x_zld (hx : p.tables.exec = Jvm.exec) (hb : c.code = cc) (hK : va_K D cl tys s) (hP : va_P D cl ws H) (q0 t0 : Nat) (ha : ws[q0]? = some (a, .inl (cA, n, .inl f))) (ht : tys[t0]? = some (cA, .boolean)) (j : Nat) (hi : i = nI j) (hj : j < n) (hn : n < 2 ^ 31) (hv : f j = v) (hdg : decode cc pc = .ok (.baload, 1))
    (kk : W p l e R s m args below meth c H locs cells slots Q (F0 m (pc + 1) ls (.int v :: rest))) : W p l e R s m args below meth c H locs cells slots Q (F0 m pc ls (.int i :: .ref a :: rest)) := by
  subst hi
  refine va_zald hx hb hK hP q0 t0 ha ht (vp_in_nI hj hn) hdg ?_
  rw [nI_clamp (by omega), hv]
  exact kk
theorem x_ist (hx : p.tables.exec = Jvm.exec) (hb : c.code = cc) (hK : va_K D cl tys s) (hP : va_P D cl ws H) (hD : va_D A ws) (hS : va_S A H0 H locs) (q0 t0 : Nat) (ha : ws[q0]? = some (a, .inl (cA, n, .inl f))) (ht : tys[t0]? = some (cA, .int)) (j : Nat) (hi : i = nI j) (hj : j < n) (hn : n < 2 ^ 31) (hw : ws.set q0 (a, .inl (cA, n, .inl (upd f j x))) = ws2) (hdg : decode cc pc = .ok (.iastore, 1))
    (kk : ∀ (H1 : Heap) (locs1 : List Loc), va_P D cl ws2 H1 → va_D A ws2 → va_S A H0 H1 locs1 → W p l e R s m args below meth c H1 locs1 cells slots Q (F0 m (pc + 1) ls rest)) : W p l e R s m args below meth c H locs cells slots Q (F0 m pc ls (.int x :: .int i :: .ref a :: rest)) := by
  subst hi; subst hw
  have hc : (nI j).toNatClampNeg = j := nI_clamp (by omega)
  refine va_iast hx hb hK hP hD hS q0 t0 ha ht (vp_in_nI hj hn) hdg (fun H1 locs1 h1 h2 h3 => ?_)
  rw [hc] at h1 h2
  exact kk H1 locs1 h1 h2 h3
theorem x_zst (hx : p.tables.exec = Jvm.exec) (hb : c.code = cc) (hK : va_K D cl tys s) (hP : va_P D cl ws H) (hD : va_D A ws) (hS : va_S A H0 H locs) (q0 t0 : Nat) (ha : ws[q0]? = some (a, .inl (cA, n, .inl f))) (ht : tys[t0]? = some (cA, .boolean)) (j : Nat) (hi : i = nI j) (hj : j < n) (hn : n < 2 ^ 31) (h01 : x = 0 ∨ x = 1) (hw : ws.set q0 (a, .inl (cA, n, .inl (upd f j x))) = ws2) (hdg : decode cc pc = .ok (.bastore, 1))
    (kk : ∀ (H1 : Heap) (locs1 : List Loc), va_P D cl ws2 H1 → va_D A ws2 → va_S A H0 H1 locs1 → W p l e R s m args below meth c H1 locs1 cells slots Q (F0 m (pc + 1) ls rest)) : W p l e R s m args below meth c H locs cells slots Q (F0 m pc ls (.int x :: .int i :: .ref a :: rest)) := by
  subst hi; subst hw
  have hc : (nI j).toNatClampNeg = j := nI_clamp (by omega)
  have hz : vp_nar .boolean x = x := by rcases h01 with rfl | rfl <;> rfl
  refine va_zast hx hb hK hP hD hS q0 t0 ha ht (vp_in_nI hj hn) hdg (fun H1 locs1 h1 h2 h3 => ?_)
  rw [hc, hz] at h1 h2
  exact kk H1 locs1 h1 h2 h3
-- fields
theorem x_get {own C : String} {T : u_T} {N ci index : Nat} (hx : p.tables.exec = Jvm.exec) (hb : c.code = cc) (hts : ∀ w ∈ LW, w.before args s = true) (hin : ∀ w ∈ u_ws C T N, w ∈ LW) (hown : s.vm.findClass own = some m.cls) (hK : va_K D cl tys s) (hP : va_P D cl ws H) (q0 : Nat) {fs : List Value} (he : ws[q0]? = some (a, .inr (ci, fs))) (hc : cl[ci]? = some (C, T, N)) (k : Nat) (hk : k < N) (hlink : Cond.fieldLink own index (T k).1 (T k).2.1 (T k).2.2.1 ∈ LW) {v : Value} (hv : fs[k]? = some v) (hdg : decode cc pc = .ok (.getfield index, 3))
    (kk : W p l e R s m args below meth c H locs cells slots Q (F0 m (pc + 3) ls (v :: rest))) : W p l e R s m args below meth c H locs cells slots Q (F0 m pc ls (.ref a :: rest)) :=
  va_get hx hb hts hin hown hK hP q0 he hc k hk (hts _ hlink) (fun _ h => h) hv hdg kk
theorem x_put {own C : String} {T : u_T} {N ci index : Nat} {ty0 : Nat → FieldType} (hx : p.tables.exec = Jvm.exec) (hb : c.code = cc) (hts : ∀ w ∈ LW, w.before args s = true) (hin : ∀ w ∈ u_ws C T N, w ∈ LW) (hty : ∀ k, k < N → parseFieldDescriptor (T k).2.2.1 = some (ty0 k)) (hnm : ∀ a, a < N → ∀ b, b < N → a ≠ b → (T a).2.1 ≠ (T b).2.1) (hown : s.vm.findClass own = some m.cls) (hK : va_K D cl tys s) (hP : va_P D cl ws H) (hD : va_D A ws) (hS : va_S A H0 H locs) (q0 : Nat) {fs : List Value} (he : ws[q0]? = some (a, .inr (ci, fs))) (hc : cl[ci]? = some (C, T, N)) (k : Nat) (hk : k < N) (hlink : Cond.fieldLink own index (T k).1 (T k).2.1 (T k).2.2.1 ∈ LW) (hfin : (T k).2.2.2 = false) {x : Int32} (hd : parseFieldDescriptor (T k).2.2.1 = some .int) (hl : k < fs.length) (hw : ws.set q0 (a, .inr (ci, fs.set k (.int x))) = ws2) (hdg : decode cc pc = .ok (.putfield index, 3))
    (kk : ∀ (H1 : Heap) (locs1 : List Loc), va_P D cl ws2 H1 → va_D A ws2 → va_S A H0 H1 locs1 → W p l e R s m args below meth c H1 locs1 cells slots Q (F0 m (pc + 3) ls rest)) : W p l e R s m args below meth c H locs cells slots Q (F0 m pc ls (.int x :: .ref a :: rest)) := by
  subst hw
  exact va_put hx hb hts hin ty0 hty hnm hown hK hP hD hS q0 he hc k hk (hts _ hlink) (fun _ h => h) hfin (ty := .int) hd rfl rfl hl hdg kk
end KC
end
section
-- PURE: the state as rows of numbers, and what an hour does to it
def mn (x y : Int32) : Int32 := if y < x then y else x
def ab (x : Int32) : Int32 := if 0 ≤ x then x else 0 - x
def it (b : Nat → Sg → Sg) : Nat → Sg → Sg
  | 0, σ => σ
  | n + 1, σ => b n (it b n σ)
def sumI (g : Nat → Int32) : Nat → Int32
  | 0 => 0
  | n + 1 => sumI g n + g n
abbrev tZ (cI cZ cL : ClassId) : List (ClassId × FieldType) := [(cI, .int), (cZ, .boolean), (cL, .long)]
/-- the cells of a Marsh -/
def mC (cI cZ : ClassId) (h : Nat) (a : Nat → Nat) (σ : Sg) : va_W :=
  [(h, .inr (0, [.ref (a 0), .ref (a 1), .ref (a 2), .ref (a 3), .ref (a 4), .ref (a 5), .ref (a 6), .ref (a 7), .ref (a 8), .ref (a 9), .ref (a 10), .int (σ 11 0), .int (σ 11 1), .int (σ 11 2), .int (σ 11 3), .int (σ 11 4)])),
   (a 0, .inl (cI, 10, .inl (σ 0))), (a 1, .inl (cI, 10, .inl (σ 1))), (a 2, .inl (cI, 10, .inl (σ 2))), (a 3, .inl (cI, 10, .inl (σ 3))), (a 4, .inl (cZ, 10, .inl (σ 4))), (a 5, .inl (cI, 16, .inl (σ 5))), (a 6, .inl (cI, 16, .inl (σ 6))), (a 7, .inl (cI, 16, .inl (σ 7))), (a 8, .inl (cI, 16, .inl (σ 8))), (a 9, .inl (cZ, 16, .inl (σ 9))), (a 10, .inl (cZ, 16, .inl (σ 10)))]
/-- the shape: n fields, k drains, and where they lead -/
def Shp (n k : Nat) (σ : Sg) : Prop := n ≤ 10 ∧ k ≤ 16 ∧ σ 11 0 = nI n ∧ σ 11 1 = nI k ∧ (∀ d, d < k → ∃ a, a < n ∧ σ 5 d = nI a) ∧ (∀ d, d < k → (σ 6 d = -1 ∧ ¬ σ 9 d = 0) ∨ ∃ b, b < n ∧ σ 6 d = nI b)
theorem Shp.f0 {n k : Nat} {σ : Sg} (h : Shp n k σ) : σ 11 0 = nI n := h.2.2.1
theorem Shp.f1 {n k : Nat} {σ : Sg} (h : Shp n k σ) : σ 11 1 = nI k := h.2.2.2.1
theorem Shp.of {n k : Nat} {σ τ : Sg} (h : Shp n k σ) (h0 : τ 11 0 = σ 11 0) (h1 : τ 11 1 = σ 11 1) (h5 : τ 5 = σ 5) (h6 : τ 6 = σ 6) (h9 : τ 9 = σ 9) : Shp n k τ := by
  unfold Shp
  rw [h0, h1, h5, h6, h9]
  exact h
theorem Shp.osu {n k : Nat} {σ : Sg} (h : Shp n k σ) (i j : Nat) (x : Int32) (h5 : ¬ i = 5) (h6 : ¬ i = 6) (h9 : ¬ i = 9) (h11 : ¬ i = 11) : Shp n k (su σ i j x) := by
  have e : ∀ r, ¬ i = r → su σ i j x r = σ r := fun r hr => by
    show cond (Nat.beq r i) _ _ = _
    rw [show Nat.beq r i = false from by
      cases h : Nat.beq r i
      · rfl
      · exact absurd (Nat.eq_of_beq_eq_true h).symm hr]
    rfl
  exact h.of (by rw [e 11 h11]) (by rw [e 11 h11]) (e 5 h5) (e 6 h6) (e 9 h9)
theorem Shp.osc {n k : Nat} {σ : Sg} (h : Shp n k σ) (j : Nat) (x : Int32) (h0 : ¬ j = 0) (h1 : ¬ j = 1) : Shp n k (sc σ j x) := by
  have e : ∀ r, ¬ j = r → sc σ j x 11 r = σ 11 r := fun r hr => by
    show cond (Nat.beq r j) _ _ = _
    rw [show Nat.beq r j = false from by
      cases h : Nat.beq r j
      · rfl
      · exact absurd (Nat.eq_of_beq_eq_true h).symm hr]
    rfl
  exact h.of (e 0 h0) (e 1 h1) rfl rfl rfl
theorem Shp.iter {n k : Nat} {b : Nat → Sg → Sg} {σ : Sg} (h : Shp n k σ) (hb : ∀ i σ, Shp n k σ → Shp n k (b i σ)) (t : Nat) : Shp n k (it b t σ) := by
  induction t with
  | zero => exact h
  | succ t ih => exact hb t _ ih
def hasF (i : Nat) (σ : Sg) (x : Int32) : Int32 := if 0 ≤ x then (if x < σ 11 i then 1 else 0) else 0
theorem hasF_0 {n k j : Nat} {σ : Sg} (h : Shp n k σ) (hj : j < n) : hasF 0 σ (nI j) = 1 := by
  have := h.1
  unfold hasF
  rw [h.f0, if_pos (nI_pos' (by omega)), if_pos (nI_lt hj (by omega))]
theorem hasF_1 {n k j : Nat} {σ : Sg} (h : Shp n k σ) (hj : j < k) : hasF 1 σ (nI j) = 1 := by
  have := h.2.1
  unfold hasF
  rw [h.f1, if_pos (nI_pos' (by omega)), if_pos (nI_lt hj (by omega))]
/-- a field is there just if it is a number below n -/
theorem hasF_iff {i n : Nat} {σ : Sg} (h : σ 11 i = nI n) (hn : n < 2 ^ 31) (x : Int32) : (hasF i σ x = 0 ∧ ∀ j, j < n → x ≠ nI j) ∨ (hasF i σ x = 1 ∧ ∃ j, j < n ∧ x = nI j) := by
  unfold hasF
  rw [h]
  by_cases h0 : 0 ≤ x
  · obtain ⟨j, hj, rfl⟩ := nI_of (x := x) (fun z => Int32.not_le.mpr z h0)
    rw [if_pos h0]
    by_cases h1 : j < n
    · rw [if_pos (nI_lt h1 hn)]
      exact Or.inr ⟨rfl, j, h1, rfl⟩
    · rw [if_neg (nI_nlt (by omega) hj)]
      refine Or.inl ⟨rfl, fun i hi e => ?_⟩
      have := (nI_eq hj (by omega)).mp e
      omega
  · rw [if_neg h0]
    refine Or.inl ⟨rfl, fun j hj e => h0 ?_⟩
    rw [e]
    exact nI_pos' (by omega)
def addW (σ : Sg) (f : Nat) (x : Int32) : Sg := su σ 2 f (σ 2 f + x)
def rainB (f : Nat) (σ : Sg) : Sg := su σ 2 f (σ 2 f + σ 11 2)
def flH (σ : Sg) (a b : Nat) : Int32 := (σ 0 a + σ 2 a - σ 0 b - σ 2 b) / 2
def flA (σ : Sg) (d a b : Nat) : Int32 :=
  if σ 10 d = 0 then 0 else
  if ¬ σ 9 d = 0 then mn (σ 7 d) (σ 2 a) else
  if 0 ≤ flH σ a b then mn (flH σ a b) (mn (σ 7 d) (σ 2 a)) else -mn (-flH σ a b) (mn (σ 7 d) (σ 2 b))
/-- what a drain carries now -/
def flow (σ : Sg) (d : Nat) : Int32 := flA σ d (σ 5 d).toNatClampNeg (σ 6 d).toNatClampNeg
def letF (d : Nat) (w : Int32) (σ : Sg) : Sg := su (if σ 6 d = -1 then sc (addW σ (σ 5 d).toNatClampNeg (-w)) 3 (σ 11 3 + w) else addW (addW σ (σ 5 d).toNatClampNeg (-w)) (σ 6 d).toNatClampNeg w) 8 d (σ 8 d + ab w)
def carryB (d : Nat) (σ : Sg) : Sg := letF d (flow σ d) σ
def isW (σ : Sg) (j : Nat) : Int32 := if 4 ≤ σ 2 j then 1 else 0
def wv (σ : Sg) (f : Nat) : Int32 := if 4 ≤ σ 2 f then σ 3 f + 1 else 0
def wetB (f : Nat) (σ : Sg) : Sg := if 6 ≤ wv σ f then su (su σ 3 f (wv σ f)) 4 f 1 else su σ 3 f (wv σ f)
theorem wv_0 {σ : Sg} {j : Nat} (h : isW σ j = 0) : wv σ j = 0 := by
  unfold isW at h
  unfold wv
  by_cases h4 : 4 ≤ σ 2 j
  · rw [if_pos h4] at h; exact absurd h (by decide)
  · rw [if_neg h4]
theorem wv_1 {σ : Sg} {j : Nat} (h : ¬ isW σ j = 0) : wv σ j = σ 3 j + 1 := by
  unfold isW at h
  unfold wv
  by_cases h4 : 4 ≤ σ 2 j
  · rw [if_pos h4]
  · rw [if_neg h4] at h; exact absurd rfl h
def nF (σ : Sg) : Nat := (σ 11 0).toNatClampNeg
def nD (σ : Sg) : Nat := (σ 11 1).toNatClampNeg
def hour1 (σ : Sg) : Sg := it rainB (nF σ) σ
def hour2 (σ : Sg) : Sg := it carryB (nD σ) (hour1 σ)
def hour3 (σ : Sg) : Sg := it wetB (nF σ) (hour2 σ)
def hour (σ : Sg) : Sg := sc (hour3 σ) 4 (hour3 σ 11 4 + 1)
def hours (t : Nat) (σ : Sg) : Sg := it (fun _ => hour) t σ
def ruinN (σ : Sg) : Int32 := sumI (fun f => if σ 4 f = 0 then 0 else 1) (nF σ)
def lost (σ : Sg) : Int32 := sumI (fun f => if σ 4 f = 0 then 0 else σ 1 f) (nF σ)
def turnS (σ : Sg) (d : Nat) : Sg := su σ 10 d (if σ 10 d = 0 then 1 else 0)
def putF (n : Nat) (x y : Int32) (σ : Sg) : Sg := if 10 ≤ n then σ else sc (su (su σ 0 n x) 1 n y) 0 (nI (n + 1))
def putD (k : Nat) (x y z b : Int32) (σ : Sg) : Sg := if 16 ≤ k then σ else sc (su (su (su (su (su σ 5 k x) 6 k y) 7 k z) 9 k b) 10 k 1) 1 (nI (k + 1))
theorem Shp.aw {n k : Nat} {σ : Sg} (h : Shp n k σ) (f : Nat) (x : Int32) : Shp n k (addW σ f x) := h.osu 2 f _ (by decide) (by decide) (by decide) (by decide)
theorem Shp.rain {n k : Nat} (i : Nat) (σ : Sg) (h : Shp n k σ) : Shp n k (rainB i σ) := h.osu 2 i _ (by decide) (by decide) (by decide) (by decide)
theorem Shp.wet {n k : Nat} (i : Nat) (σ : Sg) (h : Shp n k σ) : Shp n k (wetB i σ) := by
  unfold wetB
  split
  · exact (h.osu 3 i _ (by decide) (by decide) (by decide) (by decide)).osu 4 i _ (by decide) (by decide) (by decide) (by decide)
  · exact h.osu 3 i _ (by decide) (by decide) (by decide) (by decide)
theorem Shp.let {n k : Nat} (i : Nat) (w : Int32) (σ : Sg) (h : Shp n k σ) : Shp n k (letF i w σ) := by
  unfold letF
  refine Shp.osu ?_ 8 i _ (by decide) (by decide) (by decide) (by decide)
  split
  · exact (h.aw _ _).osc 3 _ (by decide) (by decide)
  · exact (h.aw _ _).aw _ _
theorem Shp.carry {n k : Nat} (i : Nat) (σ : Sg) (h : Shp n k σ) : Shp n k (carryB i σ) := h.let i _ σ
theorem Shp.eF {n k : Nat} {σ : Sg} (h : Shp n k σ) : nF σ = n := by
  have := h.1
  unfold nF
  rw [h.f0, nI_clamp (by omega)]
theorem Shp.eD {n k : Nat} {σ : Sg} (h : Shp n k σ) : nD σ = k := by
  have := h.2.1
  unfold nD
  rw [h.f1, nI_clamp (by omega)]
theorem Shp.h1 {n k : Nat} {σ : Sg} (h : Shp n k σ) : Shp n k (hour1 σ) := h.iter Shp.rain _
theorem Shp.h2 {n k : Nat} {σ : Sg} (h : Shp n k σ) : Shp n k (hour2 σ) := h.h1.iter Shp.carry _
theorem Shp.h3 {n k : Nat} {σ : Sg} (h : Shp n k σ) : Shp n k (hour3 σ) := h.h2.iter Shp.wet _
theorem Shp.hr {n k : Nat} {σ : Sg} (h : Shp n k σ) : Shp n k (hour σ) := h.h3.osc 4 _ (by decide) (by decide)
theorem Shp.hrs {n k : Nat} {σ : Sg} (h : Shp n k σ) (t : Nat) : Shp n k (hours t σ) := h.iter (fun _ _ h => h.hr) t
end
section
abbrev rmX0_hasField : Room := { frames := 0, cells := 0, slots := 0, locals := 0 }
theorem b_X0_hasField : Cond.instanceMethod yX0_hasField ∈ LW ∧ Cond.selects RX0 yX0_hasField yX0_hasField ∈ LW ∧ Cond.initialized RX0 ∈ LW ∧ Cond.code yX0_hasField cX0_hasField 2 (some .boolean) ∈ LW := ⟨q168, q169, q39, q170⟩
set_option maxHeartbeats 4000000 in
set_option maxRecDepth 100000 in
theorem c_X0_hasField (l : Launch) (D : va_G) (cI cZ cL : ClassId) (h : Nat) (a : Nat → Nat) (σ : Sg) (x r : Int32) (hrr : hasF 0 σ x = r) : MC l yX0_hasField cX0_hasField 2 (some .boolean) rmX0_hasField D (tZ cI cZ cL) [.ref h, .int x] (mC cI cZ h a σ) (mC cI cZ h a σ) (some (.int r)) := by
  refine MC.of (by decide) (Nat.le_of_ble_eq_true rfl) ?_
  intro p e s m args below meth c A ls Q hx hb hml hr hts hown hlocks hA hP hD hK hS hl hQ
  have hown : s.vm.findClass RX0 = some m.cls := hown
  have hl : lv_has ls 2 [(0, .ref h), (1, .int x)] := hl
  refine lv_iload_n hx hb dX0_hasField_0 rfl (lv_at hl 1 rfl) ?_
  refine lv_if_lt (tgt := 16) hx hb dX0_hasField_1 (by decide) (fun c_1 => ?_) (fun c_1 => ?_)
  · refine lv_iconst (v := 0) hx hb dX0_hasField_16 (by decide) ?_
    subst hQ
    exact rz hx hb hr hlocks hK hP hD hS dX0_hasField_17 (by decide) (rfl) (by rw [← hrr]; unfold hasF; rw [if_neg (Int32.not_le.mpr c_1)])
  · refine lv_iload_n hx hb dX0_hasField_4 rfl (lv_at hl 1 rfl) ?_
    refine lv_aload_n hx hb dX0_hasField_5 rfl (lv_at hl 0 rfl) ?_
    refine x_get (C := RX0) (T := TX0) (N := 16) hx hb hts in_wsX00 hown hK hP 0 rfl rfl 11 (by decide) q83 (v := .int (σ 11 0)) rfl dX0_hasField_6 ?_
    refine lv_icmp_ge (tgt := 16) hx hb dX0_hasField_9 (by decide) (fun c_9 => ?_) (fun c_9 => ?_)
    · refine lv_iconst (v := 0) hx hb dX0_hasField_16 (by decide) ?_
      subst hQ
      exact rz hx hb hr hlocks hK hP hD hS dX0_hasField_17 (by decide) (rfl) (by rw [← hrr]; unfold hasF; rw [if_pos (Int32.not_lt.mp c_1), if_neg (Int32.not_lt.mpr c_9)])
    · refine lv_iconst (v := 1) hx hb dX0_hasField_12 (by decide) ?_
      refine lv_goto (tgt := 17) hx hb dX0_hasField_13 (by decide) ?_
      subst hQ
      exact rz hx hb hr hlocks hK hP hD hS dX0_hasField_17 (by decide) (rfl) (by rw [← hrr]; unfold hasF; rw [if_pos (Int32.not_lt.mp c_1), if_pos (Int32.not_le.mp c_9)])

abbrev rmX0_hasDrain : Room := { frames := 0, cells := 0, slots := 0, locals := 0 }
theorem b_X0_hasDrain : Cond.instanceMethod yX0_hasDrain ∈ LW ∧ Cond.selects RX0 yX0_hasDrain yX0_hasDrain ∈ LW ∧ Cond.initialized RX0 ∈ LW ∧ Cond.code yX0_hasDrain cX0_hasDrain 2 (some .boolean) ∈ LW := ⟨q220, q221, q39, q222⟩
set_option maxHeartbeats 4000000 in
set_option maxRecDepth 100000 in
theorem c_X0_hasDrain (l : Launch) (D : va_G) (cI cZ cL : ClassId) (h : Nat) (a : Nat → Nat) (σ : Sg) (x r : Int32) (hrr : hasF 1 σ x = r) : MC l yX0_hasDrain cX0_hasDrain 2 (some .boolean) rmX0_hasDrain D (tZ cI cZ cL) [.ref h, .int x] (mC cI cZ h a σ) (mC cI cZ h a σ) (some (.int r)) := by
  refine MC.of (by decide) (Nat.le_of_ble_eq_true rfl) ?_
  intro p e s m args below meth c A ls Q hx hb hml hr hts hown hlocks hA hP hD hK hS hl hQ
  have hown : s.vm.findClass RX0 = some m.cls := hown
  have hl : lv_has ls 2 [(0, .ref h), (1, .int x)] := hl
  refine lv_iload_n hx hb dX0_hasDrain_0 rfl (lv_at hl 1 rfl) ?_
  refine lv_if_lt (tgt := 16) hx hb dX0_hasDrain_1 (by decide) (fun c_1 => ?_) (fun c_1 => ?_)
  · refine lv_iconst (v := 0) hx hb dX0_hasDrain_16 (by decide) ?_
    subst hQ
    exact rz hx hb hr hlocks hK hP hD hS dX0_hasDrain_17 (by decide) (rfl) (by rw [← hrr]; unfold hasF; rw [if_neg (Int32.not_le.mpr c_1)])
  · refine lv_iload_n hx hb dX0_hasDrain_4 rfl (lv_at hl 1 rfl) ?_
    refine lv_aload_n hx hb dX0_hasDrain_5 rfl (lv_at hl 0 rfl) ?_
    refine x_get (C := RX0) (T := TX0) (N := 16) hx hb hts in_wsX00 hown hK hP 0 rfl rfl 12 (by decide) q85 (v := .int (σ 11 1)) rfl dX0_hasDrain_6 ?_
    refine lv_icmp_ge (tgt := 16) hx hb dX0_hasDrain_9 (by decide) (fun c_9 => ?_) (fun c_9 => ?_)
    · refine lv_iconst (v := 0) hx hb dX0_hasDrain_16 (by decide) ?_
      subst hQ
      exact rz hx hb hr hlocks hK hP hD hS dX0_hasDrain_17 (by decide) (rfl) (by rw [← hrr]; unfold hasF; rw [if_pos (Int32.not_lt.mp c_1), if_neg (Int32.not_lt.mpr c_9)])
    · refine lv_iconst (v := 1) hx hb dX0_hasDrain_12 (by decide) ?_
      refine lv_goto (tgt := 17) hx hb dX0_hasDrain_13 (by decide) ?_
      subst hQ
      exact rz hx hb hr hlocks hK hP hD hS dX0_hasDrain_17 (by decide) (rfl) (by rw [← hrr]; unfold hasF; rw [if_pos (Int32.not_lt.mp c_1), if_pos (Int32.not_le.mp c_9)])

abbrev rmX0_putField : Room := { frames := 0, cells := 0, slots := 0, locals := 0 }
theorem b_X0_putField : Cond.instanceMethod yX0_putField ∈ LW ∧ Cond.selects RX0 yX0_putField yX0_putField ∈ LW ∧ Cond.initialized RX0 ∈ LW ∧ Cond.code yX0_putField cX0_putField 4 (some .int) ∈ LW := ⟨q449, q450, q39, q451⟩
set_option maxHeartbeats 4000000 in
set_option maxRecDepth 100000 in
theorem c_X0_putField (l : Launch) (D : va_G) (cI cZ cL : ClassId) {n k : Nat} (h : Nat) (a : Nat → Nat) (σ : Sg) (hst : Shp n k σ) (p0 p1 : Int32) : MC l yX0_putField cX0_putField 4 (some .int) rmX0_putField D (tZ cI cZ cL) [.ref h, .int p0, .int p1] (mC cI cZ h a σ) (mC cI cZ h a (putF n p0 p1 σ)) (some (.int (if 10 ≤ n then -1 else nI n))) := by
  refine MC.of (by decide) (Nat.le_of_ble_eq_true rfl) ?_
  intro p e s m args below meth c A ls Q hx hb hml hr hts hown hlocks hA hP hD hK hS hl hQ
  have hown : s.vm.findClass RX0 = some m.cls := hown
  have hn10 := hst.1
  have hk16 := hst.2.1
  have hl : lv_has ls 4 [(0, .ref h), (1, .int p0), (2, .int p1)] := hl
  refine lv_aload_n hx hb dX0_putField_0 rfl (lv_at hl 0 rfl) ?_
  refine x_get (C := RX0) (T := TX0) (N := 16) hx hb hts in_wsX00 hown hK hP 0 rfl rfl 11 (by decide) q83 (v := .int (nI n)) (congrArg (fun z => some (Value.int z)) (hst.f0)) dX0_putField_1 ?_
  refine lv_istore_n (lv' := [(3, .int (nI n)), (0, .ref h), (1, .int p0), (2, .int p1)]) hx hb dX0_putField_4 rfl hl (by decide) rfl (fun ls hl => ?_)
  refine lv_iload_n hx hb dX0_putField_5 rfl (lv_at hl 0 rfl) ?_
  refine lv_bipush (v := 10) hx hb dX0_putField_6 (by decide) ?_
  refine lv_icmp_lt (tgt := 13) hx hb dX0_putField_8 (by decide) (fun c_8 => ?_) (fun c_8 => ?_)
  · have hc_8 : n < 10 := (nI_ltI (a := n) (b := 10) (by omega) (by omega)).mp c_8
    refine lv_aload_n hx hb dX0_putField_13 rfl (lv_at hl 1 rfl) ?_
    refine x_get (C := RX0) (T := TX0) (N := 16) hx hb hts in_wsX00 hown hK hP 0 rfl rfl 0 (by decide) q64 (v := .ref (a 0)) rfl dX0_putField_14 ?_
    refine lv_iload_n hx hb dX0_putField_17 rfl (lv_at hl 0 rfl) ?_
    refine lv_iload_n hx hb dX0_putField_18 rfl (lv_at hl 2 rfl) ?_
    refine x_ist (ws2 := mC cI cZ h a (su σ 0 n p0)) hx hb hK hP hD hS 1 0 rfl rfl n (rfl) (by omega) (by decide) rfl dX0_putField_19 (fun H locs hP hD hS => ?_)
    refine lv_aload_n hx hb dX0_putField_20 rfl (lv_at hl 1 rfl) ?_
    refine x_get (C := RX0) (T := TX0) (N := 16) hx hb hts in_wsX00 hown hK hP 0 rfl rfl 1 (by decide) q65 (v := .ref (a 1)) rfl dX0_putField_21 ?_
    refine lv_iload_n hx hb dX0_putField_24 rfl (lv_at hl 0 rfl) ?_
    refine lv_iload_n hx hb dX0_putField_25 rfl (lv_at hl 3 rfl) ?_
    refine x_ist (ws2 := mC cI cZ h a (su (su σ 0 n p0) 1 n p1)) hx hb hK hP hD hS 2 0 rfl rfl n (rfl) (by omega) (by decide) rfl dX0_putField_26 (fun H locs hP hD hS => ?_)
    refine lv_aload_n hx hb dX0_putField_27 rfl (lv_at hl 1 rfl) ?_
    refine lv_iload_n hx hb dX0_putField_28 rfl (lv_at hl 0 rfl) ?_
    refine lv_iconst (v := 1) hx hb dX0_putField_29 (by decide) ?_
    refine lv_iadd hx hb dX0_putField_30 ?_
    refine x_top (nI_add n 1) ?_
    refine x_put (C := RX0) (T := TX0) (N := 16) (ws2 := mC cI cZ h a (sc (su (su σ 0 n p0) 1 n p1) 0 (nI (n + 1)))) hx hb hts in_wsX00 tyX0_ok nmX0 hown hK hP hD hS 0 rfl rfl 11 (by decide) q83 rfl (by decide +kernel) (Nat.le_of_ble_eq_true rfl) rfl dX0_putField_31 (fun H locs hP hD hS => ?_)
    refine lv_iload_n hx hb dX0_putField_34 rfl (lv_at hl 0 rfl) ?_
    subst hQ
    exact ri hx hb hr hlocks hK hP hD hS dX0_putField_35 (by unfold putF; rw [if_neg (by omega)]) (by rw [if_neg (by omega)])
  · have hc_8 : 10 ≤ n := Nat.not_lt.mp (fun z => c_8 ((nI_ltI (a := n) (b := 10) (by omega) (by omega)).mpr z))
    refine lv_iconst (v := (-1)) hx hb dX0_putField_11 (by decide) ?_
    subst hQ
    exact ri hx hb hr hlocks hK hP hD hS dX0_putField_12 (by unfold putF; rw [if_pos hc_8]) (by rw [if_pos hc_8])

abbrev rmX0_putDrain : Room := { frames := 0, cells := 0, slots := 0, locals := 0 }
theorem b_X0_putDrain : Cond.instanceMethod yX0_putDrain ∈ LW ∧ Cond.selects RX0 yX0_putDrain yX0_putDrain ∈ LW ∧ Cond.initialized RX0 ∈ LW ∧ Cond.code yX0_putDrain cX0_putDrain 6 (some .int) ∈ LW := ⟨q482, q483, q39, q484⟩
set_option maxHeartbeats 4000000 in
set_option maxRecDepth 100000 in
theorem c_X0_putDrain (l : Launch) (D : va_G) (cI cZ cL : ClassId) {n k : Nat} (h : Nat) (a : Nat → Nat) (σ : Sg) (hst : Shp n k σ) (p0 p1 p2 b : Int32) (hb01 : b = 0 ∨ b = 1) : MC l yX0_putDrain cX0_putDrain 6 (some .int) rmX0_putDrain D (tZ cI cZ cL) [.ref h, .int p0, .int p1, .int p2, .int b] (mC cI cZ h a σ) (mC cI cZ h a (putD k p0 p1 p2 b σ)) (some (.int (if 16 ≤ k then -1 else nI k))) := by
  refine MC.of (by decide) (Nat.le_of_ble_eq_true rfl) ?_
  intro p e s m args below meth c A ls Q hx hb hml hr hts hown hlocks hA hP hD hK hS hl hQ
  have hown : s.vm.findClass RX0 = some m.cls := hown
  have hn10 := hst.1
  have hk16 := hst.2.1
  have hl : lv_has ls 6 [(0, .ref h), (1, .int p0), (2, .int p1), (3, .int p2), (4, .int b)] := hl
  refine lv_aload_n hx hb dX0_putDrain_0 rfl (lv_at hl 0 rfl) ?_
  refine x_get (C := RX0) (T := TX0) (N := 16) hx hb hts in_wsX00 hown hK hP 0 rfl rfl 12 (by decide) q85 (v := .int (nI k)) (congrArg (fun z => some (Value.int z)) (hst.f1)) dX0_putDrain_1 ?_
  refine lv_istore (lv' := [(5, .int (nI k)), (0, .ref h), (1, .int p0), (2, .int p1), (3, .int p2), (4, .int b)]) hx hb dX0_putDrain_4 hl (by decide) rfl (fun ls hl => ?_)
  refine lv_iload hx hb dX0_putDrain_6 (lv_at hl 0 rfl) ?_
  refine lv_bipush (v := 16) hx hb dX0_putDrain_8 (by decide) ?_
  refine lv_icmp_lt (tgt := 15) hx hb dX0_putDrain_10 (by decide) (fun c_10 => ?_) (fun c_10 => ?_)
  · have hc_10 : k < 16 := (nI_ltI (a := k) (b := 16) (by omega) (by omega)).mp c_10
    refine lv_aload_n hx hb dX0_putDrain_15 rfl (lv_at hl 1 rfl) ?_
    refine x_get (C := RX0) (T := TX0) (N := 16) hx hb hts in_wsX00 hown hK hP 0 rfl rfl 5 (by decide) q72 (v := .ref (a 5)) rfl dX0_putDrain_16 ?_
    refine lv_iload hx hb dX0_putDrain_19 (lv_at hl 0 rfl) ?_
    refine lv_iload_n hx hb dX0_putDrain_21 rfl (lv_at hl 2 rfl) ?_
    refine x_ist (ws2 := mC cI cZ h a (su σ 5 k p0)) hx hb hK hP hD hS 6 0 rfl rfl k (rfl) (by omega) (by decide) rfl dX0_putDrain_22 (fun H locs hP hD hS => ?_)
    refine lv_aload_n hx hb dX0_putDrain_23 rfl (lv_at hl 1 rfl) ?_
    refine x_get (C := RX0) (T := TX0) (N := 16) hx hb hts in_wsX00 hown hK hP 0 rfl rfl 6 (by decide) q74 (v := .ref (a 6)) rfl dX0_putDrain_24 ?_
    refine lv_iload hx hb dX0_putDrain_27 (lv_at hl 0 rfl) ?_
    refine lv_iload_n hx hb dX0_putDrain_29 rfl (lv_at hl 3 rfl) ?_
    refine x_ist (ws2 := mC cI cZ h a (su (su σ 5 k p0) 6 k p1)) hx hb hK hP hD hS 7 0 rfl rfl k (rfl) (by omega) (by decide) rfl dX0_putDrain_30 (fun H locs hP hD hS => ?_)
    refine lv_aload_n hx hb dX0_putDrain_31 rfl (lv_at hl 1 rfl) ?_
    refine x_get (C := RX0) (T := TX0) (N := 16) hx hb hts in_wsX00 hown hK hP 0 rfl rfl 7 (by decide) q76 (v := .ref (a 7)) rfl dX0_putDrain_32 ?_
    refine lv_iload hx hb dX0_putDrain_35 (lv_at hl 0 rfl) ?_
    refine lv_iload_n hx hb dX0_putDrain_37 rfl (lv_at hl 4 rfl) ?_
    refine x_ist (ws2 := mC cI cZ h a (su (su (su σ 5 k p0) 6 k p1) 7 k p2)) hx hb hK hP hD hS 8 0 rfl rfl k (rfl) (by omega) (by decide) rfl dX0_putDrain_38 (fun H locs hP hD hS => ?_)
    refine lv_aload_n hx hb dX0_putDrain_39 rfl (lv_at hl 1 rfl) ?_
    refine x_get (C := RX0) (T := TX0) (N := 16) hx hb hts in_wsX00 hown hK hP 0 rfl rfl 9 (by decide) q79 (v := .ref (a 9)) rfl dX0_putDrain_40 ?_
    refine lv_iload hx hb dX0_putDrain_43 (lv_at hl 0 rfl) ?_
    refine lv_iload hx hb dX0_putDrain_45 (lv_at hl 5 rfl) ?_
    refine x_zst (ws2 := mC cI cZ h a (su (su (su (su σ 5 k p0) 6 k p1) 7 k p2) 9 k b)) hx hb hK hP hD hS 10 1 rfl rfl k (rfl) (by omega) (by decide) hb01 rfl dX0_putDrain_47 (fun H locs hP hD hS => ?_)
    refine lv_aload_n hx hb dX0_putDrain_48 rfl (lv_at hl 1 rfl) ?_
    refine x_get (C := RX0) (T := TX0) (N := 16) hx hb hts in_wsX00 hown hK hP 0 rfl rfl 10 (by decide) q81 (v := .ref (a 10)) rfl dX0_putDrain_49 ?_
    refine lv_iload hx hb dX0_putDrain_52 (lv_at hl 0 rfl) ?_
    refine lv_iconst (v := 1) hx hb dX0_putDrain_54 (by decide) ?_
    refine x_zst (ws2 := mC cI cZ h a (su (su (su (su (su σ 5 k p0) 6 k p1) 7 k p2) 9 k b) 10 k 1)) hx hb hK hP hD hS 11 1 rfl rfl k (rfl) (by omega) (by decide) (Or.inr rfl) rfl dX0_putDrain_55 (fun H locs hP hD hS => ?_)
    refine lv_aload_n hx hb dX0_putDrain_56 rfl (lv_at hl 1 rfl) ?_
    refine lv_iload hx hb dX0_putDrain_57 (lv_at hl 0 rfl) ?_
    refine lv_iconst (v := 1) hx hb dX0_putDrain_59 (by decide) ?_
    refine lv_iadd hx hb dX0_putDrain_60 ?_
    refine x_top (nI_add k 1) ?_
    refine x_put (C := RX0) (T := TX0) (N := 16) (ws2 := mC cI cZ h a (sc (su (su (su (su (su σ 5 k p0) 6 k p1) 7 k p2) 9 k b) 10 k 1) 1 (nI (k + 1)))) hx hb hts in_wsX00 tyX0_ok nmX0 hown hK hP hD hS 0 rfl rfl 12 (by decide) q85 rfl (by decide +kernel) (Nat.le_of_ble_eq_true rfl) rfl dX0_putDrain_61 (fun H locs hP hD hS => ?_)
    refine lv_iload hx hb dX0_putDrain_64 (lv_at hl 0 rfl) ?_
    subst hQ
    exact ri hx hb hr hlocks hK hP hD hS dX0_putDrain_66 (by unfold putD; rw [if_neg (by omega)]) (by rw [if_neg (by omega)])
  · have hc_10 : 16 ≤ k := Nat.not_lt.mp (fun z => c_10 ((nI_ltI (a := k) (b := 16) (by omega) (by omega)).mpr z))
    refine lv_iconst (v := (-1)) hx hb dX0_putDrain_13 (by decide) ?_
    subst hQ
    exact ri hx hb hr hlocks hK hP hD hS dX0_putDrain_14 (by unfold putD; rw [if_pos hc_10]) (by rw [if_pos hc_10])

abbrev rmX0_turnDrain : Room := { frames := 1, cells := 0, slots := 0, locals := 21 }
theorem b_X0_turnDrain : Cond.instanceMethod yX0_turnDrain ∈ LW ∧ Cond.selects RX0 yX0_turnDrain yX0_turnDrain ∈ LW ∧ Cond.initialized RX0 ∈ LW ∧ Cond.code yX0_turnDrain cX0_turnDrain 2 none ∈ LW := ⟨q243, q244, q39, q245⟩
set_option maxHeartbeats 4000000 in
set_option maxRecDepth 100000 in
theorem c_X0_turnDrain (l : Launch) (D : va_G) (cI cZ cL : ClassId) {n k : Nat} (h : Nat) (a : Nat → Nat) (σ : Sg) (hst : Shp n k σ) (j : Nat) (hj : j < k) : MC l yX0_turnDrain cX0_turnDrain 2 none rmX0_turnDrain D (tZ cI cZ cL) [.ref h, .int (nI j)] (mC cI cZ h a σ) (mC cI cZ h a (turnS σ j)) (none) := by
  refine MC.of (by decide) (Nat.le_of_ble_eq_true rfl) ?_
  intro p e s m args below meth c A ls Q hx hb hml hr hts hown hlocks hA hP hD hK hS hl hQ
  have hown : s.vm.findClass RX0 = some m.cls := hown
  have hn10 := hst.1
  have hk16 := hst.2.1
  have hl : lv_has ls 2 [(0, .ref h), (1, .int (nI j))] := hl
  refine lv_aload_n hx hb dX0_turnDrain_0 rfl (lv_at hl 0 rfl) ?_
  refine lv_iload_n hx hb dX0_turnDrain_1 rfl (lv_at hl 1 rfl) ?_
  refine MC.callV (C := RX0) (T := TX0) (N := 16) (As := [.int (nI j)]) (rest := []) (wB := mC cI cZ h a σ) (c_X0_hasDrain l D cI cZ cL h a σ (nI j) 1 (hasF_1 (hst) (hj))) ⟨hx, hb, hml, hown, hts⟩ q219 b_X0_hasDrain (n := 1) (by decide +kernel) ⟨Nat.le_of_ble_eq_true rfl, Nat.le_of_ble_eq_true rfl⟩ hK hP hD hS hA (sp0 _) (sp0 _) (ci := 0) rfl (q0 := 0) rfl rfl hl.1 rfl (Nat.le_of_ble_eq_true rfl) dX0_turnDrain_2 ⟨Nat.le_of_ble_eq_true rfl, Nat.le_of_ble_eq_true rfl⟩ (fun H locs hP hD hS => ?_)
  refine lv_if_eq (tgt := 28) hx hb dX0_turnDrain_5 (by decide) (fun z => absurd z (by decide)) (fun c_5 => ?_)
  refine lv_aload_n hx hb dX0_turnDrain_8 rfl (lv_at hl 0 rfl) ?_
  refine x_get (C := RX0) (T := TX0) (N := 16) hx hb hts in_wsX00 hown hK hP 0 rfl rfl 10 (by decide) q81 (v := .ref (a 10)) rfl dX0_turnDrain_9 ?_
  refine lv_iload_n hx hb dX0_turnDrain_12 rfl (lv_at hl 1 rfl) ?_
  refine lv_aload_n hx hb dX0_turnDrain_13 rfl (lv_at hl 0 rfl) ?_
  refine x_get (C := RX0) (T := TX0) (N := 16) hx hb hts in_wsX00 hown hK hP 0 rfl rfl 10 (by decide) q81 (v := .ref (a 10)) rfl dX0_turnDrain_14 ?_
  refine lv_iload_n hx hb dX0_turnDrain_17 rfl (lv_at hl 1 rfl) ?_
  refine x_zld hx hb hK hP 11 1 rfl rfl j (rfl) (by omega) (by decide) (v := σ 10 j) rfl dX0_turnDrain_18 ?_
  refine lv_if_ne (tgt := 26) hx hb dX0_turnDrain_19 (by decide) (fun c_19 => ?_) (fun c_19 => ?_)
  · refine lv_iconst (v := 0) hx hb dX0_turnDrain_26 (by decide) ?_
    refine x_zst (ws2 := mC cI cZ h a (su σ 10 j 0)) hx hb hK hP hD hS 11 1 rfl rfl j (rfl) (by omega) (by decide) (by decide) rfl dX0_turnDrain_27 (fun H locs hP hD hS => ?_)
    subst hQ
    exact rv hx hb hr hlocks hK hP hD hS dX0_turnDrain_28 (by unfold turnS; rw [if_neg c_19])
  · refine lv_iconst (v := 1) hx hb dX0_turnDrain_22 (by decide) ?_
    refine lv_goto (tgt := 27) hx hb dX0_turnDrain_23 (by decide) ?_
    refine x_zst (ws2 := mC cI cZ h a (su σ 10 j 1)) hx hb hK hP hD hS 11 1 rfl rfl j (rfl) (by omega) (by decide) (by decide) rfl dX0_turnDrain_27 (fun H locs hP hD hS => ?_)
    subst hQ
    exact rv hx hb hr hlocks hK hP hD hS dX0_turnDrain_28 (by unfold turnS; rw [if_pos c_19])

abbrev rmX0_letWaterIn : Room := { frames := 1, cells := 0, slots := 0, locals := 21 }
theorem b_X0_letWaterIn : Cond.instanceMethod yX0_letWaterIn ∈ LW ∧ Cond.selects RX0 yX0_letWaterIn yX0_letWaterIn ∈ LW ∧ Cond.initialized RX0 ∈ LW ∧ Cond.code yX0_letWaterIn cX0_letWaterIn 3 none ∈ LW := ⟨q231, q232, q39, q233⟩
set_option maxHeartbeats 4000000 in
set_option maxRecDepth 100000 in
theorem c_X0_letWaterIn (l : Launch) (D : va_G) (cI cZ cL : ClassId) {n k : Nat} (h : Nat) (a : Nat → Nat) (σ : Sg) (hst : Shp n k σ) (j : Nat) (hj : j < n) (x : Int32) : MC l yX0_letWaterIn cX0_letWaterIn 3 none rmX0_letWaterIn D (tZ cI cZ cL) [.ref h, .int (nI j), .int x] (mC cI cZ h a σ) (mC cI cZ h a (addW σ j x)) (none) := by
  refine MC.of (by decide) (Nat.le_of_ble_eq_true rfl) ?_
  intro p e s m args below meth c A ls Q hx hb hml hr hts hown hlocks hA hP hD hK hS hl hQ
  have hown : s.vm.findClass RX0 = some m.cls := hown
  have hn10 := hst.1
  have hk16 := hst.2.1
  have hl : lv_has ls 3 [(0, .ref h), (1, .int (nI j)), (2, .int x)] := hl
  refine lv_aload_n hx hb dX0_letWaterIn_0 rfl (lv_at hl 0 rfl) ?_
  refine lv_iload_n hx hb dX0_letWaterIn_1 rfl (lv_at hl 1 rfl) ?_
  refine MC.callV (C := RX0) (T := TX0) (N := 16) (As := [.int (nI j)]) (rest := []) (wB := mC cI cZ h a σ) (c_X0_hasField l D cI cZ cL h a σ (nI j) 1 (hasF_0 (hst) (hj))) ⟨hx, hb, hml, hown, hts⟩ q167 b_X0_hasField (n := 1) (by decide +kernel) ⟨Nat.le_of_ble_eq_true rfl, Nat.le_of_ble_eq_true rfl⟩ hK hP hD hS hA (sp0 _) (sp0 _) (ci := 0) rfl (q0 := 0) rfl rfl hl.1 rfl (Nat.le_of_ble_eq_true rfl) dX0_letWaterIn_2 ⟨Nat.le_of_ble_eq_true rfl, Nat.le_of_ble_eq_true rfl⟩ (fun H locs hP hD hS => ?_)
  refine lv_if_eq (tgt := 18) hx hb dX0_letWaterIn_5 (by decide) (fun z => absurd z (by decide)) (fun c_5 => ?_)
  refine lv_aload_n hx hb dX0_letWaterIn_8 rfl (lv_at hl 0 rfl) ?_
  refine x_get (C := RX0) (T := TX0) (N := 16) hx hb hts in_wsX00 hown hK hP 0 rfl rfl 2 (by decide) q66 (v := .ref (a 2)) rfl dX0_letWaterIn_9 ?_
  refine lv_iload_n hx hb dX0_letWaterIn_12 rfl (lv_at hl 1 rfl) ?_
  refine lv_dup2_11 hx hb dX0_letWaterIn_13 rfl rfl ?_
  refine x_ild hx hb hK hP 3 0 rfl rfl j (rfl) (by omega) (by decide) (v := σ 2 j) rfl dX0_letWaterIn_14 ?_
  refine lv_iload_n hx hb dX0_letWaterIn_15 rfl (lv_at hl 2 rfl) ?_
  refine lv_iadd hx hb dX0_letWaterIn_16 ?_
  refine x_ist (ws2 := mC cI cZ h a (su σ 2 j ((σ 2 j) + x))) hx hb hK hP hD hS 3 0 rfl rfl j (rfl) (by omega) (by decide) rfl dX0_letWaterIn_17 (fun H locs hP hD hS => ?_)
  subst hQ
  exact rv hx hb hr hlocks hK hP hD hS dX0_letWaterIn_18 (rfl)

abbrev rmX0_levelAt : Room := { frames := 1, cells := 0, slots := 0, locals := 21 }
theorem b_X0_levelAt : Cond.instanceMethod yX0_levelAt ∈ LW ∧ Cond.selects RX0 yX0_levelAt yX0_levelAt ∈ LW ∧ Cond.initialized RX0 ∈ LW ∧ Cond.code yX0_levelAt cX0_levelAt 2 (some .int) ∈ LW := ⟨q192, q193, q39, q194⟩
set_option maxHeartbeats 4000000 in
set_option maxRecDepth 100000 in
theorem c_X0_levelAt (l : Launch) (D : va_G) (cI cZ cL : ClassId) {n k : Nat} (h : Nat) (a : Nat → Nat) (σ : Sg) (hst : Shp n k σ) (j : Nat) (hj : j < n) : MC l yX0_levelAt cX0_levelAt 2 (some .int) rmX0_levelAt D (tZ cI cZ cL) [.ref h, .int (nI j)] (mC cI cZ h a σ) (mC cI cZ h a σ) (some (.int (σ 0 j + σ 2 j))) := by
  refine MC.of (by decide) (Nat.le_of_ble_eq_true rfl) ?_
  intro p e s m args below meth c A ls Q hx hb hml hr hts hown hlocks hA hP hD hK hS hl hQ
  have hown : s.vm.findClass RX0 = some m.cls := hown
  have hn10 := hst.1
  have hk16 := hst.2.1
  have hl : lv_has ls 2 [(0, .ref h), (1, .int (nI j))] := hl
  refine lv_aload_n hx hb dX0_levelAt_0 rfl (lv_at hl 0 rfl) ?_
  refine lv_iload_n hx hb dX0_levelAt_1 rfl (lv_at hl 1 rfl) ?_
  refine MC.callV (C := RX0) (T := TX0) (N := 16) (As := [.int (nI j)]) (rest := []) (wB := mC cI cZ h a σ) (c_X0_hasField l D cI cZ cL h a σ (nI j) 1 (hasF_0 (hst) (hj))) ⟨hx, hb, hml, hown, hts⟩ q167 b_X0_hasField (n := 1) (by decide +kernel) ⟨Nat.le_of_ble_eq_true rfl, Nat.le_of_ble_eq_true rfl⟩ hK hP hD hS hA (sp0 _) (sp0 _) (ci := 0) rfl (q0 := 0) rfl rfl hl.1 rfl (Nat.le_of_ble_eq_true rfl) dX0_levelAt_2 ⟨Nat.le_of_ble_eq_true rfl, Nat.le_of_ble_eq_true rfl⟩ (fun H locs hP hD hS => ?_)
  refine lv_if_eq (tgt := 24) hx hb dX0_levelAt_5 (by decide) (fun z => absurd z (by decide)) (fun c_5 => ?_)
  refine lv_aload_n hx hb dX0_levelAt_8 rfl (lv_at hl 0 rfl) ?_
  refine x_get (C := RX0) (T := TX0) (N := 16) hx hb hts in_wsX00 hown hK hP 0 rfl rfl 0 (by decide) q64 (v := .ref (a 0)) rfl dX0_levelAt_9 ?_
  refine lv_iload_n hx hb dX0_levelAt_12 rfl (lv_at hl 1 rfl) ?_
  refine x_ild hx hb hK hP 1 0 rfl rfl j (rfl) (by omega) (by decide) (v := σ 0 j) rfl dX0_levelAt_13 ?_
  refine lv_aload_n hx hb dX0_levelAt_14 rfl (lv_at hl 0 rfl) ?_
  refine x_get (C := RX0) (T := TX0) (N := 16) hx hb hts in_wsX00 hown hK hP 0 rfl rfl 2 (by decide) q66 (v := .ref (a 2)) rfl dX0_levelAt_15 ?_
  refine lv_iload_n hx hb dX0_levelAt_18 rfl (lv_at hl 1 rfl) ?_
  refine x_ild hx hb hK hP 3 0 rfl rfl j (rfl) (by omega) (by decide) (v := σ 2 j) rfl dX0_levelAt_19 ?_
  refine lv_iadd hx hb dX0_levelAt_20 ?_
  refine lv_goto (tgt := 25) hx hb dX0_levelAt_21 (by decide) ?_
  subst hQ
  exact ri hx hb hr hlocks hK hP hD hS dX0_levelAt_25 (rfl) (rfl)

abbrev rmX0_isWet : Room := { frames := 1, cells := 0, slots := 0, locals := 21 }
theorem b_X0_isWet : Cond.instanceMethod yX0_isWet ∈ LW ∧ Cond.selects RX0 yX0_isWet yX0_isWet ∈ LW ∧ Cond.initialized RX0 ∈ LW ∧ Cond.code yX0_isWet cX0_isWet 2 (some .boolean) ∈ LW := ⟨q164, q165, q39, q166⟩
set_option maxHeartbeats 4000000 in
set_option maxRecDepth 100000 in
theorem c_X0_isWet (l : Launch) (D : va_G) (cI cZ cL : ClassId) {n k : Nat} (h : Nat) (a : Nat → Nat) (σ : Sg) (hst : Shp n k σ) (j : Nat) (hj : j < n) : MC l yX0_isWet cX0_isWet 2 (some .boolean) rmX0_isWet D (tZ cI cZ cL) [.ref h, .int (nI j)] (mC cI cZ h a σ) (mC cI cZ h a σ) (some (.int (isW σ j))) := by
  refine MC.of (by decide) (Nat.le_of_ble_eq_true rfl) ?_
  intro p e s m args below meth c A ls Q hx hb hml hr hts hown hlocks hA hP hD hK hS hl hQ
  have hown : s.vm.findClass RX0 = some m.cls := hown
  have hn10 := hst.1
  have hk16 := hst.2.1
  have hl : lv_has ls 2 [(0, .ref h), (1, .int (nI j))] := hl
  refine lv_aload_n hx hb dX0_isWet_0 rfl (lv_at hl 0 rfl) ?_
  refine lv_iload_n hx hb dX0_isWet_1 rfl (lv_at hl 1 rfl) ?_
  refine MC.callV (C := RX0) (T := TX0) (N := 16) (As := [.int (nI j)]) (rest := []) (wB := mC cI cZ h a σ) (c_X0_hasField l D cI cZ cL h a σ (nI j) 1 (hasF_0 (hst) (hj))) ⟨hx, hb, hml, hown, hts⟩ q167 b_X0_hasField (n := 1) (by decide +kernel) ⟨Nat.le_of_ble_eq_true rfl, Nat.le_of_ble_eq_true rfl⟩ hK hP hD hS hA (sp0 _) (sp0 _) (ci := 0) rfl (q0 := 0) rfl rfl hl.1 rfl (Nat.le_of_ble_eq_true rfl) dX0_isWet_2 ⟨Nat.le_of_ble_eq_true rfl, Nat.le_of_ble_eq_true rfl⟩ (fun H locs hP hD hS => ?_)
  refine lv_if_eq (tgt := 22) hx hb dX0_isWet_5 (by decide) (fun z => absurd z (by decide)) (fun c_5 => ?_)
  refine lv_aload_n hx hb dX0_isWet_8 rfl (lv_at hl 0 rfl) ?_
  refine x_get (C := RX0) (T := TX0) (N := 16) hx hb hts in_wsX00 hown hK hP 0 rfl rfl 2 (by decide) q66 (v := .ref (a 2)) rfl dX0_isWet_9 ?_
  refine lv_iload_n hx hb dX0_isWet_12 rfl (lv_at hl 1 rfl) ?_
  refine x_ild hx hb hK hP 3 0 rfl rfl j (rfl) (by omega) (by decide) (v := σ 2 j) rfl dX0_isWet_13 ?_
  refine lv_iconst (v := 4) hx hb dX0_isWet_14 (by decide) ?_
  refine lv_icmp_lt (tgt := 22) hx hb dX0_isWet_15 (by decide) (fun c_15 => ?_) (fun c_15 => ?_)
  · refine lv_iconst (v := 0) hx hb dX0_isWet_22 (by decide) ?_
    subst hQ
    exact rz hx hb hr hlocks hK hP hD hS dX0_isWet_23 (by decide) (rfl) (by unfold isW; rw [if_neg (Int32.not_le.mpr c_15)])
  · refine lv_iconst (v := 1) hx hb dX0_isWet_18 (by decide) ?_
    refine lv_goto (tgt := 23) hx hb dX0_isWet_19 (by decide) ?_
    subst hQ
    exact rz hx hb hr hlocks hK hP hD hS dX0_isWet_23 (by decide) (rfl) (by unfold isW; rw [if_pos (Int32.not_lt.mp c_15)])

abbrev rmX0_countRuined : Room := { frames := 0, cells := 0, slots := 0, locals := 0 }
theorem b_X0_countRuined : Cond.instanceMethod yX0_countRuined ∈ LW ∧ Cond.selects RX0 yX0_countRuined yX0_countRuined ∈ LW ∧ Cond.initialized RX0 ∈ LW ∧ Cond.code yX0_countRuined cX0_countRuined 3 (some .int) ∈ LW := ⟨q176, q177, q39, q178⟩
set_option maxHeartbeats 4000000 in
set_option maxRecDepth 100000 in
theorem c_X0_countRuined (l : Launch) (D : va_G) (cI cZ cL : ClassId) {n k : Nat} (h : Nat) (a : Nat → Nat) (σ : Sg) (hst : Shp n k σ) : MC l yX0_countRuined cX0_countRuined 3 (some .int) rmX0_countRuined D (tZ cI cZ cL) [.ref h] (mC cI cZ h a σ) (mC cI cZ h a σ) (some (.int (ruinN σ))) := by
  refine MC.of (by decide) (Nat.le_of_ble_eq_true rfl) ?_
  intro p e s m args below meth c A ls Q hx hb hml hr hts hown hlocks hA hP hD hK hS hl hQ
  have hown : s.vm.findClass RX0 = some m.cls := hown
  have hn10 := hst.1
  have hk16 := hst.2.1
  have hl : lv_has ls 3 [(0, .ref h)] := hl
  refine lv_iconst (v := 0) hx hb dX0_countRuined_0 (by decide) ?_
  refine lv_istore_n (lv' := [(1, .int 0), (0, .ref h)]) hx hb dX0_countRuined_1 rfl hl (by decide) rfl (fun ls hl => ?_)
  refine lv_iconst (v := 0) hx hb dX0_countRuined_2 (by decide) ?_
  refine lv_istore_n (lv' := [(2, .int 0), (1, .int 0), (0, .ref h)]) hx hb dX0_countRuined_3 rfl hl (by decide) rfl (fun ls hl => ?_)
  have hl : lv_has ls 3 [(2, .int (nI 0)), (1, .int (sumI (fun f => if σ 4 f = 0 then 0 else 1) 0)), (0, .ref h)] := hl
  have L4 : ∀ (f i : Nat), i ≤ n → n < i + f → ∀ (H : Heap) (locs : List Loc) (ls : Array Slot), va_P D vwCl (mC cI cZ h a σ) H → va_D A (mC cI cZ h a σ) → va_S A s.heap H locs → lv_has ls 3 [(0, .ref h), (1, .int (sumI (fun f => if σ 4 f = 0 then 0 else 1) i)), (2, .int (nI i))] → W p l e rmX0_countRuined s m args below meth c H locs 0 0 Q (F0 m 4 ls []) := by
    intro f
    induction f with
    | zero => intro i h1 h2; exact absurd h2 (by omega)
    | succ f ih =>
      intro i hi_4 hf_4 H locs ls hP hD hS hl
      refine lv_iload_n hx hb dX0_countRuined_4 rfl (lv_at hl 2 rfl) ?_
      refine lv_aload_n hx hb dX0_countRuined_5 rfl (lv_at hl 0 rfl) ?_
      refine x_get (C := RX0) (T := TX0) (N := 16) hx hb hts in_wsX00 hown hK hP 0 rfl rfl 11 (by decide) q83 (v := .int (nI n)) (congrArg (fun z => some (Value.int z)) (hst.f0)) dX0_countRuined_6 ?_
      refine lv_icmp_ge (tgt := 30) hx hb dX0_countRuined_9 (by decide) (fun c_9 => ?_) (fun c_9 => ?_)
      · have hc_9 : n ≤ i := (nI_leI (a := n) (b := i) (by omega) (by omega)).mp c_9
        refine lv_iload_n hx hb dX0_countRuined_30 rfl (lv_at hl 1 rfl) ?_
        subst hQ
        exact ri hx hb hr hlocks hK hP hD hS dX0_countRuined_31 (rfl) (by unfold ruinN; rw [hst.eF, show i = n by omega])
      · have hc_9 : i < n := Nat.not_le.mp (fun z => c_9 ((nI_leI (a := n) (b := i) (by omega) (by omega)).mpr z))
        refine lv_aload_n hx hb dX0_countRuined_12 rfl (lv_at hl 0 rfl) ?_
        refine x_get (C := RX0) (T := TX0) (N := 16) hx hb hts in_wsX00 hown hK hP 0 rfl rfl 4 (by decide) q70 (v := .ref (a 4)) rfl dX0_countRuined_13 ?_
        refine lv_iload_n hx hb dX0_countRuined_16 rfl (lv_at hl 2 rfl) ?_
        refine x_zld hx hb hK hP 5 1 rfl rfl i (rfl) (by omega) (by decide) (v := σ 4 i) rfl dX0_countRuined_17 ?_
        refine lv_if_eq (tgt := 24) hx hb dX0_countRuined_18 (by decide) (fun c_18 => ?_) (fun c_18 => ?_)
        · refine lv_iinc (v := (nI (i + 1))) (lv' := [(2, .int (nI (i + 1))), (0, .ref h), (1, .int (sumI (fun f => if σ 4 f = 0 then 0 else 1) i))]) hx hb dX0_countRuined_24 hl (k := 2) rfl (nI_add i 1) (by decide) rfl (fun ls hl => ?_)
          refine lv_goto (tgt := 4) hx hb dX0_countRuined_27 (by decide) ?_
          have e8 : sumI (fun f => if σ 4 f = 0 then 0 else 1) i = sumI (fun f => if σ 4 f = 0 then 0 else 1) (i + 1) := by
            show _ = sumI (fun f => if σ 4 f = 0 then 0 else 1) i + (if σ 4 i = 0 then 0 else 1)
            rw [if_pos c_18, Int32.add_zero]
          rw [e8] at hl
          exact ih (i + 1) (by omega) (by omega) _ _ _ hP hD hS (lv_sub hl [1, 2, 0] rfl)
        · refine lv_iinc (v := sumI (fun f => if σ 4 f = 0 then 0 else 1) i + 1) (lv' := [(1, .int (sumI (fun f => if σ 4 f = 0 then 0 else 1) i + 1)), (0, .ref h), (2, .int (nI i))]) hx hb dX0_countRuined_21 hl (k := 1) rfl (rfl) (by decide) rfl (fun ls hl => ?_)
          refine lv_iinc (v := (nI (i + 1))) (lv' := [(2, .int (nI (i + 1))), (1, .int (sumI (fun f => if σ 4 f = 0 then 0 else 1) i + 1)), (0, .ref h)]) hx hb dX0_countRuined_24 hl (k := 2) rfl (nI_add i 1) (by decide) rfl (fun ls hl => ?_)
          refine lv_goto (tgt := 4) hx hb dX0_countRuined_27 (by decide) ?_
          have e8 : sumI (fun f => if σ 4 f = 0 then 0 else 1) i + 1 = sumI (fun f => if σ 4 f = 0 then 0 else 1) (i + 1) := by
            show _ = sumI (fun f => if σ 4 f = 0 then 0 else 1) i + (if σ 4 i = 0 then 0 else 1)
            rw [if_neg c_18]
          rw [e8] at hl
          exact ih (i + 1) (by omega) (by omega) _ _ _ hP hD hS (lv_sub hl [2, 1, 0] rfl)
  exact L4 (n + 1) 0 (by omega) (by omega) _ _ _ hP hD hS (lv_sub hl [2, 1, 0] rfl)

abbrev rmX0_lostWorth : Room := { frames := 0, cells := 0, slots := 0, locals := 0 }
theorem b_X0_lostWorth : Cond.instanceMethod yX0_lostWorth ∈ LW ∧ Cond.selects RX0 yX0_lostWorth yX0_lostWorth ∈ LW ∧ Cond.initialized RX0 ∈ LW ∧ Cond.code yX0_lostWorth cX0_lostWorth 3 (some .int) ∈ LW := ⟨q184, q185, q39, q186⟩
set_option maxHeartbeats 4000000 in
set_option maxRecDepth 100000 in
theorem c_X0_lostWorth (l : Launch) (D : va_G) (cI cZ cL : ClassId) {n k : Nat} (h : Nat) (a : Nat → Nat) (σ : Sg) (hst : Shp n k σ) : MC l yX0_lostWorth cX0_lostWorth 3 (some .int) rmX0_lostWorth D (tZ cI cZ cL) [.ref h] (mC cI cZ h a σ) (mC cI cZ h a σ) (some (.int (lost σ))) := by
  refine MC.of (by decide) (Nat.le_of_ble_eq_true rfl) ?_
  intro p e s m args below meth c A ls Q hx hb hml hr hts hown hlocks hA hP hD hK hS hl hQ
  have hown : s.vm.findClass RX0 = some m.cls := hown
  have hn10 := hst.1
  have hk16 := hst.2.1
  have hl : lv_has ls 3 [(0, .ref h)] := hl
  refine lv_iconst (v := 0) hx hb dX0_lostWorth_0 (by decide) ?_
  refine lv_istore_n (lv' := [(1, .int 0), (0, .ref h)]) hx hb dX0_lostWorth_1 rfl hl (by decide) rfl (fun ls hl => ?_)
  refine lv_iconst (v := 0) hx hb dX0_lostWorth_2 (by decide) ?_
  refine lv_istore_n (lv' := [(2, .int 0), (1, .int 0), (0, .ref h)]) hx hb dX0_lostWorth_3 rfl hl (by decide) rfl (fun ls hl => ?_)
  have hl : lv_has ls 3 [(2, .int (nI 0)), (1, .int (sumI (fun f => if σ 4 f = 0 then 0 else σ 1 f) 0)), (0, .ref h)] := hl
  have L4 : ∀ (f i : Nat), i ≤ n → n < i + f → ∀ (H : Heap) (locs : List Loc) (ls : Array Slot), va_P D vwCl (mC cI cZ h a σ) H → va_D A (mC cI cZ h a σ) → va_S A s.heap H locs → lv_has ls 3 [(0, .ref h), (1, .int (sumI (fun f => if σ 4 f = 0 then 0 else σ 1 f) i)), (2, .int (nI i))] → W p l e rmX0_lostWorth s m args below meth c H locs 0 0 Q (F0 m 4 ls []) := by
    intro f
    induction f with
    | zero => intro i h1 h2; exact absurd h2 (by omega)
    | succ f ih =>
      intro i hi_4 hf_4 H locs ls hP hD hS hl
      refine lv_iload_n hx hb dX0_lostWorth_4 rfl (lv_at hl 2 rfl) ?_
      refine lv_aload_n hx hb dX0_lostWorth_5 rfl (lv_at hl 0 rfl) ?_
      refine x_get (C := RX0) (T := TX0) (N := 16) hx hb hts in_wsX00 hown hK hP 0 rfl rfl 11 (by decide) q83 (v := .int (nI n)) (congrArg (fun z => some (Value.int z)) (hst.f0)) dX0_lostWorth_6 ?_
      refine lv_icmp_ge (tgt := 36) hx hb dX0_lostWorth_9 (by decide) (fun c_9 => ?_) (fun c_9 => ?_)
      · have hc_9 : n ≤ i := (nI_leI (a := n) (b := i) (by omega) (by omega)).mp c_9
        refine lv_iload_n hx hb dX0_lostWorth_36 rfl (lv_at hl 1 rfl) ?_
        subst hQ
        exact ri hx hb hr hlocks hK hP hD hS dX0_lostWorth_37 (rfl) (by unfold lost; rw [hst.eF, show i = n by omega])
      · have hc_9 : i < n := Nat.not_le.mp (fun z => c_9 ((nI_leI (a := n) (b := i) (by omega) (by omega)).mpr z))
        refine lv_aload_n hx hb dX0_lostWorth_12 rfl (lv_at hl 0 rfl) ?_
        refine x_get (C := RX0) (T := TX0) (N := 16) hx hb hts in_wsX00 hown hK hP 0 rfl rfl 4 (by decide) q70 (v := .ref (a 4)) rfl dX0_lostWorth_13 ?_
        refine lv_iload_n hx hb dX0_lostWorth_16 rfl (lv_at hl 2 rfl) ?_
        refine x_zld hx hb hK hP 5 1 rfl rfl i (rfl) (by omega) (by decide) (v := σ 4 i) rfl dX0_lostWorth_17 ?_
        refine lv_if_eq (tgt := 30) hx hb dX0_lostWorth_18 (by decide) (fun c_18 => ?_) (fun c_18 => ?_)
        · refine lv_iinc (v := (nI (i + 1))) (lv' := [(2, .int (nI (i + 1))), (0, .ref h), (1, .int (sumI (fun f => if σ 4 f = 0 then 0 else σ 1 f) i))]) hx hb dX0_lostWorth_30 hl (k := 2) rfl (nI_add i 1) (by decide) rfl (fun ls hl => ?_)
          refine lv_goto (tgt := 4) hx hb dX0_lostWorth_33 (by decide) ?_
          have e8 : sumI (fun f => if σ 4 f = 0 then 0 else σ 1 f) i = sumI (fun f => if σ 4 f = 0 then 0 else σ 1 f) (i + 1) := by
            show _ = sumI (fun f => if σ 4 f = 0 then 0 else σ 1 f) i + (if σ 4 i = 0 then 0 else σ 1 i)
            rw [if_pos c_18, Int32.add_zero]
          rw [e8] at hl
          exact ih (i + 1) (by omega) (by omega) _ _ _ hP hD hS (lv_sub hl [1, 2, 0] rfl)
        · refine lv_iload_n hx hb dX0_lostWorth_21 rfl (lv_at hl 1 rfl) ?_
          refine lv_aload_n hx hb dX0_lostWorth_22 rfl (lv_at hl 0 rfl) ?_
          refine x_get (C := RX0) (T := TX0) (N := 16) hx hb hts in_wsX00 hown hK hP 0 rfl rfl 1 (by decide) q65 (v := .ref (a 1)) rfl dX0_lostWorth_23 ?_
          refine lv_iload_n hx hb dX0_lostWorth_26 rfl (lv_at hl 2 rfl) ?_
          refine x_ild hx hb hK hP 2 0 rfl rfl i (rfl) (by omega) (by decide) (v := σ 1 i) rfl dX0_lostWorth_27 ?_
          refine lv_iadd hx hb dX0_lostWorth_28 ?_
          refine lv_topi (fun v_1 ev_1 => ?_)
          refine lv_istore_n (lv' := [(1, .int v_1), (0, .ref h), (2, .int (nI i))]) hx hb dX0_lostWorth_29 rfl hl (by decide) rfl (fun ls hl => ?_)
          refine lv_iinc (v := (nI (i + 1))) (lv' := [(2, .int (nI (i + 1))), (1, .int v_1), (0, .ref h)]) hx hb dX0_lostWorth_30 hl (k := 2) rfl (nI_add i 1) (by decide) rfl (fun ls hl => ?_)
          refine lv_goto (tgt := 4) hx hb dX0_lostWorth_33 (by decide) ?_
          have e8 : v_1 = sumI (fun f => if σ 4 f = 0 then 0 else σ 1 f) (i + 1) := by
            rw [ev_1]
            show _ = sumI (fun f => if σ 4 f = 0 then 0 else σ 1 f) i + (if σ 4 i = 0 then 0 else σ 1 i)
            rw [if_neg c_18]
          rw [e8] at hl
          exact ih (i + 1) (by omega) (by omega) _ _ _ hP hD hS (lv_sub hl [2, 1, 0] rfl)
  exact L4 (n + 1) 0 (by omega) (by omega) _ _ _ hP hD hS (lv_sub hl [2, 1, 0] rfl)

abbrev rmX0_flowNow : Room := { frames := 1, cells := 0, slots := 0, locals := 60 }
theorem b_X0_flowNow : Cond.instanceMethod yX0_flowNow ∈ LW ∧ Cond.selects RX0 yX0_flowNow yX0_flowNow ∈ LW ∧ Cond.initialized RX0 ∈ LW ∧ Cond.code yX0_flowNow cX0_flowNow 5 (some .int) ∈ LW := ⟨q216, q217, q39, q218⟩
set_option maxHeartbeats 4000000 in
set_option maxRecDepth 100000 in
theorem c_X0_flowNow (l : Launch) (D : va_G) (cI cZ cL : ClassId) {n k : Nat} (h : Nat) (a : Nat → Nat) (σ : Sg) (hst : Shp n k σ) (j : Nat) (hj : j < k) : MC l yX0_flowNow cX0_flowNow 5 (some .int) rmX0_flowNow D (tZ cI cZ cL) [.ref h, .int (nI j)] (mC cI cZ h a σ) (mC cI cZ h a σ) (some (.int (flow σ j))) := by
  refine MC.of (by decide) (Nat.le_of_ble_eq_true rfl) ?_
  intro p e s m args below meth c A ls Q hx hb hml hr hts hown hlocks hA hP hD hK hS hl hQ
  have hown : s.vm.findClass RX0 = some m.cls := hown
  have hn10 := hst.1
  have hk16 := hst.2.1
  obtain ⟨a0, ha0, ea0⟩ := hst.2.2.2.2.1 j hj
  have hl : lv_has ls 5 [(0, .ref h), (1, .int (nI j))] := hl
  refine lv_aload_n hx hb dX0_flowNow_0 rfl (lv_at hl 0 rfl) ?_
  refine lv_iload_n hx hb dX0_flowNow_1 rfl (lv_at hl 1 rfl) ?_
  refine MC.callV (C := RX0) (T := TX0) (N := 16) (As := [.int (nI j)]) (rest := []) (wB := mC cI cZ h a σ) (c_X0_hasDrain l D cI cZ cL h a σ (nI j) 1 (hasF_1 (hst) (hj))) ⟨hx, hb, hml, hown, hts⟩ q219 b_X0_hasDrain (n := 1) (by decide +kernel) ⟨Nat.le_of_ble_eq_true rfl, Nat.le_of_ble_eq_true rfl⟩ hK hP hD hS hA (sp0 _) (sp0 _) (ci := 0) rfl (q0 := 0) rfl rfl hl.1 rfl (Nat.le_of_ble_eq_true rfl) dX0_flowNow_2 ⟨Nat.le_of_ble_eq_true rfl, Nat.le_of_ble_eq_true rfl⟩ (fun H locs hP hD hS => ?_)
  refine lv_if_eq (tgt := 30) hx hb dX0_flowNow_5 (by decide) (fun z => absurd z (by decide)) (fun c_5 => ?_)
  refine lv_aload_n hx hb dX0_flowNow_8 rfl (lv_at hl 0 rfl) ?_
  refine x_get (C := RX0) (T := TX0) (N := 16) hx hb hts in_wsX00 hown hK hP 0 rfl rfl 10 (by decide) q81 (v := .ref (a 10)) rfl dX0_flowNow_9 ?_
  refine lv_iload_n hx hb dX0_flowNow_12 rfl (lv_at hl 1 rfl) ?_
  refine x_zld hx hb hK hP 11 1 rfl rfl j (rfl) (by omega) (by decide) (v := σ 10 j) rfl dX0_flowNow_13 ?_
  refine lv_if_eq (tgt := 30) hx hb dX0_flowNow_14 (by decide) (fun c_14 => ?_) (fun c_14 => ?_)
  · refine lv_iconst (v := 0) hx hb dX0_flowNow_30 (by decide) ?_
    subst hQ
    exact ri hx hb hr hlocks hK hP hD hS dX0_flowNow_31 (rfl) (by unfold flow flA; rw [if_pos c_14])
  · refine lv_aload_n hx hb dX0_flowNow_17 rfl (lv_at hl 0 rfl) ?_
    refine lv_aload_n hx hb dX0_flowNow_18 rfl (lv_at hl 0 rfl) ?_
    refine x_get (C := RX0) (T := TX0) (N := 16) hx hb hts in_wsX00 hown hK hP 0 rfl rfl 5 (by decide) q72 (v := .ref (a 5)) rfl dX0_flowNow_19 ?_
    refine lv_iload_n hx hb dX0_flowNow_22 rfl (lv_at hl 1 rfl) ?_
    refine x_ild hx hb hK hP 6 0 rfl rfl j (rfl) (by omega) (by decide) (v := (nI a0)) (ea0) dX0_flowNow_23 ?_
    refine MC.callV (C := RX0) (T := TX0) (N := 16) (As := [.int (nI a0)]) (rest := []) (wB := mC cI cZ h a σ) (c_X0_hasField l D cI cZ cL h a σ (nI a0) 1 (hasF_0 (hst) (ha0))) ⟨hx, hb, hml, hown, hts⟩ q167 b_X0_hasField (n := 1) (by decide +kernel) ⟨Nat.le_of_ble_eq_true rfl, Nat.le_of_ble_eq_true rfl⟩ hK hP hD hS hA (sp0 _) (sp0 _) (ci := 0) rfl (q0 := 0) rfl rfl hl.1 rfl (Nat.le_of_ble_eq_true rfl) dX0_flowNow_24 ⟨Nat.le_of_ble_eq_true rfl, Nat.le_of_ble_eq_true rfl⟩ (fun H locs hP hD hS => ?_)
    refine lv_if_ne (tgt := 32) hx hb dX0_flowNow_27 (by decide) (fun c_27 => ?_) (fun z => absurd z (by decide))
    refine lv_aload_n hx hb dX0_flowNow_32 rfl (lv_at hl 0 rfl) ?_
    refine x_get (C := RX0) (T := TX0) (N := 16) hx hb hts in_wsX00 hown hK hP 0 rfl rfl 5 (by decide) q72 (v := .ref (a 5)) rfl dX0_flowNow_33 ?_
    refine lv_iload_n hx hb dX0_flowNow_36 rfl (lv_at hl 1 rfl) ?_
    refine x_ild hx hb hK hP 6 0 rfl rfl j (rfl) (by omega) (by decide) (v := (nI a0)) (ea0) dX0_flowNow_37 ?_
    refine lv_istore_n (lv' := [(2, .int (nI a0)), (0, .ref h), (1, .int (nI j))]) hx hb dX0_flowNow_38 rfl hl (by decide) rfl (fun ls hl => ?_)
    refine lv_aload_n hx hb dX0_flowNow_39 rfl (lv_at hl 1 rfl) ?_
    refine x_get (C := RX0) (T := TX0) (N := 16) hx hb hts in_wsX00 hown hK hP 0 rfl rfl 6 (by decide) q74 (v := .ref (a 6)) rfl dX0_flowNow_40 ?_
    refine lv_iload_n hx hb dX0_flowNow_43 rfl (lv_at hl 2 rfl) ?_
    refine x_ild hx hb hK hP 7 0 rfl rfl j (rfl) (by omega) (by decide) (v := σ 6 j) rfl dX0_flowNow_44 ?_
    refine lv_istore_n (lv' := [(3, .int (σ 6 j)), (2, .int (nI a0)), (0, .ref h), (1, .int (nI j))]) hx hb dX0_flowNow_45 rfl hl (by decide) rfl (fun ls hl => ?_)
    refine lv_aload_n hx hb dX0_flowNow_46 rfl (lv_at hl 2 rfl) ?_
    refine x_get (C := RX0) (T := TX0) (N := 16) hx hb hts in_wsX00 hown hK hP 0 rfl rfl 9 (by decide) q79 (v := .ref (a 9)) rfl dX0_flowNow_47 ?_
    refine lv_iload_n hx hb dX0_flowNow_50 rfl (lv_at hl 3 rfl) ?_
    refine x_zld hx hb hK hP 10 1 rfl rfl j (rfl) (by omega) (by decide) (v := σ 9 j) rfl dX0_flowNow_51 ?_
    refine lv_if_eq (tgt := 71) hx hb dX0_flowNow_52 (by decide) (fun c_52 => ?_) (fun c_52 => ?_)
    · obtain ⟨b0, hb0, eb0⟩ : ∃ b, b < n ∧ σ 6 j = nI b := by
        rcases hst.2.2.2.2.2 j hj with q | q
        · exact absurd c_52 q.2
        · exact q
      rw [eb0] at hl
      refine lv_aload_n hx hb dX0_flowNow_71 rfl (lv_at hl 2 rfl) ?_
      refine lv_iload_n hx hb dX0_flowNow_72 rfl (lv_at hl 0 rfl) ?_
      refine MC.callV (C := RX0) (T := TX0) (N := 16) (As := [.int (nI b0)]) (rest := []) (wB := mC cI cZ h a σ) (c_X0_hasField l D cI cZ cL h a σ (nI b0) 1 (hasF_0 (hst) (hb0))) ⟨hx, hb, hml, hown, hts⟩ q167 b_X0_hasField (n := 1) (by decide +kernel) ⟨Nat.le_of_ble_eq_true rfl, Nat.le_of_ble_eq_true rfl⟩ hK hP hD hS hA (sp0 _) (sp0 _) (ci := 0) rfl (q0 := 0) rfl rfl hl.1 rfl (Nat.le_of_ble_eq_true rfl) dX0_flowNow_73 ⟨Nat.le_of_ble_eq_true rfl, Nat.le_of_ble_eq_true rfl⟩ (fun H locs hP hD hS => ?_)
      refine lv_if_ne (tgt := 81) hx hb dX0_flowNow_76 (by decide) (fun c_76 => ?_) (fun z => absurd z (by decide))
      refine lv_aload_n hx hb dX0_flowNow_81 rfl (lv_at hl 2 rfl) ?_
      refine x_get (C := RX0) (T := TX0) (N := 16) hx hb hts in_wsX00 hown hK hP 0 rfl rfl 0 (by decide) q64 (v := .ref (a 0)) rfl dX0_flowNow_82 ?_
      refine lv_iload_n hx hb dX0_flowNow_85 rfl (lv_at hl 1 rfl) ?_
      refine x_ild hx hb hK hP 1 0 rfl rfl a0 (rfl) (by omega) (by decide) (v := σ 0 a0) rfl dX0_flowNow_86 ?_
      refine lv_aload_n hx hb dX0_flowNow_87 rfl (lv_at hl 2 rfl) ?_
      refine x_get (C := RX0) (T := TX0) (N := 16) hx hb hts in_wsX00 hown hK hP 0 rfl rfl 2 (by decide) q66 (v := .ref (a 2)) rfl dX0_flowNow_88 ?_
      refine lv_iload_n hx hb dX0_flowNow_91 rfl (lv_at hl 1 rfl) ?_
      refine x_ild hx hb hK hP 3 0 rfl rfl a0 (rfl) (by omega) (by decide) (v := σ 2 a0) rfl dX0_flowNow_92 ?_
      refine lv_iadd hx hb dX0_flowNow_93 ?_
      refine lv_aload_n hx hb dX0_flowNow_94 rfl (lv_at hl 2 rfl) ?_
      refine x_get (C := RX0) (T := TX0) (N := 16) hx hb hts in_wsX00 hown hK hP 0 rfl rfl 0 (by decide) q64 (v := .ref (a 0)) rfl dX0_flowNow_95 ?_
      refine lv_iload_n hx hb dX0_flowNow_98 rfl (lv_at hl 0 rfl) ?_
      refine x_ild hx hb hK hP 1 0 rfl rfl b0 (rfl) (by omega) (by decide) (v := σ 0 b0) rfl dX0_flowNow_99 ?_
      refine lv_isub hx hb dX0_flowNow_100 ?_
      refine lv_aload_n hx hb dX0_flowNow_101 rfl (lv_at hl 2 rfl) ?_
      refine x_get (C := RX0) (T := TX0) (N := 16) hx hb hts in_wsX00 hown hK hP 0 rfl rfl 2 (by decide) q66 (v := .ref (a 2)) rfl dX0_flowNow_102 ?_
      refine lv_iload_n hx hb dX0_flowNow_105 rfl (lv_at hl 0 rfl) ?_
      refine x_ild hx hb hK hP 3 0 rfl rfl b0 (rfl) (by omega) (by decide) (v := σ 2 b0) rfl dX0_flowNow_106 ?_
      refine lv_isub hx hb dX0_flowNow_107 ?_
      refine lv_iconst (v := 2) hx hb dX0_flowNow_108 (by decide) ?_
      refine lv_idiv hx hb dX0_flowNow_109 (by decide) ?_
      refine lv_topi (fun v_1 ev_1 => ?_)
      refine lv_istore (lv' := [(4, .int v_1), (3, .int (nI b0)), (2, .int (nI a0)), (0, .ref h), (1, .int (nI j))]) hx hb dX0_flowNow_110 hl (by decide) rfl (fun ls hl => ?_)
      refine lv_iload hx hb dX0_flowNow_112 (lv_at hl 0 rfl) ?_
      refine lv_if_lt (tgt := 138) hx hb dX0_flowNow_114 (by decide) (fun c_114 => ?_) (fun c_114 => ?_)
      · refine lv_iload hx hb dX0_flowNow_138 (lv_at hl 0 rfl) ?_
        refine lv_ineg hx hb dX0_flowNow_140 ?_
        refine lv_aload_n hx hb dX0_flowNow_141 rfl (lv_at hl 3 rfl) ?_
        refine x_get (C := RX0) (T := TX0) (N := 16) hx hb hts in_wsX00 hown hK hP 0 rfl rfl 7 (by decide) q76 (v := .ref (a 7)) rfl dX0_flowNow_142 ?_
        refine lv_iload_n hx hb dX0_flowNow_145 rfl (lv_at hl 4 rfl) ?_
        refine x_ild hx hb hK hP 8 0 rfl rfl j (rfl) (by omega) (by decide) (v := σ 7 j) rfl dX0_flowNow_146 ?_
        refine lv_aload_n hx hb dX0_flowNow_147 rfl (lv_at hl 3 rfl) ?_
        refine x_get (C := RX0) (T := TX0) (N := 16) hx hb hts in_wsX00 hown hK hP 0 rfl rfl 2 (by decide) q66 (v := .ref (a 2)) rfl dX0_flowNow_148 ?_
        refine lv_iload_n hx hb dX0_flowNow_151 rfl (lv_at hl 1 rfl) ?_
        refine x_ild hx hb hK hP 3 0 rfl rfl b0 (rfl) (by omega) (by decide) (v := σ 2 b0) rfl dX0_flowNow_152 ?_
        refine va_mmin hx hb (by rw [hml]; exact hl.1.symm) hown (hts _ q223) (hts _ q224) (hts _ q47) (hts _ q225) (by decide) (Nat.le_of_ble_eq_true rfl) (Nat.le_of_ble_eq_true rfl) (Nat.le_of_ble_eq_true rfl) dX0_flowNow_153 ?_
        refine x_top (show _ = mn (σ 7 j) (σ 2 b0) from rfl) ?_
        refine va_mmin hx hb (by rw [hml]; exact hl.1.symm) hown (hts _ q223) (hts _ q224) (hts _ q47) (hts _ q225) (by decide) (Nat.le_of_ble_eq_true rfl) (Nat.le_of_ble_eq_true rfl) (Nat.le_of_ble_eq_true rfl) dX0_flowNow_156 ?_
        refine x_top (show _ = mn (-v_1) (mn (σ 7 j) (σ 2 b0)) from rfl) ?_
        refine lv_ineg hx hb dX0_flowNow_159 ?_
        subst hQ
        exact ri hx hb hr hlocks hK hP hD hS dX0_flowNow_160 (rfl) (by rw [ev_1]; unfold flow; rw [ea0, nI_clamp (by omega), eb0, nI_clamp (by omega)]; unfold flA; rw [if_neg c_14, if_neg (fun z => z c_52), if_neg (show ¬ 0 ≤ flH σ a0 b0 by rw [show flH σ a0 b0 = v_1 from ev_1.symm]; exact Int32.not_le.mpr c_114)]; rfl)
      · refine lv_iload hx hb dX0_flowNow_117 (lv_at hl 0 rfl) ?_
        refine lv_aload_n hx hb dX0_flowNow_119 rfl (lv_at hl 3 rfl) ?_
        refine x_get (C := RX0) (T := TX0) (N := 16) hx hb hts in_wsX00 hown hK hP 0 rfl rfl 7 (by decide) q76 (v := .ref (a 7)) rfl dX0_flowNow_120 ?_
        refine lv_iload_n hx hb dX0_flowNow_123 rfl (lv_at hl 4 rfl) ?_
        refine x_ild hx hb hK hP 8 0 rfl rfl j (rfl) (by omega) (by decide) (v := σ 7 j) rfl dX0_flowNow_124 ?_
        refine lv_aload_n hx hb dX0_flowNow_125 rfl (lv_at hl 3 rfl) ?_
        refine x_get (C := RX0) (T := TX0) (N := 16) hx hb hts in_wsX00 hown hK hP 0 rfl rfl 2 (by decide) q66 (v := .ref (a 2)) rfl dX0_flowNow_126 ?_
        refine lv_iload_n hx hb dX0_flowNow_129 rfl (lv_at hl 2 rfl) ?_
        refine x_ild hx hb hK hP 3 0 rfl rfl a0 (rfl) (by omega) (by decide) (v := σ 2 a0) rfl dX0_flowNow_130 ?_
        refine va_mmin hx hb (by rw [hml]; exact hl.1.symm) hown (hts _ q223) (hts _ q224) (hts _ q47) (hts _ q225) (by decide) (Nat.le_of_ble_eq_true rfl) (Nat.le_of_ble_eq_true rfl) (Nat.le_of_ble_eq_true rfl) dX0_flowNow_131 ?_
        refine x_top (show _ = mn (σ 7 j) (σ 2 a0) from rfl) ?_
        refine va_mmin hx hb (by rw [hml]; exact hl.1.symm) hown (hts _ q223) (hts _ q224) (hts _ q47) (hts _ q225) (by decide) (Nat.le_of_ble_eq_true rfl) (Nat.le_of_ble_eq_true rfl) (Nat.le_of_ble_eq_true rfl) dX0_flowNow_134 ?_
        refine x_top (show _ = mn v_1 (mn (σ 7 j) (σ 2 a0)) from rfl) ?_
        subst hQ
        exact ri hx hb hr hlocks hK hP hD hS dX0_flowNow_137 (rfl) (by rw [ev_1]; unfold flow; rw [ea0, nI_clamp (by omega), eb0, nI_clamp (by omega)]; unfold flA; rw [if_neg c_14, if_neg (fun z => z c_52), if_pos (show 0 ≤ flH σ a0 b0 by rw [show flH σ a0 b0 = v_1 from ev_1.symm]; exact Int32.not_lt.mp c_114)]; rfl)
    · refine lv_aload_n hx hb dX0_flowNow_55 rfl (lv_at hl 2 rfl) ?_
      refine x_get (C := RX0) (T := TX0) (N := 16) hx hb hts in_wsX00 hown hK hP 0 rfl rfl 7 (by decide) q76 (v := .ref (a 7)) rfl dX0_flowNow_56 ?_
      refine lv_iload_n hx hb dX0_flowNow_59 rfl (lv_at hl 3 rfl) ?_
      refine x_ild hx hb hK hP 8 0 rfl rfl j (rfl) (by omega) (by decide) (v := σ 7 j) rfl dX0_flowNow_60 ?_
      refine lv_aload_n hx hb dX0_flowNow_61 rfl (lv_at hl 2 rfl) ?_
      refine x_get (C := RX0) (T := TX0) (N := 16) hx hb hts in_wsX00 hown hK hP 0 rfl rfl 2 (by decide) q66 (v := .ref (a 2)) rfl dX0_flowNow_62 ?_
      refine lv_iload_n hx hb dX0_flowNow_65 rfl (lv_at hl 1 rfl) ?_
      refine x_ild hx hb hK hP 3 0 rfl rfl a0 (rfl) (by omega) (by decide) (v := σ 2 a0) rfl dX0_flowNow_66 ?_
      refine va_mmin hx hb (by rw [hml]; exact hl.1.symm) hown (hts _ q223) (hts _ q224) (hts _ q47) (hts _ q225) (by decide) (Nat.le_of_ble_eq_true rfl) (Nat.le_of_ble_eq_true rfl) (Nat.le_of_ble_eq_true rfl) dX0_flowNow_67 ?_
      refine x_top (show _ = mn (σ 7 j) (σ 2 a0) from rfl) ?_
      subst hQ
      exact ri hx hb hr hlocks hK hP hD hS dX0_flowNow_70 (rfl) (by unfold flow; rw [ea0, nI_clamp (by omega)]; unfold flA; rw [if_neg c_14, if_pos c_52])

abbrev rmX0_letFlow : Room := { frames := 2, cells := 0, slots := 0, locals := 60 }
theorem b_X0_letFlow : Cond.instanceMethod yX0_letFlow ∈ LW ∧ Cond.selects RX0 yX0_letFlow yX0_letFlow ∈ LW ∧ Cond.initialized RX0 ∈ LW ∧ Cond.code yX0_letFlow cX0_letFlow 3 none ∈ LW := ⟨q228, q0, q39, q229⟩
set_option maxHeartbeats 4000000 in
set_option maxRecDepth 100000 in
theorem c_X0_letFlow (l : Launch) (D : va_G) (cI cZ cL : ClassId) {n k : Nat} (h : Nat) (a : Nat → Nat) (σ : Sg) (hst : Shp n k σ) (j : Nat) (hj : j < k) (w : Int32) : MC l yX0_letFlow cX0_letFlow 3 none rmX0_letFlow D (tZ cI cZ cL) [.ref h, .int (nI j), .int w] (mC cI cZ h a σ) (mC cI cZ h a (letF j w σ)) (none) := by
  refine MC.of (by decide) (Nat.le_of_ble_eq_true rfl) ?_
  intro p e s m args below meth c A ls Q hx hb hml hr hts hown hlocks hA hP hD hK hS hl hQ
  have hown : s.vm.findClass RX0 = some m.cls := hown
  have hn10 := hst.1
  have hk16 := hst.2.1
  obtain ⟨a0, ha0, ea0⟩ := hst.2.2.2.2.1 j hj
  have hl : lv_has ls 3 [(0, .ref h), (1, .int (nI j)), (2, .int w)] := hl
  refine lv_aload_n hx hb dX0_letFlow_0 rfl (lv_at hl 0 rfl) ?_
  refine lv_iload_n hx hb dX0_letFlow_1 rfl (lv_at hl 1 rfl) ?_
  refine MC.callV (C := RX0) (T := TX0) (N := 16) (As := [.int (nI j)]) (rest := []) (wB := mC cI cZ h a σ) (c_X0_hasDrain l D cI cZ cL h a σ (nI j) 1 (hasF_1 (hst) (hj))) ⟨hx, hb, hml, hown, hts⟩ q219 b_X0_hasDrain (n := 1) (by decide +kernel) ⟨Nat.le_of_ble_eq_true rfl, Nat.le_of_ble_eq_true rfl⟩ hK hP hD hS hA (sp0 _) (sp0 _) (ci := 0) rfl (q0 := 0) rfl rfl hl.1 rfl (Nat.le_of_ble_eq_true rfl) dX0_letFlow_2 ⟨Nat.le_of_ble_eq_true rfl, Nat.le_of_ble_eq_true rfl⟩ (fun H locs hP hD hS => ?_)
  refine lv_if_ne (tgt := 9) hx hb dX0_letFlow_5 (by decide) (fun c_5 => ?_) (fun z => absurd z (by decide))
  refine lv_aload_n hx hb dX0_letFlow_9 rfl (lv_at hl 0 rfl) ?_
  refine lv_aload_n hx hb dX0_letFlow_10 rfl (lv_at hl 0 rfl) ?_
  refine x_get (C := RX0) (T := TX0) (N := 16) hx hb hts in_wsX00 hown hK hP 0 rfl rfl 5 (by decide) q72 (v := .ref (a 5)) rfl dX0_letFlow_11 ?_
  refine lv_iload_n hx hb dX0_letFlow_14 rfl (lv_at hl 1 rfl) ?_
  refine x_ild hx hb hK hP 6 0 rfl rfl j (rfl) (by omega) (by decide) (v := (nI a0)) (ea0) dX0_letFlow_15 ?_
  refine lv_iload_n hx hb dX0_letFlow_16 rfl (lv_at hl 2 rfl) ?_
  refine lv_ineg hx hb dX0_letFlow_17 ?_
  refine MC.callV (C := RX0) (T := TX0) (N := 16) (As := [.int (nI a0), .int (-w)]) (rest := []) (wB := mC cI cZ h a (addW σ a0 (-w))) (c_X0_letWaterIn l D cI cZ cL h a σ (hst) a0 ha0 (-w)) ⟨hx, hb, hml, hown, hts⟩ q230 b_X0_letWaterIn (n := 2) (by decide +kernel) ⟨Nat.le_of_ble_eq_true rfl, Nat.le_of_ble_eq_true rfl⟩ hK hP hD hS hA (sp0 _) (sp0 _) (ci := 0) rfl (q0 := 0) rfl rfl hl.1 rfl (Nat.le_of_ble_eq_true rfl) dX0_letFlow_18 ⟨Nat.le_of_ble_eq_true rfl, Nat.le_of_ble_eq_true rfl⟩ (fun H locs hP hD hS => ?_)
  refine lv_aload_n hx hb dX0_letFlow_21 rfl (lv_at hl 0 rfl) ?_
  refine x_get (C := RX0) (T := TX0) (N := 16) hx hb hts in_wsX00 hown hK hP 0 rfl rfl 6 (by decide) q74 (v := .ref (a 6)) rfl dX0_letFlow_22 ?_
  refine lv_iload_n hx hb dX0_letFlow_25 rfl (lv_at hl 1 rfl) ?_
  refine x_ild hx hb hK hP 7 0 rfl rfl j (rfl) (by omega) (by decide) (v := σ 6 j) rfl dX0_letFlow_26 ?_
  refine lv_iconst (v := (-1)) hx hb dX0_letFlow_27 (by decide) ?_
  refine lv_icmp_ne (tgt := 44) hx hb dX0_letFlow_28 (by decide) (fun c_28 => ?_) (fun c_28 => ?_)
  · obtain ⟨b0, hb0, eb0⟩ : ∃ b, b < n ∧ σ 6 j = nI b := by
      rcases hst.2.2.2.2.2 j hj with q | q
      · exact absurd q.1 c_28
      · exact q
    refine lv_aload_n hx hb dX0_letFlow_44 rfl (lv_at hl 0 rfl) ?_
    refine lv_aload_n hx hb dX0_letFlow_45 rfl (lv_at hl 0 rfl) ?_
    refine x_get (C := RX0) (T := TX0) (N := 16) hx hb hts in_wsX00 hown hK hP 0 rfl rfl 6 (by decide) q74 (v := .ref (a 6)) rfl dX0_letFlow_46 ?_
    refine lv_iload_n hx hb dX0_letFlow_49 rfl (lv_at hl 1 rfl) ?_
    refine x_ild hx hb hK hP 7 0 rfl rfl j (rfl) (by omega) (by decide) (v := (nI b0)) eb0 dX0_letFlow_50 ?_
    refine lv_iload_n hx hb dX0_letFlow_51 rfl (lv_at hl 2 rfl) ?_
    refine MC.callV (C := RX0) (T := TX0) (N := 16) (As := [.int (nI b0), .int w]) (rest := []) (wB := mC cI cZ h a (addW (addW σ a0 (-w)) b0 w)) (c_X0_letWaterIn l D cI cZ cL h a (addW σ a0 (-w)) (hst.aw a0 (-w)) b0 hb0 w) ⟨hx, hb, hml, hown, hts⟩ q230 b_X0_letWaterIn (n := 2) (by decide +kernel) ⟨Nat.le_of_ble_eq_true rfl, Nat.le_of_ble_eq_true rfl⟩ hK hP hD hS hA (sp0 _) (sp0 _) (ci := 0) rfl (q0 := 0) rfl rfl hl.1 rfl (Nat.le_of_ble_eq_true rfl) dX0_letFlow_52 ⟨Nat.le_of_ble_eq_true rfl, Nat.le_of_ble_eq_true rfl⟩ (fun H locs hP hD hS => ?_)
    refine lv_aload_n hx hb dX0_letFlow_55 rfl (lv_at hl 0 rfl) ?_
    refine x_get (C := RX0) (T := TX0) (N := 16) hx hb hts in_wsX00 hown hK hP 0 rfl rfl 8 (by decide) q77 (v := .ref (a 8)) rfl dX0_letFlow_56 ?_
    refine lv_iload_n hx hb dX0_letFlow_59 rfl (lv_at hl 1 rfl) ?_
    refine lv_dup2_11 hx hb dX0_letFlow_60 rfl rfl ?_
    refine x_ild hx hb hK hP 9 0 rfl rfl j (rfl) (by omega) (by decide) (v := σ 8 j) rfl dX0_letFlow_61 ?_
    refine lv_iload_n hx hb dX0_letFlow_62 rfl (lv_at hl 2 rfl) ?_
    refine va_mabs hx hb (by rw [hml]; exact hl.1.symm) hown (hts _ q234) (hts _ q235) (hts _ q47) (hts _ q236) (by decide) (Nat.le_of_ble_eq_true rfl) (Nat.le_of_ble_eq_true rfl) (Nat.le_of_ble_eq_true rfl) dX0_letFlow_63 ?_
    refine x_top (show _ = ab w from rfl) ?_
    refine lv_iadd hx hb dX0_letFlow_66 ?_
    refine x_ist (ws2 := mC cI cZ h a (su (addW (addW σ a0 (-w)) b0 w) 8 j ((σ 8 j) + (ab w)))) hx hb hK hP hD hS 9 0 rfl rfl j (rfl) (by omega) (by decide) rfl dX0_letFlow_67 (fun H locs hP hD hS => ?_)
    subst hQ
    exact rv hx hb hr hlocks hK hP hD hS dX0_letFlow_68 (by unfold letF; rw [ea0, nI_clamp (by omega), if_neg c_28, eb0, nI_clamp (by omega)])
  · refine lv_aload_n hx hb dX0_letFlow_31 rfl (lv_at hl 0 rfl) ?_
    refine lv_dup hx hb dX0_letFlow_32 rfl ?_
    refine x_get (C := RX0) (T := TX0) (N := 16) hx hb hts in_wsX00 hown hK hP 0 rfl rfl 14 (by decide) q90 (v := .int (σ 11 3)) (congrArg (fun z => some (Value.int z)) (rfl)) dX0_letFlow_33 ?_
    refine lv_iload_n hx hb dX0_letFlow_36 rfl (lv_at hl 2 rfl) ?_
    refine lv_iadd hx hb dX0_letFlow_37 ?_
    refine x_put (C := RX0) (T := TX0) (N := 16) (ws2 := mC cI cZ h a (sc (addW σ a0 (-w)) 3 ((σ 11 3) + w))) hx hb hts in_wsX00 tyX0_ok nmX0 hown hK hP hD hS 0 rfl rfl 14 (by decide) q90 rfl (by decide +kernel) (Nat.le_of_ble_eq_true rfl) rfl dX0_letFlow_38 (fun H locs hP hD hS => ?_)
    refine lv_goto (tgt := 55) hx hb dX0_letFlow_41 (by decide) ?_
    refine lv_aload_n hx hb dX0_letFlow_55 rfl (lv_at hl 0 rfl) ?_
    refine x_get (C := RX0) (T := TX0) (N := 16) hx hb hts in_wsX00 hown hK hP 0 rfl rfl 8 (by decide) q77 (v := .ref (a 8)) rfl dX0_letFlow_56 ?_
    refine lv_iload_n hx hb dX0_letFlow_59 rfl (lv_at hl 1 rfl) ?_
    refine lv_dup2_11 hx hb dX0_letFlow_60 rfl rfl ?_
    refine x_ild hx hb hK hP 9 0 rfl rfl j (rfl) (by omega) (by decide) (v := σ 8 j) rfl dX0_letFlow_61 ?_
    refine lv_iload_n hx hb dX0_letFlow_62 rfl (lv_at hl 2 rfl) ?_
    refine va_mabs hx hb (by rw [hml]; exact hl.1.symm) hown (hts _ q234) (hts _ q235) (hts _ q47) (hts _ q236) (by decide) (Nat.le_of_ble_eq_true rfl) (Nat.le_of_ble_eq_true rfl) (Nat.le_of_ble_eq_true rfl) dX0_letFlow_63 ?_
    refine x_top (show _ = ab w from rfl) ?_
    refine lv_iadd hx hb dX0_letFlow_66 ?_
    refine x_ist (ws2 := mC cI cZ h a (su (sc (addW σ a0 (-w)) 3 ((σ 11 3) + w)) 8 j ((σ 8 j) + (ab w)))) hx hb hK hP hD hS 9 0 rfl rfl j (rfl) (by omega) (by decide) rfl dX0_letFlow_67 (fun H locs hP hD hS => ?_)
    subst hQ
    exact rv hx hb hr hlocks hK hP hD hS dX0_letFlow_68 (by unfold letF; rw [ea0, nI_clamp (by omega), if_pos c_28])

abbrev rmX0_countWetHours : Room := { frames := 2, cells := 0, slots := 0, locals := 42 }
theorem b_X0_countWetHours : Cond.instanceMethod yX0_countWetHours ∈ LW ∧ Cond.selects RX0 yX0_countWetHours yX0_countWetHours ∈ LW ∧ Cond.initialized RX0 ∈ LW ∧ Cond.code yX0_countWetHours cX0_countWetHours 2 none ∈ LW := ⟨q239, q1, q39, q240⟩
set_option maxHeartbeats 4000000 in
set_option maxRecDepth 100000 in
theorem c_X0_countWetHours (l : Launch) (D : va_G) (cI cZ cL : ClassId) {n k : Nat} (h : Nat) (a : Nat → Nat) (σ : Sg) (hst : Shp n k σ) : MC l yX0_countWetHours cX0_countWetHours 2 none rmX0_countWetHours D (tZ cI cZ cL) [.ref h] (mC cI cZ h a σ) (mC cI cZ h a (it wetB (nF σ) σ)) (none) := by
  refine MC.of (by decide) (Nat.le_of_ble_eq_true rfl) ?_
  intro p e s m args below meth c A ls Q hx hb hml hr hts hown hlocks hA hP hD hK hS hl hQ
  have hown : s.vm.findClass RX0 = some m.cls := hown
  have hn10 := hst.1
  have hk16 := hst.2.1
  have hl : lv_has ls 2 [(0, .ref h)] := hl
  refine lv_iconst (v := 0) hx hb dX0_countWetHours_0 (by decide) ?_
  refine lv_istore_n (lv' := [(1, .int 0), (0, .ref h)]) hx hb dX0_countWetHours_1 rfl hl (by decide) rfl (fun ls hl => ?_)
  have hl : lv_has ls 2 [(1, .int (nI 0)), (0, .ref h)] := hl
  have L2 : ∀ (f i : Nat), i ≤ n → n < i + f → ∀ (H : Heap) (locs : List Loc) (ls : Array Slot), va_P D vwCl (mC cI cZ h a (it wetB i σ)) H → va_D A (mC cI cZ h a (it wetB i σ)) → va_S A s.heap H locs → lv_has ls 2 [(0, .ref h), (1, .int (nI i))] → W p l e rmX0_countWetHours s m args below meth c H locs 0 0 Q (F0 m 2 ls []) := by
    intro f
    induction f with
    | zero => intro i h1 h2; exact absurd h2 (by omega)
    | succ f ih =>
      intro i hi_2 hf_2 H locs ls hP hD hS hl
      obtain ⟨τ, eτ⟩ : ∃ z, z = it wetB i σ := ⟨_, rfl⟩
      rw [← eτ] at hP hD
      have hst9 : Shp n k τ := by rw [eτ]; exact hst.iter Shp.wet i
      refine lv_iload_n hx hb dX0_countWetHours_2 rfl (lv_at hl 1 rfl) ?_
      refine lv_aload_n hx hb dX0_countWetHours_3 rfl (lv_at hl 0 rfl) ?_
      refine x_get (C := RX0) (T := TX0) (N := 16) hx hb hts in_wsX00 hown hK hP 0 rfl rfl 11 (by decide) q83 (v := .int (nI n)) (congrArg (fun z => some (Value.int z)) (hst9.f0)) dX0_countWetHours_4 ?_
      refine lv_icmp_ge (tgt := 60) hx hb dX0_countWetHours_7 (by decide) (fun c_7 => ?_) (fun c_7 => ?_)
      · have hc_7 : n ≤ i := (nI_leI (a := n) (b := i) (by omega) (by omega)).mp c_7
        subst hQ
        exact rv hx hb hr hlocks hK hP hD hS dX0_countWetHours_60 (by rw [eτ, hst.eF, show i = n by omega])
      · have hc_7 : i < n := Nat.not_le.mp (fun z => c_7 ((nI_leI (a := n) (b := i) (by omega) (by omega)).mpr z))
        refine lv_aload_n hx hb dX0_countWetHours_10 rfl (lv_at hl 0 rfl) ?_
        refine x_get (C := RX0) (T := TX0) (N := 16) hx hb hts in_wsX00 hown hK hP 0 rfl rfl 3 (by decide) q68 (v := .ref (a 3)) rfl dX0_countWetHours_11 ?_
        refine lv_iload_n hx hb dX0_countWetHours_14 rfl (lv_at hl 1 rfl) ?_
        refine lv_aload_n hx hb dX0_countWetHours_15 rfl (lv_at hl 0 rfl) ?_
        refine lv_iload_n hx hb dX0_countWetHours_16 rfl (lv_at hl 1 rfl) ?_
        refine MC.callV (C := RX0) (T := TX0) (N := 16) (As := [.int (nI i)]) (rest := [.int (nI i), .ref (a 3)]) (wB := mC cI cZ h a τ) (c_X0_isWet l D cI cZ cL h a τ hst9 i (by omega)) ⟨hx, hb, hml, hown, hts⟩ q241 b_X0_isWet (n := 1) (by decide +kernel) ⟨Nat.le_of_ble_eq_true rfl, Nat.le_of_ble_eq_true rfl⟩ hK hP hD hS hA (sp0 _) (sp0 _) (ci := 0) rfl (q0 := 0) rfl rfl hl.1 rfl (Nat.le_of_ble_eq_true rfl) dX0_countWetHours_17 ⟨Nat.le_of_ble_eq_true rfl, Nat.le_of_ble_eq_true rfl⟩ (fun H locs hP hD hS => ?_)
        refine lv_if_eq (tgt := 34) hx hb dX0_countWetHours_20 (by decide) (fun c_20 => ?_) (fun c_20 => ?_)
        · refine lv_iconst (v := 0) hx hb dX0_countWetHours_34 (by decide) ?_
          refine x_top (wv_0 c_20).symm ?_
          refine x_ist (ws2 := mC cI cZ h a (su τ 3 i (wv τ i))) hx hb hK hP hD hS 4 0 rfl rfl i (rfl) (by omega) (by decide) rfl dX0_countWetHours_35 (fun H locs hP hD hS => ?_)
          refine lv_aload_n hx hb dX0_countWetHours_36 rfl (lv_at hl 0 rfl) ?_
          refine x_get (C := RX0) (T := TX0) (N := 16) hx hb hts in_wsX00 hown hK hP 0 rfl rfl 3 (by decide) q68 (v := .ref (a 3)) rfl dX0_countWetHours_37 ?_
          refine lv_iload_n hx hb dX0_countWetHours_40 rfl (lv_at hl 1 rfl) ?_
          refine x_ild hx hb hK hP 4 0 rfl rfl i (rfl) (by omega) (by decide) (v := wv τ i) pk_us dX0_countWetHours_41 ?_
          refine lv_bipush (v := 6) hx hb dX0_countWetHours_42 (by decide) ?_
          refine lv_icmp_lt (tgt := 54) hx hb dX0_countWetHours_44 (by decide) (fun c_44 => ?_) (fun c_44 => ?_)
          · refine lv_iinc (v := (nI (i + 1))) (lv' := [(1, .int (nI (i + 1))), (0, .ref h)]) hx hb dX0_countWetHours_54 hl (k := 1) rfl (nI_add i 1) (by decide) rfl (fun ls hl => ?_)
            refine lv_goto (tgt := 2) hx hb dX0_countWetHours_57 (by decide) ?_
            have e9 : su τ 3 i (wv τ i) = it wetB (i + 1) σ := by
              show _ = wetB i (it wetB i σ)
              rw [← eτ]
              unfold wetB
              rw [if_neg (Int32.not_le.mpr c_44)]
            rw [e9] at hP hD
            exact ih (i + 1) (by omega) (by omega) _ _ _ hP hD hS (lv_sub hl [1, 0] rfl)
          · refine lv_aload_n hx hb dX0_countWetHours_47 rfl (lv_at hl 0 rfl) ?_
            refine x_get (C := RX0) (T := TX0) (N := 16) hx hb hts in_wsX00 hown hK hP 0 rfl rfl 4 (by decide) q70 (v := .ref (a 4)) rfl dX0_countWetHours_48 ?_
            refine lv_iload_n hx hb dX0_countWetHours_51 rfl (lv_at hl 1 rfl) ?_
            refine lv_iconst (v := 1) hx hb dX0_countWetHours_52 (by decide) ?_
            refine x_zst (ws2 := mC cI cZ h a (su (su τ 3 i (wv τ i)) 4 i 1)) hx hb hK hP hD hS 5 1 rfl rfl i (rfl) (by omega) (by decide) (Or.inr rfl) rfl dX0_countWetHours_53 (fun H locs hP hD hS => ?_)
            refine lv_iinc (v := (nI (i + 1))) (lv' := [(1, .int (nI (i + 1))), (0, .ref h)]) hx hb dX0_countWetHours_54 hl (k := 1) rfl (nI_add i 1) (by decide) rfl (fun ls hl => ?_)
            refine lv_goto (tgt := 2) hx hb dX0_countWetHours_57 (by decide) ?_
            have e9 : su (su τ 3 i (wv τ i)) 4 i 1 = it wetB (i + 1) σ := by
              show _ = wetB i (it wetB i σ)
              rw [← eτ]
              unfold wetB
              rw [if_pos (Int32.not_lt.mp c_44)]
            rw [e9] at hP hD
            exact ih (i + 1) (by omega) (by omega) _ _ _ hP hD hS (lv_sub hl [1, 0] rfl)
        · refine lv_aload_n hx hb dX0_countWetHours_23 rfl (lv_at hl 0 rfl) ?_
          refine x_get (C := RX0) (T := TX0) (N := 16) hx hb hts in_wsX00 hown hK hP 0 rfl rfl 3 (by decide) q68 (v := .ref (a 3)) rfl dX0_countWetHours_24 ?_
          refine lv_iload_n hx hb dX0_countWetHours_27 rfl (lv_at hl 1 rfl) ?_
          refine x_ild hx hb hK hP 4 0 rfl rfl i (rfl) (by omega) (by decide) (v := τ 3 i) rfl dX0_countWetHours_28 ?_
          refine lv_iconst (v := 1) hx hb dX0_countWetHours_29 (by decide) ?_
          refine lv_iadd hx hb dX0_countWetHours_30 ?_
          refine lv_goto (tgt := 35) hx hb dX0_countWetHours_31 (by decide) ?_
          refine x_top (wv_1 c_20).symm ?_
          refine x_ist (ws2 := mC cI cZ h a (su τ 3 i (wv τ i))) hx hb hK hP hD hS 4 0 rfl rfl i (rfl) (by omega) (by decide) rfl dX0_countWetHours_35 (fun H locs hP hD hS => ?_)
          refine lv_aload_n hx hb dX0_countWetHours_36 rfl (lv_at hl 0 rfl) ?_
          refine x_get (C := RX0) (T := TX0) (N := 16) hx hb hts in_wsX00 hown hK hP 0 rfl rfl 3 (by decide) q68 (v := .ref (a 3)) rfl dX0_countWetHours_37 ?_
          refine lv_iload_n hx hb dX0_countWetHours_40 rfl (lv_at hl 1 rfl) ?_
          refine x_ild hx hb hK hP 4 0 rfl rfl i (rfl) (by omega) (by decide) (v := wv τ i) pk_us dX0_countWetHours_41 ?_
          refine lv_bipush (v := 6) hx hb dX0_countWetHours_42 (by decide) ?_
          refine lv_icmp_lt (tgt := 54) hx hb dX0_countWetHours_44 (by decide) (fun c_44 => ?_) (fun c_44 => ?_)
          · refine lv_iinc (v := (nI (i + 1))) (lv' := [(1, .int (nI (i + 1))), (0, .ref h)]) hx hb dX0_countWetHours_54 hl (k := 1) rfl (nI_add i 1) (by decide) rfl (fun ls hl => ?_)
            refine lv_goto (tgt := 2) hx hb dX0_countWetHours_57 (by decide) ?_
            have e9 : su τ 3 i (wv τ i) = it wetB (i + 1) σ := by
              show _ = wetB i (it wetB i σ)
              rw [← eτ]
              unfold wetB
              rw [if_neg (Int32.not_le.mpr c_44)]
            rw [e9] at hP hD
            exact ih (i + 1) (by omega) (by omega) _ _ _ hP hD hS (lv_sub hl [1, 0] rfl)
          · refine lv_aload_n hx hb dX0_countWetHours_47 rfl (lv_at hl 0 rfl) ?_
            refine x_get (C := RX0) (T := TX0) (N := 16) hx hb hts in_wsX00 hown hK hP 0 rfl rfl 4 (by decide) q70 (v := .ref (a 4)) rfl dX0_countWetHours_48 ?_
            refine lv_iload_n hx hb dX0_countWetHours_51 rfl (lv_at hl 1 rfl) ?_
            refine lv_iconst (v := 1) hx hb dX0_countWetHours_52 (by decide) ?_
            refine x_zst (ws2 := mC cI cZ h a (su (su τ 3 i (wv τ i)) 4 i 1)) hx hb hK hP hD hS 5 1 rfl rfl i (rfl) (by omega) (by decide) (Or.inr rfl) rfl dX0_countWetHours_53 (fun H locs hP hD hS => ?_)
            refine lv_iinc (v := (nI (i + 1))) (lv' := [(1, .int (nI (i + 1))), (0, .ref h)]) hx hb dX0_countWetHours_54 hl (k := 1) rfl (nI_add i 1) (by decide) rfl (fun ls hl => ?_)
            refine lv_goto (tgt := 2) hx hb dX0_countWetHours_57 (by decide) ?_
            have e9 : su (su τ 3 i (wv τ i)) 4 i 1 = it wetB (i + 1) σ := by
              show _ = wetB i (it wetB i σ)
              rw [← eτ]
              unfold wetB
              rw [if_pos (Int32.not_lt.mp c_44)]
            rw [e9] at hP hD
            exact ih (i + 1) (by omega) (by omega) _ _ _ hP hD hS (lv_sub hl [1, 0] rfl)
  exact L2 (n + 1) 0 (by omega) (by omega) _ _ _ hP hD hS (lv_sub hl [1, 0] rfl)

abbrev rmX0_passHour : Room := { frames := 3, cells := 0, slots := 0, locals := 84 }
theorem b_X0_passHour : Cond.instanceMethod yX0_passHour ∈ LW ∧ Cond.selects RX0 yX0_passHour yX0_passHour ∈ LW ∧ Cond.initialized RX0 ∈ LW ∧ Cond.code yX0_passHour cX0_passHour 2 none ∈ LW := ⟨q212, q213, q39, q214⟩
set_option maxHeartbeats 4000000 in
set_option maxRecDepth 100000 in
theorem c_X0_passHour (l : Launch) (D : va_G) (cI cZ cL : ClassId) {n k : Nat} (h : Nat) (a : Nat → Nat) (σ : Sg) (hst : Shp n k σ) : MC l yX0_passHour cX0_passHour 2 none rmX0_passHour D (tZ cI cZ cL) [.ref h] (mC cI cZ h a σ) (mC cI cZ h a (hour σ)) (none) := by
  refine MC.of (by decide) (Nat.le_of_ble_eq_true rfl) ?_
  intro p e s m args below meth c A ls Q hx hb hml hr hts hown hlocks hA hP hD hK hS hl hQ
  have hown : s.vm.findClass RX0 = some m.cls := hown
  have hn10 := hst.1
  have hk16 := hst.2.1
  have hl : lv_has ls 2 [(0, .ref h)] := hl
  refine lv_iconst (v := 0) hx hb dX0_passHour_0 (by decide) ?_
  refine lv_istore_n (lv' := [(1, .int 0), (0, .ref h)]) hx hb dX0_passHour_1 rfl hl (by decide) rfl (fun ls hl => ?_)
  have hl : lv_has ls 2 [(1, .int (nI 0)), (0, .ref h)] := hl
  have L2 : ∀ (f i : Nat), i ≤ n → n < i + f → ∀ (H : Heap) (locs : List Loc) (ls : Array Slot), va_P D vwCl (mC cI cZ h a (it rainB i σ)) H → va_D A (mC cI cZ h a (it rainB i σ)) → va_S A s.heap H locs → lv_has ls 2 [(0, .ref h), (1, .int (nI i))] → W p l e rmX0_passHour s m args below meth c H locs 0 0 Q (F0 m 2 ls []) := by
    intro f
    induction f with
    | zero => intro i h1 h2; exact absurd h2 (by omega)
    | succ f ih =>
      intro i hi_2 hf_2 H locs ls hP hD hS hl
      obtain ⟨τ, eτ⟩ : ∃ z, z = it rainB i σ := ⟨_, rfl⟩
      rw [← eτ] at hP hD
      have hst9 : Shp n k τ := by rw [eτ]; exact hst.iter Shp.rain i
      refine lv_iload_n hx hb dX0_passHour_2 rfl (lv_at hl 1 rfl) ?_
      refine lv_aload_n hx hb dX0_passHour_3 rfl (lv_at hl 0 rfl) ?_
      refine x_get (C := RX0) (T := TX0) (N := 16) hx hb hts in_wsX00 hown hK hP 0 rfl rfl 11 (by decide) q83 (v := .int (nI n)) (congrArg (fun z => some (Value.int z)) (hst9.f0)) dX0_passHour_4 ?_
      refine lv_icmp_ge (tgt := 29) hx hb dX0_passHour_7 (by decide) (fun c_7 => ?_) (fun c_7 => ?_)
      · have hc_7 : n ≤ i := (nI_leI (a := n) (b := i) (by omega) (by omega)).mp c_7
        refine lv_iconst (v := 0) hx hb dX0_passHour_29 (by decide) ?_
        refine lv_istore_n (lv' := [(1, .int 0), (0, .ref h)]) hx hb dX0_passHour_30 rfl hl (by decide) rfl (fun ls hl => ?_)
        have eh1 : τ = hour1 σ := by rw [eτ]; unfold hour1; rw [hst.eF, show i = n by omega]
        rw [eh1] at hP hD
        have hs1 : Shp n k (hour1 σ) := hst.h1
        have hl : lv_has ls 2 [(1, .int (nI 0)), (0, .ref h)] := hl
        have L31 : ∀ (f j : Nat), j ≤ k → k < j + f → ∀ (H : Heap) (locs : List Loc) (ls : Array Slot), va_P D vwCl (mC cI cZ h a (it carryB j (hour1 σ))) H → va_D A (mC cI cZ h a (it carryB j (hour1 σ))) → va_S A s.heap H locs → lv_has ls 2 [(0, .ref h), (1, .int (nI j))] → W p l e rmX0_passHour s m args below meth c H locs 0 0 Q (F0 m 31 ls []) := by
          intro f
          induction f with
          | zero => intro j h1 h2; exact absurd h2 (by omega)
          | succ f ih =>
            intro j hi_31 hf_31 H locs ls hP hD hS hl
            obtain ⟨τ2, eτ2⟩ : ∃ z, z = it carryB j (hour1 σ) := ⟨_, rfl⟩
            rw [← eτ2] at hP hD
            have hst8 : Shp n k τ2 := by rw [eτ2]; exact hs1.iter Shp.carry j
            refine lv_iload_n hx hb dX0_passHour_31 rfl (lv_at hl 1 rfl) ?_
            refine lv_aload_n hx hb dX0_passHour_32 rfl (lv_at hl 0 rfl) ?_
            refine x_get (C := RX0) (T := TX0) (N := 16) hx hb hts in_wsX00 hown hK hP 0 rfl rfl 12 (by decide) q85 (v := .int (nI k)) (congrArg (fun z => some (Value.int z)) (hst8.f1)) dX0_passHour_33 ?_
            refine lv_icmp_ge (tgt := 55) hx hb dX0_passHour_36 (by decide) (fun c_36 => ?_) (fun c_36 => ?_)
            · have hc_36 : k ≤ j := (nI_leI (a := k) (b := j) (by omega) (by omega)).mp c_36
              refine lv_aload_n hx hb dX0_passHour_55 rfl (lv_at hl 0 rfl) ?_
              have eh2 : τ2 = hour2 σ := by rw [eτ2]; unfold hour2; rw [hst.eD, show j = k by omega]
              rw [eh2] at hP hD
              refine MC.callV (C := RX0) (T := TX0) (N := 16) (As := []) (rest := []) (wB := mC cI cZ h a (it wetB (nF (hour2 σ)) (hour2 σ))) (c_X0_countWetHours l D cI cZ cL h a (hour2 σ) hst.h2) ⟨hx, hb, hml, hown, hts⟩ q237 b_X0_countWetHours (n := 0) (by decide +kernel) ⟨Nat.le_of_ble_eq_true rfl, Nat.le_of_ble_eq_true rfl⟩ hK hP hD hS hA (sp0 _) (sp0 _) (ci := 0) rfl (q0 := 0) rfl rfl hl.1 rfl (Nat.le_of_ble_eq_true rfl) dX0_passHour_56 ⟨Nat.le_of_ble_eq_true rfl, Nat.le_of_ble_eq_true rfl⟩ (fun H locs hP hD hS => ?_)
              have eh3 : it wetB (nF (hour2 σ)) (hour2 σ) = hour3 σ := by unfold hour3; rw [hst.eF, hst.h2.eF]
              rw [eh3] at hP hD
              refine lv_aload_n hx hb dX0_passHour_59 rfl (lv_at hl 0 rfl) ?_
              refine lv_dup hx hb dX0_passHour_60 rfl ?_
              refine x_get (C := RX0) (T := TX0) (N := 16) hx hb hts in_wsX00 hown hK hP 0 rfl rfl 15 (by decide) q92 (v := .int ((hour3 σ) 11 4)) rfl dX0_passHour_61 ?_
              refine lv_iconst (v := 1) hx hb dX0_passHour_64 (by decide) ?_
              refine lv_iadd hx hb dX0_passHour_65 ?_
              refine x_put (C := RX0) (T := TX0) (N := 16) (ws2 := mC cI cZ h a (sc (hour3 σ) 4 (((hour3 σ) 11 4) + 1))) hx hb hts in_wsX00 tyX0_ok nmX0 hown hK hP hD hS 0 rfl rfl 15 (by decide) q92 rfl (by decide +kernel) (Nat.le_of_ble_eq_true rfl) rfl dX0_passHour_66 (fun H locs hP hD hS => ?_)
              subst hQ
              exact rv hx hb hr hlocks hK hP hD hS dX0_passHour_69 (rfl)
            · have hc_36 : j < k := Nat.not_le.mp (fun z => c_36 ((nI_leI (a := k) (b := j) (by omega) (by omega)).mpr z))
              refine lv_aload_n hx hb dX0_passHour_39 rfl (lv_at hl 0 rfl) ?_
              refine lv_iload_n hx hb dX0_passHour_40 rfl (lv_at hl 1 rfl) ?_
              refine lv_aload_n hx hb dX0_passHour_41 rfl (lv_at hl 0 rfl) ?_
              refine lv_iload_n hx hb dX0_passHour_42 rfl (lv_at hl 1 rfl) ?_
              refine MC.callV (C := RX0) (T := TX0) (N := 16) (As := [.int (nI j)]) (rest := [.int (nI j), .ref h]) (wB := mC cI cZ h a τ2) (c_X0_flowNow l D cI cZ cL h a τ2 hst8 j (by omega)) ⟨hx, hb, hml, hown, hts⟩ q215 b_X0_flowNow (n := 1) (by decide +kernel) ⟨Nat.le_of_ble_eq_true rfl, Nat.le_of_ble_eq_true rfl⟩ hK hP hD hS hA (sp0 _) (sp0 _) (ci := 0) rfl (q0 := 0) rfl rfl hl.1 rfl (Nat.le_of_ble_eq_true rfl) dX0_passHour_43 ⟨Nat.le_of_ble_eq_true rfl, Nat.le_of_ble_eq_true rfl⟩ (fun H locs hP hD hS => ?_)
              refine MC.callV (C := RX0) (T := TX0) (N := 16) (As := [.int (nI j), .int (flow τ2 j)]) (rest := []) (wB := mC cI cZ h a (letF j (flow τ2 j) τ2)) (c_X0_letFlow l D cI cZ cL h a τ2 hst8 j (by omega) (flow τ2 j)) ⟨hx, hb, hml, hown, hts⟩ q226 b_X0_letFlow (n := 2) (by decide +kernel) ⟨Nat.le_of_ble_eq_true rfl, Nat.le_of_ble_eq_true rfl⟩ hK hP hD hS hA (sp0 _) (sp0 _) (ci := 0) rfl (q0 := 0) rfl rfl hl.1 rfl (Nat.le_of_ble_eq_true rfl) dX0_passHour_46 ⟨Nat.le_of_ble_eq_true rfl, Nat.le_of_ble_eq_true rfl⟩ (fun H locs hP hD hS => ?_)
              refine lv_iinc (v := (nI (j + 1))) (lv' := [(1, .int (nI (j + 1))), (0, .ref h)]) hx hb dX0_passHour_49 hl (k := 1) rfl (nI_add j 1) (by decide) rfl (fun ls hl => ?_)
              refine lv_goto (tgt := 31) hx hb dX0_passHour_52 (by decide) ?_
              have e9 : letF j (flow τ2 j) τ2 = it carryB (j + 1) (hour1 σ) := by rw [eτ2]; rfl
              rw [e9] at hP hD
              exact ih (j + 1) (by omega) (by omega) _ _ _ hP hD hS (lv_sub hl [1, 0] rfl)
        exact L31 (k + 1) 0 (by omega) (by omega) _ _ _ hP hD hS (lv_sub hl [1, 0] rfl)
      · have hc_7 : i < n := Nat.not_le.mp (fun z => c_7 ((nI_leI (a := n) (b := i) (by omega) (by omega)).mpr z))
        refine lv_aload_n hx hb dX0_passHour_10 rfl (lv_at hl 0 rfl) ?_
        refine x_get (C := RX0) (T := TX0) (N := 16) hx hb hts in_wsX00 hown hK hP 0 rfl rfl 2 (by decide) q66 (v := .ref (a 2)) rfl dX0_passHour_11 ?_
        refine lv_iload_n hx hb dX0_passHour_14 rfl (lv_at hl 1 rfl) ?_
        refine lv_dup2_11 hx hb dX0_passHour_15 rfl rfl ?_
        refine x_ild hx hb hK hP 3 0 rfl rfl i (rfl) (by omega) (by decide) (v := τ 2 i) rfl dX0_passHour_16 ?_
        refine lv_aload_n hx hb dX0_passHour_17 rfl (lv_at hl 0 rfl) ?_
        refine x_get (C := RX0) (T := TX0) (N := 16) hx hb hts in_wsX00 hown hK hP 0 rfl rfl 13 (by decide) q88 (v := .int (τ 11 2)) rfl dX0_passHour_18 ?_
        refine lv_iadd hx hb dX0_passHour_21 ?_
        refine x_ist (ws2 := mC cI cZ h a (su τ 2 i ((τ 2 i) + (τ 11 2)))) hx hb hK hP hD hS 3 0 rfl rfl i (rfl) (by omega) (by decide) rfl dX0_passHour_22 (fun H locs hP hD hS => ?_)
        refine lv_iinc (v := (nI (i + 1))) (lv' := [(1, .int (nI (i + 1))), (0, .ref h)]) hx hb dX0_passHour_23 hl (k := 1) rfl (nI_add i 1) (by decide) rfl (fun ls hl => ?_)
        refine lv_goto (tgt := 2) hx hb dX0_passHour_26 (by decide) ?_
        have e9 : su τ 2 i ((τ 2 i) + (τ 11 2)) = it rainB (i + 1) σ := by rw [eτ]; rfl
        rw [e9] at hP hD
        exact ih (i + 1) (by omega) (by omega) _ _ _ hP hD hS (lv_sub hl [1, 0] rfl)
  exact L2 (n + 1) 0 (by omega) (by omega) _ _ _ hP hD hS (lv_sub hl [1, 0] rfl)

abbrev rmX0_passHours : Room := { frames := 4, cells := 0, slots := 0, locals := 105 }
theorem b_X0_passHours : Cond.instanceMethod yX0_passHours ∈ LW ∧ Cond.selects RX0 yX0_passHours yX0_passHours ∈ LW ∧ Cond.initialized RX0 ∈ LW ∧ Cond.code yX0_passHours cX0_passHours 3 none ∈ LW := ⟨q208, q209, q39, q210⟩
set_option maxHeartbeats 4000000 in
set_option maxRecDepth 100000 in
theorem c_X0_passHours (l : Launch) (D : va_G) (cI cZ cL : ClassId) {n k : Nat} (h : Nat) (a : Nat → Nat) (σ : Sg) (hst : Shp n k σ) (t : Nat) (ht : t < 1000) : MC l yX0_passHours cX0_passHours 3 none rmX0_passHours D (tZ cI cZ cL) [.ref h, .int (nI t)] (mC cI cZ h a σ) (mC cI cZ h a (hours t σ)) (none) := by
  refine MC.of (by decide) (Nat.le_of_ble_eq_true rfl) ?_
  intro p e s m args below meth c A ls Q hx hb hml hr hts hown hlocks hA hP hD hK hS hl hQ
  have hown : s.vm.findClass RX0 = some m.cls := hown
  have hn10 := hst.1
  have hk16 := hst.2.1
  have hl : lv_has ls 3 [(0, .ref h), (1, .int (nI t))] := hl
  refine lv_iconst (v := 0) hx hb dX0_passHours_0 (by decide) ?_
  refine lv_istore_n (lv' := [(2, .int 0), (0, .ref h), (1, .int (nI t))]) hx hb dX0_passHours_1 rfl hl (by decide) rfl (fun ls hl => ?_)
  have hl : lv_has ls 3 [(2, .int (nI 0)), (0, .ref h), (1, .int (nI t))] := hl
  have L2 : ∀ (f i : Nat), i ≤ t → t < i + f → ∀ (H : Heap) (locs : List Loc) (ls : Array Slot), va_P D vwCl (mC cI cZ h a (hours i σ)) H → va_D A (mC cI cZ h a (hours i σ)) → va_S A s.heap H locs → lv_has ls 3 [(0, .ref h), (1, .int (nI t)), (2, .int (nI i))] → W p l e rmX0_passHours s m args below meth c H locs 0 0 Q (F0 m 2 ls []) := by
    intro f
    induction f with
    | zero => intro i h1 h2; exact absurd h2 (by omega)
    | succ f ih =>
      intro i hi_2 hf_2 H locs ls hP hD hS hl
      obtain ⟨τ, eτ⟩ : ∃ z, z = hours i σ := ⟨_, rfl⟩
      rw [← eτ] at hP hD
      have hst9 : Shp n k τ := by rw [eτ]; exact hst.hrs i
      refine lv_iload_n hx hb dX0_passHours_2 rfl (lv_at hl 2 rfl) ?_
      refine lv_iload_n hx hb dX0_passHours_3 rfl (lv_at hl 1 rfl) ?_
      refine lv_icmp_ge (tgt := 17) hx hb dX0_passHours_4 (by decide) (fun c_4 => ?_) (fun c_4 => ?_)
      · have hc_4 : t ≤ i := (nI_leI (a := t) (b := i) (by omega) (by omega)).mp c_4
        subst hQ
        exact rv hx hb hr hlocks hK hP hD hS dX0_passHours_17 (by rw [eτ, show i = t by omega])
      · have hc_4 : i < t := Nat.not_le.mp (fun z => c_4 ((nI_leI (a := t) (b := i) (by omega) (by omega)).mpr z))
        refine lv_aload_n hx hb dX0_passHours_7 rfl (lv_at hl 0 rfl) ?_
        refine MC.callV (C := RX0) (T := TX0) (N := 16) (As := []) (rest := []) (wB := mC cI cZ h a (hour τ)) (c_X0_passHour l D cI cZ cL h a τ hst9) ⟨hx, hb, hml, hown, hts⟩ q211 b_X0_passHour (n := 0) (by decide +kernel) ⟨Nat.le_of_ble_eq_true rfl, Nat.le_of_ble_eq_true rfl⟩ hK hP hD hS hA (sp0 _) (sp0 _) (ci := 0) rfl (q0 := 0) rfl rfl hl.1 rfl (Nat.le_of_ble_eq_true rfl) dX0_passHours_8 ⟨Nat.le_of_ble_eq_true rfl, Nat.le_of_ble_eq_true rfl⟩ (fun H locs hP hD hS => ?_)
        refine lv_iinc (v := (nI (i + 1))) (lv' := [(2, .int (nI (i + 1))), (0, .ref h), (1, .int (nI t))]) hx hb dX0_passHours_11 hl (k := 2) rfl (nI_add i 1) (by decide) rfl (fun ls hl => ?_)
        refine lv_goto (tgt := 2) hx hb dX0_passHours_14 (by decide) ?_
        have e9 : hour τ = hours (i + 1) σ := by rw [eτ]; rfl
        rw [e9] at hP hD
        exact ih (i + 1) (by omega) (by omega) _ _ _ hP hD hS (lv_sub hl [1, 2, 0] rfl)
  exact L2 (t + 1) 0 (by omega) (by omega) _ _ _ hP hD hS (lv_sub hl [1, 2, 0] rfl)
end
section
-- PURE: the model's one row of numbers, bounds, and the flow told in its way
/-- the model's row of all that hours change -/
def nowF (σ : Sg) : Nat → Int32 := fun j => if j < 2 then (if j = 0 then σ 11 4 else σ 11 3) else if j < 12 then σ 2 (j - 2) else if j < 22 then σ 3 (j - 12) else if j < 32 then σ 4 (j - 22) else σ 8 (j - 32)
/-- the cells of the model -/
def rC (cI cZ : ClassId) (m : Nat) (b : Nat → Nat) (σ : Sg) (κ ζ : Nat → Int32) (t : Int32) : va_W :=
  [(m, .inr (2, [.int t, .int (σ 11 0), .int (σ 11 1), .int (σ 11 2), .ref (b 0), .ref (b 1), .ref (b 2), .ref (b 3), .ref (b 4), .ref (b 5), .ref (b 6), .ref (b 7), .ref (b 8), .ref (b 9)])),
   (b 0, .inl (cI, 10, .inl (σ 0))), (b 1, .inl (cI, 10, .inl (σ 1))), (b 2, .inl (cI, 16, .inl (σ 5))), (b 3, .inl (cI, 16, .inl (σ 6))), (b 4, .inl (cI, 16, .inl (σ 7))), (b 5, .inl (cZ, 16, .inl (σ 9))), (b 6, .inl (cZ, 16, .inl (σ 10))), (b 7, .inl (cI, 48, .inl (nowF σ))), (b 8, .inl (cI, 48, .inl κ)), (b 9, .inl (cZ, 10, .inl ζ))]
theorem nw_0 (σ : Sg) : nowF σ 0 = σ 11 4 := rfl
theorem nw_1 (σ : Sg) : nowF σ 1 = σ 11 3 := rfl
theorem nw_2 (σ : Sg) {f : Nat} (h : f < 10) : nowF σ (2 + f) = σ 2 f := by
  unfold nowF
  rw [if_neg (by omega), if_pos (by omega), show 2 + f - 2 = f by omega]
theorem nw_12 (σ : Sg) {f : Nat} (h : f < 10) : nowF σ (12 + f) = σ 3 f := by
  unfold nowF
  rw [if_neg (by omega), if_neg (by omega), if_pos (by omega), show 12 + f - 12 = f by omega]
theorem nw_22 (σ : Sg) {f : Nat} (h : f < 10) : nowF σ (22 + f) = σ 4 f := by
  unfold nowF
  rw [if_neg (by omega), if_neg (by omega), if_neg (by omega), if_pos (by omega), show 22 + f - 22 = f by omega]
theorem nw_32 (σ : Sg) (d : Nat) : nowF σ (32 + d) = σ 8 d := by
  unfold nowF
  rw [if_neg (by omega), if_neg (by omega), if_neg (by omega), if_neg (by omega), show 32 + d - 32 = d by omega]
theorem nwu_0 (σ : Sg) (x : Int32) : upd (nowF σ) 0 x = nowF (sc σ 4 x) := by
  funext j
  unfold upd nowF
  by_cases h : j = 0
  · subst h; rfl
  · rw [if_neg h, if_neg h, if_neg h]; rfl
theorem nwu_1 (σ : Sg) (x : Int32) : upd (nowF σ) 1 x = nowF (sc σ 3 x) := by
  funext j
  unfold upd nowF
  by_cases h : j = 1
  · subst h; rfl
  · rw [if_neg h]
    by_cases h2 : j < 2
    · have : j = 0 := by omega
      subst this; rfl
    · rw [if_neg h2, if_neg h2]; rfl
theorem nwu_2 (σ : Sg) {f : Nat} (x : Int32) (h : f < 10) : upd (nowF σ) (2 + f) x = nowF (su σ 2 f x) := by
  funext j
  by_cases e : j = 2 + f
  · subst e
    rw [nw_2 _ h]
    show upd _ _ _ _ = upd (σ 2) f x f
    rw [pk_us, pk_us]
  · rw [pk_un e]
    unfold nowF
    by_cases h1 : j < 2
    · rw [if_pos h1, if_pos h1]; rfl
    · rw [if_neg h1, if_neg h1]
      by_cases h2 : j < 12
      · rw [if_pos h2, if_pos h2]
        show _ = upd (σ 2) f x (j - 2)
        rw [pk_un (by omega)]
      · rw [if_neg h2, if_neg h2]; rfl
theorem nwu_12 (σ : Sg) {f : Nat} (x : Int32) (h : f < 10) : upd (nowF σ) (12 + f) x = nowF (su σ 3 f x) := by
  funext j
  by_cases e : j = 12 + f
  · subst e
    rw [nw_12 _ h]
    show upd _ _ _ _ = upd (σ 3) f x f
    rw [pk_us, pk_us]
  · rw [pk_un e]
    unfold nowF
    by_cases h1 : j < 2
    · rw [if_pos h1, if_pos h1]; rfl
    · rw [if_neg h1, if_neg h1]
      by_cases h2 : j < 12
      · rw [if_pos h2, if_pos h2]; rfl
      · rw [if_neg h2, if_neg h2]
        by_cases h3 : j < 22
        · rw [if_pos h3, if_pos h3]
          show _ = upd (σ 3) f x (j - 12)
          rw [pk_un (by omega)]
        · rw [if_neg h3, if_neg h3]; rfl
theorem nwu_22 (σ : Sg) {f : Nat} (x : Int32) (h : f < 10) : upd (nowF σ) (22 + f) x = nowF (su σ 4 f x) := by
  funext j
  by_cases e : j = 22 + f
  · subst e
    rw [nw_22 _ h]
    show upd _ _ _ _ = upd (σ 4) f x f
    rw [pk_us, pk_us]
  · rw [pk_un e]
    unfold nowF
    by_cases h1 : j < 2
    · rw [if_pos h1, if_pos h1]; rfl
    · rw [if_neg h1, if_neg h1]
      by_cases h2 : j < 12
      · rw [if_pos h2, if_pos h2]; rfl
      · rw [if_neg h2, if_neg h2]
        by_cases h3 : j < 22
        · rw [if_pos h3, if_pos h3]; rfl
        · rw [if_neg h3, if_neg h3]
          by_cases h4 : j < 32
          · rw [if_pos h4, if_pos h4]
            show _ = upd (σ 4) f x (j - 22)
            rw [pk_un (by omega)]
          · rw [if_neg h4, if_neg h4]; rfl
theorem nwu_32 (σ : Sg) (d : Nat) (x : Int32) : upd (nowF σ) (32 + d) x = nowF (su σ 8 d x) := by
  funext j
  by_cases e : j = 32 + d
  · subst e
    rw [nw_32]
    show upd _ _ _ _ = upd (σ 8) d x d
    rw [pk_us, pk_us]
  · rw [pk_un e]
    unfold nowF
    by_cases h1 : j < 2
    · rw [if_pos h1, if_pos h1]; rfl
    · rw [if_neg h1, if_neg h1]
      by_cases h2 : j < 12
      · rw [if_pos h2, if_pos h2]; rfl
      · rw [if_neg h2, if_neg h2]
        by_cases h3 : j < 22
        · rw [if_pos h3, if_pos h3]; rfl
        · rw [if_neg h3, if_neg h3]
          by_cases h4 : j < 32
          · rw [if_pos h4, if_pos h4]; rfl
          · rw [if_neg h4, if_neg h4]
            show _ = upd (σ 8) d x (j - 32)
            rw [pk_un (by omega)]
-- places of a state
theorem sr_eq (σ : Sg) (i : Nat) (f : Nat → Int32) : sr σ i f i = f := by
  unfold sr
  rw [show Nat.beq i i = true from Nat.beq_refl i]
  rfl
theorem sr_ne (σ : Sg) {i r : Nat} (f : Nat → Int32) (h : ¬ r = i) : sr σ i f r = σ r := by
  unfold sr
  rw [show Nat.beq r i = false from by
    cases q : Nat.beq r i
    · rfl
    · exact absurd (Nat.eq_of_beq_eq_true q) h]
  rfl
theorem sr_comm (σ : Sg) {i r : Nat} (f g : Nat → Int32) (h : ¬ i = r) : sr (sr σ i f) r g = sr (sr σ r g) i f := by
  funext q
  by_cases h1 : q = i
  · subst h1
    rw [sr_ne _ _ h, sr_eq, sr_eq]
  · by_cases h2 : q = r
    · subst h2
      rw [sr_eq, sr_ne _ _ h1, sr_eq]
    · rw [sr_ne _ _ h2, sr_ne _ _ h1, sr_ne _ _ h1, sr_ne _ _ h2]
theorem su_comm (σ : Sg) {i r : Nat} (j l : Nat) (x y : Int32) (h : ¬ i = r) : su (su σ i j x) r l y = su (su σ r l y) i j x := by
  unfold su
  rw [sr_ne _ _ (fun q => h q.symm), sr_ne _ _ h]
  exact sr_comm σ _ _ h
theorem su_sc (σ : Sg) {i : Nat} (j l : Nat) (x y : Int32) (h : ¬ i = 11) : sc (su σ i j x) l y = su (sc σ l y) i j x := by
  unfold su sc
  rw [sr_ne _ _ (fun q => h q.symm), sr_ne _ _ h]
  exact sr_comm σ _ _ h
theorem su_in (σ : Sg) (i j : Nat) (x : Int32) : su σ i j x i j = x := by
  unfold su
  rw [sr_eq, pk_us]
theorem su_out (σ : Sg) (i : Nat) {j l : Nat} (x : Int32) (h : ¬ l = j) : su σ i j x i l = σ i l := by
  unfold su
  rw [sr_eq, pk_un h]
theorem su_row (σ : Sg) {i r : Nat} (j : Nat) (x : Int32) (h : ¬ r = i) : su σ i j x r = σ r := by
  unfold su
  rw [sr_ne _ _ h]
theorem sc_row (σ : Sg) {r : Nat} (j : Nat) (x : Int32) (h : ¬ r = 11) : sc σ j x r = σ r := by
  unfold sc
  rw [sr_ne _ _ h]
theorem sr_same (σ : Sg) (i : Nat) : sr σ i (σ i) = σ := by
  funext r
  by_cases h : r = i
  · subst h; rw [sr_eq]
  · rw [sr_ne _ _ h]
theorem sr_sr (σ : Sg) (i : Nat) (f g : Nat → Int32) : sr (sr σ i f) i g = sr σ i g := by
  funext r
  by_cases h : r = i
  · subst h; rw [sr_eq, sr_eq]
  · rw [sr_ne _ _ h, sr_ne _ _ h, sr_ne _ _ h]
-- small numbers
theorem mn_nI {a b : Nat} (ha : a < 2 ^ 31) (hb : b < 2 ^ 31) : mn (nI a) (nI b) = nI (min a b) := by
  unfold mn
  by_cases h : b < a
  · rw [if_pos (nI_lt h ha), show min a b = b by omega]
  · rw [if_neg (nI_nlt (by omega) hb), show min a b = a by omega]
theorem ab_nI {a : Nat} (ha : a < 2 ^ 31) : ab (nI a) = nI a := by
  unfold ab
  rw [if_pos (nI_pos' ha)]
theorem neg_nI {a : Nat} (ha : a < 2 ^ 31) : (-nI a).toInt = -(a : Int) := sb_negT ha
theorem le_neg {a : Nat} (ha : a < 2 ^ 31) : 0 ≤ -nI a ↔ a = 0 := by
  rw [Int32.le_iff_toInt_le, neg_nI ha]
  simp
theorem ab_neg {a : Nat} (ha : a < 2 ^ 31) : ab (-nI a) = nI a := by
  unfold ab
  by_cases h : a = 0
  · subst h; rfl
  · rw [if_neg (fun q => h ((le_neg ha).mp q))]
    simp
theorem sub_nI {a b : Nat} (h : a ≤ b) : nI a - nI b = -nI (b - a) := by
  rw [← pk_sub h]
  simp
theorem ndiv2 {k : Nat} (hk : k < 2 ^ 31) : (-nI k) / 2 = -nI (k / 2) := by
  apply Int32.toInt_inj.mp
  rw [Int32.toInt_div, neg_nI hk, neg_nI (by omega)]
  rw [show (2 : Int32).toInt = 2 from rfl, Int.neg_tdiv]
  rw [Int.tdiv_eq_ediv_of_nonneg (by omega)]
  rw [Int.bmod_eq_of_le (by omega) (by omega)]
  omega
theorem div2 {k : Nat} (hk : k < 2 ^ 31) : nI k / 2 = nI (k / 2) := pk_div (d := 2) hk (by omega) (by omega)
/-- the model's way to tell a ditch's flow -/
theorem flow_two {la lb c wa wb : Nat} (hla : la < 2 ^ 30) (hlb : lb < 2 ^ 30) (hc : c < 2 ^ 30) (hwa : wa < 2 ^ 30) (hwb : wb < 2 ^ 30) :
    (if 0 < nI la - nI lb then mn (mn (nI c) (ab (nI la - nI lb) / 2)) (nI wa) else -mn (mn (nI c) (ab (nI la - nI lb) / 2)) (nI wb)) =
    (if 0 ≤ (nI la - nI lb) / 2 then mn ((nI la - nI lb) / 2) (mn (nI c) (nI wa)) else -mn (-((nI la - nI lb) / 2)) (mn (nI c) (nI wb))) := by
  rcases Nat.lt_or_ge lb la with h | h
  · rw [pk_sub (Nat.le_of_lt h)]
    rw [if_pos (show 0 < nI (la - lb) from nI_lt (a := 0) (by omega) (by omega)), ab_nI (by omega), div2 (by omega)]
    rw [if_pos (nI_pos' (by omega)), mn_nI (by omega) (by omega), mn_nI (by omega) (by omega), mn_nI (by omega) (by omega), mn_nI (by omega) (by omega)]
    congr 1
    omega
  · rw [sub_nI h, ab_neg (by omega), div2 (by omega), ndiv2 (by omega)]
    rw [if_neg (show ¬ 0 < -nI (lb - la) by rw [Int32.lt_iff_toInt_lt, neg_nI (by omega)]; simp)]
    rw [mn_nI (by omega) (by omega), mn_nI (by omega) (by omega)]
    by_cases h0 : (lb - la) / 2 = 0
    · rw [h0, if_pos (by decide), show -nI 0 = nI 0 from rfl, mn_nI (by omega) (by omega), mn_nI (by omega) (by omega)]
      rw [show min (min c 0) wb = 0 by omega, show min 0 (min c wa) = 0 by omega]
      rfl
    · rw [if_neg (fun q => h0 ((le_neg (by omega)).mp q)), Int32.neg_neg, mn_nI (by omega) (by omega), mn_nI (by omega) (by omega)]
      congr 2
      omega
end
section
-- PURE: bounds that hold through hours
def Bnd (B : Nat) (σ : Sg) : Prop := (∀ f, f < 10 → ∃ w, w ≤ B ∧ σ 2 f = nI w) ∧ (∀ f, f < 10 → ∃ w, w ≤ 20 ∧ σ 0 f = nI w) ∧ (∀ d, d < 16 → ∃ w, w ≤ 9 ∧ σ 7 d = nI w) ∧ (∃ w, w ≤ 9 ∧ σ 11 2 = nI w) ∧ (∀ f, f < 10 → σ 4 f = 0 ∨ σ 4 f = 1) ∧ (∀ d, d < 16 → σ 9 d = 0 ∨ σ 9 d = 1) ∧ (∀ d, d < 16 → σ 10 d = 0 ∨ σ 10 d = 1)
theorem Bnd.mono {B C : Nat} {σ : Sg} (h : Bnd B σ) (hBC : B ≤ C) : Bnd C σ := ⟨fun f hf => by obtain ⟨w, h1, h2⟩ := h.1 f hf; exact ⟨w, by omega, h2⟩, h.2⟩
theorem Bnd.rows {B C : Nat} {σ τ : Sg} (h : Bnd B σ) (h2 : ∀ f, f < 10 → ∃ w, w ≤ C ∧ τ 2 f = nI w) (h0 : τ 0 = σ 0) (h7 : τ 7 = σ 7) (h11 : τ 11 2 = σ 11 2) (h4 : ∀ f, f < 10 → τ 4 f = 0 ∨ τ 4 f = 1) (h9 : τ 9 = σ 9) (h10 : τ 10 = σ 10) : Bnd C τ := by
  obtain ⟨-, a1, a2, a3, -, a5, a6⟩ := h
  unfold Bnd
  rw [h0, h7, h11, h9, h10]
  exact ⟨h2, a1, a2, a3, h4, a5, a6⟩
theorem i32_sub3 (a b c : Int32) : a - b - c = a - (b + c) := by
  rw [Int32.sub_eq_add_neg (a - b), Int32.sub_eq_add_neg a b, Int32.sub_eq_add_neg a (b + c), Int32.neg_add, Int32.sub_eq_add_neg (-b) c, Int32.add_assoc]
/-- what a drain carries is at most nine, and at most what there is -/
theorem flow_is {n k B j a : Nat} {σ : Sg} (hst : Shp n k σ) (hB : Bnd B σ) (hB2 : B < 2 ^ 29) (hj : j < k) (ha : a < n) (ea : σ 5 j = nI a) {wa : Nat} (ewa : σ 2 a = nI wa) :
    ∃ v, v ≤ 9 ∧ ((flow σ j = nI v ∧ v ≤ wa) ∨ (∃ b wb, b < n ∧ σ 6 j = nI b ∧ σ 2 b = nI wb ∧ wb ≤ B ∧ flow σ j = -nI v ∧ v ≤ wb)) := by
  have hn := hst.1
  have hk := hst.2.1
  obtain ⟨cc, hc1, hc2⟩ := hB.2.2.1 j (by omega)
  have hwa : wa % 2 ^ 32 ≤ B := by
    obtain ⟨w, h1, h2⟩ := hB.1 a (by omega)
    have : nI w = nI wa := h2.symm.trans ewa
    have h3 := congrArg (fun z => z.toBitVec.toNat) this
    simp only [nI] at h3
    simp at h3
    omega
  unfold flow
  rw [ea, nI_clamp (by omega)]
  unfold flA
  by_cases h10 : σ 10 j = 0
  · rw [if_pos h10]
    exact ⟨0, by omega, Or.inl ⟨rfl, by omega⟩⟩
  · rw [if_neg h10]
    obtain ⟨wa', hwa1, hwa2⟩ := hB.1 a (by omega)
    by_cases h9 : σ 9 j = 0
    · rw [if_neg (fun z => z h9)]
      obtain ⟨b, hb, eb⟩ : ∃ b, b < n ∧ σ 6 j = nI b := by
        rcases hst.2.2.2.2.2 j hj with q | q
        · exact absurd h9 q.2
        · exact q
      rw [eb, nI_clamp (by omega)]
      obtain ⟨wb, hwb1, hwb2⟩ := hB.1 b (by omega)
      obtain ⟨fa, hfa1, hfa2⟩ := hB.2.1 a (by omega)
      obtain ⟨fb, hfb1, hfb2⟩ := hB.2.1 b (by omega)
      unfold flH
      rw [i32_sub3, hfa2, hfb2, hwb2, hc2, hwa2, nI_add, nI_add]
      by_cases h0 : 0 ≤ (nI (fa + wa') - nI (fb + wb)) / 2
      · rw [if_pos h0]
        rcases Nat.lt_or_ge (fa + wa') (fb + wb) with q | q
        · rw [sub_nI (by omega), ndiv2 (by omega)] at h0 ⊢
          have := (le_neg (by omega)).mp h0
          rw [this, show -nI 0 = nI 0 from rfl, mn_nI (by omega) (by omega), mn_nI (by omega) (by omega)]
          exact ⟨0, by omega, Or.inl ⟨by rw [show min 0 (min cc wa') = 0 by omega], by omega⟩⟩
        · rw [pk_sub q, div2 (by omega), mn_nI (by omega) (by omega), mn_nI (by omega) (by omega)]
          refine ⟨_, ?_, Or.inl ⟨rfl, ?_⟩⟩
          · omega
          · have : wa' ≤ wa := by
              have h3 := congrArg (fun z => z.toBitVec.toNat) (hwa2.symm.trans ewa)
              simp only [nI] at h3
              simp at h3
              omega
            omega
      · rw [if_neg h0]
        rcases Nat.lt_or_ge (fa + wa') (fb + wb) with q | q
        · rw [sub_nI (by omega), ndiv2 (by omega), Int32.neg_neg, mn_nI (by omega) (by omega), mn_nI (by omega) (by omega)]
          exact ⟨_, by omega, Or.inr ⟨b, wb, hb, rfl, hwb2, hwb1, rfl, by omega⟩⟩
        · rw [pk_sub q, div2 (by omega)] at h0
          exact absurd (nI_pos' (by omega)) h0
    · rw [if_pos h9, hc2, hwa2, mn_nI (by omega) (by omega)]
      refine ⟨_, ?_, Or.inl ⟨rfl, ?_⟩⟩
      · omega
      · have : wa' ≤ wa := by
          have h3 := congrArg (fun z => z.toBitVec.toNat) (hwa2.symm.trans ewa)
          simp only [nI] at h3
          simp at h3
          omega
        omega
/-- the model's flow is the same -/
theorem flow_ref {n k B j a b : Nat} {σ : Sg} (hst : Shp n k σ) (hB : Bnd B σ) (hB2 : B < 2 ^ 29) (hj : j < k) (ha : a < n) (ea : σ 5 j = nI a) (hb : b < n) (eb : σ 6 j = nI b) (h10 : ¬ σ 10 j = 0) (h9 : σ 9 j = 0) :
    flow σ j = if 0 < (σ 0 a + σ 2 a) - (σ 0 b + σ 2 b) then mn (mn (σ 7 j) (ab ((σ 0 a + σ 2 a) - (σ 0 b + σ 2 b)) / 2)) (σ 2 a) else -mn (mn (σ 7 j) (ab ((σ 0 a + σ 2 a) - (σ 0 b + σ 2 b)) / 2)) (σ 2 b) := by
  have hn := hst.1
  have hk := hst.2.1
  obtain ⟨cc, hc1, hc2⟩ := hB.2.2.1 j (by omega)
  obtain ⟨wa, hwa1, hwa2⟩ := hB.1 a (by omega)
  obtain ⟨wb, hwb1, hwb2⟩ := hB.1 b (by omega)
  obtain ⟨fa, hfa1, hfa2⟩ := hB.2.1 a (by omega)
  obtain ⟨fb, hfb1, hfb2⟩ := hB.2.1 b (by omega)
  unfold flow
  rw [ea, eb, nI_clamp (by omega), nI_clamp (by omega)]
  unfold flA flH
  rw [if_neg h10, if_neg (fun z => z h9), i32_sub3, hfa2, hfb2, hwa2, hwb2, hc2, nI_add, nI_add]
  exact (flow_two (by omega) (by omega) (by omega) (by omega) (by omega)).symm
theorem Bnd.rain {B i : Nat} {σ : Sg} (hB : Bnd B σ) : Bnd (B + 9) (rainB i σ) := by
  obtain ⟨r, hr1, hr2⟩ := hB.2.2.2.1
  refine hB.rows (fun f hf => ?_) rfl rfl rfl hB.2.2.2.2.1 rfl rfl
  obtain ⟨w, h1, h2⟩ := hB.1 f hf
  by_cases e : f = i
  · subst e
    refine ⟨w + r, by omega, ?_⟩
    show upd (σ 2) f _ f = _
    rw [pk_us, h2, hr2, nI_add]
  · refine ⟨w, by omega, ?_⟩
    show upd (σ 2) i _ f = _
    rw [pk_un e, h2]
theorem Bnd.wet {B i : Nat} {σ : Sg} (hB : Bnd B σ) : Bnd B (wetB i σ) := by
  unfold wetB
  split
  · refine hB.rows hB.1 rfl rfl rfl (fun f hf => ?_) rfl rfl
    show upd (σ 4) i 1 f = 0 ∨ upd (σ 4) i 1 f = 1
    by_cases e : f = i
    · subst e
      rw [pk_us]
      exact Or.inr rfl
    · rw [pk_un e]
      exact hB.2.2.2.2.1 f hf
  · exact hB.rows hB.1 rfl rfl rfl hB.2.2.2.2.1 rfl rfl
theorem i32_nn (a b : Nat) : nI a + -(-nI b) = nI (a + b) := by rw [Int32.neg_neg, nI_add]
theorem i32_an {a b : Nat} (h : b ≤ a) : nI a + -nI b = nI (a - b) := by rw [← pk_sub h, Int32.sub_eq_add_neg]
theorem Bnd.carry {n k B i : Nat} {σ : Sg} (hst : Shp n k σ) (hB : Bnd B σ) (hB2 : B < 2 ^ 29) (hi : i < k) : Bnd (B + 9) (carryB i σ) := by
  have hn := hst.1
  obtain ⟨a, ha, ea⟩ := hst.2.2.2.2.1 i hi
  obtain ⟨wa, hwa1, hwa2⟩ := hB.1 a (by omega)
  obtain ⟨v, hv, hfl⟩ := flow_is hst hB hB2 hi ha ea hwa2
  unfold carryB letF
  rw [ea, nI_clamp (by omega)]
  -- the first field
  have h1 : ∃ w1, w1 ≤ B + 9 ∧ σ 2 a + -flow σ i = nI w1 ∧ (flow σ i = -nI v → v ≤ w1) ∧ (flow σ i = nI v → v ≤ 9 → w1 + v ≤ B + 9) := by
    rcases hfl with ⟨e, h⟩ | ⟨b, wb, -, -, -, -, e, h⟩
    · by_cases h0 : v = 0
      · subst h0
        exact ⟨wa, by omega, by rw [e, hwa2, i32_an (by omega), Nat.sub_zero], fun _ => by omega, fun _ _ => by omega⟩
      · refine ⟨wa - v, by omega, by rw [e, hwa2, i32_an h], fun q => ?_, fun _ _ => by omega⟩
        rw [e] at q
        have := congrArg Int32.toInt q
        rw [nI_toInt (by omega), neg_nI (by omega)] at this
        omega
    · refine ⟨wa + v, by omega, by rw [e, hwa2, i32_nn], fun _ => by omega, fun q _ => ?_⟩
      rw [e] at q
      have := congrArg Int32.toInt q
      rw [nI_toInt (by omega), neg_nI (by omega)] at this
      omega
  obtain ⟨w1, hw1, ew1, hneg, hpos⟩ := h1
  have hσ1 : ∀ f, f < 10 → ∃ w, w ≤ B + 9 ∧ addW σ a (-flow σ i) 2 f = nI w ∧ (f = a → w = w1) ∧ (¬ f = a → σ 2 f = nI w ∧ w ≤ B) := by
    intro f hf
    by_cases e : f = a
    · subst e
      exact ⟨w1, hw1, (pk_us (f := σ 2)).trans ew1, fun _ => rfl, fun q => absurd rfl q⟩
    · obtain ⟨w, g1, g2⟩ := hB.1 f hf
      exact ⟨w, by omega, (pk_un (f := σ 2) e).trans g2, fun q => absurd q e, fun _ => ⟨g2, g1⟩⟩
  by_cases h6 : σ 6 i = -1
  · rw [if_pos h6]
    refine hB.rows (fun f hf => ?_) rfl rfl rfl hB.2.2.2.2.1 rfl rfl
    obtain ⟨w, g1, g2, -, -⟩ := hσ1 f hf
    exact ⟨w, g1, g2⟩
  · rw [if_neg h6]
    obtain ⟨b, hb, eb⟩ : ∃ b, b < n ∧ σ 6 i = nI b := by
      rcases hst.2.2.2.2.2 i hi with q | q
      · exact absurd q.1 h6
      · exact q
    rw [eb, nI_clamp (by omega)]
    refine hB.rows (fun f hf => ?_) rfl rfl rfl hB.2.2.2.2.1 rfl rfl
    obtain ⟨w, g1, g2, g3, g4⟩ := hσ1 f hf
    show ∃ w, w ≤ B + 9 ∧ upd (addW σ a (-flow σ i) 2) b (addW σ a (-flow σ i) 2 b + flow σ i) f = nI w
    by_cases e : f = b
    · subst e
      rw [pk_us, g2]
      rcases hfl with ⟨e, h⟩ | ⟨b', wb, hb', eb', ewb, hwb, e, h⟩
      · rw [e, nI_add]
        refine ⟨w + v, ?_, rfl⟩
        by_cases q : f = a
        · rw [g3 q]; exact hpos e hv
        · have := (g4 q).2; omega
      · rw [e]
        have hbb : b' = f := (nI_eq (by omega) (by omega)).mp (eb'.symm.trans eb)
        subst hbb
        have hvw : v ≤ w := by
          by_cases q : b' = a
          · rw [g3 q]; exact hneg e
          · have q1 := (g4 q).1
            have : wb = w := (nI_eq (by omega) (by have := (g4 q).2; omega)).mp (ewb.symm.trans q1)
            omega
        rw [i32_an hvw]
        exact ⟨w - v, by omega, rfl⟩
    · rw [pk_un e]
      exact ⟨w, g1, g2⟩
theorem Bnd.h1 {n k B : Nat} {σ : Sg} (hst : Shp n k σ) (hB : Bnd B σ) (i : Nat) : Bnd (B + 9 * i) (it rainB i σ) := by
  induction i with
  | zero => exact hB
  | succ i ih => exact ih.rain.mono (by omega)
theorem Bnd.h2 {n k B : Nat} {σ : Sg} (hst : Shp n k σ) (hB : Bnd B σ) (hB2 : B + 200 < 2 ^ 29) (i : Nat) (hi : i ≤ k) : Bnd (B + 9 * i) (it carryB i σ) := by
  induction i with
  | zero => exact hB
  | succ i ih =>
    have := hst.2.1
    exact (Bnd.carry (hst.iter Shp.carry i) (ih (by omega)) (by omega) (by omega)).mono (by omega)
theorem Bnd.h3 {B : Nat} {σ : Sg} (hB : Bnd B σ) (i : Nat) : Bnd B (it wetB i σ) := by
  induction i with
  | zero => exact hB
  | succ i ih => exact ih.wet
theorem Bnd.hr1 {n k B : Nat} {σ : Sg} (hst : Shp n k σ) (hB : Bnd B σ) : Bnd (B + 90) (hour1 σ) := by
  unfold hour1
  rw [hst.eF]
  have := hst.1
  exact (hB.h1 hst n).mono (by omega)
theorem Bnd.hr2 {n k B : Nat} {σ : Sg} (hst : Shp n k σ) (hB : Bnd B σ) (hB2 : B + 400 < 2 ^ 29) : Bnd (B + 234) (hour2 σ) := by
  unfold hour2
  rw [hst.eD]
  have := hst.2.1
  exact (Bnd.h2 hst.h1 (hB.hr1 hst) (by omega) k (Nat.le_refl _)).mono (by omega)
theorem Bnd.hr {n k B : Nat} {σ : Sg} (hst : Shp n k σ) (hB : Bnd B σ) (hB2 : B + 400 < 2 ^ 29) : Bnd (B + 234) (hour σ) := by
  have h : Bnd (B + 234) (hour3 σ) := (Bnd.hr2 hst hB hB2).h3 _
  exact h.rows h.1 rfl rfl rfl h.2.2.2.2.1 rfl rfl
theorem Bnd.hrs {n k B : Nat} {σ : Sg} (hst : Shp n k σ) (hB : Bnd B σ) (t : Nat) (hB2 : B + 234 * t + 400 < 2 ^ 29) : Bnd (B + 234 * t) (hours t σ) := by
  induction t with
  | zero => exact hB
  | succ t ih => exact (Bnd.hr (hst.hrs t) (ih (by omega)) (by omega)).mono (by omega)
end
section
-- PURE: what is asked of a marsh
def inR (x lo hi : Int32) : Int32 := if lo ≤ x then (if x ≤ hi then 1 else 0) else 0
theorem inR_hasF {i n : Nat} {σ : Sg} (h : σ 11 i = nI n) (hn : n < 2 ^ 31) (x : Int32) : inR x 0 (nI n - 1) = hasF i σ x := by
  unfold inR hasF
  rw [h]
  by_cases h0 : 0 ≤ x
  · rw [if_pos h0, if_pos h0]
    obtain ⟨j, hj, rfl⟩ := nI_of (x := x) (fun z => Int32.not_le.mpr z h0)
    rcases Nat.eq_zero_or_pos n with e | e
    · subst e
      rw [if_neg (show ¬ nI j ≤ nI 0 - 1 by
        rw [Int32.le_iff_toInt_le, nI_toInt hj, show (nI 0 - 1).toInt = -1 from rfl]
        omega), if_neg (show ¬ nI j < nI 0 from nI_nlt (Nat.zero_le _) hj)]
    · rw [show nI n - 1 = nI (n - 1) from pk_sub (a := n) (b := 1) e]
      by_cases h1 : j < n
      · rw [if_pos ((nI_leI hj (by omega)).mpr (by omega)), if_pos ((nI_ltI hj hn).mpr h1)]
      · rw [if_neg (fun q => h1 (by have := (nI_leI hj (by omega)).mp q; omega)), if_neg (fun q => h1 ((nI_ltI hj hn).mp q))]
  · rw [if_neg h0, if_neg h0]
theorem cpy48 (f g : Nat → Int32) {j : Nat} (hj : j < 48) : va_cpy f g (0 : Int32).toNatClampNeg (0 : Int32).toNatClampNeg (48 : Int32).toNatClampNeg j = f j := by
  rw [show (0 : Int32).toNatClampNeg = 0 from rfl, show (48 : Int32).toNatClampNeg = 48 from rfl, pk_cpy_in (by omega) (by omega)]
  congr 1
  omega
/-- what hours leave as it is -/
def Agr (ρ σ : Sg) : Prop := ρ 0 = σ 0 ∧ ρ 1 = σ 1 ∧ ρ 5 = σ 5 ∧ ρ 6 = σ 6 ∧ ρ 7 = σ 7 ∧ ρ 9 = σ 9 ∧ ρ 10 = σ 10 ∧ ρ 11 0 = σ 11 0 ∧ ρ 11 1 = σ 11 1 ∧ ρ 11 2 = σ 11 2
theorem Agr.rf (σ : Sg) : Agr σ σ := ⟨rfl, rfl, rfl, rfl, rfl, rfl, rfl, rfl, rfl, rfl⟩
theorem Agr.tr {ρ σ τ : Sg} (h : Agr ρ σ) (h2 : Agr σ τ) : Agr ρ τ := by
  obtain ⟨a0, a1, a2, a3, a4, a5, a6, a7, a8, a9⟩ := h
  obtain ⟨b0, b1, b2, b3, b4, b5, b6, b7, b8, b9⟩ := h2
  exact ⟨a0.trans b0, a1.trans b1, a2.trans b2, a3.trans b3, a4.trans b4, a5.trans b5, a6.trans b6, a7.trans b7, a8.trans b8, a9.trans b9⟩
theorem Agr.sy {ρ σ : Sg} (h : Agr ρ σ) : Agr σ ρ := by
  obtain ⟨a0, a1, a2, a3, a4, a5, a6, a7, a8, a9⟩ := h
  exact ⟨a0.symm, a1.symm, a2.symm, a3.symm, a4.symm, a5.symm, a6.symm, a7.symm, a8.symm, a9.symm⟩
theorem Agr.iter {b : Nat → Sg → Sg} (hb : ∀ i σ, Agr (b i σ) σ) (t : Nat) (σ : Sg) : Agr (it b t σ) σ := by
  induction t with
  | zero => exact Agr.rf σ
  | succ t ih => exact (hb t _).tr ih
theorem Agr.wet (i : Nat) (σ : Sg) : Agr (wetB i σ) σ := by
  unfold wetB
  split <;> exact ⟨rfl, rfl, rfl, rfl, rfl, rfl, rfl, rfl, rfl, rfl⟩
theorem Agr.carry (i : Nat) (σ : Sg) : Agr (carryB i σ) σ := by
  unfold carryB letF
  split <;> exact ⟨rfl, rfl, rfl, rfl, rfl, rfl, rfl, rfl, rfl, rfl⟩
theorem Agr.hr (σ : Sg) : Agr (hour σ) σ := by
  have h1 : Agr (hour1 σ) σ := Agr.iter (b := rainB) (fun _ _ => ⟨rfl, rfl, rfl, rfl, rfl, rfl, rfl, rfl, rfl, rfl⟩) _ σ
  have h2 : Agr (hour2 σ) (hour1 σ) := Agr.iter Agr.carry _ _
  have h3 : Agr (hour3 σ) (hour2 σ) := Agr.iter Agr.wet _ _
  have h4 : Agr (hour σ) (hour3 σ) := ⟨rfl, rfl, rfl, rfl, rfl, rfl, rfl, rfl, rfl, rfl⟩
  exact h4.tr (h3.tr (h2.tr h1))
theorem Agr.hrs (t : Nat) (σ : Sg) : Agr (hours t σ) σ := Agr.iter (fun _ σ => Agr.hr σ) t σ
theorem Agr.aw (σ : Sg) (j : Nat) (x : Int32) : Agr (addW σ j x) σ := ⟨rfl, rfl, rfl, rfl, rfl, rfl, rfl, rfl, rfl, rfl⟩
theorem rC_agr {cI cZ : ClassId} {o : Nat} {b : Nat → Nat} {ρ σ : Sg} (κ ζ : Nat → Int32) (th : Int32) (h : Agr ρ σ) : (rC cI cZ o b σ κ ζ th).set 8 (b 7, .inl (cI, 48, .inl (nowF ρ))) = rC cI cZ o b ρ κ ζ th := by
  obtain ⟨a0, a1, a2, a3, a4, a5, a6, a7, a8, a9⟩ := h
  unfold rC
  rw [a0, a1, a2, a3, a4, a5, a6, a7, a8, a9]
  rfl
def waterS (σ : Sg) : Int32 := sumI (fun f => σ 2 f) (nF σ)
def wetN (σ : Sg) : Int32 := sumI (fun f => isW σ f) (nF σ)
def opB (σ : Sg) (j d : Nat) : Int32 := if σ 10 d = 0 then 0 else if σ 5 d = nI j then 1 else if σ 6 d = nI j then 1 else 0
def openS (σ : Sg) (j : Nat) : Int32 := sumI (fun d => opB σ j d) (nD σ)
theorem sum_eq {f g : Nat → Int32} {n : Nat} (h : ∀ i, i < n → f i = g i) : sumI f n = sumI g n := by
  induction n with
  | zero => rfl
  | succ n ih =>
    show sumI f n + f n = sumI g n + g n
    rw [ih (fun i hi => h i (by omega)), h n (by omega)]
/-- the first place of the greatest -/
def amax (f : Nat → Int32) : Nat → Int32
  | 0 => -1
  | i + 1 => if amax f i = -1 then nI i else if f (amax f i).toNatClampNeg < f i then nI i else amax f i
theorem amax_is (f : Nat → Int32) : ∀ i, i < 2 ^ 30 → (amax f i = -1 ∧ i = 0) ∨ ∃ q, q < i ∧ amax f i = nI q
  | 0, _ => Or.inl ⟨rfl, rfl⟩
  | i + 1, hi => by
    refine Or.inr ?_
    show ∃ q, q < i + 1 ∧ (if amax f i = -1 then nI i else if f (amax f i).toNatClampNeg < f i then nI i else amax f i) = nI q
    rcases amax_is f i (by omega) with ⟨e, e0⟩ | ⟨q, hq, e⟩
    · exact ⟨i, by omega, by rw [if_pos e]⟩
    · by_cases h : amax f i = -1
      · exact ⟨i, by omega, by rw [if_pos h]⟩
      · rw [if_neg h]
        by_cases h2 : f (amax f i).toNatClampNeg < f i
        · exact ⟨i, by omega, by rw [if_pos h2]⟩
        · exact ⟨q, by omega, by rw [if_neg h2, e]⟩
theorem nI_ne_m1 {q : Nat} (h : q < 2 ^ 31) : ¬ nI q = -1 := by
  intro e
  have := congrArg Int32.toInt e
  rw [nI_toInt h] at this
  have h2 : (-1 : Int32).toInt = -1 := rfl
  omega
/-- the first of the least, with what it is; from a start -/
def amin (g : Nat → Int32) (z : Int32) : Nat → Int32 × Int32
  | 0 => (-1, z)
  | i + 1 => if g i < (amin g z i).2 then (nI i, g i) else amin g z i
def aminF (g : Nat → Int32) : Nat → Int32 × Int32
  | 0 => (-1, 0)
  | i + 1 => if (aminF g i).1 = -1 then (nI i, g i) else if g i < (aminF g i).2 then (nI i, g i) else aminF g i
/-- the greatest place below i where g is L -/
def lastI (g : Nat → Int32) (L : Int32) : Nat → Int32
  | 0 => -1
  | i + 1 => if g i = L then nI i else lastI g L i
/-- the first place from i on where g is not 0 -/
def fstI (g : Nat → Int32) : Nat → Nat → Int32
  | 0, _ => -1
  | k + 1, i => if g i = 0 then fstI g k (i + 1) else nI i
def lossH (t : Nat) (σ : Sg) : Int32 := lost (hours t σ)
def untilS (σ : Sg) (j : Nat) : Int32 := fstI (fun i => hours i σ 4 j) 101 0
def turnB (σ : Sg) : Int32 := (amin (fun d => lossH 24 (turnS σ d)) (lossH 24 σ) (nD σ)).1
def floodB (σ : Sg) (x : Int32) : Int32 := (aminF (fun f => lossH 24 (addW σ f x)) (nF σ)).1
def rainS (σ : Sg) (i : Nat) : Sg := sc σ 2 (nI i)
def borneS (σ : Sg) : Int32 := lastI (fun i => lossH 24 (rainS σ i)) (lost σ) 10
theorem Shp.tu {n k : Nat} {σ : Sg} (h : Shp n k σ) (d : Nat) : Shp n k (turnS σ d) := h.osu 10 d _ (by decide) (by decide) (by decide) (by decide)
theorem Shp.ra {n k : Nat} {σ : Sg} (h : Shp n k σ) (i : Nat) : Shp n k (rainS σ i) := h.osc 2 _ (by decide) (by decide)
theorem Bnd.tu {B : Nat} {σ : Sg} (h : Bnd B σ) (d : Nat) : Bnd B (turnS σ d) := by
  obtain ⟨a0, a1, a2, a3, a4, a5, a6⟩ := h
  refine ⟨a0, a1, a2, a3, a4, a5, fun q hq => ?_⟩
  unfold turnS
  by_cases e : q = d
  · subst e
    rw [su_in]
    by_cases z : σ 10 q = 0
    · rw [if_pos z]; exact Or.inr rfl
    · rw [if_neg z]; exact Or.inl rfl
  · rw [su_out _ _ _ e]
    exact a6 q hq
theorem Bnd.ra {B : Nat} {σ : Sg} (h : Bnd B σ) {i : Nat} (hi : i ≤ 9) : Bnd B (rainS σ i) := by
  obtain ⟨a0, a1, a2, a3, a4, a5, a6⟩ := h
  exact ⟨a0, a1, a2, ⟨i, hi, rfl⟩, a4, a5, a6⟩
theorem Bnd.aw {B : Nat} {σ : Sg} (h : Bnd B σ) (j : Nat) {x : Nat} (hx : x ≤ 50) : Bnd (B + 50) (addW σ j (nI x)) := by
  refine h.rows (fun f hf => ?_) rfl rfl rfl h.2.2.2.2.1 rfl rfl
  obtain ⟨w, h1, h2⟩ := h.1 f hf
  unfold addW
  by_cases e : f = j
  · subst e
    rw [su_in, h2, nI_add]
    exact ⟨w + x, by omega, rfl⟩
  · rw [su_out _ _ _ e]
    exact ⟨w, by omega, h2⟩
theorem turn_turn {σ : Sg} {d : Nat} (h : σ 10 d = 0 ∨ σ 10 d = 1) : turnS (turnS σ d) d = σ := by
  unfold turnS
  rw [su_in]
  unfold su
  rw [sr_eq, sr_sr]
  conv => rhs; rw [← sr_same σ 10]
  congr 1
  funext q
  by_cases e : q = d
  · subst e
    rw [pk_us]
    rcases h with h | h <;> rw [h] <;> rfl
  · rw [pk_un e, pk_un e]
theorem rain_rain (σ : Sg) (i : Nat) (x : Int32) : sc (rainS σ i) 2 x = sc σ 2 x := by
  unfold rainS sc
  rw [sr_eq, sr_sr]
  congr 1
  funext q
  unfold up1
  cases h : Nat.beq q 2 <;> rfl
theorem rain_back (σ : Sg) : sc σ 2 (σ 11 2) = σ := by
  unfold sc
  conv => rhs; rw [← sr_same σ 11]
  congr 1
  funext q
  unfold up1
  cases h : Nat.beq q 2
  · rfl
  · rw [Nat.eq_of_beq_eq_true h]; rfl
def kF (x y : Nat → Int32) (i : Nat) : Nat → Int32 := cond (Nat.beq i 0) x y
theorem kF_same (x : Nat → Int32) (i : Nat) : kF x x i = x := by
  unfold kF
  cases Nat.beq i 0 <;> rfl
theorem nowF_turn (σ : Sg) (d : Nat) : nowF (turnS σ d) = nowF σ := by
  unfold turnS nowF
  rw [su_row _ _ _ (by decide : ¬ 2 = 10), su_row _ _ _ (by decide : ¬ 3 = 10), su_row _ _ _ (by decide : ¬ 4 = 10), su_row _ _ _ (by decide : ¬ 8 = 10), su_row _ _ _ (by decide : ¬ 11 = 10)]
theorem nowF_rain (σ : Sg) (i : Nat) : nowF (rainS σ i) = nowF σ := by
  have e4 : rainS σ i 11 4 = σ 11 4 := rfl
  have e3 : rainS σ i 11 3 = σ 11 3 := rfl
  unfold nowF
  rw [e4, e3]
  unfold rainS
  rw [sc_row _ _ _ (by decide : ¬ 2 = 11), sc_row _ _ _ (by decide : ¬ 3 = 11), sc_row _ _ _ (by decide : ¬ 4 = 11), sc_row _ _ _ (by decide : ¬ 8 = 11)]
theorem amin_z1 (g : Nat → Int32) (z : Int32) : (-1 : Int32) = (amin g z 0).1 := rfl
theorem amin_z2 (g : Nat → Int32) (z : Int32) : z = (amin g z 0).2 := rfl
end
section
abbrev rmX2_thrown : Room := { frames := 0, cells := 0, slots := 0, locals := 0 }
theorem b_X2_thrown : Cond.instanceMethod yX2_thrown ∈ LW ∧ Cond.selects RX2 yX2_thrown yX2_thrown ∈ LW ∧ Cond.initialized RX2 ∈ LW ∧ Cond.code yX2_thrown cX2_thrown 1 (some .int) ∈ LW := ⟨q636, q637, q40, q638⟩
set_option maxHeartbeats 4000000 in
set_option maxRecDepth 100000 in
theorem c_X2_thrown (l : Launch) (D : va_G) (cI cZ cL : ClassId) (o : Nat) (b : Nat → Nat) (σ : Sg) (κ ζ : Nat → Int32) (th : Int32) : MC l yX2_thrown cX2_thrown 1 (some .int) rmX2_thrown D (tZ cI cZ cL) [.ref o] (rC cI cZ o b σ κ ζ th) (rC cI cZ o b σ κ ζ th) (some (.int th)) := by
  refine MC.of (by decide) (Nat.le_of_ble_eq_true rfl) ?_
  intro p e s m args below meth c A ls Q hx hb hml hr hts hown hlocks hA hP hD hK hS hl hQ
  have hown : s.vm.findClass RX2 = some m.cls := hown
  have hl : lv_has ls 1 [(0, .ref o)] := hl
  refine lv_aload_n hx hb dX2_thrown_0 rfl (lv_at hl 0 rfl) ?_
  refine x_get (C := RX2) (T := TX2) (N := 14) hx hb hts in_wsX20 hown hK hP 0 rfl rfl 0 (by decide) q592 (v := .int th) rfl dX2_thrown_1 ?_
  subst hQ
  exact ri hx hb hr hlocks hK hP hD hS dX2_thrown_4 (rfl) (rfl)

abbrev rmX2_no : Room := { frames := 0, cells := 0, slots := 0, locals := 0 }
theorem b_X2_no : Cond.instanceMethod yX2_no ∈ LW ∧ Cond.selects RX2 yX2_no yX2_no ∈ LW ∧ Cond.initialized RX2 ∈ LW ∧ Cond.code yX2_no cX2_no 2 (some .int) ∈ LW := ⟨q648, q8, q40, q649⟩
set_option maxHeartbeats 4000000 in
set_option maxRecDepth 100000 in
theorem c_X2_no (l : Launch) (D : va_G) (cI cZ cL : ClassId) (o : Nat) (b : Nat → Nat) (σ : Sg) (κ ζ : Nat → Int32) (th : Int32) (x : Int32) : MC l yX2_no cX2_no 2 (some .int) rmX2_no D (tZ cI cZ cL) [.ref o, .int x] (rC cI cZ o b σ κ ζ th) (rC cI cZ o b σ κ ζ x) (some (.int 0)) := by
  refine MC.of (by decide) (Nat.le_of_ble_eq_true rfl) ?_
  intro p e s m args below meth c A ls Q hx hb hml hr hts hown hlocks hA hP hD hK hS hl hQ
  have hown : s.vm.findClass RX2 = some m.cls := hown
  have hl : lv_has ls 2 [(0, .ref o), (1, .int x)] := hl
  refine lv_aload_n hx hb dX2_no_0 rfl (lv_at hl 0 rfl) ?_
  refine lv_iload_n hx hb dX2_no_1 rfl (lv_at hl 1 rfl) ?_
  refine x_put (C := RX2) (T := TX2) (N := 14) (ws2 := rC cI cZ o b σ κ ζ x) hx hb hts in_wsX20 tyX2_ok nmX2 hown hK hP hD hS 0 rfl rfl 0 (by decide) q592 rfl (by decide +kernel) (Nat.le_of_ble_eq_true rfl) rfl dX2_no_2 (fun H locs hP hD hS => ?_)
  refine lv_iconst (v := 0) hx hb dX2_no_5 (by decide) ?_
  subst hQ
  exact ri hx hb hr hlocks hK hP hD hS dX2_no_6 (rfl) (rfl)

abbrev rmX2_isNot : Room := { frames := 0, cells := 0, slots := 0, locals := 0 }
theorem b_X2_isNot : Cond.instanceMethod yX2_isNot ∈ LW ∧ Cond.selects RX2 yX2_isNot yX2_isNot ∈ LW ∧ Cond.initialized RX2 ∈ LW ∧ Cond.code yX2_isNot cX2_isNot 2 (some .boolean) ∈ LW := ⟨q676, q12, q40, q677⟩
set_option maxHeartbeats 4000000 in
set_option maxRecDepth 100000 in
theorem c_X2_isNot (l : Launch) (D : va_G) (cI cZ cL : ClassId) (o : Nat) (b : Nat → Nat) (σ : Sg) (κ ζ : Nat → Int32) (th : Int32) (x : Int32) : MC l yX2_isNot cX2_isNot 2 (some .boolean) rmX2_isNot D (tZ cI cZ cL) [.ref o, .int x] (rC cI cZ o b σ κ ζ th) (rC cI cZ o b σ κ ζ x) (some (.int 0)) := by
  refine MC.of (by decide) (Nat.le_of_ble_eq_true rfl) ?_
  intro p e s m args below meth c A ls Q hx hb hml hr hts hown hlocks hA hP hD hK hS hl hQ
  have hown : s.vm.findClass RX2 = some m.cls := hown
  have hl : lv_has ls 2 [(0, .ref o), (1, .int x)] := hl
  refine lv_aload_n hx hb dX2_isNot_0 rfl (lv_at hl 0 rfl) ?_
  refine lv_iload_n hx hb dX2_isNot_1 rfl (lv_at hl 1 rfl) ?_
  refine x_put (C := RX2) (T := TX2) (N := 14) (ws2 := rC cI cZ o b σ κ ζ x) hx hb hts in_wsX20 tyX2_ok nmX2 hown hK hP hD hS 0 rfl rfl 0 (by decide) q592 rfl (by decide +kernel) (Nat.le_of_ble_eq_true rfl) rfl dX2_isNot_2 (fun H locs hP hD hS => ?_)
  refine lv_iconst (v := 0) hx hb dX2_isNot_5 (by decide) ?_
  subst hQ
  exact rz hx hb hr hlocks hK hP hD hS dX2_isNot_6 (by decide) (rfl) (rfl)

abbrev rmX2_ok : Room := { frames := 0, cells := 0, slots := 0, locals := 0 }
theorem b_X2_ok : Cond.instanceMethod yX2_ok ∈ LW ∧ Cond.selects RX2 yX2_ok yX2_ok ∈ LW ∧ Cond.initialized RX2 ∈ LW ∧ Cond.code yX2_ok cX2_ok 2 (some .int) ∈ LW := ⟨q726, q20, q40, q727⟩
set_option maxHeartbeats 4000000 in
set_option maxRecDepth 100000 in
theorem c_X2_ok (l : Launch) (D : va_G) (cI cZ cL : ClassId) (o : Nat) (b : Nat → Nat) (σ : Sg) (κ ζ : Nat → Int32) (th : Int32) (x : Int32) : MC l yX2_ok cX2_ok 2 (some .int) rmX2_ok D (tZ cI cZ cL) [.ref o, .int x] (rC cI cZ o b σ κ ζ th) (rC cI cZ o b σ κ ζ 0) (some (.int x)) := by
  refine MC.of (by decide) (Nat.le_of_ble_eq_true rfl) ?_
  intro p e s m args below meth c A ls Q hx hb hml hr hts hown hlocks hA hP hD hK hS hl hQ
  have hown : s.vm.findClass RX2 = some m.cls := hown
  have hl : lv_has ls 2 [(0, .ref o), (1, .int x)] := hl
  refine lv_aload_n hx hb dX2_ok_0 rfl (lv_at hl 0 rfl) ?_
  refine lv_iconst (v := 0) hx hb dX2_ok_1 (by decide) ?_
  refine x_put (C := RX2) (T := TX2) (N := 14) (ws2 := rC cI cZ o b σ κ ζ 0) hx hb hts in_wsX20 tyX2_ok nmX2 hown hK hP hD hS 0 rfl rfl 0 (by decide) q592 rfl (by decide +kernel) (Nat.le_of_ble_eq_true rfl) rfl dX2_ok_2 (fun H locs hP hD hS => ?_)
  refine lv_iload_n hx hb dX2_ok_5 rfl (lv_at hl 1 rfl) ?_
  subst hQ
  exact ri hx hb hr hlocks hK hP hD hS dX2_ok_6 (rfl) (rfl)

abbrev rmX2_isIn : Room := { frames := 0, cells := 0, slots := 0, locals := 0 }
theorem b_X2_isIn : Cond.static yX2_isIn ∈ LW ∧ Cond.initialized yX2_isIn.cls ∈ LW ∧ Cond.code yX2_isIn cX2_isIn 3 (some .boolean) ∈ LW := ⟨q644, q40, q645⟩
set_option maxHeartbeats 4000000 in
set_option maxRecDepth 100000 in
theorem c_X2_isIn (l : Launch) (D : va_G) (cI cZ cL : ClassId) (x y z : Int32) : MC l yX2_isIn cX2_isIn 3 (some .boolean) rmX2_isIn D (tZ cI cZ cL) [.int x, .int y, .int z] ([]) ([]) (some (.int (inR x y z))) := by
  refine MC.of (by decide) (Nat.le_of_ble_eq_true rfl) ?_
  intro p e s m args below meth c A ls Q hx hb hml hr hts hown hlocks hA hP hD hK hS hl hQ
  have hown : s.vm.findClass RX2 = some m.cls := hown
  have hl : lv_has ls 3 [(0, .int x), (1, .int y), (2, .int z)] := hl
  refine lv_iload_n hx hb dX2_isIn_0 rfl (lv_at hl 0 rfl) ?_
  refine lv_iload_n hx hb dX2_isIn_1 rfl (lv_at hl 1 rfl) ?_
  refine lv_icmp_lt (tgt := 14) hx hb dX2_isIn_2 (by decide) (fun c_2 => ?_) (fun c_2 => ?_)
  · refine lv_iconst (v := 0) hx hb dX2_isIn_14 (by decide) ?_
    subst hQ
    exact rz hx hb hr hlocks hK hP hD hS dX2_isIn_15 (by decide) (rfl) (by unfold inR; rw [if_neg (Int32.not_le.mpr c_2)])
  · refine lv_iload_n hx hb dX2_isIn_5 rfl (lv_at hl 0 rfl) ?_
    refine lv_iload_n hx hb dX2_isIn_6 rfl (lv_at hl 2 rfl) ?_
    refine lv_icmp_gt (tgt := 14) hx hb dX2_isIn_7 (by decide) (fun c_7 => ?_) (fun c_7 => ?_)
    · refine lv_iconst (v := 0) hx hb dX2_isIn_14 (by decide) ?_
      subst hQ
      exact rz hx hb hr hlocks hK hP hD hS dX2_isIn_15 (by decide) (rfl) (by unfold inR; rw [if_pos (Int32.not_lt.mp c_2), if_neg (Int32.not_le.mpr c_7)])
    · refine lv_iconst (v := 1) hx hb dX2_isIn_10 (by decide) ?_
      refine lv_goto (tgt := 15) hx hb dX2_isIn_11 (by decide) ?_
      subst hQ
      exact rz hx hb hr hlocks hK hP hD hS dX2_isIn_15 (by decide) (rfl) (by unfold inR; rw [if_pos (Int32.not_lt.mp c_2), if_pos (Int32.not_lt.mp c_7)])

abbrev rmX2_isField : Room := { frames := 1, cells := 0, slots := 0, locals := 22 }
theorem b_X2_isField : Cond.instanceMethod yX2_isField ∈ LW ∧ Cond.selects RX2 yX2_isField yX2_isField ∈ LW ∧ Cond.initialized RX2 ∈ LW ∧ Cond.code yX2_isField cX2_isField 2 (some .boolean) ∈ LW := ⟨q656, q9, q40, q657⟩
set_option maxHeartbeats 4000000 in
set_option maxRecDepth 100000 in
theorem c_X2_isField (l : Launch) (D : va_G) (cI cZ cL : ClassId) {n k : Nat} (o : Nat) (b : Nat → Nat) (σ : Sg) (κ ζ : Nat → Int32) (th : Int32) (hst : Shp n k σ) (x r : Int32) (hrr : hasF 0 σ x = r) : MC l yX2_isField cX2_isField 2 (some .boolean) rmX2_isField D (tZ cI cZ cL) [.ref o, .int x] (rC cI cZ o b σ κ ζ th) (rC cI cZ o b σ κ ζ th) (some (.int r)) := by
  refine MC.of (by decide) (Nat.le_of_ble_eq_true rfl) ?_
  intro p e s m args below meth c A ls Q hx hb hml hr hts hown hlocks hA hP hD hK hS hl hQ
  have hown : s.vm.findClass RX2 = some m.cls := hown
  have hn10 := hst.1
  have hk16 := hst.2.1
  have hl : lv_has ls 2 [(0, .ref o), (1, .int x)] := hl
  refine lv_iload_n hx hb dX2_isField_0 rfl (lv_at hl 1 rfl) ?_
  refine lv_iconst (v := 0) hx hb dX2_isField_1 (by decide) ?_
  refine lv_aload_n hx hb dX2_isField_2 rfl (lv_at hl 0 rfl) ?_
  refine x_get (C := RX2) (T := TX2) (N := 14) hx hb hts in_wsX20 hown hK hP 0 rfl rfl 1 (by decide) q593 (v := .int (nI n)) (congrArg (fun z => some (Value.int z)) (hst.f0)) dX2_isField_3 ?_
  refine lv_iconst (v := 1) hx hb dX2_isField_6 (by decide) ?_
  refine lv_isub hx hb dX2_isField_7 ?_
  refine MC.callS (As := [.int x, .int 0, .int ((nI n) - 1)]) (rest := []) (wB := rC cI cZ o b σ κ ζ th) (c_X2_isIn l D cI cZ cL x 0 ((nI n) - 1)) ⟨hx, hb, hml, hown, hts⟩ q643 b_X2_isIn (n := 3) (by decide +kernel) ⟨Nat.le_of_ble_eq_true rfl, Nat.le_of_ble_eq_true rfl⟩ hK hP hD hS hA (spE _) (spE _) rfl hl.1 rfl (Nat.le_of_ble_eq_true rfl) dX2_isField_8 ⟨Nat.le_of_ble_eq_true rfl, Nat.le_of_ble_eq_true rfl⟩ (fun H locs hP hD hS => ?_)
  subst hQ
  exact rz hx hb hr hlocks hK hP hD hS dX2_isField_11 (by rw [inR_hasF hst.f0 (by omega)]; unfold hasF; split; (split; exact Or.inr rfl; exact Or.inl rfl); exact Or.inl rfl) (rfl) (by rw [inR_hasF hst.f0 (by omega)]; exact hrr)

abbrev rmX2_isDrain : Room := { frames := 1, cells := 0, slots := 0, locals := 22 }
theorem b_X2_isDrain : Cond.instanceMethod yX2_isDrain ∈ LW ∧ Cond.selects RX2 yX2_isDrain yX2_isDrain ∈ LW ∧ Cond.initialized RX2 ∈ LW ∧ Cond.code yX2_isDrain cX2_isDrain 2 (some .boolean) ∈ LW := ⟨q672, q11, q40, q673⟩
set_option maxHeartbeats 4000000 in
set_option maxRecDepth 100000 in
theorem c_X2_isDrain (l : Launch) (D : va_G) (cI cZ cL : ClassId) {n k : Nat} (o : Nat) (b : Nat → Nat) (σ : Sg) (κ ζ : Nat → Int32) (th : Int32) (hst : Shp n k σ) (x r : Int32) (hrr : hasF 1 σ x = r) : MC l yX2_isDrain cX2_isDrain 2 (some .boolean) rmX2_isDrain D (tZ cI cZ cL) [.ref o, .int x] (rC cI cZ o b σ κ ζ th) (rC cI cZ o b σ κ ζ th) (some (.int r)) := by
  refine MC.of (by decide) (Nat.le_of_ble_eq_true rfl) ?_
  intro p e s m args below meth c A ls Q hx hb hml hr hts hown hlocks hA hP hD hK hS hl hQ
  have hown : s.vm.findClass RX2 = some m.cls := hown
  have hn10 := hst.1
  have hk16 := hst.2.1
  have hl : lv_has ls 2 [(0, .ref o), (1, .int x)] := hl
  refine lv_iload_n hx hb dX2_isDrain_0 rfl (lv_at hl 1 rfl) ?_
  refine lv_iconst (v := 0) hx hb dX2_isDrain_1 (by decide) ?_
  refine lv_aload_n hx hb dX2_isDrain_2 rfl (lv_at hl 0 rfl) ?_
  refine x_get (C := RX2) (T := TX2) (N := 14) hx hb hts in_wsX20 hown hK hP 0 rfl rfl 2 (by decide) q594 (v := .int (nI k)) (congrArg (fun z => some (Value.int z)) (hst.f1)) dX2_isDrain_3 ?_
  refine lv_iconst (v := 1) hx hb dX2_isDrain_6 (by decide) ?_
  refine lv_isub hx hb dX2_isDrain_7 ?_
  refine MC.callS (As := [.int x, .int 0, .int ((nI k) - 1)]) (rest := []) (wB := rC cI cZ o b σ κ ζ th) (c_X2_isIn l D cI cZ cL x 0 ((nI k) - 1)) ⟨hx, hb, hml, hown, hts⟩ q643 b_X2_isIn (n := 3) (by decide +kernel) ⟨Nat.le_of_ble_eq_true rfl, Nat.le_of_ble_eq_true rfl⟩ hK hP hD hS hA (spE _) (spE _) rfl hl.1 rfl (Nat.le_of_ble_eq_true rfl) dX2_isDrain_8 ⟨Nat.le_of_ble_eq_true rfl, Nat.le_of_ble_eq_true rfl⟩ (fun H locs hP hD hS => ?_)
  subst hQ
  exact rz hx hb hr hlocks hK hP hD hS dX2_isDrain_11 (by rw [inR_hasF hst.f1 (by omega)]; unfold hasF; split; (split; exact Or.inr rfl; exact Or.inl rfl); exact Or.inl rfl) (rfl) (by rw [inR_hasF hst.f1 (by omega)]; exact hrr)

abbrev rmX2_keep : Room := { frames := 1, cells := 0, slots := 0, locals := 60 }
theorem b_X2_keep : Cond.instanceMethod yX2_keep ∈ LW ∧ Cond.selects RX2 yX2_keep yX2_keep ∈ LW ∧ Cond.initialized RX2 ∈ LW ∧ Cond.code yX2_keep cX2_keep 1 none ∈ LW := ⟨q854, q31, q40, q855⟩
set_option maxHeartbeats 4000000 in
set_option maxRecDepth 100000 in
theorem c_X2_keep (l : Launch) (D : va_G) (cI cZ cL : ClassId) (o : Nat) (b : Nat → Nat) (σ : Sg) (κ ζ : Nat → Int32) (th : Int32) : MC l yX2_keep cX2_keep 1 none rmX2_keep D (tZ cI cZ cL) [.ref o] (rC cI cZ o b σ κ ζ th) (rC cI cZ o b σ (nowF σ) ζ th) (none) := by
  refine MC.of (by decide) (Nat.le_of_ble_eq_true rfl) ?_
  intro p e s m args below meth c A ls Q hx hb hml hr hts hown hlocks hA hP hD hK hS hl hQ
  have hown : s.vm.findClass RX2 = some m.cls := hown
  have hl : lv_has ls 1 [(0, .ref o)] := hl
  refine lv_aload_n hx hb dX2_keep_0 rfl (lv_at hl 0 rfl) ?_
  refine x_get (C := RX2) (T := TX2) (N := 14) hx hb hts in_wsX20 hown hK hP 0 rfl rfl 11 (by decide) q603 (v := .ref (b 7)) rfl dX2_keep_1 ?_
  refine lv_iconst (v := 0) hx hb dX2_keep_4 (by decide) ?_
  refine lv_aload_n hx hb dX2_keep_5 rfl (lv_at hl 0 rfl) ?_
  refine x_get (C := RX2) (T := TX2) (N := 14) hx hb hts in_wsX20 hown hK hP 0 rfl rfl 12 (by decide) q604 (v := .ref (b 8)) rfl dX2_keep_6 ?_
  refine lv_iconst (v := 0) hx hb dX2_keep_9 (by decide) ?_
  refine lv_bipush (v := 48) hx hb dX2_keep_10 (by decide) ?_
  refine va_copyi hx hb (by rw [hml]; exact hl.1.symm) hown (hts _ q856) (hts _ q858) (hts _ q857) (hts _ q49) hK hP hD hS 8 9 0 0 rfl rfl rfl rfl rfl (by decide) (by decide) (by decide) (by decide) (by decide) (fun _ _ => rfl) (Nat.le_of_ble_eq_true rfl) (Nat.le_of_ble_eq_true rfl) dX2_keep_12 (fun H locs hP hD hS => ?_)
  obtain ⟨hP, hD⟩ := kb_row (g := nowF σ) hP hD (k := 9) rfl (fun j hj => cpy48 _ _ hj)
  have hP : va_P D vwCl (rC cI cZ o b σ (nowF σ) ζ th) H := hP
  have hD : va_D A (rC cI cZ o b σ (nowF σ) ζ th) := hD
  subst hQ
  exact rv hx hb hr hlocks hK hP hD hS dX2_keep_15 (rfl)

abbrev rmX2_bringBack : Room := { frames := 1, cells := 0, slots := 0, locals := 60 }
theorem b_X2_bringBack : Cond.instanceMethod yX2_bringBack ∈ LW ∧ Cond.selects RX2 yX2_bringBack yX2_bringBack ∈ LW ∧ Cond.initialized RX2 ∈ LW ∧ Cond.code yX2_bringBack cX2_bringBack 1 none ∈ LW := ⟨q861, q32, q40, q862⟩
set_option maxHeartbeats 4000000 in
set_option maxRecDepth 100000 in
theorem c_X2_bringBack (l : Launch) (D : va_G) (cI cZ cL : ClassId) (o : Nat) (b : Nat → Nat) (σ : Sg) (κ ζ : Nat → Int32) (th : Int32) (ρ : Sg) (hag : Agr ρ σ) : MC l yX2_bringBack cX2_bringBack 1 none rmX2_bringBack D (tZ cI cZ cL) [.ref o] (rC cI cZ o b σ (nowF ρ) ζ th) (rC cI cZ o b ρ (nowF ρ) ζ th) (none) := by
  refine MC.of (by decide) (Nat.le_of_ble_eq_true rfl) ?_
  intro p e s m args below meth c A ls Q hx hb hml hr hts hown hlocks hA hP hD hK hS hl hQ
  have hown : s.vm.findClass RX2 = some m.cls := hown
  have hl : lv_has ls 1 [(0, .ref o)] := hl
  refine lv_aload_n hx hb dX2_bringBack_0 rfl (lv_at hl 0 rfl) ?_
  refine x_get (C := RX2) (T := TX2) (N := 14) hx hb hts in_wsX20 hown hK hP 0 rfl rfl 12 (by decide) q604 (v := .ref (b 8)) rfl dX2_bringBack_1 ?_
  refine lv_iconst (v := 0) hx hb dX2_bringBack_4 (by decide) ?_
  refine lv_aload_n hx hb dX2_bringBack_5 rfl (lv_at hl 0 rfl) ?_
  refine x_get (C := RX2) (T := TX2) (N := 14) hx hb hts in_wsX20 hown hK hP 0 rfl rfl 11 (by decide) q603 (v := .ref (b 7)) rfl dX2_bringBack_6 ?_
  refine lv_iconst (v := 0) hx hb dX2_bringBack_9 (by decide) ?_
  refine lv_bipush (v := 48) hx hb dX2_bringBack_10 (by decide) ?_
  refine va_copyi hx hb (by rw [hml]; exact hl.1.symm) hown (hts _ q856) (hts _ q858) (hts _ q857) (hts _ q49) hK hP hD hS 9 8 0 0 rfl rfl rfl rfl rfl (by decide) (by decide) (by decide) (by decide) (by decide) (fun _ _ => rfl) (Nat.le_of_ble_eq_true rfl) (Nat.le_of_ble_eq_true rfl) dX2_bringBack_12 (fun H locs hP hD hS => ?_)
  obtain ⟨hP, hD⟩ := kb_row (g := nowF ρ) hP hD (k := 8) rfl (fun j hj => cpy48 _ _ hj)
  have hP : va_P D vwCl ((rC cI cZ o b σ (nowF ρ) ζ th).set 8 (b 7, .inl (cI, 48, .inl (nowF ρ)))) H := hP
  have hD : va_D A ((rC cI cZ o b σ (nowF ρ) ζ th).set 8 (b 7, .inl (cI, 48, .inl (nowF ρ)))) := hD
  rw [rC_agr _ _ _ hag] at hP hD
  subst hQ
  exact rv hx hb hr hlocks hK hP hD hS dX2_bringBack_15 (rfl)

abbrev rmX2_water : Room := { frames := 0, cells := 0, slots := 0, locals := 0 }
theorem b_X2_water : Cond.instanceMethod yX2_water ∈ LW ∧ Cond.selects RX2 yX2_water yX2_water ∈ LW ∧ Cond.initialized RX2 ∈ LW ∧ Cond.code yX2_water cX2_water 2 (some .int) ∈ LW := ⟨q688, q13, q40, q689⟩
set_option maxHeartbeats 4000000 in
set_option maxRecDepth 100000 in
theorem c_X2_water (l : Launch) (D : va_G) (cI cZ cL : ClassId) (o : Nat) (b : Nat → Nat) (σ : Sg) (κ ζ : Nat → Int32) (th : Int32) (j : Nat) (hj : j < 10) : MC l yX2_water cX2_water 2 (some .int) rmX2_water D (tZ cI cZ cL) [.ref o, .int (nI j)] (rC cI cZ o b σ κ ζ th) (rC cI cZ o b σ κ ζ th) (some (.int (σ 2 j))) := by
  refine MC.of (by decide) (Nat.le_of_ble_eq_true rfl) ?_
  intro p e s m args below meth c A ls Q hx hb hml hr hts hown hlocks hA hP hD hK hS hl hQ
  have hown : s.vm.findClass RX2 = some m.cls := hown
  have hl : lv_has ls 2 [(0, .ref o), (1, .int (nI j))] := hl
  refine lv_aload_n hx hb dX2_water_0 rfl (lv_at hl 0 rfl) ?_
  refine x_get (C := RX2) (T := TX2) (N := 14) hx hb hts in_wsX20 hown hK hP 0 rfl rfl 11 (by decide) q603 (v := .ref (b 7)) rfl dX2_water_1 ?_
  refine lv_iconst (v := 2) hx hb dX2_water_4 (by decide) ?_
  refine lv_iload_n hx hb dX2_water_5 rfl (lv_at hl 1 rfl) ?_
  refine lv_iadd hx hb dX2_water_6 ?_
  refine x_ild hx hb hK hP 8 0 rfl rfl (2 + j) (nI_add 2 j) (by omega) (by decide) (v := σ 2 j) (nw_2 σ (by omega)) dX2_water_7 ?_
  subst hQ
  exact ri hx hb hr hlocks hK hP hD hS dX2_water_8 (rfl) (rfl)

abbrev rmX2_level : Room := { frames := 1, cells := 0, slots := 0, locals := 21 }
theorem b_X2_level : Cond.instanceMethod yX2_level ∈ LW ∧ Cond.selects RX2 yX2_level yX2_level ∈ LW ∧ Cond.initialized RX2 ∈ LW ∧ Cond.code yX2_level cX2_level 2 (some .int) ∈ LW := ⟨q717, q19, q40, q718⟩
set_option maxHeartbeats 4000000 in
set_option maxRecDepth 100000 in
theorem c_X2_level (l : Launch) (D : va_G) (cI cZ cL : ClassId) (o : Nat) (b : Nat → Nat) (σ : Sg) (κ ζ : Nat → Int32) (th : Int32) (j : Nat) (hj : j < 10) : MC l yX2_level cX2_level 2 (some .int) rmX2_level D (tZ cI cZ cL) [.ref o, .int (nI j)] (rC cI cZ o b σ κ ζ th) (rC cI cZ o b σ κ ζ th) (some (.int (σ 0 j + σ 2 j))) := by
  refine MC.of (by decide) (Nat.le_of_ble_eq_true rfl) ?_
  intro p e s m args below meth c A ls Q hx hb hml hr hts hown hlocks hA hP hD hK hS hl hQ
  have hown : s.vm.findClass RX2 = some m.cls := hown
  have hl : lv_has ls 2 [(0, .ref o), (1, .int (nI j))] := hl
  refine lv_aload_n hx hb dX2_level_0 rfl (lv_at hl 0 rfl) ?_
  refine x_get (C := RX2) (T := TX2) (N := 14) hx hb hts in_wsX20 hown hK hP 0 rfl rfl 4 (by decide) q596 (v := .ref (b 0)) rfl dX2_level_1 ?_
  refine lv_iload_n hx hb dX2_level_4 rfl (lv_at hl 1 rfl) ?_
  refine x_ild hx hb hK hP 1 0 rfl rfl j (rfl) (by omega) (by decide) (v := σ 0 j) rfl dX2_level_5 ?_
  refine lv_aload_n hx hb dX2_level_6 rfl (lv_at hl 0 rfl) ?_
  refine lv_iload_n hx hb dX2_level_7 rfl (lv_at hl 1 rfl) ?_
  refine MC.callV (C := RX2) (T := TX2) (N := 14) (As := [.int (nI j)]) (rest := [.int (σ 0 j)]) (wB := rC cI cZ o b σ κ ζ th) (c_X2_water l D cI cZ cL o b σ κ ζ th j (by omega)) ⟨hx, hb, hml, hown, hts⟩ q686 b_X2_water (n := 1) (by decide +kernel) ⟨Nat.le_of_ble_eq_true rfl, Nat.le_of_ble_eq_true rfl⟩ hK hP hD hS hA (sp0 _) (sp0 _) (ci := 2) rfl (q0 := 0) rfl rfl hl.1 rfl (Nat.le_of_ble_eq_true rfl) dX2_level_8 ⟨Nat.le_of_ble_eq_true rfl, Nat.le_of_ble_eq_true rfl⟩ (fun H locs hP hD hS => ?_)
  refine lv_iadd hx hb dX2_level_11 ?_
  subst hQ
  exact ri hx hb hr hlocks hK hP hD hS dX2_level_12 (rfl) (rfl)

abbrev rmX2_flow : Room := { frames := 2, cells := 0, slots := 0, locals := 60 }
theorem b_X2_flow : Cond.instanceMethod yX2_flow ∈ LW ∧ Cond.selects RX2 yX2_flow yX2_flow ∈ LW ∧ Cond.initialized RX2 ∈ LW ∧ Cond.code yX2_flow cX2_flow 4 (some .int) ∈ LW := ⟨q712, q18, q40, q713⟩
set_option maxHeartbeats 4000000 in
set_option maxRecDepth 100000 in
theorem c_X2_flow (l : Launch) (D : va_G) (cI cZ cL : ClassId) {n k : Nat} (o : Nat) (b : Nat → Nat) (σ : Sg) (κ ζ : Nat → Int32) (th : Int32) (hst : Shp n k σ) {B : Nat} (hB : Bnd B σ) (hB2 : B < 2 ^ 29) (j : Nat) (hj : j < k) : MC l yX2_flow cX2_flow 4 (some .int) rmX2_flow D (tZ cI cZ cL) [.ref o, .int (nI j)] (rC cI cZ o b σ κ ζ th) (rC cI cZ o b σ κ ζ th) (some (.int (flow σ j))) := by
  refine MC.of (by decide) (Nat.le_of_ble_eq_true rfl) ?_
  intro p e s m args below meth c A ls Q hx hb hml hr hts hown hlocks hA hP hD hK hS hl hQ
  have hown : s.vm.findClass RX2 = some m.cls := hown
  have hn10 := hst.1
  have hk16 := hst.2.1
  obtain ⟨a0, ha0, ea0⟩ := hst.2.2.2.2.1 j hj
  have hl : lv_has ls 4 [(0, .ref o), (1, .int (nI j))] := hl
  refine lv_aload_n hx hb dX2_flow_0 rfl (lv_at hl 0 rfl) ?_
  refine x_get (C := RX2) (T := TX2) (N := 14) hx hb hts in_wsX20 hown hK hP 0 rfl rfl 10 (by decide) q602 (v := .ref (b 6)) rfl dX2_flow_1 ?_
  refine lv_iload_n hx hb dX2_flow_4 rfl (lv_at hl 1 rfl) ?_
  refine x_zld hx hb hK hP 7 1 rfl rfl j (rfl) (by omega) (by decide) (v := σ 10 j) rfl dX2_flow_5 ?_
  refine lv_if_ne (tgt := 11) hx hb dX2_flow_6 (by decide) (fun c_6 => ?_) (fun c_6 => ?_)
  · refine lv_aload_n hx hb dX2_flow_11 rfl (lv_at hl 0 rfl) ?_
    refine x_get (C := RX2) (T := TX2) (N := 14) hx hb hts in_wsX20 hown hK hP 0 rfl rfl 9 (by decide) q601 (v := .ref (b 5)) rfl dX2_flow_12 ?_
    refine lv_iload_n hx hb dX2_flow_15 rfl (lv_at hl 1 rfl) ?_
    refine x_zld hx hb hK hP 6 1 rfl rfl j (rfl) (by omega) (by decide) (v := σ 9 j) rfl dX2_flow_16 ?_
    refine lv_if_eq (tgt := 40) hx hb dX2_flow_17 (by decide) (fun c_17 => ?_) (fun c_17 => ?_)
    · obtain ⟨b0, hb0, eb0⟩ : ∃ b, b < n ∧ σ 6 j = nI b := by
        rcases hst.2.2.2.2.2 j hj with q | q
        · exact absurd c_17 q.2
        · exact q
      refine lv_aload_n hx hb dX2_flow_40 rfl (lv_at hl 0 rfl) ?_
      refine lv_aload_n hx hb dX2_flow_41 rfl (lv_at hl 0 rfl) ?_
      refine x_get (C := RX2) (T := TX2) (N := 14) hx hb hts in_wsX20 hown hK hP 0 rfl rfl 6 (by decide) q598 (v := .ref (b 2)) rfl dX2_flow_42 ?_
      refine lv_iload_n hx hb dX2_flow_45 rfl (lv_at hl 1 rfl) ?_
      refine x_ild hx hb hK hP 3 0 rfl rfl j (rfl) (by omega) (by decide) (v := (nI a0)) (ea0) dX2_flow_46 ?_
      refine MC.callV (C := RX2) (T := TX2) (N := 14) (As := [.int (nI a0)]) (rest := []) (wB := rC cI cZ o b σ κ ζ th) (c_X2_level l D cI cZ cL o b σ κ ζ th a0 (by omega)) ⟨hx, hb, hml, hown, hts⟩ q715 b_X2_level (n := 1) (by decide +kernel) ⟨Nat.le_of_ble_eq_true rfl, Nat.le_of_ble_eq_true rfl⟩ hK hP hD hS hA (sp0 _) (sp0 _) (ci := 2) rfl (q0 := 0) rfl rfl hl.1 rfl (Nat.le_of_ble_eq_true rfl) dX2_flow_47 ⟨Nat.le_of_ble_eq_true rfl, Nat.le_of_ble_eq_true rfl⟩ (fun H locs hP hD hS => ?_)
      refine lv_aload_n hx hb dX2_flow_50 rfl (lv_at hl 0 rfl) ?_
      refine lv_aload_n hx hb dX2_flow_51 rfl (lv_at hl 0 rfl) ?_
      refine x_get (C := RX2) (T := TX2) (N := 14) hx hb hts in_wsX20 hown hK hP 0 rfl rfl 7 (by decide) q599 (v := .ref (b 3)) rfl dX2_flow_52 ?_
      refine lv_iload_n hx hb dX2_flow_55 rfl (lv_at hl 1 rfl) ?_
      refine x_ild hx hb hK hP 4 0 rfl rfl j (rfl) (by omega) (by decide) (v := (nI b0)) (eb0) dX2_flow_56 ?_
      refine MC.callV (C := RX2) (T := TX2) (N := 14) (As := [.int (nI b0)]) (rest := [.int (σ 0 a0 + σ 2 a0)]) (wB := rC cI cZ o b σ κ ζ th) (c_X2_level l D cI cZ cL o b σ κ ζ th b0 (by omega)) ⟨hx, hb, hml, hown, hts⟩ q715 b_X2_level (n := 1) (by decide +kernel) ⟨Nat.le_of_ble_eq_true rfl, Nat.le_of_ble_eq_true rfl⟩ hK hP hD hS hA (sp0 _) (sp0 _) (ci := 2) rfl (q0 := 0) rfl rfl hl.1 rfl (Nat.le_of_ble_eq_true rfl) dX2_flow_57 ⟨Nat.le_of_ble_eq_true rfl, Nat.le_of_ble_eq_true rfl⟩ (fun H locs hP hD hS => ?_)
      refine lv_isub hx hb dX2_flow_60 ?_
      refine lv_topi (fun v_1 ev_1 => ?_)
      refine lv_istore_n (lv' := [(2, .int v_1), (0, .ref o), (1, .int (nI j))]) hx hb dX2_flow_61 rfl hl (by decide) rfl (fun ls hl => ?_)
      refine lv_aload_n hx hb dX2_flow_62 rfl (lv_at hl 1 rfl) ?_
      refine x_get (C := RX2) (T := TX2) (N := 14) hx hb hts in_wsX20 hown hK hP 0 rfl rfl 8 (by decide) q600 (v := .ref (b 4)) rfl dX2_flow_63 ?_
      refine lv_iload_n hx hb dX2_flow_66 rfl (lv_at hl 2 rfl) ?_
      refine x_ild hx hb hK hP 5 0 rfl rfl j (rfl) (by omega) (by decide) (v := σ 7 j) rfl dX2_flow_67 ?_
      refine lv_iload_n hx hb dX2_flow_68 rfl (lv_at hl 0 rfl) ?_
      refine va_mabs hx hb (by rw [hml]; exact hl.1.symm) hown (hts _ q719) (hts _ q235) (hts _ q47) (hts _ q236) (by decide) (Nat.le_of_ble_eq_true rfl) (Nat.le_of_ble_eq_true rfl) (Nat.le_of_ble_eq_true rfl) dX2_flow_69 ?_
      refine x_top (show _ = ab v_1 from rfl) ?_
      refine lv_iconst (v := 2) hx hb dX2_flow_72 (by decide) ?_
      refine lv_idiv hx hb dX2_flow_73 (by decide) ?_
      refine va_mmin hx hb (by rw [hml]; exact hl.1.symm) hown (hts _ q714) (hts _ q224) (hts _ q47) (hts _ q225) (by decide) (Nat.le_of_ble_eq_true rfl) (Nat.le_of_ble_eq_true rfl) (Nat.le_of_ble_eq_true rfl) dX2_flow_74 ?_
      refine x_top (show _ = mn (σ 7 j) ((ab v_1) / 2) from rfl) ?_
      refine lv_topi (fun v_2 ev_2 => ?_)
      refine lv_istore_n (lv' := [(3, .int v_2), (2, .int v_1), (0, .ref o), (1, .int (nI j))]) hx hb dX2_flow_77 rfl hl (by decide) rfl (fun ls hl => ?_)
      refine lv_iload_n hx hb dX2_flow_78 rfl (lv_at hl 1 rfl) ?_
      refine lv_if_le (tgt := 99) hx hb dX2_flow_79 (by decide) (fun c_79 => ?_) (fun c_79 => ?_)
      · refine lv_iload_n hx hb dX2_flow_99 rfl (lv_at hl 0 rfl) ?_
        refine lv_aload_n hx hb dX2_flow_100 rfl (lv_at hl 2 rfl) ?_
        refine lv_aload_n hx hb dX2_flow_101 rfl (lv_at hl 2 rfl) ?_
        refine x_get (C := RX2) (T := TX2) (N := 14) hx hb hts in_wsX20 hown hK hP 0 rfl rfl 7 (by decide) q599 (v := .ref (b 3)) rfl dX2_flow_102 ?_
        refine lv_iload_n hx hb dX2_flow_105 rfl (lv_at hl 3 rfl) ?_
        refine x_ild hx hb hK hP 4 0 rfl rfl j (rfl) (by omega) (by decide) (v := (nI b0)) (eb0) dX2_flow_106 ?_
        refine MC.callV (C := RX2) (T := TX2) (N := 14) (As := [.int (nI b0)]) (rest := [.int v_2]) (wB := rC cI cZ o b σ κ ζ th) (c_X2_water l D cI cZ cL o b σ κ ζ th b0 (by omega)) ⟨hx, hb, hml, hown, hts⟩ q686 b_X2_water (n := 1) (by decide +kernel) ⟨Nat.le_of_ble_eq_true rfl, Nat.le_of_ble_eq_true rfl⟩ hK hP hD hS hA (sp0 _) (sp0 _) (ci := 2) rfl (q0 := 0) rfl rfl hl.1 rfl (Nat.le_of_ble_eq_true rfl) dX2_flow_107 ⟨Nat.le_of_ble_eq_true rfl, Nat.le_of_ble_eq_true rfl⟩ (fun H locs hP hD hS => ?_)
        refine va_mmin hx hb (by rw [hml]; exact hl.1.symm) hown (hts _ q714) (hts _ q224) (hts _ q47) (hts _ q225) (by decide) (Nat.le_of_ble_eq_true rfl) (Nat.le_of_ble_eq_true rfl) (Nat.le_of_ble_eq_true rfl) dX2_flow_110 ?_
        refine x_top (show _ = mn v_2 (σ 2 b0) from rfl) ?_
        refine lv_ineg hx hb dX2_flow_113 ?_
        subst hQ
        exact ri hx hb hr hlocks hK hP hD hS dX2_flow_114 (rfl) (by rw [flow_ref hst hB hB2 hj ha0 ea0 hb0 eb0 c_6 c_17, ← ev_1, if_neg (Int32.not_lt.mpr c_79), ev_2])
      · refine lv_iload_n hx hb dX2_flow_82 rfl (lv_at hl 0 rfl) ?_
        refine lv_aload_n hx hb dX2_flow_83 rfl (lv_at hl 2 rfl) ?_
        refine lv_aload_n hx hb dX2_flow_84 rfl (lv_at hl 2 rfl) ?_
        refine x_get (C := RX2) (T := TX2) (N := 14) hx hb hts in_wsX20 hown hK hP 0 rfl rfl 6 (by decide) q598 (v := .ref (b 2)) rfl dX2_flow_85 ?_
        refine lv_iload_n hx hb dX2_flow_88 rfl (lv_at hl 3 rfl) ?_
        refine x_ild hx hb hK hP 3 0 rfl rfl j (rfl) (by omega) (by decide) (v := (nI a0)) (ea0) dX2_flow_89 ?_
        refine MC.callV (C := RX2) (T := TX2) (N := 14) (As := [.int (nI a0)]) (rest := [.int v_2]) (wB := rC cI cZ o b σ κ ζ th) (c_X2_water l D cI cZ cL o b σ κ ζ th a0 (by omega)) ⟨hx, hb, hml, hown, hts⟩ q686 b_X2_water (n := 1) (by decide +kernel) ⟨Nat.le_of_ble_eq_true rfl, Nat.le_of_ble_eq_true rfl⟩ hK hP hD hS hA (sp0 _) (sp0 _) (ci := 2) rfl (q0 := 0) rfl rfl hl.1 rfl (Nat.le_of_ble_eq_true rfl) dX2_flow_90 ⟨Nat.le_of_ble_eq_true rfl, Nat.le_of_ble_eq_true rfl⟩ (fun H locs hP hD hS => ?_)
        refine va_mmin hx hb (by rw [hml]; exact hl.1.symm) hown (hts _ q714) (hts _ q224) (hts _ q47) (hts _ q225) (by decide) (Nat.le_of_ble_eq_true rfl) (Nat.le_of_ble_eq_true rfl) (Nat.le_of_ble_eq_true rfl) dX2_flow_93 ?_
        refine x_top (show _ = mn v_2 (σ 2 a0) from rfl) ?_
        refine lv_goto (tgt := 114) hx hb dX2_flow_96 (by decide) ?_
        subst hQ
        exact ri hx hb hr hlocks hK hP hD hS dX2_flow_114 (rfl) (by rw [flow_ref hst hB hB2 hj ha0 ea0 hb0 eb0 c_6 c_17, ← ev_1, if_pos (Int32.not_le.mp c_79), ev_2])
    · refine lv_aload_n hx hb dX2_flow_20 rfl (lv_at hl 0 rfl) ?_
      refine x_get (C := RX2) (T := TX2) (N := 14) hx hb hts in_wsX20 hown hK hP 0 rfl rfl 8 (by decide) q600 (v := .ref (b 4)) rfl dX2_flow_21 ?_
      refine lv_iload_n hx hb dX2_flow_24 rfl (lv_at hl 1 rfl) ?_
      refine x_ild hx hb hK hP 5 0 rfl rfl j (rfl) (by omega) (by decide) (v := σ 7 j) rfl dX2_flow_25 ?_
      refine lv_aload_n hx hb dX2_flow_26 rfl (lv_at hl 0 rfl) ?_
      refine lv_aload_n hx hb dX2_flow_27 rfl (lv_at hl 0 rfl) ?_
      refine x_get (C := RX2) (T := TX2) (N := 14) hx hb hts in_wsX20 hown hK hP 0 rfl rfl 6 (by decide) q598 (v := .ref (b 2)) rfl dX2_flow_28 ?_
      refine lv_iload_n hx hb dX2_flow_31 rfl (lv_at hl 1 rfl) ?_
      refine x_ild hx hb hK hP 3 0 rfl rfl j (rfl) (by omega) (by decide) (v := (nI a0)) (ea0) dX2_flow_32 ?_
      refine MC.callV (C := RX2) (T := TX2) (N := 14) (As := [.int (nI a0)]) (rest := [.int (σ 7 j)]) (wB := rC cI cZ o b σ κ ζ th) (c_X2_water l D cI cZ cL o b σ κ ζ th a0 (by omega)) ⟨hx, hb, hml, hown, hts⟩ q686 b_X2_water (n := 1) (by decide +kernel) ⟨Nat.le_of_ble_eq_true rfl, Nat.le_of_ble_eq_true rfl⟩ hK hP hD hS hA (sp0 _) (sp0 _) (ci := 2) rfl (q0 := 0) rfl rfl hl.1 rfl (Nat.le_of_ble_eq_true rfl) dX2_flow_33 ⟨Nat.le_of_ble_eq_true rfl, Nat.le_of_ble_eq_true rfl⟩ (fun H locs hP hD hS => ?_)
      refine va_mmin hx hb (by rw [hml]; exact hl.1.symm) hown (hts _ q714) (hts _ q224) (hts _ q47) (hts _ q225) (by decide) (Nat.le_of_ble_eq_true rfl) (Nat.le_of_ble_eq_true rfl) (Nat.le_of_ble_eq_true rfl) dX2_flow_36 ?_
      refine x_top (show _ = mn (σ 7 j) (σ 2 a0) from rfl) ?_
      subst hQ
      exact ri hx hb hr hlocks hK hP hD hS dX2_flow_39 (rfl) (by unfold flow; rw [ea0, nI_clamp (by omega)]; unfold flA; rw [if_neg c_6, if_pos c_17])
  · refine lv_iconst (v := 0) hx hb dX2_flow_9 (by decide) ?_
    subst hQ
    exact ri hx hb hr hlocks hK hP hD hS dX2_flow_10 (rfl) (by unfold flow flA; rw [if_pos c_6])

abbrev rmX2_carry : Room := { frames := 3, cells := 0, slots := 0, locals := 83 }
theorem b_X2_carry : Cond.instanceMethod yX2_carry ∈ LW ∧ Cond.selects RX2 yX2_carry yX2_carry ∈ LW ∧ Cond.initialized RX2 ∈ LW ∧ Cond.code yX2_carry cX2_carry 3 none ∈ LW := ⟨q708, q17, q40, q709⟩
set_option maxHeartbeats 4000000 in
set_option maxRecDepth 100000 in
theorem c_X2_carry (l : Launch) (D : va_G) (cI cZ cL : ClassId) {n k : Nat} (o : Nat) (b : Nat → Nat) (σ : Sg) (κ ζ : Nat → Int32) (th : Int32) (hst : Shp n k σ) {B : Nat} (hB : Bnd B σ) (hB2 : B < 2 ^ 29) (j : Nat) (hj : j < k) : MC l yX2_carry cX2_carry 3 none rmX2_carry D (tZ cI cZ cL) [.ref o, .int (nI j)] (rC cI cZ o b σ κ ζ th) (rC cI cZ o b (carryB j σ) κ ζ th) (none) := by
  refine MC.of (by decide) (Nat.le_of_ble_eq_true rfl) ?_
  intro p e s m args below meth c A ls Q hx hb hml hr hts hown hlocks hA hP hD hK hS hl hQ
  have hown : s.vm.findClass RX2 = some m.cls := hown
  have hn10 := hst.1
  have hk16 := hst.2.1
  obtain ⟨a0, ha0, ea0⟩ := hst.2.2.2.2.1 j hj
  have hl : lv_has ls 3 [(0, .ref o), (1, .int (nI j))] := hl
  refine lv_aload_n hx hb dX2_carry_0 rfl (lv_at hl 0 rfl) ?_
  refine lv_iload_n hx hb dX2_carry_1 rfl (lv_at hl 1 rfl) ?_
  refine MC.callV (C := RX2) (T := TX2) (N := 14) (As := [.int (nI j)]) (rest := []) (wB := rC cI cZ o b σ κ ζ th) (c_X2_flow l D cI cZ cL o b σ κ ζ th hst hB hB2 j hj) ⟨hx, hb, hml, hown, hts⟩ q710 b_X2_flow (n := 1) (by decide +kernel) ⟨Nat.le_of_ble_eq_true rfl, Nat.le_of_ble_eq_true rfl⟩ hK hP hD hS hA (sp0 _) (sp0 _) (ci := 2) rfl (q0 := 0) rfl rfl hl.1 rfl (Nat.le_of_ble_eq_true rfl) dX2_carry_2 ⟨Nat.le_of_ble_eq_true rfl, Nat.le_of_ble_eq_true rfl⟩ (fun H locs hP hD hS => ?_)
  refine lv_istore_n (lv' := [(2, .int (flow σ j)), (0, .ref o), (1, .int (nI j))]) hx hb dX2_carry_5 rfl hl (by decide) rfl (fun ls hl => ?_)
  refine lv_aload_n hx hb dX2_carry_6 rfl (lv_at hl 1 rfl) ?_
  refine x_get (C := RX2) (T := TX2) (N := 14) hx hb hts in_wsX20 hown hK hP 0 rfl rfl 11 (by decide) q603 (v := .ref (b 7)) rfl dX2_carry_7 ?_
  refine lv_bipush (v := 32) hx hb dX2_carry_10 (by decide) ?_
  refine lv_iload_n hx hb dX2_carry_12 rfl (lv_at hl 2 rfl) ?_
  refine lv_iadd hx hb dX2_carry_13 ?_
  refine lv_dup2_11 hx hb dX2_carry_14 rfl rfl ?_
  refine x_ild hx hb hK hP 8 0 rfl rfl (32 + j) (nI_add 32 j) (by omega) (by decide) (v := σ 8 j) (nw_32 σ j) dX2_carry_15 ?_
  refine lv_iload_n hx hb dX2_carry_16 rfl (lv_at hl 0 rfl) ?_
  refine va_mabs hx hb (by rw [hml]; exact hl.1.symm) hown (hts _ q719) (hts _ q235) (hts _ q47) (hts _ q236) (by decide) (Nat.le_of_ble_eq_true rfl) (Nat.le_of_ble_eq_true rfl) (Nat.le_of_ble_eq_true rfl) dX2_carry_17 ?_
  refine x_top (show _ = ab (flow σ j) from rfl) ?_
  refine lv_iadd hx hb dX2_carry_20 ?_
  refine x_ist (ws2 := rC cI cZ o b (su σ 8 j ((σ 8 j) + (ab (flow σ j)))) κ ζ th) hx hb hK hP hD hS 8 0 rfl rfl (32 + j) (nI_add 32 j) (by omega) (by decide) (by rw [nwu_32 σ j ((σ 8 j) + (ab (flow σ j)))]; rfl) dX2_carry_21 (fun H locs hP hD hS => ?_)
  refine lv_aload_n hx hb dX2_carry_22 rfl (lv_at hl 1 rfl) ?_
  refine x_get (C := RX2) (T := TX2) (N := 14) hx hb hts in_wsX20 hown hK hP 0 rfl rfl 11 (by decide) q603 (v := .ref (b 7)) rfl dX2_carry_23 ?_
  refine lv_iconst (v := 2) hx hb dX2_carry_26 (by decide) ?_
  refine lv_aload_n hx hb dX2_carry_27 rfl (lv_at hl 1 rfl) ?_
  refine x_get (C := RX2) (T := TX2) (N := 14) hx hb hts in_wsX20 hown hK hP 0 rfl rfl 6 (by decide) q598 (v := .ref (b 2)) rfl dX2_carry_28 ?_
  refine lv_iload_n hx hb dX2_carry_31 rfl (lv_at hl 2 rfl) ?_
  refine x_ild hx hb hK hP 3 0 rfl rfl j (rfl) (by omega) (by decide) (v := (nI a0)) ea0 dX2_carry_32 ?_
  refine lv_iadd hx hb dX2_carry_33 ?_
  refine lv_dup2_11 hx hb dX2_carry_34 rfl rfl ?_
  refine x_ild hx hb hK hP 8 0 rfl rfl (2 + a0) (nI_add 2 a0) (by omega) (by decide) (v := σ 2 a0) (nw_2 _ (by omega)) dX2_carry_35 ?_
  refine lv_iload_n hx hb dX2_carry_36 rfl (lv_at hl 0 rfl) ?_
  refine lv_isub hx hb dX2_carry_37 ?_
  refine x_ist (ws2 := rC cI cZ o b (su (su σ 8 j ((σ 8 j) + (ab (flow σ j)))) 2 a0 ((σ 2 a0) - (flow σ j))) κ ζ th) hx hb hK hP hD hS 8 0 rfl rfl (2 + a0) (nI_add 2 a0) (by omega) (by decide) (by rw [nwu_2 (su σ 8 j ((σ 8 j) + (ab (flow σ j)))) (f := a0) ((σ 2 a0) - (flow σ j)) (by omega)]; rfl) dX2_carry_38 (fun H locs hP hD hS => ?_)
  refine lv_aload_n hx hb dX2_carry_39 rfl (lv_at hl 1 rfl) ?_
  refine x_get (C := RX2) (T := TX2) (N := 14) hx hb hts in_wsX20 hown hK hP 0 rfl rfl 7 (by decide) q599 (v := .ref (b 3)) rfl dX2_carry_40 ?_
  refine lv_iload_n hx hb dX2_carry_43 rfl (lv_at hl 2 rfl) ?_
  refine x_ild hx hb hK hP 4 0 rfl rfl j (rfl) (by omega) (by decide) (v := σ 6 j) rfl dX2_carry_44 ?_
  refine lv_iconst (v := (-1)) hx hb dX2_carry_45 (by decide) ?_
  refine lv_icmp_ne (tgt := 62) hx hb dX2_carry_46 (by decide) (fun c_46 => ?_) (fun c_46 => ?_)
  · obtain ⟨b0, hb0, eb0⟩ : ∃ b, b < n ∧ σ 6 j = nI b := by
      rcases hst.2.2.2.2.2 j hj with q | q
      · exact absurd q.1 c_46
      · exact q
    refine lv_aload_n hx hb dX2_carry_62 rfl (lv_at hl 1 rfl) ?_
    refine x_get (C := RX2) (T := TX2) (N := 14) hx hb hts in_wsX20 hown hK hP 0 rfl rfl 11 (by decide) q603 (v := .ref (b 7)) rfl dX2_carry_63 ?_
    refine lv_iconst (v := 2) hx hb dX2_carry_66 (by decide) ?_
    refine lv_aload_n hx hb dX2_carry_67 rfl (lv_at hl 1 rfl) ?_
    refine x_get (C := RX2) (T := TX2) (N := 14) hx hb hts in_wsX20 hown hK hP 0 rfl rfl 7 (by decide) q599 (v := .ref (b 3)) rfl dX2_carry_68 ?_
    refine lv_iload_n hx hb dX2_carry_71 rfl (lv_at hl 2 rfl) ?_
    refine x_ild hx hb hK hP 4 0 rfl rfl j (rfl) (by omega) (by decide) (v := (nI b0)) eb0 dX2_carry_72 ?_
    refine lv_iadd hx hb dX2_carry_73 ?_
    refine lv_dup2_11 hx hb dX2_carry_74 rfl rfl ?_
    refine x_ild hx hb hK hP 8 0 rfl rfl (2 + b0) (nI_add 2 b0) (by omega) (by decide) (v := (su (su σ 8 j (σ 8 j + ab (flow σ j))) 2 a0 (σ 2 a0 - flow σ j)) 2 b0) (nw_2 _ (by omega)) dX2_carry_75 ?_
    refine lv_iload_n hx hb dX2_carry_76 rfl (lv_at hl 0 rfl) ?_
    refine lv_iadd hx hb dX2_carry_77 ?_
    refine x_ist (ws2 := rC cI cZ o b (su (su (su σ 8 j ((σ 8 j) + (ab (flow σ j)))) 2 a0 ((σ 2 a0) - (flow σ j))) 2 b0 (((su (su σ 8 j (σ 8 j + ab (flow σ j))) 2 a0 (σ 2 a0 - flow σ j)) 2 b0) + (flow σ j))) κ ζ th) hx hb hK hP hD hS 8 0 rfl rfl (2 + b0) (nI_add 2 b0) (by omega) (by decide) (by rw [nwu_2 (su (su σ 8 j ((σ 8 j) + (ab (flow σ j)))) 2 a0 ((σ 2 a0) - (flow σ j))) (f := b0) (((su (su σ 8 j (σ 8 j + ab (flow σ j))) 2 a0 (σ 2 a0 - flow σ j)) 2 b0) + (flow σ j)) (by omega)]; rfl) dX2_carry_78 (fun H locs hP hD hS => ?_)
    subst hQ
    exact rv hx hb hr hlocks hK hP hD hS dX2_carry_79 (by unfold carryB letF; rw [ea0, nI_clamp (by omega), if_neg c_46, eb0, nI_clamp (by omega)]; unfold addW; rw [← Int32.sub_eq_add_neg]; rw [su_comm σ j a0 _ _ (by decide : ¬ 8 = 2), su_comm (su σ 2 a0 (σ 2 a0 - flow σ j)) j b0 _ _ (by decide : ¬ 8 = 2)]; rfl)
  · refine lv_aload_n hx hb dX2_carry_49 rfl (lv_at hl 1 rfl) ?_
    refine x_get (C := RX2) (T := TX2) (N := 14) hx hb hts in_wsX20 hown hK hP 0 rfl rfl 11 (by decide) q603 (v := .ref (b 7)) rfl dX2_carry_50 ?_
    refine lv_iconst (v := 1) hx hb dX2_carry_53 (by decide) ?_
    refine lv_dup2_11 hx hb dX2_carry_54 rfl rfl ?_
    refine x_ild hx hb hK hP 8 0 rfl rfl 1 (rfl) (by omega) (by decide) (v := σ 11 3) rfl dX2_carry_55 ?_
    refine lv_iload_n hx hb dX2_carry_56 rfl (lv_at hl 0 rfl) ?_
    refine lv_iadd hx hb dX2_carry_57 ?_
    refine x_ist (ws2 := rC cI cZ o b (sc (su (su σ 8 j ((σ 8 j) + (ab (flow σ j)))) 2 a0 ((σ 2 a0) - (flow σ j))) 3 ((σ 11 3) + (flow σ j))) κ ζ th) hx hb hK hP hD hS 8 0 rfl rfl 1 (rfl) (by omega) (by decide) (by rw [nwu_1]; rfl) dX2_carry_58 (fun H locs hP hD hS => ?_)
    refine lv_goto (tgt := 79) hx hb dX2_carry_59 (by decide) ?_
    subst hQ
    exact rv hx hb hr hlocks hK hP hD hS dX2_carry_79 (by unfold carryB letF; rw [ea0, nI_clamp (by omega), if_pos c_46]; unfold addW; rw [← Int32.sub_eq_add_neg]; rw [su_comm σ j a0 _ _ (by decide : ¬ 8 = 2), su_sc (su σ 2 a0 (σ 2 a0 - flow σ j)) j 3 _ _ (by decide : ¬ 8 = 11)])

abbrev rmX2_hourOn : Room := { frames := 4, cells := 0, slots := 0, locals := 105 }
theorem b_X2_hourOn : Cond.instanceMethod yX2_hourOn ∈ LW ∧ Cond.selects RX2 yX2_hourOn yX2_hourOn ∈ LW ∧ Cond.initialized RX2 ∈ LW ∧ Cond.code yX2_hourOn cX2_hourOn 2 none ∈ LW := ⟨q704, q16, q40, q705⟩
set_option maxHeartbeats 4000000 in
set_option maxRecDepth 100000 in
theorem c_X2_hourOn (l : Launch) (D : va_G) (cI cZ cL : ClassId) {n k : Nat} (o : Nat) (b : Nat → Nat) (σ : Sg) (κ ζ : Nat → Int32) (th : Int32) (hst : Shp n k σ) {B : Nat} (hB : Bnd B σ) (hB2 : B + 400 < 2 ^ 29) : MC l yX2_hourOn cX2_hourOn 2 none rmX2_hourOn D (tZ cI cZ cL) [.ref o] (rC cI cZ o b σ κ ζ th) (rC cI cZ o b (hour σ) κ ζ th) (none) := by
  refine MC.of (by decide) (Nat.le_of_ble_eq_true rfl) ?_
  intro p e s m args below meth c A ls Q hx hb hml hr hts hown hlocks hA hP hD hK hS hl hQ
  have hown : s.vm.findClass RX2 = some m.cls := hown
  have hn10 := hst.1
  have hk16 := hst.2.1
  have hl : lv_has ls 2 [(0, .ref o)] := hl
  refine lv_iconst (v := 0) hx hb dX2_hourOn_0 (by decide) ?_
  refine lv_istore_n (lv' := [(1, .int 0), (0, .ref o)]) hx hb dX2_hourOn_1 rfl hl (by decide) rfl (fun ls hl => ?_)
  have hl : lv_has ls 2 [(1, .int (nI 0)), (0, .ref o)] := hl
  have L2 : ∀ (f i : Nat), i ≤ n → n < i + f → ∀ (H : Heap) (locs : List Loc) (ls : Array Slot), va_P D vwCl (rC cI cZ o b (it rainB i σ) κ ζ th) H → va_D A (rC cI cZ o b (it rainB i σ) κ ζ th) → va_S A s.heap H locs → lv_has ls 2 [(0, .ref o), (1, .int (nI i))] → W p l e rmX2_hourOn s m args below meth c H locs 0 0 Q (F0 m 2 ls []) := by
    intro f
    induction f with
    | zero => intro i h1 h2; exact absurd h2 (by omega)
    | succ f ih =>
      intro i hi_2 hf_2 H locs ls hP hD hS hl
      obtain ⟨τ, eτ⟩ : ∃ z, z = it rainB i σ := ⟨_, rfl⟩
      rw [← eτ] at hP hD
      have hst9 : Shp n k τ := by rw [eτ]; exact hst.iter Shp.rain i
      refine lv_iload_n hx hb dX2_hourOn_2 rfl (lv_at hl 1 rfl) ?_
      refine lv_aload_n hx hb dX2_hourOn_3 rfl (lv_at hl 0 rfl) ?_
      refine x_get (C := RX2) (T := TX2) (N := 14) hx hb hts in_wsX20 hown hK hP 0 rfl rfl 1 (by decide) q593 (v := .int (nI n)) (congrArg (fun z => some (Value.int z)) (hst9.f0)) dX2_hourOn_4 ?_
      refine lv_icmp_ge (tgt := 31) hx hb dX2_hourOn_7 (by decide) (fun c_7 => ?_) (fun c_7 => ?_)
      · have hc_7 : n ≤ i := (nI_leI (a := n) (b := i) (by omega) (by omega)).mp c_7
        refine lv_iconst (v := 0) hx hb dX2_hourOn_31 (by decide) ?_
        refine lv_istore_n (lv' := [(1, .int 0), (0, .ref o)]) hx hb dX2_hourOn_32 rfl hl (by decide) rfl (fun ls hl => ?_)
        have eh1 : τ = hour1 σ := by rw [eτ]; unfold hour1; rw [hst.eF, show i = n by omega]
        rw [eh1] at hP hD
        have hs1 : Shp n k (hour1 σ) := hst.h1
        have hB1 : Bnd (B + 90) (hour1 σ) := hB.hr1 hst
        have hl : lv_has ls 2 [(1, .int (nI 0)), (0, .ref o)] := hl
        have L33 : ∀ (f j : Nat), j ≤ k → k < j + f → ∀ (H : Heap) (locs : List Loc) (ls : Array Slot), va_P D vwCl (rC cI cZ o b (it carryB j (hour1 σ)) κ ζ th) H → va_D A (rC cI cZ o b (it carryB j (hour1 σ)) κ ζ th) → va_S A s.heap H locs → lv_has ls 2 [(0, .ref o), (1, .int (nI j))] → W p l e rmX2_hourOn s m args below meth c H locs 0 0 Q (F0 m 33 ls []) := by
          intro f
          induction f with
          | zero => intro j h1 h2; exact absurd h2 (by omega)
          | succ f ih =>
            intro j hi_33 hf_33 H locs ls hP hD hS hl
            obtain ⟨τ2, eτ2⟩ : ∃ z, z = it carryB j (hour1 σ) := ⟨_, rfl⟩
            rw [← eτ2] at hP hD
            have hst8 : Shp n k τ2 := by rw [eτ2]; exact hs1.iter Shp.carry j
            have hB8 : Bnd (B + 90 + 9 * j) τ2 := by rw [eτ2]; exact Bnd.h2 hs1 hB1 (by omega) j hi_33
            refine lv_iload_n hx hb dX2_hourOn_33 rfl (lv_at hl 1 rfl) ?_
            refine lv_aload_n hx hb dX2_hourOn_34 rfl (lv_at hl 0 rfl) ?_
            refine x_get (C := RX2) (T := TX2) (N := 14) hx hb hts in_wsX20 hown hK hP 0 rfl rfl 2 (by decide) q594 (v := .int (nI k)) (congrArg (fun z => some (Value.int z)) (hst8.f1)) dX2_hourOn_35 ?_
            refine lv_icmp_ge (tgt := 52) hx hb dX2_hourOn_38 (by decide) (fun c_38 => ?_) (fun c_38 => ?_)
            · have hc_38 : k ≤ j := (nI_leI (a := k) (b := j) (by omega) (by omega)).mp c_38
              refine lv_iconst (v := 0) hx hb dX2_hourOn_52 (by decide) ?_
              refine lv_istore_n (lv' := [(1, .int 0), (0, .ref o)]) hx hb dX2_hourOn_53 rfl hl (by decide) rfl (fun ls hl => ?_)
              have eh2 : τ2 = hour2 σ := by rw [eτ2]; unfold hour2; rw [hst.eD, show j = k by omega]
              rw [eh2] at hP hD
              have hs2 : Shp n k (hour2 σ) := hst.h2
              have hl : lv_has ls 2 [(1, .int (nI 0)), (0, .ref o)] := hl
              have L54 : ∀ (f q : Nat), q ≤ n → n < q + f → ∀ (H : Heap) (locs : List Loc) (ls : Array Slot), va_P D vwCl (rC cI cZ o b (it wetB q (hour2 σ)) κ ζ th) H → va_D A (rC cI cZ o b (it wetB q (hour2 σ)) κ ζ th) → va_S A s.heap H locs → lv_has ls 2 [(0, .ref o), (1, .int (nI q))] → W p l e rmX2_hourOn s m args below meth c H locs 0 0 Q (F0 m 54 ls []) := by
                intro f
                induction f with
                | zero => intro q h1 h2; exact absurd h2 (by omega)
                | succ f ih =>
                  intro q hi_54 hf_54 H locs ls hP hD hS hl
                  obtain ⟨τ3, eτ3⟩ : ∃ z, z = it wetB q (hour2 σ) := ⟨_, rfl⟩
                  rw [← eτ3] at hP hD
                  have hst7 : Shp n k τ3 := by rw [eτ3]; exact hs2.iter Shp.wet q
                  refine lv_iload_n hx hb dX2_hourOn_54 rfl (lv_at hl 1 rfl) ?_
                  refine lv_aload_n hx hb dX2_hourOn_55 rfl (lv_at hl 0 rfl) ?_
                  refine x_get (C := RX2) (T := TX2) (N := 14) hx hb hts in_wsX20 hown hK hP 0 rfl rfl 1 (by decide) q593 (v := .int (nI n)) (congrArg (fun z => some (Value.int z)) (hst7.f0)) dX2_hourOn_56 ?_
                  refine lv_icmp_ge (tgt := 125) hx hb dX2_hourOn_59 (by decide) (fun c_59 => ?_) (fun c_59 => ?_)
                  · have hc_59 : n ≤ q := (nI_leI (a := n) (b := q) (by omega) (by omega)).mp c_59
                    have eh3 : τ3 = hour3 σ := by rw [eτ3]; unfold hour3; rw [hst.eF, show q = n by omega]
                    rw [eh3] at hP hD
                    refine lv_aload_n hx hb dX2_hourOn_125 rfl (lv_at hl 0 rfl) ?_
                    refine x_get (C := RX2) (T := TX2) (N := 14) hx hb hts in_wsX20 hown hK hP 0 rfl rfl 11 (by decide) q603 (v := .ref (b 7)) rfl dX2_hourOn_126 ?_
                    refine lv_iconst (v := 0) hx hb dX2_hourOn_129 (by decide) ?_
                    refine lv_dup2_11 hx hb dX2_hourOn_130 rfl rfl ?_
                    refine x_ild hx hb hK hP 8 0 rfl rfl 0 (rfl) (by omega) (by decide) (v := (hour3 σ) 11 4) rfl dX2_hourOn_131 ?_
                    refine lv_iconst (v := 1) hx hb dX2_hourOn_132 (by decide) ?_
                    refine lv_iadd hx hb dX2_hourOn_133 ?_
                    refine x_ist (ws2 := rC cI cZ o b (sc (hour3 σ) 4 (((hour3 σ) 11 4) + 1)) κ ζ th) hx hb hK hP hD hS 8 0 rfl rfl 0 (rfl) (by omega) (by decide) (by rw [nwu_0]; rfl) dX2_hourOn_134 (fun H locs hP hD hS => ?_)
                    subst hQ
                    exact rv hx hb hr hlocks hK hP hD hS dX2_hourOn_135 (rfl)
                  · have hc_59 : q < n := Nat.not_le.mp (fun z => c_59 ((nI_leI (a := n) (b := q) (by omega) (by omega)).mpr z))
                    refine lv_aload_n hx hb dX2_hourOn_62 rfl (lv_at hl 0 rfl) ?_
                    refine x_get (C := RX2) (T := TX2) (N := 14) hx hb hts in_wsX20 hown hK hP 0 rfl rfl 11 (by decide) q603 (v := .ref (b 7)) rfl dX2_hourOn_63 ?_
                    refine lv_bipush (v := 12) hx hb dX2_hourOn_66 (by decide) ?_
                    refine lv_iload_n hx hb dX2_hourOn_68 rfl (lv_at hl 1 rfl) ?_
                    refine lv_iadd hx hb dX2_hourOn_69 ?_
                    refine lv_aload_n hx hb dX2_hourOn_70 rfl (lv_at hl 0 rfl) ?_
                    refine lv_iload_n hx hb dX2_hourOn_71 rfl (lv_at hl 1 rfl) ?_
                    refine MC.callV (C := RX2) (T := TX2) (N := 14) (As := [.int (nI q)]) (rest := [.int (12 + (nI q)), .ref (b 7)]) (wB := rC cI cZ o b τ3 κ ζ th) (c_X2_water l D cI cZ cL o b τ3 κ ζ th q (by omega)) ⟨hx, hb, hml, hown, hts⟩ q686 b_X2_water (n := 1) (by decide +kernel) ⟨Nat.le_of_ble_eq_true rfl, Nat.le_of_ble_eq_true rfl⟩ hK hP hD hS hA (sp0 _) (sp0 _) (ci := 2) rfl (q0 := 0) rfl rfl hl.1 rfl (Nat.le_of_ble_eq_true rfl) dX2_hourOn_72 ⟨Nat.le_of_ble_eq_true rfl, Nat.le_of_ble_eq_true rfl⟩ (fun H locs hP hD hS => ?_)
                    refine lv_iconst (v := 4) hx hb dX2_hourOn_75 (by decide) ?_
                    have J94_1 : W p l e rmX2_hourOn s m args below meth c H locs 0 0 Q (F0 m 94 ls [.int (wv τ3 q), .int (12 + (nI q)), .ref (b 7)]) := by
                      refine x_ist (ws2 := rC cI cZ o b (su τ3 3 q (wv τ3 q)) κ ζ th) hx hb hK hP hD hS 8 0 rfl rfl (12 + q) (nI_add 12 q) (by omega) (by decide) (by rw [nwu_12 τ3 (f := q) (wv τ3 q) (by omega)]; rfl) dX2_hourOn_94 (fun H locs hP hD hS => ?_)
                      refine lv_aload_n hx hb dX2_hourOn_95 rfl (lv_at hl 0 rfl) ?_
                      refine x_get (C := RX2) (T := TX2) (N := 14) hx hb hts in_wsX20 hown hK hP 0 rfl rfl 11 (by decide) q603 (v := .ref (b 7)) rfl dX2_hourOn_96 ?_
                      refine lv_bipush (v := 12) hx hb dX2_hourOn_99 (by decide) ?_
                      refine lv_iload_n hx hb dX2_hourOn_101 rfl (lv_at hl 1 rfl) ?_
                      refine lv_iadd hx hb dX2_hourOn_102 ?_
                      refine x_ild hx hb hK hP 8 0 rfl rfl (12 + q) (nI_add 12 q) (by omega) (by decide) (v := wv τ3 q) ((nw_12 _ (by omega)).trans (su_in _ _ _ _)) dX2_hourOn_103 ?_
                      refine lv_bipush (v := 6) hx hb dX2_hourOn_104 (by decide) ?_
                      refine lv_icmp_lt (tgt := 119) hx hb dX2_hourOn_106 (by decide) (fun c_106 => ?_) (fun c_106 => ?_)
                      · refine lv_iinc (v := (nI (q + 1))) (lv' := [(1, .int (nI (q + 1))), (0, .ref o)]) hx hb dX2_hourOn_119 hl (k := 1) rfl (nI_add q 1) (by decide) rfl (fun ls hl => ?_)
                        refine lv_goto (tgt := 54) hx hb dX2_hourOn_122 (by decide) ?_
                        have e9 : su τ3 3 q (wv τ3 q) = it wetB (q + 1) (hour2 σ) := by
                          show _ = wetB q (it wetB q (hour2 σ))
                          rw [← eτ3]
                          unfold wetB
                          rw [if_neg (Int32.not_le.mpr c_106)]
                        rw [e9] at hP hD
                        exact ih (q + 1) (by omega) (by omega) _ _ _ hP hD hS (lv_sub hl [1, 0] rfl)
                      · refine lv_aload_n hx hb dX2_hourOn_109 rfl (lv_at hl 0 rfl) ?_
                        refine x_get (C := RX2) (T := TX2) (N := 14) hx hb hts in_wsX20 hown hK hP 0 rfl rfl 11 (by decide) q603 (v := .ref (b 7)) rfl dX2_hourOn_110 ?_
                        refine lv_bipush (v := 22) hx hb dX2_hourOn_113 (by decide) ?_
                        refine lv_iload_n hx hb dX2_hourOn_115 rfl (lv_at hl 1 rfl) ?_
                        refine lv_iadd hx hb dX2_hourOn_116 ?_
                        refine lv_iconst (v := 1) hx hb dX2_hourOn_117 (by decide) ?_
                        refine x_ist (ws2 := rC cI cZ o b (su (su τ3 3 q (wv τ3 q)) 4 q 1) κ ζ th) hx hb hK hP hD hS 8 0 rfl rfl (22 + q) (nI_add 22 q) (by omega) (by decide) (by rw [nwu_22 (su τ3 3 q (wv τ3 q)) (f := q) 1 (by omega)]; rfl) dX2_hourOn_118 (fun H locs hP hD hS => ?_)
                        refine lv_iinc (v := (nI (q + 1))) (lv' := [(1, .int (nI (q + 1))), (0, .ref o)]) hx hb dX2_hourOn_119 hl (k := 1) rfl (nI_add q 1) (by decide) rfl (fun ls hl => ?_)
                        refine lv_goto (tgt := 54) hx hb dX2_hourOn_122 (by decide) ?_
                        have e9 : su (su τ3 3 q (wv τ3 q)) 4 q 1 = it wetB (q + 1) (hour2 σ) := by
                          show _ = wetB q (it wetB q (hour2 σ))
                          rw [← eτ3]
                          unfold wetB
                          rw [if_pos (Int32.not_lt.mp c_106)]
                        rw [e9] at hP hD
                        exact ih (q + 1) (by omega) (by omega) _ _ _ hP hD hS (lv_sub hl [1, 0] rfl)
                    refine lv_icmp_ge (tgt := 83) hx hb dX2_hourOn_76 (by decide) (fun c_76 => ?_) (fun c_76 => ?_)
                    · refine lv_aload_n hx hb dX2_hourOn_83 rfl (lv_at hl 0 rfl) ?_
                      refine x_get (C := RX2) (T := TX2) (N := 14) hx hb hts in_wsX20 hown hK hP 0 rfl rfl 11 (by decide) q603 (v := .ref (b 7)) rfl dX2_hourOn_84 ?_
                      refine lv_bipush (v := 12) hx hb dX2_hourOn_87 (by decide) ?_
                      refine lv_iload_n hx hb dX2_hourOn_89 rfl (lv_at hl 1 rfl) ?_
                      refine lv_iadd hx hb dX2_hourOn_90 ?_
                      refine x_ild hx hb hK hP 8 0 rfl rfl (12 + q) (nI_add 12 q) (by omega) (by decide) (v := τ3 3 q) (nw_12 τ3 (by omega)) dX2_hourOn_91 ?_
                      refine lv_iconst (v := 1) hx hb dX2_hourOn_92 (by decide) ?_
                      refine lv_iadd hx hb dX2_hourOn_93 ?_
                      exact x_top (show τ3 3 q + 1 = wv τ3 q by unfold wv; rw [if_pos c_76]) J94_1
                    · refine lv_iconst (v := 0) hx hb dX2_hourOn_79 (by decide) ?_
                      refine lv_goto (tgt := 94) hx hb dX2_hourOn_80 (by decide) ?_
                      exact x_top (show 0 = wv τ3 q by unfold wv; rw [if_neg c_76]) J94_1
              exact L54 (n + 1) 0 (by omega) (by omega) _ _ _ hP hD hS (lv_sub hl [1, 0] rfl)
            · have hc_38 : j < k := Nat.not_le.mp (fun z => c_38 ((nI_leI (a := k) (b := j) (by omega) (by omega)).mpr z))
              refine lv_aload_n hx hb dX2_hourOn_41 rfl (lv_at hl 0 rfl) ?_
              refine lv_iload_n hx hb dX2_hourOn_42 rfl (lv_at hl 1 rfl) ?_
              refine MC.callV (C := RX2) (T := TX2) (N := 14) (As := [.int (nI j)]) (rest := []) (wB := rC cI cZ o b (carryB j τ2) κ ζ th) (c_X2_carry l D cI cZ cL o b τ2 κ ζ th hst8 hB8 (by omega) j (by omega)) ⟨hx, hb, hml, hown, hts⟩ q706 b_X2_carry (n := 1) (by decide +kernel) ⟨Nat.le_of_ble_eq_true rfl, Nat.le_of_ble_eq_true rfl⟩ hK hP hD hS hA (sp0 _) (sp0 _) (ci := 2) rfl (q0 := 0) rfl rfl hl.1 rfl (Nat.le_of_ble_eq_true rfl) dX2_hourOn_43 ⟨Nat.le_of_ble_eq_true rfl, Nat.le_of_ble_eq_true rfl⟩ (fun H locs hP hD hS => ?_)
              refine lv_iinc (v := (nI (j + 1))) (lv' := [(1, .int (nI (j + 1))), (0, .ref o)]) hx hb dX2_hourOn_46 hl (k := 1) rfl (nI_add j 1) (by decide) rfl (fun ls hl => ?_)
              refine lv_goto (tgt := 33) hx hb dX2_hourOn_49 (by decide) ?_
              have e9 : carryB j τ2 = it carryB (j + 1) (hour1 σ) := by rw [eτ2]; rfl
              rw [e9] at hP hD
              exact ih (j + 1) (by omega) (by omega) _ _ _ hP hD hS (lv_sub hl [1, 0] rfl)
        exact L33 (k + 1) 0 (by omega) (by omega) _ _ _ hP hD hS (lv_sub hl [1, 0] rfl)
      · have hc_7 : i < n := Nat.not_le.mp (fun z => c_7 ((nI_leI (a := n) (b := i) (by omega) (by omega)).mpr z))
        refine lv_aload_n hx hb dX2_hourOn_10 rfl (lv_at hl 0 rfl) ?_
        refine x_get (C := RX2) (T := TX2) (N := 14) hx hb hts in_wsX20 hown hK hP 0 rfl rfl 11 (by decide) q603 (v := .ref (b 7)) rfl dX2_hourOn_11 ?_
        refine lv_iconst (v := 2) hx hb dX2_hourOn_14 (by decide) ?_
        refine lv_iload_n hx hb dX2_hourOn_15 rfl (lv_at hl 1 rfl) ?_
        refine lv_iadd hx hb dX2_hourOn_16 ?_
        refine lv_dup2_11 hx hb dX2_hourOn_17 rfl rfl ?_
        refine x_ild hx hb hK hP 8 0 rfl rfl (2 + i) (nI_add 2 i) (by omega) (by decide) (v := τ 2 i) (nw_2 τ (by omega)) dX2_hourOn_18 ?_
        refine lv_aload_n hx hb dX2_hourOn_19 rfl (lv_at hl 0 rfl) ?_
        refine x_get (C := RX2) (T := TX2) (N := 14) hx hb hts in_wsX20 hown hK hP 0 rfl rfl 3 (by decide) q595 (v := .int (τ 11 2)) rfl dX2_hourOn_20 ?_
        refine lv_iadd hx hb dX2_hourOn_23 ?_
        refine x_ist (ws2 := rC cI cZ o b (su τ 2 i ((τ 2 i) + (τ 11 2))) κ ζ th) hx hb hK hP hD hS 8 0 rfl rfl (2 + i) (nI_add 2 i) (by omega) (by decide) (by rw [nwu_2 τ (f := i) ((τ 2 i) + (τ 11 2)) (by omega)]; rfl) dX2_hourOn_24 (fun H locs hP hD hS => ?_)
        refine lv_iinc (v := (nI (i + 1))) (lv' := [(1, .int (nI (i + 1))), (0, .ref o)]) hx hb dX2_hourOn_25 hl (k := 1) rfl (nI_add i 1) (by decide) rfl (fun ls hl => ?_)
        refine lv_goto (tgt := 2) hx hb dX2_hourOn_28 (by decide) ?_
        have e9 : su τ 2 i ((τ 2 i) + (τ 11 2)) = it rainB (i + 1) σ := by rw [eτ]; rfl
        rw [e9] at hP hD
        exact ih (i + 1) (by omega) (by omega) _ _ _ hP hD hS (lv_sub hl [1, 0] rfl)
  exact L2 (n + 1) 0 (by omega) (by omega) _ _ _ hP hD hS (lv_sub hl [1, 0] rfl)

abbrev rmX2_hoursOn : Room := { frames := 5, cells := 0, slots := 0, locals := 126 }
theorem b_X2_hoursOn : Cond.instanceMethod yX2_hoursOn ∈ LW ∧ Cond.selects RX2 yX2_hoursOn yX2_hoursOn ∈ LW ∧ Cond.initialized RX2 ∈ LW ∧ Cond.code yX2_hoursOn cX2_hoursOn 3 none ∈ LW := ⟨q700, q15, q40, q701⟩
set_option maxHeartbeats 4000000 in
set_option maxRecDepth 100000 in
theorem c_X2_hoursOn (l : Launch) (D : va_G) (cI cZ cL : ClassId) {n k : Nat} (o : Nat) (b : Nat → Nat) (σ : Sg) (κ ζ : Nat → Int32) (th : Int32) (hst : Shp n k σ) {B : Nat} (hB : Bnd B σ) (t : Nat) (hB2 : B + 234 * t + 400 < 2 ^ 29) : MC l yX2_hoursOn cX2_hoursOn 3 none rmX2_hoursOn D (tZ cI cZ cL) [.ref o, .int (nI t)] (rC cI cZ o b σ κ ζ th) (rC cI cZ o b (hours t σ) κ ζ th) (none) := by
  refine MC.of (by decide) (Nat.le_of_ble_eq_true rfl) ?_
  intro p e s m args below meth c A ls Q hx hb hml hr hts hown hlocks hA hP hD hK hS hl hQ
  have hown : s.vm.findClass RX2 = some m.cls := hown
  have hn10 := hst.1
  have hk16 := hst.2.1
  have hl : lv_has ls 3 [(0, .ref o), (1, .int (nI t))] := hl
  refine lv_iconst (v := 0) hx hb dX2_hoursOn_0 (by decide) ?_
  refine lv_istore_n (lv' := [(2, .int 0), (0, .ref o), (1, .int (nI t))]) hx hb dX2_hoursOn_1 rfl hl (by decide) rfl (fun ls hl => ?_)
  have hl : lv_has ls 3 [(2, .int (nI 0)), (0, .ref o), (1, .int (nI t))] := hl
  have L2 : ∀ (f i : Nat), i ≤ t → t < i + f → ∀ (H : Heap) (locs : List Loc) (ls : Array Slot), va_P D vwCl (rC cI cZ o b (hours i σ) κ ζ th) H → va_D A (rC cI cZ o b (hours i σ) κ ζ th) → va_S A s.heap H locs → lv_has ls 3 [(0, .ref o), (1, .int (nI t)), (2, .int (nI i))] → W p l e rmX2_hoursOn s m args below meth c H locs 0 0 Q (F0 m 2 ls []) := by
    intro f
    induction f with
    | zero => intro i h1 h2; exact absurd h2 (by omega)
    | succ f ih =>
      intro i hi_2 hf_2 H locs ls hP hD hS hl
      obtain ⟨τ, eτ⟩ : ∃ z, z = hours i σ := ⟨_, rfl⟩
      rw [← eτ] at hP hD
      have hst9 : Shp n k τ := by rw [eτ]; exact hst.hrs i
      have hB9 : Bnd (B + 234 * i) τ := by rw [eτ]; exact Bnd.hrs hst hB i (by omega)
      refine lv_iload_n hx hb dX2_hoursOn_2 rfl (lv_at hl 2 rfl) ?_
      refine lv_iload_n hx hb dX2_hoursOn_3 rfl (lv_at hl 1 rfl) ?_
      refine lv_icmp_ge (tgt := 17) hx hb dX2_hoursOn_4 (by decide) (fun c_4 => ?_) (fun c_4 => ?_)
      · have hc_4 : t ≤ i := (nI_leI (a := t) (b := i) (by omega) (by omega)).mp c_4
        subst hQ
        exact rv hx hb hr hlocks hK hP hD hS dX2_hoursOn_17 (by rw [eτ, show i = t by omega])
      · have hc_4 : i < t := Nat.not_le.mp (fun z => c_4 ((nI_leI (a := t) (b := i) (by omega) (by omega)).mpr z))
        refine lv_aload_n hx hb dX2_hoursOn_7 rfl (lv_at hl 0 rfl) ?_
        refine MC.callV (C := RX2) (T := TX2) (N := 14) (As := []) (rest := []) (wB := rC cI cZ o b (hour τ) κ ζ th) (c_X2_hourOn l D cI cZ cL o b τ κ ζ th hst9 hB9 (by omega)) ⟨hx, hb, hml, hown, hts⟩ q702 b_X2_hourOn (n := 0) (by decide +kernel) ⟨Nat.le_of_ble_eq_true rfl, Nat.le_of_ble_eq_true rfl⟩ hK hP hD hS hA (sp0 _) (sp0 _) (ci := 2) rfl (q0 := 0) rfl rfl hl.1 rfl (Nat.le_of_ble_eq_true rfl) dX2_hoursOn_8 ⟨Nat.le_of_ble_eq_true rfl, Nat.le_of_ble_eq_true rfl⟩ (fun H locs hP hD hS => ?_)
        refine lv_iinc (v := (nI (i + 1))) (lv' := [(2, .int (nI (i + 1))), (0, .ref o), (1, .int (nI t))]) hx hb dX2_hoursOn_11 hl (k := 2) rfl (nI_add i 1) (by decide) rfl (fun ls hl => ?_)
        refine lv_goto (tgt := 2) hx hb dX2_hoursOn_14 (by decide) ?_
        have e9 : hour τ = hours (i + 1) σ := by rw [eτ]; rfl
        rw [e9] at hP hD
        exact ih (i + 1) (by omega) (by omega) _ _ _ hP hD hS (lv_sub hl [1, 2, 0] rfl)
  exact L2 (t + 1) 0 (by omega) (by omega) _ _ _ hP hD hS (lv_sub hl [1, 2, 0] rfl)

abbrev rmX2_ruined : Room := { frames := 0, cells := 0, slots := 0, locals := 0 }
theorem b_X2_ruined : Cond.instanceMethod yX2_ruined ∈ LW ∧ Cond.selects RX2 yX2_ruined yX2_ruined ∈ LW ∧ Cond.initialized RX2 ∈ LW ∧ Cond.code yX2_ruined cX2_ruined 3 (some .int) ∈ LW := ⟨q696, q14, q40, q697⟩
set_option maxHeartbeats 4000000 in
set_option maxRecDepth 100000 in
theorem c_X2_ruined (l : Launch) (D : va_G) (cI cZ cL : ClassId) {n k : Nat} (o : Nat) (b : Nat → Nat) (σ : Sg) (κ ζ : Nat → Int32) (th : Int32) (hst : Shp n k σ) {B : Nat} (hB : Bnd B σ) : MC l yX2_ruined cX2_ruined 3 (some .int) rmX2_ruined D (tZ cI cZ cL) [.ref o] (rC cI cZ o b σ κ ζ th) (rC cI cZ o b σ κ ζ th) (some (.int (ruinN σ))) := by
  refine MC.of (by decide) (Nat.le_of_ble_eq_true rfl) ?_
  intro p e s m args below meth c A ls Q hx hb hml hr hts hown hlocks hA hP hD hK hS hl hQ
  have hown : s.vm.findClass RX2 = some m.cls := hown
  have hn10 := hst.1
  have hk16 := hst.2.1
  have hl : lv_has ls 3 [(0, .ref o)] := hl
  refine lv_iconst (v := 0) hx hb dX2_ruined_0 (by decide) ?_
  refine lv_istore_n (lv' := [(1, .int 0), (0, .ref o)]) hx hb dX2_ruined_1 rfl hl (by decide) rfl (fun ls hl => ?_)
  refine lv_iconst (v := 0) hx hb dX2_ruined_2 (by decide) ?_
  refine lv_istore_n (lv' := [(2, .int 0), (1, .int 0), (0, .ref o)]) hx hb dX2_ruined_3 rfl hl (by decide) rfl (fun ls hl => ?_)
  have hl : lv_has ls 3 [(2, .int (nI 0)), (1, .int (sumI (fun f => if σ 4 f = 0 then 0 else 1) 0)), (0, .ref o)] := hl
  have L4 : ∀ (f i : Nat), i ≤ n → n < i + f → ∀ (H : Heap) (locs : List Loc) (ls : Array Slot), va_P D vwCl (rC cI cZ o b σ κ ζ th) H → va_D A (rC cI cZ o b σ κ ζ th) → va_S A s.heap H locs → lv_has ls 3 [(0, .ref o), (1, .int (sumI (fun f => if σ 4 f = 0 then 0 else 1) i)), (2, .int (nI i))] → W p l e rmX2_ruined s m args below meth c H locs 0 0 Q (F0 m 4 ls []) := by
    intro f
    induction f with
    | zero => intro i h1 h2; exact absurd h2 (by omega)
    | succ f ih =>
      intro i hi_4 hf_4 H locs ls hP hD hS hl
      refine lv_iload_n hx hb dX2_ruined_4 rfl (lv_at hl 2 rfl) ?_
      refine lv_aload_n hx hb dX2_ruined_5 rfl (lv_at hl 0 rfl) ?_
      refine x_get (C := RX2) (T := TX2) (N := 14) hx hb hts in_wsX20 hown hK hP 0 rfl rfl 1 (by decide) q593 (v := .int (nI n)) (congrArg (fun z => some (Value.int z)) (hst.f0)) dX2_ruined_6 ?_
      refine lv_icmp_ge (tgt := 30) hx hb dX2_ruined_9 (by decide) (fun c_9 => ?_) (fun c_9 => ?_)
      · have hc_9 : n ≤ i := (nI_leI (a := n) (b := i) (by omega) (by omega)).mp c_9
        refine lv_iload_n hx hb dX2_ruined_30 rfl (lv_at hl 1 rfl) ?_
        subst hQ
        exact ri hx hb hr hlocks hK hP hD hS dX2_ruined_31 (rfl) (by unfold ruinN; rw [hst.eF, show i = n by omega])
      · have hc_9 : i < n := Nat.not_le.mp (fun z => c_9 ((nI_leI (a := n) (b := i) (by omega) (by omega)).mpr z))
        refine lv_iload_n hx hb dX2_ruined_12 rfl (lv_at hl 1 rfl) ?_
        refine lv_aload_n hx hb dX2_ruined_13 rfl (lv_at hl 0 rfl) ?_
        refine x_get (C := RX2) (T := TX2) (N := 14) hx hb hts in_wsX20 hown hK hP 0 rfl rfl 11 (by decide) q603 (v := .ref (b 7)) rfl dX2_ruined_14 ?_
        refine lv_bipush (v := 22) hx hb dX2_ruined_17 (by decide) ?_
        refine lv_iload_n hx hb dX2_ruined_19 rfl (lv_at hl 2 rfl) ?_
        refine lv_iadd hx hb dX2_ruined_20 ?_
        refine x_ild hx hb hK hP 8 0 rfl rfl (22 + i) (nI_add 22 i) (by omega) (by decide) (v := σ 4 i) (nw_22 σ (by omega)) dX2_ruined_21 ?_
        refine lv_iadd hx hb dX2_ruined_22 ?_
        refine lv_topi (fun v_1 ev_1 => ?_)
        refine lv_istore_n (lv' := [(1, .int v_1), (0, .ref o), (2, .int (nI i))]) hx hb dX2_ruined_23 rfl hl (by decide) rfl (fun ls hl => ?_)
        refine lv_iinc (v := (nI (i + 1))) (lv' := [(2, .int (nI (i + 1))), (1, .int v_1), (0, .ref o)]) hx hb dX2_ruined_24 hl (k := 2) rfl (nI_add i 1) (by decide) rfl (fun ls hl => ?_)
        refine lv_goto (tgt := 4) hx hb dX2_ruined_27 (by decide) ?_
        have e8 : v_1 = sumI (fun f => if σ 4 f = 0 then 0 else 1) (i + 1) := by
          rw [ev_1]
          show _ = sumI (fun f => if σ 4 f = 0 then 0 else 1) i + (fun f => if σ 4 f = 0 then 0 else 1) i
          congr 1
          show σ 4 i = if σ 4 i = 0 then 0 else 1
          rcases hB.2.2.2.2.1 i (by omega) with z | z <;> rw [z] <;> rfl
        rw [e8] at hl
        exact ih (i + 1) (by omega) (by omega) _ _ _ hP hD hS (lv_sub hl [2, 1, 0] rfl)
  exact L4 (n + 1) 0 (by omega) (by omega) _ _ _ hP hD hS (lv_sub hl [2, 1, 0] rfl)

abbrev rmX2_lost : Room := { frames := 0, cells := 0, slots := 0, locals := 0 }
theorem b_X2_lost : Cond.instanceMethod yX2_lost ∈ LW ∧ Cond.selects RX2 yX2_lost yX2_lost ∈ LW ∧ Cond.initialized RX2 ∈ LW ∧ Cond.code yX2_lost cX2_lost 3 (some .int) ∈ LW := ⟨q770, q23, q40, q771⟩
set_option maxHeartbeats 4000000 in
set_option maxRecDepth 100000 in
theorem c_X2_lost (l : Launch) (D : va_G) (cI cZ cL : ClassId) {n k : Nat} (o : Nat) (b : Nat → Nat) (σ : Sg) (κ ζ : Nat → Int32) (th : Int32) (hst : Shp n k σ) {B : Nat} (hB : Bnd B σ) : MC l yX2_lost cX2_lost 3 (some .int) rmX2_lost D (tZ cI cZ cL) [.ref o] (rC cI cZ o b σ κ ζ th) (rC cI cZ o b σ κ ζ th) (some (.int (lost σ))) := by
  refine MC.of (by decide) (Nat.le_of_ble_eq_true rfl) ?_
  intro p e s m args below meth c A ls Q hx hb hml hr hts hown hlocks hA hP hD hK hS hl hQ
  have hown : s.vm.findClass RX2 = some m.cls := hown
  have hn10 := hst.1
  have hk16 := hst.2.1
  have hl : lv_has ls 3 [(0, .ref o)] := hl
  refine lv_iconst (v := 0) hx hb dX2_lost_0 (by decide) ?_
  refine lv_istore_n (lv' := [(1, .int 0), (0, .ref o)]) hx hb dX2_lost_1 rfl hl (by decide) rfl (fun ls hl => ?_)
  refine lv_iconst (v := 0) hx hb dX2_lost_2 (by decide) ?_
  refine lv_istore_n (lv' := [(2, .int 0), (1, .int 0), (0, .ref o)]) hx hb dX2_lost_3 rfl hl (by decide) rfl (fun ls hl => ?_)
  have hl : lv_has ls 3 [(2, .int (nI 0)), (1, .int (sumI (fun f => if σ 4 f = 0 then 0 else σ 1 f) 0)), (0, .ref o)] := hl
  have L4 : ∀ (f i : Nat), i ≤ n → n < i + f → ∀ (H : Heap) (locs : List Loc) (ls : Array Slot), va_P D vwCl (rC cI cZ o b σ κ ζ th) H → va_D A (rC cI cZ o b σ κ ζ th) → va_S A s.heap H locs → lv_has ls 3 [(0, .ref o), (1, .int (sumI (fun f => if σ 4 f = 0 then 0 else σ 1 f) i)), (2, .int (nI i))] → W p l e rmX2_lost s m args below meth c H locs 0 0 Q (F0 m 4 ls []) := by
    intro f
    induction f with
    | zero => intro i h1 h2; exact absurd h2 (by omega)
    | succ f ih =>
      intro i hi_4 hf_4 H locs ls hP hD hS hl
      refine lv_iload_n hx hb dX2_lost_4 rfl (lv_at hl 2 rfl) ?_
      refine lv_aload_n hx hb dX2_lost_5 rfl (lv_at hl 0 rfl) ?_
      refine x_get (C := RX2) (T := TX2) (N := 14) hx hb hts in_wsX20 hown hK hP 0 rfl rfl 1 (by decide) q593 (v := .int (nI n)) (congrArg (fun z => some (Value.int z)) (hst.f0)) dX2_lost_6 ?_
      refine lv_icmp_ge (tgt := 37) hx hb dX2_lost_9 (by decide) (fun c_9 => ?_) (fun c_9 => ?_)
      · have hc_9 : n ≤ i := (nI_leI (a := n) (b := i) (by omega) (by omega)).mp c_9
        refine lv_iload_n hx hb dX2_lost_37 rfl (lv_at hl 1 rfl) ?_
        subst hQ
        exact ri hx hb hr hlocks hK hP hD hS dX2_lost_38 (rfl) (by unfold lost; rw [hst.eF, show i = n by omega])
      · have hc_9 : i < n := Nat.not_le.mp (fun z => c_9 ((nI_leI (a := n) (b := i) (by omega) (by omega)).mpr z))
        refine lv_iload_n hx hb dX2_lost_12 rfl (lv_at hl 1 rfl) ?_
        refine lv_aload_n hx hb dX2_lost_13 rfl (lv_at hl 0 rfl) ?_
        refine x_get (C := RX2) (T := TX2) (N := 14) hx hb hts in_wsX20 hown hK hP 0 rfl rfl 11 (by decide) q603 (v := .ref (b 7)) rfl dX2_lost_14 ?_
        refine lv_bipush (v := 22) hx hb dX2_lost_17 (by decide) ?_
        refine lv_iload_n hx hb dX2_lost_19 rfl (lv_at hl 2 rfl) ?_
        refine lv_iadd hx hb dX2_lost_20 ?_
        refine x_ild hx hb hK hP 8 0 rfl rfl (22 + i) (nI_add 22 i) (by omega) (by decide) (v := σ 4 i) (nw_22 σ (by omega)) dX2_lost_21 ?_
        refine lv_aload_n hx hb dX2_lost_22 rfl (lv_at hl 0 rfl) ?_
        refine x_get (C := RX2) (T := TX2) (N := 14) hx hb hts in_wsX20 hown hK hP 0 rfl rfl 5 (by decide) q597 (v := .ref (b 1)) rfl dX2_lost_23 ?_
        refine lv_iload_n hx hb dX2_lost_26 rfl (lv_at hl 2 rfl) ?_
        refine x_ild hx hb hK hP 2 0 rfl rfl i (rfl) (by omega) (by decide) (v := σ 1 i) rfl dX2_lost_27 ?_
        refine lv_imul hx hb dX2_lost_28 ?_
        refine lv_iadd hx hb dX2_lost_29 ?_
        refine lv_topi (fun v_1 ev_1 => ?_)
        refine lv_istore_n (lv' := [(1, .int v_1), (0, .ref o), (2, .int (nI i))]) hx hb dX2_lost_30 rfl hl (by decide) rfl (fun ls hl => ?_)
        refine lv_iinc (v := (nI (i + 1))) (lv' := [(2, .int (nI (i + 1))), (1, .int v_1), (0, .ref o)]) hx hb dX2_lost_31 hl (k := 2) rfl (nI_add i 1) (by decide) rfl (fun ls hl => ?_)
        refine lv_goto (tgt := 4) hx hb dX2_lost_34 (by decide) ?_
        have e8 : v_1 = sumI (fun f => if σ 4 f = 0 then 0 else σ 1 f) (i + 1) := by
          rw [ev_1]
          show _ = sumI (fun f => if σ 4 f = 0 then 0 else σ 1 f) i + (fun f => if σ 4 f = 0 then 0 else σ 1 f) i
          congr 1
          show σ 4 i * σ 1 i = if σ 4 i = 0 then 0 else σ 1 i
          rcases hB.2.2.2.2.1 i (by omega) with z | z
          · rw [z, Int32.zero_mul]; rfl
          · rw [z, Int32.one_mul]; rfl
        rw [e8] at hl
        exact ih (i + 1) (by omega) (by omega) _ _ _ hP hD hS (lv_sub hl [2, 1, 0] rfl)
  exact L4 (n + 1) 0 (by omega) (by omega) _ _ _ hP hD hS (lv_sub hl [2, 1, 0] rfl)

abbrev rmX2_allWater : Room := { frames := 1, cells := 0, slots := 0, locals := 21 }
theorem b_X2_allWater : Cond.instanceMethod yX2_allWater ∈ LW ∧ Cond.selects RX2 yX2_allWater yX2_allWater ∈ LW ∧ Cond.initialized RX2 ∈ LW ∧ Cond.code yX2_allWater cX2_allWater 3 (some .int) ∈ LW := ⟨q746, q21, q40, q747⟩
set_option maxHeartbeats 4000000 in
set_option maxRecDepth 100000 in
theorem c_X2_allWater (l : Launch) (D : va_G) (cI cZ cL : ClassId) {n k : Nat} (o : Nat) (b : Nat → Nat) (σ : Sg) (κ ζ : Nat → Int32) (th : Int32) (hst : Shp n k σ) : MC l yX2_allWater cX2_allWater 3 (some .int) rmX2_allWater D (tZ cI cZ cL) [.ref o] (rC cI cZ o b σ κ ζ th) (rC cI cZ o b σ κ ζ th) (some (.int (waterS σ))) := by
  refine MC.of (by decide) (Nat.le_of_ble_eq_true rfl) ?_
  intro p e s m args below meth c A ls Q hx hb hml hr hts hown hlocks hA hP hD hK hS hl hQ
  have hown : s.vm.findClass RX2 = some m.cls := hown
  have hn10 := hst.1
  have hk16 := hst.2.1
  have hl : lv_has ls 3 [(0, .ref o)] := hl
  refine lv_iconst (v := 0) hx hb dX2_allWater_0 (by decide) ?_
  refine lv_istore_n (lv' := [(1, .int 0), (0, .ref o)]) hx hb dX2_allWater_1 rfl hl (by decide) rfl (fun ls hl => ?_)
  refine lv_iconst (v := 0) hx hb dX2_allWater_2 (by decide) ?_
  refine lv_istore_n (lv' := [(2, .int 0), (1, .int 0), (0, .ref o)]) hx hb dX2_allWater_3 rfl hl (by decide) rfl (fun ls hl => ?_)
  have hl : lv_has ls 3 [(2, .int (nI 0)), (1, .int (sumI (fun f => σ 2 f) 0)), (0, .ref o)] := hl
  have L4 : ∀ (f i : Nat), i ≤ n → n < i + f → ∀ (H : Heap) (locs : List Loc) (ls : Array Slot), va_P D vwCl (rC cI cZ o b σ κ ζ th) H → va_D A (rC cI cZ o b σ κ ζ th) → va_S A s.heap H locs → lv_has ls 3 [(0, .ref o), (1, .int (sumI (fun f => σ 2 f) i)), (2, .int (nI i))] → W p l e rmX2_allWater s m args below meth c H locs 0 0 Q (F0 m 4 ls []) := by
    intro f
    induction f with
    | zero => intro i h1 h2; exact absurd h2 (by omega)
    | succ f ih =>
      intro i hi_4 hf_4 H locs ls hP hD hS hl
      refine lv_iload_n hx hb dX2_allWater_4 rfl (lv_at hl 2 rfl) ?_
      refine lv_aload_n hx hb dX2_allWater_5 rfl (lv_at hl 0 rfl) ?_
      refine x_get (C := RX2) (T := TX2) (N := 14) hx hb hts in_wsX20 hown hK hP 0 rfl rfl 1 (by decide) q593 (v := .int (nI n)) (congrArg (fun z => some (Value.int z)) (hst.f0)) dX2_allWater_6 ?_
      refine lv_icmp_ge (tgt := 26) hx hb dX2_allWater_9 (by decide) (fun c_9 => ?_) (fun c_9 => ?_)
      · have hc_9 : n ≤ i := (nI_leI (a := n) (b := i) (by omega) (by omega)).mp c_9
        refine lv_iload_n hx hb dX2_allWater_26 rfl (lv_at hl 1 rfl) ?_
        subst hQ
        exact ri hx hb hr hlocks hK hP hD hS dX2_allWater_27 (rfl) (by unfold waterS; rw [hst.eF, show i = n by omega])
      · have hc_9 : i < n := Nat.not_le.mp (fun z => c_9 ((nI_leI (a := n) (b := i) (by omega) (by omega)).mpr z))
        refine lv_iload_n hx hb dX2_allWater_12 rfl (lv_at hl 1 rfl) ?_
        refine lv_aload_n hx hb dX2_allWater_13 rfl (lv_at hl 0 rfl) ?_
        refine lv_iload_n hx hb dX2_allWater_14 rfl (lv_at hl 2 rfl) ?_
        refine MC.callV (C := RX2) (T := TX2) (N := 14) (As := [.int (nI i)]) (rest := [.int (sumI (fun f => σ 2 f) i)]) (wB := rC cI cZ o b σ κ ζ th) (c_X2_water l D cI cZ cL o b σ κ ζ th i (by omega)) ⟨hx, hb, hml, hown, hts⟩ q686 b_X2_water (n := 1) (by decide +kernel) ⟨Nat.le_of_ble_eq_true rfl, Nat.le_of_ble_eq_true rfl⟩ hK hP hD hS hA (sp0 _) (sp0 _) (ci := 2) rfl (q0 := 0) rfl rfl hl.1 rfl (Nat.le_of_ble_eq_true rfl) dX2_allWater_15 ⟨Nat.le_of_ble_eq_true rfl, Nat.le_of_ble_eq_true rfl⟩ (fun H locs hP hD hS => ?_)
        refine lv_iadd hx hb dX2_allWater_18 ?_
        refine lv_topi (fun v_1 ev_1 => ?_)
        refine lv_istore_n (lv' := [(1, .int v_1), (0, .ref o), (2, .int (nI i))]) hx hb dX2_allWater_19 rfl hl (by decide) rfl (fun ls hl => ?_)
        refine lv_iinc (v := (nI (i + 1))) (lv' := [(2, .int (nI (i + 1))), (1, .int v_1), (0, .ref o)]) hx hb dX2_allWater_20 hl (k := 2) rfl (nI_add i 1) (by decide) rfl (fun ls hl => ?_)
        refine lv_goto (tgt := 4) hx hb dX2_allWater_23 (by decide) ?_
        have e8 : v_1 = sumI (fun f => σ 2 f) (i + 1) := by
          rw [ev_1]
          show _ = sumI (fun f => σ 2 f) i + (fun f => σ 2 f) i
          rfl
        rw [e8] at hl
        exact ih (i + 1) (by omega) (by omega) _ _ _ hP hD hS (lv_sub hl [2, 1, 0] rfl)
  exact L4 (n + 1) 0 (by omega) (by omega) _ _ _ hP hD hS (lv_sub hl [2, 1, 0] rfl)

abbrev rmX2_wet : Room := { frames := 1, cells := 0, slots := 0, locals := 21 }
theorem b_X2_wet : Cond.instanceMethod yX2_wet ∈ LW ∧ Cond.selects RX2 yX2_wet yX2_wet ∈ LW ∧ Cond.initialized RX2 ∈ LW ∧ Cond.code yX2_wet cX2_wet 3 (some .int) ∈ LW := ⟨q758, q22, q40, q759⟩
set_option maxHeartbeats 4000000 in
set_option maxRecDepth 100000 in
theorem c_X2_wet (l : Launch) (D : va_G) (cI cZ cL : ClassId) {n k : Nat} (o : Nat) (b : Nat → Nat) (σ : Sg) (κ ζ : Nat → Int32) (th : Int32) (hst : Shp n k σ) : MC l yX2_wet cX2_wet 3 (some .int) rmX2_wet D (tZ cI cZ cL) [.ref o] (rC cI cZ o b σ κ ζ th) (rC cI cZ o b σ κ ζ th) (some (.int (wetN σ))) := by
  refine MC.of (by decide) (Nat.le_of_ble_eq_true rfl) ?_
  intro p e s m args below meth c A ls Q hx hb hml hr hts hown hlocks hA hP hD hK hS hl hQ
  have hown : s.vm.findClass RX2 = some m.cls := hown
  have hn10 := hst.1
  have hk16 := hst.2.1
  have hl : lv_has ls 3 [(0, .ref o)] := hl
  refine lv_iconst (v := 0) hx hb dX2_wet_0 (by decide) ?_
  refine lv_istore_n (lv' := [(1, .int 0), (0, .ref o)]) hx hb dX2_wet_1 rfl hl (by decide) rfl (fun ls hl => ?_)
  refine lv_iconst (v := 0) hx hb dX2_wet_2 (by decide) ?_
  refine lv_istore_n (lv' := [(2, .int 0), (1, .int 0), (0, .ref o)]) hx hb dX2_wet_3 rfl hl (by decide) rfl (fun ls hl => ?_)
  have hl : lv_has ls 3 [(2, .int (nI 0)), (1, .int (sumI (fun f => isW σ f) 0)), (0, .ref o)] := hl
  have L4 : ∀ (f i : Nat), i ≤ n → n < i + f → ∀ (H : Heap) (locs : List Loc) (ls : Array Slot), va_P D vwCl (rC cI cZ o b σ κ ζ th) H → va_D A (rC cI cZ o b σ κ ζ th) → va_S A s.heap H locs → lv_has ls 3 [(0, .ref o), (1, .int (sumI (fun f => isW σ f) i)), (2, .int (nI i))] → W p l e rmX2_wet s m args below meth c H locs 0 0 Q (F0 m 4 ls []) := by
    intro f
    induction f with
    | zero => intro i h1 h2; exact absurd h2 (by omega)
    | succ f ih =>
      intro i hi_4 hf_4 H locs ls hP hD hS hl
      refine lv_iload_n hx hb dX2_wet_4 rfl (lv_at hl 2 rfl) ?_
      refine lv_aload_n hx hb dX2_wet_5 rfl (lv_at hl 0 rfl) ?_
      refine x_get (C := RX2) (T := TX2) (N := 14) hx hb hts in_wsX20 hown hK hP 0 rfl rfl 1 (by decide) q593 (v := .int (nI n)) (congrArg (fun z => some (Value.int z)) (hst.f0)) dX2_wet_6 ?_
      refine lv_icmp_ge (tgt := 35) hx hb dX2_wet_9 (by decide) (fun c_9 => ?_) (fun c_9 => ?_)
      · have hc_9 : n ≤ i := (nI_leI (a := n) (b := i) (by omega) (by omega)).mp c_9
        refine lv_iload_n hx hb dX2_wet_35 rfl (lv_at hl 1 rfl) ?_
        subst hQ
        exact ri hx hb hr hlocks hK hP hD hS dX2_wet_36 (rfl) (by unfold wetN; rw [hst.eF, show i = n by omega])
      · have hc_9 : i < n := Nat.not_le.mp (fun z => c_9 ((nI_leI (a := n) (b := i) (by omega) (by omega)).mpr z))
        refine lv_iload_n hx hb dX2_wet_12 rfl (lv_at hl 1 rfl) ?_
        refine lv_aload_n hx hb dX2_wet_13 rfl (lv_at hl 0 rfl) ?_
        refine lv_iload_n hx hb dX2_wet_14 rfl (lv_at hl 2 rfl) ?_
        refine MC.callV (C := RX2) (T := TX2) (N := 14) (As := [.int (nI i)]) (rest := [.int (sumI (fun f => isW σ f) i)]) (wB := rC cI cZ o b σ κ ζ th) (c_X2_water l D cI cZ cL o b σ κ ζ th i (by omega)) ⟨hx, hb, hml, hown, hts⟩ q686 b_X2_water (n := 1) (by decide +kernel) ⟨Nat.le_of_ble_eq_true rfl, Nat.le_of_ble_eq_true rfl⟩ hK hP hD hS hA (sp0 _) (sp0 _) (ci := 2) rfl (q0 := 0) rfl rfl hl.1 rfl (Nat.le_of_ble_eq_true rfl) dX2_wet_15 ⟨Nat.le_of_ble_eq_true rfl, Nat.le_of_ble_eq_true rfl⟩ (fun H locs hP hD hS => ?_)
        refine lv_iconst (v := 4) hx hb dX2_wet_18 (by decide) ?_
        have J27_1 : W p l e rmX2_wet s m args below meth c H locs 0 0 Q (F0 m 27 ls [.int (isW σ i), .int (sumI (fun f => isW σ f) i)]) := by
          refine lv_iadd hx hb dX2_wet_27 ?_
          refine lv_topi (fun v_1 ev_1 => ?_)
          refine lv_istore_n (lv' := [(1, .int v_1), (0, .ref o), (2, .int (nI i))]) hx hb dX2_wet_28 rfl hl (by decide) rfl (fun ls hl => ?_)
          refine lv_iinc (v := (nI (i + 1))) (lv' := [(2, .int (nI (i + 1))), (1, .int v_1), (0, .ref o)]) hx hb dX2_wet_29 hl (k := 2) rfl (nI_add i 1) (by decide) rfl (fun ls hl => ?_)
          refine lv_goto (tgt := 4) hx hb dX2_wet_32 (by decide) ?_
          have e8 : v_1 = sumI (fun f => isW σ f) (i + 1) := by
            rw [ev_1]
            show _ = sumI (fun f => isW σ f) i + (fun f => isW σ f) i
            rfl
          rw [e8] at hl
          exact ih (i + 1) (by omega) (by omega) _ _ _ hP hD hS (lv_sub hl [2, 1, 0] rfl)
        refine lv_icmp_lt (tgt := 26) hx hb dX2_wet_19 (by decide) (fun c_19 => ?_) (fun c_19 => ?_)
        · refine lv_iconst (v := 0) hx hb dX2_wet_26 (by decide) ?_
          exact x_top (show 0 = isW σ i by unfold isW; rw [if_neg (Int32.not_le.mpr c_19)]) J27_1
        · refine lv_iconst (v := 1) hx hb dX2_wet_22 (by decide) ?_
          refine lv_goto (tgt := 27) hx hb dX2_wet_23 (by decide) ?_
          exact x_top (show 1 = isW σ i by unfold isW; rw [if_pos (Int32.not_lt.mp c_19)]) J27_1
  exact L4 (n + 1) 0 (by omega) (by omega) _ _ _ hP hD hS (lv_sub hl [2, 1, 0] rfl)

abbrev rmX2_openAt : Room := { frames := 0, cells := 0, slots := 0, locals := 0 }
theorem b_X2_openAt : Cond.instanceMethod yX2_openAt ∈ LW ∧ Cond.selects RX2 yX2_openAt yX2_openAt ∈ LW ∧ Cond.initialized RX2 ∈ LW ∧ Cond.code yX2_openAt cX2_openAt 4 (some .int) ∈ LW := ⟨q798, q25, q40, q799⟩
set_option maxHeartbeats 4000000 in
set_option maxRecDepth 100000 in
theorem c_X2_openAt (l : Launch) (D : va_G) (cI cZ cL : ClassId) {n k : Nat} (o : Nat) (b : Nat → Nat) (σ : Sg) (κ ζ : Nat → Int32) (th : Int32) (hst : Shp n k σ) (j : Nat) (hj : j < n) : MC l yX2_openAt cX2_openAt 4 (some .int) rmX2_openAt D (tZ cI cZ cL) [.ref o, .int (nI j)] (rC cI cZ o b σ κ ζ th) (rC cI cZ o b σ κ ζ th) (some (.int (openS σ j))) := by
  refine MC.of (by decide) (Nat.le_of_ble_eq_true rfl) ?_
  intro p e s m args below meth c A ls Q hx hb hml hr hts hown hlocks hA hP hD hK hS hl hQ
  have hown : s.vm.findClass RX2 = some m.cls := hown
  have hn10 := hst.1
  have hk16 := hst.2.1
  have hl : lv_has ls 4 [(0, .ref o), (1, .int (nI j))] := hl
  refine lv_iconst (v := 0) hx hb dX2_openAt_0 (by decide) ?_
  refine lv_istore_n (lv' := [(2, .int 0), (0, .ref o), (1, .int (nI j))]) hx hb dX2_openAt_1 rfl hl (by decide) rfl (fun ls hl => ?_)
  refine lv_iconst (v := 0) hx hb dX2_openAt_2 (by decide) ?_
  refine lv_istore_n (lv' := [(3, .int 0), (2, .int 0), (0, .ref o), (1, .int (nI j))]) hx hb dX2_openAt_3 rfl hl (by decide) rfl (fun ls hl => ?_)
  have hl : lv_has ls 4 [(3, .int (nI 0)), (2, .int (sumI (fun d => opB σ j d) 0)), (0, .ref o), (1, .int (nI j))] := hl
  have L4 : ∀ (f i : Nat), i ≤ k → k < i + f → ∀ (H : Heap) (locs : List Loc) (ls : Array Slot), va_P D vwCl (rC cI cZ o b σ κ ζ th) H → va_D A (rC cI cZ o b σ κ ζ th) → va_S A s.heap H locs → lv_has ls 4 [(0, .ref o), (2, .int (sumI (fun d => opB σ j d) i)), (3, .int (nI i)), (1, .int (nI j))] → W p l e rmX2_openAt s m args below meth c H locs 0 0 Q (F0 m 4 ls []) := by
    intro f
    induction f with
    | zero => intro i h1 h2; exact absurd h2 (by omega)
    | succ f ih =>
      intro i hi_4 hf_4 H locs ls hP hD hS hl
      refine lv_iload_n hx hb dX2_openAt_4 rfl (lv_at hl 2 rfl) ?_
      refine lv_aload_n hx hb dX2_openAt_5 rfl (lv_at hl 0 rfl) ?_
      refine x_get (C := RX2) (T := TX2) (N := 14) hx hb hts in_wsX20 hown hK hP 0 rfl rfl 2 (by decide) q594 (v := .int (nI k)) (congrArg (fun z => some (Value.int z)) (hst.f1)) dX2_openAt_6 ?_
      refine lv_icmp_ge (tgt := 55) hx hb dX2_openAt_9 (by decide) (fun c_9 => ?_) (fun c_9 => ?_)
      · have hc_9 : k ≤ i := (nI_leI (a := k) (b := i) (by omega) (by omega)).mp c_9
        refine lv_iload_n hx hb dX2_openAt_55 rfl (lv_at hl 1 rfl) ?_
        subst hQ
        exact ri hx hb hr hlocks hK hP hD hS dX2_openAt_56 (rfl) (by unfold openS; rw [hst.eD, show i = k by omega])
      · have hc_9 : i < k := Nat.not_le.mp (fun z => c_9 ((nI_leI (a := k) (b := i) (by omega) (by omega)).mpr z))
        refine lv_iload_n hx hb dX2_openAt_12 rfl (lv_at hl 1 rfl) ?_
        refine lv_aload_n hx hb dX2_openAt_13 rfl (lv_at hl 0 rfl) ?_
        refine x_get (C := RX2) (T := TX2) (N := 14) hx hb hts in_wsX20 hown hK hP 0 rfl rfl 10 (by decide) q602 (v := .ref (b 6)) rfl dX2_openAt_14 ?_
        refine lv_iload_n hx hb dX2_openAt_17 rfl (lv_at hl 2 rfl) ?_
        refine x_zld hx hb hK hP 7 1 rfl rfl i (rfl) (by omega) (by decide) (v := σ 10 i) rfl dX2_openAt_18 ?_
        refine lv_if_eq (tgt := 46) hx hb dX2_openAt_19 (by decide) (fun c_19 => ?_) (fun c_19 => ?_)
        · refine lv_iconst (v := 0) hx hb dX2_openAt_46 (by decide) ?_
          refine x_top (show 0 = opB σ j i by unfold opB; rw [if_pos c_19]) ?_
          refine lv_iadd hx hb dX2_openAt_47 ?_
          refine lv_topi (fun v_1 ev_1 => ?_)
          refine lv_istore_n (lv' := [(2, .int v_1), (0, .ref o), (3, .int (nI i)), (1, .int (nI j))]) hx hb dX2_openAt_48 rfl hl (by decide) rfl (fun ls hl => ?_)
          refine lv_iinc (v := (nI (i + 1))) (lv' := [(3, .int (nI (i + 1))), (2, .int v_1), (0, .ref o), (1, .int (nI j))]) hx hb dX2_openAt_49 hl (k := 2) rfl (nI_add i 1) (by decide) rfl (fun ls hl => ?_)
          refine lv_goto (tgt := 4) hx hb dX2_openAt_52 (by decide) ?_
          have e8 : v_1 = sumI (fun d => opB σ j d) (i + 1) := by
            rw [ev_1]
            show _ = sumI (fun d => opB σ j d) i + (fun d => opB σ j d) i
            rfl
          rw [e8] at hl
          exact ih (i + 1) (by omega) (by omega) _ _ _ hP hD hS (lv_sub hl [2, 1, 0, 3] rfl)
        · refine lv_aload_n hx hb dX2_openAt_22 rfl (lv_at hl 0 rfl) ?_
          refine x_get (C := RX2) (T := TX2) (N := 14) hx hb hts in_wsX20 hown hK hP 0 rfl rfl 6 (by decide) q598 (v := .ref (b 2)) rfl dX2_openAt_23 ?_
          refine lv_iload_n hx hb dX2_openAt_26 rfl (lv_at hl 2 rfl) ?_
          refine x_ild hx hb hK hP 3 0 rfl rfl i (rfl) (by omega) (by decide) (v := σ 5 i) rfl dX2_openAt_27 ?_
          refine lv_iload_n hx hb dX2_openAt_28 rfl (lv_at hl 3 rfl) ?_
          refine lv_icmp_eq (tgt := 42) hx hb dX2_openAt_29 (by decide) (fun c_29 => ?_) (fun c_29 => ?_)
          · refine lv_iconst (v := 1) hx hb dX2_openAt_42 (by decide) ?_
            refine lv_goto (tgt := 47) hx hb dX2_openAt_43 (by decide) ?_
            refine x_top (show 1 = opB σ j i by unfold opB; rw [if_neg c_19, if_pos c_29]) ?_
            refine lv_iadd hx hb dX2_openAt_47 ?_
            refine lv_topi (fun v_2 ev_2 => ?_)
            refine lv_istore_n (lv' := [(2, .int v_2), (0, .ref o), (3, .int (nI i)), (1, .int (nI j))]) hx hb dX2_openAt_48 rfl hl (by decide) rfl (fun ls hl => ?_)
            refine lv_iinc (v := (nI (i + 1))) (lv' := [(3, .int (nI (i + 1))), (2, .int v_2), (0, .ref o), (1, .int (nI j))]) hx hb dX2_openAt_49 hl (k := 2) rfl (nI_add i 1) (by decide) rfl (fun ls hl => ?_)
            refine lv_goto (tgt := 4) hx hb dX2_openAt_52 (by decide) ?_
            have e8 : v_2 = sumI (fun d => opB σ j d) (i + 1) := by
              rw [ev_2]
              show _ = sumI (fun d => opB σ j d) i + (fun d => opB σ j d) i
              rfl
            rw [e8] at hl
            exact ih (i + 1) (by omega) (by omega) _ _ _ hP hD hS (lv_sub hl [2, 1, 0, 3] rfl)
          · refine lv_aload_n hx hb dX2_openAt_32 rfl (lv_at hl 0 rfl) ?_
            refine x_get (C := RX2) (T := TX2) (N := 14) hx hb hts in_wsX20 hown hK hP 0 rfl rfl 7 (by decide) q599 (v := .ref (b 3)) rfl dX2_openAt_33 ?_
            refine lv_iload_n hx hb dX2_openAt_36 rfl (lv_at hl 2 rfl) ?_
            refine x_ild hx hb hK hP 4 0 rfl rfl i (rfl) (by omega) (by decide) (v := σ 6 i) rfl dX2_openAt_37 ?_
            refine lv_iload_n hx hb dX2_openAt_38 rfl (lv_at hl 3 rfl) ?_
            refine lv_icmp_ne (tgt := 46) hx hb dX2_openAt_39 (by decide) (fun c_39 => ?_) (fun c_39 => ?_)
            · refine lv_iconst (v := 0) hx hb dX2_openAt_46 (by decide) ?_
              refine x_top (show 0 = opB σ j i by unfold opB; rw [if_neg c_19, if_neg c_29, if_neg c_39]) ?_
              refine lv_iadd hx hb dX2_openAt_47 ?_
              refine lv_topi (fun v_3 ev_3 => ?_)
              refine lv_istore_n (lv' := [(2, .int v_3), (0, .ref o), (3, .int (nI i)), (1, .int (nI j))]) hx hb dX2_openAt_48 rfl hl (by decide) rfl (fun ls hl => ?_)
              refine lv_iinc (v := (nI (i + 1))) (lv' := [(3, .int (nI (i + 1))), (2, .int v_3), (0, .ref o), (1, .int (nI j))]) hx hb dX2_openAt_49 hl (k := 2) rfl (nI_add i 1) (by decide) rfl (fun ls hl => ?_)
              refine lv_goto (tgt := 4) hx hb dX2_openAt_52 (by decide) ?_
              have e8 : v_3 = sumI (fun d => opB σ j d) (i + 1) := by
                rw [ev_3]
                show _ = sumI (fun d => opB σ j d) i + (fun d => opB σ j d) i
                rfl
              rw [e8] at hl
              exact ih (i + 1) (by omega) (by omega) _ _ _ hP hD hS (lv_sub hl [2, 1, 0, 3] rfl)
            · refine lv_iconst (v := 1) hx hb dX2_openAt_42 (by decide) ?_
              refine lv_goto (tgt := 47) hx hb dX2_openAt_43 (by decide) ?_
              refine x_top (show 1 = opB σ j i by unfold opB; rw [if_neg c_19, if_neg c_29, if_pos c_39]) ?_
              refine lv_iadd hx hb dX2_openAt_47 ?_
              refine lv_topi (fun v_4 ev_4 => ?_)
              refine lv_istore_n (lv' := [(2, .int v_4), (0, .ref o), (3, .int (nI i)), (1, .int (nI j))]) hx hb dX2_openAt_48 rfl hl (by decide) rfl (fun ls hl => ?_)
              refine lv_iinc (v := (nI (i + 1))) (lv' := [(3, .int (nI (i + 1))), (2, .int v_4), (0, .ref o), (1, .int (nI j))]) hx hb dX2_openAt_49 hl (k := 2) rfl (nI_add i 1) (by decide) rfl (fun ls hl => ?_)
              refine lv_goto (tgt := 4) hx hb dX2_openAt_52 (by decide) ?_
              have e8 : v_4 = sumI (fun d => opB σ j d) (i + 1) := by
                rw [ev_4]
                show _ = sumI (fun d => opB σ j d) i + (fun d => opB σ j d) i
                rfl
              rw [e8] at hl
              exact ih (i + 1) (by omega) (by omega) _ _ _ hP hD hS (lv_sub hl [2, 1, 0, 3] rfl)
  exact L4 (k + 1) 0 (by omega) (by omega) _ _ _ hP hD hS (lv_sub hl [2, 1, 0, 3] rfl)
end
section
abbrev rmX2_high : Room := { frames := 2, cells := 0, slots := 0, locals := 42 }
theorem b_X2_high : Cond.instanceMethod yX2_high ∈ LW ∧ Cond.selects RX2 yX2_high yX2_high ∈ LW ∧ Cond.initialized RX2 ∈ LW ∧ Cond.code yX2_high cX2_high 3 (some .int) ∈ LW := ⟨q818, q28, q40, q819⟩
set_option maxHeartbeats 4000000 in
set_option maxRecDepth 100000 in
theorem c_X2_high (l : Launch) (D : va_G) (cI cZ cL : ClassId) {n k : Nat} (o : Nat) (b : Nat → Nat) (σ : Sg) (κ ζ : Nat → Int32) (th : Int32) (hst : Shp n k σ) : MC l yX2_high cX2_high 3 (some .int) rmX2_high D (tZ cI cZ cL) [.ref o] (rC cI cZ o b σ κ ζ th) (rC cI cZ o b σ κ ζ th) (some (.int (amax (fun q => σ 0 q + σ 2 q) (nF σ)))) := by
  refine MC.of (by decide) (Nat.le_of_ble_eq_true rfl) ?_
  intro p e s m args below meth c A ls Q hx hb hml hr hts hown hlocks hA hP hD hK hS hl hQ
  have hown : s.vm.findClass RX2 = some m.cls := hown
  have hn10 := hst.1
  have hk16 := hst.2.1
  have hl : lv_has ls 3 [(0, .ref o)] := hl
  refine lv_iconst (v := (-1)) hx hb dX2_high_0 (by decide) ?_
  refine lv_istore_n (lv' := [(1, .int (-1)), (0, .ref o)]) hx hb dX2_high_1 rfl hl (by decide) rfl (fun ls hl => ?_)
  refine lv_iconst (v := 0) hx hb dX2_high_2 (by decide) ?_
  refine lv_istore_n (lv' := [(2, .int 0), (1, .int (-1)), (0, .ref o)]) hx hb dX2_high_3 rfl hl (by decide) rfl (fun ls hl => ?_)
  have hl : lv_has ls 3 [(2, .int (nI 0)), (1, .int (amax (fun q => σ 0 q + σ 2 q) 0)), (0, .ref o)] := hl
  have L4 : ∀ (f i : Nat), i ≤ n → n < i + f → ∀ (H : Heap) (locs : List Loc) (ls : Array Slot), va_P D vwCl (rC cI cZ o b σ κ ζ th) H → va_D A (rC cI cZ o b σ κ ζ th) → va_S A s.heap H locs → lv_has ls 3 [(0, .ref o), (1, .int (amax (fun q => σ 0 q + σ 2 q) i)), (2, .int (nI i))] → W p l e rmX2_high s m args below meth c H locs 0 0 Q (F0 m 4 ls []) := by
    intro f
    induction f with
    | zero => intro i h1 h2; exact absurd h2 (by omega)
    | succ f ih =>
      intro i hi_4 hf_4 H locs ls hP hD hS hl
      refine lv_iload_n hx hb dX2_high_4 rfl (lv_at hl 2 rfl) ?_
      refine lv_aload_n hx hb dX2_high_5 rfl (lv_at hl 0 rfl) ?_
      refine x_get (C := RX2) (T := TX2) (N := 14) hx hb hts in_wsX20 hown hK hP 0 rfl rfl 1 (by decide) q593 (v := .int (nI n)) (congrArg (fun z => some (Value.int z)) (hst.f0)) dX2_high_6 ?_
      refine lv_icmp_ge (tgt := 38) hx hb dX2_high_9 (by decide) (fun c_9 => ?_) (fun c_9 => ?_)
      · have hc_9 : n ≤ i := (nI_leI (a := n) (b := i) (by omega) (by omega)).mp c_9
        refine lv_iload_n hx hb dX2_high_38 rfl (lv_at hl 1 rfl) ?_
        subst hQ
        exact ri hx hb hr hlocks hK hP hD hS dX2_high_39 (rfl) (by rw [hst.eF, show i = n by omega])
      · have hc_9 : i < n := Nat.not_le.mp (fun z => c_9 ((nI_leI (a := n) (b := i) (by omega) (by omega)).mpr z))
        refine lv_iload_n hx hb dX2_high_12 rfl (lv_at hl 1 rfl) ?_
        refine lv_iconst (v := (-1)) hx hb dX2_high_13 (by decide) ?_
        refine lv_icmp_eq (tgt := 30) hx hb dX2_high_14 (by decide) (fun c_14 => ?_) (fun c_14 => ?_)
        · refine lv_iload_n hx hb dX2_high_30 rfl (lv_at hl 2 rfl) ?_
          refine lv_istore_n (lv' := [(1, .int (nI i)), (0, .ref o), (2, .int (nI i))]) hx hb dX2_high_31 rfl hl (by decide) rfl (fun ls hl => ?_)
          refine lv_iinc (v := (nI (i + 1))) (lv' := [(2, .int (nI (i + 1))), (1, .int (nI i)), (0, .ref o)]) hx hb dX2_high_32 hl (k := 2) rfl (nI_add i 1) (by decide) rfl (fun ls hl => ?_)
          refine lv_goto (tgt := 4) hx hb dX2_high_35 (by decide) ?_
          have e8 : (nI i) = amax (fun q => σ 0 q + σ 2 q) (i + 1) := by
            show _ = if amax (fun q => σ 0 q + σ 2 q) i = -1 then nI i else if (fun q => σ 0 q + σ 2 q) (amax (fun q => σ 0 q + σ 2 q) i).toNatClampNeg < (fun q => σ 0 q + σ 2 q) i then nI i else amax (fun q => σ 0 q + σ 2 q) i
            rw [if_pos c_14]
          rw [e8] at hl
          exact ih (i + 1) (by omega) (by omega) _ _ _ hP hD hS (lv_sub hl [2, 1, 0] rfl)
        · obtain ⟨q, hq, eq⟩ : ∃ q, q < i ∧ amax (fun q => σ 0 q + σ 2 q) i = nI q := by
            rcases amax_is (fun q => σ 0 q + σ 2 q) i (by omega) with z | z
            · exact absurd z.1 c_14
            · exact z
          rw [eq] at hl
          refine lv_aload_n hx hb dX2_high_17 rfl (lv_at hl 0 rfl) ?_
          refine lv_iload_n hx hb dX2_high_18 rfl (lv_at hl 2 rfl) ?_
          refine MC.callV (C := RX2) (T := TX2) (N := 14) (As := [.int (nI i)]) (rest := []) (wB := rC cI cZ o b σ κ ζ th) (c_X2_level l D cI cZ cL o b σ κ ζ th i (by omega)) ⟨hx, hb, hml, hown, hts⟩ q715 b_X2_level (n := 1) (by decide +kernel) ⟨Nat.le_of_ble_eq_true rfl, Nat.le_of_ble_eq_true rfl⟩ hK hP hD hS hA (sp0 _) (sp0 _) (ci := 2) rfl (q0 := 0) rfl rfl hl.1 rfl (Nat.le_of_ble_eq_true rfl) dX2_high_19 ⟨Nat.le_of_ble_eq_true rfl, Nat.le_of_ble_eq_true rfl⟩ (fun H locs hP hD hS => ?_)
          refine lv_aload_n hx hb dX2_high_22 rfl (lv_at hl 0 rfl) ?_
          refine lv_iload_n hx hb dX2_high_23 rfl (lv_at hl 1 rfl) ?_
          refine MC.callV (C := RX2) (T := TX2) (N := 14) (As := [.int (nI q)]) (rest := [.int (σ 0 i + σ 2 i)]) (wB := rC cI cZ o b σ κ ζ th) (c_X2_level l D cI cZ cL o b σ κ ζ th q (by omega)) ⟨hx, hb, hml, hown, hts⟩ q715 b_X2_level (n := 1) (by decide +kernel) ⟨Nat.le_of_ble_eq_true rfl, Nat.le_of_ble_eq_true rfl⟩ hK hP hD hS hA (sp0 _) (sp0 _) (ci := 2) rfl (q0 := 0) rfl rfl hl.1 rfl (Nat.le_of_ble_eq_true rfl) dX2_high_24 ⟨Nat.le_of_ble_eq_true rfl, Nat.le_of_ble_eq_true rfl⟩ (fun H locs hP hD hS => ?_)
          refine lv_icmp_le (tgt := 32) hx hb dX2_high_27 (by decide) (fun c_27 => ?_) (fun c_27 => ?_)
          · refine lv_iinc (v := (nI (i + 1))) (lv' := [(2, .int (nI (i + 1))), (0, .ref o), (1, .int (nI q))]) hx hb dX2_high_32 hl (k := 2) rfl (nI_add i 1) (by decide) rfl (fun ls hl => ?_)
            refine lv_goto (tgt := 4) hx hb dX2_high_35 (by decide) ?_
            have e8 : (nI q) = amax (fun q => σ 0 q + σ 2 q) (i + 1) := by
              show _ = if amax (fun q => σ 0 q + σ 2 q) i = -1 then nI i else if (fun q => σ 0 q + σ 2 q) (amax (fun q => σ 0 q + σ 2 q) i).toNatClampNeg < (fun q => σ 0 q + σ 2 q) i then nI i else amax (fun q => σ 0 q + σ 2 q) i
              rw [if_neg c_14, eq, nI_clamp (by omega), if_neg (Int32.not_lt.mpr c_27)]
            rw [e8] at hl
            exact ih (i + 1) (by omega) (by omega) _ _ _ hP hD hS (lv_sub hl [1, 2, 0] rfl)
          · refine lv_iload_n hx hb dX2_high_30 rfl (lv_at hl 2 rfl) ?_
            refine lv_istore_n (lv' := [(1, .int (nI i)), (0, .ref o), (2, .int (nI i))]) hx hb dX2_high_31 rfl hl (by decide) rfl (fun ls hl => ?_)
            refine lv_iinc (v := (nI (i + 1))) (lv' := [(2, .int (nI (i + 1))), (1, .int (nI i)), (0, .ref o)]) hx hb dX2_high_32 hl (k := 2) rfl (nI_add i 1) (by decide) rfl (fun ls hl => ?_)
            refine lv_goto (tgt := 4) hx hb dX2_high_35 (by decide) ?_
            have e8 : (nI i) = amax (fun q => σ 0 q + σ 2 q) (i + 1) := by
              show _ = if amax (fun q => σ 0 q + σ 2 q) i = -1 then nI i else if (fun q => σ 0 q + σ 2 q) (amax (fun q => σ 0 q + σ 2 q) i).toNatClampNeg < (fun q => σ 0 q + σ 2 q) i then nI i else amax (fun q => σ 0 q + σ 2 q) i
              rw [if_neg c_14, eq, nI_clamp (by omega), if_pos (Int32.not_le.mp c_27)]
            rw [e8] at hl
            exact ih (i + 1) (by omega) (by omega) _ _ _ hP hD hS (lv_sub hl [2, 1, 0] rfl)
  exact L4 (n + 1) 0 (by omega) (by omega) _ _ _ hP hD hS (lv_sub hl [2, 1, 0] rfl)

abbrev rmX2_busy : Room := { frames := 0, cells := 0, slots := 0, locals := 0 }
theorem b_X2_busy : Cond.instanceMethod yX2_busy ∈ LW ∧ Cond.selects RX2 yX2_busy yX2_busy ∈ LW ∧ Cond.initialized RX2 ∈ LW ∧ Cond.code yX2_busy cX2_busy 3 (some .int) ∈ LW := ⟨q842, q29, q40, q843⟩
set_option maxHeartbeats 4000000 in
set_option maxRecDepth 100000 in
theorem c_X2_busy (l : Launch) (D : va_G) (cI cZ cL : ClassId) {n k : Nat} (o : Nat) (b : Nat → Nat) (σ : Sg) (κ ζ : Nat → Int32) (th : Int32) (hst : Shp n k σ) : MC l yX2_busy cX2_busy 3 (some .int) rmX2_busy D (tZ cI cZ cL) [.ref o] (rC cI cZ o b σ κ ζ th) (rC cI cZ o b σ κ ζ th) (some (.int (amax (fun q => σ 8 q) (nD σ)))) := by
  refine MC.of (by decide) (Nat.le_of_ble_eq_true rfl) ?_
  intro p e s m args below meth c A ls Q hx hb hml hr hts hown hlocks hA hP hD hK hS hl hQ
  have hown : s.vm.findClass RX2 = some m.cls := hown
  have hn10 := hst.1
  have hk16 := hst.2.1
  have hl : lv_has ls 3 [(0, .ref o)] := hl
  refine lv_iconst (v := (-1)) hx hb dX2_busy_0 (by decide) ?_
  refine lv_istore_n (lv' := [(1, .int (-1)), (0, .ref o)]) hx hb dX2_busy_1 rfl hl (by decide) rfl (fun ls hl => ?_)
  refine lv_iconst (v := 0) hx hb dX2_busy_2 (by decide) ?_
  refine lv_istore_n (lv' := [(2, .int 0), (1, .int (-1)), (0, .ref o)]) hx hb dX2_busy_3 rfl hl (by decide) rfl (fun ls hl => ?_)
  have hl : lv_has ls 3 [(2, .int (nI 0)), (1, .int (amax (fun q => σ 8 q) 0)), (0, .ref o)] := hl
  have L4 : ∀ (f i : Nat), i ≤ k → k < i + f → ∀ (H : Heap) (locs : List Loc) (ls : Array Slot), va_P D vwCl (rC cI cZ o b σ κ ζ th) H → va_D A (rC cI cZ o b σ κ ζ th) → va_S A s.heap H locs → lv_has ls 3 [(0, .ref o), (1, .int (amax (fun q => σ 8 q) i)), (2, .int (nI i))] → W p l e rmX2_busy s m args below meth c H locs 0 0 Q (F0 m 4 ls []) := by
    intro f
    induction f with
    | zero => intro i h1 h2; exact absurd h2 (by omega)
    | succ f ih =>
      intro i hi_4 hf_4 H locs ls hP hD hS hl
      refine lv_iload_n hx hb dX2_busy_4 rfl (lv_at hl 2 rfl) ?_
      refine lv_aload_n hx hb dX2_busy_5 rfl (lv_at hl 0 rfl) ?_
      refine x_get (C := RX2) (T := TX2) (N := 14) hx hb hts in_wsX20 hown hK hP 0 rfl rfl 2 (by decide) q594 (v := .int (nI k)) (congrArg (fun z => some (Value.int z)) (hst.f1)) dX2_busy_6 ?_
      refine lv_icmp_ge (tgt := 46) hx hb dX2_busy_9 (by decide) (fun c_9 => ?_) (fun c_9 => ?_)
      · have hc_9 : k ≤ i := (nI_leI (a := k) (b := i) (by omega) (by omega)).mp c_9
        refine lv_iload_n hx hb dX2_busy_46 rfl (lv_at hl 1 rfl) ?_
        subst hQ
        exact ri hx hb hr hlocks hK hP hD hS dX2_busy_47 (rfl) (by rw [hst.eD, show i = k by omega])
      · have hc_9 : i < k := Nat.not_le.mp (fun z => c_9 ((nI_leI (a := k) (b := i) (by omega) (by omega)).mpr z))
        refine lv_iload_n hx hb dX2_busy_12 rfl (lv_at hl 1 rfl) ?_
        refine lv_iconst (v := (-1)) hx hb dX2_busy_13 (by decide) ?_
        refine lv_icmp_eq (tgt := 38) hx hb dX2_busy_14 (by decide) (fun c_14 => ?_) (fun c_14 => ?_)
        · refine lv_iload_n hx hb dX2_busy_38 rfl (lv_at hl 2 rfl) ?_
          refine lv_istore_n (lv' := [(1, .int (nI i)), (0, .ref o), (2, .int (nI i))]) hx hb dX2_busy_39 rfl hl (by decide) rfl (fun ls hl => ?_)
          refine lv_iinc (v := (nI (i + 1))) (lv' := [(2, .int (nI (i + 1))), (1, .int (nI i)), (0, .ref o)]) hx hb dX2_busy_40 hl (k := 2) rfl (nI_add i 1) (by decide) rfl (fun ls hl => ?_)
          refine lv_goto (tgt := 4) hx hb dX2_busy_43 (by decide) ?_
          have e8 : (nI i) = amax (fun q => σ 8 q) (i + 1) := by
            show _ = if amax (fun q => σ 8 q) i = -1 then nI i else if (fun q => σ 8 q) (amax (fun q => σ 8 q) i).toNatClampNeg < (fun q => σ 8 q) i then nI i else amax (fun q => σ 8 q) i
            rw [if_pos c_14]
          rw [e8] at hl
          exact ih (i + 1) (by omega) (by omega) _ _ _ hP hD hS (lv_sub hl [2, 1, 0] rfl)
        · obtain ⟨q, hq, eq⟩ : ∃ q, q < i ∧ amax (fun q => σ 8 q) i = nI q := by
            rcases amax_is (fun q => σ 8 q) i (by omega) with z | z
            · exact absurd z.1 c_14
            · exact z
          rw [eq] at hl
          refine lv_aload_n hx hb dX2_busy_17 rfl (lv_at hl 0 rfl) ?_
          refine x_get (C := RX2) (T := TX2) (N := 14) hx hb hts in_wsX20 hown hK hP 0 rfl rfl 11 (by decide) q603 (v := .ref (b 7)) rfl dX2_busy_18 ?_
          refine lv_bipush (v := 32) hx hb dX2_busy_21 (by decide) ?_
          refine lv_iload_n hx hb dX2_busy_23 rfl (lv_at hl 2 rfl) ?_
          refine lv_iadd hx hb dX2_busy_24 ?_
          refine x_ild hx hb hK hP 8 0 rfl rfl (32 + i) (nI_add 32 i) (by omega) (by decide) (v := σ 8 i) (nw_32 σ i) dX2_busy_25 ?_
          refine lv_aload_n hx hb dX2_busy_26 rfl (lv_at hl 0 rfl) ?_
          refine x_get (C := RX2) (T := TX2) (N := 14) hx hb hts in_wsX20 hown hK hP 0 rfl rfl 11 (by decide) q603 (v := .ref (b 7)) rfl dX2_busy_27 ?_
          refine lv_bipush (v := 32) hx hb dX2_busy_30 (by decide) ?_
          refine lv_iload_n hx hb dX2_busy_32 rfl (lv_at hl 1 rfl) ?_
          refine lv_iadd hx hb dX2_busy_33 ?_
          refine x_ild hx hb hK hP 8 0 rfl rfl (32 + q) (nI_add 32 q) (by omega) (by decide) (v := σ 8 q) (nw_32 σ q) dX2_busy_34 ?_
          refine lv_icmp_le (tgt := 40) hx hb dX2_busy_35 (by decide) (fun c_35 => ?_) (fun c_35 => ?_)
          · refine lv_iinc (v := (nI (i + 1))) (lv' := [(2, .int (nI (i + 1))), (0, .ref o), (1, .int (nI q))]) hx hb dX2_busy_40 hl (k := 2) rfl (nI_add i 1) (by decide) rfl (fun ls hl => ?_)
            refine lv_goto (tgt := 4) hx hb dX2_busy_43 (by decide) ?_
            have e8 : (nI q) = amax (fun q => σ 8 q) (i + 1) := by
              show _ = if amax (fun q => σ 8 q) i = -1 then nI i else if (fun q => σ 8 q) (amax (fun q => σ 8 q) i).toNatClampNeg < (fun q => σ 8 q) i then nI i else amax (fun q => σ 8 q) i
              rw [if_neg c_14, eq, nI_clamp (by omega), if_neg (Int32.not_lt.mpr c_35)]
            rw [e8] at hl
            exact ih (i + 1) (by omega) (by omega) _ _ _ hP hD hS (lv_sub hl [1, 2, 0] rfl)
          · refine lv_iload_n hx hb dX2_busy_38 rfl (lv_at hl 2 rfl) ?_
            refine lv_istore_n (lv' := [(1, .int (nI i)), (0, .ref o), (2, .int (nI i))]) hx hb dX2_busy_39 rfl hl (by decide) rfl (fun ls hl => ?_)
            refine lv_iinc (v := (nI (i + 1))) (lv' := [(2, .int (nI (i + 1))), (1, .int (nI i)), (0, .ref o)]) hx hb dX2_busy_40 hl (k := 2) rfl (nI_add i 1) (by decide) rfl (fun ls hl => ?_)
            refine lv_goto (tgt := 4) hx hb dX2_busy_43 (by decide) ?_
            have e8 : (nI i) = amax (fun q => σ 8 q) (i + 1) := by
              show _ = if amax (fun q => σ 8 q) i = -1 then nI i else if (fun q => σ 8 q) (amax (fun q => σ 8 q) i).toNatClampNeg < (fun q => σ 8 q) i then nI i else amax (fun q => σ 8 q) i
              rw [if_neg c_14, eq, nI_clamp (by omega), if_pos (Int32.not_le.mp c_35)]
            rw [e8] at hl
            exact ih (i + 1) (by omega) (by omega) _ _ _ hP hD hS (lv_sub hl [2, 1, 0] rfl)
  exact L4 (k + 1) 0 (by omega) (by omega) _ _ _ hP hD hS (lv_sub hl [2, 1, 0] rfl)

abbrev rmX2_until : Room := { frames := 5, cells := 0, slots := 0, locals := 126 }
theorem b_X2_until : Cond.instanceMethod yX2_until ∈ LW ∧ Cond.selects RX2 yX2_until yX2_until ∈ LW ∧ Cond.initialized RX2 ∈ LW ∧ Cond.code yX2_until cX2_until 3 (some .int) ∈ LW := ⟨q850, q30, q40, q851⟩
set_option maxHeartbeats 4000000 in
set_option maxRecDepth 100000 in
theorem c_X2_until (l : Launch) (D : va_G) (cI cZ cL : ClassId) {n k : Nat} (o : Nat) (b : Nat → Nat) (σ : Sg) (κ ζ : Nat → Int32) (th : Int32) (hst : Shp n k σ) {B : Nat} (hB : Bnd B σ) (hB2 : B + 24400 < 2 ^ 29) (j : Nat) (hj : j < n) : MC l yX2_until cX2_until 3 (some .int) rmX2_until D (tZ cI cZ cL) [.ref o, .int (nI j)] (rC cI cZ o b σ κ ζ th) (rC cI cZ o b σ (nowF σ) ζ th) (some (.int (untilS σ j))) := by
  refine MC.of (by decide) (Nat.le_of_ble_eq_true rfl) ?_
  intro p e s m args below meth c A ls Q hx hb hml hr hts hown hlocks hA hP hD hK hS hl hQ
  have hown : s.vm.findClass RX2 = some m.cls := hown
  have hn10 := hst.1
  have hk16 := hst.2.1
  have hl : lv_has ls 3 [(0, .ref o), (1, .int (nI j))] := hl
  refine lv_aload_n hx hb dX2_until_0 rfl (lv_at hl 0 rfl) ?_
  refine MC.callV (C := RX2) (T := TX2) (N := 14) (As := []) (rest := []) (wB := rC cI cZ o b σ (nowF σ) ζ th) (c_X2_keep l D cI cZ cL o b σ κ ζ th) ⟨hx, hb, hml, hown, hts⟩ q852 b_X2_keep (n := 0) (by decide +kernel) ⟨Nat.le_of_ble_eq_true rfl, Nat.le_of_ble_eq_true rfl⟩ hK hP hD hS hA (sp0 _) (sp0 _) (ci := 2) rfl (q0 := 0) rfl rfl hl.1 rfl (Nat.le_of_ble_eq_true rfl) dX2_until_1 ⟨Nat.le_of_ble_eq_true rfl, Nat.le_of_ble_eq_true rfl⟩ (fun H locs hP hD hS => ?_)
  refine lv_iconst (v := 0) hx hb dX2_until_4 (by decide) ?_
  refine lv_istore_n (lv' := [(2, .int 0), (0, .ref o), (1, .int (nI j))]) hx hb dX2_until_5 rfl hl (by decide) rfl (fun ls hl => ?_)
  have hl : lv_has ls 3 [(2, .int (nI 0)), (0, .ref o), (1, .int (nI j))] := hl
  have L6 : ∀ (f i : Nat), i ≤ 101 → 101 < i + f → fstI (fun i => hours i σ 4 j) (101 - i) i = untilS σ j → ∀ (H : Heap) (locs : List Loc) (ls : Array Slot), va_P D vwCl (rC cI cZ o b (hours i σ) (nowF σ) ζ th) H → va_D A (rC cI cZ o b (hours i σ) (nowF σ) ζ th) → va_S A s.heap H locs → lv_has ls 3 [(0, .ref o), (1, .int (nI j)), (2, .int (nI i))] → W p l e rmX2_until s m args below meth c H locs 0 0 Q (F0 m 6 ls []) := by
    intro f
    induction f with
    | zero => intro i h1 h2; exact absurd h2 (by omega)
    | succ f ih =>
      intro i hi_6 hf_6 hu H locs ls hP hD hS hl
      obtain ⟨τ, eτ⟩ : ∃ z, z = hours i σ := ⟨_, rfl⟩
      rw [← eτ] at hP hD
      have hst9 : Shp n k τ := by rw [eτ]; exact hst.hrs i
      have hB9 : Bnd (B + 234 * i) τ := by rw [eτ]; exact Bnd.hrs hst hB i (by omega)
      refine lv_iload_n hx hb dX2_until_6 rfl (lv_at hl 2 rfl) ?_
      refine lv_bipush (v := 100) hx hb dX2_until_7 (by decide) ?_
      refine lv_icmp_gt (tgt := 34) hx hb dX2_until_9 (by decide) (fun c_9 => ?_) (fun c_9 => ?_)
      · have hc_9 : 100 < i := (nI_ltI (a := 100) (b := i) (by omega) (by omega)).mp c_9
        refine lv_aload_n hx hb dX2_until_34 rfl (lv_at hl 0 rfl) ?_
        refine MC.callV (C := RX2) (T := TX2) (N := 14) (As := []) (rest := []) (wB := rC cI cZ o b σ (nowF σ) ζ th) (c_X2_bringBack l D cI cZ cL o b τ κ ζ th σ (by rw [eτ]; exact (Agr.hrs i σ).sy)) ⟨hx, hb, hml, hown, hts⟩ q859 b_X2_bringBack (n := 0) (by decide +kernel) ⟨Nat.le_of_ble_eq_true rfl, Nat.le_of_ble_eq_true rfl⟩ hK hP hD hS hA (sp0 _) (sp0 _) (ci := 2) rfl (q0 := 0) rfl rfl hl.1 rfl (Nat.le_of_ble_eq_true rfl) dX2_until_35 ⟨Nat.le_of_ble_eq_true rfl, Nat.le_of_ble_eq_true rfl⟩ (fun H locs hP hD hS => ?_)
        refine lv_iload_n hx hb dX2_until_38 rfl (lv_at hl 2 rfl) ?_
        refine lv_bipush (v := 100) hx hb dX2_until_39 (by decide) ?_
        refine lv_icmp_le (tgt := 48) hx hb dX2_until_41 (by decide) (fun z => absurd z (fun z => absurd ((nI_leI (a := i) (b := 100) (by omega) (by omega)).mp z) (by omega))) (fun c_41 => ?_)
        refine lv_iconst (v := (-1)) hx hb dX2_until_44 (by decide) ?_
        refine lv_goto (tgt := 49) hx hb dX2_until_45 (by decide) ?_
        subst hQ
        exact ri hx hb hr hlocks hK hP hD hS dX2_until_49 (rfl) (by rw [← hu, show 101 - i = 0 by omega]; rfl)
      · have hc_9 : i ≤ 100 := Nat.not_lt.mp (fun z => c_9 ((nI_ltI (a := 100) (b := i) (by omega) (by omega)).mpr z))
        refine lv_aload_n hx hb dX2_until_12 rfl (lv_at hl 0 rfl) ?_
        refine x_get (C := RX2) (T := TX2) (N := 14) hx hb hts in_wsX20 hown hK hP 0 rfl rfl 11 (by decide) q603 (v := .ref (b 7)) rfl dX2_until_13 ?_
        refine lv_bipush (v := 22) hx hb dX2_until_16 (by decide) ?_
        refine lv_iload_n hx hb dX2_until_18 rfl (lv_at hl 1 rfl) ?_
        refine lv_iadd hx hb dX2_until_19 ?_
        refine x_ild hx hb hK hP 8 0 rfl rfl (22 + j) (nI_add 22 j) (by omega) (by decide) (v := τ 4 j) (nw_22 τ (by omega)) dX2_until_20 ?_
        refine lv_if_ne (tgt := 34) hx hb dX2_until_21 (by decide) (fun c_21 => ?_) (fun c_21 => ?_)
        · refine lv_aload_n hx hb dX2_until_34 rfl (lv_at hl 0 rfl) ?_
          refine MC.callV (C := RX2) (T := TX2) (N := 14) (As := []) (rest := []) (wB := rC cI cZ o b σ (nowF σ) ζ th) (c_X2_bringBack l D cI cZ cL o b τ κ ζ th σ (by rw [eτ]; exact (Agr.hrs i σ).sy)) ⟨hx, hb, hml, hown, hts⟩ q859 b_X2_bringBack (n := 0) (by decide +kernel) ⟨Nat.le_of_ble_eq_true rfl, Nat.le_of_ble_eq_true rfl⟩ hK hP hD hS hA (sp0 _) (sp0 _) (ci := 2) rfl (q0 := 0) rfl rfl hl.1 rfl (Nat.le_of_ble_eq_true rfl) dX2_until_35 ⟨Nat.le_of_ble_eq_true rfl, Nat.le_of_ble_eq_true rfl⟩ (fun H locs hP hD hS => ?_)
          refine lv_iload_n hx hb dX2_until_38 rfl (lv_at hl 2 rfl) ?_
          refine lv_bipush (v := 100) hx hb dX2_until_39 (by decide) ?_
          refine lv_icmp_le (tgt := 48) hx hb dX2_until_41 (by decide) (fun c_41 => ?_) (fun z => absurd ((nI_leI (a := i) (b := 100) (by omega) (by omega)).mpr (by omega)) z)
          refine lv_iload_n hx hb dX2_until_48 rfl (lv_at hl 2 rfl) ?_
          subst hQ
          exact ri hx hb hr hlocks hK hP hD hS dX2_until_49 (rfl) (by rw [← hu, show 101 - i = (100 - i) + 1 by omega]; show nI i = (if hours i σ 4 j = 0 then _ else nI i); rw [if_neg (by rw [← eτ]; exact c_21)])
        · refine lv_aload_n hx hb dX2_until_24 rfl (lv_at hl 0 rfl) ?_
          refine MC.callV (C := RX2) (T := TX2) (N := 14) (As := []) (rest := []) (wB := rC cI cZ o b (hour τ) (nowF σ) ζ th) (c_X2_hourOn l D cI cZ cL o b τ (nowF σ) ζ th hst9 hB9 (by omega)) ⟨hx, hb, hml, hown, hts⟩ q702 b_X2_hourOn (n := 0) (by decide +kernel) ⟨Nat.le_of_ble_eq_true rfl, Nat.le_of_ble_eq_true rfl⟩ hK hP hD hS hA (sp0 _) (sp0 _) (ci := 2) rfl (q0 := 0) rfl rfl hl.1 rfl (Nat.le_of_ble_eq_true rfl) dX2_until_25 ⟨Nat.le_of_ble_eq_true rfl, Nat.le_of_ble_eq_true rfl⟩ (fun H locs hP hD hS => ?_)
          refine lv_iinc (v := (nI (i + 1))) (lv' := [(2, .int (nI (i + 1))), (0, .ref o), (1, .int (nI j))]) hx hb dX2_until_28 hl (k := 2) rfl (nI_add i 1) (by decide) rfl (fun ls hl => ?_)
          refine lv_goto (tgt := 6) hx hb dX2_until_31 (by decide) ?_
          have e9 : hour τ = hours (i + 1) σ := by rw [eτ]; rfl
          rw [e9] at hP hD
          exact ih (i + 1) (by omega) (by omega) (by rw [← hu, show 101 - i = (101 - (i + 1)) + 1 by omega]; show _ = (if hours i σ 4 j = 0 then _ else _); rw [if_pos (by rw [← eτ]; exact c_21)]) _ _ _ hP hD hS (lv_sub hl [1, 2, 0] rfl)
  exact L6 (101 + 1) 0 (by omega) (by omega) rfl _ _ _ hP hD hS (lv_sub hl [1, 2, 0] rfl)

abbrev rmX2_lostBehind : Room := { frames := 6, cells := 0, slots := 0, locals := 148 }
theorem b_X2_lostBehind : Cond.instanceMethod yX2_lostBehind ∈ LW ∧ Cond.selects RX2 yX2_lostBehind yX2_lostBehind ∈ LW ∧ Cond.initialized RX2 ∈ LW ∧ Cond.code yX2_lostBehind cX2_lostBehind 5 (some .int) ∈ LW := ⟨q869, q33, q40, q870⟩
set_option maxHeartbeats 4000000 in
set_option maxRecDepth 100000 in
theorem c_X2_lostBehind_a (l : Launch) (D : va_G) (cI cZ cL : ClassId) {n k : Nat} (o : Nat) (b : Nat → Nat) (σ : Sg) (κ ζ : Nat → Int32) (th : Int32) (hst : Shp n k σ) {B : Nat} (hB : Bnd B σ) (t : Nat) (hB2 : B + 234 * t + 500 < 2 ^ 29) (x : Int32) : MC l yX2_lostBehind cX2_lostBehind 5 (some .int) rmX2_lostBehind D (tZ cI cZ cL) [.ref o, .int (nI t), .int (-1), .int x] (rC cI cZ o b σ κ ζ th) (rC cI cZ o b σ (nowF σ) ζ th) (some (.int (lossH t σ))) := by
  refine MC.of (by decide) (Nat.le_of_ble_eq_true rfl) ?_
  intro p e s m args below meth c A ls Q hx hb hml hr hts hown hlocks hA hP hD hK hS hl hQ
  have hown : s.vm.findClass RX2 = some m.cls := hown
  have hn10 := hst.1
  have hk16 := hst.2.1
  have hl : lv_has ls 5 [(0, .ref o), (1, .int (nI t)), (2, .int (-1)), (3, .int x)] := hl
  refine lv_aload_n hx hb dX2_lostBehind_0 rfl (lv_at hl 0 rfl) ?_
  refine MC.callV (C := RX2) (T := TX2) (N := 14) (As := []) (rest := []) (wB := rC cI cZ o b σ (nowF σ) ζ th) (c_X2_keep l D cI cZ cL o b σ κ ζ th) ⟨hx, hb, hml, hown, hts⟩ q852 b_X2_keep (n := 0) (by decide +kernel) ⟨Nat.le_of_ble_eq_true rfl, Nat.le_of_ble_eq_true rfl⟩ hK hP hD hS hA (sp0 _) (sp0 _) (ci := 2) rfl (q0 := 0) rfl rfl hl.1 rfl (Nat.le_of_ble_eq_true rfl) dX2_lostBehind_1 ⟨Nat.le_of_ble_eq_true rfl, Nat.le_of_ble_eq_true rfl⟩ (fun H locs hP hD hS => ?_)
  refine lv_iload_n hx hb dX2_lostBehind_4 rfl (lv_at hl 2 rfl) ?_
  refine lv_iconst (v := (-1)) hx hb dX2_lostBehind_5 (by decide) ?_
  refine lv_icmp_eq (tgt := 21) hx hb dX2_lostBehind_6 (by decide) (fun c_6 => ?_) (fun z => absurd (by decide) z)
  refine lv_aload_n hx hb dX2_lostBehind_21 rfl (lv_at hl 0 rfl) ?_
  refine lv_iload_n hx hb dX2_lostBehind_22 rfl (lv_at hl 1 rfl) ?_
  refine MC.callV (C := RX2) (T := TX2) (N := 14) (As := [.int (nI t)]) (rest := []) (wB := rC cI cZ o b (hours t σ) (nowF σ) ζ th) (c_X2_hoursOn l D cI cZ cL o b σ (nowF σ) ζ th hst hB t (by omega)) ⟨hx, hb, hml, hown, hts⟩ q698 b_X2_hoursOn (n := 1) (by decide +kernel) ⟨Nat.le_of_ble_eq_true rfl, Nat.le_of_ble_eq_true rfl⟩ hK hP hD hS hA (sp0 _) (sp0 _) (ci := 2) rfl (q0 := 0) rfl rfl hl.1 rfl (Nat.le_of_ble_eq_true rfl) dX2_lostBehind_23 ⟨Nat.le_of_ble_eq_true rfl, Nat.le_of_ble_eq_true rfl⟩ (fun H locs hP hD hS => ?_)
  refine lv_aload_n hx hb dX2_lostBehind_26 rfl (lv_at hl 0 rfl) ?_
  refine MC.callV (C := RX2) (T := TX2) (N := 14) (As := []) (rest := []) (wB := rC cI cZ o b (hours t σ) (nowF σ) ζ th) (c_X2_lost l D cI cZ cL o b (hours t σ) (nowF σ) ζ th (hst.hrs t) (Bnd.hrs hst hB t (by omega))) ⟨hx, hb, hml, hown, hts⟩ q768 b_X2_lost (n := 0) (by decide +kernel) ⟨Nat.le_of_ble_eq_true rfl, Nat.le_of_ble_eq_true rfl⟩ hK hP hD hS hA (sp0 _) (sp0 _) (ci := 2) rfl (q0 := 0) rfl rfl hl.1 rfl (Nat.le_of_ble_eq_true rfl) dX2_lostBehind_27 ⟨Nat.le_of_ble_eq_true rfl, Nat.le_of_ble_eq_true rfl⟩ (fun H locs hP hD hS => ?_)
  refine lv_istore (lv' := [(4, .int (lost (hours t σ))), (0, .ref o), (1, .int (nI t)), (2, .int (-1)), (3, .int x)]) hx hb dX2_lostBehind_30 hl (by decide) rfl (fun ls hl => ?_)
  refine lv_aload_n hx hb dX2_lostBehind_32 rfl (lv_at hl 1 rfl) ?_
  refine MC.callV (C := RX2) (T := TX2) (N := 14) (As := []) (rest := []) (wB := rC cI cZ o b σ (nowF σ) ζ th) (c_X2_bringBack l D cI cZ cL o b (hours t σ) κ ζ th σ ((Agr.hrs t σ).sy)) ⟨hx, hb, hml, hown, hts⟩ q859 b_X2_bringBack (n := 0) (by decide +kernel) ⟨Nat.le_of_ble_eq_true rfl, Nat.le_of_ble_eq_true rfl⟩ hK hP hD hS hA (sp0 _) (sp0 _) (ci := 2) rfl (q0 := 0) rfl rfl hl.1 rfl (Nat.le_of_ble_eq_true rfl) dX2_lostBehind_33 ⟨Nat.le_of_ble_eq_true rfl, Nat.le_of_ble_eq_true rfl⟩ (fun H locs hP hD hS => ?_)
  refine lv_iload hx hb dX2_lostBehind_36 (lv_at hl 0 rfl) ?_
  subst hQ
  exact ri hx hb hr hlocks hK hP hD hS dX2_lostBehind_38 (rfl) (rfl)

set_option maxHeartbeats 4000000 in
set_option maxRecDepth 100000 in
theorem c_X2_lostBehind_b (l : Launch) (D : va_G) (cI cZ cL : ClassId) {n k : Nat} (o : Nat) (b : Nat → Nat) (σ : Sg) (κ ζ : Nat → Int32) (th : Int32) (hst : Shp n k σ) {B : Nat} (hB : Bnd B σ) (t : Nat) (hB2 : B + 234 * t + 500 < 2 ^ 29) (j : Nat) (hj : j < n) (x : Nat) (hx5 : x ≤ 50) : MC l yX2_lostBehind cX2_lostBehind 5 (some .int) rmX2_lostBehind D (tZ cI cZ cL) [.ref o, .int (nI t), .int (nI j), .int (nI x)] (rC cI cZ o b σ κ ζ th) (rC cI cZ o b σ (nowF σ) ζ th) (some (.int (lossH t (addW σ j (nI x))))) := by
  refine MC.of (by decide) (Nat.le_of_ble_eq_true rfl) ?_
  intro p e s m args below meth c A ls Q hx hb hml hr hts hown hlocks hA hP hD hK hS hl hQ
  have hown : s.vm.findClass RX2 = some m.cls := hown
  have hn10 := hst.1
  have hk16 := hst.2.1
  have hl : lv_has ls 5 [(0, .ref o), (1, .int (nI t)), (2, .int (nI j)), (3, .int (nI x))] := hl
  refine lv_aload_n hx hb dX2_lostBehind_0 rfl (lv_at hl 0 rfl) ?_
  refine MC.callV (C := RX2) (T := TX2) (N := 14) (As := []) (rest := []) (wB := rC cI cZ o b σ (nowF σ) ζ th) (c_X2_keep l D cI cZ cL o b σ κ ζ th) ⟨hx, hb, hml, hown, hts⟩ q852 b_X2_keep (n := 0) (by decide +kernel) ⟨Nat.le_of_ble_eq_true rfl, Nat.le_of_ble_eq_true rfl⟩ hK hP hD hS hA (sp0 _) (sp0 _) (ci := 2) rfl (q0 := 0) rfl rfl hl.1 rfl (Nat.le_of_ble_eq_true rfl) dX2_lostBehind_1 ⟨Nat.le_of_ble_eq_true rfl, Nat.le_of_ble_eq_true rfl⟩ (fun H locs hP hD hS => ?_)
  refine lv_iload_n hx hb dX2_lostBehind_4 rfl (lv_at hl 2 rfl) ?_
  refine lv_iconst (v := (-1)) hx hb dX2_lostBehind_5 (by decide) ?_
  refine lv_icmp_eq (tgt := 21) hx hb dX2_lostBehind_6 (by decide) (fun z => absurd z (nI_ne_m1 (by omega))) (fun c_6 => ?_)
  refine lv_aload_n hx hb dX2_lostBehind_9 rfl (lv_at hl 0 rfl) ?_
  refine x_get (C := RX2) (T := TX2) (N := 14) hx hb hts in_wsX20 hown hK hP 0 rfl rfl 11 (by decide) q603 (v := .ref (b 7)) rfl dX2_lostBehind_10 ?_
  refine lv_iconst (v := 2) hx hb dX2_lostBehind_13 (by decide) ?_
  refine lv_iload_n hx hb dX2_lostBehind_14 rfl (lv_at hl 2 rfl) ?_
  refine lv_iadd hx hb dX2_lostBehind_15 ?_
  refine lv_dup2_11 hx hb dX2_lostBehind_16 rfl rfl ?_
  refine x_ild hx hb hK hP 8 0 rfl rfl (2 + j) (nI_add 2 j) (by omega) (by decide) (v := σ 2 j) (nw_2 σ (by omega)) dX2_lostBehind_17 ?_
  refine lv_iload_n hx hb dX2_lostBehind_18 rfl (lv_at hl 3 rfl) ?_
  refine lv_iadd hx hb dX2_lostBehind_19 ?_
  refine x_ist (ws2 := rC cI cZ o b (addW σ j (nI x)) (nowF σ) ζ th) hx hb hK hP hD hS 8 0 rfl rfl (2 + j) (nI_add 2 j) (by omega) (by decide) (by rw [nwu_2 σ (f := j) ((σ 2 j) + (nI x)) (by omega)]; rfl) dX2_lostBehind_20 (fun H locs hP hD hS => ?_)
  refine lv_aload_n hx hb dX2_lostBehind_21 rfl (lv_at hl 0 rfl) ?_
  refine lv_iload_n hx hb dX2_lostBehind_22 rfl (lv_at hl 1 rfl) ?_
  refine MC.callV (C := RX2) (T := TX2) (N := 14) (As := [.int (nI t)]) (rest := []) (wB := rC cI cZ o b (hours t (addW σ j (nI x))) (nowF σ) ζ th) (c_X2_hoursOn l D cI cZ cL o b (addW σ j (nI x)) (nowF σ) ζ th (hst.aw j (nI x)) (hB.aw j hx5) t (by omega)) ⟨hx, hb, hml, hown, hts⟩ q698 b_X2_hoursOn (n := 1) (by decide +kernel) ⟨Nat.le_of_ble_eq_true rfl, Nat.le_of_ble_eq_true rfl⟩ hK hP hD hS hA (sp0 _) (sp0 _) (ci := 2) rfl (q0 := 0) rfl rfl hl.1 rfl (Nat.le_of_ble_eq_true rfl) dX2_lostBehind_23 ⟨Nat.le_of_ble_eq_true rfl, Nat.le_of_ble_eq_true rfl⟩ (fun H locs hP hD hS => ?_)
  refine lv_aload_n hx hb dX2_lostBehind_26 rfl (lv_at hl 0 rfl) ?_
  refine MC.callV (C := RX2) (T := TX2) (N := 14) (As := []) (rest := []) (wB := rC cI cZ o b (hours t (addW σ j (nI x))) (nowF σ) ζ th) (c_X2_lost l D cI cZ cL o b (hours t (addW σ j (nI x))) (nowF σ) ζ th ((hst.aw j (nI x)).hrs t) (Bnd.hrs (hst.aw j (nI x)) (hB.aw j hx5) t (by omega))) ⟨hx, hb, hml, hown, hts⟩ q768 b_X2_lost (n := 0) (by decide +kernel) ⟨Nat.le_of_ble_eq_true rfl, Nat.le_of_ble_eq_true rfl⟩ hK hP hD hS hA (sp0 _) (sp0 _) (ci := 2) rfl (q0 := 0) rfl rfl hl.1 rfl (Nat.le_of_ble_eq_true rfl) dX2_lostBehind_27 ⟨Nat.le_of_ble_eq_true rfl, Nat.le_of_ble_eq_true rfl⟩ (fun H locs hP hD hS => ?_)
  refine lv_istore (lv' := [(4, .int (lost (hours t (addW σ j (nI x))))), (0, .ref o), (1, .int (nI t)), (2, .int (nI j)), (3, .int (nI x))]) hx hb dX2_lostBehind_30 hl (by decide) rfl (fun ls hl => ?_)
  refine lv_aload_n hx hb dX2_lostBehind_32 rfl (lv_at hl 1 rfl) ?_
  refine MC.callV (C := RX2) (T := TX2) (N := 14) (As := []) (rest := []) (wB := rC cI cZ o b σ (nowF σ) ζ th) (c_X2_bringBack l D cI cZ cL o b (hours t (addW σ j (nI x))) κ ζ th σ (((Agr.hrs t _).tr (Agr.aw σ j (nI x))).sy)) ⟨hx, hb, hml, hown, hts⟩ q859 b_X2_bringBack (n := 0) (by decide +kernel) ⟨Nat.le_of_ble_eq_true rfl, Nat.le_of_ble_eq_true rfl⟩ hK hP hD hS hA (sp0 _) (sp0 _) (ci := 2) rfl (q0 := 0) rfl rfl hl.1 rfl (Nat.le_of_ble_eq_true rfl) dX2_lostBehind_33 ⟨Nat.le_of_ble_eq_true rfl, Nat.le_of_ble_eq_true rfl⟩ (fun H locs hP hD hS => ?_)
  refine lv_iload hx hb dX2_lostBehind_36 (lv_at hl 0 rfl) ?_
  subst hQ
  exact ri hx hb hr hlocks hK hP hD hS dX2_lostBehind_38 (rfl) (rfl)

abbrev rmX2_turned : Room := { frames := 7, cells := 0, slots := 0, locals := 172 }
theorem b_X2_turned : Cond.instanceMethod yX2_turned ∈ LW ∧ Cond.selects RX2 yX2_turned yX2_turned ∈ LW ∧ Cond.initialized RX2 ∈ LW ∧ Cond.code yX2_turned cX2_turned 5 (some .int) ∈ LW := ⟨q881, q34, q40, q882⟩
set_option maxHeartbeats 4000000 in
set_option maxRecDepth 100000 in
theorem c_X2_turned (l : Launch) (D : va_G) (cI cZ cL : ClassId) {n k : Nat} (o : Nat) (b : Nat → Nat) (σ : Sg) (κ ζ : Nat → Int32) (th : Int32) (hst : Shp n k σ) {B : Nat} (hB : Bnd B σ) (hB2 : B + 6200 < 2 ^ 29) : MC l yX2_turned cX2_turned 5 (some .int) rmX2_turned D (tZ cI cZ cL) [.ref o] (rC cI cZ o b σ κ ζ th) (rC cI cZ o b σ (nowF σ) ζ th) (some (.int (turnB σ))) := by
  refine MC.of (by decide) (Nat.le_of_ble_eq_true rfl) ?_
  intro p e s m args below meth c A ls Q hx hb hml hr hts hown hlocks hA hP hD hK hS hl hQ
  have hown : s.vm.findClass RX2 = some m.cls := hown
  have hn10 := hst.1
  have hk16 := hst.2.1
  have hl : lv_has ls 5 [(0, .ref o)] := hl
  refine lv_iconst (v := (-1)) hx hb dX2_turned_0 (by decide) ?_
  refine lv_istore_n (lv' := [(1, .int (-1)), (0, .ref o)]) hx hb dX2_turned_1 rfl hl (by decide) rfl (fun ls hl => ?_)
  refine lv_aload_n hx hb dX2_turned_2 rfl (lv_at hl 1 rfl) ?_
  refine lv_bipush (v := 24) hx hb dX2_turned_3 (by decide) ?_
  refine lv_iconst (v := (-1)) hx hb dX2_turned_5 (by decide) ?_
  refine lv_iconst (v := 0) hx hb dX2_turned_6 (by decide) ?_
  refine MC.callV (C := RX2) (T := TX2) (N := 14) (As := [.int 24, .int (-1), .int 0]) (rest := []) (wB := rC cI cZ o b σ (nowF σ) ζ th) (c_X2_lostBehind_a l D cI cZ cL o b σ κ ζ th hst hB 24 (by omega) 0) ⟨hx, hb, hml, hown, hts⟩ q867 b_X2_lostBehind (n := 3) (by decide +kernel) ⟨Nat.le_of_ble_eq_true rfl, Nat.le_of_ble_eq_true rfl⟩ hK hP hD hS hA (sp0 _) (sp0 _) (ci := 2) rfl (q0 := 0) rfl rfl hl.1 rfl (Nat.le_of_ble_eq_true rfl) dX2_turned_7 ⟨Nat.le_of_ble_eq_true rfl, Nat.le_of_ble_eq_true rfl⟩ (fun H locs hP hD hS => ?_)
  refine lv_istore_n (lv' := [(2, .int (lossH 24 σ)), (1, .int (-1)), (0, .ref o)]) hx hb dX2_turned_10 rfl hl (by decide) rfl (fun ls hl => ?_)
  refine lv_iconst (v := 0) hx hb dX2_turned_11 (by decide) ?_
  refine lv_istore_n (lv' := [(3, .int 0), (2, .int (lossH 24 σ)), (1, .int (-1)), (0, .ref o)]) hx hb dX2_turned_12 rfl hl (by decide) rfl (fun ls hl => ?_)
  have hl : lv_has ls 5 [(3, .int (nI 0)), (2, .int (lossH 24 σ)), (1, .int ((amin (fun d => lossH 24 (turnS σ d)) (lossH 24 σ) 0).1)), (0, .ref o)] := hl
  have hl : lv_has ls 5 [(3, .int (nI 0)), (2, .int ((amin (fun d => lossH 24 (turnS σ d)) (lossH 24 σ) 0).2)), (1, .int ((amin (fun d => lossH 24 (turnS σ d)) (lossH 24 σ) 0).1)), (0, .ref o)] := (congrArg (fun z => lv_has ls 5 [(3, .int (nI 0)), (2, .int z), (1, .int ((amin (fun d => lossH 24 (turnS σ d)) (lossH 24 σ) 0).1)), (0, .ref o)]) (amin_z2 (fun d => lossH 24 (turnS σ d)) (lossH 24 σ))).mp hl
  have L13 : ∀ (f i : Nat), i ≤ k → k < i + f → ∀ (H : Heap) (locs : List Loc) (ls : Array Slot), va_P D vwCl (rC cI cZ o b σ (nowF σ) ζ th) H → va_D A (rC cI cZ o b σ (nowF σ) ζ th) → va_S A s.heap H locs → lv_has ls 5 [(0, .ref o), (1, .int ((amin (fun d => lossH 24 (turnS σ d)) (lossH 24 σ) i).1)), (2, .int ((amin (fun d => lossH 24 (turnS σ d)) (lossH 24 σ) i).2)), (3, .int (nI i))] → W p l e rmX2_turned s m args below meth c H locs 0 0 Q (F0 m 13 ls []) := by
    intro f
    induction f with
    | zero => intro i h1 h2; exact absurd h2 (by omega)
    | succ f ih =>
      intro i hi_13 hf_13 H locs ls hP hD hS hl
      refine lv_iload_n hx hb dX2_turned_13 rfl (lv_at hl 3 rfl) ?_
      refine lv_aload_n hx hb dX2_turned_14 rfl (lv_at hl 0 rfl) ?_
      refine x_get (C := RX2) (T := TX2) (N := 14) hx hb hts in_wsX20 hown hK hP 0 rfl rfl 2 (by decide) q594 (v := .int (nI k)) (congrArg (fun z => some (Value.int z)) (hst.f1)) dX2_turned_15 ?_
      refine lv_icmp_ge (tgt := 91) hx hb dX2_turned_18 (by decide) (fun c_18 => ?_) (fun c_18 => ?_)
      · have hc_18 : k ≤ i := (nI_leI (a := k) (b := i) (by omega) (by omega)).mp c_18
        refine lv_iload_n hx hb dX2_turned_91 rfl (lv_at hl 1 rfl) ?_
        subst hQ
        exact ri hx hb hr hlocks hK hP hD hS dX2_turned_92 (rfl) (by unfold turnB; rw [hst.eD, show i = k by omega])
      · have hc_18 : i < k := Nat.not_le.mp (fun z => c_18 ((nI_leI (a := k) (b := i) (by omega) (by omega)).mpr z))
        refine lv_aload_n hx hb dX2_turned_21 rfl (lv_at hl 0 rfl) ?_
        refine x_get (C := RX2) (T := TX2) (N := 14) hx hb hts in_wsX20 hown hK hP 0 rfl rfl 10 (by decide) q602 (v := .ref (b 6)) rfl dX2_turned_22 ?_
        refine lv_iload_n hx hb dX2_turned_25 rfl (lv_at hl 3 rfl) ?_
        refine lv_aload_n hx hb dX2_turned_26 rfl (lv_at hl 0 rfl) ?_
        refine x_get (C := RX2) (T := TX2) (N := 14) hx hb hts in_wsX20 hown hK hP 0 rfl rfl 10 (by decide) q602 (v := .ref (b 6)) rfl dX2_turned_27 ?_
        refine lv_iload_n hx hb dX2_turned_30 rfl (lv_at hl 3 rfl) ?_
        refine x_zld hx hb hK hP 7 1 rfl rfl i (rfl) (by omega) (by decide) (v := σ 10 i) rfl dX2_turned_31 ?_
        have J40_1 : W p l e rmX2_turned s m args below meth c H locs 0 0 Q (F0 m 40 ls [.int (if σ 10 i = 0 then 1 else 0), .int (nI i), .ref (b 6)]) := by
          refine x_zst (ws2 := rC cI cZ o b (turnS σ i) (nowF σ) ζ th) hx hb hK hP hD hS 7 1 rfl rfl i (rfl) (by omega) (by decide) (by split; exact Or.inr rfl; exact Or.inl rfl) rfl dX2_turned_40 (fun H locs hP hD hS => ?_)
          refine lv_aload_n hx hb dX2_turned_41 rfl (lv_at hl 0 rfl) ?_
          refine lv_bipush (v := 24) hx hb dX2_turned_42 (by decide) ?_
          refine lv_iconst (v := (-1)) hx hb dX2_turned_44 (by decide) ?_
          refine lv_iconst (v := 0) hx hb dX2_turned_45 (by decide) ?_
          refine MC.callV (C := RX2) (T := TX2) (N := 14) (As := [.int 24, .int (-1), .int 0]) (rest := []) (wB := rC cI cZ o b (turnS σ i) (nowF (turnS σ i)) ζ th) (c_X2_lostBehind_a l D cI cZ cL o b (turnS σ i) (nowF σ) ζ th (hst.tu i) (hB.tu i) 24 (by omega) 0) ⟨hx, hb, hml, hown, hts⟩ q867 b_X2_lostBehind (n := 3) (by decide +kernel) ⟨Nat.le_of_ble_eq_true rfl, Nat.le_of_ble_eq_true rfl⟩ hK hP hD hS hA (sp0 _) (sp0 _) (ci := 2) rfl (q0 := 0) rfl rfl hl.1 rfl (Nat.le_of_ble_eq_true rfl) dX2_turned_46 ⟨Nat.le_of_ble_eq_true rfl, Nat.le_of_ble_eq_true rfl⟩ (fun H locs hP hD hS => ?_)
          rw [nowF_turn] at hP hD
          refine lv_istore (lv' := [(4, .int (lossH 24 (turnS σ i))), (0, .ref o), (1, .int ((amin (fun d => lossH 24 (turnS σ d)) (lossH 24 σ) i).1)), (2, .int ((amin (fun d => lossH 24 (turnS σ d)) (lossH 24 σ) i).2)), (3, .int (nI i))]) hx hb dX2_turned_49 hl (by decide) rfl (fun ls hl => ?_)
          refine lv_aload_n hx hb dX2_turned_51 rfl (lv_at hl 1 rfl) ?_
          refine x_get (C := RX2) (T := TX2) (N := 14) hx hb hts in_wsX20 hown hK hP 0 rfl rfl 10 (by decide) q602 (v := .ref (b 6)) rfl dX2_turned_52 ?_
          refine lv_iload_n hx hb dX2_turned_55 rfl (lv_at hl 4 rfl) ?_
          refine lv_aload_n hx hb dX2_turned_56 rfl (lv_at hl 1 rfl) ?_
          refine x_get (C := RX2) (T := TX2) (N := 14) hx hb hts in_wsX20 hown hK hP 0 rfl rfl 10 (by decide) q602 (v := .ref (b 6)) rfl dX2_turned_57 ?_
          refine lv_iload_n hx hb dX2_turned_60 rfl (lv_at hl 4 rfl) ?_
          refine x_zld hx hb hK hP 7 1 rfl rfl i (rfl) (by omega) (by decide) (v := (turnS σ i) 10 i) rfl dX2_turned_61 ?_
          have J70_1 : W p l e rmX2_turned s m args below meth c H locs 0 0 Q (F0 m 70 ls [.int (if turnS σ i 10 i = 0 then 1 else 0), .int (nI i), .ref (b 6)]) := by
            refine x_zst (ws2 := rC cI cZ o b (turnS (turnS σ i) i) (nowF σ) ζ th) hx hb hK hP hD hS 7 1 rfl rfl i (rfl) (by omega) (by decide) (by split; exact Or.inr rfl; exact Or.inl rfl) rfl dX2_turned_70 (fun H locs hP hD hS => ?_)
            rw [turn_turn (hB.2.2.2.2.2.2 i (by omega))] at hP hD
            refine lv_iload hx hb dX2_turned_71 (lv_at hl 0 rfl) ?_
            refine lv_iload_n hx hb dX2_turned_73 rfl (lv_at hl 3 rfl) ?_
            refine lv_icmp_lt (tgt := 80) hx hb dX2_turned_74 (by decide) (fun c_74 => ?_) (fun c_74 => ?_)
            · refine lv_iload_n hx hb dX2_turned_80 rfl (lv_at hl 4 rfl) ?_
              refine lv_istore_n (lv' := [(1, .int (nI i)), (4, .int (lossH 24 (turnS σ i))), (0, .ref o), (2, .int ((amin (fun d => lossH 24 (turnS σ d)) (lossH 24 σ) i).2)), (3, .int (nI i))]) hx hb dX2_turned_81 rfl hl (by decide) rfl (fun ls hl => ?_)
              refine lv_iload hx hb dX2_turned_82 (lv_at hl 1 rfl) ?_
              refine lv_istore_n (lv' := [(2, .int (lossH 24 (turnS σ i))), (1, .int (nI i)), (4, .int (lossH 24 (turnS σ i))), (0, .ref o), (3, .int (nI i))]) hx hb dX2_turned_84 rfl hl (by decide) rfl (fun ls hl => ?_)
              refine lv_iinc (v := (nI (i + 1))) (lv' := [(3, .int (nI (i + 1))), (2, .int (lossH 24 (turnS σ i))), (1, .int (nI i)), (4, .int (lossH 24 (turnS σ i))), (0, .ref o)]) hx hb dX2_turned_85 hl (k := 4) rfl (nI_add i 1) (by decide) rfl (fun ls hl => ?_)
              refine lv_goto (tgt := 13) hx hb dX2_turned_88 (by decide) ?_
              have e81 : (nI i) = (amin (fun d => lossH 24 (turnS σ d)) (lossH 24 σ) (i + 1)).1 := by
                show _ = (if (fun d => lossH 24 (turnS σ d)) i < (amin (fun d => lossH 24 (turnS σ d)) (lossH 24 σ) i).2 then (nI i, (fun d => lossH 24 (turnS σ d)) i) else amin (fun d => lossH 24 (turnS σ d)) (lossH 24 σ) i).1
                rw [if_pos c_74]
              rw [e81] at hl
              have e82 : lossH 24 (turnS σ i) = (amin (fun d => lossH 24 (turnS σ d)) (lossH 24 σ) (i + 1)).2 := by
                show _ = (if (fun d => lossH 24 (turnS σ d)) i < (amin (fun d => lossH 24 (turnS σ d)) (lossH 24 σ) i).2 then (nI i, (fun d => lossH 24 (turnS σ d)) i) else amin (fun d => lossH 24 (turnS σ d)) (lossH 24 σ) i).2
                rw [if_pos c_74]
              rw [e82] at hl
              exact ih (i + 1) (by omega) (by omega) _ _ _ hP hD hS (lv_sub hl [4, 2, 1, 0] rfl)
            · refine lv_goto (tgt := 85) hx hb dX2_turned_77 (by decide) ?_
              refine lv_iinc (v := (nI (i + 1))) (lv' := [(3, .int (nI (i + 1))), (4, .int (lossH 24 (turnS σ i))), (0, .ref o), (1, .int ((amin (fun d => lossH 24 (turnS σ d)) (lossH 24 σ) i).1)), (2, .int ((amin (fun d => lossH 24 (turnS σ d)) (lossH 24 σ) i).2))]) hx hb dX2_turned_85 hl (k := 4) rfl (nI_add i 1) (by decide) rfl (fun ls hl => ?_)
              refine lv_goto (tgt := 13) hx hb dX2_turned_88 (by decide) ?_
              have e81 : (amin (fun d => lossH 24 (turnS σ d)) (lossH 24 σ) i).1 = (amin (fun d => lossH 24 (turnS σ d)) (lossH 24 σ) (i + 1)).1 := by
                show _ = (if (fun d => lossH 24 (turnS σ d)) i < (amin (fun d => lossH 24 (turnS σ d)) (lossH 24 σ) i).2 then (nI i, (fun d => lossH 24 (turnS σ d)) i) else amin (fun d => lossH 24 (turnS σ d)) (lossH 24 σ) i).1
                rw [if_neg c_74]
              rw [e81] at hl
              have e82 : (amin (fun d => lossH 24 (turnS σ d)) (lossH 24 σ) i).2 = (amin (fun d => lossH 24 (turnS σ d)) (lossH 24 σ) (i + 1)).2 := by
                show _ = (if (fun d => lossH 24 (turnS σ d)) i < (amin (fun d => lossH 24 (turnS σ d)) (lossH 24 σ) i).2 then (nI i, (fun d => lossH 24 (turnS σ d)) i) else amin (fun d => lossH 24 (turnS σ d)) (lossH 24 σ) i).2
                rw [if_neg c_74]
              rw [e82] at hl
              exact ih (i + 1) (by omega) (by omega) _ _ _ hP hD hS (lv_sub hl [2, 3, 4, 0] rfl)
          refine lv_if_ne (tgt := 69) hx hb dX2_turned_62 (by decide) (fun c_62 => ?_) (fun c_62 => ?_)
          · refine lv_iconst (v := 0) hx hb dX2_turned_69 (by decide) ?_
            exact x_top (show 0 = if (turnS σ i) 10 i = 0 then 1 else 0 by rw [if_neg c_62]) J70_1
          · refine lv_iconst (v := 1) hx hb dX2_turned_65 (by decide) ?_
            refine lv_goto (tgt := 70) hx hb dX2_turned_66 (by decide) ?_
            exact x_top (show 1 = if (turnS σ i) 10 i = 0 then 1 else 0 by rw [if_pos c_62]) J70_1
        refine lv_if_ne (tgt := 39) hx hb dX2_turned_32 (by decide) (fun c_32 => ?_) (fun c_32 => ?_)
        · refine lv_iconst (v := 0) hx hb dX2_turned_39 (by decide) ?_
          exact x_top (show 0 = if σ 10 i = 0 then 1 else 0 by rw [if_neg c_32]) J40_1
        · refine lv_iconst (v := 1) hx hb dX2_turned_35 (by decide) ?_
          refine lv_goto (tgt := 40) hx hb dX2_turned_36 (by decide) ?_
          exact x_top (show 1 = if σ 10 i = 0 then 1 else 0 by rw [if_pos c_32]) J40_1
  exact L13 (k + 1) 0 (by omega) (by omega) _ _ _ hP hD hS (lv_sub hl [3, 2, 1, 0] rfl)

abbrev rmX2_flooded : Room := { frames := 7, cells := 0, slots := 0, locals := 172 }
theorem b_X2_flooded : Cond.instanceMethod yX2_flooded ∈ LW ∧ Cond.selects RX2 yX2_flooded yX2_flooded ∈ LW ∧ Cond.initialized RX2 ∈ LW ∧ Cond.code yX2_flooded cX2_flooded 6 (some .int) ∈ LW := ⟨q889, q35, q40, q890⟩
set_option maxHeartbeats 4000000 in
set_option maxRecDepth 100000 in
theorem c_X2_flooded (l : Launch) (D : va_G) (cI cZ cL : ClassId) {n k : Nat} (o : Nat) (b : Nat → Nat) (σ : Sg) (κ ζ : Nat → Int32) (th : Int32) (hst : Shp n k σ) {B : Nat} (hB : Bnd B σ) (hB2 : B + 6300 < 2 ^ 29) (x : Nat) (hx5 : x ≤ 50) : MC l yX2_flooded cX2_flooded 6 (some .int) rmX2_flooded D (tZ cI cZ cL) [.ref o, .int (nI x)] (rC cI cZ o b σ κ ζ th) (rC cI cZ o b σ (kF κ (nowF σ) n) ζ th) (some (.int (floodB σ (nI x)))) := by
  refine MC.of (by decide) (Nat.le_of_ble_eq_true rfl) ?_
  intro p e s m args below meth c A ls Q hx hb hml hr hts hown hlocks hA hP hD hK hS hl hQ
  have hown : s.vm.findClass RX2 = some m.cls := hown
  have hn10 := hst.1
  have hk16 := hst.2.1
  have hl : lv_has ls 6 [(0, .ref o), (1, .int (nI x))] := hl
  refine lv_iconst (v := (-1)) hx hb dX2_flooded_0 (by decide) ?_
  refine lv_istore_n (lv' := [(2, .int (-1)), (0, .ref o), (1, .int (nI x))]) hx hb dX2_flooded_1 rfl hl (by decide) rfl (fun ls hl => ?_)
  refine lv_iconst (v := 0) hx hb dX2_flooded_2 (by decide) ?_
  refine lv_istore_n (lv' := [(3, .int 0), (2, .int (-1)), (0, .ref o), (1, .int (nI x))]) hx hb dX2_flooded_3 rfl hl (by decide) rfl (fun ls hl => ?_)
  refine lv_iconst (v := 0) hx hb dX2_flooded_4 (by decide) ?_
  refine lv_istore (lv' := [(4, .int 0), (3, .int 0), (2, .int (-1)), (0, .ref o), (1, .int (nI x))]) hx hb dX2_flooded_5 hl (by decide) rfl (fun ls hl => ?_)
  have hl : lv_has ls 6 [(4, .int (nI 0)), (3, .int ((aminF (fun f => lossH 24 (addW σ f (nI x))) 0).2)), (2, .int ((aminF (fun f => lossH 24 (addW σ f (nI x))) 0).1)), (0, .ref o), (1, .int (nI x))] := hl
  have L7 : ∀ (f i : Nat), i ≤ n → n < i + f → ∀ (H : Heap) (locs : List Loc) (ls : Array Slot), va_P D vwCl (rC cI cZ o b σ (kF κ (nowF σ) i) ζ th) H → va_D A (rC cI cZ o b σ (kF κ (nowF σ) i) ζ th) → va_S A s.heap H locs → lv_has ls 6 [(0, .ref o), (1, .int (nI x)), (2, .int ((aminF (fun f => lossH 24 (addW σ f (nI x))) i).1)), (3, .int ((aminF (fun f => lossH 24 (addW σ f (nI x))) i).2)), (4, .int (nI i))] → W p l e rmX2_flooded s m args below meth c H locs 0 0 Q (F0 m 7 ls []) := by
    intro f
    induction f with
    | zero => intro i h1 h2; exact absurd h2 (by omega)
    | succ f ih =>
      intro i hi_7 hf_7 H locs ls hP hD hS hl
      refine lv_iload hx hb dX2_flooded_7 (lv_at hl 4 rfl) ?_
      refine lv_aload_n hx hb dX2_flooded_9 rfl (lv_at hl 0 rfl) ?_
      refine x_get (C := RX2) (T := TX2) (N := 14) hx hb hts in_wsX20 hown hK hP 0 rfl rfl 1 (by decide) q593 (v := .int (nI n)) (congrArg (fun z => some (Value.int z)) (hst.f0)) dX2_flooded_10 ?_
      refine lv_icmp_ge (tgt := 53) hx hb dX2_flooded_13 (by decide) (fun c_13 => ?_) (fun c_13 => ?_)
      · have hc_13 : n ≤ i := (nI_leI (a := n) (b := i) (by omega) (by omega)).mp c_13
        refine lv_iload_n hx hb dX2_flooded_53 rfl (lv_at hl 2 rfl) ?_
        subst hQ
        exact ri hx hb hr hlocks hK hP hD hS dX2_flooded_54 (by rw [show i = n by omega]) (by unfold floodB; rw [hst.eF, show i = n by omega])
      · have hc_13 : i < n := Nat.not_le.mp (fun z => c_13 ((nI_leI (a := n) (b := i) (by omega) (by omega)).mpr z))
        refine lv_aload_n hx hb dX2_flooded_16 rfl (lv_at hl 0 rfl) ?_
        refine lv_bipush (v := 24) hx hb dX2_flooded_17 (by decide) ?_
        refine lv_iload hx hb dX2_flooded_19 (lv_at hl 4 rfl) ?_
        refine lv_iload_n hx hb dX2_flooded_21 rfl (lv_at hl 1 rfl) ?_
        refine MC.callV (C := RX2) (T := TX2) (N := 14) (As := [.int 24, .int (nI i), .int (nI x)]) (rest := []) (wB := rC cI cZ o b σ (nowF σ) ζ th) (c_X2_lostBehind_b l D cI cZ cL o b σ (kF κ (nowF σ) i) ζ th hst hB 24 (by omega) i (by omega) x hx5) ⟨hx, hb, hml, hown, hts⟩ q867 b_X2_lostBehind (n := 3) (by decide +kernel) ⟨Nat.le_of_ble_eq_true rfl, Nat.le_of_ble_eq_true rfl⟩ hK hP hD hS hA (sp0 _) (sp0 _) (ci := 2) rfl (q0 := 0) rfl rfl hl.1 rfl (Nat.le_of_ble_eq_true rfl) dX2_flooded_22 ⟨Nat.le_of_ble_eq_true rfl, Nat.le_of_ble_eq_true rfl⟩ (fun H locs hP hD hS => ?_)
        refine lv_istore (lv' := [(5, .int (lossH 24 (addW σ i (nI x)))), (0, .ref o), (1, .int (nI x)), (2, .int ((aminF (fun f => lossH 24 (addW σ f (nI x))) i).1)), (3, .int ((aminF (fun f => lossH 24 (addW σ f (nI x))) i).2)), (4, .int (nI i))]) hx hb dX2_flooded_25 hl (by decide) rfl (fun ls hl => ?_)
        refine lv_iload_n hx hb dX2_flooded_27 rfl (lv_at hl 3 rfl) ?_
        refine lv_iconst (v := (-1)) hx hb dX2_flooded_28 (by decide) ?_
        refine lv_icmp_eq (tgt := 41) hx hb dX2_flooded_29 (by decide) (fun c_29 => ?_) (fun c_29 => ?_)
        · refine lv_iload hx hb dX2_flooded_41 (lv_at hl 5 rfl) ?_
          refine lv_istore_n (lv' := [(2, .int (nI i)), (5, .int (lossH 24 (addW σ i (nI x)))), (0, .ref o), (1, .int (nI x)), (3, .int ((aminF (fun f => lossH 24 (addW σ f (nI x))) i).2)), (4, .int (nI i))]) hx hb dX2_flooded_43 rfl hl (by decide) rfl (fun ls hl => ?_)
          refine lv_iload hx hb dX2_flooded_44 (lv_at hl 1 rfl) ?_
          refine lv_istore_n (lv' := [(3, .int (lossH 24 (addW σ i (nI x)))), (2, .int (nI i)), (5, .int (lossH 24 (addW σ i (nI x)))), (0, .ref o), (1, .int (nI x)), (4, .int (nI i))]) hx hb dX2_flooded_46 rfl hl (by decide) rfl (fun ls hl => ?_)
          refine lv_iinc (v := (nI (i + 1))) (lv' := [(4, .int (nI (i + 1))), (3, .int (lossH 24 (addW σ i (nI x)))), (2, .int (nI i)), (5, .int (lossH 24 (addW σ i (nI x)))), (0, .ref o), (1, .int (nI x))]) hx hb dX2_flooded_47 hl (k := 5) rfl (nI_add i 1) (by decide) rfl (fun ls hl => ?_)
          refine lv_goto (tgt := 7) hx hb dX2_flooded_50 (by decide) ?_
          have e81 : (nI i) = (aminF (fun f => lossH 24 (addW σ f (nI x))) (i + 1)).1 := by
            show _ = (if (aminF (fun f => lossH 24 (addW σ f (nI x))) i).1 = -1 then (nI i, (fun f => lossH 24 (addW σ f (nI x))) i) else if (fun f => lossH 24 (addW σ f (nI x))) i < (aminF (fun f => lossH 24 (addW σ f (nI x))) i).2 then (nI i, (fun f => lossH 24 (addW σ f (nI x))) i) else aminF (fun f => lossH 24 (addW σ f (nI x))) i).1
            rw [if_pos c_29]
          rw [e81] at hl
          have e82 : lossH 24 (addW σ i (nI x)) = (aminF (fun f => lossH 24 (addW σ f (nI x))) (i + 1)).2 := by
            show _ = (if (aminF (fun f => lossH 24 (addW σ f (nI x))) i).1 = -1 then (nI i, (fun f => lossH 24 (addW σ f (nI x))) i) else if (fun f => lossH 24 (addW σ f (nI x))) i < (aminF (fun f => lossH 24 (addW σ f (nI x))) i).2 then (nI i, (fun f => lossH 24 (addW σ f (nI x))) i) else aminF (fun f => lossH 24 (addW σ f (nI x))) i).2
            rw [if_pos c_29]
          rw [e82] at hl
          exact ih (i + 1) (by omega) (by omega) _ _ _ hP hD hS (lv_sub hl [4, 5, 2, 1, 0] rfl)
        · refine lv_iload hx hb dX2_flooded_32 (lv_at hl 0 rfl) ?_
          refine lv_iload_n hx hb dX2_flooded_34 rfl (lv_at hl 4 rfl) ?_
          refine lv_icmp_lt (tgt := 41) hx hb dX2_flooded_35 (by decide) (fun c_35 => ?_) (fun c_35 => ?_)
          · refine lv_iload hx hb dX2_flooded_41 (lv_at hl 5 rfl) ?_
            refine lv_istore_n (lv' := [(2, .int (nI i)), (5, .int (lossH 24 (addW σ i (nI x)))), (0, .ref o), (1, .int (nI x)), (3, .int ((aminF (fun f => lossH 24 (addW σ f (nI x))) i).2)), (4, .int (nI i))]) hx hb dX2_flooded_43 rfl hl (by decide) rfl (fun ls hl => ?_)
            refine lv_iload hx hb dX2_flooded_44 (lv_at hl 1 rfl) ?_
            refine lv_istore_n (lv' := [(3, .int (lossH 24 (addW σ i (nI x)))), (2, .int (nI i)), (5, .int (lossH 24 (addW σ i (nI x)))), (0, .ref o), (1, .int (nI x)), (4, .int (nI i))]) hx hb dX2_flooded_46 rfl hl (by decide) rfl (fun ls hl => ?_)
            refine lv_iinc (v := (nI (i + 1))) (lv' := [(4, .int (nI (i + 1))), (3, .int (lossH 24 (addW σ i (nI x)))), (2, .int (nI i)), (5, .int (lossH 24 (addW σ i (nI x)))), (0, .ref o), (1, .int (nI x))]) hx hb dX2_flooded_47 hl (k := 5) rfl (nI_add i 1) (by decide) rfl (fun ls hl => ?_)
            refine lv_goto (tgt := 7) hx hb dX2_flooded_50 (by decide) ?_
            have e81 : (nI i) = (aminF (fun f => lossH 24 (addW σ f (nI x))) (i + 1)).1 := by
              show _ = (if (aminF (fun f => lossH 24 (addW σ f (nI x))) i).1 = -1 then (nI i, (fun f => lossH 24 (addW σ f (nI x))) i) else if (fun f => lossH 24 (addW σ f (nI x))) i < (aminF (fun f => lossH 24 (addW σ f (nI x))) i).2 then (nI i, (fun f => lossH 24 (addW σ f (nI x))) i) else aminF (fun f => lossH 24 (addW σ f (nI x))) i).1
              rw [if_neg c_29, if_pos c_35]
            rw [e81] at hl
            have e82 : lossH 24 (addW σ i (nI x)) = (aminF (fun f => lossH 24 (addW σ f (nI x))) (i + 1)).2 := by
              show _ = (if (aminF (fun f => lossH 24 (addW σ f (nI x))) i).1 = -1 then (nI i, (fun f => lossH 24 (addW σ f (nI x))) i) else if (fun f => lossH 24 (addW σ f (nI x))) i < (aminF (fun f => lossH 24 (addW σ f (nI x))) i).2 then (nI i, (fun f => lossH 24 (addW σ f (nI x))) i) else aminF (fun f => lossH 24 (addW σ f (nI x))) i).2
              rw [if_neg c_29, if_pos c_35]
            rw [e82] at hl
            exact ih (i + 1) (by omega) (by omega) _ _ _ hP hD hS (lv_sub hl [4, 5, 2, 1, 0] rfl)
          · refine lv_goto (tgt := 47) hx hb dX2_flooded_38 (by decide) ?_
            refine lv_iinc (v := (nI (i + 1))) (lv' := [(4, .int (nI (i + 1))), (5, .int (lossH 24 (addW σ i (nI x)))), (0, .ref o), (1, .int (nI x)), (2, .int ((aminF (fun f => lossH 24 (addW σ f (nI x))) i).1)), (3, .int ((aminF (fun f => lossH 24 (addW σ f (nI x))) i).2))]) hx hb dX2_flooded_47 hl (k := 5) rfl (nI_add i 1) (by decide) rfl (fun ls hl => ?_)
            refine lv_goto (tgt := 7) hx hb dX2_flooded_50 (by decide) ?_
            have e81 : (aminF (fun f => lossH 24 (addW σ f (nI x))) i).1 = (aminF (fun f => lossH 24 (addW σ f (nI x))) (i + 1)).1 := by
              show _ = (if (aminF (fun f => lossH 24 (addW σ f (nI x))) i).1 = -1 then (nI i, (fun f => lossH 24 (addW σ f (nI x))) i) else if (fun f => lossH 24 (addW σ f (nI x))) i < (aminF (fun f => lossH 24 (addW σ f (nI x))) i).2 then (nI i, (fun f => lossH 24 (addW σ f (nI x))) i) else aminF (fun f => lossH 24 (addW σ f (nI x))) i).1
              rw [if_neg c_29, if_neg c_35]
            rw [e81] at hl
            have e82 : (aminF (fun f => lossH 24 (addW σ f (nI x))) i).2 = (aminF (fun f => lossH 24 (addW σ f (nI x))) (i + 1)).2 := by
              show _ = (if (aminF (fun f => lossH 24 (addW σ f (nI x))) i).1 = -1 then (nI i, (fun f => lossH 24 (addW σ f (nI x))) i) else if (fun f => lossH 24 (addW σ f (nI x))) i < (aminF (fun f => lossH 24 (addW σ f (nI x))) i).2 then (nI i, (fun f => lossH 24 (addW σ f (nI x))) i) else aminF (fun f => lossH 24 (addW σ f (nI x))) i).2
              rw [if_neg c_29, if_neg c_35]
            rw [e82] at hl
            exact ih (i + 1) (by omega) (by omega) _ _ _ hP hD hS (lv_sub hl [2, 3, 4, 5, 0] rfl)
  exact L7 (n + 1) 0 (by omega) (by omega) _ _ _ hP hD hS (lv_sub hl [3, 4, 2, 1, 0] rfl)

abbrev rmX2_borne : Room := { frames := 7, cells := 0, slots := 0, locals := 172 }
theorem b_X2_borne : Cond.instanceMethod yX2_borne ∈ LW ∧ Cond.selects RX2 yX2_borne yX2_borne ∈ LW ∧ Cond.initialized RX2 ∈ LW ∧ Cond.code yX2_borne cX2_borne 4 (some .int) ∈ LW := ⟨q897, q36, q40, q898⟩
set_option maxHeartbeats 4000000 in
set_option maxRecDepth 100000 in
theorem c_X2_borne (l : Launch) (D : va_G) (cI cZ cL : ClassId) {n k : Nat} (o : Nat) (b : Nat → Nat) (σ : Sg) (κ ζ : Nat → Int32) (th : Int32) (hst : Shp n k σ) {B : Nat} (hB : Bnd B σ) (hB2 : B + 6300 < 2 ^ 29) : MC l yX2_borne cX2_borne 4 (some .int) rmX2_borne D (tZ cI cZ cL) [.ref o] (rC cI cZ o b σ κ ζ th) (rC cI cZ o b σ (nowF σ) ζ th) (some (.int (borneS σ))) := by
  refine MC.of (by decide) (Nat.le_of_ble_eq_true rfl) ?_
  intro p e s m args below meth c A ls Q hx hb hml hr hts hown hlocks hA hP hD hK hS hl hQ
  have hown : s.vm.findClass RX2 = some m.cls := hown
  have hn10 := hst.1
  have hk16 := hst.2.1
  have hl : lv_has ls 4 [(0, .ref o)] := hl
  refine lv_aload_n hx hb dX2_borne_0 rfl (lv_at hl 0 rfl) ?_
  refine x_get (C := RX2) (T := TX2) (N := 14) hx hb hts in_wsX20 hown hK hP 0 rfl rfl 3 (by decide) q595 (v := .int (σ 11 2)) rfl dX2_borne_1 ?_
  refine lv_istore_n (lv' := [(1, .int (σ 11 2)), (0, .ref o)]) hx hb dX2_borne_4 rfl hl (by decide) rfl (fun ls hl => ?_)
  refine lv_aload_n hx hb dX2_borne_5 rfl (lv_at hl 1 rfl) ?_
  refine MC.callV (C := RX2) (T := TX2) (N := 14) (As := []) (rest := []) (wB := rC cI cZ o b σ κ ζ th) (c_X2_lost l D cI cZ cL o b σ κ ζ th hst hB) ⟨hx, hb, hml, hown, hts⟩ q768 b_X2_lost (n := 0) (by decide +kernel) ⟨Nat.le_of_ble_eq_true rfl, Nat.le_of_ble_eq_true rfl⟩ hK hP hD hS hA (sp0 _) (sp0 _) (ci := 2) rfl (q0 := 0) rfl rfl hl.1 rfl (Nat.le_of_ble_eq_true rfl) dX2_borne_6 ⟨Nat.le_of_ble_eq_true rfl, Nat.le_of_ble_eq_true rfl⟩ (fun H locs hP hD hS => ?_)
  refine lv_istore_n (lv' := [(2, .int (lost σ)), (1, .int (σ 11 2)), (0, .ref o)]) hx hb dX2_borne_9 rfl hl (by decide) rfl (fun ls hl => ?_)
  refine lv_iconst (v := (-1)) hx hb dX2_borne_10 (by decide) ?_
  refine lv_istore_n (lv' := [(3, .int (-1)), (2, .int (lost σ)), (1, .int (σ 11 2)), (0, .ref o)]) hx hb dX2_borne_11 rfl hl (by decide) rfl (fun ls hl => ?_)
  refine lv_aload_n hx hb dX2_borne_12 rfl (lv_at hl 3 rfl) ?_
  refine lv_iconst (v := 0) hx hb dX2_borne_13 (by decide) ?_
  refine x_put (C := RX2) (T := TX2) (N := 14) (ws2 := rC cI cZ o b (rainS σ 0) (kF κ (nowF σ) 0) ζ th) hx hb hts in_wsX20 tyX2_ok nmX2 hown hK hP hD hS 0 rfl rfl 3 (by decide) q595 rfl (by decide +kernel) (Nat.le_of_ble_eq_true rfl) rfl dX2_borne_14 (fun H locs hP hD hS => ?_)
  have hl : lv_has ls 4 [(3, .int (lastI (fun i => lossH 24 (rainS σ i)) (lost σ) 0)), (2, .int (lost σ)), (1, .int (σ 11 2)), (0, .ref o)] := hl
  have L17 : ∀ (f i : Nat), i ≤ 10 → 10 < i + f → ∀ (H : Heap) (locs : List Loc) (ls : Array Slot), va_P D vwCl (rC cI cZ o b (rainS σ i) (kF κ (nowF σ) i) ζ th) H → va_D A (rC cI cZ o b (rainS σ i) (kF κ (nowF σ) i) ζ th) → va_S A s.heap H locs → lv_has ls 4 [(0, .ref o), (1, .int (σ 11 2)), (2, .int (lost σ)), (3, .int (lastI (fun i => lossH 24 (rainS σ i)) (lost σ) i))] → W p l e rmX2_borne s m args below meth c H locs 0 0 Q (F0 m 17 ls []) := by
    intro f
    induction f with
    | zero => intro i h1 h2; exact absurd h2 (by omega)
    | succ f ih =>
      intro i hi_17 hf_17 H locs ls hP hD hS hl
      refine lv_aload_n hx hb dX2_borne_17 rfl (lv_at hl 0 rfl) ?_
      refine x_get (C := RX2) (T := TX2) (N := 14) hx hb hts in_wsX20 hown hK hP 0 rfl rfl 3 (by decide) q595 (v := .int (nI i)) (congrArg (fun z => some (Value.int z)) (rfl)) dX2_borne_18 ?_
      refine lv_bipush (v := 9) hx hb dX2_borne_21 (by decide) ?_
      refine lv_icmp_gt (tgt := 56) hx hb dX2_borne_23 (by decide) (fun c_23 => ?_) (fun c_23 => ?_)
      · have hc_23 : 9 < i := (nI_ltI (a := 9) (b := i) (by omega) (by omega)).mp c_23
        refine lv_aload_n hx hb dX2_borne_56 rfl (lv_at hl 0 rfl) ?_
        refine lv_iload_n hx hb dX2_borne_57 rfl (lv_at hl 1 rfl) ?_
        refine x_put (C := RX2) (T := TX2) (N := 14) (ws2 := rC cI cZ o b (sc (rainS σ i) 2 (σ 11 2)) (kF κ (nowF σ) i) ζ th) hx hb hts in_wsX20 tyX2_ok nmX2 hown hK hP hD hS 0 rfl rfl 3 (by decide) q595 rfl (by decide +kernel) (Nat.le_of_ble_eq_true rfl) rfl dX2_borne_58 (fun H locs hP hD hS => ?_)
        refine lv_iload_n hx hb dX2_borne_61 rfl (lv_at hl 3 rfl) ?_
        subst hQ
        exact ri hx hb hr hlocks hK hP hD hS dX2_borne_62 (by rw [rain_rain, rain_back, show i = 10 by omega]; rfl) (by unfold borneS; rw [show i = 10 by omega])
      · have hc_23 : i ≤ 9 := Nat.not_lt.mp (fun z => c_23 ((nI_ltI (a := 9) (b := i) (by omega) (by omega)).mpr z))
        refine lv_aload_n hx hb dX2_borne_26 rfl (lv_at hl 0 rfl) ?_
        refine lv_bipush (v := 24) hx hb dX2_borne_27 (by decide) ?_
        refine lv_iconst (v := (-1)) hx hb dX2_borne_29 (by decide) ?_
        refine lv_iconst (v := 0) hx hb dX2_borne_30 (by decide) ?_
        refine MC.callV (C := RX2) (T := TX2) (N := 14) (As := [.int 24, .int (-1), .int 0]) (rest := []) (wB := rC cI cZ o b (rainS σ i) (nowF (rainS σ i)) ζ th) (c_X2_lostBehind_a l D cI cZ cL o b (rainS σ i) (kF κ (nowF σ) i) ζ th (hst.ra i) (hB.ra (by omega)) 24 (by omega) 0) ⟨hx, hb, hml, hown, hts⟩ q867 b_X2_lostBehind (n := 3) (by decide +kernel) ⟨Nat.le_of_ble_eq_true rfl, Nat.le_of_ble_eq_true rfl⟩ hK hP hD hS hA (sp0 _) (sp0 _) (ci := 2) rfl (q0 := 0) rfl rfl hl.1 rfl (Nat.le_of_ble_eq_true rfl) dX2_borne_31 ⟨Nat.le_of_ble_eq_true rfl, Nat.le_of_ble_eq_true rfl⟩ (fun H locs hP hD hS => ?_)
        rw [nowF_rain] at hP hD
        have hP : va_P D vwCl (rC cI cZ o b (rainS σ i) (kF κ (nowF σ) (i + 1)) ζ th) H := hP
        have hD : va_D A (rC cI cZ o b (rainS σ i) (kF κ (nowF σ) (i + 1)) ζ th) := hD
        refine lv_iload_n hx hb dX2_borne_34 rfl (lv_at hl 2 rfl) ?_
        refine lv_icmp_ne (tgt := 43) hx hb dX2_borne_35 (by decide) (fun c_35 => ?_) (fun c_35 => ?_)
        · refine lv_aload_n hx hb dX2_borne_43 rfl (lv_at hl 0 rfl) ?_
          refine lv_dup hx hb dX2_borne_44 rfl ?_
          refine x_get (C := RX2) (T := TX2) (N := 14) hx hb hts in_wsX20 hown hK hP 0 rfl rfl 3 (by decide) q595 (v := .int (nI i)) (congrArg (fun z => some (Value.int z)) (rfl)) dX2_borne_45 ?_
          refine lv_iconst (v := 1) hx hb dX2_borne_48 (by decide) ?_
          refine lv_iadd hx hb dX2_borne_49 ?_
          refine x_top (nI_add i 1) ?_
          refine x_put (C := RX2) (T := TX2) (N := 14) (ws2 := rC cI cZ o b (sc (rainS σ i) 2 (nI (i + 1))) (kF κ (nowF σ) (i + 1)) ζ th) hx hb hts in_wsX20 tyX2_ok nmX2 hown hK hP hD hS 0 rfl rfl 3 (by decide) q595 rfl (by decide +kernel) (Nat.le_of_ble_eq_true rfl) rfl dX2_borne_50 (fun H locs hP hD hS => ?_)
          refine lv_goto (tgt := 17) hx hb dX2_borne_53 (by decide) ?_
          have e8 : lastI (fun i => lossH 24 (rainS σ i)) (lost σ) i = lastI (fun i => lossH 24 (rainS σ i)) (lost σ) (i + 1) := by
            show _ = if (fun i => lossH 24 (rainS σ i)) i = lost σ then nI i else lastI (fun i => lossH 24 (rainS σ i)) (lost σ) i
            rw [if_neg c_35]
          rw [e8] at hl
          rw [show sc (rainS σ i) 2 (nI (i + 1)) = rainS σ (i + 1) from rain_rain σ i _] at hP hD
          exact ih (i + 1) (by omega) (by omega) _ _ _ hP hD hS (lv_sub hl [0, 1, 2, 3] rfl)
        · refine lv_aload_n hx hb dX2_borne_38 rfl (lv_at hl 0 rfl) ?_
          refine x_get (C := RX2) (T := TX2) (N := 14) hx hb hts in_wsX20 hown hK hP 0 rfl rfl 3 (by decide) q595 (v := .int (nI i)) (congrArg (fun z => some (Value.int z)) (rfl)) dX2_borne_39 ?_
          refine lv_istore_n (lv' := [(3, .int (nI i)), (0, .ref o), (1, .int (σ 11 2)), (2, .int (lost σ))]) hx hb dX2_borne_42 rfl hl (by decide) rfl (fun ls hl => ?_)
          refine lv_aload_n hx hb dX2_borne_43 rfl (lv_at hl 1 rfl) ?_
          refine lv_dup hx hb dX2_borne_44 rfl ?_
          refine x_get (C := RX2) (T := TX2) (N := 14) hx hb hts in_wsX20 hown hK hP 0 rfl rfl 3 (by decide) q595 (v := .int (nI i)) (congrArg (fun z => some (Value.int z)) (rfl)) dX2_borne_45 ?_
          refine lv_iconst (v := 1) hx hb dX2_borne_48 (by decide) ?_
          refine lv_iadd hx hb dX2_borne_49 ?_
          refine x_top (nI_add i 1) ?_
          refine x_put (C := RX2) (T := TX2) (N := 14) (ws2 := rC cI cZ o b (sc (rainS σ i) 2 (nI (i + 1))) (kF κ (nowF σ) (i + 1)) ζ th) hx hb hts in_wsX20 tyX2_ok nmX2 hown hK hP hD hS 0 rfl rfl 3 (by decide) q595 rfl (by decide +kernel) (Nat.le_of_ble_eq_true rfl) rfl dX2_borne_50 (fun H locs hP hD hS => ?_)
          refine lv_goto (tgt := 17) hx hb dX2_borne_53 (by decide) ?_
          have e8 : (nI i) = lastI (fun i => lossH 24 (rainS σ i)) (lost σ) (i + 1) := by
            show _ = if (fun i => lossH 24 (rainS σ i)) i = lost σ then nI i else lastI (fun i => lossH 24 (rainS σ i)) (lost σ) i
            rw [if_pos c_35]
          rw [e8] at hl
          rw [show sc (rainS σ i) 2 (nI (i + 1)) = rainS σ (i + 1) from rain_rain σ i _] at hP hD
          exact ih (i + 1) (by omega) (by omega) _ _ _ hP hD hS (lv_sub hl [1, 2, 3, 0] rfl)
  exact L17 (10 + 1) 0 (by omega) (by omega) _ _ _ hP hD hS (lv_sub hl [3, 2, 1, 0] rfl)
end
