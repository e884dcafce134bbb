section
/-- a private method of a class that the tables say can be made, by its rows of tables_1 -/
def lw_okq (q : MethodName × Nat) : Prop := (q.1.cls ≠ "java/lang/invoke/MethodHandle" ∧ q.1.cls ≠ "java/lang/invoke/VarHandle") ∧ Cond.instantiable q.1.cls q.2 ∈ tables_1 ∧ Cond.privateMethod q.1 ∈ tables_1 ∧ Cond.instanceMethod q.1 ∈ tables_1
theorem lw_p0 : lw_okq (⟨"java/lang/Throwable", "fillInStackTrace", "(I)Ljava/lang/Throwable;"⟩, 6) := ⟨⟨by decide +kernel, by decide +kernel⟩, List.mem_of_getElem? (i := 235) (by decide +kernel), List.mem_of_getElem? (i := 233) (by decide +kernel), List.mem_of_getElem? (i := 234) (by decide +kernel)⟩
theorem lw_p1 : lw_okq (⟨"MaterialBars$Pad", "take", "(I)Z"⟩, 3) := ⟨⟨by decide +kernel, by decide +kernel⟩, List.mem_of_getElem? (i := 25) (by decide +kernel), List.mem_of_getElem? (i := 297) (by decide +kernel), List.mem_of_getElem? (i := 298) (by decide +kernel)⟩
theorem lw_p2 : lw_okq (⟨"MaterialBars$Pad", "signHere", "()I"⟩, 3) := ⟨⟨by decide +kernel, by decide +kernel⟩, List.mem_of_getElem? (i := 25) (by decide +kernel), List.mem_of_getElem? (i := 301) (by decide +kernel), List.mem_of_getElem? (i := 302) (by decide +kernel)⟩
theorem lw_p3 : lw_okq (⟨"MaterialBars$Pad", "readClause", "(LMaterialBars$Method;)Z"⟩, 3) := ⟨⟨by decide +kernel, by decide +kernel⟩, List.mem_of_getElem? (i := 25) (by decide +kernel), List.mem_of_getElem? (i := 305) (by decide +kernel), List.mem_of_getElem? (i := 306) (by decide +kernel)⟩
theorem lw_p4 : lw_okq (⟨"MaterialBars$Pad", "readUse", "(LMaterialBars$Method;)Z"⟩, 3) := ⟨⟨by decide +kernel, by decide +kernel⟩, List.mem_of_getElem? (i := 25) (by decide +kernel), List.mem_of_getElem? (i := 309) (by decide +kernel), List.mem_of_getElem? (i := 310) (by decide +kernel)⟩
theorem lw_p5 : lw_okq (⟨"MaterialBars$Pad", "readNumber", "(II)I"⟩, 3) := ⟨⟨by decide +kernel, by decide +kernel⟩, List.mem_of_getElem? (i := 25) (by decide +kernel), List.mem_of_getElem? (i := 313) (by decide +kernel), List.mem_of_getElem? (i := 314) (by decide +kernel)⟩
theorem lw_p6 : lw_okq (⟨"MaterialBars$Pad", "readBar", "(LMaterialBars$Method;)Z"⟩, 3) := ⟨⟨by decide +kernel, by decide +kernel⟩, List.mem_of_getElem? (i := 25) (by decide +kernel), List.mem_of_getElem? (i := 320) (by decide +kernel), List.mem_of_getElem? (i := 321) (by decide +kernel)⟩
theorem lw_p7 : lw_okq (⟨"MaterialBars$Pad", "readNotBehind", "(LMaterialBars$Method;)Z"⟩, 3) := ⟨⟨by decide +kernel, by decide +kernel⟩, List.mem_of_getElem? (i := 25) (by decide +kernel), List.mem_of_getElem? (i := 327) (by decide +kernel), List.mem_of_getElem? (i := 328) (by decide +kernel)⟩
theorem lw_p8 : lw_okq (⟨"MaterialBars$Pad", "readAfter", "(LMaterialBars$Method;)Z"⟩, 3) := ⟨⟨by decide +kernel, by decide +kernel⟩, List.mem_of_getElem? (i := 25) (by decide +kernel), List.mem_of_getElem? (i := 331) (by decide +kernel), List.mem_of_getElem? (i := 332) (by decide +kernel)⟩
theorem lw_p9 : lw_okq (⟨"MaterialBars", "methodAt", "(I)LMaterialBars$Method;"⟩, 9) := ⟨⟨by decide +kernel, by decide +kernel⟩, List.mem_of_getElem? (i := 17) (by decide +kernel), List.mem_of_getElem? (i := 346) (by decide +kernel), List.mem_of_getElem? (i := 347) (by decide +kernel)⟩
theorem lw_p10 : lw_okq (⟨"MaterialBars", "pieceAt", "(I)LMaterialBars$Piece;"⟩, 9) := ⟨⟨by decide +kernel, by decide +kernel⟩, List.mem_of_getElem? (i := 17) (by decide +kernel), List.mem_of_getElem? (i := 384) (by decide +kernel), List.mem_of_getElem? (i := 385) (by decide +kernel)⟩
theorem lw_p11 : lw_okq (⟨"MaterialBars", "reasonAgainst", "(LMaterialBars$Piece;LMaterialBars$Method;II)I"⟩, 9) := ⟨⟨by decide +kernel, by decide +kernel⟩, List.mem_of_getElem? (i := 17) (by decide +kernel), List.mem_of_getElem? (i := 424) (by decide +kernel), List.mem_of_getElem? (i := 425) (by decide +kernel)⟩
theorem lw_p12 : lw_okq (⟨"MaterialBars", "lowestLacking", "(LMaterialBars$Method;)I"⟩, 9) := ⟨⟨by decide +kernel, by decide +kernel⟩, List.mem_of_getElem? (i := 17) (by decide +kernel), List.mem_of_getElem? (i := 439) (by decide +kernel), List.mem_of_getElem? (i := 440) (by decide +kernel)⟩
theorem lw_p13 : lw_okq (⟨"MaterialBars", "takeWhatGoes", "(LMaterialBars$Method;)V"⟩, 9) := ⟨⟨by decide +kernel, by decide +kernel⟩, List.mem_of_getElem? (i := 17) (by decide +kernel), List.mem_of_getElem? (i := 451) (by decide +kernel), List.mem_of_getElem? (i := 452) (by decide +kernel)⟩
theorem lw_p14 : lw_okq (⟨"MaterialBars", "goodAt", "(I)LMaterialBars$Good;"⟩, 9) := ⟨⟨by decide +kernel, by decide +kernel⟩, List.mem_of_getElem? (i := 17) (by decide +kernel), List.mem_of_getElem? (i := 477) (by decide +kernel), List.mem_of_getElem? (i := 478) (by decide +kernel)⟩
theorem lw_p15 : lw_okq (⟨"MaterialBars", "goodsOn", "(I)I"⟩, 9) := ⟨⟨by decide +kernel, by decide +kernel⟩, List.mem_of_getElem? (i := 17) (by decide +kernel), List.mem_of_getElem? (i := 505) (by decide +kernel), List.mem_of_getElem? (i := 506) (by decide +kernel)⟩
def lw_privs_1 : List (MethodName × Nat) := [(⟨"java/lang/Throwable", "fillInStackTrace", "(I)Ljava/lang/Throwable;"⟩, 6), (⟨"MaterialBars$Pad", "take", "(I)Z"⟩, 3), (⟨"MaterialBars$Pad", "signHere", "()I"⟩, 3), (⟨"MaterialBars$Pad", "readClause", "(LMaterialBars$Method;)Z"⟩, 3), (⟨"MaterialBars$Pad", "readUse", "(LMaterialBars$Method;)Z"⟩, 3), (⟨"MaterialBars$Pad", "readNumber", "(II)I"⟩, 3), (⟨"MaterialBars$Pad", "readBar", "(LMaterialBars$Method;)Z"⟩, 3), (⟨"MaterialBars$Pad", "readNotBehind", "(LMaterialBars$Method;)Z"⟩, 3), (⟨"MaterialBars$Pad", "readAfter", "(LMaterialBars$Method;)Z"⟩, 3), (⟨"MaterialBars", "methodAt", "(I)LMaterialBars$Method;"⟩, 9), (⟨"MaterialBars", "pieceAt", "(I)LMaterialBars$Piece;"⟩, 9), (⟨"MaterialBars", "reasonAgainst", "(LMaterialBars$Piece;LMaterialBars$Method;II)I"⟩, 9), (⟨"MaterialBars", "lowestLacking", "(LMaterialBars$Method;)I"⟩, 9), (⟨"MaterialBars", "takeWhatGoes", "(LMaterialBars$Method;)V"⟩, 9), (⟨"MaterialBars", "goodAt", "(I)LMaterialBars$Good;"⟩, 9), (⟨"MaterialBars", "goodsOn", "(I)I"⟩, 9)]
theorem lw_r1 : ∀ q ∈ lw_privs_1, lw_okq q := List.forall_mem_cons.mpr ⟨lw_p0, List.forall_mem_cons.mpr ⟨lw_p1, List.forall_mem_cons.mpr ⟨lw_p2, List.forall_mem_cons.mpr ⟨lw_p3, List.forall_mem_cons.mpr ⟨lw_p4, List.forall_mem_cons.mpr ⟨lw_p5, List.forall_mem_cons.mpr ⟨lw_p6, List.forall_mem_cons.mpr ⟨lw_p7, List.forall_mem_cons.mpr ⟨lw_p8, List.forall_mem_cons.mpr ⟨lw_p9, List.forall_mem_cons.mpr ⟨lw_p10, List.forall_mem_cons.mpr ⟨lw_p11, List.forall_mem_cons.mpr ⟨lw_p12, List.forall_mem_cons.mpr ⟨lw_p13, List.forall_mem_cons.mpr ⟨lw_p14, List.forall_mem_cons.mpr ⟨lw_p15, fun _ h => absurd h List.not_mem_nil⟩⟩⟩⟩⟩⟩⟩⟩⟩⟩⟩⟩⟩⟩⟩⟩
theorem lw_p16 : lw_okq (⟨"MaterialBars", "withAllAhead", "(I)I"⟩, 9) := ⟨⟨by decide +kernel, by decide +kernel⟩, List.mem_of_getElem? (i := 17) (by decide +kernel), List.mem_of_getElem? (i := 517) (by decide +kernel), List.mem_of_getElem? (i := 518) (by decide +kernel)⟩
theorem lw_p17 : lw_okq (⟨"MaterialBars", "eachMayBeDone", "(LMaterialBars$Piece;I)Z"⟩, 9) := ⟨⟨by decide +kernel, by decide +kernel⟩, List.mem_of_getElem? (i := 17) (by decide +kernel), List.mem_of_getElem? (i := 527) (by decide +kernel), List.mem_of_getElem? (i := 528) (by decide +kernel)⟩
theorem lw_p18 : lw_okq (⟨"MaterialBars", "mayBeDone", "(LMaterialBars$Piece;I)Z"⟩, 9) := ⟨⟨by decide +kernel, by decide +kernel⟩, List.mem_of_getElem? (i := 17) (by decide +kernel), List.mem_of_getElem? (i := 531) (by decide +kernel), List.mem_of_getElem? (i := 532) (by decide +kernel)⟩
theorem lw_p19 : lw_okq (⟨"MaterialBars", "putInOrder", "(II)Z"⟩, 9) := ⟨⟨by decide +kernel, by decide +kernel⟩, List.mem_of_getElem? (i := 17) (by decide +kernel), List.mem_of_getElem? (i := 535) (by decide +kernel), List.mem_of_getElem? (i := 536) (by decide +kernel)⟩
theorem lw_p20 : lw_okq (⟨"MaterialBars", "lowestThatMayComeNext", "(I)I"⟩, 9) := ⟨⟨by decide +kernel, by decide +kernel⟩, List.mem_of_getElem? (i := 17) (by decide +kernel), List.mem_of_getElem? (i := 539) (by decide +kernel), List.mem_of_getElem? (i := 540) (by decide +kernel)⟩
theorem lw_p21 : lw_okq (⟨"MaterialBars", "hasToWait", "(II)Z"⟩, 9) := ⟨⟨by decide +kernel, by decide +kernel⟩, List.mem_of_getElem? (i := 17) (by decide +kernel), List.mem_of_getElem? (i := 543) (by decide +kernel), List.mem_of_getElem? (i := 544) (by decide +kernel)⟩
theorem lw_p22 : lw_okq (⟨"MaterialBars", "rowsOfAll", "()I"⟩, 9) := ⟨⟨by decide +kernel, by decide +kernel⟩, List.mem_of_getElem? (i := 17) (by decide +kernel), List.mem_of_getElem? (i := 564) (by decide +kernel), List.mem_of_getElem? (i := 565) (by decide +kernel)⟩
theorem lw_p23 : lw_okq (⟨"MaterialBarsModel", "goes", "(ZZZ)Z"⟩, 27) := ⟨⟨by decide +kernel, by decide +kernel⟩, List.mem_of_getElem? (i := 568) (by decide +kernel), List.mem_of_getElem? (i := 666) (by decide +kernel), List.mem_of_getElem? (i := 667) (by decide +kernel)⟩
theorem lw_p24 : lw_okq (⟨"MaterialBarsModel", "fault", "()I"⟩, 27) := ⟨⟨by decide +kernel, by decide +kernel⟩, List.mem_of_getElem? (i := 568) (by decide +kernel), List.mem_of_getElem? (i := 674) (by decide +kernel), List.mem_of_getElem? (i := 675) (by decide +kernel)⟩
theorem lw_p25 : lw_okq (⟨"MaterialBarsModel", "isMethod", "(I)Z"⟩, 27) := ⟨⟨by decide +kernel, by decide +kernel⟩, List.mem_of_getElem? (i := 568) (by decide +kernel), List.mem_of_getElem? (i := 688) (by decide +kernel), List.mem_of_getElem? (i := 689) (by decide +kernel)⟩
theorem lw_p26 : lw_okq (⟨"MaterialBarsModel", "used", "(II)I"⟩, 27) := ⟨⟨by decide +kernel, by decide +kernel⟩, List.mem_of_getElem? (i := 568) (by decide +kernel), List.mem_of_getElem? (i := 695) (by decide +kernel), List.mem_of_getElem? (i := 696) (by decide +kernel)⟩
theorem lw_p27 : lw_okq (⟨"MaterialBarsModel", "isObject", "(I)Z"⟩, 27) := ⟨⟨by decide +kernel, by decide +kernel⟩, List.mem_of_getElem? (i := 568) (by decide +kernel), List.mem_of_getElem? (i := 707) (by decide +kernel), List.mem_of_getElem? (i := 708) (by decide +kernel)⟩
theorem lw_p28 : lw_okq (⟨"MaterialBarsModel", "why", "(IIII)I"⟩, 27) := ⟨⟨by decide +kernel, by decide +kernel⟩, List.mem_of_getElem? (i := 568) (by decide +kernel), List.mem_of_getElem? (i := 727) (by decide +kernel), List.mem_of_getElem? (i := 728) (by decide +kernel)⟩
theorem lw_p29 : lw_okq (⟨"MaterialBarsModel", "barred", "(II)I"⟩, 27) := ⟨⟨by decide +kernel, by decide +kernel⟩, List.mem_of_getElem? (i := 568) (by decide +kernel), List.mem_of_getElem? (i := 731) (by decide +kernel), List.mem_of_getElem? (i := 732) (by decide +kernel)⟩
theorem lw_p30 : lw_okq (⟨"MaterialBarsModel", "has", "(III)Z"⟩, 27) := ⟨⟨by decide +kernel, by decide +kernel⟩, List.mem_of_getElem? (i := 568) (by decide +kernel), List.mem_of_getElem? (i := 735) (by decide +kernel), List.mem_of_getElem? (i := 736) (by decide +kernel)⟩
theorem lw_p31 : lw_okq (⟨"MaterialBarsModel", "latest", "(II)I"⟩, 27) := ⟨⟨by decide +kernel, by decide +kernel⟩, List.mem_of_getElem? (i := 568) (by decide +kernel), List.mem_of_getElem? (i := 739) (by decide +kernel), List.mem_of_getElem? (i := 740) (by decide +kernel)⟩
def lw_privs_2 : List (MethodName × Nat) := [(⟨"MaterialBars", "withAllAhead", "(I)I"⟩, 9), (⟨"MaterialBars", "eachMayBeDone", "(LMaterialBars$Piece;I)Z"⟩, 9), (⟨"MaterialBars", "mayBeDone", "(LMaterialBars$Piece;I)Z"⟩, 9), (⟨"MaterialBars", "putInOrder", "(II)Z"⟩, 9), (⟨"MaterialBars", "lowestThatMayComeNext", "(I)I"⟩, 9), (⟨"MaterialBars", "hasToWait", "(II)Z"⟩, 9), (⟨"MaterialBars", "rowsOfAll", "()I"⟩, 9), (⟨"MaterialBarsModel", "goes", "(ZZZ)Z"⟩, 27), (⟨"MaterialBarsModel", "fault", "()I"⟩, 27), (⟨"MaterialBarsModel", "isMethod", "(I)Z"⟩, 27), (⟨"MaterialBarsModel", "used", "(II)I"⟩, 27), (⟨"MaterialBarsModel", "isObject", "(I)Z"⟩, 27), (⟨"MaterialBarsModel", "why", "(IIII)I"⟩, 27), (⟨"MaterialBarsModel", "barred", "(II)I"⟩, 27), (⟨"MaterialBarsModel", "has", "(III)Z"⟩, 27), (⟨"MaterialBarsModel", "latest", "(II)I"⟩, 27)]
theorem lw_r2 : ∀ q ∈ lw_privs_2, lw_okq q := List.forall_mem_cons.mpr ⟨lw_p16, List.forall_mem_cons.mpr ⟨lw_p17, List.forall_mem_cons.mpr ⟨lw_p18, List.forall_mem_cons.mpr ⟨lw_p19, List.forall_mem_cons.mpr ⟨lw_p20, List.forall_mem_cons.mpr ⟨lw_p21, List.forall_mem_cons.mpr ⟨lw_p22, List.forall_mem_cons.mpr ⟨lw_p23, List.forall_mem_cons.mpr ⟨lw_p24, List.forall_mem_cons.mpr ⟨lw_p25, List.forall_mem_cons.mpr ⟨lw_p26, List.forall_mem_cons.mpr ⟨lw_p27, List.forall_mem_cons.mpr ⟨lw_p28, List.forall_mem_cons.mpr ⟨lw_p29, List.forall_mem_cons.mpr ⟨lw_p30, List.forall_mem_cons.mpr ⟨lw_p31, fun _ h => absurd h List.not_mem_nil⟩⟩⟩⟩⟩⟩⟩⟩⟩⟩⟩⟩⟩⟩⟩⟩
theorem lw_p32 : lw_okq (⟨"MaterialBarsModel", "waits", "(IIII)Z"⟩, 27) := ⟨⟨by decide +kernel, by decide +kernel⟩, List.mem_of_getElem? (i := 568) (by decide +kernel), List.mem_of_getElem? (i := 743) (by decide +kernel), List.mem_of_getElem? (i := 744) (by decide +kernel)⟩
theorem lw_p33 : lw_okq (⟨"MaterialBarsModel", "hasPart", "(II)Z"⟩, 27) := ⟨⟨by decide +kernel, by decide +kernel⟩, List.mem_of_getElem? (i := 568) (by decide +kernel), List.mem_of_getElem? (i := 747) (by decide +kernel), List.mem_of_getElem? (i := 748) (by decide +kernel)⟩
theorem lw_p34 : lw_okq (⟨"MaterialBarsModel", "closed", "(I)I"⟩, 27) := ⟨⟨by decide +kernel, by decide +kernel⟩, List.mem_of_getElem? (i := 568) (by decide +kernel), List.mem_of_getElem? (i := 780) (by decide +kernel), List.mem_of_getElem? (i := 781) (by decide +kernel)⟩
theorem lw_p35 : lw_okq (⟨"MaterialBarsModel", "orders", "(II)Z"⟩, 27) := ⟨⟨by decide +kernel, by decide +kernel⟩, List.mem_of_getElem? (i := 568) (by decide +kernel), List.mem_of_getElem? (i := 784) (by decide +kernel), List.mem_of_getElem? (i := 785) (by decide +kernel)⟩
theorem lw_p36 : lw_okq (⟨"MaterialBarsModel", "methodsOf", "(II)I"⟩, 27) := ⟨⟨by decide +kernel, by decide +kernel⟩, List.mem_of_getElem? (i := 568) (by decide +kernel), List.mem_of_getElem? (i := 788) (by decide +kernel), List.mem_of_getElem? (i := 789) (by decide +kernel)⟩
theorem lw_p37 : lw_okq (⟨"MaterialBarsModel", "mayCome", "(III)Z"⟩, 27) := ⟨⟨by decide +kernel, by decide +kernel⟩, List.mem_of_getElem? (i := 568) (by decide +kernel), List.mem_of_getElem? (i := 792) (by decide +kernel), List.mem_of_getElem? (i := 793) (by decide +kernel)⟩
def lw_privs_3 : List (MethodName × Nat) := [(⟨"MaterialBarsModel", "waits", "(IIII)Z"⟩, 27), (⟨"MaterialBarsModel", "hasPart", "(II)Z"⟩, 27), (⟨"MaterialBarsModel", "closed", "(I)I"⟩, 27), (⟨"MaterialBarsModel", "orders", "(II)Z"⟩, 27), (⟨"MaterialBarsModel", "methodsOf", "(II)I"⟩, 27), (⟨"MaterialBarsModel", "mayCome", "(III)Z"⟩, 27)]
theorem lw_r3 : ∀ q ∈ lw_privs_3, lw_okq q := List.forall_mem_cons.mpr ⟨lw_p32, List.forall_mem_cons.mpr ⟨lw_p33, List.forall_mem_cons.mpr ⟨lw_p34, List.forall_mem_cons.mpr ⟨lw_p35, List.forall_mem_cons.mpr ⟨lw_p36, List.forall_mem_cons.mpr ⟨lw_p37, fun _ h => absurd h List.not_mem_nil⟩⟩⟩⟩⟩⟩
def lw_privs : List (MethodName × Nat) := lw_privs_1 ++ (lw_privs_2 ++ (lw_privs_3))
def lw_tbl : List Cond := k2_sels lw_privs ++ tables_1
theorem lw_privs_ok : ∀ q ∈ lw_privs, lw_okq q := by
  show ∀ q ∈ lw_privs_1 ++ (lw_privs_2 ++ (lw_privs_3)), lw_okq q
  exact List.forall_mem_append.mpr ⟨lw_r1, List.forall_mem_append.mpr ⟨lw_r2, lw_r3⟩⟩
end
section
/-! ===== BEGIN words of one list among another's, by their places ===== -/
theorem goodIn_r {big : List Cond} (ws : List Cond) (ps : List Nat) (hp : ws = ps.filterMap (fun i => big[i]?)) (h : ws.all goodWord = true) : GoodIn big ws := by
  intro w hw
  have h1 := List.all_eq_true.mp h w hw
  rw [hp] at hw
  obtain ⟨i, -, hi⟩ := List.mem_filterMap.mp hw
  have hm : w ∈ big := by first | exact List.mem_of_getElem? hi | exact List.getElem?_mem hi
  exact ⟨hm, good_of_word h1⟩
theorem goodIn_app {big a b : List Cond} (ha : GoodIn big a) (hb : GoodIn big b) : GoodIn big (a ++ b) := fun w h => (List.mem_append.mp h).elim (ha w) (hb w)
theorem goodIn_ca {big a b : List Cond} {c : Cond} (ha : GoodIn big (c :: a)) (hb : GoodIn big b) : GoodIn big (c :: (a ++ b)) := fun w h => (List.mem_cons.mp h).elim (fun e => ha w (List.mem_cons.mpr (Or.inl e))) (fun h => (List.mem_append.mp h).elim (fun h => ha w (List.mem_cons.mpr (Or.inr h))) (hb w))
theorem goodIn_sub {big ws : List Cond} (hm : ∀ w ∈ ws, w ∈ big) (h : ws.all goodWord = true) : GoodIn big ws := fun w hw => ⟨hm w hw, good_of_word (List.all_eq_true.mp h w hw)⟩
/-! ===== END ===== -/

/-! ===== BEGIN exceptions that leave a method, and their catching by the caller (launches without stack traces) ===== -/
section VXA
/-! The laws vx_back, vx_callV, vx_callS, vx_callSW, vx_throw0, vx_throwS follow proofs of the library, with one case more: JvmDerived/Free/Laws.lean (Back.of_free), Shelf42/LK1.lean (callV, callS), Shelf/KitTraced.lean (throwNew0V, throwNewS). -/
/-- where a method has thrown q: the class by its name, the cell, what was written, the world -/
def vx_T (XC : String → State → State → Prop) (st : State) (q : Addr) (t : State) (mc ms : Nat) (free : Addr → Prop) : Prop :=
  ∃ (E : String) (ce : Cell) (L : List Loc), XC E st t ∧ t.heap[q]? = some ce ∧ ce.vm = .none ∧ st.vm.findClass E = some ce.cls ∧ st.WarmedH t.vm ∧ st.sameButNew ({ t with vm := st.vm } : State) L mc ms ∧ ∀ z ∈ L, free z.base
def vx_Q (Qc : Array Value → State → Outcome → State → Prop) (XC : String → State → State → Prop) (mc ms : Nat) (free : Addr → Prop) : Array Value → State → Outcome → State → Prop := fun a st o t =>
  (Qc a st o t ∧ ∃ L, FrameEnd st o t L mc ms ∧ ∀ q ∈ L, free q.base) ∨ ∃ q, o = .threw q ∧ vx_T XC st q t mc ms free
/-- a callee that returns or throws -/
def vx_Met (l : Launch) (y : MethodName) (ws : List Cond) (rm : Room) (Pc : Array Value → State → Prop) (Qc : Array Value → State → Outcome → State → Prop) (XC : String → State → State → Prop) (mc ms : Nat) (free : Addr → Prop) : Prop :=
  MetFree l y (headSpec ws rm) Pc (fun _ _ _ _ _ => True) (vx_Q Qc XC mc ms free)
def vx_Post (XC : String → State → State → Prop) (mc ms : Nat) (free : Addr → Prop) : Pt → Array Value → Addr → Pt → Prop := fun A a q B =>
  ∃ (g : JFrame) (mk : MethodId) (t : State) (L : List Loc) (E : String) (ce : Cell), B.U.heap = t.heap ∧ B.U.vm = t.vm ∧ XC E (A.U.calling g mk a) t ∧ t.heap[q]? = some ce ∧ ce.vm = .none ∧ A.U.vm.findClass E = some ce.cls ∧ B.locs = A.locs ++ L ∧ (∀ z ∈ L, free z.base) ∧ B.cells = A.cells + mc ∧ B.slots = A.slots + ms
def vx_Back (l : Launch) (R : Room) (p : Program) (e : Env) (below : List Frame) (s : State) (sargs : Array Value) (y : MethodName) (len W9 : Nat)
    (Pre : Pt → Array Value → Prop) (Post : Pt → Array Value → Option Value → Pt → Prop) (PostX : Pt → Array Value → Addr → Pt → Prop) : Prop :=
  ∀ (m : MethodId) (meth : Method) (c : Code) (A : Pt) (g : JFrame) (ig : Instr) (mk : MethodId) (a : Array Value),
    Stand p l e R s m sargs below meth c A.U A.locs A.cells A.slots → g.method = m → g.locals.size = c.maxLocals → decode c.code g.pc = .ok (ig, len) →
    2 * g.monitorRoom + (g.stack.map fun v => v.category).sum ≤ W9 → A.U.methodNamed? y = some mk → Pre A a →
    (∃ (v : Option Value) (B : Pt), Stand p l e R s m sargs below meth c B.U B.locs B.cells B.slots ∧ Post A a v B ∧
      Steps p.tables e below (doInvoke e (A.U.setTop g) [] mk a).1 (B.U.setTop { g with pc := g.pc + len, stack := v.toList ++ g.stack })) ∨
    (∃ (q : Addr) (B : Pt), Stand p l e R s m sargs below meth c B.U B.locs B.cells B.slots ∧ PostX A a q B ∧
      Steps p.tables e below (doInvoke e (A.U.setTop g) [] mk a).1 ((B.U.setTop g).pushFrame (.throwing q)))
section Payer
variable {l : Launch} {R : Room} {p : Program} {e : Env} {below : List Frame} {s : State} {sargs : Array Value} {y : MethodName} {len W9 : Nat}
theorem vx_back {ws : List Cond} {rm : Room} {Pc : Array Value → State → Prop} {Qc : Array Value → State → Outcome → State → Prop} {XC : String → State → State → Prop} {mc ms : Nat} {free : Addr → Prop} {bytes : ByteArray} {maxL : Nat} {ret : Option FieldType}
    (hM : vx_Met l y ws rm Pc Qc XC mc ms free) (hblind : FrameBlind Pc) (hrc : rm.cells = mc) (hrs : rm.slots = ms)
    (hframes : rm.frames + 1 ≤ R.frames) (hlocals : W9 + (maxL + 11) + rm.locals ≤ R.locals)
    (hws : ∀ w ∈ ws, ∀ a' U, s.WarmedH U.vm → w.before a' U = true) (hcode : Cond.code y bytes maxL ret ∈ ws) (hinit : ∀ a' U, s.WarmedH U.vm → (Cond.initialized y.cls).before a' U = true) :
    vx_Back l R p e below s sargs y len W9 (PreOf R mc ms Pc) (PostOf Qc mc ms free) (vx_Post XC mc ms free) := by
  intro m meth c A g ig mk a X hg hsize hdg hW hn hp
  have h1 : (headSpec ws rm).pre.before a A.U = true := atoms_intro fun w hw => hws w hw _ _ X.warmed
  have h2 : (Cond.code y bytes maxL ret).before a A.U = true := hws _ hcode _ _ X.warmed
  have h3 : (Cond.initialized y.cls).before a A.U = true := hinit _ _ X.warmed
  have h4 : A.cells + (headSpec ws rm).room.cells ≤ R.cells := by rw [show (headSpec ws rm).room.cells = mc from hrc]; exact hp.1
  have h5 : A.slots + (headSpec ws rm).room.slots ≤ R.slots := by rw [show (headSpec ws rm).room.slots = ms from hrs]; exact hp.2.1
  have hPc : Pc a (A.U.calling g mk a) := hblind _ _ _ _ hp.2.2
  obtain ⟨U, Ls, c0, s0⟩ := A
  dsimp only [Pt.U, Pt.locs, Pt.cells, Pt.slots] at h1 h2 h3 h4 h5 X hn hPc ⊢
  obtain ⟨methY, cY, hmY, hcY, -, hlY, -, -, -, -⟩ := Cond.code_spec hn h2
  obtain ⟨kY, hkY, -⟩ := className_of_methodNamed hn
  have hinitY : kY.init = .initialized := Cond.initialized_spec (findClass_of_methodNamed hn) hkY h3
  have h : At U g.method c below := by rw [hg]; exact X.here
  have hlocals9 : W9 + (maxL + 11) + (headSpec ws rm).room.locals ≤ R.locals := hlocals
  have happ : (headSpec ws rm).appliesLoose y e.platform (U.calling g mk a) = true :=
    Spec.appliesLoose_calling (g := g) h hdg hn hkY hinitY
      (X.room_calling (g := g) (R' := (headSpec ws rm).room) hsize hmY hcY hframes (by rw [hlY]; omega) h4 h5) h1
  obtain ⟨mid, hmid⟩ := h.above
  have hfr : (U.setTop g).frames = (.java g :: mid) ++ below := by rw [State.frames_setTop' g h.top, hmid]; rfl
  obtain ⟨o, s₂, hsteps, -, hend, hq⟩ := Steps.callFree hM p X.admits X.cas X.clock (acts := []) hfr happ hPc trivial
  have hq' : vx_Q Qc XC mc ms free a (U.calling g mk a) o s₂ := hq
  rw [State.frames_setTop' g h.top] at hend
  obtain ⟨g₀, hg0⟩ := Option.isSome_iff_exists.mp h.top
  obtain ⟨r, hr⟩ := State.topJava?_eq_some.mp hg0
  have hr' : (({ U with heap := s₂.heap, slotsUsed := s₂.slotsUsed } : State).setVm s₂.vm).frames = .java g₀ :: r := hr
  rcases hq' with ⟨hqc, L, hfe, hL⟩ | ⟨q, rfl, E, ce, L, hx, hce, hcv, hcl, hW₂, hsm, hL⟩
  · obtain ⟨⟨v, rfl⟩, hW₂, e2, q2, q3, q4, q5, q6⟩ := id hfe
    have e3 : s₂ = ({ (U.calling g mk a).setFrames s₂.frames with heap := s₂.heap, slotsUsed := s₂.slotsUsed } : State).setVm s₂.vm := by
      have : s₂ = ({ s₂ with vm := (U.calling g mk a).vm } : State).setVm s₂.vm := rfl
      rw [e2] at this
      exact this
    obtain ⟨c₂, i₂, len₂, hc₂, hd₂, hf₂⟩ := hend
    have hW' : U.WarmedH s₂.vm := hW₂
    have hcc : c₂ = c := by
      have h1 : s₂.code? g.method = U.code? g.method := by
        rw [State.code?_eq, State.code?_eq, hW'.alike.method?]
      exact Option.some.inj (hc₂.symm.trans (h1.trans h.code))
    subst hcc
    have hlen : len₂ = len := by rw [hdg] at hd₂; cases hd₂; rfl
    subst hlen
    have hs₂ : s₂ = (({ U with heap := s₂.heap, slotsUsed := s₂.slotsUsed } : State).setVm s₂.vm).setTop { g with pc := g.pc + len₂, stack := v.toList ++ g.stack } := by
      refine e3.trans ?_
      rw [hf₂, State.calling_eq h.top, State.setFrames_setFrames, State.setTop_of_frames _ hr', hr]
      rfl
    have hsame : U.sameButNew ({ U with heap := s₂.heap, slotsUsed := s₂.slotsUsed } : State) L mc ms := by
      refine ⟨?_, q2, q3, q4, q5, q6⟩
      obtain ⟨t, ht, -⟩ := State.frames_cons hr
      show ({ U with heap := s₂.heap, slotsUsed := s₂.slotsUsed } : State) = { U.setFrames U.frames with heap := s₂.heap, slotsUsed := s₂.slotsUsed }
      rw [State.setFrames_self ht]
    subst hg
    refine Or.inl ⟨v, ⟨(({ U with heap := s₂.heap, slotsUsed := s₂.slotsUsed } : State).setVm s₂.vm), Ls ++ L, c0 + mc, s0 + ms⟩,
      ⟨X.admits, X.cas, X.clock, X.frames, X.room, X.hears, X.method, X.code, (X.here.setHeapUsed s₂.heap s₂.slotsUsed).setVm hW'.alike, X.tail, State.WarmedH.trans X.warmed hW', X.limits, X.bytes, X.same.trans (hsame.setVm s.vm)⟩,
      ⟨g, mk, s₂, L, rfl, rfl, hqc, rfl, hL, rfl, rfl⟩, ?_⟩
    show Steps p.tables e below _ ((({ U with heap := s₂.heap, slotsUsed := s₂.slotsUsed } : State).setVm s₂.vm).setTop { g with pc := g.pc + len₂, stack := v.toList ++ g.stack })
    rw [← hs₂]
    exact hsteps
  · obtain ⟨e2, q2, q3, q4, q5, q6⟩ := id hsm
    have e3 : s₂ = ({ (U.calling g mk a).setFrames s₂.frames with heap := s₂.heap, slotsUsed := s₂.slotsUsed } : State).setVm s₂.vm := by
      have : s₂ = ({ s₂ with vm := (U.calling g mk a).vm } : State).setVm s₂.vm := rfl
      rw [e2] at this
      exact this
    have hf₂ : s₂.frames = .throwing q :: .java g :: U.frames.tail := hend
    have hW' : U.WarmedH s₂.vm := hW₂
    have hs₂ : s₂ = ((({ U with heap := s₂.heap, slotsUsed := s₂.slotsUsed } : State).setVm s₂.vm).setTop g).pushFrame (.throwing q) := by
      refine e3.trans ?_
      rw [hf₂, State.calling_eq h.top, State.setFrames_setFrames, State.pushFrame, State.frames_setTop _ hr', State.setTop_of_frames _ hr', State.setFrames_setFrames, hr]
      rfl
    have hsame : U.sameButNew ({ U with heap := s₂.heap, slotsUsed := s₂.slotsUsed } : State) L mc ms := by
      refine ⟨?_, q2, q3, q4, q5, q6⟩
      obtain ⟨t, ht, -⟩ := State.frames_cons hr
      show ({ U with heap := s₂.heap, slotsUsed := s₂.slotsUsed } : State) = { U.setFrames U.frames with heap := s₂.heap, slotsUsed := s₂.slotsUsed }
      rw [State.setFrames_self ht]
    subst hg
    refine Or.inr ⟨q, ⟨(({ U with heap := s₂.heap, slotsUsed := s₂.slotsUsed } : State).setVm s₂.vm), Ls ++ L, c0 + mc, s0 + ms⟩,
      ⟨X.admits, X.cas, X.clock, X.frames, X.room, X.hears, X.method, X.code, (X.here.setHeapUsed s₂.heap s₂.slotsUsed).setVm hW'.alike, X.tail, State.WarmedH.trans X.warmed hW', X.limits, X.bytes, X.same.trans (hsame.setVm s.vm)⟩,
      ⟨g, mk, s₂, L, E, ce, rfl, rfl, hx, hce, hcv, hcl, rfl, hL, rfl, rfl⟩, ?_⟩
    show Steps p.tables e below _ (((({ U with heap := s₂.heap, slotsUsed := s₂.slotsUsed } : State).setVm s₂.vm).setTop g).pushFrame (.throwing q))
    rw [← hs₂]
    exact hsteps
end Payer
section Calls
variable {p : Program} {l : Launch} {e : Env} {R : Room} {s : State} {m : MethodId} {args : Array Value} {below : List Frame} {meth : Method} {c : Code} {T : State} {locs : List Loc} {cells slots : Nat}
theorem vx_callV (X : Stand p l e R s m args below meth c T locs cells slots) (hexec : p.tables.exec = Jvm.exec) {own C : String} {index : Nat} {y : MethodName} {bytes : ByteArray} {maxL : Nat} {ret : Option FieldType}
    (hown : s.vm.findClass own = some m.cls) (hlink : (Cond.methodLink own index y).before args s = true) (hinst : (Cond.instanceMethod y).before args s = true) (hsel : (Cond.selects C y y).before args s = true)
    (hcode : (Cond.code y bytes maxL ret).before args s = true) (hy : y.cls ≠ "java/lang/invoke/MethodHandle" ∧ y.cls ≠ "java/lang/invoke/VarHandle")
    {W9 : Nat} {Pre : Pt → Array Value → Prop} {Post : Pt → Array Value → Option Value → Pt → Prop} {PostX : Pt → Array Value → Addr → Pt → Prop} (hK : vx_Back l R p e below s args y 3 W9 Pre Post PostX)
    {b : Addr} {cellB : Cell} (hcell : T.heap[b]? = some cellB) (hobj : cellB.vm.isStatics = false) (hcls : s.vm.findClass C = some cellB.cls)
    {g : JFrame} (hg : g.method = m) (hsize : g.locals.size = c.maxLocals) {argsL rest : List Value} (hlen : ∀ sig, parseMethodDescriptor y.desc = some sig → argsL.length = sig.parameters.length)
    (hstack : g.stack = argsL.reverse ++ .ref b :: rest) (hW : 2 * g.monitorRoom + (rest.map fun v => v.category).sum ≤ W9) (hdg : decode c.code g.pc = .ok (.invokevirtual index, 3))
    (hpre : ∀ vm₁, s.WarmedH vm₁ → Pre ⟨T.setVm vm₁, locs, cells, slots⟩ (Value.ref b :: argsL).toArray) :
    (∃ (v : Option Value) (vm₁ : Vm) (B : Pt), s.WarmedH vm₁ ∧ Stand p l e R s m args below meth c B.U B.locs B.cells B.slots ∧ Post ⟨T.setVm vm₁, locs, cells, slots⟩ (Value.ref b :: argsL).toArray v B ∧
      ∀ target, Steps p.tables e below (B.U.setTop { g with pc := g.pc + 3, stack := v.toList ++ rest }) target → Steps p.tables e below (T.setTop g) target) ∨
    (∃ (q : Addr) (vm₁ : Vm) (B : Pt), s.WarmedH vm₁ ∧ Stand p l e R s m args below meth c B.U B.locs B.cells B.slots ∧ PostX ⟨T.setVm vm₁, locs, cells, slots⟩ (Value.ref b :: argsL).toArray q B ∧
      Steps p.tables e below (T.setTop g) ((B.U.setTop { g with stack := rest }).pushFrame (.throwing q))) := by
  obtain ⟨mk, methM, hnamed, hmethM, hstM, habM⟩ := Cond.instanceMethod_spec hinst
  obtain ⟨methM', cM, hmethM', -, -, -, -, -, -, hsigM⟩ := Cond.code_spec hnamed hcode
  cases hmethM.symm.trans hmethM'
  obtain ⟨c2, r2, m2, q1, q2, q3, q4, kP, hkP, hkPi⟩ := Cond.selects_spec hsel
  cases hcls.symm.trans q1
  cases (State.methodFound?_of_named hnamed hy).symm.trans q2
  cases hnamed.symm.trans q3
  have hselP : selectMethod e.platform s.vm cellB.cls mk = .method mk := by rw [Launch.admits_selectMethod X.admits]; exact q4
  obtain ⟨vm₁, X₁, hstep₁⟩ := X.invokevirtual hexec hown hlink hnamed hmethM hstM hkP hkPi hy (a := b) (cell := cellB) hcell
    (fun z h => by rw [h] at hobj; cases hobj) hselP hmethM habM hkP hkPi (g := g) hg (argsL := argsL) (rest := rest) (hlen _ hsigM) hstack hdg
  rcases hK m meth c ⟨T.setVm vm₁, locs, cells, slots⟩ { g with stack := rest } (.invokevirtual index) mk (Value.ref b :: argsL).toArray X₁ hg hsize hdg hW (X₁.named hnamed) (hpre vm₁ X₁.warmed) with ⟨v, B, X', hpost, hsteps⟩ | ⟨q, B, X', hpost, hsteps⟩
  · exact Or.inl ⟨v, vm₁, B, X₁.warmed, X', hpost, fun target h => hstep₁ _ fun acts => by rw [doInvoke_state]; exact hsteps.trans h⟩
  · exact Or.inr ⟨q, vm₁, B, X₁.warmed, X', hpost, hstep₁ _ fun acts => by rw [doInvoke_state]; exact hsteps⟩
theorem vx_callS (X : Stand p l e R s m args below meth c T locs cells slots) (hexec : p.tables.exec = Jvm.exec) {own : String} {index : Nat} {y : MethodName} {bytes : ByteArray} {maxL : Nat} {ret : Option FieldType}
    (hown : s.vm.findClass own = some m.cls) (hlink : (Cond.methodLink own index y).before args s = true) (hstat : (Cond.static y).before args s = true) (hinit : (Cond.initialized y.cls).before args s = true)
    (hcode : (Cond.code y bytes maxL ret).before args s = true) (hy : y.cls ≠ "java/lang/invoke/MethodHandle" ∧ y.cls ≠ "java/lang/invoke/VarHandle")
    {W9 : Nat} {Pre : Pt → Array Value → Prop} {Post : Pt → Array Value → Option Value → Pt → Prop} {PostX : Pt → Array Value → Addr → Pt → Prop} (hK : vx_Back l R p e below s args y 3 W9 Pre Post PostX)
    {g : JFrame} (hg : g.method = m) (hsize : g.locals.size = c.maxLocals) {argsL rest : List Value} (hlen : ∀ sig, parseMethodDescriptor y.desc = some sig → argsL.length = sig.parameters.length)
    (hstack : g.stack = argsL.reverse ++ rest) (hW : 2 * g.monitorRoom + (rest.map fun v => v.category).sum ≤ W9) (hdg : decode c.code g.pc = .ok (.invokestatic index, 3))
    (hpre : ∀ vm₁, s.WarmedH vm₁ → Pre ⟨T.setVm vm₁, locs, cells, slots⟩ argsL.toArray) :
    (∃ (v : Option Value) (vm₁ : Vm) (B : Pt), s.WarmedH vm₁ ∧ Stand p l e R s m args below meth c B.U B.locs B.cells B.slots ∧ Post ⟨T.setVm vm₁, locs, cells, slots⟩ argsL.toArray v B ∧
      ∀ target, Steps p.tables e below (B.U.setTop { g with pc := g.pc + 3, stack := v.toList ++ rest }) target → Steps p.tables e below (T.setTop g) target) ∨
    (∃ (q : Addr) (vm₁ : Vm) (B : Pt), s.WarmedH vm₁ ∧ Stand p l e R s m args below meth c B.U B.locs B.cells B.slots ∧ PostX ⟨T.setVm vm₁, locs, cells, slots⟩ argsL.toArray q B ∧
      Steps p.tables e below (T.setTop g) ((B.U.setTop { g with stack := rest }).pushFrame (.throwing q))) := by
  obtain ⟨mk, hnamed⟩ := Cond.code_named hcode
  obtain ⟨methM, cM, hmethM, -, -, -, -, -, -, hsigM⟩ := Cond.code_spec hnamed hcode
  have hstatic : methM.isStatic = true := Cond.static_spec hnamed hmethM hstat
  obtain ⟨kP, hkP, -⟩ := className_of_methodNamed hnamed
  have hinitP : kP.init = .initialized := Cond.initialized_spec (findClass_of_methodNamed hnamed) hkP hinit
  obtain ⟨vm₁, X₁, hstep₁⟩ := X.invokestatic hexec hown hlink hnamed hmethM hstatic hkP hinitP hy (g := g) hg (argsL := argsL) (rest := rest) (hlen _ hsigM) hstack hdg
  rcases hK m meth c ⟨T.setVm vm₁, locs, cells, slots⟩ { g with stack := rest } (.invokestatic index) mk argsL.toArray X₁ hg hsize hdg hW (X₁.named hnamed) (hpre vm₁ X₁.warmed) with ⟨v, B, X', hpost, hsteps⟩ | ⟨q, B, X', hpost, hsteps⟩
  · exact Or.inl ⟨v, vm₁, B, X₁.warmed, X', hpost, fun target h => hstep₁ _ fun acts => by rw [doInvoke_state]; exact hsteps.trans h⟩
  · exact Or.inr ⟨q, vm₁, B, X₁.warmed, X', hpost, hstep₁ _ fun acts => by rw [doInvoke_state]; exact hsteps⟩
end Calls
theorem vx_cls {s : State} {T : State} {vm₁ : Vm} {E : String} {k : ClassId} (hW : s.WarmedH vm₁) (h : (T.setVm vm₁).vm.findClass E = some k) : s.vm.findClass E = some k := by
  have h1 : vm₁.findClass E = some k := h
  rw [hW.alike.findClass] at h1
  exact h1
/-- the method's frame g, with q thrown over it -/
def vx_W (p : Program) (l : Launch) (e : Env) (R : Room) (s : State) (m : MethodId) (args : Array Value) (below : List Frame) (meth : Method) (c : Code) (H : Heap) (locs : List Loc) (cells slots : Nat) (Q : State → Prop) (g : JFrame) (q : Addr) : Prop :=
  ∀ T : State, T.heap = H → Stand p l e R s m args below meth c T locs cells slots → ∃ t, Steps p.tables e below ((T.setTop g).pushFrame (.throwing q)) t ∧ Q t
def vx_Run (p : Program) (l : Launch) (e : Env) (R : Room) (s : State) (m : MethodId) (args : Array Value) (below : List Frame) (meth : Method) (c : Code) (H : Heap) (locs : List Loc) (cells slots mc ms : Nat) (g : JFrame) (rest : List Value) (Qa : State → Outcome → State → Prop) (XC : String → State → State → Prop) (free : Addr → Prop) : Prop :=
  ∀ T : State, T.heap = H → Stand p l e R s m args below meth c T locs cells slots →
    (∃ (v : Option Value) (st₀ t T' : State) (L : List Loc), st₀.heap = H ∧ Stand p l e R s m args below meth c T' (locs ++ L) (cells + mc) (slots + ms) ∧ (∀ q ∈ L, free q.base) ∧ T'.heap = t.heap ∧ T'.vm = t.vm ∧ Qa st₀ (.returned v) t ∧
      Goes p e below T g T' { g with pc := g.pc + 3, stack := v.toList ++ rest }) ∨
    (∃ (q : Addr) (st₀ t T' : State) (L : List Loc) (E : String) (ce : Cell), st₀.heap = H ∧ Stand p l e R s m args below meth c T' (locs ++ L) (cells + mc) (slots + ms) ∧ (∀ z ∈ L, free z.base) ∧ T'.heap = t.heap ∧ T'.vm = t.vm ∧ XC E st₀ t ∧ t.heap[q]? = some ce ∧ ce.vm = .none ∧ s.vm.findClass E = some ce.cls ∧
      Steps p.tables e below (T.setTop g) ((T'.setTop { g with stack := rest }).pushFrame (.throwing q)))
def vx_X {S : Type} (px : S → Prop) (B : String → S → State → Prop) (A : Nat → Prop) : String → State → State → Prop := fun E st t => ∃ u : S, px u ∧ B E u t ∧ va_F A st t
section Runs
variable {p : Program} {l : Launch} {e : Env} {R : Room} {s : State} {m : MethodId} {args : Array Value} {below : List Frame} {meth : Method} {c : Code} {H : Heap} {locs : List Loc} {cells slots : Nat}
variable {y : MethodName} {bytes cc : ByteArray} {maxL nL mc ms n index : Nat} {ret : Option FieldType} {ws : List Cond} {rm : Room} {Pc : Array Value → State → Prop} {Qc : Array Value → State → Outcome → State → Prop} {XC : String → State → State → Prop} {free : Addr → Prop} {Ts : List Cond} {own C : String} {b : Addr} {As rest : List Value} {g : JFrame}
theorem vx_callBack (cb : CallB R s args own index y bytes maxL ret ws rm mc ms n) (hM : vx_Met l y ws rm Pc Qc XC mc ms free) (hbl : FrameBlind Pc) : vx_Back l R p e below s args y 3 8 (PreOf R mc ms Pc) (PostOf Qc mc ms free) (vx_Post XC mc ms free) := by
  obtain ⟨hrc, hrs, hfr, hlo, hws, hcw, -, hini, -⟩ := cb
  exact vx_back (bytes := bytes) (maxL := maxL) (ret := ret) hM hbl hrc hrs hfr hlo hws hcw (fun a' U hW => word_at hW (Or.inl (by first | rfl | simp [Cond.onTables, Cond.keeps, Cond.steady])) hini)
theorem vx_runV (S : CallFix p m c cc nL s args Ts own) (hM : vx_Met l y ws rm Pc Qc XC mc ms free) (cw : CallW R s args own C index y bytes maxL ret ws rm mc ms n) (hp : PreV s H C b Pc As)
    (hg : g.method = m) (hn : As.length = n) (hsize : g.locals.size = nL) (hstack : g.stack = As.reverse ++ .ref b :: rest) (hW : 2 * g.monitorRoom + (rest.map fun v => v.category).sum ≤ 8) (hdg : decode cc g.pc = .ok (.invokevirtual index, 3)) (hf : cells + mc ≤ R.cells ∧ slots + ms ≤ R.slots) :
    vx_Run p l e R s m args below meth c H locs cells slots mc ms g rest (Qc (Value.ref b :: As).toArray) XC free := by
  have hK : vx_Back l R p e below s args y 3 8 (PreOf R mc ms Pc) (PostOf Qc mc ms free) (vx_Post XC mc ms free) := vx_callBack cw.1 hM hp.1
  obtain ⟨⟨-, -, -, -, -, -, hcode, -, hy, hlen, hl⟩, hin, hse⟩ := cw
  obtain ⟨hx, hb, hml, ho, -⟩ := S
  obtain ⟨-, ⟨cellB, hcB, hoB, hclB⟩, hPc⟩ := hp
  intro T hT X
  rcases vx_callV X hx (C := C) (bytes := bytes) (maxL := maxL) (ret := ret) ho hl hin hse hcode hy hK (by rw [hT]; exact hcB) hoB hclB hg (hsize.trans hml.symm) (argsL := As) (rest := rest) (fun sig h => hn.trans (hlen sig h)) hstack hW (by rw [hb]; exact hdg)
    (fun vm₁ hW₁ => ⟨hf.1, hf.2, hPc (T.setVm vm₁) hT hW₁⟩) with ⟨v, vm₁, ⟨U', l2, c2, s2⟩, hW₁, X', ⟨g', mk, t, L, e1, e2, hq, h1, hL, h2, h3⟩, st⟩ | ⟨q, vm₁, ⟨U', l2, c2, s2⟩, hW₁, X', ⟨g', mk, t, L, E, ce, e1, e2, hq, hce, hcv, hcl, h1, hL, h2, h3⟩, st⟩
  · dsimp only [Pt.U, Pt.locs, Pt.cells, Pt.slots] at X' e1 e2 h1 h2 h3 st
    subst h1; subst h2; subst h3
    exact Or.inl ⟨v, (T.setVm vm₁).calling g' mk (Value.ref b :: As).toArray, t, U', L, hT, X', hL, e1, e2, hq, st⟩
  · dsimp only [Pt.U, Pt.locs, Pt.cells, Pt.slots] at X' e1 e2 h1 h2 h3 st hcl
    subst h1; subst h2; subst h3
    exact Or.inr ⟨q, (T.setVm vm₁).calling g' mk (Value.ref b :: As).toArray, t, U', L, E, ce, hT, X', hL, e1, e2, hq, hce, hcv, vx_cls hW₁ hcl, st⟩
theorem vx_runS (S : CallFix p m c cc nL s args Ts own) (hM : vx_Met l y ws rm Pc Qc XC mc ms free) (cw : CallB R s args own index y bytes maxL ret ws rm mc ms n ∧ (Cond.static y).before args s = true) (hp : PreS s H Pc As)
    (hg : g.method = m) (hn : As.length = n) (hsize : g.locals.size = nL) (hstack : g.stack = As.reverse ++ rest) (hW : 2 * g.monitorRoom + (rest.map fun v => v.category).sum ≤ 8) (hdg : decode cc g.pc = .ok (.invokestatic index, 3)) (hf : cells + mc ≤ R.cells ∧ slots + ms ≤ R.slots) :
    vx_Run p l e R s m args below meth c H locs cells slots mc ms g rest (Qc As.toArray) XC free := by
  have hK : vx_Back l R p e below s args y 3 8 (PreOf R mc ms Pc) (PostOf Qc mc ms free) (vx_Post XC mc ms free) := vx_callBack cw.1 hM hp.1
  obtain ⟨⟨-, -, -, -, -, -, hcode, hini, hy, hlen, hl⟩, hstt⟩ := cw
  obtain ⟨hx, hb, hml, ho, -⟩ := S
  intro T hT X
  rcases vx_callS X hx (bytes := bytes) (maxL := maxL) (ret := ret) ho hl hstt hini hcode hy hK hg (hsize.trans hml.symm) (argsL := As) (rest := rest) (fun sig h => hn.trans (hlen sig h)) hstack hW (by rw [hb]; exact hdg)
    (fun vm₁ hW₁ => ⟨hf.1, hf.2, hp.2 (T.setVm vm₁) hT hW₁⟩) with ⟨v, vm₁, ⟨U', l2, c2, s2⟩, hW₁, X', ⟨g', mk, t, L, e1, e2, hq, h1, hL, h2, h3⟩, st⟩ | ⟨q, vm₁, ⟨U', l2, c2, s2⟩, hW₁, X', ⟨g', mk, t, L, E, ce, e1, e2, hq, hce, hcv, hcl, h1, hL, h2, h3⟩, st⟩
  · dsimp only [Pt.U, Pt.locs, Pt.cells, Pt.slots] at X' e1 e2 h1 h2 h3 st
    subst h1; subst h2; subst h3
    exact Or.inl ⟨v, (T.setVm vm₁).calling g' mk As.toArray, t, U', L, hT, X', hL, e1, e2, hq, st⟩
  · dsimp only [Pt.U, Pt.locs, Pt.cells, Pt.slots] at X' e1 e2 h1 h2 h3 st hcl
    subst h1; subst h2; subst h3
    exact Or.inr ⟨q, (T.setVm vm₁).calling g' mk As.toArray, t, U', L, E, ce, hT, X', hL, e1, e2, hq, hce, hcv, vx_cls hW₁ hcl, st⟩
end Runs
section Rows
variable {p : Program} {l : Launch} {e : Env} {R : Room} {s : State} {m : MethodId} {args : Array Value} {below : List Frame} {meth : Method} {c : Code} {H : Heap} {locs : List Loc} {cells slots : Nat} {Q : State → Prop}
variable {mc ms : Nat} {free : Addr → Prop} {A0 A1 : Nat → Prop} {H0 : Heap} {a : Array Value} {pc : Nat} {ls : Array Slot} {st0 rest : List Value}
theorem vx_keep {st₀ t T' : State} {L : List Loc} (h0 : st₀.heap = H) (e1 : T'.heap = t.heap) (hS : va_S A0 H0 H locs) (hA : ∀ q, q < H.size → A1 q → A0 q) (hf : ∀ q, free q → A0 q) (hL : ∀ q ∈ L, free q.base) (hF : va_F A1 st₀ t) :
    H.size ≤ T'.heap.size ∧ (∀ q : Nat, q < H.size → ¬ A1 q → T'.heap[q]? = H[q]?) ∧ va_S A0 H0 T'.heap (locs ++ L) := by
  obtain ⟨hz, hk⟩ := hF
  rw [h0] at hz hk
  exact ⟨by rw [e1]; exact hz, fun q h1 h2 => by rw [e1]; exact hk q h1 h2,
    ⟨Nat.le_trans hS.1 (by rw [e1]; exact hz), fun q h1 h2 => by rw [e1, hk q (Nat.lt_of_lt_of_le h1 hS.1) (fun z => h2 (hA q (Nat.lt_of_lt_of_le h1 hS.1) z))]; exact hS.2.1 q h1 h2, fun q hq => by
      rcases List.mem_append.mp hq with h | h
      · exact hS.2.2 q h
      · exact hf _ (hL q h)⟩⟩
theorem vx_calli {S SX : Type} {post : Int32 → S → Prop} {px : SX → Prop} {B : S → State → Prop} {BX : String → SX → State → Prop} {AX : Nat → Prop} (hr : vx_Run p l e R s m args below meth c H locs cells slots mc ms (F0 m pc ls st0) rest (va_Qi post B A1 a) (vx_X px BX AX) free) (hS : va_S A0 H0 H locs) (hA : ∀ q, q < H.size → A1 q → A0 q) (hf : ∀ q, free q → A0 q) (hAX : ∀ q, q < H.size → AX q → A0 q)
    (kx : ∀ (E : String) (ce : Cell) (q9 : Addr) (u : SX) (t : State) (H1 : Heap) (locs1 : List Loc), t.heap = H1 → s.vm.Alike t.vm → px u → BX E u t → H.size ≤ H1.size → (∀ q : Nat, q < H.size → ¬ AX q → H1[q]? = H[q]?) → va_S A0 H0 H1 locs1 → H1[q9]? = some ce → ce.vm = .none → s.vm.findClass E = some ce.cls → vx_W p l e R s m args below meth c H1 locs1 (cells + mc) (slots + ms) Q (F0 m pc ls rest) q9)
    (kk : ∀ (r : Int32) (u : S) (t : State) (H1 : Heap) (locs1 : List Loc), t.heap = H1 → s.vm.Alike t.vm → post r u → B u t → H.size ≤ H1.size → (∀ q : Nat, q < H.size → ¬ A1 q → H1[q]? = H[q]?) → va_S A0 H0 H1 locs1 → W p l e R s m args below meth c H1 locs1 (cells + mc) (slots + ms) Q (F0 m (pc + 3) ls (.int r :: rest))) : W p l e R s m args below meth c H locs cells slots Q (F0 m pc ls st0) := by
  intro T hT X
  rcases hr T hT X with ⟨v, st₀, t, T', L, h0, X', hL, e1, e2, ⟨⟨r, u, hv, hp, hb⟩, hF⟩, st⟩ | ⟨q, st₀, t, T', L, E, ce, h0, X', hL, e1, e2, ⟨u, hp, hb, hF⟩, hce, hcv, hcl, st⟩
  · cases hv
    obtain ⟨k1, k2, k3⟩ := vx_keep h0 e1 hS hA hf hL hF
    obtain ⟨t2, a1, b1⟩ := kk r u t T'.heap (locs ++ L) e1.symm (by rw [← e2]; exact X'.warmed.alike) hp hb k1 k2 k3 T' rfl X'
    exact ⟨t2, st t2 a1, b1⟩
  · obtain ⟨k1, k2, k3⟩ := vx_keep h0 e1 hS hAX hf hL hF
    obtain ⟨t2, a1, b1⟩ := kx E ce q u t T'.heap (locs ++ L) e1.symm (by rw [← e2]; exact X'.warmed.alike) hp hb k1 k2 k3 (by rw [e1]; exact hce) hcv hcl T' rfl X'
    exact ⟨t2, st.trans a1, b1⟩
theorem vx_calll {S SX : Type} {post : Int64 → S → Prop} {px : SX → Prop} {B : S → State → Prop} {BX : String → SX → State → Prop} {AX : Nat → Prop} (hr : vx_Run p l e R s m args below meth c H locs cells slots mc ms (F0 m pc ls st0) rest (va_Ql post B A1 a) (vx_X px BX AX) free) (hS : va_S A0 H0 H locs) (hA : ∀ q, q < H.size → A1 q → A0 q) (hf : ∀ q, free q → A0 q) (hAX : ∀ q, q < H.size → AX q → A0 q)
    (kx : ∀ (E : String) (ce : Cell) (q9 : Addr) (u : SX) (t : State) (H1 : Heap) (locs1 : List Loc), t.heap = H1 → s.vm.Alike t.vm → px u → BX E u t → H.size ≤ H1.size → (∀ q : Nat, q < H.size → ¬ AX q → H1[q]? = H[q]?) → va_S A0 H0 H1 locs1 → H1[q9]? = some ce → ce.vm = .none → s.vm.findClass E = some ce.cls → vx_W p l e R s m args below meth c H1 locs1 (cells + mc) (slots + ms) Q (F0 m pc ls rest) q9)
    (kk : ∀ (r : Int64) (u : S) (t : State) (H1 : Heap) (locs1 : List Loc), t.heap = H1 → s.vm.Alike t.vm → post r u → B u t → H.size ≤ H1.size → (∀ q : Nat, q < H.size → ¬ A1 q → H1[q]? = H[q]?) → va_S A0 H0 H1 locs1 → W p l e R s m args below meth c H1 locs1 (cells + mc) (slots + ms) Q (F0 m (pc + 3) ls (.long r :: rest))) : W p l e R s m args below meth c H locs cells slots Q (F0 m pc ls st0) := by
  intro T hT X
  rcases hr T hT X with ⟨v, st₀, t, T', L, h0, X', hL, e1, e2, ⟨⟨r, u, hv, hp, hb⟩, hF⟩, st⟩ | ⟨q, st₀, t, T', L, E, ce, h0, X', hL, e1, e2, ⟨u, hp, hb, hF⟩, hce, hcv, hcl, st⟩
  · cases hv
    obtain ⟨k1, k2, k3⟩ := vx_keep h0 e1 hS hA hf hL hF
    obtain ⟨t2, a1, b1⟩ := kk r u t T'.heap (locs ++ L) e1.symm (by rw [← e2]; exact X'.warmed.alike) hp hb k1 k2 k3 T' rfl X'
    exact ⟨t2, st t2 a1, b1⟩
  · obtain ⟨k1, k2, k3⟩ := vx_keep h0 e1 hS hAX hf hL hF
    obtain ⟨t2, a1, b1⟩ := kx E ce q u t T'.heap (locs ++ L) e1.symm (by rw [← e2]; exact X'.warmed.alike) hp hb k1 k2 k3 (by rw [e1]; exact hce) hcv hcl T' rfl X'
    exact ⟨t2, st.trans a1, b1⟩
theorem vx_callf {S SX : Type} {post : UInt32 → S → Prop} {px : SX → Prop} {B : S → State → Prop} {BX : String → SX → State → Prop} {AX : Nat → Prop} (hr : vx_Run p l e R s m args below meth c H locs cells slots mc ms (F0 m pc ls st0) rest (va_Qf post B A1 a) (vx_X px BX AX) free) (hS : va_S A0 H0 H locs) (hA : ∀ q, q < H.size → A1 q → A0 q) (hf : ∀ q, free q → A0 q) (hAX : ∀ q, q < H.size → AX q → A0 q)
    (kx : ∀ (E : String) (ce : Cell) (q9 : Addr) (u : SX) (t : State) (H1 : Heap) (locs1 : List Loc), t.heap = H1 → s.vm.Alike t.vm → px u → BX E u t → H.size ≤ H1.size → (∀ q : Nat, q < H.size → ¬ AX q → H1[q]? = H[q]?) → va_S A0 H0 H1 locs1 → H1[q9]? = some ce → ce.vm = .none → s.vm.findClass E = some ce.cls → vx_W p l e R s m args below meth c H1 locs1 (cells + mc) (slots + ms) Q (F0 m pc ls rest) q9)
    (kk : ∀ (r : UInt32) (u : S) (t : State) (H1 : Heap) (locs1 : List Loc), t.heap = H1 → s.vm.Alike t.vm → post r u → B u t → H.size ≤ H1.size → (∀ q : Nat, q < H.size → ¬ A1 q → H1[q]? = H[q]?) → va_S A0 H0 H1 locs1 → W p l e R s m args below meth c H1 locs1 (cells + mc) (slots + ms) Q (F0 m (pc + 3) ls (.float r :: rest))) : W p l e R s m args below meth c H locs cells slots Q (F0 m pc ls st0) := by
  intro T hT X
  rcases hr T hT X with ⟨v, st₀, t, T', L, h0, X', hL, e1, e2, ⟨⟨r, u, hv, hp, hb⟩, hF⟩, st⟩ | ⟨q, st₀, t, T', L, E, ce, h0, X', hL, e1, e2, ⟨u, hp, hb, hF⟩, hce, hcv, hcl, st⟩
  · cases hv
    obtain ⟨k1, k2, k3⟩ := vx_keep h0 e1 hS hA hf hL hF
    obtain ⟨t2, a1, b1⟩ := kk r u t T'.heap (locs ++ L) e1.symm (by rw [← e2]; exact X'.warmed.alike) hp hb k1 k2 k3 T' rfl X'
    exact ⟨t2, st t2 a1, b1⟩
  · obtain ⟨k1, k2, k3⟩ := vx_keep h0 e1 hS hAX hf hL hF
    obtain ⟨t2, a1, b1⟩ := kx E ce q u t T'.heap (locs ++ L) e1.symm (by rw [← e2]; exact X'.warmed.alike) hp hb k1 k2 k3 (by rw [e1]; exact hce) hcv hcl T' rfl X'
    exact ⟨t2, st.trans a1, b1⟩
theorem vx_calld {S SX : Type} {post : UInt64 → S → Prop} {px : SX → Prop} {B : S → State → Prop} {BX : String → SX → State → Prop} {AX : Nat → Prop} (hr : vx_Run p l e R s m args below meth c H locs cells slots mc ms (F0 m pc ls st0) rest (va_Qd post B A1 a) (vx_X px BX AX) free) (hS : va_S A0 H0 H locs) (hA : ∀ q, q < H.size → A1 q → A0 q) (hf : ∀ q, free q → A0 q) (hAX : ∀ q, q < H.size → AX q → A0 q)
    (kx : ∀ (E : String) (ce : Cell) (q9 : Addr) (u : SX) (t : State) (H1 : Heap) (locs1 : List Loc), t.heap = H1 → s.vm.Alike t.vm → px u → BX E u t → H.size ≤ H1.size → (∀ q : Nat, q < H.size → ¬ AX q → H1[q]? = H[q]?) → va_S A0 H0 H1 locs1 → H1[q9]? = some ce → ce.vm = .none → s.vm.findClass E = some ce.cls → vx_W p l e R s m args below meth c H1 locs1 (cells + mc) (slots + ms) Q (F0 m pc ls rest) q9)
    (kk : ∀ (r : UInt64) (u : S) (t : State) (H1 : Heap) (locs1 : List Loc), t.heap = H1 → s.vm.Alike t.vm → post r u → B u t → H.size ≤ H1.size → (∀ q : Nat, q < H.size → ¬ A1 q → H1[q]? = H[q]?) → va_S A0 H0 H1 locs1 → W p l e R s m args below meth c H1 locs1 (cells + mc) (slots + ms) Q (F0 m (pc + 3) ls (.double r :: rest))) : W p l e R s m args below meth c H locs cells slots Q (F0 m pc ls st0) := by
  intro T hT X
  rcases hr T hT X with ⟨v, st₀, t, T', L, h0, X', hL, e1, e2, ⟨⟨r, u, hv, hp, hb⟩, hF⟩, st⟩ | ⟨q, st₀, t, T', L, E, ce, h0, X', hL, e1, e2, ⟨u, hp, hb, hF⟩, hce, hcv, hcl, st⟩
  · cases hv
    obtain ⟨k1, k2, k3⟩ := vx_keep h0 e1 hS hA hf hL hF
    obtain ⟨t2, a1, b1⟩ := kk r u t T'.heap (locs ++ L) e1.symm (by rw [← e2]; exact X'.warmed.alike) hp hb k1 k2 k3 T' rfl X'
    exact ⟨t2, st t2 a1, b1⟩
  · obtain ⟨k1, k2, k3⟩ := vx_keep h0 e1 hS hAX hf hL hF
    obtain ⟨t2, a1, b1⟩ := kx E ce q u t T'.heap (locs ++ L) e1.symm (by rw [← e2]; exact X'.warmed.alike) hp hb k1 k2 k3 (by rw [e1]; exact hce) hcv hcl T' rfl X'
    exact ⟨t2, st.trans a1, b1⟩
theorem vx_callv {S SX : Type} {post : S → Prop} {px : SX → Prop} {B : S → State → Prop} {BX : String → SX → State → Prop} {AX : Nat → Prop} (hr : vx_Run p l e R s m args below meth c H locs cells slots mc ms (F0 m pc ls st0) rest (va_Qv post B A1 a) (vx_X px BX AX) free) (hS : va_S A0 H0 H locs) (hA : ∀ q, q < H.size → A1 q → A0 q) (hf : ∀ q, free q → A0 q) (hAX : ∀ q, q < H.size → AX q → A0 q)
    (kx : ∀ (E : String) (ce : Cell) (q9 : Addr) (u : SX) (t : State) (H1 : Heap) (locs1 : List Loc), t.heap = H1 → s.vm.Alike t.vm → px u → BX E u t → H.size ≤ H1.size → (∀ q : Nat, q < H.size → ¬ AX q → H1[q]? = H[q]?) → va_S A0 H0 H1 locs1 → H1[q9]? = some ce → ce.vm = .none → s.vm.findClass E = some ce.cls → vx_W p l e R s m args below meth c H1 locs1 (cells + mc) (slots + ms) Q (F0 m pc ls rest) q9)
    (kk : ∀ (u : S) (t : State) (H1 : Heap) (locs1 : List Loc), t.heap = H1 → s.vm.Alike t.vm → post u → B u t → H.size ≤ H1.size → (∀ q : Nat, q < H.size → ¬ A1 q → H1[q]? = H[q]?) → va_S A0 H0 H1 locs1 → W p l e R s m args below meth c H1 locs1 (cells + mc) (slots + ms) Q (F0 m (pc + 3) ls (rest))) : W p l e R s m args below meth c H locs cells slots Q (F0 m pc ls st0) := by
  intro T hT X
  rcases hr T hT X with ⟨v, st₀, t, T', L, h0, X', hL, e1, e2, ⟨⟨u, hv, hp, hb⟩, hF⟩, st⟩ | ⟨q, st₀, t, T', L, E, ce, h0, X', hL, e1, e2, ⟨u, hp, hb, hF⟩, hce, hcv, hcl, st⟩
  · cases hv
    obtain ⟨k1, k2, k3⟩ := vx_keep h0 e1 hS hA hf hL hF
    obtain ⟨t2, a1, b1⟩ := kk u t T'.heap (locs ++ L) e1.symm (by rw [← e2]; exact X'.warmed.alike) hp hb k1 k2 k3 T' rfl X'
    exact ⟨t2, st t2 a1, b1⟩
  · obtain ⟨k1, k2, k3⟩ := vx_keep h0 e1 hS hAX hf hL hF
    obtain ⟨t2, a1, b1⟩ := kx E ce q u t T'.heap (locs ++ L) e1.symm (by rw [← e2]; exact X'.warmed.alike) hp hb k1 k2 k3 (by rw [e1]; exact hce) hcv hcl T' rfl X'
    exact ⟨t2, st.trans a1, b1⟩
/-- caught by the row x of this method's table; the rows ahead don't take it -/
theorem vx_catch {own name : String} {E : String} {ce : Cell} {q : Addr} (hown : s.vm.findClass own = some m.cls) (pre : List ExceptionTableEntry) (x : ExceptionTableEntry) (suf : List ExceptionTableEntry) (hsplit : c.exceptionTable.toList = pre ++ x :: suf)
    (hpass : ∀ z ∈ pre, covers z pc = false ∨ (z.catchType ≠ 0 ∧ ∃ nm : String, (Cond.classLink own z.catchType nm).before args s = true ∧ va_Nc E nm s)) (hx : covers x pc = true) (h0 : x.catchType ≠ 0)
    (hlink : (Cond.classLink own x.catchType name).before args s = true) (hcast : (Cond.castable E name).before args s = true) (hcell : H[q]? = some ce) (hv : ce.vm = .none) (hcl : s.vm.findClass E = some ce.cls)
    (kk : W p l e R s m args below meth c H locs cells slots Q (F0 m x.handlerPc ls [.ref q])) : vx_W p l e R s m args below meth c H locs cells slots Q (F0 m pc ls rest) q := by
  intro T hT X
  have hpl : e.platform.magicAccessors = ({} : Platform).magicAccessors := by rw [X.admits.platform]
  obtain ⟨c3, c4, hc3, hc4, hasg⟩ := Cond.castable_spec hcast
  cases Option.some.inj (hc3.symm.trans hcl)
  obtain ⟨c5, hc5, hcl5⟩ := Cond.classLink_spec hown hlink e.platform hpl
  cases Option.some.inj (hc4.symm.trans hc5)
  obtain ⟨vm', X', st⟩ := X.thenCaughtThrough q (g := F0 m pc ls rest) rfl (Steps.refl _) (by rw [hT]; exact hcell) (by rw [hv]; rfl) (by obtain ⟨k9, h9, -⟩ := Vm.findClass_spec hcl; exact ⟨k9, h9⟩) pre x suf hsplit
    (fun z hz => by
      rcases hpass z hz with h | ⟨hz0, nm, hl1, hn1⟩
      · exact Or.inl h
      · obtain ⟨c6, hc6, hcl6⟩ := Cond.classLink_spec hown hl1 e.platform hpl
        obtain ⟨a8, b8, h1, h2, h3⟩ := hn1
        cases Option.some.inj (h1.symm.trans hcl)
        cases Option.some.inj (h2.symm.trans hc6)
        exact Or.inr ⟨hz0, _, hcl6, h3⟩) hx (Or.inr ⟨h0, c4, hcl5, hasg⟩)
  obtain ⟨t, a1, b1⟩ := kk (T.setVm vm') hT X'
  exact ⟨t, st.trans a1, b1⟩
end Rows
section Ends
variable {p : Program} {l : Launch} {e : Env} {R : Room} {s : State} {m : MethodId} {args : Array Value} {below : List Frame} {meth : Method} {c : Code} {H : Heap} {locs : List Loc} {cells slots : Nat} {Q : State → Prop}
variable {mc ms : Nat} {free : Addr → Prop} {A0 A1 : Nat → Prop} {H0 : Heap} {a : Array Value} {ls : Array Slot} {st0 rest : List Value}
variable {Qc : Array Value → State → Outcome → State → Prop} {XC : String → State → State → Prop}
/-- what a body that may throw owes at its end -/
def vx_MQ (below : List Frame) (Qc : Array Value → State → Outcome → State → Prop) (XC : String → State → State → Prop) (a : Array Value) (s : State) (mc ms : Nat) (free : Addr → Prop) : State → Prop := fun t =>
  ∃ o, t.status = .running ∧ Ended t below o ∧ vx_Q Qc XC mc ms free a s o t
theorem vx_ret {g : JFrame} {mc ms : Nat} (k : W p l e R s m args below meth c H locs cells slots (MQ below Qc args s mc ms free) g) : W p l e R s m args below meth c H locs cells slots (vx_MQ below Qc XC args s mc ms free) g := by
  intro T hT X
  obtain ⟨t, a1, o, b1, b2, b3, b4⟩ := k T hT X
  exact ⟨t, a1, o, b1, b2, Or.inl ⟨b3, b4⟩⟩
/-- not caught here: it goes on to the caller -/
theorem vx_widen {g : JFrame} {q : Addr} {k n : Nat} (h1 : cells ≤ k) (h2 : slots ≤ n) (kk : vx_W p l e R s m args below meth c H locs k n Q g q) : vx_W p l e R s m args below meth c H locs cells slots Q g q := fun T hT X => kk T hT (stand_widen X h1 h2)
theorem vx_out {pc : Nat} {E : String} {ce : Cell} {q : Addr} {mc ms : Nat} (hout : ∀ x ∈ c.exceptionTable.toList, covers x pc = false) (hlocks : meth.locks = false) (hcell : H[q]? = some ce) (hv : ce.vm = .none) (hcl : s.vm.findClass E = some ce.cls)
    (hx : ∀ t : State, t.heap = H → s.vm.Alike t.vm → XC E s t) (hf : ∀ z ∈ locs, free z.base) (hc : cells ≤ mc) (hs : slots ≤ ms) :
    vx_W p l e R s m args below meth c H locs cells slots (vx_MQ below Qc XC args s mc ms free) (F0 m pc ls rest) q := by
  intro T hT X
  obtain ⟨st1, hrun, hend, hW, hsm⟩ := X.leaveThrown q (g := F0 m pc ls rest) rfl rfl rfl hout hlocks
  have hcell9 : (T.setFrames (.throwing q :: below)).heap[q]? = some ce := by
    show T.heap[q]? = some ce
    rw [hT]; exact hcell
  exact ⟨_, st1, .threw q, hrun, hend, Or.inr ⟨q, rfl, E, ce, locs, hx _ hT hW.alike, hcell9, hv, hcl, hW, hsm.mono hc hs, hf⟩⟩
theorem vx_frame {U : State} {k n : Nat} (h : s.sameButNew ({ U with vm := s.vm } : State) locs k n) : s.heap.size ≤ U.heap.size ∧ ∀ q : Nat, q < s.heap.size → (∀ z ∈ locs, z.base ≠ q) → U.heap[q]? = s.heap[q]? := by
  obtain ⟨-, h2, -, -, -, h6⟩ := h
  refine ⟨h2, fun q hq hz => ?_⟩
  obtain ⟨c9, e1, e2, e3, e4⟩ := h6 q _ (Array.getElem?_eq_getElem hq)
  have hs : c9.slots = (s.heap[q]).slots := Array.ext_getElem? fun i => e4 i fun hm => hz _ hm rfl
  have h9 : c9 = s.heap[q] := by
    rw [hs] at e2
    exact e2
  have e5 : U.heap[q]? = some c9 := e1
  rw [e5, h9, Array.getElem?_eq_getElem hq]
/-- the words of a throw but the four that speak of the heap -/
def vx_no (w : Cond) : Bool := decide (w ≠ .isRef (.static Bundle.tN "UNASSIGNED_STACK" Bundle.steD)) && decide (w ≠ .isRef (.static Bundle.tN "SUPPRESSED_SENTINEL" Bundle.listD)) && decide (w ≠ .laysStatic Bundle.tN "UNASSIGNED_STACK" Bundle.steD) && decide (w ≠ .laysStatic Bundle.tN "SUPPRESSED_SENTINEL" Bundle.listD)
def vx_at0 (own : String) (ic : Nat) (X : String) (names : List String) : List Cond := (Bundle.ownAtoms0 own ic X names).filter vx_no
def vx_atS (own : String) (ic : Nat) (X : String) (names : List String) : List Cond := (Bundle.ownAtoms own ic X names).filter vx_no
/-- a word that the tables alone decide, or a good one -/
def vx_ot (w : Cond) : Bool := w.onTables || goodWord w
theorem vx_ot_at {args a' : Array Value} {s U : State} {w : Cond} (hW : s.WarmedH U.vm) (hvm : s.vm = U.vm) (hg : vx_ot w = true) (h : w.before args s = true) : w.before a' U = true := by
  simp only [vx_ot, Bool.or_eq_true] at hg
  rcases hg with hg | hg
  · exact va_tabs hg hvm h
  · exact word_at hW (good_of_word hg) h
/-- a list's words: the good ones out of the method's own list, the others by premises of their own -/
theorem vx_hat {args : Array Value} {s : State} {L B : List Cond} (h1 : ∀ w ∈ L.filter goodWord, w.before args s = true) (h2 : ∀ w ∈ L.filter (fun w => !goodWord w), w ∈ B) (h3 : ∀ w ∈ B, w.before args s = true) : ∀ w ∈ L, w.before args s = true := by
  intro w hw
  by_cases g : goodWord w = true
  · exact h1 w (List.mem_filter.mpr ⟨hw, g⟩)
  · refine h3 w (h2 w (List.mem_filter.mpr ⟨hw, ?_⟩))
    show (!goodWord w) = true
    cases hgw : goodWord w
    · rfl
    · exact absurd hgw g
theorem vx_c {args : Array Value} {s : State} {w : Cond} {B : List Cond} (h : w.before args s = true) (t : ∀ w ∈ B, w.before args s = true) : ∀ w' ∈ w :: B, w'.before args s = true := fun w' h' => (List.mem_cons.mp h').elim (fun e => by rw [e]; exact h) (t w')
theorem vx_n {args : Array Value} {s : State} : ∀ w ∈ ([] : List Cond), w.before args s = true := fun _ h => nomatch h
theorem vx_own {args : Array Value} {s : State} {L : List Cond} (h1 : ∀ w ∈ L.filter vx_no, w.before args s = true)
    (hU : (Cond.isRef (.static Bundle.tN "UNASSIGNED_STACK" Bundle.steD)).before args s = true) (hN : (Cond.isRef (.static Bundle.tN "SUPPRESSED_SENTINEL" Bundle.listD)).before args s = true)
    (lU : (Cond.laysStatic Bundle.tN "UNASSIGNED_STACK" Bundle.steD).before args s = true) (lN : (Cond.laysStatic Bundle.tN "SUPPRESSED_SENTINEL" Bundle.listD).before args s = true) : ∀ w ∈ L, w.before args s = true := by
  intro w hw
  by_cases e1 : w = .isRef (.static Bundle.tN "UNASSIGNED_STACK" Bundle.steD)
  · rw [e1]; exact hU
  · by_cases e2 : w = .isRef (.static Bundle.tN "SUPPRESSED_SENTINEL" Bundle.listD)
    · rw [e2]; exact hN
    · by_cases e3 : w = .laysStatic Bundle.tN "UNASSIGNED_STACK" Bundle.steD
      · rw [e3]; exact lU
      · by_cases e4 : w = .laysStatic Bundle.tN "SUPPRESSED_SENTINEL" Bundle.listD
        · rw [e4]; exact lN
        · exact h1 w (List.mem_filter.mpr ⟨hw, by unfold vx_no; rw [decide_eq_true e1, decide_eq_true e2, decide_eq_true e3, decide_eq_true e4]; rfl⟩)
/-- where a static field lies, its class's statics cell in H -/
def vx_L (C n d : String) (A : Nat → Prop) (U : State) (H : Heap) : Prop := ∃ (c : ClassId) (k : Class) (i : Nat) (f : Field) (a : Nat) (cell : Cell), U.vm.findClass C = some c ∧ U.fieldFound? C n d = some (c, k, i, f) ∧ f.isStatic = true ∧ k.statics = some a ∧ H[a]? = some cell ∧ cell.vm.isStatics = true ∧ cell.cls = c ∧ f.slot < cell.slots.size ∧ k.staticTypes[f.slot]? = some f.type ∧ ¬ A a
theorem vx_L.moved {C n d : String} {A : Nat → Prop} {u U : State} {H : Heap} (hvm : u.vm.Alike U.vm) (h : vx_L C n d A u H) : vx_L C n d A U H := by
  obtain ⟨c, k, i, f, a, cell, h1, h2, h3, h4, h5, h6, h7, h8, h9, h10⟩ := h
  obtain ⟨k', hi', he⟩ := State.fieldFound?_setVm hvm h2
  exact ⟨c, k', i, f, a, cell, by rw [hvm.findClass]; exact h1, hi', h3, by rw [he]; exact h4, h5, h6, h7, h8, by rw [he]; exact h9, h10⟩
theorem vx_L.kept {C n d : String} {A : Nat → Prop} {U : State} {H H1 : Heap} (h : vx_L C n d A U H) (hq : ∀ a : Nat, a < H.size → ¬ A a → H1[a]? = H[a]?) : vx_L C n d A U H1 := by
  obtain ⟨c, k, i, f, a, cell, h1, h2, h3, h4, h5, h6, h7, h8, h9, h10⟩ := h
  exact ⟨c, k, i, f, a, cell, h1, h2, h3, h4, by rw [hq a (Array.getElem?_eq_some_iff.mp h5).1 h10]; exact h5, h6, h7, h8, h9, h10⟩
theorem vx_L.narrow {C n d : String} {A B : Nat → Prop} {U : State} {H : Heap} (h : vx_L C n d A U H) (hAB : ∀ q, B q → A q) : vx_L C n d B U H := by
  obtain ⟨c, k, i, f, a, cell, h1, h2, h3, h4, h5, h6, h7, h8, h9, h10⟩ := h
  exact ⟨c, k, i, f, a, cell, h1, h2, h3, h4, h5, h6, h7, h8, h9, fun z => h10 (hAB _ z)⟩
theorem vx_L.word {C n d : String} {A : Nat → Prop} {s : State} {args : Array Value} (h : vx_L C n d A s s.heap) : (Cond.laysStatic C n d).before args s = true := by
  obtain ⟨c, k, i, f, a, cell, h1, h2, h3, h4, h5, h6, h7, h8, h9, -⟩ := h
  show (Cond.laysStatic C n d).holds args s none s [] = true
  exact Cond.laysStatic_of h1 h2 h3 h4 h5 h6 h7 h8 h9
/-- .. and what it holds: null or some reference -/
def vx_Zq (C n d : String) (A : Nat → Prop) (U : State) (H : Heap) : Prop := va_Zq C n d A U H ∧ vx_L C n d A U H
theorem vx_Zq.moved {C n d : String} {A : Nat → Prop} {u U : State} {H : Heap} (hvm : u.vm.Alike U.vm) (h : vx_Zq C n d A u H) : vx_Zq C n d A U H := ⟨va_Zq.moved hvm h.1, vx_L.moved hvm h.2⟩
theorem vx_Zq.kept {C n d : String} {A : Nat → Prop} {U : State} {H H1 : Heap} (h : vx_Zq C n d A U H) (hq : ∀ a : Nat, a < H.size → ¬ A a → H1[a]? = H[a]?) : vx_Zq C n d A U H1 := ⟨va_Zq.kept h.1 hq, vx_L.kept h.2 hq⟩
theorem vx_Zq.narrow {C n d : String} {A B : Nat → Prop} {U : State} {H : Heap} (h : vx_Zq C n d A U H) (hAB : ∀ q, B q → A q) : vx_Zq C n d B U H := ⟨va_Zq.narrow h.1 hAB, vx_L.narrow h.2 hAB⟩
theorem vx_Zqof {args : Array Value} {s : State} {C n d : String} {A : Nat → Prop} (hl : (Cond.laysStatic C n d).before args s = true) (hini : (Cond.initialized C).before args s = true) (h : (Cond.isRef (.static C n d)).before args s = true) (hA : ∀ a : Nat, a < s.heap.size → ¬ A a) : vx_Zq C n d A s s.heap := by
  refine ⟨va_Zqof hl hini h hA, ?_⟩
  obtain ⟨c, k, i, f, a, cell, h1, h2, h3, h4, h5, h6, h7, h8, h9⟩ := Cond.laysStatic_spec hl
  exact ⟨c, k, i, f, a, cell, h1, h2, h3, h4, h5, h6, h7, h8, h9, hA a (Array.getElem?_eq_some_iff.mp h5).1⟩
theorem vx_isRef {C n d : String} {v : Value} {A : Nat → Prop} {s : State} {args : Array Value} (h : va_Z C n d v A s s.heap) (hv : v.isRef = true) : (Cond.isRef (.static C n d)).before args s = true := by
  obtain ⟨cf, kf, fi, f, a, cell, h1, h2, h3, h4, h5, h6, h7, -⟩ := h
  have he : (Term.static C n d).eval args s none [] s = some v := by
    simp [Term.eval, State.fieldNamed?, h1, h2, h4, h5, h6, h7]
  simp only [Cond.before, Cond.holds, Cond.value, he]
  cases v <;> simp_all [Value.isRef]
theorem vx_isRefq {C n d : String} {A : Nat → Prop} {s : State} {args : Array Value} (h : va_Zq C n d A s s.heap) : (Cond.isRef (.static C n d)).before args s = true := by
  rcases h with h | ⟨t, h⟩
  · exact vx_isRef h rfl
  · exact vx_isRef h rfl
/-- the same frame, seen from here: as if the method were called anew in this heap -/
theorem vx_rebase {T : State} (X : Stand p l e R s m args below meth c T locs cells slots) {R' : Room} (hf : R'.frames ≤ R.frames) (hl : R'.locals ≤ R.locals) (hc : cells + R'.cells ≤ R.cells) (hs : slots + R'.slots ≤ R.slots) :
    Stand p l e R' ((T.setVm s.vm).setFrames (.invoking m args :: below)) m args below meth c T [] 0 0 := by
  have htop : (T.setVm s.vm).topJava?.isSome := X.here.top
  have hF : ((T.setVm s.vm).setFrames (.invoking m args :: below)).frames = .invoking m args :: below := State.frames_setFrames _ (State.cur_lt_of_top htop)
  obtain ⟨g₀, hg0⟩ := Option.isSome_iff_exists.mp htop
  obtain ⟨r, hr⟩ := State.topJava?_eq_some.mp hg0
  have hl9 : e.platform.stackLimits (T.setVm s.vm).me = e.platform.stackLimits s.me := X.limits
  have hb9 : (T.setVm s.vm).me.stackBytes = s.me.stackBytes := X.bytes
  refine ⟨X.admits, X.cas, X.clock, hF, ?_, X.hears, X.method, X.code, X.here, X.tail, X.warmed, ?_, ?_, ?_⟩
  · have h := X.room
    have hU : ((T.setVm s.vm).setFrames (.invoking m args :: below)).localsInUse = s.localsInUse := by
      rw [State.localsInUse_invoking hF (meth := meth) (c := c) X.method X.code, State.localsInUse_invoking X.frames X.method X.code]
    simp only [State.hasRoom, Bool.and_eq_true, decide_eq_true_eq] at h ⊢
    obtain ⟨⟨⟨⟨h1, h2, h3, h4, h5, h6⟩, h7⟩, h8⟩, h9⟩ := h
    rw [X.frames, List.length_cons] at h2 h3
    have q1 := X.heapSize
    have q2 := X.used
    simp only [hF, hU, List.length_cons, State.stackLimits_setFrames, State.stackBytes_setFrames, hl9, hb9]
    refine ⟨⟨⟨⟨by omega, by omega, by omega, by omega, by omega, h6⟩, ?_⟩, ?_⟩, X.book⟩
    · show T.heap.size + R'.cells ≤ e.platform.maxCells
      omega
    · show T.slotsUsed + R'.slots ≤ e.platform.maxSlots
      omega
  · rw [State.stackLimits_setFrames]; rfl
  · rw [State.stackBytes_setFrames]; rfl
  · refine ⟨?_, Nat.le_refl _, Nat.le_refl _, ?_, ?_, fun a c9 h9 => ⟨c9, h9, rfl, rfl, fun _ _ => rfl⟩⟩
    · obtain ⟨t, ht, -⟩ := State.frames_cons hr
      show T.setVm s.vm = { ((T.setVm s.vm).setFrames (.invoking m args :: below)).setFrames (T.setVm s.vm).frames with heap := T.heap, slotsUsed := T.slotsUsed }
      rw [State.setFrames_setFrames, State.setFrames_self ht]
      rfl
    · show T.slotsUsed = T.slotsUsed + ((T.heap.toList.drop T.heap.size).map (·.slots.size)).sum
      rw [List.drop_eq_nil_of_le (Nat.le_of_eq Array.length_toList)]
      rfl
    · show ((T.heap.toList.drop T.heap.size).map (·.slots.size)).sum ≤ 0
      rw [List.drop_eq_nil_of_le (Nat.le_of_eq Array.length_toList)]
      exact Nat.le_refl _
/-- 'throw new E()': new; dup; invokespecial; athrow -/
theorem vx_throw0 {cc : ByteArray} {pc : Nat} (hexec : p.tables.exec = Jvm.exec) (hb : c.code = cc) (hl : l.stackTraces = false) {own cls : String} {names : List String} {ik ic mc ms : Nat} {A : Nat → Prop}
    (hown : s.vm.findClass own = some m.cls) (hcls : Bundle.fit cls = true) (hnames : ∀ n ∈ names, Bundle.fit n = true)
    (hk : (Cond.classLink own ik cls).before args s = true) (hini : (Cond.initialized cls).before args s = true) (hat : ∀ w ∈ vx_at0 own ic cls names, w.before args s = true)
    (hgood : ∀ w ∈ Cond.classLink own ik cls :: Cond.initialized cls :: vx_at0 own ic cls names, vx_ot w = true)
    (hU : vx_Zq Bundle.tN "UNASSIGNED_STACK" Bundle.steD A s s.heap) (hN : vx_Zq Bundle.tN "SUPPRESSED_SENTINEL" Bundle.listD A s s.heap) (hS : va_S A s.heap H locs) (hsize : ls.size = c.maxLocals)
    (d0 : decode cc pc = .ok (.new ik, 3)) (d3 : decode cc (pc + 3) = .ok (.dup, 1)) (d4 : decode cc (pc + 4) = .ok (.invokespecial ic, 3)) (d7 : decode cc (pc + 7) = .ok (.athrow, 1))
    (hout : ∀ x ∈ c.exceptionTable.toList, covers x (pc + 7) = false)
    (hRframes : names.length + 3 < R.frames) (hRlocals : (rest.map fun v => v.category).sum + (13 * (names.length + 1) + 42) ≤ R.locals) (hRcells : cells + 1 ≤ R.cells) (hRslots : slots + 6 ≤ R.slots) (hlocks : meth.locks = false)
    (hx : ∀ t : State, s.vm.Alike t.vm → H.size ≤ t.heap.size → (∀ q : Nat, q < H.size → t.heap[q]? = H[q]?) → XC cls s t)
    (hf : ∀ z ∈ locs, free z.base) (hc : cells + 1 ≤ mc) (hs : slots + 6 ≤ ms) :
    W p l e R s m args below meth c H locs cells slots (vx_MQ below Qc XC args s mc ms free) (F0 m pc ls rest) := by
  intro T hT X
  have htr : e.platform.stackTraces = false := (show e.platform.stackTraces = l.stackTraces by rw [X.admits.platform]).trans hl
  have Y := vx_rebase X (R' := { frames := R.frames, locals := R.locals, cells := 1, slots := 6 }) (Nat.le_refl _) (Nat.le_refl _) hRcells hRslots
  obtain ⟨s', hA⟩ : ∃ z, z = (T.setVm s.vm).setFrames (.invoking m args :: below) := ⟨_, rfl⟩
  rw [← hA] at Y
  have hvm : s'.vm = s.vm := by rw [hA]; rfl
  have hhp : s'.heap = H := by rw [hA]; exact hT
  have hW0 : s.WarmedH s'.vm := by rw [hvm]; exact State.WarmedH.refl s
  have hat' : ∀ w ∈ vx_at0 own ic cls names, w.before args s' = true := fun w hw => vx_ot_at hW0 hvm.symm (hgood w (List.mem_cons_of_mem _ (List.mem_cons_of_mem _ hw))) (hat w hw)
  have hk' : (Cond.classLink own ik cls).before args s' = true := vx_ot_at hW0 hvm.symm (hgood _ List.mem_cons_self) hk
  have hini' : (Cond.initialized cls).before args s' = true := vx_ot_at hW0 hvm.symm (hgood _ (List.mem_cons_of_mem _ List.mem_cons_self)) hini
  have hU' : vx_Zq Bundle.tN "UNASSIGNED_STACK" Bundle.steD A s' s'.heap := by rw [hhp]; exact vx_Zq.moved hW0.alike (hU.kept hS.2.1)
  have hN' : vx_Zq Bundle.tN "SUPPRESSED_SENTINEL" Bundle.listD A s' s'.heap := by rw [hhp]; exact vx_Zq.moved hW0.alike (hN.kept hS.2.1)
  have h : ∀ w ∈ Bundle.ownAtoms0 own ic cls names, w.before args s' = true := vx_own hat' (vx_isRefq hU'.1) (vx_isRefq hN'.1) hU'.2.word hN'.2.word
  have hown' : s'.vm.findClass own = some m.cls := by rw [hvm]; exact hown
  have hins : (Cond.instantiable cls 6).before args s' = true := h _ (by simp [Bundle.ownAtoms0])
  obtain ⟨vm₁, cX, kX, hfX, hkX, -, -, X₁, st1⟩ := Y.newCold hexec (own := own) (C := cls) (index := ik) (n := 6) hown' hk' hins hini'
    (g := F0 m pc ls rest) rfl (by rw [hb]; exact d0) (Nat.le_refl _) (Nat.le_refl _)
  generalize hT1 : (T.setVm vm₁).pushCell { cls := cX, slots := kX.instanceTypes.map defaultValue, vm := .none } = T1 at X₁ st1
  have hcat : (Value.ref T.heap.size).category = 1 := rfl
  have hcellA : T1.heap[T.heap.size]? = some (freshCell cX kX) := by rw [← hT1]; exact State.heap_pushCell_size _ _
  have d3' : decode c.code (pc + 3) = .ok (.dup, 1) := by rw [hb]; exact d3
  obtain ⟨U, hsteps, hrun, hend, hW, hsame, ce, hce, hO⟩ := X₁.ctorThrow0 hexec htr (own := own) (cls := cls) (names := names) (ic := ic) hown' hcls hnames h (fun x hx => nomatch hx) hfX hkX hcellA (by rw [hhp, hT]; exact Nat.le_refl _)
    (g := { method := m, pc := pc + 4, locals := ls, stack := .ref T.heap.size :: .ref T.heap.size :: rest, locked := none }) rfl hsize rfl rfl (rest := rest) rfl
    (by rw [hb]; exact d4) (by rw [hb]; exact d7) hout hRframes (by simp only [List.map_cons, List.sum_cons, hcat]; omega) hlocks
  obtain ⟨f1, f2⟩ := vx_frame hsame
  rw [hhp] at f1 f2
  have hWs : s.WarmedH U.vm := State.WarmedH.trans hW0 hW
  have hcl : s.vm.findClass cls = some ce.cls := by
    have h9 := hO.cls
    rw [hvm] at h9
    exact h9
  have hall : s.sameButNew ({ U with vm := s.vm } : State) locs mc ms := by
    subst hA
    obtain ⟨e1, e2⟩ := hsame
    rw [State.setFrames_setFrames] at e1
    have h2 : (T.setVm s.vm).sameButNew ({ U with vm := s.vm } : State) [] (0 + 1) (0 + 6) := ⟨e1, e2⟩
    have h3 := X.same.trans h2
    rw [List.append_nil] at h3
    exact h3.mono hc hs
  refine ⟨U, ?_, .threw T.heap.size, hrun, hend, Or.inr ⟨T.heap.size, rfl, cls, ce, locs, hx U hWs.alike f1 (fun q hq => f2 q hq (fun z hz => nomatch hz)), hce, hO.vm, hcl, hWs, hall, hf⟩⟩
  refine st1 _ ?_
  show Steps p.tables e below (T1.setTop { method := m, pc := pc + 3, locals := ls, stack := .ref T.heap.size :: rest, locked := none }) _
  jvm_step X₁.here [X₁.here.top, hexec, d3', Value.category]
  exact hsteps
/-- 'throw new E("text")': new; dup; ldc; invokespecial; athrow -/
theorem vx_throwS {cc : ByteArray} {pc : Nat} (hexec : p.tables.exec = Jvm.exec) (hb : c.code = cc) (hl : l.stackTraces = false) {own cls text : String} {names : List String} {ik is ic mc ms sa : Nat} {A : Nat → Prop}
    (hown : s.vm.findClass own = some m.cls) (hcls : Bundle.fit cls = true) (hnames : ∀ n ∈ names, Bundle.fit n = true)
    (hk : (Cond.classLink own ik cls).before args s = true) (hini : (Cond.initialized cls).before args s = true) (hstr : vk_R own is text sa s) (hat : ∀ w ∈ vx_atS own ic cls names, w.before args s = true)
    (hgood : ∀ w ∈ Cond.classLink own ik cls :: Cond.initialized cls :: vx_atS own ic cls names, vx_ot w = true)
    (hU : vx_Zq Bundle.tN "UNASSIGNED_STACK" Bundle.steD A s s.heap) (hN : vx_Zq Bundle.tN "SUPPRESSED_SENTINEL" Bundle.listD A s s.heap) (hS : va_S A s.heap H locs) (hsize : ls.size = c.maxLocals)
    (d0 : decode cc pc = .ok (.new ik, 3)) (d3 : decode cc (pc + 3) = .ok (.dup, 1)) (d4 : decode cc (pc + 4) = .ok (.ldc is, 2)) (d6 : decode cc (pc + 6) = .ok (.invokespecial ic, 3)) (d9 : decode cc (pc + 9) = .ok (.athrow, 1))
    (hout : ∀ x ∈ c.exceptionTable.toList, covers x (pc + 9) = false)
    (hRframes : names.length + 3 < R.frames) (hRlocals : (rest.map fun v => v.category).sum + (13 * (names.length + 1) + 43) ≤ R.locals) (hRcells : cells + 1 ≤ R.cells) (hRslots : slots + 6 ≤ R.slots) (hlocks : meth.locks = false)
    (hx : ∀ t : State, s.vm.Alike t.vm → H.size ≤ t.heap.size → (∀ q : Nat, q < H.size → t.heap[q]? = H[q]?) → XC cls s t)
    (hf : ∀ z ∈ locs, free z.base) (hc : cells + 1 ≤ mc) (hs : slots + 6 ≤ ms) :
    W p l e R s m args below meth c H locs cells slots (vx_MQ below Qc XC args s mc ms free) (F0 m pc ls rest) := by
  intro T hT X
  have htr : e.platform.stackTraces = false := (show e.platform.stackTraces = l.stackTraces by rw [X.admits.platform]).trans hl
  have Y := vx_rebase X (R' := { frames := R.frames, locals := R.locals, cells := 1, slots := 6 }) (Nat.le_refl _) (Nat.le_refl _) hRcells hRslots
  obtain ⟨s', hA⟩ : ∃ z, z = (T.setVm s.vm).setFrames (.invoking m args :: below) := ⟨_, rfl⟩
  rw [← hA] at Y
  have hvm : s'.vm = s.vm := by rw [hA]; rfl
  have hhp : s'.heap = H := by rw [hA]; exact hT
  have hW0 : s.WarmedH s'.vm := by rw [hvm]; exact State.WarmedH.refl s
  have hat' : ∀ w ∈ vx_atS own ic cls names, w.before args s' = true := fun w hw => vx_ot_at hW0 hvm.symm (hgood w (List.mem_cons_of_mem _ (List.mem_cons_of_mem _ hw))) (hat w hw)
  have hk' : (Cond.classLink own ik cls).before args s' = true := vx_ot_at hW0 hvm.symm (hgood _ List.mem_cons_self) hk
  have hini' : (Cond.initialized cls).before args s' = true := vx_ot_at hW0 hvm.symm (hgood _ (List.mem_cons_of_mem _ List.mem_cons_self)) hini
  have hU' : vx_Zq Bundle.tN "UNASSIGNED_STACK" Bundle.steD A s' s'.heap := by rw [hhp]; exact vx_Zq.moved hW0.alike (hU.kept hS.2.1)
  have hN' : vx_Zq Bundle.tN "SUPPRESSED_SENTINEL" Bundle.listD A s' s'.heap := by rw [hhp]; exact vx_Zq.moved hW0.alike (hN.kept hS.2.1)
  have h : ∀ w ∈ Bundle.ownAtoms own ic cls names, w.before args s' = true := vx_own hat' (vx_isRefq hU'.1) (vx_isRefq hN'.1) hU'.2.word hN'.2.word
  have hown' : s'.vm.findClass own = some m.cls := by rw [hvm]; exact hown
  have hins : (Cond.instantiable cls 6).before args s' = true := h _ (by simp [Bundle.ownAtoms])
  obtain ⟨vm₁, cX, kX, hfX, hkX, -, -, X₁, st1⟩ := Y.newCold hexec (own := own) (C := cls) (index := ik) (n := 6) hown' hk' hins hini'
    (g := F0 m pc ls rest) rfl (by rw [hb]; exact d0) (Nat.le_refl _) (Nat.le_refl _)
  generalize hT1 : (T.setVm vm₁).pushCell { cls := cX, slots := kX.instanceTypes.map defaultValue, vm := .none } = T1 at X₁ st1
  have hcat : (Value.ref T.heap.size).category = 1 := rfl
  have hcellA : T1.heap[T.heap.size]? = some (freshCell cX kX) := by rw [← hT1]; exact State.heap_pushCell_size _ _
  have d3' : decode c.code (pc + 3) = .ok (.dup, 1) := by rw [hb]; exact d3
  have d4' : decode c.code (pc + 4) = .ok (.ldc is, 2) := by rw [hb]; exact d4
  have hstr' : vk_R own is text sa s' := vk_R.warm hW0 hstr
  obtain ⟨U, hsteps, hrun, hend, hW, hsame, ce, hce, hO⟩ := X₁.ctorThrowS hexec htr (own := own) (cls := cls) (names := names) (ic := ic) hown' hcls hnames h (fun x hx => nomatch hx) hfX hkX hcellA (by rw [hhp, hT]; exact Nat.le_refl _) (msg := .ref sa) rfl
    (g := { method := m, pc := pc + 6, locals := ls, stack := .ref sa :: .ref T.heap.size :: .ref T.heap.size :: rest, locked := none }) rfl hsize rfl rfl (rest := rest) rfl
    (by rw [hb]; exact d6) (by rw [hb]; exact d9) hout hRframes (by simp only [List.map_cons, List.sum_cons, hcat]; omega) hlocks
  obtain ⟨f1, f2⟩ := vx_frame hsame
  rw [hhp] at f1 f2
  have hWs : s.WarmedH U.vm := State.WarmedH.trans hW0 hW
  have hcl : s.vm.findClass cls = some ce.cls := by
    have h9 := hO.cls
    rw [hvm] at h9
    exact h9
  have hall : s.sameButNew ({ U with vm := s.vm } : State) locs mc ms := by
    subst hA
    obtain ⟨e1, e2⟩ := hsame
    rw [State.setFrames_setFrames] at e1
    have h2 : (T.setVm s.vm).sameButNew ({ U with vm := s.vm } : State) [] (0 + 1) (0 + 6) := ⟨e1, e2⟩
    have h3 := X.same.trans h2
    rw [List.append_nil] at h3
    exact h3.mono hc hs
  refine ⟨U, ?_, .threw T.heap.size, hrun, hend, Or.inr ⟨T.heap.size, rfl, cls, ce, locs, hx U hWs.alike f1 (fun q hq => f2 q hq (fun z hz => nomatch hz)), hce, hO.vm, hcl, hWs, hall, hf⟩⟩
  refine st1 _ ?_
  show Steps p.tables e below (T1.setTop { method := m, pc := pc + 3, locals := ls, stack := .ref T.heap.size :: rest, locked := none }) _
  jvm_step X₁.here [X₁.here.top, hexec, d3', Value.category]
  exact X₁.ldcString hexec (own := own) (text := text) (index := is) (a := sa) hown' hstr'.1 hstr'.2
    (g := { method := m, pc := pc + 4, locals := ls, stack := .ref T.heap.size :: .ref T.heap.size :: rest, locked := none }) rfl d4' _ hsteps
/-- 'throw new E("text")', the text by a wide index -/
theorem vx_throwSW {cc : ByteArray} {pc : Nat} (hexec : p.tables.exec = Jvm.exec) (hb : c.code = cc) (hl : l.stackTraces = false) {own cls text : String} {names : List String} {ik is ic mc ms sa : Nat} {A : Nat → Prop}
    (hown : s.vm.findClass own = some m.cls) (hcls : Bundle.fit cls = true) (hnames : ∀ n ∈ names, Bundle.fit n = true)
    (hk : (Cond.classLink own ik cls).before args s = true) (hini : (Cond.initialized cls).before args s = true) (hstr : vk_R own is text sa s) (hat : ∀ w ∈ vx_atS own ic cls names, w.before args s = true)
    (hgood : ∀ w ∈ Cond.classLink own ik cls :: Cond.initialized cls :: vx_atS own ic cls names, vx_ot w = true)
    (hU : vx_Zq Bundle.tN "UNASSIGNED_STACK" Bundle.steD A s s.heap) (hN : vx_Zq Bundle.tN "SUPPRESSED_SENTINEL" Bundle.listD A s s.heap) (hS : va_S A s.heap H locs) (hsize : ls.size = c.maxLocals)
    (d0 : decode cc pc = .ok (.new ik, 3)) (d3 : decode cc (pc + 3) = .ok (.dup, 1)) (d4 : decode cc (pc + 4) = .ok (.ldc_w is, 3)) (d7 : decode cc (pc + 7) = .ok (.invokespecial ic, 3)) (d10 : decode cc (pc + 10) = .ok (.athrow, 1))
    (hout : ∀ x ∈ c.exceptionTable.toList, covers x (pc + 10) = false)
    (hRframes : names.length + 3 < R.frames) (hRlocals : (rest.map fun v => v.category).sum + (13 * (names.length + 1) + 43) ≤ R.locals) (hRcells : cells + 1 ≤ R.cells) (hRslots : slots + 6 ≤ R.slots) (hlocks : meth.locks = false)
    (hx : ∀ t : State, s.vm.Alike t.vm → H.size ≤ t.heap.size → (∀ q : Nat, q < H.size → t.heap[q]? = H[q]?) → XC cls s t)
    (hf : ∀ z ∈ locs, free z.base) (hc : cells + 1 ≤ mc) (hs : slots + 6 ≤ ms) :
    W p l e R s m args below meth c H locs cells slots (vx_MQ below Qc XC args s mc ms free) (F0 m pc ls rest) := by
  intro T hT X
  have htr : e.platform.stackTraces = false := (show e.platform.stackTraces = l.stackTraces by rw [X.admits.platform]).trans hl
  have Y := vx_rebase X (R' := { frames := R.frames, locals := R.locals, cells := 1, slots := 6 }) (Nat.le_refl _) (Nat.le_refl _) hRcells hRslots
  obtain ⟨s', hA⟩ : ∃ z, z = (T.setVm s.vm).setFrames (.invoking m args :: below) := ⟨_, rfl⟩
  rw [← hA] at Y
  have hvm : s'.vm = s.vm := by rw [hA]; rfl
  have hhp : s'.heap = H := by rw [hA]; exact hT
  have hW0 : s.WarmedH s'.vm := by rw [hvm]; exact State.WarmedH.refl s
  have hat' : ∀ w ∈ vx_atS own ic cls names, w.before args s' = true := fun w hw => vx_ot_at hW0 hvm.symm (hgood w (List.mem_cons_of_mem _ (List.mem_cons_of_mem _ hw))) (hat w hw)
  have hk' : (Cond.classLink own ik cls).before args s' = true := vx_ot_at hW0 hvm.symm (hgood _ List.mem_cons_self) hk
  have hini' : (Cond.initialized cls).before args s' = true := vx_ot_at hW0 hvm.symm (hgood _ (List.mem_cons_of_mem _ List.mem_cons_self)) hini
  have hU' : vx_Zq Bundle.tN "UNASSIGNED_STACK" Bundle.steD A s' s'.heap := by rw [hhp]; exact vx_Zq.moved hW0.alike (hU.kept hS.2.1)
  have hN' : vx_Zq Bundle.tN "SUPPRESSED_SENTINEL" Bundle.listD A s' s'.heap := by rw [hhp]; exact vx_Zq.moved hW0.alike (hN.kept hS.2.1)
  have h : ∀ w ∈ Bundle.ownAtoms own ic cls names, w.before args s' = true := vx_own hat' (vx_isRefq hU'.1) (vx_isRefq hN'.1) hU'.2.word hN'.2.word
  have hown' : s'.vm.findClass own = some m.cls := by rw [hvm]; exact hown
  have hins : (Cond.instantiable cls 6).before args s' = true := h _ (by simp [Bundle.ownAtoms])
  obtain ⟨vm₁, cX, kX, hfX, hkX, -, -, X₁, st1⟩ := Y.newCold hexec (own := own) (C := cls) (index := ik) (n := 6) hown' hk' hins hini'
    (g := F0 m pc ls rest) rfl (by rw [hb]; exact d0) (Nat.le_refl _) (Nat.le_refl _)
  generalize hT1 : (T.setVm vm₁).pushCell { cls := cX, slots := kX.instanceTypes.map defaultValue, vm := .none } = T1 at X₁ st1
  have hcat : (Value.ref T.heap.size).category = 1 := rfl
  have hcellA : T1.heap[T.heap.size]? = some (freshCell cX kX) := by rw [← hT1]; exact State.heap_pushCell_size _ _
  have d3' : decode c.code (pc + 3) = .ok (.dup, 1) := by rw [hb]; exact d3
  have d4' : decode c.code (pc + 4) = .ok (.ldc_w is, 3) := by rw [hb]; exact d4
  have hstr' : vk_R own is text sa s' := vk_R.warm hW0 hstr
  obtain ⟨U, hsteps, hrun, hend, hW, hsame, ce, hce, hO⟩ := X₁.ctorThrowS hexec htr (own := own) (cls := cls) (names := names) (ic := ic) hown' hcls hnames h (fun x hx => nomatch hx) hfX hkX hcellA (by rw [hhp, hT]; exact Nat.le_refl _) (msg := .ref sa) rfl
    (g := { method := m, pc := pc + 7, locals := ls, stack := .ref sa :: .ref T.heap.size :: .ref T.heap.size :: rest, locked := none }) rfl hsize rfl rfl (rest := rest) rfl
    (by rw [hb]; exact d7) (by rw [hb]; exact d10) hout hRframes (by simp only [List.map_cons, List.sum_cons, hcat]; omega) hlocks
  obtain ⟨f1, f2⟩ := vx_frame hsame
  rw [hhp] at f1 f2
  have hWs : s.WarmedH U.vm := State.WarmedH.trans hW0 hW
  have hcl : s.vm.findClass cls = some ce.cls := by
    have h9 := hO.cls
    rw [hvm] at h9
    exact h9
  have hall : s.sameButNew ({ U with vm := s.vm } : State) locs mc ms := by
    subst hA
    obtain ⟨e1, e2⟩ := hsame
    rw [State.setFrames_setFrames] at e1
    have h2 : (T.setVm s.vm).sameButNew ({ U with vm := s.vm } : State) [] (0 + 1) (0 + 6) := ⟨e1, e2⟩
    have h3 := X.same.trans h2
    rw [List.append_nil] at h3
    exact h3.mono hc hs
  refine ⟨U, ?_, .threw T.heap.size, hrun, hend, Or.inr ⟨T.heap.size, rfl, cls, ce, locs, hx U hWs.alike f1 (fun q hq => f2 q hq (fun z hz => nomatch hz)), hce, hO.vm, hcl, hWs, hall, hf⟩⟩
  refine st1 _ ?_
  show Steps p.tables e below (T1.setTop { method := m, pc := pc + 3, locals := ls, stack := .ref T.heap.size :: rest, locked := none }) _
  jvm_step X₁.here [X₁.here.top, hexec, d3', Value.category]
  exact X₁.ldcStringW hexec (own := own) (text := text) (index := is) (a := sa) hown' hstr'.1 hstr'.2
    (g := { method := m, pc := pc + 4, locals := ls, stack := .ref T.heap.size :: .ref T.heap.size :: rest, locked := none }) rfl d4' _ hsteps
end Ends
section Bodies
variable {l : Launch}
theorem vx_ofW {y : MethodName} {ws ws' : List Cond} {rm : Room} {Pc : Array Value → State → Prop} {Qc : Array Value → State → Outcome → State → Prop} {XC : String → State → State → Prop} {mc ms : Nat} {free : Addr → Prop} {cc : ByteArray} {maxL : Nat} {ret : Option FieldType}
    (hy : plainName y.cls = true) (hw : ws = Cond.code y cc maxL ret :: ws')
    (body : ∀ p e s m args below meth c s₁, BodyLoose p l y (headSpec ws rm) cc maxL ret e s m args below meth c s₁ → c.maxLocals = maxL → (∀ x ∈ c.exceptionTable.toList, False) → Pc args s →
      W p l e (headSpec ws rm).room s m args below meth c s.heap [] 0 0 (vx_MQ below Qc XC args s mc ms free) (entryFrame m args maxL)) : vx_Met l y ws rm Pc Qc XC mc ms free := by
  refine MetFree.of_bodyS (code := cc) (maxLocals := maxL) (ret := ret) hy ?_ ?_
  · intro args s m h hn
    obtain ⟨meth, c, h1, h2, h3, h4, h5, h6, -, -⟩ := Cond.code_spec hn (atoms_spec (ws := ws) h _ (by rw [hw]; exact List.mem_cons_self))
    exact ⟨meth, c, h1, h2, h3, h4, h5, h6⟩
  · intro p e s m args below meth c s₁ B hml hP _
    have hh0 : s₁.heap = s.heap := by rw [B.state]; rfl
    have ht : ∀ x ∈ c.exceptionTable.toList, False := by
      obtain ⟨meth9, c9, h1, h2, -, -, -, -, h7, -⟩ := Cond.code_spec B.named (atoms_spec (ws := ws) B.pre _ (by rw [hw]; exact List.mem_cons_self))
      cases Option.some.inj (h1.symm.trans B.method)
      cases Option.some.inj (h2.symm.trans (Stand.of_body B).code)
      intro x hx
      rw [Array.isEmpty_iff.mp h7] at hx
      cases hx
    obtain ⟨t, a1, o, b1, b2, b3⟩ := body p e s m args below meth c s₁ B hml ht hP s₁ hh0 (Stand.of_body B)
    exact ⟨t, o, a1, b1, b2, b3⟩
/-- the table of a body with handlers -/
theorem vx_table {p : Program} {x y : MethodName} {S : Spec} {cc bytes : ByteArray} {maxL maxL' : Nat} {ret ret' : Option FieldType} {e : Env} {s s₁ : State} {m : MethodId} {args : Array Value} {below : List Frame} {meth : Method} {c : Code} {hh : List (Nat × Nat × Nat × Nat)}
    (B : BodyLoose p l y S cc maxL ret e s m args below meth c s₁) (h : (Cond.codeWith y bytes maxL' ret' hh).before args s = true) : c.exceptionTable.toList = tableOf hh := by
  obtain ⟨m9, meth9, c9, hn9, h1, h2, -, -, h6, -⟩ := Cond.codeWith_spec h
  cases Option.some.inj (hn9.symm.trans B.named)
  cases Option.some.inj (h1.symm.trans B.method)
  cases Option.some.inj (h2.symm.trans (Stand.of_body B).code)
  rw [← h6, table_eq]
end Bodies
end VXA
/-! ===== END ===== -/
/-! ===== BEGIN a static call of a method with an exception table ===== -/
section VXS
variable {p : Program} {l : Launch} {e : Env} {R : Room} {s : State} {m : MethodId} {args : Array Value} {below : List Frame} {meth : Method} {c : Code} {T : State} {H : Heap} {locs : List Loc} {cells slots : Nat}
abbrev vx_CSW (R : Room) (s : State) (args : Array Value) (own : String) (index : Nat) (y : MethodName) (bytes : ByteArray) (maxL : Nat) (ret : Option FieldType) (hh : List (Nat × Nat × Nat × Nat)) (ws : List Cond) (rm : Room) (mc ms n : Nat) : Prop :=
  (rm.cells = mc ∧ rm.slots = ms ∧ rm.frames + 1 ≤ R.frames ∧ 8 + (maxL + 11) + rm.locals ≤ R.locals ∧ (∀ w ∈ ws, ∀ (a' : Array Value) (U : State), s.WarmedH U.vm → w.before a' U = true) ∧ Cond.codeWith y bytes maxL ret hh ∈ ws) ∧
  (Cond.codeWith y bytes maxL ret hh).before args s = true ∧ (Cond.initialized y.cls).before args s = true ∧ (y.cls ≠ "java/lang/invoke/MethodHandle" ∧ y.cls ≠ "java/lang/invoke/VarHandle") ∧
  (∀ sig, parseMethodDescriptor y.desc = some sig → n = sig.parameters.length) ∧ (Cond.methodLink own index y).before args s = true ∧ (Cond.static y).before args s = true
theorem vx_cwSW {own : String} {index maxL mc ms : Nat} {y : MethodName} {bytes : ByteArray} {ret : Option FieldType} {hh : List (Nat × Nat × Nat × Nat)} {Ts ws ws' : List Cond} {rm : Room} (n : Nat) (ht : ∀ w ∈ Ts, w.before args s = true) (hT : GoodIn Ts (va_wsS own index y ws)) (hw : ws = Cond.codeWith y bytes maxL ret hh :: ws') (hrc : rm.cells = mc) (hrs : rm.slots = ms)
    (hd : y.cls ≠ "java/lang/invoke/MethodHandle" ∧ y.cls ≠ "java/lang/invoke/VarHandle" ∧ (parseMethodDescriptor y.desc).map (fun d => d.parameters.length) = some n) (hR : rm.frames + 1 ≤ R.frames ∧ 8 + (maxL + 11) + rm.locals ≤ R.locals) :
    vx_CSW R s args own index y bytes maxL ret hh ws rm mc ms n := by
  have ok : ∀ w ∈ va_wsS own index y ws, w.before args s = true := fun w h => ht w (hT w h).1
  have hG : GoodIn Ts ws := fun w h => hT w (by unfold va_wsS; exact List.mem_append_right _ h)
  have hc : Cond.codeWith y bytes maxL ret hh ∈ ws := by rw [hw]; exact List.mem_cons_self
  refine ⟨⟨hrc, hrs, hR.1, hR.2, pay_in ht hG, hc⟩, ht _ (hG _ hc).1, ok _ (by simp [va_wsS]), ⟨hd.1, hd.2.1⟩, fun sig h => ?_, ok _ (by simp [va_wsS]), ok _ (by simp [va_wsS])⟩
  have h2 := hd.2.2
  rw [h] at h2
  exact (Option.some.inj h2).symm
theorem vx_callSW (X : Stand p l e R s m args below meth c T locs cells slots) (hexec : p.tables.exec = Jvm.exec) {own : String} {index : Nat} {y : MethodName} {bytes : ByteArray} {maxL : Nat} {ret : Option FieldType} {hh : List (Nat × Nat × Nat × Nat)}
    (hown : s.vm.findClass own = some m.cls) (hlink : (Cond.methodLink own index y).before args s = true) (hstat : (Cond.static y).before args s = true) (hinit : (Cond.initialized y.cls).before args s = true)
    (hcode : (Cond.codeWith y bytes maxL ret hh).before args s = true) (hy : y.cls ≠ "java/lang/invoke/MethodHandle" ∧ y.cls ≠ "java/lang/invoke/VarHandle")
    {W9 : Nat} {Pre : Pt → Array Value → Prop} {Post : Pt → Array Value → Option Value → Pt → Prop} (hK : Back l R p e below s args y 3 W9 Pre Post)
    {g : JFrame} (hg : g.method = m) (hsize : g.locals.size = c.maxLocals) {argsL rest : List Value} (hlen : ∀ sig, parseMethodDescriptor y.desc = some sig → argsL.length = sig.parameters.length)
    (hstack : g.stack = argsL.reverse ++ rest) (hW : 2 * g.monitorRoom + (rest.map fun v => v.category).sum ≤ W9) (hdg : decode c.code g.pc = .ok (.invokestatic index, 3))
    (hpre : ∀ vm₁, s.WarmedH vm₁ → Pre ⟨T.setVm vm₁, locs, cells, slots⟩ argsL.toArray) :
    ∃ (v : Option Value) (vm₁ : Vm) (B : Pt), s.WarmedH vm₁ ∧ Stand p l e R s m args below meth c B.U B.locs B.cells B.slots ∧ Post ⟨T.setVm vm₁, locs, cells, slots⟩ argsL.toArray v B ∧
      ∀ target, Steps p.tables e below (B.U.setTop { g with pc := g.pc + 3, stack := v.toList ++ rest }) target → Steps p.tables e below (T.setTop g) target := by
  obtain ⟨mk, methM, cM, hnamed, hmethM, -, -, -, -, -, -, hsigM⟩ := Cond.codeWith_spec hcode
  have hstatic : methM.isStatic = true := Cond.static_spec hnamed hmethM hstat
  obtain ⟨kP, hkP, -⟩ := className_of_methodNamed hnamed
  have hinitP : kP.init = .initialized := Cond.initialized_spec (findClass_of_methodNamed hnamed) hkP hinit
  obtain ⟨vm₁, X₁, hstep₁⟩ := X.invokestatic hexec hown hlink hnamed hmethM hstatic hkP hinitP hy (g := g) hg (argsL := argsL) (rest := rest) (hlen _ hsigM) hstack hdg
  obtain ⟨v, B, X', hpost, hsteps⟩ := hK m meth c ⟨T.setVm vm₁, locs, cells, slots⟩ { g with stack := rest } (.invokestatic index) mk argsL.toArray X₁ hg hsize hdg hW (X₁.named hnamed) (hpre vm₁ X₁.warmed)
  exact ⟨v, vm₁, B, X₁.warmed, X', hpost, fun target h => hstep₁ _ fun acts => by rw [doInvoke_state]; exact hsteps.trans h⟩
theorem vx_runSW {y : MethodName} {bytes cc : ByteArray} {maxL nL mc ms n index : Nat} {ret : Option FieldType} {hh : List (Nat × Nat × Nat × Nat)} {ws : List Cond} {rm : Room} {Pc : Array Value → State → Prop} {Qc : Array Value → State → Outcome → State → Prop} {free : Addr → Prop} {Ts : List Cond} {own : String} {As rest : List Value} {g : JFrame}
    (S : CallFix p m c cc nL s args Ts own) (hM : Met l y ws rm Pc Qc mc ms free) (cw : vx_CSW R s args own index y bytes maxL ret hh ws rm mc ms n) (hp : PreS s H Pc As)
    (hg : g.method = m) (hn : As.length = n) (hsize : g.locals.size = nL) (hstack : g.stack = As.reverse ++ rest) (hW : 2 * g.monitorRoom + (rest.map fun v => v.category).sum ≤ 8) (hdg : decode cc g.pc = .ok (.invokestatic index, 3)) (hf : cells + mc ≤ R.cells ∧ slots + ms ≤ R.slots) :
    va_Run p l e R s m args below meth c H locs cells slots mc ms g rest (Qc As.toArray) (free) := by
  obtain ⟨⟨hrc, hrs, hfr, hlo, hws, hcw⟩, hcode, hini, hy, hlen, hl, hstt⟩ := cw
  have hK : Back l R p e below s args y 3 8 (PreOf R mc ms Pc) (PostOf Qc mc ms free) := va_backW (hh := hh) (bytes := bytes) (maxL := maxL) (ret := ret) hM hp.1 hrc hrs hfr hlo hws hcw (fun a' U hW => word_at hW (Or.inl (by first | rfl | simp [Cond.onTables, Cond.keeps, Cond.steady])) hini)
  obtain ⟨hx, hb, hml, ho, -⟩ := S
  intro T hT X
  obtain ⟨v, vm₁, ⟨U', l2, c2, s2⟩, hW₁, X', ⟨g', mk, t, L, e1, e2, hq, h1, hL, h2, h3⟩, st⟩ := vx_callSW X hx (hh := hh) (bytes := bytes) (maxL := maxL) (ret := ret) ho hl hstt hini hcode hy hK hg (hsize.trans hml.symm) (argsL := As) (rest := rest) (fun sig h => hn.trans (hlen sig h)) hstack hW (by rw [hb]; exact hdg)
    (fun vm₁ hW₁ => ⟨hf.1, hf.2, hp.2 (T.setVm vm₁) hT hW₁⟩)
  dsimp only [Pt.U, Pt.locs, Pt.cells, Pt.slots] at X' e1 e2 h1 h2 h3 st
  subst h1; subst h2; subst h3
  exact ⟨v, (T.setVm vm₁).calling g' mk As.toArray, t, U', L, hT, X', hL, e1, e2, hq, st⟩
/-- not caught here, past rows that name other classes: it goes on to the caller -/
theorem vx_outP {p : Program} {l : Launch} {e : Env} {R : Room} {s : State} {m : MethodId} {args : Array Value} {below : List Frame} {meth : Method} {c : Code} {H : Heap} {locs : List Loc} {cells slots : Nat} {free : Addr → Prop} {ls : Array Slot} {rest : List Value} {Qc : Array Value → State → Outcome → State → Prop} {XC : String → State → State → Prop}
    {pc : Nat} {own E : String} {ce : Cell} {q : Addr} {mc ms : Nat} (hown : s.vm.findClass own = some m.cls) (hlocks : meth.locks = false)
    (hpass : ∀ z ∈ c.exceptionTable.toList, covers z pc = false ∨ (z.catchType ≠ 0 ∧ ∃ nm : String, (Cond.classLink own z.catchType nm).before args s = true ∧ va_Nc E nm s)) (hcell : H[q]? = some ce) (hv : ce.vm = .none) (hcl : s.vm.findClass E = some ce.cls)
    (hx : ∀ t : State, t.heap = H → s.vm.Alike t.vm → XC E s t) (hf : ∀ z ∈ locs, free z.base) (hc : cells ≤ mc) (hs : slots ≤ ms) :
    vx_W p l e R s m args below meth c H locs cells slots (vx_MQ below Qc XC args s mc ms free) (F0 m pc ls rest) q := by
  intro T hT X
  have hpl : e.platform.magicAccessors = ({} : Platform).magicAccessors := by rw [X.admits.platform]
  obtain ⟨vm', hW', X', st⟩ := X.outThrough hlocks q (g := F0 m pc ls rest) rfl rfl rfl (cell := ce) (by rw [hT]; exact hcell) (by rw [hv]; rfl)
    (by obtain ⟨k9, h9, -⟩ := Vm.findClass_spec hcl; exact ⟨k9, h9⟩) (fun z hz => by
      rcases hpass z hz with h | ⟨hz0, nm, hl1, hn1⟩
      · exact Or.inl h
      · obtain ⟨c6, hc6, hcl6⟩ := Cond.classLink_spec hown hl1 e.platform hpl
        obtain ⟨a8, b8, h1, h2, h3⟩ := hn1
        cases Option.some.inj (h1.symm.trans hcl)
        cases Option.some.inj (h2.symm.trans hc6)
        exact Or.inr ⟨hz0, _, hcl6, h3⟩)
  obtain ⟨g₀, hfr⟩ := X'.frames_eq
  have hcell9 : ((T.setVm vm').setFrames (.throwing q :: below)).heap[q]? = some ce := by
    show T.heap[q]? = some ce
    rw [hT]; exact hcell
  have hend : Ended ((T.setVm vm').setFrames (.throwing q :: below)) below (.threw q) := State.frames_setFrames _ (State.cur_lt_of_frames hfr)
  refine ⟨(T.setVm vm').setFrames (.throwing q :: below), ?_, .threw q, X'.here.running, hend, Or.inr ⟨q, rfl, E, ce, locs, hx _ hT (X'.ends _).1.alike, hcell9, hv, hcl, (X'.ends _).1, (X'.ends _).2.mono hc hs, hf⟩⟩
  rw [X.pushThrowing_eq]
  exact st
/-- a thing of a world lies in the heap -/
theorem vx_lt {D : va_G} {cl : List vw_C} {ws : va_W} {H1 : Heap} (h : va_P D cl ws H1) {k : Nat} {q : Nat × va_E} (hk : ws[k]? = some q) : q.1 < H1.size := (h k q hk).lt
end VXS
/-! ===== END ===== -/
/-! ===== BEGIN methods with a table of their own: called by a name, returning or throwing ===== -/
section VXH
/-! vx_backW, vx_callVX, vx_callSX, vx_callVW, vx_runVW, vx_runVX, vx_runSX, vx_ofWH follow the same proofs as their sisters above (Free/Laws.lean, Shelf42/LK1.lean); vx_outP calls Shelf42/NT130.lean (outThrough). -/
section
variable {l : Launch} {R : Room} {p : Program} {e : Env} {below : List Frame} {s : State} {sargs : Array Value} {y : MethodName} {len W9 : Nat}
theorem vx_backW {ws : List Cond} {rm : Room} {Pc : Array Value → State → Prop} {Qc : Array Value → State → Outcome → State → Prop} {XC : String → State → State → Prop} {mc ms : Nat} {free : Addr → Prop} {bytes : ByteArray} {maxL : Nat} {ret : Option FieldType} {hh : List (Nat × Nat × Nat × Nat)}
    (hM : vx_Met l y ws rm Pc Qc XC mc ms free) (hblind : FrameBlind Pc) (hrc : rm.cells = mc) (hrs : rm.slots = ms)
    (hframes : rm.frames + 1 ≤ R.frames) (hlocals : W9 + (maxL + 11) + rm.locals ≤ R.locals)
    (hws : ∀ w ∈ ws, ∀ a' U, s.WarmedH U.vm → w.before a' U = true) (hcode : Cond.codeWith y bytes maxL ret hh ∈ ws) (hinit : ∀ a' U, s.WarmedH U.vm → (Cond.initialized y.cls).before a' U = true) :
    vx_Back l R p e below s sargs y len W9 (PreOf R mc ms Pc) (PostOf Qc mc ms free) (vx_Post XC mc ms free) := by
  intro m meth c A g ig mk a X hg hsize hdg hW hn hp
  have h1 : (headSpec ws rm).pre.before a A.U = true := atoms_intro fun w hw => hws w hw _ _ X.warmed
  have h2 : (Cond.codeWith y bytes maxL ret hh).before a A.U = true := hws _ hcode _ _ X.warmed
  have h3 : (Cond.initialized y.cls).before a A.U = true := hinit _ _ X.warmed
  have h4 : A.cells + (headSpec ws rm).room.cells ≤ R.cells := by rw [show (headSpec ws rm).room.cells = mc from hrc]; exact hp.1
  have h5 : A.slots + (headSpec ws rm).room.slots ≤ R.slots := by rw [show (headSpec ws rm).room.slots = ms from hrs]; exact hp.2.1
  have hPc : Pc a (A.U.calling g mk a) := hblind _ _ _ _ hp.2.2
  obtain ⟨U, Ls, c0, s0⟩ := A
  dsimp only [Pt.U, Pt.locs, Pt.cells, Pt.slots] at h1 h2 h3 h4 h5 X hn hPc ⊢
  obtain ⟨m9, methY, cY, hn9, hmY, hcY, -, hlY, -⟩ := Cond.codeWith_spec h2
  cases Option.some.inj (hn9.symm.trans hn)
  obtain ⟨kY, hkY, -⟩ := className_of_methodNamed hn
  have hinitY : kY.init = .initialized := Cond.initialized_spec (findClass_of_methodNamed hn) hkY h3
  have h : At U g.method c below := by rw [hg]; exact X.here
  have hlocals9 : W9 + (maxL + 11) + (headSpec ws rm).room.locals ≤ R.locals := hlocals
  have happ : (headSpec ws rm).appliesLoose y e.platform (U.calling g mk a) = true :=
    Spec.appliesLoose_calling (g := g) h hdg hn hkY hinitY
      (X.room_calling (g := g) (R' := (headSpec ws rm).room) hsize hmY hcY hframes (by rw [hlY]; omega) h4 h5) h1
  obtain ⟨mid, hmid⟩ := h.above
  have hfr : (U.setTop g).frames = (.java g :: mid) ++ below := by rw [State.frames_setTop' g h.top, hmid]; rfl
  obtain ⟨o, s₂, hsteps, -, hend, hq⟩ := Steps.callFree hM p X.admits X.cas X.clock (acts := []) hfr happ hPc trivial
  have hq' : vx_Q Qc XC mc ms free a (U.calling g mk a) o s₂ := hq
  rw [State.frames_setTop' g h.top] at hend
  obtain ⟨g₀, hg0⟩ := Option.isSome_iff_exists.mp h.top
  obtain ⟨r, hr⟩ := State.topJava?_eq_some.mp hg0
  have hr' : (({ U with heap := s₂.heap, slotsUsed := s₂.slotsUsed } : State).setVm s₂.vm).frames = .java g₀ :: r := hr
  rcases hq' with ⟨hqc, L, hfe, hL⟩ | ⟨q, rfl, E, ce, L, hx, hce, hcv, hcl, hW₂, hsm, hL⟩
  · obtain ⟨⟨v, rfl⟩, hW₂, e2, q2, q3, q4, q5, q6⟩ := id hfe
    have e3 : s₂ = ({ (U.calling g mk a).setFrames s₂.frames with heap := s₂.heap, slotsUsed := s₂.slotsUsed } : State).setVm s₂.vm := by
      have : s₂ = ({ s₂ with vm := (U.calling g mk a).vm } : State).setVm s₂.vm := rfl
      rw [e2] at this
      exact this
    obtain ⟨c₂, i₂, len₂, hc₂, hd₂, hf₂⟩ := hend
    have hW' : U.WarmedH s₂.vm := hW₂
    have hcc : c₂ = c := by
      have h1 : s₂.code? g.method = U.code? g.method := by
        rw [State.code?_eq, State.code?_eq, hW'.alike.method?]
      exact Option.some.inj (hc₂.symm.trans (h1.trans h.code))
    subst hcc
    have hlen : len₂ = len := by rw [hdg] at hd₂; cases hd₂; rfl
    subst hlen
    have hs₂ : s₂ = (({ U with heap := s₂.heap, slotsUsed := s₂.slotsUsed } : State).setVm s₂.vm).setTop { g with pc := g.pc + len₂, stack := v.toList ++ g.stack } := by
      refine e3.trans ?_
      rw [hf₂, State.calling_eq h.top, State.setFrames_setFrames, State.setTop_of_frames _ hr', hr]
      rfl
    have hsame : U.sameButNew ({ U with heap := s₂.heap, slotsUsed := s₂.slotsUsed } : State) L mc ms := by
      refine ⟨?_, q2, q3, q4, q5, q6⟩
      obtain ⟨t, ht, -⟩ := State.frames_cons hr
      show ({ U with heap := s₂.heap, slotsUsed := s₂.slotsUsed } : State) = { U.setFrames U.frames with heap := s₂.heap, slotsUsed := s₂.slotsUsed }
      rw [State.setFrames_self ht]
    subst hg
    refine Or.inl ⟨v, ⟨(({ U with heap := s₂.heap, slotsUsed := s₂.slotsUsed } : State).setVm s₂.vm), Ls ++ L, c0 + mc, s0 + ms⟩,
      ⟨X.admits, X.cas, X.clock, X.frames, X.room, X.hears, X.method, X.code, (X.here.setHeapUsed s₂.heap s₂.slotsUsed).setVm hW'.alike, X.tail, State.WarmedH.trans X.warmed hW', X.limits, X.bytes, X.same.trans (hsame.setVm s.vm)⟩,
      ⟨g, mk, s₂, L, rfl, rfl, hqc, rfl, hL, rfl, rfl⟩, ?_⟩
    show Steps p.tables e below _ ((({ U with heap := s₂.heap, slotsUsed := s₂.slotsUsed } : State).setVm s₂.vm).setTop { g with pc := g.pc + len₂, stack := v.toList ++ g.stack })
    rw [← hs₂]
    exact hsteps
  · obtain ⟨e2, q2, q3, q4, q5, q6⟩ := id hsm
    have e3 : s₂ = ({ (U.calling g mk a).setFrames s₂.frames with heap := s₂.heap, slotsUsed := s₂.slotsUsed } : State).setVm s₂.vm := by
      have : s₂ = ({ s₂ with vm := (U.calling g mk a).vm } : State).setVm s₂.vm := rfl
      rw [e2] at this
      exact this
    have hf₂ : s₂.frames = .throwing q :: .java g :: U.frames.tail := hend
    have hW' : U.WarmedH s₂.vm := hW₂
    have hs₂ : s₂ = ((({ U with heap := s₂.heap, slotsUsed := s₂.slotsUsed } : State).setVm s₂.vm).setTop g).pushFrame (.throwing q) := by
      refine e3.trans ?_
      rw [hf₂, State.calling_eq h.top, State.setFrames_setFrames, State.pushFrame, State.frames_setTop _ hr', State.setTop_of_frames _ hr', State.setFrames_setFrames, hr]
      rfl
    have hsame : U.sameButNew ({ U with heap := s₂.heap, slotsUsed := s₂.slotsUsed } : State) L mc ms := by
      refine ⟨?_, q2, q3, q4, q5, q6⟩
      obtain ⟨t, ht, -⟩ := State.frames_cons hr
      show ({ U with heap := s₂.heap, slotsUsed := s₂.slotsUsed } : State) = { U.setFrames U.frames with heap := s₂.heap, slotsUsed := s₂.slotsUsed }
      rw [State.setFrames_self ht]
    subst hg
    refine Or.inr ⟨q, ⟨(({ U with heap := s₂.heap, slotsUsed := s₂.slotsUsed } : State).setVm s₂.vm), Ls ++ L, c0 + mc, s0 + ms⟩,
      ⟨X.admits, X.cas, X.clock, X.frames, X.room, X.hears, X.method, X.code, (X.here.setHeapUsed s₂.heap s₂.slotsUsed).setVm hW'.alike, X.tail, State.WarmedH.trans X.warmed hW', X.limits, X.bytes, X.same.trans (hsame.setVm s.vm)⟩,
      ⟨g, mk, s₂, L, E, ce, rfl, rfl, hx, hce, hcv, hcl, rfl, hL, rfl, rfl⟩, ?_⟩
    show Steps p.tables e below _ (((({ U with heap := s₂.heap, slotsUsed := s₂.slotsUsed } : State).setVm s₂.vm).setTop g).pushFrame (.throwing q))
    rw [← hs₂]
    exact hsteps
end
variable {p : Program} {l : Launch} {e : Env} {R : Room} {s : State} {m : MethodId} {args : Array Value} {below : List Frame} {meth : Method} {c : Code} {T : State} {H : Heap} {locs : List Loc} {cells slots : Nat}
theorem vx_callVX (X : Stand p l e R s m args below meth c T locs cells slots) (hexec : p.tables.exec = Jvm.exec) {own C : String} {index : Nat} {y : MethodName} {bytes : ByteArray} {maxL : Nat} {ret : Option FieldType} {hh : List (Nat × Nat × Nat × Nat)}
    (hown : s.vm.findClass own = some m.cls) (hlink : (Cond.methodLink own index y).before args s = true) (hinst : (Cond.instanceMethod y).before args s = true) (hsel : (Cond.selects C y y).before args s = true)
    (hcode : (Cond.codeWith y bytes maxL ret hh).before args s = true) (hy : y.cls ≠ "java/lang/invoke/MethodHandle" ∧ y.cls ≠ "java/lang/invoke/VarHandle")
    {W9 : Nat} {Pre : Pt → Array Value → Prop} {Post : Pt → Array Value → Option Value → Pt → Prop} {PostX : Pt → Array Value → Addr → Pt → Prop} (hK : vx_Back l R p e below s args y 3 W9 Pre Post PostX)
    {b : Addr} {cellB : Cell} (hcell : T.heap[b]? = some cellB) (hobj : cellB.vm.isStatics = false) (hcls : s.vm.findClass C = some cellB.cls)
    {g : JFrame} (hg : g.method = m) (hsize : g.locals.size = c.maxLocals) {argsL rest : List Value} (hlen : ∀ sig, parseMethodDescriptor y.desc = some sig → argsL.length = sig.parameters.length)
    (hstack : g.stack = argsL.reverse ++ .ref b :: rest) (hW : 2 * g.monitorRoom + (rest.map fun v => v.category).sum ≤ W9) (hdg : decode c.code g.pc = .ok (.invokevirtual index, 3))
    (hpre : ∀ vm₁, s.WarmedH vm₁ → Pre ⟨T.setVm vm₁, locs, cells, slots⟩ (Value.ref b :: argsL).toArray) :
    (∃ (v : Option Value) (vm₁ : Vm) (B : Pt), s.WarmedH vm₁ ∧ Stand p l e R s m args below meth c B.U B.locs B.cells B.slots ∧ Post ⟨T.setVm vm₁, locs, cells, slots⟩ (Value.ref b :: argsL).toArray v B ∧
      ∀ target, Steps p.tables e below (B.U.setTop { g with pc := g.pc + 3, stack := v.toList ++ rest }) target → Steps p.tables e below (T.setTop g) target) ∨
    (∃ (q : Addr) (vm₁ : Vm) (B : Pt), s.WarmedH vm₁ ∧ Stand p l e R s m args below meth c B.U B.locs B.cells B.slots ∧ PostX ⟨T.setVm vm₁, locs, cells, slots⟩ (Value.ref b :: argsL).toArray q B ∧
      Steps p.tables e below (T.setTop g) ((B.U.setTop { g with stack := rest }).pushFrame (.throwing q))) := by
  obtain ⟨mk, methM, hnamed, hmethM, hstM, habM⟩ := Cond.instanceMethod_spec hinst
  obtain ⟨m8, methM', cM, hn8, hmethM', -, -, -, -, -, -, hsigM⟩ := Cond.codeWith_spec hcode
  cases Option.some.inj (hn8.symm.trans hnamed)
  cases hmethM.symm.trans hmethM'
  obtain ⟨c2, r2, m2, q1, q2, q3, q4, kP, hkP, hkPi⟩ := Cond.selects_spec hsel
  cases hcls.symm.trans q1
  cases (State.methodFound?_of_named hnamed hy).symm.trans q2
  cases hnamed.symm.trans q3
  have hselP : selectMethod e.platform s.vm cellB.cls mk = .method mk := by rw [Launch.admits_selectMethod X.admits]; exact q4
  obtain ⟨vm₁, X₁, hstep₁⟩ := X.invokevirtual hexec hown hlink hnamed hmethM hstM hkP hkPi hy (a := b) (cell := cellB) hcell
    (fun z h => by rw [h] at hobj; cases hobj) hselP hmethM habM hkP hkPi (g := g) hg (argsL := argsL) (rest := rest) (hlen _ hsigM) hstack hdg
  rcases hK m meth c ⟨T.setVm vm₁, locs, cells, slots⟩ { g with stack := rest } (.invokevirtual index) mk (Value.ref b :: argsL).toArray X₁ hg hsize hdg hW (X₁.named hnamed) (hpre vm₁ X₁.warmed) with ⟨v, B, X', hpost, hsteps⟩ | ⟨q, B, X', hpost, hsteps⟩
  · exact Or.inl ⟨v, vm₁, B, X₁.warmed, X', hpost, fun target h => hstep₁ _ fun acts => by rw [doInvoke_state]; exact hsteps.trans h⟩
  · exact Or.inr ⟨q, vm₁, B, X₁.warmed, X', hpost, hstep₁ _ fun acts => by rw [doInvoke_state]; exact hsteps⟩
theorem vx_callSX (X : Stand p l e R s m args below meth c T locs cells slots) (hexec : p.tables.exec = Jvm.exec) {own : String} {index : Nat} {y : MethodName} {bytes : ByteArray} {maxL : Nat} {ret : Option FieldType} {hh : List (Nat × Nat × Nat × Nat)}
    (hown : s.vm.findClass own = some m.cls) (hlink : (Cond.methodLink own index y).before args s = true) (hstat : (Cond.static y).before args s = true) (hinit : (Cond.initialized y.cls).before args s = true)
    (hcode : (Cond.codeWith y bytes maxL ret hh).before args s = true) (hy : y.cls ≠ "java/lang/invoke/MethodHandle" ∧ y.cls ≠ "java/lang/invoke/VarHandle")
    {W9 : Nat} {Pre : Pt → Array Value → Prop} {Post : Pt → Array Value → Option Value → Pt → Prop} {PostX : Pt → Array Value → Addr → Pt → Prop} (hK : vx_Back l R p e below s args y 3 W9 Pre Post PostX)
    {g : JFrame} (hg : g.method = m) (hsize : g.locals.size = c.maxLocals) {argsL rest : List Value} (hlen : ∀ sig, parseMethodDescriptor y.desc = some sig → argsL.length = sig.parameters.length)
    (hstack : g.stack = argsL.reverse ++ rest) (hW : 2 * g.monitorRoom + (rest.map fun v => v.category).sum ≤ W9) (hdg : decode c.code g.pc = .ok (.invokestatic index, 3))
    (hpre : ∀ vm₁, s.WarmedH vm₁ → Pre ⟨T.setVm vm₁, locs, cells, slots⟩ argsL.toArray) :
    (∃ (v : Option Value) (vm₁ : Vm) (B : Pt), s.WarmedH vm₁ ∧ Stand p l e R s m args below meth c B.U B.locs B.cells B.slots ∧ Post ⟨T.setVm vm₁, locs, cells, slots⟩ argsL.toArray v B ∧
      ∀ target, Steps p.tables e below (B.U.setTop { g with pc := g.pc + 3, stack := v.toList ++ rest }) target → Steps p.tables e below (T.setTop g) target) ∨
    (∃ (q : Addr) (vm₁ : Vm) (B : Pt), s.WarmedH vm₁ ∧ Stand p l e R s m args below meth c B.U B.locs B.cells B.slots ∧ PostX ⟨T.setVm vm₁, locs, cells, slots⟩ argsL.toArray q B ∧
      Steps p.tables e below (T.setTop g) ((B.U.setTop { g with stack := rest }).pushFrame (.throwing q))) := by
  obtain ⟨mk, methM, cM, hnamed, hmethM, -, -, -, -, -, -, hsigM⟩ := Cond.codeWith_spec hcode
  have hstatic : methM.isStatic = true := Cond.static_spec hnamed hmethM hstat
  obtain ⟨kP, hkP, -⟩ := className_of_methodNamed hnamed
  have hinitP : kP.init = .initialized := Cond.initialized_spec (findClass_of_methodNamed hnamed) hkP hinit
  obtain ⟨vm₁, X₁, hstep₁⟩ := X.invokestatic hexec hown hlink hnamed hmethM hstatic hkP hinitP hy (g := g) hg (argsL := argsL) (rest := rest) (hlen _ hsigM) hstack hdg
  rcases hK m meth c ⟨T.setVm vm₁, locs, cells, slots⟩ { g with stack := rest } (.invokestatic index) mk argsL.toArray X₁ hg hsize hdg hW (X₁.named hnamed) (hpre vm₁ X₁.warmed) with ⟨v, B, X', hpost, hsteps⟩ | ⟨q, B, X', hpost, hsteps⟩
  · exact Or.inl ⟨v, vm₁, B, X₁.warmed, X', hpost, fun target h => hstep₁ _ fun acts => by rw [doInvoke_state]; exact hsteps.trans h⟩
  · exact Or.inr ⟨q, vm₁, B, X₁.warmed, X', hpost, hstep₁ _ fun acts => by rw [doInvoke_state]; exact hsteps⟩
theorem vx_callVW (X : Stand p l e R s m args below meth c T locs cells slots) (hexec : p.tables.exec = Jvm.exec) {own C : String} {index : Nat} {y : MethodName} {bytes : ByteArray} {maxL : Nat} {ret : Option FieldType} {hh : List (Nat × Nat × Nat × Nat)}
    (hown : s.vm.findClass own = some m.cls) (hlink : (Cond.methodLink own index y).before args s = true) (hinst : (Cond.instanceMethod y).before args s = true) (hsel : (Cond.selects C y y).before args s = true)
    (hcode : (Cond.codeWith y bytes maxL ret hh).before args s = true) (hy : y.cls ≠ "java/lang/invoke/MethodHandle" ∧ y.cls ≠ "java/lang/invoke/VarHandle")
    {W9 : Nat} {Pre : Pt → Array Value → Prop} {Post : Pt → Array Value → Option Value → Pt → Prop} (hK : Back l R p e below s args y 3 W9 Pre Post)
    {b : Addr} {cellB : Cell} (hcell : T.heap[b]? = some cellB) (hobj : cellB.vm.isStatics = false) (hcls : s.vm.findClass C = some cellB.cls)
    {g : JFrame} (hg : g.method = m) (hsize : g.locals.size = c.maxLocals) {argsL rest : List Value} (hlen : ∀ sig, parseMethodDescriptor y.desc = some sig → argsL.length = sig.parameters.length)
    (hstack : g.stack = argsL.reverse ++ .ref b :: rest) (hW : 2 * g.monitorRoom + (rest.map fun v => v.category).sum ≤ W9) (hdg : decode c.code g.pc = .ok (.invokevirtual index, 3))
    (hpre : ∀ vm₁, s.WarmedH vm₁ → Pre ⟨T.setVm vm₁, locs, cells, slots⟩ (Value.ref b :: argsL).toArray) :
    ∃ (v : Option Value) (vm₁ : Vm) (B : Pt), s.WarmedH vm₁ ∧ Stand p l e R s m args below meth c B.U B.locs B.cells B.slots ∧ Post ⟨T.setVm vm₁, locs, cells, slots⟩ (Value.ref b :: argsL).toArray v B ∧
      ∀ target, Steps p.tables e below (B.U.setTop { g with pc := g.pc + 3, stack := v.toList ++ rest }) target → Steps p.tables e below (T.setTop g) target := by
  obtain ⟨mk, methM, hnamed, hmethM, hstM, habM⟩ := Cond.instanceMethod_spec hinst
  obtain ⟨m8, methM', cM, hn8, hmethM', -, -, -, -, -, -, hsigM⟩ := Cond.codeWith_spec hcode
  cases Option.some.inj (hn8.symm.trans hnamed)
  cases hmethM.symm.trans hmethM'
  obtain ⟨c2, r2, m2, q1, q2, q3, q4, kP, hkP, hkPi⟩ := Cond.selects_spec hsel
  cases hcls.symm.trans q1
  cases (State.methodFound?_of_named hnamed hy).symm.trans q2
  cases hnamed.symm.trans q3
  have hselP : selectMethod e.platform s.vm cellB.cls mk = .method mk := by rw [Launch.admits_selectMethod X.admits]; exact q4
  obtain ⟨vm₁, X₁, hstep₁⟩ := X.invokevirtual hexec hown hlink hnamed hmethM hstM hkP hkPi hy (a := b) (cell := cellB) hcell
    (fun z h => by rw [h] at hobj; cases hobj) hselP hmethM habM hkP hkPi (g := g) hg (argsL := argsL) (rest := rest) (hlen _ hsigM) hstack hdg
  obtain ⟨v, B, X', hpost, hsteps⟩ := hK m meth c ⟨T.setVm vm₁, locs, cells, slots⟩ { g with stack := rest } (.invokevirtual index) mk (Value.ref b :: argsL).toArray X₁ hg hsize hdg hW (X₁.named hnamed) (hpre vm₁ X₁.warmed)
  exact ⟨v, vm₁, B, X₁.warmed, X', hpost, fun target h => hstep₁ _ fun acts => by rw [doInvoke_state]; exact hsteps.trans h⟩
abbrev vx_CVW (R : Room) (s : State) (args : Array Value) (own C : String) (index : Nat) (y : MethodName) (bytes : ByteArray) (maxL : Nat) (ret : Option FieldType) (hh : List (Nat × Nat × Nat × Nat)) (ws : List Cond) (rm : Room) (mc ms n : Nat) : Prop :=
  (rm.cells = mc ∧ rm.slots = ms ∧ rm.frames + 1 ≤ R.frames ∧ 8 + (maxL + 11) + rm.locals ≤ R.locals ∧ (∀ w ∈ ws, ∀ (a' : Array Value) (U : State), s.WarmedH U.vm → w.before a' U = true) ∧ Cond.codeWith y bytes maxL ret hh ∈ ws) ∧
  (Cond.codeWith y bytes maxL ret hh).before args s = true ∧ (Cond.initialized y.cls).before args s = true ∧ (y.cls ≠ "java/lang/invoke/MethodHandle" ∧ y.cls ≠ "java/lang/invoke/VarHandle") ∧
  (∀ sig, parseMethodDescriptor y.desc = some sig → n = sig.parameters.length) ∧ (Cond.methodLink own index y).before args s = true ∧ (Cond.instanceMethod y).before args s = true ∧ (Cond.selects C y y).before args s = true
theorem vx_cwVW {own C : String} {index maxL mc ms : Nat} {y : MethodName} {bytes : ByteArray} {ret : Option FieldType} {hh : List (Nat × Nat × Nat × Nat)} {Ts ws ws' : List Cond} {rm : Room} (n : Nat) (ht : ∀ w ∈ Ts, w.before args s = true) (hT : GoodIn Ts (wsV own index C y ws)) (hw : ws = Cond.codeWith y bytes maxL ret hh :: ws') (hrc : rm.cells = mc) (hrs : rm.slots = ms)
    (hd : y.cls = C ∧ y.cls ≠ "java/lang/invoke/MethodHandle" ∧ y.cls ≠ "java/lang/invoke/VarHandle" ∧ (parseMethodDescriptor y.desc).map (fun d => d.parameters.length) = some n) (hR : rm.frames + 1 ≤ R.frames ∧ 8 + (maxL + 11) + rm.locals ≤ R.locals) :
    vx_CVW R s args own C index y bytes maxL ret hh ws rm mc ms n := by
  obtain ⟨hC, hd⟩ := hd
  subst hC
  have ok : ∀ w ∈ wsV own index y.cls y ws, w.before args s = true := fun w h => ht w (hT w h).1
  have hG : GoodIn Ts ws := fun w h => hT w (by unfold wsV; exact List.mem_append_right _ h)
  have hc : Cond.codeWith y bytes maxL ret hh ∈ ws := by rw [hw]; exact List.mem_cons_self
  refine ⟨⟨hrc, hrs, hR.1, hR.2, pay_in ht hG, hc⟩, ht _ (hG _ hc).1, ok _ (by simp [wsV]), ⟨hd.1, hd.2.1⟩, fun sig h => ?_, ok _ (by simp [wsV]), ok _ (by simp [wsV]), ok _ (by simp [wsV])⟩
  have h2 := hd.2.2
  rw [h] at h2
  exact (Option.some.inj h2).symm
theorem vx_runVW {y : MethodName} {bytes cc : ByteArray} {maxL nL mc ms n index : Nat} {ret : Option FieldType} {hh : List (Nat × Nat × Nat × Nat)} {ws : List Cond} {rm : Room} {Pc : Array Value → State → Prop} {Qc : Array Value → State → Outcome → State → Prop} {free : Addr → Prop} {Ts : List Cond} {own C : String} {b : Addr} {As rest : List Value} {g : JFrame}
    (S : CallFix p m c cc nL s args Ts own) (hM : Met l y ws rm Pc Qc mc ms free) (cw : vx_CVW R s args own C index y bytes maxL ret hh ws rm mc ms n) (hp : PreV s H C b Pc As)
    (hg : g.method = m) (hn : As.length = n) (hsize : g.locals.size = nL) (hstack : g.stack = As.reverse ++ .ref b :: rest) (hW : 2 * g.monitorRoom + (rest.map fun v => v.category).sum ≤ 8) (hdg : decode cc g.pc = .ok (.invokevirtual index, 3)) (hf : cells + mc ≤ R.cells ∧ slots + ms ≤ R.slots) :
    va_Run p l e R s m args below meth c H locs cells slots mc ms g rest (Qc (Value.ref b :: As).toArray) free := by
  obtain ⟨⟨hrc, hrs, hfr, hlo, hws, hcw⟩, hcode, hini, hy, hlen, hl, hin, hse⟩ := cw
  have hK : Back l R p e below s args y 3 8 (PreOf R mc ms Pc) (PostOf Qc mc ms free) := va_backW (hh := hh) (bytes := bytes) (maxL := maxL) (ret := ret) hM hp.1 hrc hrs hfr hlo hws hcw (fun a' U hW => word_at hW (Or.inl (by first | rfl | simp [Cond.onTables, Cond.keeps, Cond.steady])) hini)
  obtain ⟨hx, hb, hml, ho, -⟩ := S
  obtain ⟨-, ⟨cellB, hcB, hoB, hclB⟩, hPc⟩ := hp
  intro T hT X
  obtain ⟨v, vm₁, ⟨U', l2, c2, s2⟩, hW₁, X', ⟨g', mk, t, L, e1, e2, hq, h1, hL, h2, h3⟩, st⟩ := vx_callVW X hx (C := C) (hh := hh) (bytes := bytes) (maxL := maxL) (ret := ret) ho hl hin hse hcode hy hK (by rw [hT]; exact hcB) hoB hclB hg (hsize.trans hml.symm) (argsL := As) (rest := rest) (fun sig h => hn.trans (hlen sig h)) hstack hW (by rw [hb]; exact hdg)
    (fun vm₁ hW₁ => ⟨hf.1, hf.2, hPc (T.setVm vm₁) hT hW₁⟩)
  dsimp only [Pt.U, Pt.locs, Pt.cells, Pt.slots] at X' e1 e2 h1 h2 h3 st
  subst h1; subst h2; subst h3
  exact ⟨v, (T.setVm vm₁).calling g' mk (Value.ref b :: As).toArray, t, U', L, hT, X', hL, e1, e2, hq, st⟩
section
variable {y : MethodName} {bytes cc : ByteArray} {maxL nL mc ms n index : Nat} {ret : Option FieldType} {ws : List Cond} {rm : Room} {Pc : Array Value → State → Prop} {Qc : Array Value → State → Outcome → State → Prop} {XC : String → State → State → Prop} {free : Addr → Prop} {Ts : List Cond} {own C : String} {b : Addr} {As rest : List Value} {g : JFrame}
theorem vx_runVX {hh : List (Nat × Nat × Nat × Nat)} (S : CallFix p m c cc nL s args Ts own) (hM : vx_Met l y ws rm Pc Qc XC mc ms free) (cw : vx_CVW R s args own C index y bytes maxL ret hh ws rm mc ms n) (hp : PreV s H C b Pc As)
    (hg : g.method = m) (hn : As.length = n) (hsize : g.locals.size = nL) (hstack : g.stack = As.reverse ++ .ref b :: rest) (hW : 2 * g.monitorRoom + (rest.map fun v => v.category).sum ≤ 8) (hdg : decode cc g.pc = .ok (.invokevirtual index, 3)) (hf : cells + mc ≤ R.cells ∧ slots + ms ≤ R.slots) :
    vx_Run p l e R s m args below meth c H locs cells slots mc ms g rest (Qc (Value.ref b :: As).toArray) XC free := by
  obtain ⟨⟨hrc, hrs, hfr, hlo, hws, hcw⟩, hcode, hini, hy, hlen, hl, hin, hse⟩ := cw
  have hK : vx_Back l R p e below s args y 3 8 (PreOf R mc ms Pc) (PostOf Qc mc ms free) (vx_Post XC mc ms free) := vx_backW (hh := hh) (bytes := bytes) (maxL := maxL) (ret := ret) hM hp.1 hrc hrs hfr hlo hws hcw (fun a' U hW => word_at hW (Or.inl (by first | rfl | simp [Cond.onTables, Cond.keeps, Cond.steady])) hini)
  obtain ⟨hx, hb, hml, ho, -⟩ := S
  obtain ⟨-, ⟨cellB, hcB, hoB, hclB⟩, hPc⟩ := hp
  intro T hT X
  rcases vx_callVX X hx (C := C) (hh := hh) (bytes := bytes) (maxL := maxL) (ret := ret) ho hl hin hse hcode hy hK (by rw [hT]; exact hcB) hoB hclB hg (hsize.trans hml.symm) (argsL := As) (rest := rest) (fun sig h => hn.trans (hlen sig h)) hstack hW (by rw [hb]; exact hdg)
    (fun vm₁ hW₁ => ⟨hf.1, hf.2, hPc (T.setVm vm₁) hT hW₁⟩) with ⟨v, vm₁, ⟨U', l2, c2, s2⟩, hW₁, X', ⟨g', mk, t, L, e1, e2, hq, h1, hL, h2, h3⟩, st⟩ | ⟨q, vm₁, ⟨U', l2, c2, s2⟩, hW₁, X', ⟨g', mk, t, L, E, ce, e1, e2, hq, hce, hcv, hcl, h1, hL, h2, h3⟩, st⟩
  · dsimp only [Pt.U, Pt.locs, Pt.cells, Pt.slots] at X' e1 e2 h1 h2 h3 st
    subst h1; subst h2; subst h3
    exact Or.inl ⟨v, (T.setVm vm₁).calling g' mk (Value.ref b :: As).toArray, t, U', L, hT, X', hL, e1, e2, hq, st⟩
  · dsimp only [Pt.U, Pt.locs, Pt.cells, Pt.slots] at X' e1 e2 h1 h2 h3 st hcl
    subst h1; subst h2; subst h3
    exact Or.inr ⟨q, (T.setVm vm₁).calling g' mk (Value.ref b :: As).toArray, t, U', L, E, ce, hT, X', hL, e1, e2, hq, hce, hcv, vx_cls hW₁ hcl, st⟩
theorem vx_runSX {hh : List (Nat × Nat × Nat × Nat)} (S : CallFix p m c cc nL s args Ts own) (hM : vx_Met l y ws rm Pc Qc XC mc ms free) (cw : vx_CSW R s args own index y bytes maxL ret hh ws rm mc ms n) (hp : PreS s H Pc As)
    (hg : g.method = m) (hn : As.length = n) (hsize : g.locals.size = nL) (hstack : g.stack = As.reverse ++ rest) (hW : 2 * g.monitorRoom + (rest.map fun v => v.category).sum ≤ 8) (hdg : decode cc g.pc = .ok (.invokestatic index, 3)) (hf : cells + mc ≤ R.cells ∧ slots + ms ≤ R.slots) :
    vx_Run p l e R s m args below meth c H locs cells slots mc ms g rest (Qc As.toArray) XC free := by
  obtain ⟨⟨hrc, hrs, hfr, hlo, hws, hcw⟩, hcode, hini, hy, hlen, hl, hstt⟩ := cw
  have hK : vx_Back l R p e below s args y 3 8 (PreOf R mc ms Pc) (PostOf Qc mc ms free) (vx_Post XC mc ms free) := vx_backW (hh := hh) (bytes := bytes) (maxL := maxL) (ret := ret) hM hp.1 hrc hrs hfr hlo hws hcw (fun a' U hW => word_at hW (Or.inl (by first | rfl | simp [Cond.onTables, Cond.keeps, Cond.steady])) hini)
  obtain ⟨hx, hb, hml, ho, -⟩ := S
  intro T hT X
  rcases vx_callSX X hx (hh := hh) (bytes := bytes) (maxL := maxL) (ret := ret) ho hl hstt hini hcode hy hK hg (hsize.trans hml.symm) (argsL := As) (rest := rest) (fun sig h => hn.trans (hlen sig h)) hstack hW (by rw [hb]; exact hdg)
    (fun vm₁ hW₁ => ⟨hf.1, hf.2, hp.2 (T.setVm vm₁) hT hW₁⟩) with ⟨v, vm₁, ⟨U', l2, c2, s2⟩, hW₁, X', ⟨g', mk, t, L, e1, e2, hq, h1, hL, h2, h3⟩, st⟩ | ⟨q, vm₁, ⟨U', l2, c2, s2⟩, hW₁, X', ⟨g', mk, t, L, E, ce, e1, e2, hq, hce, hcv, hcl, h1, hL, h2, h3⟩, st⟩
  · dsimp only [Pt.U, Pt.locs, Pt.cells, Pt.slots] at X' e1 e2 h1 h2 h3 st
    subst h1; subst h2; subst h3
    exact Or.inl ⟨v, (T.setVm vm₁).calling g' mk As.toArray, t, U', L, hT, X', hL, e1, e2, hq, st⟩
  · dsimp only [Pt.U, Pt.locs, Pt.cells, Pt.slots] at X' e1 e2 h1 h2 h3 st hcl
    subst h1; subst h2; subst h3
    exact Or.inr ⟨q, (T.setVm vm₁).calling g' mk As.toArray, t, U', L, E, ce, hT, X', hL, e1, e2, hq, hce, hcv, vx_cls hW₁ hcl, st⟩
end
end VXH
theorem vx_ofWH {l : Launch} {y : MethodName} {ws ws' : List Cond} {rm : Room} {Pc : Array Value → State → Prop} {Qc : Array Value → State → Outcome → State → Prop} {XC : String → State → State → Prop} {mc ms : Nat} {free : Addr → Prop} {cc : ByteArray} {maxL : Nat} {ret : Option FieldType} {hh : List (Nat × Nat × Nat × Nat)}
    (hy : plainName y.cls = true) (hw : ws = Cond.codeWith y cc maxL ret hh :: ws')
    (body : ∀ p e s m args below meth c s₁, BodyLoose p l y (headSpec ws rm) cc maxL ret e s m args below meth c s₁ → c.maxLocals = maxL → Pc args s →
      W p l e (headSpec ws rm).room s m args below meth c s.heap [] 0 0 (vx_MQ below Qc XC args s mc ms free) (entryFrame m args maxL)) : vx_Met l y ws rm Pc Qc XC mc ms free := by
  refine MetFree.of_bodyS (code := cc) (maxLocals := maxL) (ret := ret) hy ?_ ?_
  · intro args s m h hn
    obtain ⟨m9, meth, c, hn9, h1, h2, h3, h4, -, h5, h6, -⟩ := Cond.codeWith_spec (atoms_spec (ws := ws) h _ (by rw [hw]; exact List.mem_cons_self))
    cases hn.symm.trans hn9
    exact ⟨meth, c, h1, h2, h3, h4, h5, h6⟩
  · intro p e s m args below meth c s₁ B hml hP _
    have hh0 : s₁.heap = s.heap := by rw [B.state]; rfl
    obtain ⟨t, a1, o, b1, b2, b3⟩ := body p e s m args below meth c s₁ B hml hP s₁ hh0 (Stand.of_body B)
    exact ⟨t, o, a1, b1, b2, b3⟩
/-! ===== END ===== -/
end
section
/-! names, fields -/
def RX0 : String := "MaterialBars$Good"
def TX0 : u_T := fun k => match k with
  | 0 => ("MaterialBars$Good", "amount", "I", false)
  | 1 => ("MaterialBars$Good", "came", "J", false)
  | 2 => ("MaterialBars$Good", "went", "J", false)
  | 3 => ("MaterialBars$Good", "shelf", "I", false)
  | _ => ("MaterialBars$Good", "apartFrom", "I", false)
def tyX0 : Nat → FieldType := fun k => match k with
  | 0 => .int
  | 1 => .long
  | 2 => .long
  | 3 => .int
  | _ => .int
abbrev wsX00 : List Cond := u_ws RX0 TX0 5
theorem nmX0 : ∀ a, a < 5 → ∀ b, b < 5 → a ≠ b → (TX0 a).2.1 ≠ (TX0 b).2.1 := by decide +kernel
theorem tyX0_ok : ∀ k, k < 5 → parseFieldDescriptor (TX0 k).2.2.1 = some (tyX0 k) := by decide +kernel
def RX1 : String := "MaterialBars$Method"
def TX1 : u_T := fun k => match k with
  | 0 => ("MaterialBars$Method", "amounts", "[I", true)
  | 1 => ("MaterialBars$Method", "hours", "[I", true)
  | 2 => ("MaterialBars$Method", "barred", "I", false)
  | 3 => ("MaterialBars$Method", "notBehind", "I", false)
  | 4 => ("MaterialBars$Method", "after", "I", false)
  | 5 => ("MaterialBars$Method", "needsTrial", "Z", false)
  | 6 => ("MaterialBars$Method", "needsTwo", "Z", false)
  | 7 => ("MaterialBars$Method", "persons", "I", false)
  | _ => ("MaterialBars$Method", "goodTrials", "I", false)
def tyX1 : Nat → FieldType := fun k => match k with
  | 0 => .array .int
  | 1 => .array .int
  | 2 => .int
  | 3 => .int
  | 4 => .int
  | 5 => .boolean
  | 6 => .boolean
  | 7 => .int
  | _ => .int
abbrev wsX10 : List Cond := u_ws RX1 TX1 9
theorem nmX1 : ∀ a, a < 9 → ∀ b, b < 9 → a ≠ b → (TX1 a).2.1 ≠ (TX1 b).2.1 := by decide +kernel
theorem tyX1_ok : ∀ k, k < 9 → parseFieldDescriptor (TX1 k).2.2.1 = some (tyX1 k) := by decide +kernel
def RX2 : String := "MaterialBars$Pad"
def TX2 : u_T := fun k => match k with
  | 0 => ("MaterialBars$Pad", "signs", "[I", true)
  | 1 => ("MaterialBars$Pad", "length", "I", false)
  | _ => ("MaterialBars$Pad", "at", "I", false)
def tyX2 : Nat → FieldType := fun k => match k with
  | 0 => .array .int
  | 1 => .int
  | _ => .int
abbrev wsX20 : List Cond := u_ws RX2 TX2 3
theorem nmX2 : ∀ a, a < 3 → ∀ b, b < 3 → a ≠ b → (TX2 a).2.1 ≠ (TX2 b).2.1 := by decide +kernel
theorem tyX2_ok : ∀ k, k < 3 → parseFieldDescriptor (TX2 k).2.2.1 = some (tyX2 k) := by decide +kernel
def RX3 : String := "MaterialBars$Piece"
def TX3 : u_T := fun k => match k with
  | 0 => ("MaterialBars$Piece", "parts", "[I", true)
  | 1 => ("MaterialBars$Piece", "rows", "[I", true)
  | 2 => ("MaterialBars$Piece", "latest", "[I", true)
  | 3 => ("MaterialBars$Piece", "partCount", "I", false)
  | 4 => ("MaterialBars$Piece", "rowCount", "I", false)
  | 5 => ("MaterialBars$Piece", "materials", "I", false)
  | 6 => ("MaterialBars$Piece", "doneMethods", "I", false)
  | _ => ("MaterialBars$Piece", "latestHour", "I", false)
def tyX3 : Nat → FieldType := fun k => match k with
  | 0 => .array .int
  | 1 => .array .int
  | 2 => .array .int
  | 3 => .int
  | 4 => .int
  | 5 => .int
  | 6 => .int
  | _ => .int
abbrev wsX30 : List Cond := u_ws RX3 TX3 8
theorem nmX3 : ∀ a, a < 8 → ∀ b, b < 8 → a ≠ b → (TX3 a).2.1 ≠ (TX3 b).2.1 := by decide +kernel
theorem tyX3_ok : ∀ k, k < 8 → parseFieldDescriptor (TX3 k).2.2.1 = some (tyX3 k) := by decide +kernel
def RX4 : String := "MaterialBars"
def TX4 : u_T := fun k => match k with
  | 0 => ("MaterialBars", "pad", "LMaterialBars$Pad;", true)
  | 1 => ("MaterialBars", "methods", "[LMaterialBars$Method;", true)
  | 2 => ("MaterialBars", "pieces", "[LMaterialBars$Piece;", true)
  | 3 => ("MaterialBars", "goods", "[LMaterialBars$Good;", true)
  | 4 => ("MaterialBars", "planned", "[I", true)
  | 5 => ("MaterialBars", "draft", "[I", true)
  | 6 => ("MaterialBars", "methodCount", "I", false)
  | 7 => ("MaterialBars", "pieceCount", "I", false)
  | _ => ("MaterialBars", "plannedCount", "I", false)
def tyX4 : Nat → FieldType := fun k => match k with
  | 0 => .object "MaterialBars$Pad"
  | 1 => .array (.object "MaterialBars$Method")
  | 2 => .array (.object "MaterialBars$Piece")
  | 3 => .array (.object "MaterialBars$Good")
  | 4 => .array .int
  | 5 => .array .int
  | 6 => .int
  | 7 => .int
  | _ => .int
abbrev wsX40 : List Cond := u_ws RX4 TX4 9
theorem nmX4 : ∀ a, a < 9 → ∀ b, b < 9 → a ≠ b → (TX4 a).2.1 ≠ (TX4 b).2.1 := by decide +kernel
theorem tyX4_ok : ∀ k, k < 9 → parseFieldDescriptor (TX4 k).2.2.1 = some (tyX4 k) := by decide +kernel
def RX5 : String := "MaterialBarsModel"
def TX5 : u_T := fun k => match k with
  | 0 => ("MaterialBarsModel", "thrown", "I", false)
  | 1 => ("MaterialBarsModel", "padded", "I", false)
  | 2 => ("MaterialBarsModel", "pad", "[I", true)
  | 3 => ("MaterialBarsModel", "methods", "I", false)
  | 4 => ("MaterialBarsModel", "many", "[I", true)
  | 5 => ("MaterialBarsModel", "letters", "[I", true)
  | 6 => ("MaterialBarsModel", "firsts", "[I", true)
  | 7 => ("MaterialBarsModel", "seconds", "[I", true)
  | 8 => ("MaterialBarsModel", "trials", "[Z", true)
  | 9 => ("MaterialBarsModel", "rights", "[Z", true)
  | 10 => ("MaterialBarsModel", "objects", "I", false)
  | 11 => ("MaterialBarsModel", "parts", "[I", true)
  | 12 => ("MaterialBarsModel", "materials", "[I", true)
  | 13 => ("MaterialBarsModel", "rows", "[I", true)
  | 14 => ("MaterialBarsModel", "rowMethods", "[I", true)
  | 15 => ("MaterialBarsModel", "rowHours", "[I", true)
  | 16 => ("MaterialBarsModel", "rowPersons", "[I", true)
  | 17 => ("MaterialBarsModel", "rowSeconds", "[I", true)
  | 18 => ("MaterialBarsModel", "stocks", "[I", true)
  | 19 => ("MaterialBarsModel", "came", "[J", true)
  | 20 => ("MaterialBarsModel", "went", "[J", true)
  | 21 => ("MaterialBarsModel", "shelves", "[I", true)
  | 22 => ("MaterialBarsModel", "apart", "[Z", true)
  | 23 => ("MaterialBarsModel", "steps", "I", false)
  | 24 => ("MaterialBarsModel", "plan", "[I", true)
  | 25 => ("MaterialBarsModel", "chosen", "[I", true)
  | _ => ("MaterialBarsModel", "ends", "[Z", true)
def tyX5 : Nat → FieldType := fun k => match k with
  | 0 => .int
  | 1 => .int
  | 2 => .array .int
  | 3 => .int
  | 4 => .array .int
  | 5 => .array .int
  | 6 => .array .int
  | 7 => .array .int
  | 8 => .array .boolean
  | 9 => .array .boolean
  | 10 => .int
  | 11 => .array .int
  | 12 => .array .int
  | 13 => .array .int
  | 14 => .array .int
  | 15 => .array .int
  | 16 => .array .int
  | 17 => .array .int
  | 18 => .array .int
  | 19 => .array .long
  | 20 => .array .long
  | 21 => .array .int
  | 22 => .array .boolean
  | 23 => .int
  | 24 => .array .int
  | 25 => .array .int
  | _ => .array .boolean
abbrev wsX50 : List Cond := u_ws RX5 TX5 27
theorem nmX5 : ∀ a, a < 27 → ∀ b, b < 27 → a ≠ b → (TX5 a).2.1 ≠ (TX5 b).2.1 := by decide +kernel
theorem tyX5_ok : ∀ k, k < 27 → parseFieldDescriptor (TX5 k).2.2.1 = some (tyX5 k) := by decide +kernel
def RL : String := "MaterialBarsLaw"
def RJ6 : String := "java/lang/Integer"
abbrev vwCl : List vw_C := [(RX0, TX0, 5), (RX1, TX1, 9), (RX2, TX2, 3), (RX3, TX3, 8), (RX4, TX4, 9), (RX5, TX5, 27)]
/-- the good words of the tables -/
def T0 : List Cond := lw_tbl.filter goodWord
theorem T0_in {w : Cond} (h : w ∈ lw_tbl) (hg : goodWord w = true) : w ∈ T0 := List.mem_filter.mpr ⟨h, hg⟩
theorem T0_lw {w : Cond} (h : w ∈ T0) : w ∈ lw_tbl := (List.mem_filter.mp h).1
theorem gT {c c1 : Cond} (h : c1 ∈ T0) : GoodIn (c :: T0) (c1 :: T0) := fun w hw => by
  rcases List.mem_cons.mp hw with rfl | h1
  · exact ⟨List.mem_cons_of_mem _ h, good_of_word (List.mem_filter.mp h).2⟩
  · exact ⟨List.mem_cons_of_mem _ h1, good_of_word (List.mem_filter.mp h1).2⟩
theorem gT0 {c1 : Cond} (h : c1 ∈ T0) : GoodIn T0 (c1 :: T0) := fun w hw => by
  rcases List.mem_cons.mp hw with rfl | h1
  · exact ⟨h, good_of_word (List.mem_filter.mp h).2⟩
  · exact ⟨h1, good_of_word (List.mem_filter.mp h1).2⟩
theorem inX0 : ∀ w ∈ wsX00, w ∈ T0 := fun w h => T0_in ((by decide +kernel : ∀ w ∈ wsX00, w ∈ lw_tbl) w h) ((by decide +kernel : ∀ w ∈ wsX00, goodWord w = true) w h)
theorem inX1 : ∀ w ∈ wsX10, w ∈ T0 := fun w h => T0_in ((by decide +kernel : ∀ w ∈ wsX10, w ∈ lw_tbl) w h) ((by decide +kernel : ∀ w ∈ wsX10, goodWord w = true) w h)
theorem inX2 : ∀ w ∈ wsX20, w ∈ T0 := fun w h => T0_in ((by decide +kernel : ∀ w ∈ wsX20, w ∈ lw_tbl) w h) ((by decide +kernel : ∀ w ∈ wsX20, goodWord w = true) w h)
theorem inX3 : ∀ w ∈ wsX30, w ∈ T0 := fun w h => T0_in ((by decide +kernel : ∀ w ∈ wsX30, w ∈ lw_tbl) w h) ((by decide +kernel : ∀ w ∈ wsX30, goodWord w = true) w h)
theorem inX4 : ∀ w ∈ wsX40, w ∈ T0 := fun w h => T0_in ((by decide +kernel : ∀ w ∈ wsX40, w ∈ lw_tbl) w h) ((by decide +kernel : ∀ w ∈ wsX40, goodWord w = true) w h)
theorem inX5 : ∀ w ∈ wsX50, w ∈ T0 := fun w h => T0_in ((by decide +kernel : ∀ w ∈ wsX50, w ∈ lw_tbl) w h) ((by decide +kernel : ∀ w ∈ wsX50, goodWord w = true) w h)
abbrev cX4_init : ByteArray := prog_1_method_1_code
def yX4_init : MethodName := ⟨"MaterialBars", "<init>", "()V"⟩
abbrev wsX4_init : List Cond := .code yX4_init cX4_init 2 none :: T0
abbrev cX4_unit : ByteArray := prog_1_method_2_code
def yX4_unit : MethodName := ⟨"MaterialBars", "unit", "(I)I"⟩
abbrev wsX4_unit : List Cond := .code yX4_unit cX4_unit 2 (some .int) :: T0
abbrev cX4_read : ByteArray := prog_1_method_3_code
def yX4_read : MethodName := ⟨"MaterialBars", "read", "()I"⟩
abbrev wsX4_read : List Cond := .code yX4_read cX4_read 3 (some .int) :: T0
abbrev cX4_uses : ByteArray := prog_1_method_4_code
def yX4_uses : MethodName := ⟨"MaterialBars", "uses", "(II)I"⟩
abbrev wsX4_uses : List Cond := .code yX4_uses cX4_uses 4 (some .int) :: T0
abbrev cX4_object : ByteArray := prog_1_method_5_code
def yX4_object : MethodName := ⟨"MaterialBars", "object", "()I"⟩
abbrev wsX4_object : List Cond := .code yX4_object cX4_object 1 (some .int) :: T0
abbrev cX4_part : ByteArray := prog_1_method_6_code
def yX4_part : MethodName := ⟨"MaterialBars", "part", "(II)I"⟩
abbrev wsX4_part : List Cond := .code yX4_part cX4_part 4 (some .int) :: T0
abbrev cX4_right : ByteArray := prog_1_method_7_code
def yX4_right : MethodName := ⟨"MaterialBars", "right", "(IIZ)Z"⟩
abbrev wsX4_right : List Cond := .code yX4_right cX4_right 6 (some .boolean) :: T0
abbrev cX4_trial : ByteArray := prog_1_method_8_code
def yX4_trial : MethodName := ⟨"MaterialBars", "trial", "(IIZ)Z"⟩
abbrev wsX4_trial : List Cond := .code yX4_trial cX4_trial 6 (some .boolean) :: T0
abbrev cX4_reason : ByteArray := prog_1_method_9_code
def yX4_reason : MethodName := ⟨"MaterialBars", "reason", "(IIII)I"⟩
abbrev wsX4_reason : List Cond := .code yX4_reason cX4_reason 7 (some .int) :: T0
abbrev cX4_done : ByteArray := prog_1_method_10_code
def yX4_done : MethodName := ⟨"MaterialBars", "done", "(IIIII)I"⟩
abbrev wsX4_done : List Cond := .code yX4_done cX4_done 9 (some .int) :: T0
abbrev cX4_row : ByteArray := prog_1_method_11_code
def yX4_row : MethodName := ⟨"MaterialBars", "row", "(III)I"⟩
abbrev wsX4_row : List Cond := .code yX4_row cX4_row 5 (some .int) :: T0
abbrev cX4_stock : ByteArray := prog_1_method_12_code
def yX4_stock : MethodName := ⟨"MaterialBars", "stock", "(II)I"⟩
abbrev wsX4_stock : List Cond := .code yX4_stock cX4_stock 5 (some .int) :: T0
abbrev cX4_about : ByteArray := prog_1_method_13_code
def yX4_about : MethodName := ⟨"MaterialBars", "about", "(II)J"⟩
abbrev wsX4_about : List Cond := .code yX4_about cX4_about 4 (some .long) :: T0
abbrev cX4_apart : ByteArray := prog_1_method_14_code
def yX4_apart : MethodName := ⟨"MaterialBars", "apart", "(II)Z"⟩
abbrev wsX4_apart : List Cond := .code yX4_apart cX4_apart 5 (some .boolean) :: T0
abbrev cX4_put : ByteArray := prog_1_method_15_code
def yX4_put : MethodName := ⟨"MaterialBars", "put", "(II)I"⟩
abbrev wsX4_put : List Cond := .code yX4_put cX4_put 5 (some .int) :: T0
abbrev cX4_plan : ByteArray := prog_1_method_16_code
def yX4_plan : MethodName := ⟨"MaterialBars", "plan", "(II)I"⟩
abbrev wsX4_plan : List Cond := .code yX4_plan cX4_plan 6 (some .int) :: T0
abbrev cX4_step : ByteArray := prog_1_method_17_code
def yX4_step : MethodName := ⟨"MaterialBars", "step", "(I)I"⟩
abbrev wsX4_step : List Cond := .code yX4_step cX4_step 2 (some .int) :: T0
abbrev cX4_count : ByteArray := prog_1_method_18_code
def yX4_count : MethodName := ⟨"MaterialBars", "count", "(I)I"⟩
abbrev wsX4_count : List Cond := .code yX4_count cX4_count 2 (some .int) :: T0
abbrev cX4_checkPlace : ByteArray := prog_1_method_19_code
def yX4_checkPlace : MethodName := ⟨"MaterialBars", "checkPlace", "(II)V"⟩
abbrev wsX4_checkPlace : List Cond := .code yX4_checkPlace cX4_checkPlace 2 none :: T0
abbrev cX4_checkHour : ByteArray := prog_1_method_20_code
def yX4_checkHour : MethodName := ⟨"MaterialBars", "checkHour", "(II)V"⟩
abbrev wsX4_checkHour : List Cond := .code yX4_checkHour cX4_checkHour 2 none :: T0
abbrev cX4_methodAt : ByteArray := prog_1_method_21_code
def yX4_methodAt : MethodName := ⟨"MaterialBars", "methodAt", "(I)LMaterialBars$Method;"⟩
abbrev wsX4_methodAt : List Cond := .code yX4_methodAt cX4_methodAt 2 (some (.object "MaterialBars$Method")) :: T0
abbrev cX4_pieceAt : ByteArray := prog_1_method_22_code
def yX4_pieceAt : MethodName := ⟨"MaterialBars", "pieceAt", "(I)LMaterialBars$Piece;"⟩
abbrev wsX4_pieceAt : List Cond := .code yX4_pieceAt cX4_pieceAt 2 (some (.object "MaterialBars$Piece")) :: T0
abbrev cX4_goodAt : ByteArray := prog_1_method_23_code
def yX4_goodAt : MethodName := ⟨"MaterialBars", "goodAt", "(I)LMaterialBars$Good;"⟩
abbrev wsX4_goodAt : List Cond := .code yX4_goodAt cX4_goodAt 2 (some (.object "MaterialBars$Good")) :: T0
abbrev cX4_has : ByteArray := prog_1_method_24_code
def yX4_has : MethodName := ⟨"MaterialBars", "has", "(II)Z"⟩
abbrev wsX4_has : List Cond := .code yX4_has cX4_has 2 (some .boolean) :: T0
abbrev cX4_with : ByteArray := prog_1_method_25_code
def yX4_with : MethodName := ⟨"MaterialBars", "with", "(IIZ)I"⟩
abbrev wsX4_with : List Cond := .code yX4_with cX4_with 3 (some .int) :: T0
abbrev cX4_lowest : ByteArray := prog_1_method_26_code
def yX4_lowest : MethodName := ⟨"MaterialBars", "lowest", "(I)I"⟩
abbrev wsX4_lowest : List Cond := .code yX4_lowest cX4_lowest 2 (some .int) :: T0
abbrev cX4_reasonAgainst : ByteArray := prog_1_method_27_code
def yX4_reasonAgainst : MethodName := ⟨"MaterialBars", "reasonAgainst", "(LMaterialBars$Piece;LMaterialBars$Method;II)I"⟩
abbrev wsX4_reasonAgainst : List Cond := .code yX4_reasonAgainst cX4_reasonAgainst 10 (some .int) :: T0
abbrev cX4_lowestNotLongEnoughAgo : ByteArray := prog_1_method_28_code
def yX4_lowestNotLongEnoughAgo : MethodName := ⟨"MaterialBars", "lowestNotLongEnoughAgo", "(LMaterialBars$Piece;LMaterialBars$Method;I)I"⟩
abbrev wsX4_lowestNotLongEnoughAgo : List Cond := .code yX4_lowestNotLongEnoughAgo cX4_lowestNotLongEnoughAgo 4 (some .int) :: T0
abbrev cX4_lowestLacking : ByteArray := prog_1_method_29_code
def yX4_lowestLacking : MethodName := ⟨"MaterialBars", "lowestLacking", "(LMaterialBars$Method;)I"⟩
abbrev wsX4_lowestLacking : List Cond := .code yX4_lowestLacking cX4_lowestLacking 3 (some .int) :: T0
abbrev cX4_takeWhatGoes : ByteArray := prog_1_method_30_code
def yX4_takeWhatGoes : MethodName := ⟨"MaterialBars", "takeWhatGoes", "(LMaterialBars$Method;)V"⟩
abbrev wsX4_takeWhatGoes : List Cond := .code yX4_takeWhatGoes cX4_takeWhatGoes 3 none :: T0
abbrev cX4_goodsOn : ByteArray := prog_1_method_31_code
def yX4_goodsOn : MethodName := ⟨"MaterialBars", "goodsOn", "(I)I"⟩
abbrev wsX4_goodsOn : List Cond := .code yX4_goodsOn cX4_goodsOn 4 (some .int) :: T0
abbrev cX4_rowsOfAll : ByteArray := prog_1_method_32_code
def yX4_rowsOfAll : MethodName := ⟨"MaterialBars", "rowsOfAll", "()I"⟩
abbrev wsX4_rowsOfAll : List Cond := .code yX4_rowsOfAll cX4_rowsOfAll 3 (some .int) :: T0
abbrev cX4_withAllAhead : ByteArray := prog_1_method_33_code
def yX4_withAllAhead : MethodName := ⟨"MaterialBars", "withAllAhead", "(I)I"⟩
abbrev wsX4_withAllAhead : List Cond := .code yX4_withAllAhead cX4_withAllAhead 5 (some .int) :: T0
abbrev cX4_eachMayBeDone : ByteArray := prog_1_method_34_code
def yX4_eachMayBeDone : MethodName := ⟨"MaterialBars", "eachMayBeDone", "(LMaterialBars$Piece;I)Z"⟩
abbrev wsX4_eachMayBeDone : List Cond := .code yX4_eachMayBeDone cX4_eachMayBeDone 4 (some .boolean) :: T0
abbrev cX4_mayBeDone : ByteArray := prog_1_method_35_code
def yX4_mayBeDone : MethodName := ⟨"MaterialBars", "mayBeDone", "(LMaterialBars$Piece;I)Z"⟩
abbrev wsX4_mayBeDone : List Cond := .code yX4_mayBeDone cX4_mayBeDone 3 (some .boolean) :: T0
abbrev cX4_putInOrder : ByteArray := prog_1_method_36_code
def yX4_putInOrder : MethodName := ⟨"MaterialBars", "putInOrder", "(II)Z"⟩
abbrev wsX4_putInOrder : List Cond := .code yX4_putInOrder cX4_putInOrder 6 (some .boolean) :: T0
abbrev cX4_lowestThatMayComeNext : ByteArray := prog_1_method_37_code
def yX4_lowestThatMayComeNext : MethodName := ⟨"MaterialBars", "lowestThatMayComeNext", "(I)I"⟩
abbrev wsX4_lowestThatMayComeNext : List Cond := .code yX4_lowestThatMayComeNext cX4_lowestThatMayComeNext 3 (some .int) :: T0
abbrev cX4_hasToWait : ByteArray := prog_1_method_38_code
def yX4_hasToWait : MethodName := ⟨"MaterialBars", "hasToWait", "(II)Z"⟩
abbrev wsX4_hasToWait : List Cond := .code yX4_hasToWait cX4_hasToWait 4 (some .boolean) :: T0
abbrev cX5_init : ByteArray := prog_7_method_1_code
def yX5_init : MethodName := ⟨"MaterialBarsModel", "<init>", "()V"⟩
abbrev wsX5_init : List Cond := .code yX5_init cX5_init 2 none :: T0
abbrev cX5_thrown : ByteArray := prog_7_method_2_code
def yX5_thrown : MethodName := ⟨"MaterialBarsModel", "thrown", "()I"⟩
abbrev wsX5_thrown : List Cond := .code yX5_thrown cX5_thrown 1 (some .int) :: T0
abbrev cX5_goes : ByteArray := prog_7_method_3_code
def yX5_goes : MethodName := ⟨"MaterialBarsModel", "goes", "(ZZZ)Z"⟩
abbrev wsX5_goes : List Cond := .code yX5_goes cX5_goes 4 (some .boolean) :: T0
abbrev cX5_below : ByteArray := prog_7_method_4_code
def yX5_below : MethodName := ⟨"MaterialBarsModel", "below", "(II)Z"⟩
abbrev wsX5_below : List Cond := .code yX5_below cX5_below 2 (some .boolean) :: T0
abbrev cX5_unit : ByteArray := prog_7_method_5_code
def yX5_unit : MethodName := ⟨"MaterialBarsModel", "unit", "(I)I"⟩
abbrev wsX5_unit : List Cond := .code yX5_unit cX5_unit 2 (some .int) :: T0
abbrev cX5_greatest : ByteArray := prog_7_method_6_code
def yX5_greatest : MethodName := ⟨"MaterialBarsModel", "greatest", "(I)I"⟩
abbrev wsX5_greatest : List Cond := .code yX5_greatest cX5_greatest 1 (some .int) :: T0
abbrev cX5_isLetter : ByteArray := prog_7_method_7_code
def yX5_isLetter : MethodName := ⟨"MaterialBarsModel", "isLetter", "(I)Z"⟩
abbrev wsX5_isLetter : List Cond := .code yX5_isLetter cX5_isLetter 1 (some .boolean) :: T0
abbrev cX5_fault : ByteArray := prog_7_method_8_code
def yX5_fault : MethodName := ⟨"MaterialBarsModel", "fault", "()I"⟩
abbrev wsX5_fault : List Cond := .code yX5_fault cX5_fault 10 (some .int) :: T0
abbrev cX5_read : ByteArray := prog_7_method_9_code
def yX5_read : MethodName := ⟨"MaterialBarsModel", "read", "()I"⟩
abbrev wsX5_read : List Cond := .code yX5_read cX5_read 2 (some .int) :: T0
abbrev cX5_isMethod : ByteArray := prog_7_method_10_code
def yX5_isMethod : MethodName := ⟨"MaterialBarsModel", "isMethod", "(I)Z"⟩
abbrev wsX5_isMethod : List Cond := .code yX5_isMethod cX5_isMethod 2 (some .boolean) :: T0
abbrev cX5_used : ByteArray := prog_7_method_11_code
def yX5_used : MethodName := ⟨"MaterialBarsModel", "used", "(II)I"⟩
abbrev wsX5_used : List Cond := .code yX5_used cX5_used 5 (some .int) :: T0
abbrev cX5_uses : ByteArray := prog_7_method_12_code
def yX5_uses : MethodName := ⟨"MaterialBarsModel", "uses", "(II)I"⟩
abbrev wsX5_uses : List Cond := .code yX5_uses cX5_uses 3 (some .int) :: T0
abbrev cX5_has : ByteArray := prog_7_method_13_code
def yX5_has : MethodName := ⟨"MaterialBarsModel", "has", "(III)Z"⟩
abbrev wsX5_has : List Cond := .code yX5_has cX5_has 6 (some .boolean) :: T0
abbrev cX5_object : ByteArray := prog_7_method_14_code
def yX5_object : MethodName := ⟨"MaterialBarsModel", "object", "()I"⟩
abbrev wsX5_object : List Cond := .code yX5_object cX5_object 1 (some .int) :: T0
abbrev cX5_isObject : ByteArray := prog_7_method_15_code
def yX5_isObject : MethodName := ⟨"MaterialBarsModel", "isObject", "(I)Z"⟩
abbrev wsX5_isObject : List Cond := .code yX5_isObject cX5_isObject 2 (some .boolean) :: T0
abbrev cX5_part : ByteArray := prog_7_method_16_code
def yX5_part : MethodName := ⟨"MaterialBarsModel", "part", "(II)I"⟩
abbrev wsX5_part : List Cond := .code yX5_part cX5_part 4 (some .int) :: T0
abbrev cX5_right : ByteArray := prog_7_method_17_code
def yX5_right : MethodName := ⟨"MaterialBarsModel", "right", "(IIZ)Z"⟩
abbrev wsX5_right : List Cond := .code yX5_right cX5_right 5 (some .boolean) :: T0
abbrev cX5_trial : ByteArray := prog_7_method_18_code
def yX5_trial : MethodName := ⟨"MaterialBarsModel", "trial", "(IIZ)Z"⟩
abbrev wsX5_trial : List Cond := .code yX5_trial cX5_trial 5 (some .boolean) :: T0
abbrev cX5_latest : ByteArray := prog_7_method_19_code
def yX5_latest : MethodName := ⟨"MaterialBarsModel", "latest", "(II)I"⟩
abbrev wsX5_latest : List Cond := .code yX5_latest cX5_latest 5 (some .int) :: T0
abbrev cX5_barred : ByteArray := prog_7_method_20_code
def yX5_barred : MethodName := ⟨"MaterialBarsModel", "barred", "(II)I"⟩
abbrev wsX5_barred : List Cond := .code yX5_barred cX5_barred 4 (some .int) :: T0
abbrev cX5_waits : ByteArray := prog_7_method_21_code
def yX5_waits : MethodName := ⟨"MaterialBarsModel", "waits", "(IIII)Z"⟩
abbrev wsX5_waits : List Cond := .code yX5_waits cX5_waits 8 (some .boolean) :: T0
abbrev cX5_hasPart : ByteArray := prog_7_method_22_code
def yX5_hasPart : MethodName := ⟨"MaterialBarsModel", "hasPart", "(II)Z"⟩
abbrev wsX5_hasPart : List Cond := .code yX5_hasPart cX5_hasPart 5 (some .boolean) :: T0
abbrev cX5_why : ByteArray := prog_7_method_23_code
def yX5_why : MethodName := ⟨"MaterialBarsModel", "why", "(IIII)I"⟩
abbrev wsX5_why : List Cond := .code yX5_why cX5_why 6 (some .int) :: T0
abbrev cX5_isHour : ByteArray := prog_7_method_24_code
def yX5_isHour : MethodName := ⟨"MaterialBarsModel", "isHour", "(I)Z"⟩
abbrev wsX5_isHour : List Cond := .code yX5_isHour cX5_isHour 1 (some .boolean) :: T0
abbrev cX5_reason : ByteArray := prog_7_method_25_code
def yX5_reason : MethodName := ⟨"MaterialBarsModel", "reason", "(IIII)I"⟩
abbrev wsX5_reason : List Cond := .code yX5_reason cX5_reason 5 (some .int) :: T0
abbrev cX5_done : ByteArray := prog_7_method_26_code
def yX5_done : MethodName := ⟨"MaterialBarsModel", "done", "(IIIII)I"⟩
abbrev wsX5_done : List Cond := .code yX5_done cX5_done 12 (some .int) :: T0
abbrev cX5_row : ByteArray := prog_7_method_27_code
def yX5_row : MethodName := ⟨"MaterialBarsModel", "row", "(III)I"⟩
abbrev wsX5_row : List Cond := .code yX5_row cX5_row 6 (some .int) :: T0
abbrev cX5_stock : ByteArray := prog_7_method_28_code
def yX5_stock : MethodName := ⟨"MaterialBarsModel", "stock", "(II)I"⟩
abbrev wsX5_stock : List Cond := .code yX5_stock cX5_stock 4 (some .int) :: T0
abbrev cX5_about : ByteArray := prog_7_method_29_code
def yX5_about : MethodName := ⟨"MaterialBarsModel", "about", "(II)J"⟩
abbrev wsX5_about : List Cond := .code yX5_about cX5_about 3 (some .long) :: T0
abbrev cX5_apart : ByteArray := prog_7_method_30_code
def yX5_apart : MethodName := ⟨"MaterialBarsModel", "apart", "(II)Z"⟩
abbrev wsX5_apart : List Cond := .code yX5_apart cX5_apart 3 (some .boolean) :: T0
abbrev cX5_put : ByteArray := prog_7_method_31_code
def yX5_put : MethodName := ⟨"MaterialBarsModel", "put", "(II)I"⟩
abbrev wsX5_put : List Cond := .code yX5_put cX5_put 4 (some .int) :: T0
abbrev cX5_mayCome : ByteArray := prog_7_method_32_code
def yX5_mayCome : MethodName := ⟨"MaterialBarsModel", "mayCome", "(III)Z"⟩
abbrev wsX5_mayCome : List Cond := .code yX5_mayCome cX5_mayCome 7 (some .boolean) :: T0
abbrev cX5_methodsOf : ByteArray := prog_7_method_33_code
def yX5_methodsOf : MethodName := ⟨"MaterialBarsModel", "methodsOf", "(II)I"⟩
abbrev wsX5_methodsOf : List Cond := .code yX5_methodsOf cX5_methodsOf 5 (some .int) :: T0
abbrev cX5_closed : ByteArray := prog_7_method_34_code
def yX5_closed : MethodName := ⟨"MaterialBarsModel", "closed", "(I)I"⟩
abbrev wsX5_closed : List Cond := .code yX5_closed cX5_closed 6 (some .int) :: T0
abbrev cX5_orders : ByteArray := prog_7_method_35_code
def yX5_orders : MethodName := ⟨"MaterialBarsModel", "orders", "(II)Z"⟩
abbrev wsX5_orders : List Cond := .code yX5_orders cX5_orders 6 (some .boolean) :: T0
abbrev cX5_plan : ByteArray := prog_7_method_36_code
def yX5_plan : MethodName := ⟨"MaterialBarsModel", "plan", "(II)I"⟩
abbrev wsX5_plan : List Cond := .code yX5_plan cX5_plan 9 (some .int) :: T0
abbrev cX5_step : ByteArray := prog_7_method_37_code
def yX5_step : MethodName := ⟨"MaterialBarsModel", "step", "(I)I"⟩
abbrev wsX5_step : List Cond := .code yX5_step cX5_step 2 (some .int) :: T0
abbrev cX5_count : ByteArray := prog_7_method_38_code
def yX5_count : MethodName := ⟨"MaterialBarsModel", "count", "(I)I"⟩
abbrev wsX5_count : List Cond := .code yX5_count cX5_count 4 (some .int) :: T0
abbrev cX0_init : ByteArray := prog_2_method_1_code
def yX0_init : MethodName := ⟨"MaterialBars$Good", "<init>", "()V"⟩
abbrev wsX0_init : List Cond := .code yX0_init cX0_init 1 none :: T0
abbrev cX0_changeBy : ByteArray := prog_2_method_2_code
def yX0_changeBy : MethodName := ⟨"MaterialBars$Good", "changeBy", "(I)V"⟩
abbrev wsX0_changeBy : List Cond := .code yX0_changeBy cX0_changeBy 2 none :: T0
abbrev cX1_init : ByteArray := prog_3_method_1_code
def yX1_init : MethodName := ⟨"MaterialBars$Method", "<init>", "()V"⟩
abbrev wsX1_init : List Cond := .code yX1_init cX1_init 1 none :: T0
abbrev cX1_clear : ByteArray := prog_3_method_2_code
def yX1_clear : MethodName := ⟨"MaterialBars$Method", "clear", "()V"⟩
abbrev wsX1_clear : List Cond := .code yX1_clear cX1_clear 2 none :: T0
abbrev cX2_init : ByteArray := prog_4_method_1_code
def yX2_init : MethodName := ⟨"MaterialBars$Pad", "<init>", "()V"⟩
abbrev wsX2_init : List Cond := .code yX2_init cX2_init 1 none :: T0
abbrev cX2_readText : ByteArray := prog_4_method_2_code
def yX2_readText : MethodName := ⟨"MaterialBars$Pad", "readText", "(LMaterialBars$Method;)Z"⟩
abbrev wsX2_readText : List Cond := .code yX2_readText cX2_readText 3 (some .boolean) :: T0
abbrev cX2_readClause : ByteArray := prog_4_method_3_code
def yX2_readClause : MethodName := ⟨"MaterialBars$Pad", "readClause", "(LMaterialBars$Method;)Z"⟩
abbrev wsX2_readClause : List Cond := .code yX2_readClause cX2_readClause 2 (some .boolean) :: T0
abbrev cX2_readUse : ByteArray := prog_4_method_4_code
def yX2_readUse : MethodName := ⟨"MaterialBars$Pad", "readUse", "(LMaterialBars$Method;)Z"⟩
abbrev wsX2_readUse : List Cond := .code yX2_readUse cX2_readUse 4 (some .boolean) :: T0
abbrev cX2_readBar : ByteArray := prog_4_method_5_code
def yX2_readBar : MethodName := ⟨"MaterialBars$Pad", "readBar", "(LMaterialBars$Method;)Z"⟩
abbrev wsX2_readBar : List Cond := .code yX2_readBar cX2_readBar 3 (some .boolean) :: T0
abbrev cX2_readNotBehind : ByteArray := prog_4_method_6_code
def yX2_readNotBehind : MethodName := ⟨"MaterialBars$Pad", "readNotBehind", "(LMaterialBars$Method;)Z"⟩
abbrev wsX2_readNotBehind : List Cond := .code yX2_readNotBehind cX2_readNotBehind 3 (some .boolean) :: T0
abbrev cX2_readAfter : ByteArray := prog_4_method_7_code
def yX2_readAfter : MethodName := ⟨"MaterialBars$Pad", "readAfter", "(LMaterialBars$Method;)Z"⟩
abbrev wsX2_readAfter : List Cond := .code yX2_readAfter cX2_readAfter 4 (some .boolean) :: T0
abbrev cX2_readNumber : ByteArray := prog_4_method_8_code
def yX2_readNumber : MethodName := ⟨"MaterialBars$Pad", "readNumber", "(II)I"⟩
abbrev wsX2_readNumber : List Cond := .code yX2_readNumber cX2_readNumber 6 (some .int) :: T0
abbrev cX2_take : ByteArray := prog_4_method_9_code
def yX2_take : MethodName := ⟨"MaterialBars$Pad", "take", "(I)Z"⟩
abbrev wsX2_take : List Cond := .code yX2_take cX2_take 2 (some .boolean) :: T0
abbrev cX2_signHere : ByteArray := prog_4_method_10_code
def yX2_signHere : MethodName := ⟨"MaterialBars$Pad", "signHere", "()I"⟩
abbrev wsX2_signHere : List Cond := .code yX2_signHere cX2_signHere 1 (some .int) :: T0
abbrev cX2_isDigit : ByteArray := prog_4_method_11_code
def yX2_isDigit : MethodName := ⟨"MaterialBars$Pad", "isDigit", "(I)Z"⟩
abbrev wsX2_isDigit : List Cond := .code yX2_isDigit cX2_isDigit 1 (some .boolean) :: T0
abbrev cX3_init : ByteArray := prog_5_method_1_code
def yX3_init : MethodName := ⟨"MaterialBars$Piece", "<init>", "()V"⟩
abbrev wsX3_init : List Cond := .code yX3_init cX3_init 1 none :: T0
abbrev cX3_addPart : ByteArray := prog_5_method_2_code
def yX3_addPart : MethodName := ⟨"MaterialBars$Piece", "addPart", "(I)I"⟩
abbrev wsX3_addPart : List Cond := .code yX3_addPart cX3_addPart 2 (some .int) :: T0
abbrev cX3_firstPartOf : ByteArray := prog_5_method_3_code
def yX3_firstPartOf : MethodName := ⟨"MaterialBars$Piece", "firstPartOf", "(I)I"⟩
abbrev wsX3_firstPartOf : List Cond := .code yX3_firstPartOf cX3_firstPartOf 3 (some .int) :: T0
abbrev cX3_addRow : ByteArray := prog_5_method_4_code
def yX3_addRow : MethodName := ⟨"MaterialBars$Piece", "addRow", "(IIII)V"⟩
abbrev wsX3_addRow : List Cond := .code yX3_addRow cX3_addRow 6 none :: T0
abbrev cL_unit : ByteArray := method_3_code
def yL_unit : MethodName := ⟨"MaterialBarsLaw", "unit", "(LMaterialBars;I[J)I"⟩
abbrev wsL_unit : List Cond := .codeWith yL_unit cL_unit 4 (some .int) [(0, 9, 12, 13), (0, 9, 15, 15)] :: T0
abbrev cL_read : ByteArray := method_4_code
def yL_read : MethodName := ⟨"MaterialBarsLaw", "read", "(LMaterialBars;[J)I"⟩
abbrev wsL_read : List Cond := .codeWith yL_read cL_read 3 (some .int) [(0, 8, 11, 13)] :: T0
abbrev cL_uses : ByteArray := method_5_code
def yL_uses : MethodName := ⟨"MaterialBarsLaw", "uses", "(LMaterialBars;II[J)I"⟩
abbrev wsL_uses : List Cond := .codeWith yL_uses cL_uses 5 (some .int) [(0, 10, 13, 25)] :: T0
abbrev cL_object : ByteArray := method_6_code
def yL_object : MethodName := ⟨"MaterialBarsLaw", "object", "(LMaterialBars;[J)I"⟩
abbrev wsL_object : List Cond := .codeWith yL_object cL_object 3 (some .int) [(0, 8, 11, 13)] :: T0
abbrev cL_part : ByteArray := method_7_code
def yL_part : MethodName := ⟨"MaterialBarsLaw", "part", "(LMaterialBars;II[J)I"⟩
abbrev wsL_part : List Cond := .codeWith yL_part cL_part 5 (some .int) [(0, 10, 13, 25), (0, 10, 17, 13)] :: T0
abbrev cL_right : ByteArray := method_8_code
def yL_right : MethodName := ⟨"MaterialBarsLaw", "right", "(LMaterialBars;IIZ[J)I"⟩
abbrev wsL_right : List Cond := .codeWith yL_right cL_right 6 (some .int) [(0, 19, 22, 25)] :: T0
abbrev cL_trial : ByteArray := method_9_code
def yL_trial : MethodName := ⟨"MaterialBarsLaw", "trial", "(LMaterialBars;IIZ[J)I"⟩
abbrev wsL_trial : List Cond := .codeWith yL_trial cL_trial 6 (some .int) [(0, 19, 22, 25)] :: T0
abbrev cL_reason : ByteArray := method_10_code
def yL_reason : MethodName := ⟨"MaterialBarsLaw", "reason", "(LMaterialBars;IIII[J)I"⟩
abbrev wsL_reason : List Cond := .codeWith yL_reason cL_reason 7 (some .int) [(0, 14, 17, 25), (0, 14, 21, 15)] :: T0
abbrev cL_done : ByteArray := method_11_code
def yL_done : MethodName := ⟨"MaterialBarsLaw", "done", "(LMaterialBars;IIIII[J)I"⟩
abbrev wsL_done : List Cond := .codeWith yL_done cL_done 8 (some .int) [(0, 16, 19, 25), (0, 16, 23, 13), (0, 16, 27, 15)] :: T0
abbrev cL_row : ByteArray := method_12_code
def yL_row : MethodName := ⟨"MaterialBarsLaw", "row", "(LMaterialBars;III[J)I"⟩
abbrev wsL_row : List Cond := .codeWith yL_row cL_row 6 (some .int) [(0, 12, 15, 25)] :: T0
abbrev cL_stock : ByteArray := method_13_code
def yL_stock : MethodName := ⟨"MaterialBarsLaw", "stock", "(LMaterialBars;II[J)I"⟩
abbrev wsL_stock : List Cond := .codeWith yL_stock cL_stock 5 (some .int) [(0, 10, 13, 25), (0, 10, 17, 15)] :: T0
abbrev cL_about : ByteArray := method_14_code
def yL_about : MethodName := ⟨"MaterialBarsLaw", "about", "(LMaterialBars;II[J)I"⟩
abbrev wsL_about : List Cond := .codeWith yL_about cL_about 5 (some .int) [(0, 9, 12, 25)] :: T0
abbrev cL_apart : ByteArray := method_15_code
def yL_apart : MethodName := ⟨"MaterialBarsLaw", "apart", "(LMaterialBars;II[J)I"⟩
abbrev wsL_apart : List Cond := .codeWith yL_apart cL_apart 5 (some .int) [(0, 17, 20, 25)] :: T0
abbrev cL_put : ByteArray := method_16_code
def yL_put : MethodName := ⟨"MaterialBarsLaw", "put", "(LMaterialBars;II[J)I"⟩
abbrev wsL_put : List Cond := .codeWith yL_put cL_put 5 (some .int) [(0, 10, 13, 25)] :: T0
abbrev cL_plan : ByteArray := method_17_code
def yL_plan : MethodName := ⟨"MaterialBarsLaw", "plan", "(LMaterialBars;II[J)I"⟩
abbrev wsL_plan : List Cond := .codeWith yL_plan cL_plan 5 (some .int) [(0, 10, 13, 25)] :: T0
abbrev cL_step : ByteArray := method_18_code
def yL_step : MethodName := ⟨"MaterialBarsLaw", "step", "(LMaterialBars;I[J)I"⟩
abbrev wsL_step : List Cond := .codeWith yL_step cL_step 4 (some .int) [(0, 9, 12, 25)] :: T0
abbrev cL_count : ByteArray := method_19_code
def yL_count : MethodName := ⟨"MaterialBarsLaw", "count", "(LMaterialBars;I[J)I"⟩
abbrev wsL_count : List Cond := .codeWith yL_count cL_count 4 (some .int) [(0, 9, 12, 25)] :: T0
abbrev cJ6_bitCount : ByteArray := prog_12_method_49_code
def yJ6_bitCount : MethodName := ⟨"java/lang/Integer", "bitCount", "(I)I"⟩
abbrev wsJ6_bitCount : List Cond := .code yJ6_bitCount cJ6_bitCount 1 (some .int) :: T0
end
section
theorem mw_0 : (Jvm.Cond.initialized "MaterialBarsLaw") ∈ T0 := T0_in (List.mem_append_right _ (List.mem_append_left _ (List.mem_of_getElem? (i := 0) (by decide +kernel)))) rfl
theorem mw_1 : (Jvm.Cond.initialized "MaterialBars") ∈ T0 := T0_in (List.mem_append_right _ (List.mem_append_left _ (List.mem_of_getElem? (i := 1) (by decide +kernel)))) rfl
theorem mw_2 : (Jvm.Cond.initialized "MaterialBars$Pad") ∈ T0 := T0_in (List.mem_append_right _ (List.mem_append_left _ (List.mem_of_getElem? (i := 2) (by decide +kernel)))) rfl
theorem mw_3 : (Jvm.Cond.initialized "MaterialBars$Method") ∈ T0 := T0_in (List.mem_append_right _ (List.mem_append_left _ (List.mem_of_getElem? (i := 3) (by decide +kernel)))) rfl
theorem mw_4 : (Jvm.Cond.initialized "MaterialBars$Piece") ∈ T0 := T0_in (List.mem_append_right _ (List.mem_append_left _ (List.mem_of_getElem? (i := 4) (by decide +kernel)))) rfl
theorem mw_5 : (Jvm.Cond.initialized "MaterialBars$Good") ∈ T0 := T0_in (List.mem_append_right _ (List.mem_append_left _ (List.mem_of_getElem? (i := 5) (by decide +kernel)))) rfl
theorem mw_6 : (Jvm.Cond.initialized "MaterialBarsModel") ∈ T0 := T0_in (List.mem_append_right _ (List.mem_append_left _ (List.mem_of_getElem? (i := 6) (by decide +kernel)))) rfl
theorem mw_7 : (Jvm.Cond.initialized "java/lang/Throwable") ∈ T0 := T0_in (List.mem_append_right _ (List.mem_append_left _ (List.mem_of_getElem? (i := 7) (by decide +kernel)))) rfl
theorem mw_8 : (Jvm.Cond.initialized "java/lang/Exception") ∈ T0 := T0_in (List.mem_append_right _ (List.mem_append_left _ (List.mem_of_getElem? (i := 8) (by decide +kernel)))) rfl
theorem mw_9 : (Jvm.Cond.initialized "java/lang/RuntimeException") ∈ T0 := T0_in (List.mem_append_right _ (List.mem_append_left _ (List.mem_of_getElem? (i := 9) (by decide +kernel)))) rfl
theorem mw_10 : (Jvm.Cond.initialized "java/lang/IllegalStateException") ∈ T0 := T0_in (List.mem_append_right _ (List.mem_append_left _ (List.mem_of_getElem? (i := 10) (by decide +kernel)))) rfl
theorem mw_11 : (Jvm.Cond.initialized "java/lang/IllegalArgumentException") ∈ T0 := T0_in (List.mem_append_right _ (List.mem_append_left _ (List.mem_of_getElem? (i := 11) (by decide +kernel)))) rfl
theorem mw_12 : (Jvm.Cond.initialized "java/lang/Math") ∈ T0 := T0_in (List.mem_append_right _ (List.mem_append_left _ (List.mem_of_getElem? (i := 12) (by decide +kernel)))) rfl
theorem mw_13 : (Jvm.Cond.initialized "java/lang/IndexOutOfBoundsException") ∈ T0 := T0_in (List.mem_append_right _ (List.mem_append_left _ (List.mem_of_getElem? (i := 13) (by decide +kernel)))) rfl
theorem mw_14 : (Jvm.Cond.initialized "java/lang/Integer") ∈ T0 := T0_in (List.mem_append_right _ (List.mem_append_left _ (List.mem_of_getElem? (i := 14) (by decide +kernel)))) rfl
theorem mw_15 : (Jvm.Cond.initialized "java/lang/System") ∈ T0 := T0_in (List.mem_append_right _ (List.mem_append_left _ (List.mem_of_getElem? (i := 15) (by decide +kernel)))) rfl
theorem mw_16 : (Jvm.Cond.classLink "MaterialBarsLaw" (8 : Nat) "MaterialBars") ∈ T0 := T0_in (List.mem_append_right _ (List.mem_append_left _ (List.mem_of_getElem? (i := 16) (by decide +kernel)))) rfl
theorem mw_17 : (Jvm.Cond.instantiable "MaterialBars" (9 : Nat)) ∈ T0 := T0_in (List.mem_append_right _ (List.mem_append_left _ (List.mem_of_getElem? (i := 17) (by decide +kernel)))) rfl
theorem mw_18 : (Jvm.Cond.methodLink "MaterialBarsLaw" (75 : Nat) ({ cls := "MaterialBars", name := "<init>", desc := "()V" } : Jvm.MethodName)) ∈ T0 := T0_in (List.mem_append_right _ (List.mem_append_left _ (List.mem_of_getElem? (i := 18) (by decide +kernel)))) rfl
theorem mw_19 : (Jvm.Cond.instanceMethod ({ cls := "MaterialBars", name := "<init>", desc := "()V" } : Jvm.MethodName)) ∈ T0 := T0_in (List.mem_append_right _ (List.mem_append_left _ (List.mem_of_getElem? (i := 19) (by decide +kernel)))) rfl
theorem mw_20 : (Jvm.Cond.code ({ cls := "MaterialBars", name := "<init>", desc := "()V" } : Jvm.MethodName) prog_1_method_1_code (2 : Nat) (Option.none : Option Jvm.ClassFile.FieldType)) ∈ T0 := T0_in (List.mem_append_right _ (List.mem_append_left _ (List.mem_of_getElem? (i := 20) rfl))) rfl
theorem mw_21 : (Jvm.Cond.methodLink "MaterialBars" (1 : Nat) ({ cls := "java/lang/Object", name := "<init>", desc := "()V" } : Jvm.MethodName)) ∈ T0 := T0_in (List.mem_append_right _ (List.mem_append_left _ (List.mem_of_getElem? (i := 21) (by decide +kernel)))) rfl
theorem mw_22 : (Jvm.Cond.instanceMethod ({ cls := "java/lang/Object", name := "<init>", desc := "()V" } : Jvm.MethodName)) ∈ T0 := T0_in (List.mem_append_right _ (List.mem_append_left _ (List.mem_of_getElem? (i := 22) (by decide +kernel)))) rfl
theorem mw_23 : (Jvm.Cond.code ({ cls := "java/lang/Object", name := "<init>", desc := "()V" } : Jvm.MethodName) object_method_1_code (1 : Nat) (Option.none : Option Jvm.ClassFile.FieldType)) ∈ T0 := T0_in (List.mem_append_right _ (List.mem_append_left _ (List.mem_of_getElem? (i := 23) rfl))) rfl
theorem mw_24 : (Jvm.Cond.classLink "MaterialBars" (7 : Nat) "MaterialBars$Pad") ∈ T0 := T0_in (List.mem_append_right _ (List.mem_append_left _ (List.mem_of_getElem? (i := 24) (by decide +kernel)))) rfl
theorem mw_25 : (Jvm.Cond.instantiable "MaterialBars$Pad" (3 : Nat)) ∈ T0 := T0_in (List.mem_append_right _ (List.mem_append_left _ (List.mem_of_getElem? (i := 25) (by decide +kernel)))) rfl
theorem mw_27 : (Jvm.Cond.instanceMethod ({ cls := "MaterialBars$Pad", name := "<init>", desc := "()V" } : Jvm.MethodName)) ∈ T0 := T0_in (List.mem_append_right _ (List.mem_append_left _ (List.mem_of_getElem? (i := 27) (by decide +kernel)))) rfl
theorem mw_28 : (Jvm.Cond.code ({ cls := "MaterialBars$Pad", name := "<init>", desc := "()V" } : Jvm.MethodName) prog_4_method_1_code (1 : Nat) (Option.none : Option Jvm.ClassFile.FieldType)) ∈ T0 := T0_in (List.mem_append_right _ (List.mem_append_left _ (List.mem_of_getElem? (i := 28) rfl))) rfl
theorem mw_29 : (Jvm.Cond.methodLink "MaterialBars$Pad" (3 : Nat) ({ cls := "java/lang/Object", name := "<init>", desc := "()V" } : Jvm.MethodName)) ∈ T0 := T0_in (List.mem_append_right _ (List.mem_append_left _ (List.mem_of_getElem? (i := 29) (by decide +kernel)))) rfl
theorem mw_30 : (Jvm.Cond.fieldLink "MaterialBars$Pad" (9 : Nat) "MaterialBars$Pad" "signs" "[I") ∈ T0 := T0_in (List.mem_append_right _ (List.mem_append_left _ (List.mem_of_getElem? (i := 30) (by decide +kernel)))) rfl
theorem mw_31 : (Jvm.Cond.fieldLink "MaterialBars" (60 : Nat) "MaterialBars$Pad" "signs" "[I") ∈ T0 := T0_in (List.mem_append_right _ (List.mem_append_left _ (List.mem_of_getElem? (i := 31) (by decide +kernel)))) rfl
theorem mw_32 : (Jvm.Cond.fieldLink "MaterialBars" (44 : Nat) "MaterialBars$Pad" "length" "I") ∈ T0 := T0_in (List.mem_append_right _ (List.mem_append_left _ (List.mem_of_getElem? (i := 32) (by decide +kernel)))) rfl
theorem mw_33 : (Jvm.Cond.fieldLink "MaterialBars$Pad" (19 : Nat) "MaterialBars$Pad" "length" "I") ∈ T0 := T0_in (List.mem_append_right _ (List.mem_append_left _ (List.mem_of_getElem? (i := 33) (by decide +kernel)))) rfl
theorem mw_34 : (Jvm.Cond.fieldLink "MaterialBars$Pad" (15 : Nat) "MaterialBars$Pad" "at" "I") ∈ T0 := T0_in (List.mem_append_right _ (List.mem_append_left _ (List.mem_of_getElem? (i := 34) (by decide +kernel)))) rfl
theorem mw_35 : (Jvm.Cond.fieldLink "MaterialBars" (75 : Nat) "MaterialBars$Pad" "at" "I") ∈ T0 := T0_in (List.mem_append_right _ (List.mem_append_left _ (List.mem_of_getElem? (i := 35) (by decide +kernel)))) rfl
theorem mw_36 : (Jvm.Cond.laysFinal "MaterialBars$Pad" "MaterialBars$Pad" "signs" "[I") ∈ T0 := T0_in (List.mem_append_right _ (List.mem_append_left _ (List.mem_of_getElem? (i := 36) (by decide +kernel)))) rfl
theorem mw_37 : (Jvm.Cond.soleField "MaterialBars$Pad" "signs") ∈ T0 := T0_in (List.mem_append_right _ (List.mem_append_left _ (List.mem_of_getElem? (i := 37) (by decide +kernel)))) rfl
theorem mw_38 : (Jvm.Cond.lays "MaterialBars$Pad" "MaterialBars$Pad" "length" "I") ∈ T0 := T0_in (List.mem_append_right _ (List.mem_append_left _ (List.mem_of_getElem? (i := 38) (by decide +kernel)))) rfl
theorem mw_39 : (Jvm.Cond.soleField "MaterialBars$Pad" "length") ∈ T0 := T0_in (List.mem_append_right _ (List.mem_append_left _ (List.mem_of_getElem? (i := 39) (by decide +kernel)))) rfl
theorem mw_40 : (Jvm.Cond.lays "MaterialBars$Pad" "MaterialBars$Pad" "at" "I") ∈ T0 := T0_in (List.mem_append_right _ (List.mem_append_left _ (List.mem_of_getElem? (i := 40) (by decide +kernel)))) rfl
theorem mw_41 : (Jvm.Cond.soleField "MaterialBars$Pad" "at") ∈ T0 := T0_in (List.mem_append_right _ (List.mem_append_left _ (List.mem_of_getElem? (i := 41) (by decide +kernel)))) rfl
theorem mw_42 : (Jvm.Cond.superclass "MaterialBars$Pad" "java/lang/Object") ∈ T0 := T0_in (List.mem_append_right _ (List.mem_append_left _ (List.mem_of_getElem? (i := 42) (by decide +kernel)))) rfl
theorem mw_43 : (Jvm.Cond.arrayClass Jvm.ClassFile.FieldType.int) ∈ T0 := T0_in (List.mem_append_right _ (List.mem_append_left _ (List.mem_of_getElem? (i := 43) (by decide +kernel)))) rfl
theorem mw_44 : (Jvm.Cond.classLink "MaterialBars" (16 : Nat) "MaterialBars$Method") ∈ T0 := T0_in (List.mem_append_right _ (List.mem_append_left _ (List.mem_of_getElem? (i := 44) (by decide +kernel)))) rfl
theorem mw_46 : (Jvm.Cond.instantiable "MaterialBars$Method" (9 : Nat)) ∈ T0 := T0_in (List.mem_append_right _ (List.mem_append_left _ (List.mem_of_getElem? (i := 46) (by decide +kernel)))) rfl
theorem mw_48 : (Jvm.Cond.instanceMethod ({ cls := "MaterialBars$Method", name := "<init>", desc := "()V" } : Jvm.MethodName)) ∈ T0 := T0_in (List.mem_append_right _ (List.mem_append_left _ (List.mem_of_getElem? (i := 48) (by decide +kernel)))) rfl
theorem mw_49 : (Jvm.Cond.code ({ cls := "MaterialBars$Method", name := "<init>", desc := "()V" } : Jvm.MethodName) prog_3_method_1_code (1 : Nat) (Option.none : Option Jvm.ClassFile.FieldType)) ∈ T0 := T0_in (List.mem_append_right _ (List.mem_append_left _ (List.mem_of_getElem? (i := 49) rfl))) rfl
theorem mw_50 : (Jvm.Cond.methodLink "MaterialBars$Method" (3 : Nat) ({ cls := "java/lang/Object", name := "<init>", desc := "()V" } : Jvm.MethodName)) ∈ T0 := T0_in (List.mem_append_right _ (List.mem_append_left _ (List.mem_of_getElem? (i := 50) (by decide +kernel)))) rfl
theorem mw_51 : (Jvm.Cond.fieldLink "MaterialBars$Method" (9 : Nat) "MaterialBars$Method" "amounts" "[I") ∈ T0 := T0_in (List.mem_append_right _ (List.mem_append_left _ (List.mem_of_getElem? (i := 51) (by decide +kernel)))) rfl
theorem mw_52 : (Jvm.Cond.fieldLink "MaterialBars" (86 : Nat) "MaterialBars$Method" "amounts" "[I") ∈ T0 := T0_in (List.mem_append_right _ (List.mem_append_left _ (List.mem_of_getElem? (i := 52) (by decide +kernel)))) rfl
theorem mw_53 : (Jvm.Cond.fieldLink "MaterialBars$Pad" (55 : Nat) "MaterialBars$Method" "amounts" "[I") ∈ T0 := T0_in (List.mem_append_right _ (List.mem_append_left _ (List.mem_of_getElem? (i := 53) (by decide +kernel)))) rfl
theorem mw_54 : (Jvm.Cond.fieldLink "MaterialBars$Method" (15 : Nat) "MaterialBars$Method" "hours" "[I") ∈ T0 := T0_in (List.mem_append_right _ (List.mem_append_left _ (List.mem_of_getElem? (i := 54) (by decide +kernel)))) rfl
theorem mw_55 : (Jvm.Cond.fieldLink "MaterialBars$Pad" (71 : Nat) "MaterialBars$Method" "hours" "[I") ∈ T0 := T0_in (List.mem_append_right _ (List.mem_append_left _ (List.mem_of_getElem? (i := 55) (by decide +kernel)))) rfl
theorem mw_56 : (Jvm.Cond.fieldLink "MaterialBars" (256 : Nat) "MaterialBars$Method" "hours" "[I") ∈ T0 := T0_in (List.mem_append_right _ (List.mem_append_left _ (List.mem_of_getElem? (i := 56) (by decide +kernel)))) rfl
theorem mw_57 : (Jvm.Cond.fieldLink "MaterialBars$Method" (18 : Nat) "MaterialBars$Method" "barred" "I") ∈ T0 := T0_in (List.mem_append_right _ (List.mem_append_left _ (List.mem_of_getElem? (i := 57) (by decide +kernel)))) rfl
theorem mw_58 : (Jvm.Cond.fieldLink "MaterialBars$Pad" (58 : Nat) "MaterialBars$Method" "barred" "I") ∈ T0 := T0_in (List.mem_append_right _ (List.mem_append_left _ (List.mem_of_getElem? (i := 58) (by decide +kernel)))) rfl
theorem mw_59 : (Jvm.Cond.fieldLink "MaterialBars" (227 : Nat) "MaterialBars$Method" "barred" "I") ∈ T0 := T0_in (List.mem_append_right _ (List.mem_append_left _ (List.mem_of_getElem? (i := 59) (by decide +kernel)))) rfl
theorem mw_60 : (Jvm.Cond.fieldLink "MaterialBars$Method" (22 : Nat) "MaterialBars$Method" "notBehind" "I") ∈ T0 := T0_in (List.mem_append_right _ (List.mem_append_left _ (List.mem_of_getElem? (i := 60) (by decide +kernel)))) rfl
theorem mw_61 : (Jvm.Cond.fieldLink "MaterialBars$Pad" (65 : Nat) "MaterialBars$Method" "notBehind" "I") ∈ T0 := T0_in (List.mem_append_right _ (List.mem_append_left _ (List.mem_of_getElem? (i := 61) (by decide +kernel)))) rfl
theorem mw_62 : (Jvm.Cond.fieldLink "MaterialBars" (233 : Nat) "MaterialBars$Method" "notBehind" "I") ∈ T0 := T0_in (List.mem_append_right _ (List.mem_append_left _ (List.mem_of_getElem? (i := 62) (by decide +kernel)))) rfl
theorem mw_63 : (Jvm.Cond.fieldLink "MaterialBars$Method" (25 : Nat) "MaterialBars$Method" "after" "I") ∈ T0 := T0_in (List.mem_append_right _ (List.mem_append_left _ (List.mem_of_getElem? (i := 63) (by decide +kernel)))) rfl
theorem mw_64 : (Jvm.Cond.fieldLink "MaterialBars$Pad" (68 : Nat) "MaterialBars$Method" "after" "I") ∈ T0 := T0_in (List.mem_append_right _ (List.mem_append_left _ (List.mem_of_getElem? (i := 64) (by decide +kernel)))) rfl
theorem mw_65 : (Jvm.Cond.fieldLink "MaterialBars" (250 : Nat) "MaterialBars$Method" "after" "I") ∈ T0 := T0_in (List.mem_append_right _ (List.mem_append_left _ (List.mem_of_getElem? (i := 65) (by decide +kernel)))) rfl
theorem mw_66 : (Jvm.Cond.fieldLink "MaterialBars$Method" (28 : Nat) "MaterialBars$Method" "needsTrial" "Z") ∈ T0 := T0_in (List.mem_append_right _ (List.mem_append_left _ (List.mem_of_getElem? (i := 66) (by decide +kernel)))) rfl
theorem mw_67 : (Jvm.Cond.fieldLink "MaterialBars$Pad" (42 : Nat) "MaterialBars$Method" "needsTrial" "Z") ∈ T0 := T0_in (List.mem_append_right _ (List.mem_append_left _ (List.mem_of_getElem? (i := 67) (by decide +kernel)))) rfl
theorem mw_68 : (Jvm.Cond.fieldLink "MaterialBars" (240 : Nat) "MaterialBars$Method" "needsTrial" "Z") ∈ T0 := T0_in (List.mem_append_right _ (List.mem_append_left _ (List.mem_of_getElem? (i := 68) (by decide +kernel)))) rfl
theorem mw_69 : (Jvm.Cond.fieldLink "MaterialBars$Method" (32 : Nat) "MaterialBars$Method" "needsTwo" "Z") ∈ T0 := T0_in (List.mem_append_right _ (List.mem_append_left _ (List.mem_of_getElem? (i := 69) (by decide +kernel)))) rfl
theorem mw_70 : (Jvm.Cond.fieldLink "MaterialBars$Pad" (48 : Nat) "MaterialBars$Method" "needsTwo" "Z") ∈ T0 := T0_in (List.mem_append_right _ (List.mem_append_left _ (List.mem_of_getElem? (i := 70) (by decide +kernel)))) rfl
theorem mw_71 : (Jvm.Cond.fieldLink "MaterialBars" (136 : Nat) "MaterialBars$Method" "needsTwo" "Z") ∈ T0 := T0_in (List.mem_append_right _ (List.mem_append_left _ (List.mem_of_getElem? (i := 71) (by decide +kernel)))) rfl
theorem mw_72 : (Jvm.Cond.fieldLink "MaterialBars" (107 : Nat) "MaterialBars$Method" "persons" "I") ∈ T0 := T0_in (List.mem_append_right _ (List.mem_append_left _ (List.mem_of_getElem? (i := 72) (by decide +kernel)))) rfl
theorem mw_73 : (Jvm.Cond.fieldLink "MaterialBars" (118 : Nat) "MaterialBars$Method" "goodTrials" "I") ∈ T0 := T0_in (List.mem_append_right _ (List.mem_append_left _ (List.mem_of_getElem? (i := 73) (by decide +kernel)))) rfl
theorem mw_74 : (Jvm.Cond.laysFinal "MaterialBars$Method" "MaterialBars$Method" "amounts" "[I") ∈ T0 := T0_in (List.mem_append_right _ (List.mem_append_left _ (List.mem_of_getElem? (i := 74) (by decide +kernel)))) rfl
theorem mw_75 : (Jvm.Cond.soleField "MaterialBars$Method" "amounts") ∈ T0 := T0_in (List.mem_append_right _ (List.mem_append_left _ (List.mem_of_getElem? (i := 75) (by decide +kernel)))) rfl
theorem mw_76 : (Jvm.Cond.laysFinal "MaterialBars$Method" "MaterialBars$Method" "hours" "[I") ∈ T0 := T0_in (List.mem_append_right _ (List.mem_append_left _ (List.mem_of_getElem? (i := 76) (by decide +kernel)))) rfl
theorem mw_77 : (Jvm.Cond.soleField "MaterialBars$Method" "hours") ∈ T0 := T0_in (List.mem_append_right _ (List.mem_append_left _ (List.mem_of_getElem? (i := 77) (by decide +kernel)))) rfl
theorem mw_78 : (Jvm.Cond.lays "MaterialBars$Method" "MaterialBars$Method" "barred" "I") ∈ T0 := T0_in (List.mem_append_right _ (List.mem_append_left _ (List.mem_of_getElem? (i := 78) (by decide +kernel)))) rfl
theorem mw_79 : (Jvm.Cond.soleField "MaterialBars$Method" "barred") ∈ T0 := T0_in (List.mem_append_right _ (List.mem_append_left _ (List.mem_of_getElem? (i := 79) (by decide +kernel)))) rfl
theorem mw_80 : (Jvm.Cond.lays "MaterialBars$Method" "MaterialBars$Method" "notBehind" "I") ∈ T0 := T0_in (List.mem_append_right _ (List.mem_append_left _ (List.mem_of_getElem? (i := 80) (by decide +kernel)))) rfl
theorem mw_81 : (Jvm.Cond.soleField "MaterialBars$Method" "notBehind") ∈ T0 := T0_in (List.mem_append_right _ (List.mem_append_left _ (List.mem_of_getElem? (i := 81) (by decide +kernel)))) rfl
theorem mw_82 : (Jvm.Cond.lays "MaterialBars$Method" "MaterialBars$Method" "after" "I") ∈ T0 := T0_in (List.mem_append_right _ (List.mem_append_left _ (List.mem_of_getElem? (i := 82) (by decide +kernel)))) rfl
theorem mw_83 : (Jvm.Cond.soleField "MaterialBars$Method" "after") ∈ T0 := T0_in (List.mem_append_right _ (List.mem_append_left _ (List.mem_of_getElem? (i := 83) (by decide +kernel)))) rfl
theorem mw_84 : (Jvm.Cond.lays "MaterialBars$Method" "MaterialBars$Method" "needsTrial" "Z") ∈ T0 := T0_in (List.mem_append_right _ (List.mem_append_left _ (List.mem_of_getElem? (i := 84) (by decide +kernel)))) rfl
theorem mw_85 : (Jvm.Cond.soleField "MaterialBars$Method" "needsTrial") ∈ T0 := T0_in (List.mem_append_right _ (List.mem_append_left _ (List.mem_of_getElem? (i := 85) (by decide +kernel)))) rfl
theorem mw_86 : (Jvm.Cond.lays "MaterialBars$Method" "MaterialBars$Method" "needsTwo" "Z") ∈ T0 := T0_in (List.mem_append_right _ (List.mem_append_left _ (List.mem_of_getElem? (i := 86) (by decide +kernel)))) rfl
theorem mw_87 : (Jvm.Cond.soleField "MaterialBars$Method" "needsTwo") ∈ T0 := T0_in (List.mem_append_right _ (List.mem_append_left _ (List.mem_of_getElem? (i := 87) (by decide +kernel)))) rfl
theorem mw_88 : (Jvm.Cond.lays "MaterialBars$Method" "MaterialBars$Method" "persons" "I") ∈ T0 := T0_in (List.mem_append_right _ (List.mem_append_left _ (List.mem_of_getElem? (i := 88) (by decide +kernel)))) rfl
theorem mw_89 : (Jvm.Cond.soleField "MaterialBars$Method" "persons") ∈ T0 := T0_in (List.mem_append_right _ (List.mem_append_left _ (List.mem_of_getElem? (i := 89) (by decide +kernel)))) rfl
theorem mw_90 : (Jvm.Cond.lays "MaterialBars$Method" "MaterialBars$Method" "goodTrials" "I") ∈ T0 := T0_in (List.mem_append_right _ (List.mem_append_left _ (List.mem_of_getElem? (i := 90) (by decide +kernel)))) rfl
theorem mw_91 : (Jvm.Cond.soleField "MaterialBars$Method" "goodTrials") ∈ T0 := T0_in (List.mem_append_right _ (List.mem_append_left _ (List.mem_of_getElem? (i := 91) (by decide +kernel)))) rfl
theorem mw_92 : (Jvm.Cond.superclass "MaterialBars$Method" "java/lang/Object") ∈ T0 := T0_in (List.mem_append_right _ (List.mem_append_left _ (List.mem_of_getElem? (i := 92) (by decide +kernel)))) rfl
theorem mw_93 : (Jvm.Cond.classLink "MaterialBars" (23 : Nat) "MaterialBars$Piece") ∈ T0 := T0_in (List.mem_append_right _ (List.mem_append_left _ (List.mem_of_getElem? (i := 93) (by decide +kernel)))) rfl
theorem mw_95 : (Jvm.Cond.instantiable "MaterialBars$Piece" (8 : Nat)) ∈ T0 := T0_in (List.mem_append_right _ (List.mem_append_left _ (List.mem_of_getElem? (i := 95) (by decide +kernel)))) rfl
theorem mw_97 : (Jvm.Cond.instanceMethod ({ cls := "MaterialBars$Piece", name := "<init>", desc := "()V" } : Jvm.MethodName)) ∈ T0 := T0_in (List.mem_append_right _ (List.mem_append_left _ (List.mem_of_getElem? (i := 97) (by decide +kernel)))) rfl
theorem mw_98 : (Jvm.Cond.code ({ cls := "MaterialBars$Piece", name := "<init>", desc := "()V" } : Jvm.MethodName) prog_5_method_1_code (1 : Nat) (Option.none : Option Jvm.ClassFile.FieldType)) ∈ T0 := T0_in (List.mem_append_right _ (List.mem_append_left _ (List.mem_of_getElem? (i := 98) rfl))) rfl
theorem mw_99 : (Jvm.Cond.methodLink "MaterialBars$Piece" (3 : Nat) ({ cls := "java/lang/Object", name := "<init>", desc := "()V" } : Jvm.MethodName)) ∈ T0 := T0_in (List.mem_append_right _ (List.mem_append_left _ (List.mem_of_getElem? (i := 99) (by decide +kernel)))) rfl
theorem mw_100 : (Jvm.Cond.fieldLink "MaterialBars$Piece" (9 : Nat) "MaterialBars$Piece" "parts" "[I") ∈ T0 := T0_in (List.mem_append_right _ (List.mem_append_left _ (List.mem_of_getElem? (i := 100) (by decide +kernel)))) rfl
theorem mw_101 : (Jvm.Cond.fieldLink "MaterialBars$Piece" (15 : Nat) "MaterialBars$Piece" "rows" "[I") ∈ T0 := T0_in (List.mem_append_right _ (List.mem_append_left _ (List.mem_of_getElem? (i := 101) (by decide +kernel)))) rfl
theorem mw_102 : (Jvm.Cond.fieldLink "MaterialBars" (148 : Nat) "MaterialBars$Piece" "rows" "[I") ∈ T0 := T0_in (List.mem_append_right _ (List.mem_append_left _ (List.mem_of_getElem? (i := 102) (by decide +kernel)))) rfl
theorem mw_103 : (Jvm.Cond.fieldLink "MaterialBars$Piece" (18 : Nat) "MaterialBars$Piece" "latest" "[I") ∈ T0 := T0_in (List.mem_append_right _ (List.mem_append_left _ (List.mem_of_getElem? (i := 103) (by decide +kernel)))) rfl
theorem mw_104 : (Jvm.Cond.fieldLink "MaterialBars" (253 : Nat) "MaterialBars$Piece" "latest" "[I") ∈ T0 := T0_in (List.mem_append_right _ (List.mem_append_left _ (List.mem_of_getElem? (i := 104) (by decide +kernel)))) rfl
theorem mw_105 : (Jvm.Cond.fieldLink "MaterialBars$Piece" (21 : Nat) "MaterialBars$Piece" "partCount" "I") ∈ T0 := T0_in (List.mem_append_right _ (List.mem_append_left _ (List.mem_of_getElem? (i := 105) (by decide +kernel)))) rfl
theorem mw_106 : (Jvm.Cond.fieldLink "MaterialBars" (98 : Nat) "MaterialBars$Piece" "partCount" "I") ∈ T0 := T0_in (List.mem_append_right _ (List.mem_append_left _ (List.mem_of_getElem? (i := 106) (by decide +kernel)))) rfl
theorem mw_107 : (Jvm.Cond.fieldLink "MaterialBars$Piece" (36 : Nat) "MaterialBars$Piece" "rowCount" "I") ∈ T0 := T0_in (List.mem_append_right _ (List.mem_append_left _ (List.mem_of_getElem? (i := 107) (by decide +kernel)))) rfl
theorem mw_108 : (Jvm.Cond.fieldLink "MaterialBars" (128 : Nat) "MaterialBars$Piece" "rowCount" "I") ∈ T0 := T0_in (List.mem_append_right _ (List.mem_append_left _ (List.mem_of_getElem? (i := 108) (by decide +kernel)))) rfl
theorem mw_109 : (Jvm.Cond.fieldLink "MaterialBars$Piece" (25 : Nat) "MaterialBars$Piece" "materials" "I") ∈ T0 := T0_in (List.mem_append_right _ (List.mem_append_left _ (List.mem_of_getElem? (i := 109) (by decide +kernel)))) rfl
theorem mw_110 : (Jvm.Cond.fieldLink "MaterialBars" (243 : Nat) "MaterialBars$Piece" "materials" "I") ∈ T0 := T0_in (List.mem_append_right _ (List.mem_append_left _ (List.mem_of_getElem? (i := 110) (by decide +kernel)))) rfl
theorem mw_111 : (Jvm.Cond.fieldLink "MaterialBars$Piece" (42 : Nat) "MaterialBars$Piece" "doneMethods" "I") ∈ T0 := T0_in (List.mem_append_right _ (List.mem_append_left _ (List.mem_of_getElem? (i := 111) (by decide +kernel)))) rfl
theorem mw_112 : (Jvm.Cond.fieldLink "MaterialBars" (195 : Nat) "MaterialBars$Piece" "doneMethods" "I") ∈ T0 := T0_in (List.mem_append_right _ (List.mem_append_left _ (List.mem_of_getElem? (i := 112) (by decide +kernel)))) rfl
theorem mw_113 : (Jvm.Cond.fieldLink "MaterialBars$Piece" (39 : Nat) "MaterialBars$Piece" "latestHour" "I") ∈ T0 := T0_in (List.mem_append_right _ (List.mem_append_left _ (List.mem_of_getElem? (i := 113) (by decide +kernel)))) rfl
theorem mw_114 : (Jvm.Cond.fieldLink "MaterialBars" (133 : Nat) "MaterialBars$Piece" "latestHour" "I") ∈ T0 := T0_in (List.mem_append_right _ (List.mem_append_left _ (List.mem_of_getElem? (i := 114) (by decide +kernel)))) rfl
theorem mw_115 : (Jvm.Cond.laysFinal "MaterialBars$Piece" "MaterialBars$Piece" "parts" "[I") ∈ T0 := T0_in (List.mem_append_right _ (List.mem_append_left _ (List.mem_of_getElem? (i := 115) (by decide +kernel)))) rfl
theorem mw_116 : (Jvm.Cond.soleField "MaterialBars$Piece" "parts") ∈ T0 := T0_in (List.mem_append_right _ (List.mem_append_left _ (List.mem_of_getElem? (i := 116) (by decide +kernel)))) rfl
theorem mw_117 : (Jvm.Cond.laysFinal "MaterialBars$Piece" "MaterialBars$Piece" "rows" "[I") ∈ T0 := T0_in (List.mem_append_right _ (List.mem_append_left _ (List.mem_of_getElem? (i := 117) (by decide +kernel)))) rfl
theorem mw_118 : (Jvm.Cond.soleField "MaterialBars$Piece" "rows") ∈ T0 := T0_in (List.mem_append_right _ (List.mem_append_left _ (List.mem_of_getElem? (i := 118) (by decide +kernel)))) rfl
theorem mw_119 : (Jvm.Cond.laysFinal "MaterialBars$Piece" "MaterialBars$Piece" "latest" "[I") ∈ T0 := T0_in (List.mem_append_right _ (List.mem_append_left _ (List.mem_of_getElem? (i := 119) (by decide +kernel)))) rfl
theorem mw_120 : (Jvm.Cond.soleField "MaterialBars$Piece" "latest") ∈ T0 := T0_in (List.mem_append_right _ (List.mem_append_left _ (List.mem_of_getElem? (i := 120) (by decide +kernel)))) rfl
theorem mw_121 : (Jvm.Cond.lays "MaterialBars$Piece" "MaterialBars$Piece" "partCount" "I") ∈ T0 := T0_in (List.mem_append_right _ (List.mem_append_left _ (List.mem_of_getElem? (i := 121) (by decide +kernel)))) rfl
theorem mw_122 : (Jvm.Cond.soleField "MaterialBars$Piece" "partCount") ∈ T0 := T0_in (List.mem_append_right _ (List.mem_append_left _ (List.mem_of_getElem? (i := 122) (by decide +kernel)))) rfl
theorem mw_123 : (Jvm.Cond.lays "MaterialBars$Piece" "MaterialBars$Piece" "rowCount" "I") ∈ T0 := T0_in (List.mem_append_right _ (List.mem_append_left _ (List.mem_of_getElem? (i := 123) (by decide +kernel)))) rfl
theorem mw_124 : (Jvm.Cond.soleField "MaterialBars$Piece" "rowCount") ∈ T0 := T0_in (List.mem_append_right _ (List.mem_append_left _ (List.mem_of_getElem? (i := 124) (by decide +kernel)))) rfl
theorem mw_125 : (Jvm.Cond.lays "MaterialBars$Piece" "MaterialBars$Piece" "materials" "I") ∈ T0 := T0_in (List.mem_append_right _ (List.mem_append_left _ (List.mem_of_getElem? (i := 125) (by decide +kernel)))) rfl
theorem mw_126 : (Jvm.Cond.soleField "MaterialBars$Piece" "materials") ∈ T0 := T0_in (List.mem_append_right _ (List.mem_append_left _ (List.mem_of_getElem? (i := 126) (by decide +kernel)))) rfl
theorem mw_127 : (Jvm.Cond.lays "MaterialBars$Piece" "MaterialBars$Piece" "doneMethods" "I") ∈ T0 := T0_in (List.mem_append_right _ (List.mem_append_left _ (List.mem_of_getElem? (i := 127) (by decide +kernel)))) rfl
theorem mw_128 : (Jvm.Cond.soleField "MaterialBars$Piece" "doneMethods") ∈ T0 := T0_in (List.mem_append_right _ (List.mem_append_left _ (List.mem_of_getElem? (i := 128) (by decide +kernel)))) rfl
theorem mw_129 : (Jvm.Cond.lays "MaterialBars$Piece" "MaterialBars$Piece" "latestHour" "I") ∈ T0 := T0_in (List.mem_append_right _ (List.mem_append_left _ (List.mem_of_getElem? (i := 129) (by decide +kernel)))) rfl
theorem mw_130 : (Jvm.Cond.soleField "MaterialBars$Piece" "latestHour") ∈ T0 := T0_in (List.mem_append_right _ (List.mem_append_left _ (List.mem_of_getElem? (i := 130) (by decide +kernel)))) rfl
theorem mw_131 : (Jvm.Cond.superclass "MaterialBars$Piece" "java/lang/Object") ∈ T0 := T0_in (List.mem_append_right _ (List.mem_append_left _ (List.mem_of_getElem? (i := 131) (by decide +kernel)))) rfl
theorem mw_132 : (Jvm.Cond.classLink "MaterialBars" (30 : Nat) "MaterialBars$Good") ∈ T0 := T0_in (List.mem_append_right _ (List.mem_append_left _ (List.mem_of_getElem? (i := 132) (by decide +kernel)))) rfl
theorem mw_134 : (Jvm.Cond.instantiable "MaterialBars$Good" (5 : Nat)) ∈ T0 := T0_in (List.mem_append_right _ (List.mem_append_left _ (List.mem_of_getElem? (i := 134) (by decide +kernel)))) rfl
theorem mw_136 : (Jvm.Cond.instanceMethod ({ cls := "MaterialBars$Good", name := "<init>", desc := "()V" } : Jvm.MethodName)) ∈ T0 := T0_in (List.mem_append_right _ (List.mem_append_left _ (List.mem_of_getElem? (i := 136) (by decide +kernel)))) rfl
theorem mw_137 : (Jvm.Cond.code ({ cls := "MaterialBars$Good", name := "<init>", desc := "()V" } : Jvm.MethodName) prog_2_method_1_code (1 : Nat) (Option.none : Option Jvm.ClassFile.FieldType)) ∈ T0 := T0_in (List.mem_append_right _ (List.mem_append_left _ (List.mem_of_getElem? (i := 137) rfl))) rfl
theorem mw_138 : (Jvm.Cond.methodLink "MaterialBars$Good" (3 : Nat) ({ cls := "java/lang/Object", name := "<init>", desc := "()V" } : Jvm.MethodName)) ∈ T0 := T0_in (List.mem_append_right _ (List.mem_append_left _ (List.mem_of_getElem? (i := 138) (by decide +kernel)))) rfl
theorem mw_139 : (Jvm.Cond.fieldLink "MaterialBars$Good" (15 : Nat) "MaterialBars$Good" "amount" "I") ∈ T0 := T0_in (List.mem_append_right _ (List.mem_append_left _ (List.mem_of_getElem? (i := 139) (by decide +kernel)))) rfl
theorem mw_140 : (Jvm.Cond.fieldLink "MaterialBars" (159 : Nat) "MaterialBars$Good" "amount" "I") ∈ T0 := T0_in (List.mem_append_right _ (List.mem_append_left _ (List.mem_of_getElem? (i := 140) (by decide +kernel)))) rfl
theorem mw_141 : (Jvm.Cond.fieldLink "MaterialBars$Good" (18 : Nat) "MaterialBars$Good" "came" "J") ∈ T0 := T0_in (List.mem_append_right _ (List.mem_append_left _ (List.mem_of_getElem? (i := 141) (by decide +kernel)))) rfl
theorem mw_142 : (Jvm.Cond.fieldLink "MaterialBars" (166 : Nat) "MaterialBars$Good" "came" "J") ∈ T0 := T0_in (List.mem_append_right _ (List.mem_append_left _ (List.mem_of_getElem? (i := 142) (by decide +kernel)))) rfl
theorem mw_143 : (Jvm.Cond.fieldLink "MaterialBars$Good" (22 : Nat) "MaterialBars$Good" "went" "J") ∈ T0 := T0_in (List.mem_append_right _ (List.mem_append_left _ (List.mem_of_getElem? (i := 143) (by decide +kernel)))) rfl
theorem mw_144 : (Jvm.Cond.fieldLink "MaterialBars" (170 : Nat) "MaterialBars$Good" "went" "J") ∈ T0 := T0_in (List.mem_append_right _ (List.mem_append_left _ (List.mem_of_getElem? (i := 144) (by decide +kernel)))) rfl
theorem mw_145 : (Jvm.Cond.fieldLink "MaterialBars$Good" (9 : Nat) "MaterialBars$Good" "shelf" "I") ∈ T0 := T0_in (List.mem_append_right _ (List.mem_append_left _ (List.mem_of_getElem? (i := 145) (by decide +kernel)))) rfl
theorem mw_146 : (Jvm.Cond.fieldLink "MaterialBars" (173 : Nat) "MaterialBars$Good" "shelf" "I") ∈ T0 := T0_in (List.mem_append_right _ (List.mem_append_left _ (List.mem_of_getElem? (i := 146) (by decide +kernel)))) rfl
theorem mw_147 : (Jvm.Cond.fieldLink "MaterialBars" (181 : Nat) "MaterialBars$Good" "apartFrom" "I") ∈ T0 := T0_in (List.mem_append_right _ (List.mem_append_left _ (List.mem_of_getElem? (i := 147) (by decide +kernel)))) rfl
theorem mw_148 : (Jvm.Cond.lays "MaterialBars$Good" "MaterialBars$Good" "amount" "I") ∈ T0 := T0_in (List.mem_append_right _ (List.mem_append_left _ (List.mem_of_getElem? (i := 148) (by decide +kernel)))) rfl
theorem mw_149 : (Jvm.Cond.soleField "MaterialBars$Good" "amount") ∈ T0 := T0_in (List.mem_append_right _ (List.mem_append_left _ (List.mem_of_getElem? (i := 149) (by decide +kernel)))) rfl
theorem mw_150 : (Jvm.Cond.lays "MaterialBars$Good" "MaterialBars$Good" "came" "J") ∈ T0 := T0_in (List.mem_append_right _ (List.mem_append_left _ (List.mem_of_getElem? (i := 150) (by decide +kernel)))) rfl
theorem mw_151 : (Jvm.Cond.soleField "MaterialBars$Good" "came") ∈ T0 := T0_in (List.mem_append_right _ (List.mem_append_left _ (List.mem_of_getElem? (i := 151) (by decide +kernel)))) rfl
theorem mw_152 : (Jvm.Cond.lays "MaterialBars$Good" "MaterialBars$Good" "went" "J") ∈ T0 := T0_in (List.mem_append_right _ (List.mem_append_left _ (List.mem_of_getElem? (i := 152) (by decide +kernel)))) rfl
theorem mw_153 : (Jvm.Cond.soleField "MaterialBars$Good" "went") ∈ T0 := T0_in (List.mem_append_right _ (List.mem_append_left _ (List.mem_of_getElem? (i := 153) (by decide +kernel)))) rfl
theorem mw_154 : (Jvm.Cond.lays "MaterialBars$Good" "MaterialBars$Good" "shelf" "I") ∈ T0 := T0_in (List.mem_append_right _ (List.mem_append_left _ (List.mem_of_getElem? (i := 154) (by decide +kernel)))) rfl
theorem mw_155 : (Jvm.Cond.soleField "MaterialBars$Good" "shelf") ∈ T0 := T0_in (List.mem_append_right _ (List.mem_append_left _ (List.mem_of_getElem? (i := 155) (by decide +kernel)))) rfl
theorem mw_156 : (Jvm.Cond.lays "MaterialBars$Good" "MaterialBars$Good" "apartFrom" "I") ∈ T0 := T0_in (List.mem_append_right _ (List.mem_append_left _ (List.mem_of_getElem? (i := 156) (by decide +kernel)))) rfl
theorem mw_157 : (Jvm.Cond.soleField "MaterialBars$Good" "apartFrom") ∈ T0 := T0_in (List.mem_append_right _ (List.mem_append_left _ (List.mem_of_getElem? (i := 157) (by decide +kernel)))) rfl
theorem mw_158 : (Jvm.Cond.superclass "MaterialBars$Good" "java/lang/Object") ∈ T0 := T0_in (List.mem_append_right _ (List.mem_append_left _ (List.mem_of_getElem? (i := 158) (by decide +kernel)))) rfl
theorem mw_159 : (Jvm.Cond.fieldLink "MaterialBars" (10 : Nat) "MaterialBars" "pad" "LMaterialBars$Pad;") ∈ T0 := T0_in (List.mem_append_right _ (List.mem_append_left _ (List.mem_of_getElem? (i := 159) (by decide +kernel)))) rfl
theorem mw_160 : (Jvm.Cond.fieldLink "MaterialBars" (18 : Nat) "MaterialBars" "methods" "[LMaterialBars$Method;") ∈ T0 := T0_in (List.mem_append_right _ (List.mem_append_left _ (List.mem_of_getElem? (i := 160) (by decide +kernel)))) rfl
theorem mw_161 : (Jvm.Cond.fieldLink "MaterialBars" (25 : Nat) "MaterialBars" "pieces" "[LMaterialBars$Piece;") ∈ T0 := T0_in (List.mem_append_right _ (List.mem_append_left _ (List.mem_of_getElem? (i := 161) (by decide +kernel)))) rfl
theorem mw_162 : (Jvm.Cond.fieldLink "MaterialBars" (32 : Nat) "MaterialBars" "goods" "[LMaterialBars$Good;") ∈ T0 := T0_in (List.mem_append_right _ (List.mem_append_left _ (List.mem_of_getElem? (i := 162) (by decide +kernel)))) rfl
theorem mw_163 : (Jvm.Cond.fieldLink "MaterialBars" (37 : Nat) "MaterialBars" "planned" "[I") ∈ T0 := T0_in (List.mem_append_right _ (List.mem_append_left _ (List.mem_of_getElem? (i := 163) (by decide +kernel)))) rfl
theorem mw_164 : (Jvm.Cond.fieldLink "MaterialBars" (41 : Nat) "MaterialBars" "draft" "[I") ∈ T0 := T0_in (List.mem_append_right _ (List.mem_append_left _ (List.mem_of_getElem? (i := 164) (by decide +kernel)))) rfl
theorem mw_165 : (Jvm.Cond.fieldLink "MaterialBars" (63 : Nat) "MaterialBars" "methodCount" "I") ∈ T0 := T0_in (List.mem_append_right _ (List.mem_append_left _ (List.mem_of_getElem? (i := 165) (by decide +kernel)))) rfl
theorem mw_166 : (Jvm.Cond.fieldLink "MaterialBars" (89 : Nat) "MaterialBars" "pieceCount" "I") ∈ T0 := T0_in (List.mem_append_right _ (List.mem_append_left _ (List.mem_of_getElem? (i := 166) (by decide +kernel)))) rfl
theorem mw_167 : (Jvm.Cond.fieldLink "MaterialBars" (216 : Nat) "MaterialBars" "plannedCount" "I") ∈ T0 := T0_in (List.mem_append_right _ (List.mem_append_left _ (List.mem_of_getElem? (i := 167) (by decide +kernel)))) rfl
theorem mw_168 : (Jvm.Cond.laysFinal "MaterialBars" "MaterialBars" "pad" "LMaterialBars$Pad;") ∈ T0 := T0_in (List.mem_append_right _ (List.mem_append_left _ (List.mem_of_getElem? (i := 168) (by decide +kernel)))) rfl
theorem mw_169 : (Jvm.Cond.soleField "MaterialBars" "pad") ∈ T0 := T0_in (List.mem_append_right _ (List.mem_append_left _ (List.mem_of_getElem? (i := 169) (by decide +kernel)))) rfl
theorem mw_170 : (Jvm.Cond.laysFinal "MaterialBars" "MaterialBars" "methods" "[LMaterialBars$Method;") ∈ T0 := T0_in (List.mem_append_right _ (List.mem_append_left _ (List.mem_of_getElem? (i := 170) (by decide +kernel)))) rfl
theorem mw_171 : (Jvm.Cond.soleField "MaterialBars" "methods") ∈ T0 := T0_in (List.mem_append_right _ (List.mem_append_left _ (List.mem_of_getElem? (i := 171) (by decide +kernel)))) rfl
theorem mw_172 : (Jvm.Cond.laysFinal "MaterialBars" "MaterialBars" "pieces" "[LMaterialBars$Piece;") ∈ T0 := T0_in (List.mem_append_right _ (List.mem_append_left _ (List.mem_of_getElem? (i := 172) (by decide +kernel)))) rfl
theorem mw_173 : (Jvm.Cond.soleField "MaterialBars" "pieces") ∈ T0 := T0_in (List.mem_append_right _ (List.mem_append_left _ (List.mem_of_getElem? (i := 173) (by decide +kernel)))) rfl
theorem mw_174 : (Jvm.Cond.laysFinal "MaterialBars" "MaterialBars" "goods" "[LMaterialBars$Good;") ∈ T0 := T0_in (List.mem_append_right _ (List.mem_append_left _ (List.mem_of_getElem? (i := 174) (by decide +kernel)))) rfl
theorem mw_175 : (Jvm.Cond.soleField "MaterialBars" "goods") ∈ T0 := T0_in (List.mem_append_right _ (List.mem_append_left _ (List.mem_of_getElem? (i := 175) (by decide +kernel)))) rfl
theorem mw_176 : (Jvm.Cond.laysFinal "MaterialBars" "MaterialBars" "planned" "[I") ∈ T0 := T0_in (List.mem_append_right _ (List.mem_append_left _ (List.mem_of_getElem? (i := 176) (by decide +kernel)))) rfl
theorem mw_177 : (Jvm.Cond.soleField "MaterialBars" "planned") ∈ T0 := T0_in (List.mem_append_right _ (List.mem_append_left _ (List.mem_of_getElem? (i := 177) (by decide +kernel)))) rfl
theorem mw_178 : (Jvm.Cond.laysFinal "MaterialBars" "MaterialBars" "draft" "[I") ∈ T0 := T0_in (List.mem_append_right _ (List.mem_append_left _ (List.mem_of_getElem? (i := 178) (by decide +kernel)))) rfl
theorem mw_179 : (Jvm.Cond.soleField "MaterialBars" "draft") ∈ T0 := T0_in (List.mem_append_right _ (List.mem_append_left _ (List.mem_of_getElem? (i := 179) (by decide +kernel)))) rfl
theorem mw_180 : (Jvm.Cond.lays "MaterialBars" "MaterialBars" "methodCount" "I") ∈ T0 := T0_in (List.mem_append_right _ (List.mem_append_left _ (List.mem_of_getElem? (i := 180) (by decide +kernel)))) rfl
theorem mw_181 : (Jvm.Cond.soleField "MaterialBars" "methodCount") ∈ T0 := T0_in (List.mem_append_right _ (List.mem_append_left _ (List.mem_of_getElem? (i := 181) (by decide +kernel)))) rfl
theorem mw_182 : (Jvm.Cond.lays "MaterialBars" "MaterialBars" "pieceCount" "I") ∈ T0 := T0_in (List.mem_append_right _ (List.mem_append_left _ (List.mem_of_getElem? (i := 182) (by decide +kernel)))) rfl
theorem mw_183 : (Jvm.Cond.soleField "MaterialBars" "pieceCount") ∈ T0 := T0_in (List.mem_append_right _ (List.mem_append_left _ (List.mem_of_getElem? (i := 183) (by decide +kernel)))) rfl
theorem mw_184 : (Jvm.Cond.lays "MaterialBars" "MaterialBars" "plannedCount" "I") ∈ T0 := T0_in (List.mem_append_right _ (List.mem_append_left _ (List.mem_of_getElem? (i := 184) (by decide +kernel)))) rfl
theorem mw_185 : (Jvm.Cond.soleField "MaterialBars" "plannedCount") ∈ T0 := T0_in (List.mem_append_right _ (List.mem_append_left _ (List.mem_of_getElem? (i := 185) (by decide +kernel)))) rfl
theorem mw_186 : (Jvm.Cond.superclass "MaterialBars" "java/lang/Object") ∈ T0 := T0_in (List.mem_append_right _ (List.mem_append_left _ (List.mem_of_getElem? (i := 186) (by decide +kernel)))) rfl
theorem mw_187 : (Jvm.Cond.methodLink "MaterialBarsLaw" (79 : Nat) ({ cls := "MaterialBarsLaw", name := "unit", desc := "(LMaterialBars;I[J)I" } : Jvm.MethodName)) ∈ T0 := T0_in (List.mem_append_right _ (List.mem_append_left _ (List.mem_of_getElem? (i := 187) (by decide +kernel)))) rfl
theorem mw_188 : (Jvm.Cond.static ({ cls := "MaterialBarsLaw", name := "unit", desc := "(LMaterialBars;I[J)I" } : Jvm.MethodName)) ∈ T0 := T0_in (List.mem_append_right _ (List.mem_append_left _ (List.mem_of_getElem? (i := 188) (by decide +kernel)))) rfl
theorem mw_189 : (Jvm.Cond.codeWith ({ cls := "MaterialBarsLaw", name := "unit", desc := "(LMaterialBars;I[J)I" } : Jvm.MethodName) method_3_code (4 : Nat) (Option.some Jvm.ClassFile.FieldType.int) [((0 : Nat), (9 : Nat), (12 : Nat), (13 : Nat)), ((0 : Nat), (9 : Nat), (15 : Nat), (15 : Nat))]) ∈ T0 := T0_in (List.mem_append_right _ (List.mem_append_left _ (List.mem_of_getElem? (i := 189) rfl))) rfl
theorem mw_190 : (Jvm.Cond.classLink "MaterialBarsLaw" (13 : Nat) "java/lang/IllegalStateException") ∈ T0 := T0_in (List.mem_append_right _ (List.mem_append_left _ (List.mem_of_getElem? (i := 190) (by decide +kernel)))) rfl
theorem mw_191 : (Jvm.Cond.classLink "MaterialBarsLaw" (15 : Nat) "java/lang/IllegalArgumentException") ∈ T0 := T0_in (List.mem_append_right _ (List.mem_append_left _ (List.mem_of_getElem? (i := 191) (by decide +kernel)))) rfl
theorem mw_192 : (Jvm.Cond.methodLink "MaterialBarsLaw" (7 : Nat) ({ cls := "MaterialBars", name := "unit", desc := "(I)I" } : Jvm.MethodName)) ∈ T0 := T0_in (List.mem_append_right _ (List.mem_append_left _ (List.mem_of_getElem? (i := 192) (by decide +kernel)))) rfl
theorem mw_193 : (Jvm.Cond.instanceMethod ({ cls := "MaterialBars", name := "unit", desc := "(I)I" } : Jvm.MethodName)) ∈ T0 := T0_in (List.mem_append_right _ (List.mem_append_left _ (List.mem_of_getElem? (i := 193) (by decide +kernel)))) rfl
theorem mw_194 : (Jvm.Cond.selects "MaterialBars" ({ cls := "MaterialBars", name := "unit", desc := "(I)I" } : Jvm.MethodName) ({ cls := "MaterialBars", name := "unit", desc := "(I)I" } : Jvm.MethodName)) ∈ T0 := T0_in (List.mem_append_right _ (List.mem_append_left _ (List.mem_of_getElem? (i := 194) (by decide +kernel)))) rfl
theorem mw_195 : (Jvm.Cond.code ({ cls := "MaterialBars", name := "unit", desc := "(I)I" } : Jvm.MethodName) prog_1_method_2_code (2 : Nat) (Option.some Jvm.ClassFile.FieldType.int)) ∈ T0 := T0_in (List.mem_append_right _ (List.mem_append_left _ (List.mem_of_getElem? (i := 195) rfl))) rfl
theorem mw_196 : (Jvm.Cond.classLink "MaterialBars" (48 : Nat) "java/lang/IllegalStateException") ∈ T0 := T0_in (List.mem_append_right _ (List.mem_append_left _ (List.mem_of_getElem? (i := 196) (by decide +kernel)))) rfl
theorem mw_197 : (Jvm.Cond.instantiable "java/lang/IllegalStateException" (6 : Nat)) ∈ T0 := T0_in (List.mem_append_right _ (List.mem_append_left _ (List.mem_of_getElem? (i := 197) (by decide +kernel)))) rfl
theorem mw_205 : (Jvm.Cond.selects "java/lang/IllegalStateException" ({ cls := "java/lang/Throwable", name := "fillInStackTrace", desc := "(I)Ljava/lang/Throwable;" } : Jvm.MethodName) ({ cls := "java/lang/Throwable", name := "fillInStackTrace", desc := "(I)Ljava/lang/Throwable;" } : Jvm.MethodName)) ∈ T0 := T0_in (List.mem_append_right _ (List.mem_append_left _ (List.mem_of_getElem? (i := 205) (by decide +kernel)))) rfl
theorem mw_206 : (Jvm.Cond.selects "java/lang/IllegalStateException" ({ cls := "java/lang/Throwable", name := "fillInStackTrace", desc := "()Ljava/lang/Throwable;" } : Jvm.MethodName) ({ cls := "java/lang/Throwable", name := "fillInStackTrace", desc := "()Ljava/lang/Throwable;" } : Jvm.MethodName)) ∈ T0 := T0_in (List.mem_append_right _ (List.mem_append_left _ (List.mem_of_getElem? (i := 206) (by decide +kernel)))) rfl
theorem mw_207 : (Jvm.Cond.lays "java/lang/IllegalStateException" "java/lang/Throwable" "cause" "Ljava/lang/Throwable;") ∈ T0 := T0_in (List.mem_append_right _ (List.mem_append_left _ (List.mem_of_getElem? (i := 207) (by decide +kernel)))) rfl
theorem mw_208 : (Jvm.Cond.lays "java/lang/Throwable" "java/lang/Throwable" "cause" "Ljava/lang/Throwable;") ∈ T0 := T0_in (List.mem_append_right _ (List.mem_append_left _ (List.mem_of_getElem? (i := 208) (by decide +kernel)))) rfl
theorem mw_209 : (Jvm.Cond.lays "java/lang/IllegalStateException" "java/lang/Throwable" "stackTrace" "[Ljava/lang/StackTraceElement;") ∈ T0 := T0_in (List.mem_append_right _ (List.mem_append_left _ (List.mem_of_getElem? (i := 209) (by decide +kernel)))) rfl
theorem mw_210 : (Jvm.Cond.lays "java/lang/Throwable" "java/lang/Throwable" "stackTrace" "[Ljava/lang/StackTraceElement;") ∈ T0 := T0_in (List.mem_append_right _ (List.mem_append_left _ (List.mem_of_getElem? (i := 210) (by decide +kernel)))) rfl
theorem mw_211 : (Jvm.Cond.lays "java/lang/IllegalStateException" "java/lang/Throwable" "suppressedExceptions" "Ljava/util/List;") ∈ T0 := T0_in (List.mem_append_right _ (List.mem_append_left _ (List.mem_of_getElem? (i := 211) (by decide +kernel)))) rfl
theorem mw_212 : (Jvm.Cond.lays "java/lang/Throwable" "java/lang/Throwable" "suppressedExceptions" "Ljava/util/List;") ∈ T0 := T0_in (List.mem_append_right _ (List.mem_append_left _ (List.mem_of_getElem? (i := 212) (by decide +kernel)))) rfl
theorem mw_213 : (Jvm.Cond.lays "java/lang/IllegalStateException" "java/lang/Throwable" "detailMessage" "Ljava/lang/String;") ∈ T0 := T0_in (List.mem_append_right _ (List.mem_append_left _ (List.mem_of_getElem? (i := 213) (by decide +kernel)))) rfl
theorem mw_214 : (Jvm.Cond.lays "java/lang/Throwable" "java/lang/Throwable" "detailMessage" "Ljava/lang/String;") ∈ T0 := T0_in (List.mem_append_right _ (List.mem_append_left _ (List.mem_of_getElem? (i := 214) (by decide +kernel)))) rfl
theorem mw_215 : (Jvm.Cond.lays "java/lang/IllegalStateException" "java/lang/Throwable" "backtrace" "Ljava/lang/Object;") ∈ T0 := T0_in (List.mem_append_right _ (List.mem_append_left _ (List.mem_of_getElem? (i := 215) (by decide +kernel)))) rfl
theorem mw_216 : (Jvm.Cond.lays "java/lang/Throwable" "java/lang/Throwable" "backtrace" "Ljava/lang/Object;") ∈ T0 := T0_in (List.mem_append_right _ (List.mem_append_left _ (List.mem_of_getElem? (i := 216) (by decide +kernel)))) rfl
theorem mw_217 : (Jvm.Cond.fieldLink "java/lang/Throwable" (198 : Nat) "java/lang/Throwable" "backtrace" "Ljava/lang/Object;") ∈ T0 := T0_in (List.mem_append_right _ (List.mem_append_left _ (List.mem_of_getElem? (i := 217) (by decide +kernel)))) rfl
theorem mw_218 : (Jvm.Cond.superclass "java/lang/Throwable" "java/lang/Object") ∈ T0 := T0_in (List.mem_append_right _ (List.mem_append_left _ (List.mem_of_getElem? (i := 218) (by decide +kernel)))) rfl
theorem mw_219 : (Jvm.Cond.instanceMethod ({ cls := "java/lang/Throwable", name := "<init>", desc := "()V" } : Jvm.MethodName)) ∈ T0 := T0_in (List.mem_append_right _ (List.mem_append_left _ (List.mem_of_getElem? (i := 219) (by decide +kernel)))) rfl
theorem mw_220 : (Jvm.Cond.code ({ cls := "java/lang/Throwable", name := "<init>", desc := "()V" } : Jvm.MethodName) prog_17_method_1_code (1 : Nat) (Option.none : Option Jvm.ClassFile.FieldType)) ∈ T0 := T0_in (List.mem_append_right _ (List.mem_append_left _ (List.mem_of_getElem? (i := 220) rfl))) rfl
theorem mw_221 : (Jvm.Cond.methodLink "java/lang/Throwable" (1 : Nat) ({ cls := "java/lang/Object", name := "<init>", desc := "()V" } : Jvm.MethodName)) ∈ T0 := T0_in (List.mem_append_right _ (List.mem_append_left _ (List.mem_of_getElem? (i := 221) (by decide +kernel)))) rfl
theorem mw_222 : (Jvm.Cond.fieldLink "java/lang/Throwable" (13 : Nat) "java/lang/Throwable" "UNASSIGNED_STACK" "[Ljava/lang/StackTraceElement;") ∈ T0 := T0_in (List.mem_append_right _ (List.mem_append_left _ (List.mem_of_getElem? (i := 222) (by decide +kernel)))) rfl
theorem mw_223 : (Jvm.Cond.laysStatic "java/lang/Throwable" "UNASSIGNED_STACK" "[Ljava/lang/StackTraceElement;") ∈ T0 := T0_in (List.mem_append_right _ (List.mem_append_left _ (List.mem_of_getElem? (i := 223) (by decide +kernel)))) rfl
theorem mw_224 : (Jvm.Cond.fieldLink "java/lang/Throwable" (20 : Nat) "java/lang/Throwable" "SUPPRESSED_SENTINEL" "Ljava/util/List;") ∈ T0 := T0_in (List.mem_append_right _ (List.mem_append_left _ (List.mem_of_getElem? (i := 224) (by decide +kernel)))) rfl
theorem mw_225 : (Jvm.Cond.laysStatic "java/lang/Throwable" "SUPPRESSED_SENTINEL" "Ljava/util/List;") ∈ T0 := T0_in (List.mem_append_right _ (List.mem_append_left _ (List.mem_of_getElem? (i := 225) (by decide +kernel)))) rfl
theorem mw_226 : (Jvm.Cond.methodLink "java/lang/Throwable" (27 : Nat) ({ cls := "java/lang/Throwable", name := "fillInStackTrace", desc := "()Ljava/lang/Throwable;" } : Jvm.MethodName)) ∈ T0 := T0_in (List.mem_append_right _ (List.mem_append_left _ (List.mem_of_getElem? (i := 226) (by decide +kernel)))) rfl
theorem mw_227 : (Jvm.Cond.instanceMethod ({ cls := "java/lang/Throwable", name := "fillInStackTrace", desc := "()Ljava/lang/Throwable;" } : Jvm.MethodName)) ∈ T0 := T0_in (List.mem_append_right _ (List.mem_append_left _ (List.mem_of_getElem? (i := 227) (by decide +kernel)))) rfl
theorem mw_228 : (Jvm.Cond.sameMethod "java/lang/Throwable" "java/lang/Throwable" "fillInStackTrace" "()Ljava/lang/Throwable;") ∈ T0 := T0_in (List.mem_append_right _ (List.mem_append_left _ (List.mem_of_getElem? (i := 228) (by decide +kernel)))) rfl
theorem mw_229 : (Jvm.Cond.selects "java/lang/IllegalArgumentException" ({ cls := "java/lang/Throwable", name := "fillInStackTrace", desc := "()Ljava/lang/Throwable;" } : Jvm.MethodName) ({ cls := "java/lang/Throwable", name := "fillInStackTrace", desc := "()Ljava/lang/Throwable;" } : Jvm.MethodName)) ∈ T0 := T0_in (List.mem_append_right _ (List.mem_append_left _ (List.mem_of_getElem? (i := 229) (by decide +kernel)))) rfl
theorem mw_230 : (Jvm.Cond.selects "java/lang/IndexOutOfBoundsException" ({ cls := "java/lang/Throwable", name := "fillInStackTrace", desc := "()Ljava/lang/Throwable;" } : Jvm.MethodName) ({ cls := "java/lang/Throwable", name := "fillInStackTrace", desc := "()Ljava/lang/Throwable;" } : Jvm.MethodName)) ∈ T0 := T0_in (List.mem_append_right _ (List.mem_append_left _ (List.mem_of_getElem? (i := 230) (by decide +kernel)))) rfl
theorem mw_231 : (Jvm.Cond.codeSync ({ cls := "java/lang/Throwable", name := "fillInStackTrace", desc := "()Ljava/lang/Throwable;" } : Jvm.MethodName) prog_17_method_18_code (1 : Nat) (Option.some (Jvm.ClassFile.FieldType.object "java/lang/Throwable"))) ∈ T0 := T0_in (List.mem_append_right _ (List.mem_append_left _ (List.mem_of_getElem? (i := 231) rfl))) rfl
theorem mw_232 : (Jvm.Cond.methodLink "java/lang/Throwable" (202 : Nat) ({ cls := "java/lang/Throwable", name := "fillInStackTrace", desc := "(I)Ljava/lang/Throwable;" } : Jvm.MethodName)) ∈ T0 := T0_in (List.mem_append_right _ (List.mem_append_left _ (List.mem_of_getElem? (i := 232) (by decide +kernel)))) rfl
theorem mw_234 : (Jvm.Cond.instanceMethod ({ cls := "java/lang/Throwable", name := "fillInStackTrace", desc := "(I)Ljava/lang/Throwable;" } : Jvm.MethodName)) ∈ T0 := T0_in (List.mem_append_right _ (List.mem_append_left _ (List.mem_of_getElem? (i := 234) (by decide +kernel)))) rfl
theorem mw_235 : (Jvm.Cond.instantiable "java/lang/Throwable" (6 : Nat)) ∈ T0 := T0_in (List.mem_append_right _ (List.mem_append_left _ (List.mem_of_getElem? (i := 235) (by decide +kernel)))) rfl
theorem mw_236 : (Jvm.Cond.native ({ cls := "java/lang/Throwable", name := "fillInStackTrace", desc := "(I)Ljava/lang/Throwable;" } : Jvm.MethodName)) ∈ T0 := T0_in (List.mem_append_right _ (List.mem_append_left _ (List.mem_of_getElem? (i := 236) (by decide +kernel)))) rfl
theorem mw_238 : (Jvm.Cond.methodLink "MaterialBars" (52 : Nat) ({ cls := "java/lang/IllegalStateException", name := "<init>", desc := "(Ljava/lang/String;)V" } : Jvm.MethodName)) ∈ T0 := T0_in (List.mem_append_right _ (List.mem_append_left _ (List.mem_of_getElem? (i := 238) (by decide +kernel)))) rfl
theorem mw_239 : (Jvm.Cond.instanceMethod ({ cls := "java/lang/IllegalStateException", name := "<init>", desc := "(Ljava/lang/String;)V" } : Jvm.MethodName)) ∈ T0 := T0_in (List.mem_append_right _ (List.mem_append_left _ (List.mem_of_getElem? (i := 239) (by decide +kernel)))) rfl
theorem mw_240 : (Jvm.Cond.code ({ cls := "java/lang/IllegalStateException", name := "<init>", desc := "(Ljava/lang/String;)V" } : Jvm.MethodName) prog_10_method_2_code (2 : Nat) (Option.none : Option Jvm.ClassFile.FieldType)) ∈ T0 := T0_in (List.mem_append_right _ (List.mem_append_right _ (List.mem_append_left _ (List.mem_of_getElem? (i := 0) rfl)))) rfl
theorem mw_241 : (Jvm.Cond.methodLink "java/lang/IllegalStateException" (7 : Nat) ({ cls := "java/lang/RuntimeException", name := "<init>", desc := "(Ljava/lang/String;)V" } : Jvm.MethodName)) ∈ T0 := T0_in (List.mem_append_right _ (List.mem_append_right _ (List.mem_append_left _ (List.mem_of_getElem? (i := 1) (by decide +kernel))))) rfl
theorem mw_242 : (Jvm.Cond.instanceMethod ({ cls := "java/lang/RuntimeException", name := "<init>", desc := "(Ljava/lang/String;)V" } : Jvm.MethodName)) ∈ T0 := T0_in (List.mem_append_right _ (List.mem_append_right _ (List.mem_append_left _ (List.mem_of_getElem? (i := 2) (by decide +kernel))))) rfl
theorem mw_243 : (Jvm.Cond.code ({ cls := "java/lang/RuntimeException", name := "<init>", desc := "(Ljava/lang/String;)V" } : Jvm.MethodName) prog_14_method_2_code (2 : Nat) (Option.none : Option Jvm.ClassFile.FieldType)) ∈ T0 := T0_in (List.mem_append_right _ (List.mem_append_right _ (List.mem_append_left _ (List.mem_of_getElem? (i := 3) rfl)))) rfl
theorem mw_244 : (Jvm.Cond.methodLink "java/lang/RuntimeException" (7 : Nat) ({ cls := "java/lang/Exception", name := "<init>", desc := "(Ljava/lang/String;)V" } : Jvm.MethodName)) ∈ T0 := T0_in (List.mem_append_right _ (List.mem_append_right _ (List.mem_append_left _ (List.mem_of_getElem? (i := 4) (by decide +kernel))))) rfl
theorem mw_245 : (Jvm.Cond.instanceMethod ({ cls := "java/lang/Exception", name := "<init>", desc := "(Ljava/lang/String;)V" } : Jvm.MethodName)) ∈ T0 := T0_in (List.mem_append_right _ (List.mem_append_right _ (List.mem_append_left _ (List.mem_of_getElem? (i := 5) (by decide +kernel))))) rfl
theorem mw_246 : (Jvm.Cond.code ({ cls := "java/lang/Exception", name := "<init>", desc := "(Ljava/lang/String;)V" } : Jvm.MethodName) prog_8_method_2_code (2 : Nat) (Option.none : Option Jvm.ClassFile.FieldType)) ∈ T0 := T0_in (List.mem_append_right _ (List.mem_append_right _ (List.mem_append_left _ (List.mem_of_getElem? (i := 6) rfl)))) rfl
theorem mw_247 : (Jvm.Cond.methodLink "java/lang/Exception" (7 : Nat) ({ cls := "java/lang/Throwable", name := "<init>", desc := "(Ljava/lang/String;)V" } : Jvm.MethodName)) ∈ T0 := T0_in (List.mem_append_right _ (List.mem_append_right _ (List.mem_append_left _ (List.mem_of_getElem? (i := 7) (by decide +kernel))))) rfl
theorem mw_248 : (Jvm.Cond.instanceMethod ({ cls := "java/lang/Throwable", name := "<init>", desc := "(Ljava/lang/String;)V" } : Jvm.MethodName)) ∈ T0 := T0_in (List.mem_append_right _ (List.mem_append_right _ (List.mem_append_left _ (List.mem_of_getElem? (i := 8) (by decide +kernel))))) rfl
theorem mw_249 : (Jvm.Cond.code ({ cls := "java/lang/Throwable", name := "<init>", desc := "(Ljava/lang/String;)V" } : Jvm.MethodName) prog_17_method_2_code (2 : Nat) (Option.none : Option Jvm.ClassFile.FieldType)) ∈ T0 := T0_in (List.mem_append_right _ (List.mem_append_right _ (List.mem_append_left _ (List.mem_of_getElem? (i := 9) rfl)))) rfl
theorem mw_250 : (Jvm.Cond.fieldLink "java/lang/Throwable" (198 : Nat) "java/lang/Throwable" "backtrace" "Ljava/lang/Object;") ∈ T0 := T0_in (List.mem_append_right _ (List.mem_append_right _ (List.mem_append_left _ (List.mem_of_getElem? (i := 10) (by decide +kernel))))) rfl
theorem mw_251 : (Jvm.Cond.fieldLink "java/lang/Throwable" (31 : Nat) "java/lang/Throwable" "detailMessage" "Ljava/lang/String;") ∈ T0 := T0_in (List.mem_append_right _ (List.mem_append_right _ (List.mem_append_left _ (List.mem_of_getElem? (i := 11) (by decide +kernel))))) rfl
theorem mw_252 : (Jvm.Cond.fieldLink "java/lang/Throwable" (7 : Nat) "java/lang/Throwable" "cause" "Ljava/lang/Throwable;") ∈ T0 := T0_in (List.mem_append_right _ (List.mem_append_right _ (List.mem_append_left _ (List.mem_of_getElem? (i := 12) (by decide +kernel))))) rfl
theorem mw_253 : (Jvm.Cond.fieldLink "java/lang/Throwable" (17 : Nat) "java/lang/Throwable" "stackTrace" "[Ljava/lang/StackTraceElement;") ∈ T0 := T0_in (List.mem_append_right _ (List.mem_append_right _ (List.mem_append_left _ (List.mem_of_getElem? (i := 13) (by decide +kernel))))) rfl
theorem mw_254 : (Jvm.Cond.fieldLink "java/lang/Throwable" (24 : Nat) "java/lang/Throwable" "suppressedExceptions" "Ljava/util/List;") ∈ T0 := T0_in (List.mem_append_right _ (List.mem_append_right _ (List.mem_append_left _ (List.mem_of_getElem? (i := 14) (by decide +kernel))))) rfl
theorem mw_255 : (Jvm.Cond.soleField "java/lang/Throwable" "backtrace") ∈ T0 := T0_in (List.mem_append_right _ (List.mem_append_right _ (List.mem_append_left _ (List.mem_of_getElem? (i := 15) (by decide +kernel))))) rfl
theorem mw_256 : (Jvm.Cond.soleField "java/lang/Throwable" "detailMessage") ∈ T0 := T0_in (List.mem_append_right _ (List.mem_append_right _ (List.mem_append_left _ (List.mem_of_getElem? (i := 16) (by decide +kernel))))) rfl
theorem mw_257 : (Jvm.Cond.soleField "java/lang/Throwable" "cause") ∈ T0 := T0_in (List.mem_append_right _ (List.mem_append_right _ (List.mem_append_left _ (List.mem_of_getElem? (i := 17) (by decide +kernel))))) rfl
theorem mw_258 : (Jvm.Cond.soleField "java/lang/Throwable" "stackTrace") ∈ T0 := T0_in (List.mem_append_right _ (List.mem_append_right _ (List.mem_append_left _ (List.mem_of_getElem? (i := 18) (by decide +kernel))))) rfl
theorem mw_259 : (Jvm.Cond.lays "java/lang/IllegalStateException" "java/lang/Throwable" "depth" "I") ∈ T0 := T0_in (List.mem_append_right _ (List.mem_append_right _ (List.mem_append_left _ (List.mem_of_getElem? (i := 19) (by decide +kernel))))) rfl
theorem mw_260 : (Jvm.Cond.soleField "java/lang/Throwable" "depth") ∈ T0 := T0_in (List.mem_append_right _ (List.mem_append_right _ (List.mem_append_left _ (List.mem_of_getElem? (i := 20) (by decide +kernel))))) rfl
theorem mw_261 : (Jvm.Cond.soleField "java/lang/Throwable" "suppressedExceptions") ∈ T0 := T0_in (List.mem_append_right _ (List.mem_append_right _ (List.mem_append_left _ (List.mem_of_getElem? (i := 21) (by decide +kernel))))) rfl
theorem mw_262 : (Jvm.Cond.superclass "java/lang/IllegalStateException" "java/lang/RuntimeException") ∈ T0 := T0_in (List.mem_append_right _ (List.mem_append_right _ (List.mem_append_left _ (List.mem_of_getElem? (i := 22) (by decide +kernel))))) rfl
theorem mw_263 : (Jvm.Cond.arrayClass Jvm.ClassFile.FieldType.byte) ∈ T0 := T0_in (List.mem_append_right _ (List.mem_append_right _ (List.mem_append_left _ (List.mem_of_getElem? (i := 23) (by decide +kernel))))) rfl
theorem mw_264 : (Jvm.Cond.classLink "MaterialBars" (55 : Nat) "java/lang/IllegalArgumentException") ∈ T0 := T0_in (List.mem_append_right _ (List.mem_append_right _ (List.mem_append_left _ (List.mem_of_getElem? (i := 24) (by decide +kernel))))) rfl
theorem mw_265 : (Jvm.Cond.instantiable "java/lang/IllegalArgumentException" (6 : Nat)) ∈ T0 := T0_in (List.mem_append_right _ (List.mem_append_right _ (List.mem_append_left _ (List.mem_of_getElem? (i := 25) (by decide +kernel))))) rfl
theorem mw_267 : (Jvm.Cond.selects "java/lang/IllegalArgumentException" ({ cls := "java/lang/Throwable", name := "fillInStackTrace", desc := "(I)Ljava/lang/Throwable;" } : Jvm.MethodName) ({ cls := "java/lang/Throwable", name := "fillInStackTrace", desc := "(I)Ljava/lang/Throwable;" } : Jvm.MethodName)) ∈ T0 := T0_in (List.mem_append_right _ (List.mem_append_right _ (List.mem_append_left _ (List.mem_of_getElem? (i := 27) (by decide +kernel))))) rfl
theorem mw_268 : (Jvm.Cond.lays "java/lang/IllegalArgumentException" "java/lang/Throwable" "cause" "Ljava/lang/Throwable;") ∈ T0 := T0_in (List.mem_append_right _ (List.mem_append_right _ (List.mem_append_left _ (List.mem_of_getElem? (i := 28) (by decide +kernel))))) rfl
theorem mw_269 : (Jvm.Cond.lays "java/lang/IllegalArgumentException" "java/lang/Throwable" "stackTrace" "[Ljava/lang/StackTraceElement;") ∈ T0 := T0_in (List.mem_append_right _ (List.mem_append_right _ (List.mem_append_left _ (List.mem_of_getElem? (i := 29) (by decide +kernel))))) rfl
theorem mw_270 : (Jvm.Cond.lays "java/lang/IllegalArgumentException" "java/lang/Throwable" "suppressedExceptions" "Ljava/util/List;") ∈ T0 := T0_in (List.mem_append_right _ (List.mem_append_right _ (List.mem_append_left _ (List.mem_of_getElem? (i := 30) (by decide +kernel))))) rfl
theorem mw_271 : (Jvm.Cond.lays "java/lang/IllegalArgumentException" "java/lang/Throwable" "detailMessage" "Ljava/lang/String;") ∈ T0 := T0_in (List.mem_append_right _ (List.mem_append_right _ (List.mem_append_left _ (List.mem_of_getElem? (i := 31) (by decide +kernel))))) rfl
theorem mw_272 : (Jvm.Cond.lays "java/lang/IllegalArgumentException" "java/lang/Throwable" "backtrace" "Ljava/lang/Object;") ∈ T0 := T0_in (List.mem_append_right _ (List.mem_append_right _ (List.mem_append_left _ (List.mem_of_getElem? (i := 32) (by decide +kernel))))) rfl
theorem mw_274 : (Jvm.Cond.methodLink "MaterialBars" (59 : Nat) ({ cls := "java/lang/IllegalArgumentException", name := "<init>", desc := "(Ljava/lang/String;)V" } : Jvm.MethodName)) ∈ T0 := T0_in (List.mem_append_right _ (List.mem_append_right _ (List.mem_append_left _ (List.mem_of_getElem? (i := 34) (by decide +kernel))))) rfl
theorem mw_275 : (Jvm.Cond.instanceMethod ({ cls := "java/lang/IllegalArgumentException", name := "<init>", desc := "(Ljava/lang/String;)V" } : Jvm.MethodName)) ∈ T0 := T0_in (List.mem_append_right _ (List.mem_append_right _ (List.mem_append_left _ (List.mem_of_getElem? (i := 35) (by decide +kernel))))) rfl
theorem mw_276 : (Jvm.Cond.code ({ cls := "java/lang/IllegalArgumentException", name := "<init>", desc := "(Ljava/lang/String;)V" } : Jvm.MethodName) prog_9_method_2_code (2 : Nat) (Option.none : Option Jvm.ClassFile.FieldType)) ∈ T0 := T0_in (List.mem_append_right _ (List.mem_append_right _ (List.mem_append_left _ (List.mem_of_getElem? (i := 36) rfl)))) rfl
theorem mw_277 : (Jvm.Cond.methodLink "java/lang/IllegalArgumentException" (7 : Nat) ({ cls := "java/lang/RuntimeException", name := "<init>", desc := "(Ljava/lang/String;)V" } : Jvm.MethodName)) ∈ T0 := T0_in (List.mem_append_right _ (List.mem_append_right _ (List.mem_append_left _ (List.mem_of_getElem? (i := 37) (by decide +kernel))))) rfl
theorem mw_278 : (Jvm.Cond.lays "java/lang/IllegalArgumentException" "java/lang/Throwable" "depth" "I") ∈ T0 := T0_in (List.mem_append_right _ (List.mem_append_right _ (List.mem_append_left _ (List.mem_of_getElem? (i := 38) (by decide +kernel))))) rfl
theorem mw_279 : (Jvm.Cond.superclass "java/lang/IllegalArgumentException" "java/lang/RuntimeException") ∈ T0 := T0_in (List.mem_append_right _ (List.mem_append_right _ (List.mem_append_left _ (List.mem_of_getElem? (i := 39) (by decide +kernel))))) rfl
theorem mw_280 : (Jvm.Cond.methodLink "MaterialBarsLaw" (88 : Nat) ({ cls := "MaterialBarsLaw", name := "read", desc := "(LMaterialBars;[J)I" } : Jvm.MethodName)) ∈ T0 := T0_in (List.mem_append_right _ (List.mem_append_right _ (List.mem_append_left _ (List.mem_of_getElem? (i := 40) (by decide +kernel))))) rfl
theorem mw_281 : (Jvm.Cond.static ({ cls := "MaterialBarsLaw", name := "read", desc := "(LMaterialBars;[J)I" } : Jvm.MethodName)) ∈ T0 := T0_in (List.mem_append_right _ (List.mem_append_right _ (List.mem_append_left _ (List.mem_of_getElem? (i := 41) (by decide +kernel))))) rfl
theorem mw_282 : (Jvm.Cond.codeWith ({ cls := "MaterialBarsLaw", name := "read", desc := "(LMaterialBars;[J)I" } : Jvm.MethodName) method_4_code (3 : Nat) (Option.some Jvm.ClassFile.FieldType.int) [((0 : Nat), (8 : Nat), (11 : Nat), (13 : Nat))]) ∈ T0 := T0_in (List.mem_append_right _ (List.mem_append_right _ (List.mem_append_left _ (List.mem_of_getElem? (i := 42) rfl)))) rfl
theorem mw_283 : (Jvm.Cond.methodLink "MaterialBarsLaw" (17 : Nat) ({ cls := "MaterialBars", name := "read", desc := "()I" } : Jvm.MethodName)) ∈ T0 := T0_in (List.mem_append_right _ (List.mem_append_right _ (List.mem_append_left _ (List.mem_of_getElem? (i := 43) (by decide +kernel))))) rfl
theorem mw_284 : (Jvm.Cond.instanceMethod ({ cls := "MaterialBars", name := "read", desc := "()I" } : Jvm.MethodName)) ∈ T0 := T0_in (List.mem_append_right _ (List.mem_append_right _ (List.mem_append_left _ (List.mem_of_getElem? (i := 44) (by decide +kernel))))) rfl
theorem mw_285 : (Jvm.Cond.selects "MaterialBars" ({ cls := "MaterialBars", name := "read", desc := "()I" } : Jvm.MethodName) ({ cls := "MaterialBars", name := "read", desc := "()I" } : Jvm.MethodName)) ∈ T0 := T0_in (List.mem_append_right _ (List.mem_append_right _ (List.mem_append_left _ (List.mem_of_getElem? (i := 45) (by decide +kernel))))) rfl
theorem mw_286 : (Jvm.Cond.code ({ cls := "MaterialBars", name := "read", desc := "()I" } : Jvm.MethodName) prog_1_method_3_code (3 : Nat) (Option.some Jvm.ClassFile.FieldType.int)) ∈ T0 := T0_in (List.mem_append_right _ (List.mem_append_right _ (List.mem_append_left _ (List.mem_of_getElem? (i := 46) rfl)))) rfl
theorem mw_288 : (Jvm.Cond.methodLink "MaterialBars" (68 : Nat) ({ cls := "MaterialBars$Method", name := "clear", desc := "()V" } : Jvm.MethodName)) ∈ T0 := T0_in (List.mem_append_right _ (List.mem_append_right _ (List.mem_append_left _ (List.mem_of_getElem? (i := 48) (by decide +kernel))))) rfl
theorem mw_289 : (Jvm.Cond.instanceMethod ({ cls := "MaterialBars$Method", name := "clear", desc := "()V" } : Jvm.MethodName)) ∈ T0 := T0_in (List.mem_append_right _ (List.mem_append_right _ (List.mem_append_left _ (List.mem_of_getElem? (i := 49) (by decide +kernel))))) rfl
theorem mw_290 : (Jvm.Cond.selects "MaterialBars$Method" ({ cls := "MaterialBars$Method", name := "clear", desc := "()V" } : Jvm.MethodName) ({ cls := "MaterialBars$Method", name := "clear", desc := "()V" } : Jvm.MethodName)) ∈ T0 := T0_in (List.mem_append_right _ (List.mem_append_right _ (List.mem_append_left _ (List.mem_of_getElem? (i := 50) (by decide +kernel))))) rfl
theorem mw_291 : (Jvm.Cond.code ({ cls := "MaterialBars$Method", name := "clear", desc := "()V" } : Jvm.MethodName) prog_3_method_2_code (2 : Nat) (Option.none : Option Jvm.ClassFile.FieldType)) ∈ T0 := T0_in (List.mem_append_right _ (List.mem_append_right _ (List.mem_append_left _ (List.mem_of_getElem? (i := 51) rfl)))) rfl
theorem mw_292 : (Jvm.Cond.methodLink "MaterialBars" (71 : Nat) ({ cls := "MaterialBars$Pad", name := "readText", desc := "(LMaterialBars$Method;)Z" } : Jvm.MethodName)) ∈ T0 := T0_in (List.mem_append_right _ (List.mem_append_right _ (List.mem_append_left _ (List.mem_of_getElem? (i := 52) (by decide +kernel))))) rfl
theorem mw_293 : (Jvm.Cond.instanceMethod ({ cls := "MaterialBars$Pad", name := "readText", desc := "(LMaterialBars$Method;)Z" } : Jvm.MethodName)) ∈ T0 := T0_in (List.mem_append_right _ (List.mem_append_right _ (List.mem_append_left _ (List.mem_of_getElem? (i := 53) (by decide +kernel))))) rfl
theorem mw_294 : (Jvm.Cond.selects "MaterialBars$Pad" ({ cls := "MaterialBars$Pad", name := "readText", desc := "(LMaterialBars$Method;)Z" } : Jvm.MethodName) ({ cls := "MaterialBars$Pad", name := "readText", desc := "(LMaterialBars$Method;)Z" } : Jvm.MethodName)) ∈ T0 := T0_in (List.mem_append_right _ (List.mem_append_right _ (List.mem_append_left _ (List.mem_of_getElem? (i := 54) (by decide +kernel))))) rfl
theorem mw_295 : (Jvm.Cond.code ({ cls := "MaterialBars$Pad", name := "readText", desc := "(LMaterialBars$Method;)Z" } : Jvm.MethodName) prog_4_method_2_code (3 : Nat) (Option.some Jvm.ClassFile.FieldType.boolean)) ∈ T0 := T0_in (List.mem_append_right _ (List.mem_append_right _ (List.mem_append_left _ (List.mem_of_getElem? (i := 55) rfl)))) rfl
theorem mw_296 : (Jvm.Cond.methodLink "MaterialBars$Pad" (22 : Nat) ({ cls := "MaterialBars$Pad", name := "take", desc := "(I)Z" } : Jvm.MethodName)) ∈ T0 := T0_in (List.mem_append_right _ (List.mem_append_right _ (List.mem_append_left _ (List.mem_of_getElem? (i := 56) (by decide +kernel))))) rfl
theorem mw_298 : (Jvm.Cond.instanceMethod ({ cls := "MaterialBars$Pad", name := "take", desc := "(I)Z" } : Jvm.MethodName)) ∈ T0 := T0_in (List.mem_append_right _ (List.mem_append_right _ (List.mem_append_left _ (List.mem_of_getElem? (i := 58) (by decide +kernel))))) rfl
theorem mw_299 : (Jvm.Cond.code ({ cls := "MaterialBars$Pad", name := "take", desc := "(I)Z" } : Jvm.MethodName) prog_4_method_9_code (2 : Nat) (Option.some Jvm.ClassFile.FieldType.boolean)) ∈ T0 := T0_in (List.mem_append_right _ (List.mem_append_right _ (List.mem_append_left _ (List.mem_of_getElem? (i := 59) rfl)))) rfl
theorem mw_300 : (Jvm.Cond.methodLink "MaterialBars$Pad" (79 : Nat) ({ cls := "MaterialBars$Pad", name := "signHere", desc := "()I" } : Jvm.MethodName)) ∈ T0 := T0_in (List.mem_append_right _ (List.mem_append_right _ (List.mem_append_left _ (List.mem_of_getElem? (i := 60) (by decide +kernel))))) rfl
theorem mw_302 : (Jvm.Cond.instanceMethod ({ cls := "MaterialBars$Pad", name := "signHere", desc := "()I" } : Jvm.MethodName)) ∈ T0 := T0_in (List.mem_append_right _ (List.mem_append_right _ (List.mem_append_left _ (List.mem_of_getElem? (i := 62) (by decide +kernel))))) rfl
theorem mw_303 : (Jvm.Cond.code ({ cls := "MaterialBars$Pad", name := "signHere", desc := "()I" } : Jvm.MethodName) prog_4_method_10_code (1 : Nat) (Option.some Jvm.ClassFile.FieldType.int)) ∈ T0 := T0_in (List.mem_append_right _ (List.mem_append_right _ (List.mem_append_left _ (List.mem_of_getElem? (i := 63) rfl)))) rfl
theorem mw_304 : (Jvm.Cond.methodLink "MaterialBars$Pad" (26 : Nat) ({ cls := "MaterialBars$Pad", name := "readClause", desc := "(LMaterialBars$Method;)Z" } : Jvm.MethodName)) ∈ T0 := T0_in (List.mem_append_right _ (List.mem_append_right _ (List.mem_append_left _ (List.mem_of_getElem? (i := 64) (by decide +kernel))))) rfl
theorem mw_306 : (Jvm.Cond.instanceMethod ({ cls := "MaterialBars$Pad", name := "readClause", desc := "(LMaterialBars$Method;)Z" } : Jvm.MethodName)) ∈ T0 := T0_in (List.mem_append_right _ (List.mem_append_right _ (List.mem_append_left _ (List.mem_of_getElem? (i := 66) (by decide +kernel))))) rfl
theorem mw_307 : (Jvm.Cond.code ({ cls := "MaterialBars$Pad", name := "readClause", desc := "(LMaterialBars$Method;)Z" } : Jvm.MethodName) prog_4_method_3_code (2 : Nat) (Option.some Jvm.ClassFile.FieldType.boolean)) ∈ T0 := T0_in (List.mem_append_right _ (List.mem_append_right _ (List.mem_append_left _ (List.mem_of_getElem? (i := 67) rfl)))) rfl
theorem mw_308 : (Jvm.Cond.methodLink "MaterialBars$Pad" (30 : Nat) ({ cls := "MaterialBars$Pad", name := "readUse", desc := "(LMaterialBars$Method;)Z" } : Jvm.MethodName)) ∈ T0 := T0_in (List.mem_append_right _ (List.mem_append_right _ (List.mem_append_left _ (List.mem_of_getElem? (i := 68) (by decide +kernel))))) rfl
theorem mw_310 : (Jvm.Cond.instanceMethod ({ cls := "MaterialBars$Pad", name := "readUse", desc := "(LMaterialBars$Method;)Z" } : Jvm.MethodName)) ∈ T0 := T0_in (List.mem_append_right _ (List.mem_append_right _ (List.mem_append_left _ (List.mem_of_getElem? (i := 70) (by decide +kernel))))) rfl
theorem mw_311 : (Jvm.Cond.code ({ cls := "MaterialBars$Pad", name := "readUse", desc := "(LMaterialBars$Method;)Z" } : Jvm.MethodName) prog_4_method_4_code (4 : Nat) (Option.some Jvm.ClassFile.FieldType.boolean)) ∈ T0 := T0_in (List.mem_append_right _ (List.mem_append_right _ (List.mem_append_left _ (List.mem_of_getElem? (i := 71) rfl)))) rfl
theorem mw_312 : (Jvm.Cond.methodLink "MaterialBars$Pad" (51 : Nat) ({ cls := "MaterialBars$Pad", name := "readNumber", desc := "(II)I" } : Jvm.MethodName)) ∈ T0 := T0_in (List.mem_append_right _ (List.mem_append_right _ (List.mem_append_left _ (List.mem_of_getElem? (i := 72) (by decide +kernel))))) rfl
theorem mw_314 : (Jvm.Cond.instanceMethod ({ cls := "MaterialBars$Pad", name := "readNumber", desc := "(II)I" } : Jvm.MethodName)) ∈ T0 := T0_in (List.mem_append_right _ (List.mem_append_right _ (List.mem_append_left _ (List.mem_of_getElem? (i := 74) (by decide +kernel))))) rfl
theorem mw_315 : (Jvm.Cond.code ({ cls := "MaterialBars$Pad", name := "readNumber", desc := "(II)I" } : Jvm.MethodName) prog_4_method_8_code (6 : Nat) (Option.some Jvm.ClassFile.FieldType.int)) ∈ T0 := T0_in (List.mem_append_right _ (List.mem_append_right _ (List.mem_append_left _ (List.mem_of_getElem? (i := 75) rfl)))) rfl
theorem mw_316 : (Jvm.Cond.methodLink "MaterialBars$Pad" (83 : Nat) ({ cls := "MaterialBars$Pad", name := "isDigit", desc := "(I)Z" } : Jvm.MethodName)) ∈ T0 := T0_in (List.mem_append_right _ (List.mem_append_right _ (List.mem_append_left _ (List.mem_of_getElem? (i := 76) (by decide +kernel))))) rfl
theorem mw_317 : (Jvm.Cond.static ({ cls := "MaterialBars$Pad", name := "isDigit", desc := "(I)Z" } : Jvm.MethodName)) ∈ T0 := T0_in (List.mem_append_right _ (List.mem_append_right _ (List.mem_append_left _ (List.mem_of_getElem? (i := 77) (by decide +kernel))))) rfl
theorem mw_318 : (Jvm.Cond.code ({ cls := "MaterialBars$Pad", name := "isDigit", desc := "(I)Z" } : Jvm.MethodName) prog_4_method_11_code (1 : Nat) (Option.some Jvm.ClassFile.FieldType.boolean)) ∈ T0 := T0_in (List.mem_append_right _ (List.mem_append_right _ (List.mem_append_left _ (List.mem_of_getElem? (i := 78) rfl)))) rfl
theorem mw_319 : (Jvm.Cond.methodLink "MaterialBars$Pad" (33 : Nat) ({ cls := "MaterialBars$Pad", name := "readBar", desc := "(LMaterialBars$Method;)Z" } : Jvm.MethodName)) ∈ T0 := T0_in (List.mem_append_right _ (List.mem_append_right _ (List.mem_append_left _ (List.mem_of_getElem? (i := 79) (by decide +kernel))))) rfl
theorem mw_321 : (Jvm.Cond.instanceMethod ({ cls := "MaterialBars$Pad", name := "readBar", desc := "(LMaterialBars$Method;)Z" } : Jvm.MethodName)) ∈ T0 := T0_in (List.mem_append_right _ (List.mem_append_right _ (List.mem_append_left _ (List.mem_of_getElem? (i := 81) (by decide +kernel))))) rfl
theorem mw_322 : (Jvm.Cond.code ({ cls := "MaterialBars$Pad", name := "readBar", desc := "(LMaterialBars$Method;)Z" } : Jvm.MethodName) prog_4_method_5_code (3 : Nat) (Option.some Jvm.ClassFile.FieldType.boolean)) ∈ T0 := T0_in (List.mem_append_right _ (List.mem_append_right _ (List.mem_append_left _ (List.mem_of_getElem? (i := 82) rfl)))) rfl
theorem mw_324 : (Jvm.Cond.static ({ cls := "MaterialBars", name := "with", desc := "(IIZ)I" } : Jvm.MethodName)) ∈ T0 := T0_in (List.mem_append_right _ (List.mem_append_right _ (List.mem_append_left _ (List.mem_of_getElem? (i := 84) (by decide +kernel))))) rfl
theorem mw_325 : (Jvm.Cond.code ({ cls := "MaterialBars", name := "with", desc := "(IIZ)I" } : Jvm.MethodName) prog_1_method_25_code (3 : Nat) (Option.some Jvm.ClassFile.FieldType.int)) ∈ T0 := T0_in (List.mem_append_right _ (List.mem_append_right _ (List.mem_append_left _ (List.mem_of_getElem? (i := 85) rfl)))) rfl
theorem mw_326 : (Jvm.Cond.methodLink "MaterialBars$Pad" (36 : Nat) ({ cls := "MaterialBars$Pad", name := "readNotBehind", desc := "(LMaterialBars$Method;)Z" } : Jvm.MethodName)) ∈ T0 := T0_in (List.mem_append_right _ (List.mem_append_right _ (List.mem_append_left _ (List.mem_of_getElem? (i := 86) (by decide +kernel))))) rfl
theorem mw_328 : (Jvm.Cond.instanceMethod ({ cls := "MaterialBars$Pad", name := "readNotBehind", desc := "(LMaterialBars$Method;)Z" } : Jvm.MethodName)) ∈ T0 := T0_in (List.mem_append_right _ (List.mem_append_right _ (List.mem_append_left _ (List.mem_of_getElem? (i := 88) (by decide +kernel))))) rfl
theorem mw_329 : (Jvm.Cond.code ({ cls := "MaterialBars$Pad", name := "readNotBehind", desc := "(LMaterialBars$Method;)Z" } : Jvm.MethodName) prog_4_method_6_code (3 : Nat) (Option.some Jvm.ClassFile.FieldType.boolean)) ∈ T0 := T0_in (List.mem_append_right _ (List.mem_append_right _ (List.mem_append_left _ (List.mem_of_getElem? (i := 89) rfl)))) rfl
theorem mw_330 : (Jvm.Cond.methodLink "MaterialBars$Pad" (39 : Nat) ({ cls := "MaterialBars$Pad", name := "readAfter", desc := "(LMaterialBars$Method;)Z" } : Jvm.MethodName)) ∈ T0 := T0_in (List.mem_append_right _ (List.mem_append_right _ (List.mem_append_left _ (List.mem_of_getElem? (i := 90) (by decide +kernel))))) rfl
theorem mw_332 : (Jvm.Cond.instanceMethod ({ cls := "MaterialBars$Pad", name := "readAfter", desc := "(LMaterialBars$Method;)Z" } : Jvm.MethodName)) ∈ T0 := T0_in (List.mem_append_right _ (List.mem_append_right _ (List.mem_append_left _ (List.mem_of_getElem? (i := 92) (by decide +kernel))))) rfl
theorem mw_333 : (Jvm.Cond.code ({ cls := "MaterialBars$Pad", name := "readAfter", desc := "(LMaterialBars$Method;)Z" } : Jvm.MethodName) prog_4_method_7_code (4 : Nat) (Option.some Jvm.ClassFile.FieldType.boolean)) ∈ T0 := T0_in (List.mem_append_right _ (List.mem_append_right _ (List.mem_append_left _ (List.mem_of_getElem? (i := 93) rfl)))) rfl
theorem mw_334 : (Jvm.Cond.methodLink "MaterialBars$Pad" (74 : Nat) ({ cls := "java/lang/Math", name := "max", desc := "(II)I" } : Jvm.MethodName)) ∈ T0 := T0_in (List.mem_append_right _ (List.mem_append_right _ (List.mem_append_left _ (List.mem_of_getElem? (i := 94) (by decide +kernel))))) rfl
theorem mw_335 : (Jvm.Cond.static ({ cls := "java/lang/Math", name := "max", desc := "(II)I" } : Jvm.MethodName)) ∈ T0 := T0_in (List.mem_append_right _ (List.mem_append_right _ (List.mem_append_left _ (List.mem_of_getElem? (i := 95) (by decide +kernel))))) rfl
theorem mw_336 : (Jvm.Cond.code ({ cls := "java/lang/Math", name := "max", desc := "(II)I" } : Jvm.MethodName) prog_13_method_65_code (2 : Nat) (Option.some Jvm.ClassFile.FieldType.int)) ∈ T0 := T0_in (List.mem_append_right _ (List.mem_append_right _ (List.mem_append_left _ (List.mem_of_getElem? (i := 96) rfl)))) rfl
theorem mw_337 : (Jvm.Cond.methodLink "MaterialBarsLaw" (92 : Nat) ({ cls := "MaterialBarsLaw", name := "uses", desc := "(LMaterialBars;II[J)I" } : Jvm.MethodName)) ∈ T0 := T0_in (List.mem_append_right _ (List.mem_append_right _ (List.mem_append_left _ (List.mem_of_getElem? (i := 97) (by decide +kernel))))) rfl
theorem mw_338 : (Jvm.Cond.static ({ cls := "MaterialBarsLaw", name := "uses", desc := "(LMaterialBars;II[J)I" } : Jvm.MethodName)) ∈ T0 := T0_in (List.mem_append_right _ (List.mem_append_right _ (List.mem_append_left _ (List.mem_of_getElem? (i := 98) (by decide +kernel))))) rfl
theorem mw_339 : (Jvm.Cond.codeWith ({ cls := "MaterialBarsLaw", name := "uses", desc := "(LMaterialBars;II[J)I" } : Jvm.MethodName) method_5_code (5 : Nat) (Option.some Jvm.ClassFile.FieldType.int) [((0 : Nat), (10 : Nat), (13 : Nat), (25 : Nat))]) ∈ T0 := T0_in (List.mem_append_right _ (List.mem_append_right _ (List.mem_append_left _ (List.mem_of_getElem? (i := 99) rfl)))) rfl
theorem mw_340 : (Jvm.Cond.classLink "MaterialBarsLaw" (25 : Nat) "java/lang/IndexOutOfBoundsException") ∈ T0 := T0_in (List.mem_append_right _ (List.mem_append_right _ (List.mem_append_left _ (List.mem_of_getElem? (i := 100) (by decide +kernel))))) rfl
theorem mw_341 : (Jvm.Cond.methodLink "MaterialBarsLaw" (21 : Nat) ({ cls := "MaterialBars", name := "uses", desc := "(II)I" } : Jvm.MethodName)) ∈ T0 := T0_in (List.mem_append_right _ (List.mem_append_right _ (List.mem_append_left _ (List.mem_of_getElem? (i := 101) (by decide +kernel))))) rfl
theorem mw_342 : (Jvm.Cond.instanceMethod ({ cls := "MaterialBars", name := "uses", desc := "(II)I" } : Jvm.MethodName)) ∈ T0 := T0_in (List.mem_append_right _ (List.mem_append_right _ (List.mem_append_left _ (List.mem_of_getElem? (i := 102) (by decide +kernel))))) rfl
theorem mw_343 : (Jvm.Cond.selects "MaterialBars" ({ cls := "MaterialBars", name := "uses", desc := "(II)I" } : Jvm.MethodName) ({ cls := "MaterialBars", name := "uses", desc := "(II)I" } : Jvm.MethodName)) ∈ T0 := T0_in (List.mem_append_right _ (List.mem_append_right _ (List.mem_append_left _ (List.mem_of_getElem? (i := 103) (by decide +kernel))))) rfl
theorem mw_344 : (Jvm.Cond.code ({ cls := "MaterialBars", name := "uses", desc := "(II)I" } : Jvm.MethodName) prog_1_method_4_code (4 : Nat) (Option.some Jvm.ClassFile.FieldType.int)) ∈ T0 := T0_in (List.mem_append_right _ (List.mem_append_right _ (List.mem_append_left _ (List.mem_of_getElem? (i := 104) rfl)))) rfl
theorem mw_345 : (Jvm.Cond.methodLink "MaterialBars" (78 : Nat) ({ cls := "MaterialBars", name := "methodAt", desc := "(I)LMaterialBars$Method;" } : Jvm.MethodName)) ∈ T0 := T0_in (List.mem_append_right _ (List.mem_append_right _ (List.mem_append_left _ (List.mem_of_getElem? (i := 105) (by decide +kernel))))) rfl
theorem mw_347 : (Jvm.Cond.instanceMethod ({ cls := "MaterialBars", name := "methodAt", desc := "(I)LMaterialBars$Method;" } : Jvm.MethodName)) ∈ T0 := T0_in (List.mem_append_right _ (List.mem_append_right _ (List.mem_append_left _ (List.mem_of_getElem? (i := 107) (by decide +kernel))))) rfl
theorem mw_348 : (Jvm.Cond.code ({ cls := "MaterialBars", name := "methodAt", desc := "(I)LMaterialBars$Method;" } : Jvm.MethodName) prog_1_method_21_code (2 : Nat) (Option.some (Jvm.ClassFile.FieldType.object "MaterialBars$Method"))) ∈ T0 := T0_in (List.mem_append_right _ (List.mem_append_right _ (List.mem_append_left _ (List.mem_of_getElem? (i := 108) rfl)))) rfl
theorem mw_349 : (Jvm.Cond.methodLink "MaterialBars" (82 : Nat) ({ cls := "MaterialBars", name := "checkPlace", desc := "(II)V" } : Jvm.MethodName)) ∈ T0 := T0_in (List.mem_append_right _ (List.mem_append_right _ (List.mem_append_left _ (List.mem_of_getElem? (i := 109) (by decide +kernel))))) rfl
theorem mw_350 : (Jvm.Cond.static ({ cls := "MaterialBars", name := "checkPlace", desc := "(II)V" } : Jvm.MethodName)) ∈ T0 := T0_in (List.mem_append_right _ (List.mem_append_right _ (List.mem_append_left _ (List.mem_of_getElem? (i := 110) (by decide +kernel))))) rfl
theorem mw_351 : (Jvm.Cond.code ({ cls := "MaterialBars", name := "checkPlace", desc := "(II)V" } : Jvm.MethodName) prog_1_method_19_code (2 : Nat) (Option.none : Option Jvm.ClassFile.FieldType)) ∈ T0 := T0_in (List.mem_append_right _ (List.mem_append_right _ (List.mem_append_left _ (List.mem_of_getElem? (i := 111) rfl)))) rfl
theorem mw_352 : (Jvm.Cond.classLink "MaterialBars" (176 : Nat) "java/lang/IndexOutOfBoundsException") ∈ T0 := T0_in (List.mem_append_right _ (List.mem_append_right _ (List.mem_append_left _ (List.mem_of_getElem? (i := 112) (by decide +kernel))))) rfl
theorem mw_353 : (Jvm.Cond.instantiable "java/lang/IndexOutOfBoundsException" (6 : Nat)) ∈ T0 := T0_in (List.mem_append_right _ (List.mem_append_right _ (List.mem_append_left _ (List.mem_of_getElem? (i := 113) (by decide +kernel))))) rfl
theorem mw_355 : (Jvm.Cond.selects "java/lang/IndexOutOfBoundsException" ({ cls := "java/lang/Throwable", name := "fillInStackTrace", desc := "(I)Ljava/lang/Throwable;" } : Jvm.MethodName) ({ cls := "java/lang/Throwable", name := "fillInStackTrace", desc := "(I)Ljava/lang/Throwable;" } : Jvm.MethodName)) ∈ T0 := T0_in (List.mem_append_right _ (List.mem_append_right _ (List.mem_append_left _ (List.mem_of_getElem? (i := 115) (by decide +kernel))))) rfl
theorem mw_356 : (Jvm.Cond.lays "java/lang/IndexOutOfBoundsException" "java/lang/Throwable" "cause" "Ljava/lang/Throwable;") ∈ T0 := T0_in (List.mem_append_right _ (List.mem_append_right _ (List.mem_append_left _ (List.mem_of_getElem? (i := 116) (by decide +kernel))))) rfl
theorem mw_357 : (Jvm.Cond.lays "java/lang/IndexOutOfBoundsException" "java/lang/Throwable" "stackTrace" "[Ljava/lang/StackTraceElement;") ∈ T0 := T0_in (List.mem_append_right _ (List.mem_append_right _ (List.mem_append_left _ (List.mem_of_getElem? (i := 117) (by decide +kernel))))) rfl
theorem mw_358 : (Jvm.Cond.lays "java/lang/IndexOutOfBoundsException" "java/lang/Throwable" "suppressedExceptions" "Ljava/util/List;") ∈ T0 := T0_in (List.mem_append_right _ (List.mem_append_right _ (List.mem_append_left _ (List.mem_of_getElem? (i := 118) (by decide +kernel))))) rfl
theorem mw_359 : (Jvm.Cond.lays "java/lang/IndexOutOfBoundsException" "java/lang/Throwable" "detailMessage" "Ljava/lang/String;") ∈ T0 := T0_in (List.mem_append_right _ (List.mem_append_right _ (List.mem_append_left _ (List.mem_of_getElem? (i := 119) (by decide +kernel))))) rfl
theorem mw_360 : (Jvm.Cond.lays "java/lang/IndexOutOfBoundsException" "java/lang/Throwable" "backtrace" "Ljava/lang/Object;") ∈ T0 := T0_in (List.mem_append_right _ (List.mem_append_right _ (List.mem_append_left _ (List.mem_of_getElem? (i := 120) (by decide +kernel))))) rfl
theorem mw_362 : (Jvm.Cond.methodLink "MaterialBars" (180 : Nat) ({ cls := "java/lang/IndexOutOfBoundsException", name := "<init>", desc := "(Ljava/lang/String;)V" } : Jvm.MethodName)) ∈ T0 := T0_in (List.mem_append_right _ (List.mem_append_right _ (List.mem_append_left _ (List.mem_of_getElem? (i := 122) (by decide +kernel))))) rfl
theorem mw_363 : (Jvm.Cond.instanceMethod ({ cls := "java/lang/IndexOutOfBoundsException", name := "<init>", desc := "(Ljava/lang/String;)V" } : Jvm.MethodName)) ∈ T0 := T0_in (List.mem_append_right _ (List.mem_append_right _ (List.mem_append_left _ (List.mem_of_getElem? (i := 123) (by decide +kernel))))) rfl
theorem mw_364 : (Jvm.Cond.code ({ cls := "java/lang/IndexOutOfBoundsException", name := "<init>", desc := "(Ljava/lang/String;)V" } : Jvm.MethodName) prog_11_method_2_code (2 : Nat) (Option.none : Option Jvm.ClassFile.FieldType)) ∈ T0 := T0_in (List.mem_append_right _ (List.mem_append_right _ (List.mem_append_left _ (List.mem_of_getElem? (i := 124) rfl)))) rfl
theorem mw_365 : (Jvm.Cond.methodLink "java/lang/IndexOutOfBoundsException" (7 : Nat) ({ cls := "java/lang/RuntimeException", name := "<init>", desc := "(Ljava/lang/String;)V" } : Jvm.MethodName)) ∈ T0 := T0_in (List.mem_append_right _ (List.mem_append_right _ (List.mem_append_left _ (List.mem_of_getElem? (i := 125) (by decide +kernel))))) rfl
theorem mw_366 : (Jvm.Cond.lays "java/lang/IndexOutOfBoundsException" "java/lang/Throwable" "depth" "I") ∈ T0 := T0_in (List.mem_append_right _ (List.mem_append_right _ (List.mem_append_left _ (List.mem_of_getElem? (i := 126) (by decide +kernel))))) rfl
theorem mw_367 : (Jvm.Cond.superclass "java/lang/IndexOutOfBoundsException" "java/lang/RuntimeException") ∈ T0 := T0_in (List.mem_append_right _ (List.mem_append_right _ (List.mem_append_left _ (List.mem_of_getElem? (i := 127) (by decide +kernel))))) rfl
theorem mw_368 : (Jvm.Cond.methodLink "MaterialBarsLaw" (96 : Nat) ({ cls := "MaterialBarsLaw", name := "object", desc := "(LMaterialBars;[J)I" } : Jvm.MethodName)) ∈ T0 := T0_in (List.mem_append_right _ (List.mem_append_right _ (List.mem_append_left _ (List.mem_of_getElem? (i := 128) (by decide +kernel))))) rfl
theorem mw_369 : (Jvm.Cond.static ({ cls := "MaterialBarsLaw", name := "object", desc := "(LMaterialBars;[J)I" } : Jvm.MethodName)) ∈ T0 := T0_in (List.mem_append_right _ (List.mem_append_right _ (List.mem_append_left _ (List.mem_of_getElem? (i := 129) (by decide +kernel))))) rfl
theorem mw_370 : (Jvm.Cond.codeWith ({ cls := "MaterialBarsLaw", name := "object", desc := "(LMaterialBars;[J)I" } : Jvm.MethodName) method_6_code (3 : Nat) (Option.some Jvm.ClassFile.FieldType.int) [((0 : Nat), (8 : Nat), (11 : Nat), (13 : Nat))]) ∈ T0 := T0_in (List.mem_append_right _ (List.mem_append_right _ (List.mem_append_left _ (List.mem_of_getElem? (i := 130) rfl)))) rfl
theorem mw_371 : (Jvm.Cond.methodLink "MaterialBarsLaw" (27 : Nat) ({ cls := "MaterialBars", name := "object", desc := "()I" } : Jvm.MethodName)) ∈ T0 := T0_in (List.mem_append_right _ (List.mem_append_right _ (List.mem_append_left _ (List.mem_of_getElem? (i := 131) (by decide +kernel))))) rfl
theorem mw_372 : (Jvm.Cond.instanceMethod ({ cls := "MaterialBars", name := "object", desc := "()I" } : Jvm.MethodName)) ∈ T0 := T0_in (List.mem_append_right _ (List.mem_append_right _ (List.mem_append_left _ (List.mem_of_getElem? (i := 132) (by decide +kernel))))) rfl
theorem mw_373 : (Jvm.Cond.selects "MaterialBars" ({ cls := "MaterialBars", name := "object", desc := "()I" } : Jvm.MethodName) ({ cls := "MaterialBars", name := "object", desc := "()I" } : Jvm.MethodName)) ∈ T0 := T0_in (List.mem_append_right _ (List.mem_append_right _ (List.mem_append_left _ (List.mem_of_getElem? (i := 133) (by decide +kernel))))) rfl
theorem mw_374 : (Jvm.Cond.code ({ cls := "MaterialBars", name := "object", desc := "()I" } : Jvm.MethodName) prog_1_method_5_code (1 : Nat) (Option.some Jvm.ClassFile.FieldType.int)) ∈ T0 := T0_in (List.mem_append_right _ (List.mem_append_right _ (List.mem_append_left _ (List.mem_of_getElem? (i := 134) rfl)))) rfl
theorem mw_376 : (Jvm.Cond.methodLink "MaterialBarsLaw" (99 : Nat) ({ cls := "MaterialBarsLaw", name := "part", desc := "(LMaterialBars;II[J)I" } : Jvm.MethodName)) ∈ T0 := T0_in (List.mem_append_right _ (List.mem_append_right _ (List.mem_append_left _ (List.mem_of_getElem? (i := 136) (by decide +kernel))))) rfl
theorem mw_377 : (Jvm.Cond.static ({ cls := "MaterialBarsLaw", name := "part", desc := "(LMaterialBars;II[J)I" } : Jvm.MethodName)) ∈ T0 := T0_in (List.mem_append_right _ (List.mem_append_right _ (List.mem_append_left _ (List.mem_of_getElem? (i := 137) (by decide +kernel))))) rfl
theorem mw_378 : (Jvm.Cond.codeWith ({ cls := "MaterialBarsLaw", name := "part", desc := "(LMaterialBars;II[J)I" } : Jvm.MethodName) method_7_code (5 : Nat) (Option.some Jvm.ClassFile.FieldType.int) [((0 : Nat), (10 : Nat), (13 : Nat), (25 : Nat)), ((0 : Nat), (10 : Nat), (17 : Nat), (13 : Nat))]) ∈ T0 := T0_in (List.mem_append_right _ (List.mem_append_right _ (List.mem_append_left _ (List.mem_of_getElem? (i := 138) rfl)))) rfl
theorem mw_379 : (Jvm.Cond.methodLink "MaterialBarsLaw" (30 : Nat) ({ cls := "MaterialBars", name := "part", desc := "(II)I" } : Jvm.MethodName)) ∈ T0 := T0_in (List.mem_append_right _ (List.mem_append_right _ (List.mem_append_left _ (List.mem_of_getElem? (i := 139) (by decide +kernel))))) rfl
theorem mw_380 : (Jvm.Cond.instanceMethod ({ cls := "MaterialBars", name := "part", desc := "(II)I" } : Jvm.MethodName)) ∈ T0 := T0_in (List.mem_append_right _ (List.mem_append_right _ (List.mem_append_left _ (List.mem_of_getElem? (i := 140) (by decide +kernel))))) rfl
theorem mw_381 : (Jvm.Cond.selects "MaterialBars" ({ cls := "MaterialBars", name := "part", desc := "(II)I" } : Jvm.MethodName) ({ cls := "MaterialBars", name := "part", desc := "(II)I" } : Jvm.MethodName)) ∈ T0 := T0_in (List.mem_append_right _ (List.mem_append_right _ (List.mem_append_left _ (List.mem_of_getElem? (i := 141) (by decide +kernel))))) rfl
theorem mw_382 : (Jvm.Cond.code ({ cls := "MaterialBars", name := "part", desc := "(II)I" } : Jvm.MethodName) prog_1_method_6_code (4 : Nat) (Option.some Jvm.ClassFile.FieldType.int)) ∈ T0 := T0_in (List.mem_append_right _ (List.mem_append_right _ (List.mem_append_left _ (List.mem_of_getElem? (i := 142) rfl)))) rfl
theorem mw_383 : (Jvm.Cond.methodLink "MaterialBars" (94 : Nat) ({ cls := "MaterialBars", name := "pieceAt", desc := "(I)LMaterialBars$Piece;" } : Jvm.MethodName)) ∈ T0 := T0_in (List.mem_append_right _ (List.mem_append_right _ (List.mem_append_left _ (List.mem_of_getElem? (i := 143) (by decide +kernel))))) rfl
theorem mw_385 : (Jvm.Cond.instanceMethod ({ cls := "MaterialBars", name := "pieceAt", desc := "(I)LMaterialBars$Piece;" } : Jvm.MethodName)) ∈ T0 := T0_in (List.mem_append_right _ (List.mem_append_right _ (List.mem_append_left _ (List.mem_of_getElem? (i := 145) (by decide +kernel))))) rfl
theorem mw_386 : (Jvm.Cond.code ({ cls := "MaterialBars", name := "pieceAt", desc := "(I)LMaterialBars$Piece;" } : Jvm.MethodName) prog_1_method_22_code (2 : Nat) (Option.some (Jvm.ClassFile.FieldType.object "MaterialBars$Piece"))) ∈ T0 := T0_in (List.mem_append_right _ (List.mem_append_right _ (List.mem_append_left _ (List.mem_of_getElem? (i := 146) rfl)))) rfl
theorem mw_388 : (Jvm.Cond.methodLink "MaterialBars" (103 : Nat) ({ cls := "MaterialBars$Piece", name := "addPart", desc := "(I)I" } : Jvm.MethodName)) ∈ T0 := T0_in (List.mem_append_right _ (List.mem_append_right _ (List.mem_append_left _ (List.mem_of_getElem? (i := 148) (by decide +kernel))))) rfl
theorem mw_389 : (Jvm.Cond.instanceMethod ({ cls := "MaterialBars$Piece", name := "addPart", desc := "(I)I" } : Jvm.MethodName)) ∈ T0 := T0_in (List.mem_append_right _ (List.mem_append_right _ (List.mem_append_left _ (List.mem_of_getElem? (i := 149) (by decide +kernel))))) rfl
theorem mw_390 : (Jvm.Cond.selects "MaterialBars$Piece" ({ cls := "MaterialBars$Piece", name := "addPart", desc := "(I)I" } : Jvm.MethodName) ({ cls := "MaterialBars$Piece", name := "addPart", desc := "(I)I" } : Jvm.MethodName)) ∈ T0 := T0_in (List.mem_append_right _ (List.mem_append_right _ (List.mem_append_left _ (List.mem_of_getElem? (i := 150) (by decide +kernel))))) rfl
theorem mw_391 : (Jvm.Cond.code ({ cls := "MaterialBars$Piece", name := "addPart", desc := "(I)I" } : Jvm.MethodName) prog_5_method_2_code (2 : Nat) (Option.some Jvm.ClassFile.FieldType.int)) ∈ T0 := T0_in (List.mem_append_right _ (List.mem_append_right _ (List.mem_append_left _ (List.mem_of_getElem? (i := 151) rfl)))) rfl
theorem mw_393 : (Jvm.Cond.methodLink "MaterialBarsLaw" (102 : Nat) ({ cls := "MaterialBarsLaw", name := "right", desc := "(LMaterialBars;IIZ[J)I" } : Jvm.MethodName)) ∈ T0 := T0_in (List.mem_append_right _ (List.mem_append_right _ (List.mem_append_left _ (List.mem_of_getElem? (i := 153) (by decide +kernel))))) rfl
theorem mw_394 : (Jvm.Cond.static ({ cls := "MaterialBarsLaw", name := "right", desc := "(LMaterialBars;IIZ[J)I" } : Jvm.MethodName)) ∈ T0 := T0_in (List.mem_append_right _ (List.mem_append_right _ (List.mem_append_left _ (List.mem_of_getElem? (i := 154) (by decide +kernel))))) rfl
theorem mw_395 : (Jvm.Cond.codeWith ({ cls := "MaterialBarsLaw", name := "right", desc := "(LMaterialBars;IIZ[J)I" } : Jvm.MethodName) method_8_code (6 : Nat) (Option.some Jvm.ClassFile.FieldType.int) [((0 : Nat), (19 : Nat), (22 : Nat), (25 : Nat))]) ∈ T0 := T0_in (List.mem_append_right _ (List.mem_append_right _ (List.mem_append_left _ (List.mem_of_getElem? (i := 155) rfl)))) rfl
theorem mw_396 : (Jvm.Cond.methodLink "MaterialBarsLaw" (33 : Nat) ({ cls := "MaterialBars", name := "right", desc := "(IIZ)Z" } : Jvm.MethodName)) ∈ T0 := T0_in (List.mem_append_right _ (List.mem_append_right _ (List.mem_append_left _ (List.mem_of_getElem? (i := 156) (by decide +kernel))))) rfl
theorem mw_397 : (Jvm.Cond.instanceMethod ({ cls := "MaterialBars", name := "right", desc := "(IIZ)Z" } : Jvm.MethodName)) ∈ T0 := T0_in (List.mem_append_right _ (List.mem_append_right _ (List.mem_append_left _ (List.mem_of_getElem? (i := 157) (by decide +kernel))))) rfl
theorem mw_398 : (Jvm.Cond.selects "MaterialBars" ({ cls := "MaterialBars", name := "right", desc := "(IIZ)Z" } : Jvm.MethodName) ({ cls := "MaterialBars", name := "right", desc := "(IIZ)Z" } : Jvm.MethodName)) ∈ T0 := T0_in (List.mem_append_right _ (List.mem_append_right _ (List.mem_append_left _ (List.mem_of_getElem? (i := 158) (by decide +kernel))))) rfl
theorem mw_399 : (Jvm.Cond.code ({ cls := "MaterialBars", name := "right", desc := "(IIZ)Z" } : Jvm.MethodName) prog_1_method_7_code (6 : Nat) (Option.some Jvm.ClassFile.FieldType.boolean)) ∈ T0 := T0_in (List.mem_append_right _ (List.mem_append_right _ (List.mem_append_left _ (List.mem_of_getElem? (i := 159) rfl)))) rfl
theorem mw_400 : (Jvm.Cond.methodLink "MaterialBars" (110 : Nat) ({ cls := "MaterialBars", name := "has", desc := "(II)Z" } : Jvm.MethodName)) ∈ T0 := T0_in (List.mem_append_right _ (List.mem_append_right _ (List.mem_append_left _ (List.mem_of_getElem? (i := 160) (by decide +kernel))))) rfl
theorem mw_401 : (Jvm.Cond.static ({ cls := "MaterialBars", name := "has", desc := "(II)Z" } : Jvm.MethodName)) ∈ T0 := T0_in (List.mem_append_right _ (List.mem_append_right _ (List.mem_append_left _ (List.mem_of_getElem? (i := 161) (by decide +kernel))))) rfl
theorem mw_402 : (Jvm.Cond.code ({ cls := "MaterialBars", name := "has", desc := "(II)Z" } : Jvm.MethodName) prog_1_method_24_code (2 : Nat) (Option.some Jvm.ClassFile.FieldType.boolean)) ∈ T0 := T0_in (List.mem_append_right _ (List.mem_append_right _ (List.mem_append_left _ (List.mem_of_getElem? (i := 162) rfl)))) rfl
theorem mw_403 : (Jvm.Cond.methodLink "MaterialBars" (114 : Nat) ({ cls := "MaterialBars", name := "with", desc := "(IIZ)I" } : Jvm.MethodName)) ∈ T0 := T0_in (List.mem_append_right _ (List.mem_append_right _ (List.mem_append_left _ (List.mem_of_getElem? (i := 163) (by decide +kernel))))) rfl
theorem mw_404 : (Jvm.Cond.methodLink "MaterialBarsLaw" (106 : Nat) ({ cls := "MaterialBarsLaw", name := "trial", desc := "(LMaterialBars;IIZ[J)I" } : Jvm.MethodName)) ∈ T0 := T0_in (List.mem_append_right _ (List.mem_append_right _ (List.mem_append_left _ (List.mem_of_getElem? (i := 164) (by decide +kernel))))) rfl
theorem mw_405 : (Jvm.Cond.static ({ cls := "MaterialBarsLaw", name := "trial", desc := "(LMaterialBars;IIZ[J)I" } : Jvm.MethodName)) ∈ T0 := T0_in (List.mem_append_right _ (List.mem_append_right _ (List.mem_append_left _ (List.mem_of_getElem? (i := 165) (by decide +kernel))))) rfl
theorem mw_406 : (Jvm.Cond.codeWith ({ cls := "MaterialBarsLaw", name := "trial", desc := "(LMaterialBars;IIZ[J)I" } : Jvm.MethodName) method_9_code (6 : Nat) (Option.some Jvm.ClassFile.FieldType.int) [((0 : Nat), (19 : Nat), (22 : Nat), (25 : Nat))]) ∈ T0 := T0_in (List.mem_append_right _ (List.mem_append_right _ (List.mem_append_left _ (List.mem_of_getElem? (i := 166) rfl)))) rfl
theorem mw_407 : (Jvm.Cond.methodLink "MaterialBarsLaw" (37 : Nat) ({ cls := "MaterialBars", name := "trial", desc := "(IIZ)Z" } : Jvm.MethodName)) ∈ T0 := T0_in (List.mem_append_right _ (List.mem_append_right _ (List.mem_append_left _ (List.mem_of_getElem? (i := 167) (by decide +kernel))))) rfl
theorem mw_408 : (Jvm.Cond.instanceMethod ({ cls := "MaterialBars", name := "trial", desc := "(IIZ)Z" } : Jvm.MethodName)) ∈ T0 := T0_in (List.mem_append_right _ (List.mem_append_right _ (List.mem_append_left _ (List.mem_of_getElem? (i := 168) (by decide +kernel))))) rfl
theorem mw_409 : (Jvm.Cond.selects "MaterialBars" ({ cls := "MaterialBars", name := "trial", desc := "(IIZ)Z" } : Jvm.MethodName) ({ cls := "MaterialBars", name := "trial", desc := "(IIZ)Z" } : Jvm.MethodName)) ∈ T0 := T0_in (List.mem_append_right _ (List.mem_append_right _ (List.mem_append_left _ (List.mem_of_getElem? (i := 169) (by decide +kernel))))) rfl
theorem mw_410 : (Jvm.Cond.code ({ cls := "MaterialBars", name := "trial", desc := "(IIZ)Z" } : Jvm.MethodName) prog_1_method_8_code (6 : Nat) (Option.some Jvm.ClassFile.FieldType.boolean)) ∈ T0 := T0_in (List.mem_append_right _ (List.mem_append_right _ (List.mem_append_left _ (List.mem_of_getElem? (i := 170) rfl)))) rfl
theorem mw_411 : (Jvm.Cond.methodLink "MaterialBarsLaw" (109 : Nat) ({ cls := "MaterialBarsLaw", name := "reason", desc := "(LMaterialBars;IIII[J)I" } : Jvm.MethodName)) ∈ T0 := T0_in (List.mem_append_right _ (List.mem_append_right _ (List.mem_append_left _ (List.mem_of_getElem? (i := 171) (by decide +kernel))))) rfl
theorem mw_412 : (Jvm.Cond.static ({ cls := "MaterialBarsLaw", name := "reason", desc := "(LMaterialBars;IIII[J)I" } : Jvm.MethodName)) ∈ T0 := T0_in (List.mem_append_right _ (List.mem_append_right _ (List.mem_append_left _ (List.mem_of_getElem? (i := 172) (by decide +kernel))))) rfl
theorem mw_413 : (Jvm.Cond.codeWith ({ cls := "MaterialBarsLaw", name := "reason", desc := "(LMaterialBars;IIII[J)I" } : Jvm.MethodName) method_10_code (7 : Nat) (Option.some Jvm.ClassFile.FieldType.int) [((0 : Nat), (14 : Nat), (17 : Nat), (25 : Nat)), ((0 : Nat), (14 : Nat), (21 : Nat), (15 : Nat))]) ∈ T0 := T0_in (List.mem_append_right _ (List.mem_append_right _ (List.mem_append_left _ (List.mem_of_getElem? (i := 173) rfl)))) rfl
theorem mw_414 : (Jvm.Cond.methodLink "MaterialBarsLaw" (40 : Nat) ({ cls := "MaterialBars", name := "reason", desc := "(IIII)I" } : Jvm.MethodName)) ∈ T0 := T0_in (List.mem_append_right _ (List.mem_append_right _ (List.mem_append_left _ (List.mem_of_getElem? (i := 174) (by decide +kernel))))) rfl
theorem mw_415 : (Jvm.Cond.instanceMethod ({ cls := "MaterialBars", name := "reason", desc := "(IIII)I" } : Jvm.MethodName)) ∈ T0 := T0_in (List.mem_append_right _ (List.mem_append_right _ (List.mem_append_left _ (List.mem_of_getElem? (i := 175) (by decide +kernel))))) rfl
theorem mw_416 : (Jvm.Cond.selects "MaterialBars" ({ cls := "MaterialBars", name := "reason", desc := "(IIII)I" } : Jvm.MethodName) ({ cls := "MaterialBars", name := "reason", desc := "(IIII)I" } : Jvm.MethodName)) ∈ T0 := T0_in (List.mem_append_right _ (List.mem_append_right _ (List.mem_append_left _ (List.mem_of_getElem? (i := 176) (by decide +kernel))))) rfl
theorem mw_417 : (Jvm.Cond.code ({ cls := "MaterialBars", name := "reason", desc := "(IIII)I" } : Jvm.MethodName) prog_1_method_9_code (7 : Nat) (Option.some Jvm.ClassFile.FieldType.int)) ∈ T0 := T0_in (List.mem_append_right _ (List.mem_append_right _ (List.mem_append_left _ (List.mem_of_getElem? (i := 177) rfl)))) rfl
theorem mw_418 : (Jvm.Cond.methodLink "MaterialBars" (121 : Nat) ({ cls := "MaterialBars", name := "checkHour", desc := "(II)V" } : Jvm.MethodName)) ∈ T0 := T0_in (List.mem_append_right _ (List.mem_append_right _ (List.mem_append_left _ (List.mem_of_getElem? (i := 178) (by decide +kernel))))) rfl
theorem mw_419 : (Jvm.Cond.static ({ cls := "MaterialBars", name := "checkHour", desc := "(II)V" } : Jvm.MethodName)) ∈ T0 := T0_in (List.mem_append_right _ (List.mem_append_right _ (List.mem_append_left _ (List.mem_of_getElem? (i := 179) (by decide +kernel))))) rfl
theorem mw_420 : (Jvm.Cond.code ({ cls := "MaterialBars", name := "checkHour", desc := "(II)V" } : Jvm.MethodName) prog_1_method_20_code (2 : Nat) (Option.none : Option Jvm.ClassFile.FieldType)) ∈ T0 := T0_in (List.mem_append_right _ (List.mem_append_right _ (List.mem_append_left _ (List.mem_of_getElem? (i := 180) rfl)))) rfl
theorem mw_421 : (Jvm.Cond.constant "MaterialBars" (156 : Nat) (1000000 : Int32)) ∈ T0 := T0_in (List.mem_append_right _ (List.mem_append_right _ (List.mem_append_left _ (List.mem_of_getElem? (i := 181) (by decide +kernel))))) rfl
theorem mw_423 : (Jvm.Cond.methodLink "MaterialBars" (124 : Nat) ({ cls := "MaterialBars", name := "reasonAgainst", desc := "(LMaterialBars$Piece;LMaterialBars$Method;II)I" } : Jvm.MethodName)) ∈ T0 := T0_in (List.mem_append_right _ (List.mem_append_right _ (List.mem_append_left _ (List.mem_of_getElem? (i := 183) (by decide +kernel))))) rfl
theorem mw_425 : (Jvm.Cond.instanceMethod ({ cls := "MaterialBars", name := "reasonAgainst", desc := "(LMaterialBars$Piece;LMaterialBars$Method;II)I" } : Jvm.MethodName)) ∈ T0 := T0_in (List.mem_append_right _ (List.mem_append_right _ (List.mem_append_left _ (List.mem_of_getElem? (i := 185) (by decide +kernel))))) rfl
theorem mw_426 : (Jvm.Cond.code ({ cls := "MaterialBars", name := "reasonAgainst", desc := "(LMaterialBars$Piece;LMaterialBars$Method;II)I" } : Jvm.MethodName) prog_1_method_27_code (10 : Nat) (Option.some Jvm.ClassFile.FieldType.int)) ∈ T0 := T0_in (List.mem_append_right _ (List.mem_append_right _ (List.mem_append_left _ (List.mem_of_getElem? (i := 186) rfl)))) rfl
theorem mw_427 : (Jvm.Cond.methodLink "MaterialBars" (230 : Nat) ({ cls := "MaterialBars$Piece", name := "firstPartOf", desc := "(I)I" } : Jvm.MethodName)) ∈ T0 := T0_in (List.mem_append_right _ (List.mem_append_right _ (List.mem_append_left _ (List.mem_of_getElem? (i := 187) (by decide +kernel))))) rfl
theorem mw_428 : (Jvm.Cond.instanceMethod ({ cls := "MaterialBars$Piece", name := "firstPartOf", desc := "(I)I" } : Jvm.MethodName)) ∈ T0 := T0_in (List.mem_append_right _ (List.mem_append_right _ (List.mem_append_left _ (List.mem_of_getElem? (i := 188) (by decide +kernel))))) rfl
theorem mw_429 : (Jvm.Cond.selects "MaterialBars$Piece" ({ cls := "MaterialBars$Piece", name := "firstPartOf", desc := "(I)I" } : Jvm.MethodName) ({ cls := "MaterialBars$Piece", name := "firstPartOf", desc := "(I)I" } : Jvm.MethodName)) ∈ T0 := T0_in (List.mem_append_right _ (List.mem_append_right _ (List.mem_append_left _ (List.mem_of_getElem? (i := 189) (by decide +kernel))))) rfl
theorem mw_430 : (Jvm.Cond.code ({ cls := "MaterialBars$Piece", name := "firstPartOf", desc := "(I)I" } : Jvm.MethodName) prog_5_method_3_code (3 : Nat) (Option.some Jvm.ClassFile.FieldType.int)) ∈ T0 := T0_in (List.mem_append_right _ (List.mem_append_right _ (List.mem_append_left _ (List.mem_of_getElem? (i := 190) rfl)))) rfl
theorem mw_432 : (Jvm.Cond.methodLink "MaterialBars" (187 : Nat) ({ cls := "MaterialBars", name := "lowest", desc := "(I)I" } : Jvm.MethodName)) ∈ T0 := T0_in (List.mem_append_right _ (List.mem_append_right _ (List.mem_append_left _ (List.mem_of_getElem? (i := 192) (by decide +kernel))))) rfl
theorem mw_433 : (Jvm.Cond.static ({ cls := "MaterialBars", name := "lowest", desc := "(I)I" } : Jvm.MethodName)) ∈ T0 := T0_in (List.mem_append_right _ (List.mem_append_right _ (List.mem_append_left _ (List.mem_of_getElem? (i := 193) (by decide +kernel))))) rfl
theorem mw_434 : (Jvm.Cond.code ({ cls := "MaterialBars", name := "lowest", desc := "(I)I" } : Jvm.MethodName) prog_1_method_26_code (2 : Nat) (Option.some Jvm.ClassFile.FieldType.int)) ∈ T0 := T0_in (List.mem_append_right _ (List.mem_append_right _ (List.mem_append_left _ (List.mem_of_getElem? (i := 194) rfl)))) rfl
theorem mw_435 : (Jvm.Cond.methodLink "MaterialBars" (236 : Nat) ({ cls := "MaterialBars", name := "lowestNotLongEnoughAgo", desc := "(LMaterialBars$Piece;LMaterialBars$Method;I)I" } : Jvm.MethodName)) ∈ T0 := T0_in (List.mem_append_right _ (List.mem_append_right _ (List.mem_append_left _ (List.mem_of_getElem? (i := 195) (by decide +kernel))))) rfl
theorem mw_436 : (Jvm.Cond.static ({ cls := "MaterialBars", name := "lowestNotLongEnoughAgo", desc := "(LMaterialBars$Piece;LMaterialBars$Method;I)I" } : Jvm.MethodName)) ∈ T0 := T0_in (List.mem_append_right _ (List.mem_append_right _ (List.mem_append_left _ (List.mem_of_getElem? (i := 196) (by decide +kernel))))) rfl
theorem mw_437 : (Jvm.Cond.code ({ cls := "MaterialBars", name := "lowestNotLongEnoughAgo", desc := "(LMaterialBars$Piece;LMaterialBars$Method;I)I" } : Jvm.MethodName) prog_1_method_28_code (4 : Nat) (Option.some Jvm.ClassFile.FieldType.int)) ∈ T0 := T0_in (List.mem_append_right _ (List.mem_append_right _ (List.mem_append_left _ (List.mem_of_getElem? (i := 197) rfl)))) rfl
theorem mw_438 : (Jvm.Cond.methodLink "MaterialBars" (246 : Nat) ({ cls := "MaterialBars", name := "lowestLacking", desc := "(LMaterialBars$Method;)I" } : Jvm.MethodName)) ∈ T0 := T0_in (List.mem_append_right _ (List.mem_append_right _ (List.mem_append_left _ (List.mem_of_getElem? (i := 198) (by decide +kernel))))) rfl
theorem mw_440 : (Jvm.Cond.instanceMethod ({ cls := "MaterialBars", name := "lowestLacking", desc := "(LMaterialBars$Method;)I" } : Jvm.MethodName)) ∈ T0 := T0_in (List.mem_append_right _ (List.mem_append_right _ (List.mem_append_left _ (List.mem_of_getElem? (i := 200) (by decide +kernel))))) rfl
theorem mw_441 : (Jvm.Cond.code ({ cls := "MaterialBars", name := "lowestLacking", desc := "(LMaterialBars$Method;)I" } : Jvm.MethodName) prog_1_method_29_code (3 : Nat) (Option.some Jvm.ClassFile.FieldType.int)) ∈ T0 := T0_in (List.mem_append_right _ (List.mem_append_right _ (List.mem_append_left _ (List.mem_of_getElem? (i := 201) rfl)))) rfl
theorem mw_442 : (Jvm.Cond.methodLink "MaterialBarsLaw" (113 : Nat) ({ cls := "MaterialBarsLaw", name := "done", desc := "(LMaterialBars;IIIII[J)I" } : Jvm.MethodName)) ∈ T0 := T0_in (List.mem_append_right _ (List.mem_append_right _ (List.mem_append_left _ (List.mem_of_getElem? (i := 202) (by decide +kernel))))) rfl
theorem mw_443 : (Jvm.Cond.static ({ cls := "MaterialBarsLaw", name := "done", desc := "(LMaterialBars;IIIII[J)I" } : Jvm.MethodName)) ∈ T0 := T0_in (List.mem_append_right _ (List.mem_append_right _ (List.mem_append_left _ (List.mem_of_getElem? (i := 203) (by decide +kernel))))) rfl
theorem mw_444 : (Jvm.Cond.codeWith ({ cls := "MaterialBarsLaw", name := "done", desc := "(LMaterialBars;IIIII[J)I" } : Jvm.MethodName) method_11_code (8 : Nat) (Option.some Jvm.ClassFile.FieldType.int) [((0 : Nat), (16 : Nat), (19 : Nat), (25 : Nat)), ((0 : Nat), (16 : Nat), (23 : Nat), (13 : Nat)), ((0 : Nat), (16 : Nat), (27 : Nat), (15 : Nat))]) ∈ T0 := T0_in (List.mem_append_right _ (List.mem_append_right _ (List.mem_append_left _ (List.mem_of_getElem? (i := 204) rfl)))) rfl
theorem mw_445 : (Jvm.Cond.methodLink "MaterialBarsLaw" (44 : Nat) ({ cls := "MaterialBars", name := "done", desc := "(IIIII)I" } : Jvm.MethodName)) ∈ T0 := T0_in (List.mem_append_right _ (List.mem_append_right _ (List.mem_append_left _ (List.mem_of_getElem? (i := 205) (by decide +kernel))))) rfl
theorem mw_446 : (Jvm.Cond.instanceMethod ({ cls := "MaterialBars", name := "done", desc := "(IIIII)I" } : Jvm.MethodName)) ∈ T0 := T0_in (List.mem_append_right _ (List.mem_append_right _ (List.mem_append_left _ (List.mem_of_getElem? (i := 206) (by decide +kernel))))) rfl
theorem mw_447 : (Jvm.Cond.selects "MaterialBars" ({ cls := "MaterialBars", name := "done", desc := "(IIIII)I" } : Jvm.MethodName) ({ cls := "MaterialBars", name := "done", desc := "(IIIII)I" } : Jvm.MethodName)) ∈ T0 := T0_in (List.mem_append_right _ (List.mem_append_right _ (List.mem_append_left _ (List.mem_of_getElem? (i := 207) (by decide +kernel))))) rfl
theorem mw_448 : (Jvm.Cond.code ({ cls := "MaterialBars", name := "done", desc := "(IIIII)I" } : Jvm.MethodName) prog_1_method_10_code (9 : Nat) (Option.some Jvm.ClassFile.FieldType.int)) ∈ T0 := T0_in (List.mem_append_right _ (List.mem_append_right _ (List.mem_append_left _ (List.mem_of_getElem? (i := 208) rfl)))) rfl
theorem mw_450 : (Jvm.Cond.methodLink "MaterialBars" (140 : Nat) ({ cls := "MaterialBars", name := "takeWhatGoes", desc := "(LMaterialBars$Method;)V" } : Jvm.MethodName)) ∈ T0 := T0_in (List.mem_append_right _ (List.mem_append_right _ (List.mem_append_left _ (List.mem_of_getElem? (i := 210) (by decide +kernel))))) rfl
theorem mw_452 : (Jvm.Cond.instanceMethod ({ cls := "MaterialBars", name := "takeWhatGoes", desc := "(LMaterialBars$Method;)V" } : Jvm.MethodName)) ∈ T0 := T0_in (List.mem_append_right _ (List.mem_append_right _ (List.mem_append_left _ (List.mem_of_getElem? (i := 212) (by decide +kernel))))) rfl
theorem mw_453 : (Jvm.Cond.code ({ cls := "MaterialBars", name := "takeWhatGoes", desc := "(LMaterialBars$Method;)V" } : Jvm.MethodName) prog_1_method_30_code (3 : Nat) (Option.none : Option Jvm.ClassFile.FieldType)) ∈ T0 := T0_in (List.mem_append_right _ (List.mem_append_right _ (List.mem_append_left _ (List.mem_of_getElem? (i := 213) rfl)))) rfl
theorem mw_454 : (Jvm.Cond.methodLink "MaterialBars" (162 : Nat) ({ cls := "MaterialBars$Good", name := "changeBy", desc := "(I)V" } : Jvm.MethodName)) ∈ T0 := T0_in (List.mem_append_right _ (List.mem_append_right _ (List.mem_append_left _ (List.mem_of_getElem? (i := 214) (by decide +kernel))))) rfl
theorem mw_455 : (Jvm.Cond.instanceMethod ({ cls := "MaterialBars$Good", name := "changeBy", desc := "(I)V" } : Jvm.MethodName)) ∈ T0 := T0_in (List.mem_append_right _ (List.mem_append_right _ (List.mem_append_left _ (List.mem_of_getElem? (i := 215) (by decide +kernel))))) rfl
theorem mw_456 : (Jvm.Cond.selects "MaterialBars$Good" ({ cls := "MaterialBars$Good", name := "changeBy", desc := "(I)V" } : Jvm.MethodName) ({ cls := "MaterialBars$Good", name := "changeBy", desc := "(I)V" } : Jvm.MethodName)) ∈ T0 := T0_in (List.mem_append_right _ (List.mem_append_right _ (List.mem_append_left _ (List.mem_of_getElem? (i := 216) (by decide +kernel))))) rfl
theorem mw_457 : (Jvm.Cond.code ({ cls := "MaterialBars$Good", name := "changeBy", desc := "(I)V" } : Jvm.MethodName) prog_2_method_2_code (2 : Nat) (Option.none : Option Jvm.ClassFile.FieldType)) ∈ T0 := T0_in (List.mem_append_right _ (List.mem_append_right _ (List.mem_append_left _ (List.mem_of_getElem? (i := 217) rfl)))) rfl
theorem mw_458 : (Jvm.Cond.methodLink "MaterialBars" (144 : Nat) ({ cls := "MaterialBars$Piece", name := "addRow", desc := "(IIII)V" } : Jvm.MethodName)) ∈ T0 := T0_in (List.mem_append_right _ (List.mem_append_right _ (List.mem_append_left _ (List.mem_of_getElem? (i := 218) (by decide +kernel))))) rfl
theorem mw_459 : (Jvm.Cond.instanceMethod ({ cls := "MaterialBars$Piece", name := "addRow", desc := "(IIII)V" } : Jvm.MethodName)) ∈ T0 := T0_in (List.mem_append_right _ (List.mem_append_right _ (List.mem_append_left _ (List.mem_of_getElem? (i := 219) (by decide +kernel))))) rfl
theorem mw_460 : (Jvm.Cond.selects "MaterialBars$Piece" ({ cls := "MaterialBars$Piece", name := "addRow", desc := "(IIII)V" } : Jvm.MethodName) ({ cls := "MaterialBars$Piece", name := "addRow", desc := "(IIII)V" } : Jvm.MethodName)) ∈ T0 := T0_in (List.mem_append_right _ (List.mem_append_right _ (List.mem_append_left _ (List.mem_of_getElem? (i := 220) (by decide +kernel))))) rfl
theorem mw_461 : (Jvm.Cond.code ({ cls := "MaterialBars$Piece", name := "addRow", desc := "(IIII)V" } : Jvm.MethodName) prog_5_method_4_code (6 : Nat) (Option.none : Option Jvm.ClassFile.FieldType)) ∈ T0 := T0_in (List.mem_append_right _ (List.mem_append_right _ (List.mem_append_left _ (List.mem_of_getElem? (i := 221) rfl)))) rfl
theorem mw_462 : (Jvm.Cond.methodLink "MaterialBarsLaw" (117 : Nat) ({ cls := "MaterialBarsLaw", name := "row", desc := "(LMaterialBars;III[J)I" } : Jvm.MethodName)) ∈ T0 := T0_in (List.mem_append_right _ (List.mem_append_right _ (List.mem_append_left _ (List.mem_of_getElem? (i := 222) (by decide +kernel))))) rfl
theorem mw_463 : (Jvm.Cond.static ({ cls := "MaterialBarsLaw", name := "row", desc := "(LMaterialBars;III[J)I" } : Jvm.MethodName)) ∈ T0 := T0_in (List.mem_append_right _ (List.mem_append_right _ (List.mem_append_left _ (List.mem_of_getElem? (i := 223) (by decide +kernel))))) rfl
theorem mw_464 : (Jvm.Cond.codeWith ({ cls := "MaterialBarsLaw", name := "row", desc := "(LMaterialBars;III[J)I" } : Jvm.MethodName) method_12_code (6 : Nat) (Option.some Jvm.ClassFile.FieldType.int) [((0 : Nat), (12 : Nat), (15 : Nat), (25 : Nat))]) ∈ T0 := T0_in (List.mem_append_right _ (List.mem_append_right _ (List.mem_append_left _ (List.mem_of_getElem? (i := 224) rfl)))) rfl
theorem mw_465 : (Jvm.Cond.methodLink "MaterialBarsLaw" (48 : Nat) ({ cls := "MaterialBars", name := "row", desc := "(III)I" } : Jvm.MethodName)) ∈ T0 := T0_in (List.mem_append_right _ (List.mem_append_right _ (List.mem_append_left _ (List.mem_of_getElem? (i := 225) (by decide +kernel))))) rfl
theorem mw_466 : (Jvm.Cond.instanceMethod ({ cls := "MaterialBars", name := "row", desc := "(III)I" } : Jvm.MethodName)) ∈ T0 := T0_in (List.mem_append_right _ (List.mem_append_right _ (List.mem_append_left _ (List.mem_of_getElem? (i := 226) (by decide +kernel))))) rfl
theorem mw_467 : (Jvm.Cond.selects "MaterialBars" ({ cls := "MaterialBars", name := "row", desc := "(III)I" } : Jvm.MethodName) ({ cls := "MaterialBars", name := "row", desc := "(III)I" } : Jvm.MethodName)) ∈ T0 := T0_in (List.mem_append_right _ (List.mem_append_right _ (List.mem_append_left _ (List.mem_of_getElem? (i := 227) (by decide +kernel))))) rfl
theorem mw_468 : (Jvm.Cond.code ({ cls := "MaterialBars", name := "row", desc := "(III)I" } : Jvm.MethodName) prog_1_method_11_code (5 : Nat) (Option.some Jvm.ClassFile.FieldType.int)) ∈ T0 := T0_in (List.mem_append_right _ (List.mem_append_right _ (List.mem_append_left _ (List.mem_of_getElem? (i := 228) rfl)))) rfl
theorem mw_469 : (Jvm.Cond.methodLink "MaterialBarsLaw" (121 : Nat) ({ cls := "MaterialBarsLaw", name := "stock", desc := "(LMaterialBars;II[J)I" } : Jvm.MethodName)) ∈ T0 := T0_in (List.mem_append_right _ (List.mem_append_right _ (List.mem_append_left _ (List.mem_of_getElem? (i := 229) (by decide +kernel))))) rfl
theorem mw_470 : (Jvm.Cond.static ({ cls := "MaterialBarsLaw", name := "stock", desc := "(LMaterialBars;II[J)I" } : Jvm.MethodName)) ∈ T0 := T0_in (List.mem_append_right _ (List.mem_append_right _ (List.mem_append_left _ (List.mem_of_getElem? (i := 230) (by decide +kernel))))) rfl
theorem mw_471 : (Jvm.Cond.codeWith ({ cls := "MaterialBarsLaw", name := "stock", desc := "(LMaterialBars;II[J)I" } : Jvm.MethodName) method_13_code (5 : Nat) (Option.some Jvm.ClassFile.FieldType.int) [((0 : Nat), (10 : Nat), (13 : Nat), (25 : Nat)), ((0 : Nat), (10 : Nat), (17 : Nat), (15 : Nat))]) ∈ T0 := T0_in (List.mem_append_right _ (List.mem_append_right _ (List.mem_append_left _ (List.mem_of_getElem? (i := 231) rfl)))) rfl
theorem mw_472 : (Jvm.Cond.methodLink "MaterialBarsLaw" (52 : Nat) ({ cls := "MaterialBars", name := "stock", desc := "(II)I" } : Jvm.MethodName)) ∈ T0 := T0_in (List.mem_append_right _ (List.mem_append_right _ (List.mem_append_left _ (List.mem_of_getElem? (i := 232) (by decide +kernel))))) rfl
theorem mw_473 : (Jvm.Cond.instanceMethod ({ cls := "MaterialBars", name := "stock", desc := "(II)I" } : Jvm.MethodName)) ∈ T0 := T0_in (List.mem_append_right _ (List.mem_append_right _ (List.mem_append_left _ (List.mem_of_getElem? (i := 233) (by decide +kernel))))) rfl
theorem mw_474 : (Jvm.Cond.selects "MaterialBars" ({ cls := "MaterialBars", name := "stock", desc := "(II)I" } : Jvm.MethodName) ({ cls := "MaterialBars", name := "stock", desc := "(II)I" } : Jvm.MethodName)) ∈ T0 := T0_in (List.mem_append_right _ (List.mem_append_right _ (List.mem_append_left _ (List.mem_of_getElem? (i := 234) (by decide +kernel))))) rfl
theorem mw_475 : (Jvm.Cond.code ({ cls := "MaterialBars", name := "stock", desc := "(II)I" } : Jvm.MethodName) prog_1_method_12_code (5 : Nat) (Option.some Jvm.ClassFile.FieldType.int)) ∈ T0 := T0_in (List.mem_append_right _ (List.mem_append_right _ (List.mem_append_left _ (List.mem_of_getElem? (i := 235) rfl)))) rfl
theorem mw_476 : (Jvm.Cond.methodLink "MaterialBars" (151 : Nat) ({ cls := "MaterialBars", name := "goodAt", desc := "(I)LMaterialBars$Good;" } : Jvm.MethodName)) ∈ T0 := T0_in (List.mem_append_right _ (List.mem_append_right _ (List.mem_append_left _ (List.mem_of_getElem? (i := 236) (by decide +kernel))))) rfl
theorem mw_478 : (Jvm.Cond.instanceMethod ({ cls := "MaterialBars", name := "goodAt", desc := "(I)LMaterialBars$Good;" } : Jvm.MethodName)) ∈ T0 := T0_in (List.mem_append_right _ (List.mem_append_right _ (List.mem_append_left _ (List.mem_of_getElem? (i := 238) (by decide +kernel))))) rfl
theorem mw_479 : (Jvm.Cond.code ({ cls := "MaterialBars", name := "goodAt", desc := "(I)LMaterialBars$Good;" } : Jvm.MethodName) prog_1_method_23_code (2 : Nat) (Option.some (Jvm.ClassFile.FieldType.object "MaterialBars$Good"))) ∈ T0 := T0_in (List.mem_append_right _ (List.mem_append_right _ (List.mem_append_left _ (List.mem_of_getElem? (i := 239) rfl)))) rfl
theorem mw_480 : (Jvm.Cond.constant "MaterialBars" (155 : Nat) (-1000000 : Int32)) ∈ T0 := T0_in (List.mem_append_right _ (List.mem_append_right _ (List.mem_append_right _ (List.mem_append_left _ (List.mem_of_getElem? (i := 0) (by decide +kernel)))))) rfl
theorem mw_482 : (Jvm.Cond.methodLink "MaterialBarsLaw" (124 : Nat) ({ cls := "MaterialBarsLaw", name := "about", desc := "(LMaterialBars;II[J)I" } : Jvm.MethodName)) ∈ T0 := T0_in (List.mem_append_right _ (List.mem_append_right _ (List.mem_append_right _ (List.mem_append_left _ (List.mem_of_getElem? (i := 2) (by decide +kernel)))))) rfl
theorem mw_483 : (Jvm.Cond.static ({ cls := "MaterialBarsLaw", name := "about", desc := "(LMaterialBars;II[J)I" } : Jvm.MethodName)) ∈ T0 := T0_in (List.mem_append_right _ (List.mem_append_right _ (List.mem_append_right _ (List.mem_append_left _ (List.mem_of_getElem? (i := 3) (by decide +kernel)))))) rfl
theorem mw_484 : (Jvm.Cond.codeWith ({ cls := "MaterialBarsLaw", name := "about", desc := "(LMaterialBars;II[J)I" } : Jvm.MethodName) method_14_code (5 : Nat) (Option.some Jvm.ClassFile.FieldType.int) [((0 : Nat), (9 : Nat), (12 : Nat), (25 : Nat))]) ∈ T0 := T0_in (List.mem_append_right _ (List.mem_append_right _ (List.mem_append_right _ (List.mem_append_left _ (List.mem_of_getElem? (i := 4) rfl))))) rfl
theorem mw_485 : (Jvm.Cond.methodLink "MaterialBarsLaw" (55 : Nat) ({ cls := "MaterialBars", name := "about", desc := "(II)J" } : Jvm.MethodName)) ∈ T0 := T0_in (List.mem_append_right _ (List.mem_append_right _ (List.mem_append_right _ (List.mem_append_left _ (List.mem_of_getElem? (i := 5) (by decide +kernel)))))) rfl
theorem mw_486 : (Jvm.Cond.instanceMethod ({ cls := "MaterialBars", name := "about", desc := "(II)J" } : Jvm.MethodName)) ∈ T0 := T0_in (List.mem_append_right _ (List.mem_append_right _ (List.mem_append_right _ (List.mem_append_left _ (List.mem_of_getElem? (i := 6) (by decide +kernel)))))) rfl
theorem mw_487 : (Jvm.Cond.selects "MaterialBars" ({ cls := "MaterialBars", name := "about", desc := "(II)J" } : Jvm.MethodName) ({ cls := "MaterialBars", name := "about", desc := "(II)J" } : Jvm.MethodName)) ∈ T0 := T0_in (List.mem_append_right _ (List.mem_append_right _ (List.mem_append_right _ (List.mem_append_left _ (List.mem_of_getElem? (i := 7) (by decide +kernel)))))) rfl
theorem mw_488 : (Jvm.Cond.code ({ cls := "MaterialBars", name := "about", desc := "(II)J" } : Jvm.MethodName) prog_1_method_13_code (4 : Nat) (Option.some Jvm.ClassFile.FieldType.long)) ∈ T0 := T0_in (List.mem_append_right _ (List.mem_append_right _ (List.mem_append_right _ (List.mem_append_left _ (List.mem_of_getElem? (i := 8) rfl))))) rfl
theorem mw_490 : (Jvm.Cond.methodLink "MaterialBarsLaw" (127 : Nat) ({ cls := "MaterialBarsLaw", name := "apart", desc := "(LMaterialBars;II[J)I" } : Jvm.MethodName)) ∈ T0 := T0_in (List.mem_append_right _ (List.mem_append_right _ (List.mem_append_right _ (List.mem_append_left _ (List.mem_of_getElem? (i := 10) (by decide +kernel)))))) rfl
theorem mw_491 : (Jvm.Cond.static ({ cls := "MaterialBarsLaw", name := "apart", desc := "(LMaterialBars;II[J)I" } : Jvm.MethodName)) ∈ T0 := T0_in (List.mem_append_right _ (List.mem_append_right _ (List.mem_append_right _ (List.mem_append_left _ (List.mem_of_getElem? (i := 11) (by decide +kernel)))))) rfl
theorem mw_492 : (Jvm.Cond.codeWith ({ cls := "MaterialBarsLaw", name := "apart", desc := "(LMaterialBars;II[J)I" } : Jvm.MethodName) method_15_code (5 : Nat) (Option.some Jvm.ClassFile.FieldType.int) [((0 : Nat), (17 : Nat), (20 : Nat), (25 : Nat))]) ∈ T0 := T0_in (List.mem_append_right _ (List.mem_append_right _ (List.mem_append_right _ (List.mem_append_left _ (List.mem_of_getElem? (i := 12) rfl))))) rfl
theorem mw_493 : (Jvm.Cond.methodLink "MaterialBarsLaw" (59 : Nat) ({ cls := "MaterialBars", name := "apart", desc := "(II)Z" } : Jvm.MethodName)) ∈ T0 := T0_in (List.mem_append_right _ (List.mem_append_right _ (List.mem_append_right _ (List.mem_append_left _ (List.mem_of_getElem? (i := 13) (by decide +kernel)))))) rfl
theorem mw_494 : (Jvm.Cond.instanceMethod ({ cls := "MaterialBars", name := "apart", desc := "(II)Z" } : Jvm.MethodName)) ∈ T0 := T0_in (List.mem_append_right _ (List.mem_append_right _ (List.mem_append_right _ (List.mem_append_left _ (List.mem_of_getElem? (i := 14) (by decide +kernel)))))) rfl
theorem mw_495 : (Jvm.Cond.selects "MaterialBars" ({ cls := "MaterialBars", name := "apart", desc := "(II)Z" } : Jvm.MethodName) ({ cls := "MaterialBars", name := "apart", desc := "(II)Z" } : Jvm.MethodName)) ∈ T0 := T0_in (List.mem_append_right _ (List.mem_append_right _ (List.mem_append_right _ (List.mem_append_left _ (List.mem_of_getElem? (i := 15) (by decide +kernel)))))) rfl
theorem mw_496 : (Jvm.Cond.code ({ cls := "MaterialBars", name := "apart", desc := "(II)Z" } : Jvm.MethodName) prog_1_method_14_code (5 : Nat) (Option.some Jvm.ClassFile.FieldType.boolean)) ∈ T0 := T0_in (List.mem_append_right _ (List.mem_append_right _ (List.mem_append_right _ (List.mem_append_left _ (List.mem_of_getElem? (i := 16) rfl))))) rfl
theorem mw_497 : (Jvm.Cond.methodLink "MaterialBarsLaw" (130 : Nat) ({ cls := "MaterialBarsLaw", name := "put", desc := "(LMaterialBars;II[J)I" } : Jvm.MethodName)) ∈ T0 := T0_in (List.mem_append_right _ (List.mem_append_right _ (List.mem_append_right _ (List.mem_append_left _ (List.mem_of_getElem? (i := 17) (by decide +kernel)))))) rfl
theorem mw_498 : (Jvm.Cond.static ({ cls := "MaterialBarsLaw", name := "put", desc := "(LMaterialBars;II[J)I" } : Jvm.MethodName)) ∈ T0 := T0_in (List.mem_append_right _ (List.mem_append_right _ (List.mem_append_right _ (List.mem_append_left _ (List.mem_of_getElem? (i := 18) (by decide +kernel)))))) rfl
theorem mw_499 : (Jvm.Cond.codeWith ({ cls := "MaterialBarsLaw", name := "put", desc := "(LMaterialBars;II[J)I" } : Jvm.MethodName) method_16_code (5 : Nat) (Option.some Jvm.ClassFile.FieldType.int) [((0 : Nat), (10 : Nat), (13 : Nat), (25 : Nat))]) ∈ T0 := T0_in (List.mem_append_right _ (List.mem_append_right _ (List.mem_append_right _ (List.mem_append_left _ (List.mem_of_getElem? (i := 19) rfl))))) rfl
theorem mw_500 : (Jvm.Cond.methodLink "MaterialBarsLaw" (63 : Nat) ({ cls := "MaterialBars", name := "put", desc := "(II)I" } : Jvm.MethodName)) ∈ T0 := T0_in (List.mem_append_right _ (List.mem_append_right _ (List.mem_append_right _ (List.mem_append_left _ (List.mem_of_getElem? (i := 20) (by decide +kernel)))))) rfl
theorem mw_501 : (Jvm.Cond.instanceMethod ({ cls := "MaterialBars", name := "put", desc := "(II)I" } : Jvm.MethodName)) ∈ T0 := T0_in (List.mem_append_right _ (List.mem_append_right _ (List.mem_append_right _ (List.mem_append_left _ (List.mem_of_getElem? (i := 21) (by decide +kernel)))))) rfl
theorem mw_502 : (Jvm.Cond.selects "MaterialBars" ({ cls := "MaterialBars", name := "put", desc := "(II)I" } : Jvm.MethodName) ({ cls := "MaterialBars", name := "put", desc := "(II)I" } : Jvm.MethodName)) ∈ T0 := T0_in (List.mem_append_right _ (List.mem_append_right _ (List.mem_append_right _ (List.mem_append_left _ (List.mem_of_getElem? (i := 22) (by decide +kernel)))))) rfl
theorem mw_503 : (Jvm.Cond.code ({ cls := "MaterialBars", name := "put", desc := "(II)I" } : Jvm.MethodName) prog_1_method_15_code (5 : Nat) (Option.some Jvm.ClassFile.FieldType.int)) ∈ T0 := T0_in (List.mem_append_right _ (List.mem_append_right _ (List.mem_append_right _ (List.mem_append_left _ (List.mem_of_getElem? (i := 23) rfl))))) rfl
theorem mw_504 : (Jvm.Cond.methodLink "MaterialBars" (184 : Nat) ({ cls := "MaterialBars", name := "goodsOn", desc := "(I)I" } : Jvm.MethodName)) ∈ T0 := T0_in (List.mem_append_right _ (List.mem_append_right _ (List.mem_append_right _ (List.mem_append_left _ (List.mem_of_getElem? (i := 24) (by decide +kernel)))))) rfl
theorem mw_506 : (Jvm.Cond.instanceMethod ({ cls := "MaterialBars", name := "goodsOn", desc := "(I)I" } : Jvm.MethodName)) ∈ T0 := T0_in (List.mem_append_right _ (List.mem_append_right _ (List.mem_append_right _ (List.mem_append_left _ (List.mem_of_getElem? (i := 26) (by decide +kernel)))))) rfl
theorem mw_507 : (Jvm.Cond.code ({ cls := "MaterialBars", name := "goodsOn", desc := "(I)I" } : Jvm.MethodName) prog_1_method_31_code (4 : Nat) (Option.some Jvm.ClassFile.FieldType.int)) ∈ T0 := T0_in (List.mem_append_right _ (List.mem_append_right _ (List.mem_append_right _ (List.mem_append_left _ (List.mem_of_getElem? (i := 27) rfl))))) rfl
theorem mw_508 : (Jvm.Cond.methodLink "MaterialBarsLaw" (133 : Nat) ({ cls := "MaterialBarsLaw", name := "plan", desc := "(LMaterialBars;II[J)I" } : Jvm.MethodName)) ∈ T0 := T0_in (List.mem_append_right _ (List.mem_append_right _ (List.mem_append_right _ (List.mem_append_left _ (List.mem_of_getElem? (i := 28) (by decide +kernel)))))) rfl
theorem mw_509 : (Jvm.Cond.static ({ cls := "MaterialBarsLaw", name := "plan", desc := "(LMaterialBars;II[J)I" } : Jvm.MethodName)) ∈ T0 := T0_in (List.mem_append_right _ (List.mem_append_right _ (List.mem_append_right _ (List.mem_append_left _ (List.mem_of_getElem? (i := 29) (by decide +kernel)))))) rfl
theorem mw_510 : (Jvm.Cond.codeWith ({ cls := "MaterialBarsLaw", name := "plan", desc := "(LMaterialBars;II[J)I" } : Jvm.MethodName) method_17_code (5 : Nat) (Option.some Jvm.ClassFile.FieldType.int) [((0 : Nat), (10 : Nat), (13 : Nat), (25 : Nat))]) ∈ T0 := T0_in (List.mem_append_right _ (List.mem_append_right _ (List.mem_append_right _ (List.mem_append_left _ (List.mem_of_getElem? (i := 30) rfl))))) rfl
theorem mw_511 : (Jvm.Cond.methodLink "MaterialBarsLaw" (66 : Nat) ({ cls := "MaterialBars", name := "plan", desc := "(II)I" } : Jvm.MethodName)) ∈ T0 := T0_in (List.mem_append_right _ (List.mem_append_right _ (List.mem_append_right _ (List.mem_append_left _ (List.mem_of_getElem? (i := 31) (by decide +kernel)))))) rfl
theorem mw_512 : (Jvm.Cond.instanceMethod ({ cls := "MaterialBars", name := "plan", desc := "(II)I" } : Jvm.MethodName)) ∈ T0 := T0_in (List.mem_append_right _ (List.mem_append_right _ (List.mem_append_right _ (List.mem_append_left _ (List.mem_of_getElem? (i := 32) (by decide +kernel)))))) rfl
theorem mw_513 : (Jvm.Cond.selects "MaterialBars" ({ cls := "MaterialBars", name := "plan", desc := "(II)I" } : Jvm.MethodName) ({ cls := "MaterialBars", name := "plan", desc := "(II)I" } : Jvm.MethodName)) ∈ T0 := T0_in (List.mem_append_right _ (List.mem_append_right _ (List.mem_append_right _ (List.mem_append_left _ (List.mem_of_getElem? (i := 33) (by decide +kernel)))))) rfl
theorem mw_514 : (Jvm.Cond.code ({ cls := "MaterialBars", name := "plan", desc := "(II)I" } : Jvm.MethodName) prog_1_method_16_code (6 : Nat) (Option.some Jvm.ClassFile.FieldType.int)) ∈ T0 := T0_in (List.mem_append_right _ (List.mem_append_right _ (List.mem_append_right _ (List.mem_append_left _ (List.mem_of_getElem? (i := 34) rfl))))) rfl
theorem mw_516 : (Jvm.Cond.methodLink "MaterialBars" (192 : Nat) ({ cls := "MaterialBars", name := "withAllAhead", desc := "(I)I" } : Jvm.MethodName)) ∈ T0 := T0_in (List.mem_append_right _ (List.mem_append_right _ (List.mem_append_right _ (List.mem_append_left _ (List.mem_of_getElem? (i := 36) (by decide +kernel)))))) rfl
theorem mw_518 : (Jvm.Cond.instanceMethod ({ cls := "MaterialBars", name := "withAllAhead", desc := "(I)I" } : Jvm.MethodName)) ∈ T0 := T0_in (List.mem_append_right _ (List.mem_append_right _ (List.mem_append_right _ (List.mem_append_left _ (List.mem_of_getElem? (i := 38) (by decide +kernel)))))) rfl
theorem mw_519 : (Jvm.Cond.code ({ cls := "MaterialBars", name := "withAllAhead", desc := "(I)I" } : Jvm.MethodName) prog_1_method_33_code (5 : Nat) (Option.some Jvm.ClassFile.FieldType.int)) ∈ T0 := T0_in (List.mem_append_right _ (List.mem_append_right _ (List.mem_append_right _ (List.mem_append_left _ (List.mem_of_getElem? (i := 39) rfl))))) rfl
theorem mw_520 : (Jvm.Cond.methodLink "MaterialBars" (198 : Nat) ({ cls := "java/lang/Integer", name := "bitCount", desc := "(I)I" } : Jvm.MethodName)) ∈ T0 := T0_in (List.mem_append_right _ (List.mem_append_right _ (List.mem_append_right _ (List.mem_append_left _ (List.mem_of_getElem? (i := 40) (by decide +kernel)))))) rfl
theorem mw_521 : (Jvm.Cond.static ({ cls := "java/lang/Integer", name := "bitCount", desc := "(I)I" } : Jvm.MethodName)) ∈ T0 := T0_in (List.mem_append_right _ (List.mem_append_right _ (List.mem_append_right _ (List.mem_append_left _ (List.mem_of_getElem? (i := 41) (by decide +kernel)))))) rfl
theorem mw_522 : (Jvm.Cond.code ({ cls := "java/lang/Integer", name := "bitCount", desc := "(I)I" } : Jvm.MethodName) prog_12_method_49_code (1 : Nat) (Option.some Jvm.ClassFile.FieldType.int)) ∈ T0 := T0_in (List.mem_append_right _ (List.mem_append_right _ (List.mem_append_right _ (List.mem_append_left _ (List.mem_of_getElem? (i := 42) rfl))))) rfl
theorem mw_523 : (Jvm.Cond.constant "java/lang/Integer" (265 : Nat) (1431655765 : Int32)) ∈ T0 := T0_in (List.mem_append_right _ (List.mem_append_right _ (List.mem_append_right _ (List.mem_append_left _ (List.mem_of_getElem? (i := 43) (by decide +kernel)))))) rfl
theorem mw_524 : (Jvm.Cond.constant "java/lang/Integer" (266 : Nat) (858993459 : Int32)) ∈ T0 := T0_in (List.mem_append_right _ (List.mem_append_right _ (List.mem_append_right _ (List.mem_append_left _ (List.mem_of_getElem? (i := 44) (by decide +kernel)))))) rfl
theorem mw_525 : (Jvm.Cond.constant "java/lang/Integer" (267 : Nat) (252645135 : Int32)) ∈ T0 := T0_in (List.mem_append_right _ (List.mem_append_right _ (List.mem_append_right _ (List.mem_append_left _ (List.mem_of_getElem? (i := 45) (by decide +kernel)))))) rfl
theorem mw_526 : (Jvm.Cond.methodLink "MaterialBars" (203 : Nat) ({ cls := "MaterialBars", name := "eachMayBeDone", desc := "(LMaterialBars$Piece;I)Z" } : Jvm.MethodName)) ∈ T0 := T0_in (List.mem_append_right _ (List.mem_append_right _ (List.mem_append_right _ (List.mem_append_left _ (List.mem_of_getElem? (i := 46) (by decide +kernel)))))) rfl
theorem mw_528 : (Jvm.Cond.instanceMethod ({ cls := "MaterialBars", name := "eachMayBeDone", desc := "(LMaterialBars$Piece;I)Z" } : Jvm.MethodName)) ∈ T0 := T0_in (List.mem_append_right _ (List.mem_append_right _ (List.mem_append_right _ (List.mem_append_left _ (List.mem_of_getElem? (i := 48) (by decide +kernel)))))) rfl
theorem mw_529 : (Jvm.Cond.code ({ cls := "MaterialBars", name := "eachMayBeDone", desc := "(LMaterialBars$Piece;I)Z" } : Jvm.MethodName) prog_1_method_34_code (4 : Nat) (Option.some Jvm.ClassFile.FieldType.boolean)) ∈ T0 := T0_in (List.mem_append_right _ (List.mem_append_right _ (List.mem_append_right _ (List.mem_append_left _ (List.mem_of_getElem? (i := 49) rfl))))) rfl
theorem mw_530 : (Jvm.Cond.methodLink "MaterialBars" (259 : Nat) ({ cls := "MaterialBars", name := "mayBeDone", desc := "(LMaterialBars$Piece;I)Z" } : Jvm.MethodName)) ∈ T0 := T0_in (List.mem_append_right _ (List.mem_append_right _ (List.mem_append_right _ (List.mem_append_left _ (List.mem_of_getElem? (i := 50) (by decide +kernel)))))) rfl
theorem mw_532 : (Jvm.Cond.instanceMethod ({ cls := "MaterialBars", name := "mayBeDone", desc := "(LMaterialBars$Piece;I)Z" } : Jvm.MethodName)) ∈ T0 := T0_in (List.mem_append_right _ (List.mem_append_right _ (List.mem_append_right _ (List.mem_append_left _ (List.mem_of_getElem? (i := 52) (by decide +kernel)))))) rfl
theorem mw_533 : (Jvm.Cond.code ({ cls := "MaterialBars", name := "mayBeDone", desc := "(LMaterialBars$Piece;I)Z" } : Jvm.MethodName) prog_1_method_35_code (3 : Nat) (Option.some Jvm.ClassFile.FieldType.boolean)) ∈ T0 := T0_in (List.mem_append_right _ (List.mem_append_right _ (List.mem_append_right _ (List.mem_append_left _ (List.mem_of_getElem? (i := 53) rfl))))) rfl
theorem mw_534 : (Jvm.Cond.methodLink "MaterialBars" (207 : Nat) ({ cls := "MaterialBars", name := "putInOrder", desc := "(II)Z" } : Jvm.MethodName)) ∈ T0 := T0_in (List.mem_append_right _ (List.mem_append_right _ (List.mem_append_right _ (List.mem_append_left _ (List.mem_of_getElem? (i := 54) (by decide +kernel)))))) rfl
theorem mw_536 : (Jvm.Cond.instanceMethod ({ cls := "MaterialBars", name := "putInOrder", desc := "(II)Z" } : Jvm.MethodName)) ∈ T0 := T0_in (List.mem_append_right _ (List.mem_append_right _ (List.mem_append_right _ (List.mem_append_left _ (List.mem_of_getElem? (i := 56) (by decide +kernel)))))) rfl
theorem mw_537 : (Jvm.Cond.code ({ cls := "MaterialBars", name := "putInOrder", desc := "(II)Z" } : Jvm.MethodName) prog_1_method_36_code (6 : Nat) (Option.some Jvm.ClassFile.FieldType.boolean)) ∈ T0 := T0_in (List.mem_append_right _ (List.mem_append_right _ (List.mem_append_right _ (List.mem_append_left _ (List.mem_of_getElem? (i := 57) rfl))))) rfl
theorem mw_538 : (Jvm.Cond.methodLink "MaterialBars" (262 : Nat) ({ cls := "MaterialBars", name := "lowestThatMayComeNext", desc := "(I)I" } : Jvm.MethodName)) ∈ T0 := T0_in (List.mem_append_right _ (List.mem_append_right _ (List.mem_append_right _ (List.mem_append_left _ (List.mem_of_getElem? (i := 58) (by decide +kernel)))))) rfl
theorem mw_540 : (Jvm.Cond.instanceMethod ({ cls := "MaterialBars", name := "lowestThatMayComeNext", desc := "(I)I" } : Jvm.MethodName)) ∈ T0 := T0_in (List.mem_append_right _ (List.mem_append_right _ (List.mem_append_right _ (List.mem_append_left _ (List.mem_of_getElem? (i := 60) (by decide +kernel)))))) rfl
theorem mw_541 : (Jvm.Cond.code ({ cls := "MaterialBars", name := "lowestThatMayComeNext", desc := "(I)I" } : Jvm.MethodName) prog_1_method_37_code (3 : Nat) (Option.some Jvm.ClassFile.FieldType.int)) ∈ T0 := T0_in (List.mem_append_right _ (List.mem_append_right _ (List.mem_append_right _ (List.mem_append_left _ (List.mem_of_getElem? (i := 61) rfl))))) rfl
theorem mw_542 : (Jvm.Cond.methodLink "MaterialBars" (265 : Nat) ({ cls := "MaterialBars", name := "hasToWait", desc := "(II)Z" } : Jvm.MethodName)) ∈ T0 := T0_in (List.mem_append_right _ (List.mem_append_right _ (List.mem_append_right _ (List.mem_append_left _ (List.mem_of_getElem? (i := 62) (by decide +kernel)))))) rfl
theorem mw_544 : (Jvm.Cond.instanceMethod ({ cls := "MaterialBars", name := "hasToWait", desc := "(II)Z" } : Jvm.MethodName)) ∈ T0 := T0_in (List.mem_append_right _ (List.mem_append_right _ (List.mem_append_right _ (List.mem_append_left _ (List.mem_of_getElem? (i := 64) (by decide +kernel)))))) rfl
theorem mw_545 : (Jvm.Cond.code ({ cls := "MaterialBars", name := "hasToWait", desc := "(II)Z" } : Jvm.MethodName) prog_1_method_38_code (4 : Nat) (Option.some Jvm.ClassFile.FieldType.boolean)) ∈ T0 := T0_in (List.mem_append_right _ (List.mem_append_right _ (List.mem_append_right _ (List.mem_append_left _ (List.mem_of_getElem? (i := 65) rfl))))) rfl
theorem mw_546 : (Jvm.Cond.methodLink "MaterialBars" (210 : Nat) ({ cls := "java/lang/System", name := "arraycopy", desc := "(Ljava/lang/Object;ILjava/lang/Object;II)V" } : Jvm.MethodName)) ∈ T0 := T0_in (List.mem_append_right _ (List.mem_append_right _ (List.mem_append_right _ (List.mem_append_left _ (List.mem_of_getElem? (i := 66) (by decide +kernel)))))) rfl
theorem mw_547 : (Jvm.Cond.static ({ cls := "java/lang/System", name := "arraycopy", desc := "(Ljava/lang/Object;ILjava/lang/Object;II)V" } : Jvm.MethodName)) ∈ T0 := T0_in (List.mem_append_right _ (List.mem_append_right _ (List.mem_append_right _ (List.mem_append_left _ (List.mem_of_getElem? (i := 67) (by decide +kernel)))))) rfl
theorem mw_548 : (Jvm.Cond.native ({ cls := "java/lang/System", name := "arraycopy", desc := "(Ljava/lang/Object;ILjava/lang/Object;II)V" } : Jvm.MethodName)) ∈ T0 := T0_in (List.mem_append_right _ (List.mem_append_right _ (List.mem_append_right _ (List.mem_append_left _ (List.mem_of_getElem? (i := 68) (by decide +kernel)))))) rfl
theorem mw_549 : (Jvm.Cond.methodLink "MaterialBarsLaw" (136 : Nat) ({ cls := "MaterialBarsLaw", name := "step", desc := "(LMaterialBars;I[J)I" } : Jvm.MethodName)) ∈ T0 := T0_in (List.mem_append_right _ (List.mem_append_right _ (List.mem_append_right _ (List.mem_append_left _ (List.mem_of_getElem? (i := 69) (by decide +kernel)))))) rfl
theorem mw_550 : (Jvm.Cond.static ({ cls := "MaterialBarsLaw", name := "step", desc := "(LMaterialBars;I[J)I" } : Jvm.MethodName)) ∈ T0 := T0_in (List.mem_append_right _ (List.mem_append_right _ (List.mem_append_right _ (List.mem_append_left _ (List.mem_of_getElem? (i := 70) (by decide +kernel)))))) rfl
theorem mw_551 : (Jvm.Cond.codeWith ({ cls := "MaterialBarsLaw", name := "step", desc := "(LMaterialBars;I[J)I" } : Jvm.MethodName) method_18_code (4 : Nat) (Option.some Jvm.ClassFile.FieldType.int) [((0 : Nat), (9 : Nat), (12 : Nat), (25 : Nat))]) ∈ T0 := T0_in (List.mem_append_right _ (List.mem_append_right _ (List.mem_append_right _ (List.mem_append_left _ (List.mem_of_getElem? (i := 71) rfl))))) rfl
theorem mw_552 : (Jvm.Cond.methodLink "MaterialBarsLaw" (69 : Nat) ({ cls := "MaterialBars", name := "step", desc := "(I)I" } : Jvm.MethodName)) ∈ T0 := T0_in (List.mem_append_right _ (List.mem_append_right _ (List.mem_append_right _ (List.mem_append_left _ (List.mem_of_getElem? (i := 72) (by decide +kernel)))))) rfl
theorem mw_553 : (Jvm.Cond.instanceMethod ({ cls := "MaterialBars", name := "step", desc := "(I)I" } : Jvm.MethodName)) ∈ T0 := T0_in (List.mem_append_right _ (List.mem_append_right _ (List.mem_append_right _ (List.mem_append_left _ (List.mem_of_getElem? (i := 73) (by decide +kernel)))))) rfl
theorem mw_554 : (Jvm.Cond.selects "MaterialBars" ({ cls := "MaterialBars", name := "step", desc := "(I)I" } : Jvm.MethodName) ({ cls := "MaterialBars", name := "step", desc := "(I)I" } : Jvm.MethodName)) ∈ T0 := T0_in (List.mem_append_right _ (List.mem_append_right _ (List.mem_append_right _ (List.mem_append_left _ (List.mem_of_getElem? (i := 74) (by decide +kernel)))))) rfl
theorem mw_555 : (Jvm.Cond.code ({ cls := "MaterialBars", name := "step", desc := "(I)I" } : Jvm.MethodName) prog_1_method_17_code (2 : Nat) (Option.some Jvm.ClassFile.FieldType.int)) ∈ T0 := T0_in (List.mem_append_right _ (List.mem_append_right _ (List.mem_append_right _ (List.mem_append_left _ (List.mem_of_getElem? (i := 75) rfl))))) rfl
theorem mw_556 : (Jvm.Cond.methodLink "MaterialBarsLaw" (139 : Nat) ({ cls := "MaterialBarsLaw", name := "count", desc := "(LMaterialBars;I[J)I" } : Jvm.MethodName)) ∈ T0 := T0_in (List.mem_append_right _ (List.mem_append_right _ (List.mem_append_right _ (List.mem_append_left _ (List.mem_of_getElem? (i := 76) (by decide +kernel)))))) rfl
theorem mw_557 : (Jvm.Cond.static ({ cls := "MaterialBarsLaw", name := "count", desc := "(LMaterialBars;I[J)I" } : Jvm.MethodName)) ∈ T0 := T0_in (List.mem_append_right _ (List.mem_append_right _ (List.mem_append_right _ (List.mem_append_left _ (List.mem_of_getElem? (i := 77) (by decide +kernel)))))) rfl
theorem mw_558 : (Jvm.Cond.codeWith ({ cls := "MaterialBarsLaw", name := "count", desc := "(LMaterialBars;I[J)I" } : Jvm.MethodName) method_19_code (4 : Nat) (Option.some Jvm.ClassFile.FieldType.int) [((0 : Nat), (9 : Nat), (12 : Nat), (25 : Nat))]) ∈ T0 := T0_in (List.mem_append_right _ (List.mem_append_right _ (List.mem_append_right _ (List.mem_append_left _ (List.mem_of_getElem? (i := 78) rfl))))) rfl
theorem mw_559 : (Jvm.Cond.methodLink "MaterialBarsLaw" (72 : Nat) ({ cls := "MaterialBars", name := "count", desc := "(I)I" } : Jvm.MethodName)) ∈ T0 := T0_in (List.mem_append_right _ (List.mem_append_right _ (List.mem_append_right _ (List.mem_append_left _ (List.mem_of_getElem? (i := 79) (by decide +kernel)))))) rfl
theorem mw_560 : (Jvm.Cond.instanceMethod ({ cls := "MaterialBars", name := "count", desc := "(I)I" } : Jvm.MethodName)) ∈ T0 := T0_in (List.mem_append_right _ (List.mem_append_right _ (List.mem_append_right _ (List.mem_append_left _ (List.mem_of_getElem? (i := 80) (by decide +kernel)))))) rfl
theorem mw_561 : (Jvm.Cond.selects "MaterialBars" ({ cls := "MaterialBars", name := "count", desc := "(I)I" } : Jvm.MethodName) ({ cls := "MaterialBars", name := "count", desc := "(I)I" } : Jvm.MethodName)) ∈ T0 := T0_in (List.mem_append_right _ (List.mem_append_right _ (List.mem_append_right _ (List.mem_append_left _ (List.mem_of_getElem? (i := 81) (by decide +kernel)))))) rfl
theorem mw_562 : (Jvm.Cond.code ({ cls := "MaterialBars", name := "count", desc := "(I)I" } : Jvm.MethodName) prog_1_method_18_code (2 : Nat) (Option.some Jvm.ClassFile.FieldType.int)) ∈ T0 := T0_in (List.mem_append_right _ (List.mem_append_right _ (List.mem_append_right _ (List.mem_append_left _ (List.mem_of_getElem? (i := 82) rfl))))) rfl
theorem mw_563 : (Jvm.Cond.methodLink "MaterialBars" (219 : Nat) ({ cls := "MaterialBars", name := "rowsOfAll", desc := "()I" } : Jvm.MethodName)) ∈ T0 := T0_in (List.mem_append_right _ (List.mem_append_right _ (List.mem_append_right _ (List.mem_append_left _ (List.mem_of_getElem? (i := 83) (by decide +kernel)))))) rfl
theorem mw_565 : (Jvm.Cond.instanceMethod ({ cls := "MaterialBars", name := "rowsOfAll", desc := "()I" } : Jvm.MethodName)) ∈ T0 := T0_in (List.mem_append_right _ (List.mem_append_right _ (List.mem_append_right _ (List.mem_append_left _ (List.mem_of_getElem? (i := 85) (by decide +kernel)))))) rfl
theorem mw_566 : (Jvm.Cond.code ({ cls := "MaterialBars", name := "rowsOfAll", desc := "()I" } : Jvm.MethodName) prog_1_method_32_code (3 : Nat) (Option.some Jvm.ClassFile.FieldType.int)) ∈ T0 := T0_in (List.mem_append_right _ (List.mem_append_right _ (List.mem_append_right _ (List.mem_append_left _ (List.mem_of_getElem? (i := 86) rfl))))) rfl
theorem mw_567 : (Jvm.Cond.classLink "MaterialBarsLaw" (76 : Nat) "MaterialBarsModel") ∈ T0 := T0_in (List.mem_append_right _ (List.mem_append_right _ (List.mem_append_right _ (List.mem_append_left _ (List.mem_of_getElem? (i := 87) (by decide +kernel)))))) rfl
theorem mw_568 : (Jvm.Cond.instantiable "MaterialBarsModel" (27 : Nat)) ∈ T0 := T0_in (List.mem_append_right _ (List.mem_append_right _ (List.mem_append_right _ (List.mem_append_left _ (List.mem_of_getElem? (i := 88) (by decide +kernel)))))) rfl
theorem mw_569 : (Jvm.Cond.methodLink "MaterialBarsLaw" (78 : Nat) ({ cls := "MaterialBarsModel", name := "<init>", desc := "()V" } : Jvm.MethodName)) ∈ T0 := T0_in (List.mem_append_right _ (List.mem_append_right _ (List.mem_append_right _ (List.mem_append_left _ (List.mem_of_getElem? (i := 89) (by decide +kernel)))))) rfl
theorem mw_570 : (Jvm.Cond.instanceMethod ({ cls := "MaterialBarsModel", name := "<init>", desc := "()V" } : Jvm.MethodName)) ∈ T0 := T0_in (List.mem_append_right _ (List.mem_append_right _ (List.mem_append_right _ (List.mem_append_left _ (List.mem_of_getElem? (i := 90) (by decide +kernel)))))) rfl
theorem mw_571 : (Jvm.Cond.code ({ cls := "MaterialBarsModel", name := "<init>", desc := "()V" } : Jvm.MethodName) prog_7_method_1_code (2 : Nat) (Option.none : Option Jvm.ClassFile.FieldType)) ∈ T0 := T0_in (List.mem_append_right _ (List.mem_append_right _ (List.mem_append_right _ (List.mem_append_left _ (List.mem_of_getElem? (i := 91) rfl))))) rfl
theorem mw_572 : (Jvm.Cond.methodLink "MaterialBarsModel" (1 : Nat) ({ cls := "java/lang/Object", name := "<init>", desc := "()V" } : Jvm.MethodName)) ∈ T0 := T0_in (List.mem_append_right _ (List.mem_append_right _ (List.mem_append_right _ (List.mem_append_left _ (List.mem_of_getElem? (i := 92) (by decide +kernel)))))) rfl
theorem mw_573 : (Jvm.Cond.fieldLink "MaterialBarsModel" (78 : Nat) "MaterialBarsModel" "thrown" "I") ∈ T0 := T0_in (List.mem_append_right _ (List.mem_append_right _ (List.mem_append_right _ (List.mem_append_left _ (List.mem_of_getElem? (i := 93) (by decide +kernel)))))) rfl
theorem mw_574 : (Jvm.Cond.fieldLink "MaterialBarsModel" (82 : Nat) "MaterialBarsModel" "padded" "I") ∈ T0 := T0_in (List.mem_append_right _ (List.mem_append_right _ (List.mem_append_right _ (List.mem_append_left _ (List.mem_of_getElem? (i := 94) (by decide +kernel)))))) rfl
theorem mw_575 : (Jvm.Cond.fieldLink "MaterialBarsModel" (7 : Nat) "MaterialBarsModel" "pad" "[I") ∈ T0 := T0_in (List.mem_append_right _ (List.mem_append_right _ (List.mem_append_right _ (List.mem_append_left _ (List.mem_of_getElem? (i := 95) (by decide +kernel)))))) rfl
theorem mw_576 : (Jvm.Cond.fieldLink "MaterialBarsModel" (89 : Nat) "MaterialBarsModel" "methods" "I") ∈ T0 := T0_in (List.mem_append_right _ (List.mem_append_right _ (List.mem_append_right _ (List.mem_append_left _ (List.mem_of_getElem? (i := 96) (by decide +kernel)))))) rfl
theorem mw_577 : (Jvm.Cond.fieldLink "MaterialBarsModel" (13 : Nat) "MaterialBarsModel" "many" "[I") ∈ T0 := T0_in (List.mem_append_right _ (List.mem_append_right _ (List.mem_append_right _ (List.mem_append_left _ (List.mem_of_getElem? (i := 97) (by decide +kernel)))))) rfl
theorem mw_578 : (Jvm.Cond.fieldLink "MaterialBarsModel" (16 : Nat) "MaterialBarsModel" "letters" "[I") ∈ T0 := T0_in (List.mem_append_right _ (List.mem_append_right _ (List.mem_append_right _ (List.mem_append_left _ (List.mem_of_getElem? (i := 98) (by decide +kernel)))))) rfl
theorem mw_579 : (Jvm.Cond.fieldLink "MaterialBarsModel" (19 : Nat) "MaterialBarsModel" "firsts" "[I") ∈ T0 := T0_in (List.mem_append_right _ (List.mem_append_right _ (List.mem_append_right _ (List.mem_append_left _ (List.mem_of_getElem? (i := 99) (by decide +kernel)))))) rfl
theorem mw_580 : (Jvm.Cond.fieldLink "MaterialBarsModel" (22 : Nat) "MaterialBarsModel" "seconds" "[I") ∈ T0 := T0_in (List.mem_append_right _ (List.mem_append_right _ (List.mem_append_right _ (List.mem_append_left _ (List.mem_of_getElem? (i := 100) (by decide +kernel)))))) rfl
theorem mw_581 : (Jvm.Cond.fieldLink "MaterialBarsModel" (25 : Nat) "MaterialBarsModel" "trials" "[Z") ∈ T0 := T0_in (List.mem_append_right _ (List.mem_append_right _ (List.mem_append_right _ (List.mem_append_left _ (List.mem_of_getElem? (i := 101) (by decide +kernel)))))) rfl
theorem mw_582 : (Jvm.Cond.fieldLink "MaterialBarsModel" (29 : Nat) "MaterialBarsModel" "rights" "[Z") ∈ T0 := T0_in (List.mem_append_right _ (List.mem_append_right _ (List.mem_append_right _ (List.mem_append_left _ (List.mem_of_getElem? (i := 102) (by decide +kernel)))))) rfl
theorem mw_583 : (Jvm.Cond.fieldLink "MaterialBarsModel" (115 : Nat) "MaterialBarsModel" "objects" "I") ∈ T0 := T0_in (List.mem_append_right _ (List.mem_append_right _ (List.mem_append_right _ (List.mem_append_left _ (List.mem_of_getElem? (i := 103) (by decide +kernel)))))) rfl
theorem mw_584 : (Jvm.Cond.fieldLink "MaterialBarsModel" (32 : Nat) "MaterialBarsModel" "parts" "[I") ∈ T0 := T0_in (List.mem_append_right _ (List.mem_append_right _ (List.mem_append_right _ (List.mem_append_left _ (List.mem_of_getElem? (i := 104) (by decide +kernel)))))) rfl
theorem mw_585 : (Jvm.Cond.fieldLink "MaterialBarsModel" (35 : Nat) "MaterialBarsModel" "materials" "[I") ∈ T0 := T0_in (List.mem_append_right _ (List.mem_append_right _ (List.mem_append_right _ (List.mem_append_left _ (List.mem_of_getElem? (i := 105) (by decide +kernel)))))) rfl
theorem mw_586 : (Jvm.Cond.fieldLink "MaterialBarsModel" (38 : Nat) "MaterialBarsModel" "rows" "[I") ∈ T0 := T0_in (List.mem_append_right _ (List.mem_append_right _ (List.mem_append_right _ (List.mem_append_left _ (List.mem_of_getElem? (i := 106) (by decide +kernel)))))) rfl
theorem mw_587 : (Jvm.Cond.fieldLink "MaterialBarsModel" (41 : Nat) "MaterialBarsModel" "rowMethods" "[I") ∈ T0 := T0_in (List.mem_append_right _ (List.mem_append_right _ (List.mem_append_right _ (List.mem_append_left _ (List.mem_of_getElem? (i := 107) (by decide +kernel)))))) rfl
theorem mw_588 : (Jvm.Cond.fieldLink "MaterialBarsModel" (44 : Nat) "MaterialBarsModel" "rowHours" "[I") ∈ T0 := T0_in (List.mem_append_right _ (List.mem_append_right _ (List.mem_append_right _ (List.mem_append_left _ (List.mem_of_getElem? (i := 108) (by decide +kernel)))))) rfl
theorem mw_589 : (Jvm.Cond.fieldLink "MaterialBarsModel" (47 : Nat) "MaterialBarsModel" "rowPersons" "[I") ∈ T0 := T0_in (List.mem_append_right _ (List.mem_append_right _ (List.mem_append_right _ (List.mem_append_left _ (List.mem_of_getElem? (i := 109) (by decide +kernel)))))) rfl
theorem mw_590 : (Jvm.Cond.fieldLink "MaterialBarsModel" (50 : Nat) "MaterialBarsModel" "rowSeconds" "[I") ∈ T0 := T0_in (List.mem_append_right _ (List.mem_append_right _ (List.mem_append_right _ (List.mem_append_left _ (List.mem_of_getElem? (i := 110) (by decide +kernel)))))) rfl
theorem mw_591 : (Jvm.Cond.fieldLink "MaterialBarsModel" (53 : Nat) "MaterialBarsModel" "stocks" "[I") ∈ T0 := T0_in (List.mem_append_right _ (List.mem_append_right _ (List.mem_append_right _ (List.mem_append_left _ (List.mem_of_getElem? (i := 111) (by decide +kernel)))))) rfl
theorem mw_592 : (Jvm.Cond.fieldLink "MaterialBarsModel" (56 : Nat) "MaterialBarsModel" "came" "[J") ∈ T0 := T0_in (List.mem_append_right _ (List.mem_append_right _ (List.mem_append_right _ (List.mem_append_left _ (List.mem_of_getElem? (i := 112) (by decide +kernel)))))) rfl
theorem mw_593 : (Jvm.Cond.fieldLink "MaterialBarsModel" (60 : Nat) "MaterialBarsModel" "went" "[J") ∈ T0 := T0_in (List.mem_append_right _ (List.mem_append_right _ (List.mem_append_right _ (List.mem_append_left _ (List.mem_of_getElem? (i := 113) (by decide +kernel)))))) rfl
theorem mw_594 : (Jvm.Cond.fieldLink "MaterialBarsModel" (63 : Nat) "MaterialBarsModel" "shelves" "[I") ∈ T0 := T0_in (List.mem_append_right _ (List.mem_append_right _ (List.mem_append_right _ (List.mem_append_left _ (List.mem_of_getElem? (i := 114) (by decide +kernel)))))) rfl
theorem mw_595 : (Jvm.Cond.fieldLink "MaterialBarsModel" (66 : Nat) "MaterialBarsModel" "apart" "[Z") ∈ T0 := T0_in (List.mem_append_right _ (List.mem_append_right _ (List.mem_append_right _ (List.mem_append_left _ (List.mem_of_getElem? (i := 115) (by decide +kernel)))))) rfl
theorem mw_596 : (Jvm.Cond.fieldLink "MaterialBarsModel" (159 : Nat) "MaterialBarsModel" "steps" "I") ∈ T0 := T0_in (List.mem_append_right _ (List.mem_append_right _ (List.mem_append_right _ (List.mem_append_left _ (List.mem_of_getElem? (i := 116) (by decide +kernel)))))) rfl
theorem mw_597 : (Jvm.Cond.fieldLink "MaterialBarsModel" (69 : Nat) "MaterialBarsModel" "plan" "[I") ∈ T0 := T0_in (List.mem_append_right _ (List.mem_append_right _ (List.mem_append_right _ (List.mem_append_left _ (List.mem_of_getElem? (i := 117) (by decide +kernel)))))) rfl
theorem mw_598 : (Jvm.Cond.fieldLink "MaterialBarsModel" (72 : Nat) "MaterialBarsModel" "chosen" "[I") ∈ T0 := T0_in (List.mem_append_right _ (List.mem_append_right _ (List.mem_append_right _ (List.mem_append_left _ (List.mem_of_getElem? (i := 118) (by decide +kernel)))))) rfl
theorem mw_599 : (Jvm.Cond.fieldLink "MaterialBarsModel" (75 : Nat) "MaterialBarsModel" "ends" "[Z") ∈ T0 := T0_in (List.mem_append_right _ (List.mem_append_right _ (List.mem_append_right _ (List.mem_append_left _ (List.mem_of_getElem? (i := 119) (by decide +kernel)))))) rfl
theorem mw_600 : (Jvm.Cond.lays "MaterialBarsModel" "MaterialBarsModel" "thrown" "I") ∈ T0 := T0_in (List.mem_append_right _ (List.mem_append_right _ (List.mem_append_right _ (List.mem_append_left _ (List.mem_of_getElem? (i := 120) (by decide +kernel)))))) rfl
theorem mw_601 : (Jvm.Cond.soleField "MaterialBarsModel" "thrown") ∈ T0 := T0_in (List.mem_append_right _ (List.mem_append_right _ (List.mem_append_right _ (List.mem_append_left _ (List.mem_of_getElem? (i := 121) (by decide +kernel)))))) rfl
theorem mw_602 : (Jvm.Cond.lays "MaterialBarsModel" "MaterialBarsModel" "padded" "I") ∈ T0 := T0_in (List.mem_append_right _ (List.mem_append_right _ (List.mem_append_right _ (List.mem_append_left _ (List.mem_of_getElem? (i := 122) (by decide +kernel)))))) rfl
theorem mw_603 : (Jvm.Cond.soleField "MaterialBarsModel" "padded") ∈ T0 := T0_in (List.mem_append_right _ (List.mem_append_right _ (List.mem_append_right _ (List.mem_append_left _ (List.mem_of_getElem? (i := 123) (by decide +kernel)))))) rfl
theorem mw_604 : (Jvm.Cond.laysFinal "MaterialBarsModel" "MaterialBarsModel" "pad" "[I") ∈ T0 := T0_in (List.mem_append_right _ (List.mem_append_right _ (List.mem_append_right _ (List.mem_append_left _ (List.mem_of_getElem? (i := 124) (by decide +kernel)))))) rfl
theorem mw_605 : (Jvm.Cond.soleField "MaterialBarsModel" "pad") ∈ T0 := T0_in (List.mem_append_right _ (List.mem_append_right _ (List.mem_append_right _ (List.mem_append_left _ (List.mem_of_getElem? (i := 125) (by decide +kernel)))))) rfl
theorem mw_606 : (Jvm.Cond.lays "MaterialBarsModel" "MaterialBarsModel" "methods" "I") ∈ T0 := T0_in (List.mem_append_right _ (List.mem_append_right _ (List.mem_append_right _ (List.mem_append_left _ (List.mem_of_getElem? (i := 126) (by decide +kernel)))))) rfl
theorem mw_607 : (Jvm.Cond.soleField "MaterialBarsModel" "methods") ∈ T0 := T0_in (List.mem_append_right _ (List.mem_append_right _ (List.mem_append_right _ (List.mem_append_left _ (List.mem_of_getElem? (i := 127) (by decide +kernel)))))) rfl
theorem mw_608 : (Jvm.Cond.laysFinal "MaterialBarsModel" "MaterialBarsModel" "many" "[I") ∈ T0 := T0_in (List.mem_append_right _ (List.mem_append_right _ (List.mem_append_right _ (List.mem_append_left _ (List.mem_of_getElem? (i := 128) (by decide +kernel)))))) rfl
theorem mw_609 : (Jvm.Cond.soleField "MaterialBarsModel" "many") ∈ T0 := T0_in (List.mem_append_right _ (List.mem_append_right _ (List.mem_append_right _ (List.mem_append_left _ (List.mem_of_getElem? (i := 129) (by decide +kernel)))))) rfl
theorem mw_610 : (Jvm.Cond.laysFinal "MaterialBarsModel" "MaterialBarsModel" "letters" "[I") ∈ T0 := T0_in (List.mem_append_right _ (List.mem_append_right _ (List.mem_append_right _ (List.mem_append_left _ (List.mem_of_getElem? (i := 130) (by decide +kernel)))))) rfl
theorem mw_611 : (Jvm.Cond.soleField "MaterialBarsModel" "letters") ∈ T0 := T0_in (List.mem_append_right _ (List.mem_append_right _ (List.mem_append_right _ (List.mem_append_left _ (List.mem_of_getElem? (i := 131) (by decide +kernel)))))) rfl
theorem mw_612 : (Jvm.Cond.laysFinal "MaterialBarsModel" "MaterialBarsModel" "firsts" "[I") ∈ T0 := T0_in (List.mem_append_right _ (List.mem_append_right _ (List.mem_append_right _ (List.mem_append_left _ (List.mem_of_getElem? (i := 132) (by decide +kernel)))))) rfl
theorem mw_613 : (Jvm.Cond.soleField "MaterialBarsModel" "firsts") ∈ T0 := T0_in (List.mem_append_right _ (List.mem_append_right _ (List.mem_append_right _ (List.mem_append_left _ (List.mem_of_getElem? (i := 133) (by decide +kernel)))))) rfl
theorem mw_614 : (Jvm.Cond.laysFinal "MaterialBarsModel" "MaterialBarsModel" "seconds" "[I") ∈ T0 := T0_in (List.mem_append_right _ (List.mem_append_right _ (List.mem_append_right _ (List.mem_append_left _ (List.mem_of_getElem? (i := 134) (by decide +kernel)))))) rfl
theorem mw_615 : (Jvm.Cond.soleField "MaterialBarsModel" "seconds") ∈ T0 := T0_in (List.mem_append_right _ (List.mem_append_right _ (List.mem_append_right _ (List.mem_append_left _ (List.mem_of_getElem? (i := 135) (by decide +kernel)))))) rfl
theorem mw_616 : (Jvm.Cond.laysFinal "MaterialBarsModel" "MaterialBarsModel" "trials" "[Z") ∈ T0 := T0_in (List.mem_append_right _ (List.mem_append_right _ (List.mem_append_right _ (List.mem_append_left _ (List.mem_of_getElem? (i := 136) (by decide +kernel)))))) rfl
theorem mw_617 : (Jvm.Cond.soleField "MaterialBarsModel" "trials") ∈ T0 := T0_in (List.mem_append_right _ (List.mem_append_right _ (List.mem_append_right _ (List.mem_append_left _ (List.mem_of_getElem? (i := 137) (by decide +kernel)))))) rfl
theorem mw_618 : (Jvm.Cond.laysFinal "MaterialBarsModel" "MaterialBarsModel" "rights" "[Z") ∈ T0 := T0_in (List.mem_append_right _ (List.mem_append_right _ (List.mem_append_right _ (List.mem_append_left _ (List.mem_of_getElem? (i := 138) (by decide +kernel)))))) rfl
theorem mw_619 : (Jvm.Cond.soleField "MaterialBarsModel" "rights") ∈ T0 := T0_in (List.mem_append_right _ (List.mem_append_right _ (List.mem_append_right _ (List.mem_append_left _ (List.mem_of_getElem? (i := 139) (by decide +kernel)))))) rfl
theorem mw_620 : (Jvm.Cond.lays "MaterialBarsModel" "MaterialBarsModel" "objects" "I") ∈ T0 := T0_in (List.mem_append_right _ (List.mem_append_right _ (List.mem_append_right _ (List.mem_append_left _ (List.mem_of_getElem? (i := 140) (by decide +kernel)))))) rfl
theorem mw_621 : (Jvm.Cond.soleField "MaterialBarsModel" "objects") ∈ T0 := T0_in (List.mem_append_right _ (List.mem_append_right _ (List.mem_append_right _ (List.mem_append_left _ (List.mem_of_getElem? (i := 141) (by decide +kernel)))))) rfl
theorem mw_622 : (Jvm.Cond.laysFinal "MaterialBarsModel" "MaterialBarsModel" "parts" "[I") ∈ T0 := T0_in (List.mem_append_right _ (List.mem_append_right _ (List.mem_append_right _ (List.mem_append_left _ (List.mem_of_getElem? (i := 142) (by decide +kernel)))))) rfl
theorem mw_623 : (Jvm.Cond.soleField "MaterialBarsModel" "parts") ∈ T0 := T0_in (List.mem_append_right _ (List.mem_append_right _ (List.mem_append_right _ (List.mem_append_left _ (List.mem_of_getElem? (i := 143) (by decide +kernel)))))) rfl
theorem mw_624 : (Jvm.Cond.laysFinal "MaterialBarsModel" "MaterialBarsModel" "materials" "[I") ∈ T0 := T0_in (List.mem_append_right _ (List.mem_append_right _ (List.mem_append_right _ (List.mem_append_left _ (List.mem_of_getElem? (i := 144) (by decide +kernel)))))) rfl
theorem mw_625 : (Jvm.Cond.soleField "MaterialBarsModel" "materials") ∈ T0 := T0_in (List.mem_append_right _ (List.mem_append_right _ (List.mem_append_right _ (List.mem_append_left _ (List.mem_of_getElem? (i := 145) (by decide +kernel)))))) rfl
theorem mw_626 : (Jvm.Cond.laysFinal "MaterialBarsModel" "MaterialBarsModel" "rows" "[I") ∈ T0 := T0_in (List.mem_append_right _ (List.mem_append_right _ (List.mem_append_right _ (List.mem_append_left _ (List.mem_of_getElem? (i := 146) (by decide +kernel)))))) rfl
theorem mw_627 : (Jvm.Cond.soleField "MaterialBarsModel" "rows") ∈ T0 := T0_in (List.mem_append_right _ (List.mem_append_right _ (List.mem_append_right _ (List.mem_append_left _ (List.mem_of_getElem? (i := 147) (by decide +kernel)))))) rfl
theorem mw_628 : (Jvm.Cond.laysFinal "MaterialBarsModel" "MaterialBarsModel" "rowMethods" "[I") ∈ T0 := T0_in (List.mem_append_right _ (List.mem_append_right _ (List.mem_append_right _ (List.mem_append_left _ (List.mem_of_getElem? (i := 148) (by decide +kernel)))))) rfl
theorem mw_629 : (Jvm.Cond.soleField "MaterialBarsModel" "rowMethods") ∈ T0 := T0_in (List.mem_append_right _ (List.mem_append_right _ (List.mem_append_right _ (List.mem_append_left _ (List.mem_of_getElem? (i := 149) (by decide +kernel)))))) rfl
theorem mw_630 : (Jvm.Cond.laysFinal "MaterialBarsModel" "MaterialBarsModel" "rowHours" "[I") ∈ T0 := T0_in (List.mem_append_right _ (List.mem_append_right _ (List.mem_append_right _ (List.mem_append_left _ (List.mem_of_getElem? (i := 150) (by decide +kernel)))))) rfl
theorem mw_631 : (Jvm.Cond.soleField "MaterialBarsModel" "rowHours") ∈ T0 := T0_in (List.mem_append_right _ (List.mem_append_right _ (List.mem_append_right _ (List.mem_append_left _ (List.mem_of_getElem? (i := 151) (by decide +kernel)))))) rfl
theorem mw_632 : (Jvm.Cond.laysFinal "MaterialBarsModel" "MaterialBarsModel" "rowPersons" "[I") ∈ T0 := T0_in (List.mem_append_right _ (List.mem_append_right _ (List.mem_append_right _ (List.mem_append_left _ (List.mem_of_getElem? (i := 152) (by decide +kernel)))))) rfl
theorem mw_633 : (Jvm.Cond.soleField "MaterialBarsModel" "rowPersons") ∈ T0 := T0_in (List.mem_append_right _ (List.mem_append_right _ (List.mem_append_right _ (List.mem_append_left _ (List.mem_of_getElem? (i := 153) (by decide +kernel)))))) rfl
theorem mw_634 : (Jvm.Cond.laysFinal "MaterialBarsModel" "MaterialBarsModel" "rowSeconds" "[I") ∈ T0 := T0_in (List.mem_append_right _ (List.mem_append_right _ (List.mem_append_right _ (List.mem_append_left _ (List.mem_of_getElem? (i := 154) (by decide +kernel)))))) rfl
theorem mw_635 : (Jvm.Cond.soleField "MaterialBarsModel" "rowSeconds") ∈ T0 := T0_in (List.mem_append_right _ (List.mem_append_right _ (List.mem_append_right _ (List.mem_append_left _ (List.mem_of_getElem? (i := 155) (by decide +kernel)))))) rfl
theorem mw_636 : (Jvm.Cond.laysFinal "MaterialBarsModel" "MaterialBarsModel" "stocks" "[I") ∈ T0 := T0_in (List.mem_append_right _ (List.mem_append_right _ (List.mem_append_right _ (List.mem_append_left _ (List.mem_of_getElem? (i := 156) (by decide +kernel)))))) rfl
theorem mw_637 : (Jvm.Cond.soleField "MaterialBarsModel" "stocks") ∈ T0 := T0_in (List.mem_append_right _ (List.mem_append_right _ (List.mem_append_right _ (List.mem_append_left _ (List.mem_of_getElem? (i := 157) (by decide +kernel)))))) rfl
theorem mw_638 : (Jvm.Cond.laysFinal "MaterialBarsModel" "MaterialBarsModel" "came" "[J") ∈ T0 := T0_in (List.mem_append_right _ (List.mem_append_right _ (List.mem_append_right _ (List.mem_append_left _ (List.mem_of_getElem? (i := 158) (by decide +kernel)))))) rfl
theorem mw_639 : (Jvm.Cond.soleField "MaterialBarsModel" "came") ∈ T0 := T0_in (List.mem_append_right _ (List.mem_append_right _ (List.mem_append_right _ (List.mem_append_left _ (List.mem_of_getElem? (i := 159) (by decide +kernel)))))) rfl
theorem mw_640 : (Jvm.Cond.laysFinal "MaterialBarsModel" "MaterialBarsModel" "went" "[J") ∈ T0 := T0_in (List.mem_append_right _ (List.mem_append_right _ (List.mem_append_right _ (List.mem_append_left _ (List.mem_of_getElem? (i := 160) (by decide +kernel)))))) rfl
theorem mw_641 : (Jvm.Cond.soleField "MaterialBarsModel" "went") ∈ T0 := T0_in (List.mem_append_right _ (List.mem_append_right _ (List.mem_append_right _ (List.mem_append_left _ (List.mem_of_getElem? (i := 161) (by decide +kernel)))))) rfl
theorem mw_642 : (Jvm.Cond.laysFinal "MaterialBarsModel" "MaterialBarsModel" "shelves" "[I") ∈ T0 := T0_in (List.mem_append_right _ (List.mem_append_right _ (List.mem_append_right _ (List.mem_append_left _ (List.mem_of_getElem? (i := 162) (by decide +kernel)))))) rfl
theorem mw_643 : (Jvm.Cond.soleField "MaterialBarsModel" "shelves") ∈ T0 := T0_in (List.mem_append_right _ (List.mem_append_right _ (List.mem_append_right _ (List.mem_append_left _ (List.mem_of_getElem? (i := 163) (by decide +kernel)))))) rfl
theorem mw_644 : (Jvm.Cond.laysFinal "MaterialBarsModel" "MaterialBarsModel" "apart" "[Z") ∈ T0 := T0_in (List.mem_append_right _ (List.mem_append_right _ (List.mem_append_right _ (List.mem_append_left _ (List.mem_of_getElem? (i := 164) (by decide +kernel)))))) rfl
theorem mw_645 : (Jvm.Cond.soleField "MaterialBarsModel" "apart") ∈ T0 := T0_in (List.mem_append_right _ (List.mem_append_right _ (List.mem_append_right _ (List.mem_append_left _ (List.mem_of_getElem? (i := 165) (by decide +kernel)))))) rfl
theorem mw_646 : (Jvm.Cond.lays "MaterialBarsModel" "MaterialBarsModel" "steps" "I") ∈ T0 := T0_in (List.mem_append_right _ (List.mem_append_right _ (List.mem_append_right _ (List.mem_append_left _ (List.mem_of_getElem? (i := 166) (by decide +kernel)))))) rfl
theorem mw_647 : (Jvm.Cond.soleField "MaterialBarsModel" "steps") ∈ T0 := T0_in (List.mem_append_right _ (List.mem_append_right _ (List.mem_append_right _ (List.mem_append_left _ (List.mem_of_getElem? (i := 167) (by decide +kernel)))))) rfl
theorem mw_648 : (Jvm.Cond.laysFinal "MaterialBarsModel" "MaterialBarsModel" "plan" "[I") ∈ T0 := T0_in (List.mem_append_right _ (List.mem_append_right _ (List.mem_append_right _ (List.mem_append_left _ (List.mem_of_getElem? (i := 168) (by decide +kernel)))))) rfl
theorem mw_649 : (Jvm.Cond.soleField "MaterialBarsModel" "plan") ∈ T0 := T0_in (List.mem_append_right _ (List.mem_append_right _ (List.mem_append_right _ (List.mem_append_left _ (List.mem_of_getElem? (i := 169) (by decide +kernel)))))) rfl
theorem mw_650 : (Jvm.Cond.laysFinal "MaterialBarsModel" "MaterialBarsModel" "chosen" "[I") ∈ T0 := T0_in (List.mem_append_right _ (List.mem_append_right _ (List.mem_append_right _ (List.mem_append_left _ (List.mem_of_getElem? (i := 170) (by decide +kernel)))))) rfl
theorem mw_651 : (Jvm.Cond.soleField "MaterialBarsModel" "chosen") ∈ T0 := T0_in (List.mem_append_right _ (List.mem_append_right _ (List.mem_append_right _ (List.mem_append_left _ (List.mem_of_getElem? (i := 171) (by decide +kernel)))))) rfl
theorem mw_652 : (Jvm.Cond.laysFinal "MaterialBarsModel" "MaterialBarsModel" "ends" "[Z") ∈ T0 := T0_in (List.mem_append_right _ (List.mem_append_right _ (List.mem_append_right _ (List.mem_append_left _ (List.mem_of_getElem? (i := 172) (by decide +kernel)))))) rfl
theorem mw_653 : (Jvm.Cond.soleField "MaterialBarsModel" "ends") ∈ T0 := T0_in (List.mem_append_right _ (List.mem_append_right _ (List.mem_append_right _ (List.mem_append_left _ (List.mem_of_getElem? (i := 173) (by decide +kernel)))))) rfl
theorem mw_654 : (Jvm.Cond.superclass "MaterialBarsModel" "java/lang/Object") ∈ T0 := T0_in (List.mem_append_right _ (List.mem_append_right _ (List.mem_append_right _ (List.mem_append_left _ (List.mem_of_getElem? (i := 174) (by decide +kernel)))))) rfl
theorem mw_655 : (Jvm.Cond.arrayClass Jvm.ClassFile.FieldType.boolean) ∈ T0 := T0_in (List.mem_append_right _ (List.mem_append_right _ (List.mem_append_right _ (List.mem_append_left _ (List.mem_of_getElem? (i := 175) (by decide +kernel)))))) rfl
theorem mw_656 : (Jvm.Cond.arrayClass Jvm.ClassFile.FieldType.long) ∈ T0 := T0_in (List.mem_append_right _ (List.mem_append_right _ (List.mem_append_right _ (List.mem_append_left _ (List.mem_of_getElem? (i := 176) (by decide +kernel)))))) rfl
theorem mw_657 : (Jvm.Cond.methodLink "MaterialBarsLaw" (85 : Nat) ({ cls := "MaterialBarsModel", name := "thrown", desc := "()I" } : Jvm.MethodName)) ∈ T0 := T0_in (List.mem_append_right _ (List.mem_append_right _ (List.mem_append_right _ (List.mem_append_left _ (List.mem_of_getElem? (i := 177) (by decide +kernel)))))) rfl
theorem mw_658 : (Jvm.Cond.instanceMethod ({ cls := "MaterialBarsModel", name := "thrown", desc := "()I" } : Jvm.MethodName)) ∈ T0 := T0_in (List.mem_append_right _ (List.mem_append_right _ (List.mem_append_right _ (List.mem_append_left _ (List.mem_of_getElem? (i := 178) (by decide +kernel)))))) rfl
theorem mw_659 : (Jvm.Cond.selects "MaterialBarsModel" ({ cls := "MaterialBarsModel", name := "thrown", desc := "()I" } : Jvm.MethodName) ({ cls := "MaterialBarsModel", name := "thrown", desc := "()I" } : Jvm.MethodName)) ∈ T0 := T0_in (List.mem_append_right _ (List.mem_append_right _ (List.mem_append_right _ (List.mem_append_left _ (List.mem_of_getElem? (i := 179) (by decide +kernel)))))) rfl
theorem mw_660 : (Jvm.Cond.code ({ cls := "MaterialBarsModel", name := "thrown", desc := "()I" } : Jvm.MethodName) prog_7_method_2_code (1 : Nat) (Option.some Jvm.ClassFile.FieldType.int)) ∈ T0 := T0_in (List.mem_append_right _ (List.mem_append_right _ (List.mem_append_right _ (List.mem_append_left _ (List.mem_of_getElem? (i := 180) rfl))))) rfl
theorem mw_661 : (Jvm.Cond.methodLink "MaterialBarsLaw" (84 : Nat) ({ cls := "MaterialBarsModel", name := "unit", desc := "(I)I" } : Jvm.MethodName)) ∈ T0 := T0_in (List.mem_append_right _ (List.mem_append_right _ (List.mem_append_right _ (List.mem_append_left _ (List.mem_of_getElem? (i := 181) (by decide +kernel)))))) rfl
theorem mw_662 : (Jvm.Cond.instanceMethod ({ cls := "MaterialBarsModel", name := "unit", desc := "(I)I" } : Jvm.MethodName)) ∈ T0 := T0_in (List.mem_append_right _ (List.mem_append_right _ (List.mem_append_right _ (List.mem_append_left _ (List.mem_of_getElem? (i := 182) (by decide +kernel)))))) rfl
theorem mw_663 : (Jvm.Cond.selects "MaterialBarsModel" ({ cls := "MaterialBarsModel", name := "unit", desc := "(I)I" } : Jvm.MethodName) ({ cls := "MaterialBarsModel", name := "unit", desc := "(I)I" } : Jvm.MethodName)) ∈ T0 := T0_in (List.mem_append_right _ (List.mem_append_right _ (List.mem_append_right _ (List.mem_append_left _ (List.mem_of_getElem? (i := 183) (by decide +kernel)))))) rfl
theorem mw_664 : (Jvm.Cond.code ({ cls := "MaterialBarsModel", name := "unit", desc := "(I)I" } : Jvm.MethodName) prog_7_method_5_code (2 : Nat) (Option.some Jvm.ClassFile.FieldType.int)) ∈ T0 := T0_in (List.mem_append_right _ (List.mem_append_right _ (List.mem_append_right _ (List.mem_append_left _ (List.mem_of_getElem? (i := 184) rfl))))) rfl
theorem mw_665 : (Jvm.Cond.methodLink "MaterialBarsModel" (85 : Nat) ({ cls := "MaterialBarsModel", name := "goes", desc := "(ZZZ)Z" } : Jvm.MethodName)) ∈ T0 := T0_in (List.mem_append_right _ (List.mem_append_right _ (List.mem_append_right _ (List.mem_append_left _ (List.mem_of_getElem? (i := 185) (by decide +kernel)))))) rfl
theorem mw_667 : (Jvm.Cond.instanceMethod ({ cls := "MaterialBarsModel", name := "goes", desc := "(ZZZ)Z" } : Jvm.MethodName)) ∈ T0 := T0_in (List.mem_append_right _ (List.mem_append_right _ (List.mem_append_right _ (List.mem_append_left _ (List.mem_of_getElem? (i := 187) (by decide +kernel)))))) rfl
theorem mw_668 : (Jvm.Cond.code ({ cls := "MaterialBarsModel", name := "goes", desc := "(ZZZ)Z" } : Jvm.MethodName) prog_7_method_3_code (4 : Nat) (Option.some Jvm.ClassFile.FieldType.boolean)) ∈ T0 := T0_in (List.mem_append_right _ (List.mem_append_right _ (List.mem_append_right _ (List.mem_append_left _ (List.mem_of_getElem? (i := 188) rfl))))) rfl
theorem mw_669 : (Jvm.Cond.methodLink "MaterialBarsLaw" (91 : Nat) ({ cls := "MaterialBarsModel", name := "read", desc := "()I" } : Jvm.MethodName)) ∈ T0 := T0_in (List.mem_append_right _ (List.mem_append_right _ (List.mem_append_right _ (List.mem_append_left _ (List.mem_of_getElem? (i := 189) (by decide +kernel)))))) rfl
theorem mw_670 : (Jvm.Cond.instanceMethod ({ cls := "MaterialBarsModel", name := "read", desc := "()I" } : Jvm.MethodName)) ∈ T0 := T0_in (List.mem_append_right _ (List.mem_append_right _ (List.mem_append_right _ (List.mem_append_left _ (List.mem_of_getElem? (i := 190) (by decide +kernel)))))) rfl
theorem mw_671 : (Jvm.Cond.selects "MaterialBarsModel" ({ cls := "MaterialBarsModel", name := "read", desc := "()I" } : Jvm.MethodName) ({ cls := "MaterialBarsModel", name := "read", desc := "()I" } : Jvm.MethodName)) ∈ T0 := T0_in (List.mem_append_right _ (List.mem_append_right _ (List.mem_append_right _ (List.mem_append_left _ (List.mem_of_getElem? (i := 191) (by decide +kernel)))))) rfl
theorem mw_672 : (Jvm.Cond.code ({ cls := "MaterialBarsModel", name := "read", desc := "()I" } : Jvm.MethodName) prog_7_method_9_code (2 : Nat) (Option.some Jvm.ClassFile.FieldType.int)) ∈ T0 := T0_in (List.mem_append_right _ (List.mem_append_right _ (List.mem_append_right _ (List.mem_append_left _ (List.mem_of_getElem? (i := 192) rfl))))) rfl
theorem mw_673 : (Jvm.Cond.methodLink "MaterialBarsModel" (100 : Nat) ({ cls := "MaterialBarsModel", name := "fault", desc := "()I" } : Jvm.MethodName)) ∈ T0 := T0_in (List.mem_append_right _ (List.mem_append_right _ (List.mem_append_right _ (List.mem_append_left _ (List.mem_of_getElem? (i := 193) (by decide +kernel)))))) rfl
theorem mw_675 : (Jvm.Cond.instanceMethod ({ cls := "MaterialBarsModel", name := "fault", desc := "()I" } : Jvm.MethodName)) ∈ T0 := T0_in (List.mem_append_right _ (List.mem_append_right _ (List.mem_append_right _ (List.mem_append_left _ (List.mem_of_getElem? (i := 195) (by decide +kernel)))))) rfl
theorem mw_676 : (Jvm.Cond.code ({ cls := "MaterialBarsModel", name := "fault", desc := "()I" } : Jvm.MethodName) prog_7_method_8_code (10 : Nat) (Option.some Jvm.ClassFile.FieldType.int)) ∈ T0 := T0_in (List.mem_append_right _ (List.mem_append_right _ (List.mem_append_right _ (List.mem_append_left _ (List.mem_of_getElem? (i := 196) rfl))))) rfl
theorem mw_677 : (Jvm.Cond.methodLink "MaterialBarsModel" (92 : Nat) ({ cls := "MaterialBarsModel", name := "isLetter", desc := "(I)Z" } : Jvm.MethodName)) ∈ T0 := T0_in (List.mem_append_right _ (List.mem_append_right _ (List.mem_append_right _ (List.mem_append_left _ (List.mem_of_getElem? (i := 197) (by decide +kernel)))))) rfl
theorem mw_678 : (Jvm.Cond.static ({ cls := "MaterialBarsModel", name := "isLetter", desc := "(I)Z" } : Jvm.MethodName)) ∈ T0 := T0_in (List.mem_append_right _ (List.mem_append_right _ (List.mem_append_right _ (List.mem_append_left _ (List.mem_of_getElem? (i := 198) (by decide +kernel)))))) rfl
theorem mw_679 : (Jvm.Cond.code ({ cls := "MaterialBarsModel", name := "isLetter", desc := "(I)Z" } : Jvm.MethodName) prog_7_method_7_code (1 : Nat) (Option.some Jvm.ClassFile.FieldType.boolean)) ∈ T0 := T0_in (List.mem_append_right _ (List.mem_append_right _ (List.mem_append_right _ (List.mem_append_left _ (List.mem_of_getElem? (i := 199) rfl))))) rfl
theorem mw_680 : (Jvm.Cond.methodLink "MaterialBarsModel" (96 : Nat) ({ cls := "MaterialBarsModel", name := "greatest", desc := "(I)I" } : Jvm.MethodName)) ∈ T0 := T0_in (List.mem_append_right _ (List.mem_append_right _ (List.mem_append_right _ (List.mem_append_left _ (List.mem_of_getElem? (i := 200) (by decide +kernel)))))) rfl
theorem mw_681 : (Jvm.Cond.static ({ cls := "MaterialBarsModel", name := "greatest", desc := "(I)I" } : Jvm.MethodName)) ∈ T0 := T0_in (List.mem_append_right _ (List.mem_append_right _ (List.mem_append_right _ (List.mem_append_left _ (List.mem_of_getElem? (i := 201) (by decide +kernel)))))) rfl
theorem mw_682 : (Jvm.Cond.code ({ cls := "MaterialBarsModel", name := "greatest", desc := "(I)I" } : Jvm.MethodName) prog_7_method_6_code (1 : Nat) (Option.some Jvm.ClassFile.FieldType.int)) ∈ T0 := T0_in (List.mem_append_right _ (List.mem_append_right _ (List.mem_append_right _ (List.mem_append_left _ (List.mem_of_getElem? (i := 202) rfl))))) rfl
theorem mw_683 : (Jvm.Cond.methodLink "MaterialBarsLaw" (95 : Nat) ({ cls := "MaterialBarsModel", name := "uses", desc := "(II)I" } : Jvm.MethodName)) ∈ T0 := T0_in (List.mem_append_right _ (List.mem_append_right _ (List.mem_append_right _ (List.mem_append_left _ (List.mem_of_getElem? (i := 203) (by decide +kernel)))))) rfl
theorem mw_684 : (Jvm.Cond.instanceMethod ({ cls := "MaterialBarsModel", name := "uses", desc := "(II)I" } : Jvm.MethodName)) ∈ T0 := T0_in (List.mem_append_right _ (List.mem_append_right _ (List.mem_append_right _ (List.mem_append_left _ (List.mem_of_getElem? (i := 204) (by decide +kernel)))))) rfl
theorem mw_685 : (Jvm.Cond.selects "MaterialBarsModel" ({ cls := "MaterialBarsModel", name := "uses", desc := "(II)I" } : Jvm.MethodName) ({ cls := "MaterialBarsModel", name := "uses", desc := "(II)I" } : Jvm.MethodName)) ∈ T0 := T0_in (List.mem_append_right _ (List.mem_append_right _ (List.mem_append_right _ (List.mem_append_left _ (List.mem_of_getElem? (i := 205) (by decide +kernel)))))) rfl
theorem mw_686 : (Jvm.Cond.code ({ cls := "MaterialBarsModel", name := "uses", desc := "(II)I" } : Jvm.MethodName) prog_7_method_12_code (3 : Nat) (Option.some Jvm.ClassFile.FieldType.int)) ∈ T0 := T0_in (List.mem_append_right _ (List.mem_append_right _ (List.mem_append_right _ (List.mem_append_left _ (List.mem_of_getElem? (i := 206) rfl))))) rfl
theorem mw_687 : (Jvm.Cond.methodLink "MaterialBarsModel" (108 : Nat) ({ cls := "MaterialBarsModel", name := "isMethod", desc := "(I)Z" } : Jvm.MethodName)) ∈ T0 := T0_in (List.mem_append_right _ (List.mem_append_right _ (List.mem_append_right _ (List.mem_append_left _ (List.mem_of_getElem? (i := 207) (by decide +kernel)))))) rfl
theorem mw_689 : (Jvm.Cond.instanceMethod ({ cls := "MaterialBarsModel", name := "isMethod", desc := "(I)Z" } : Jvm.MethodName)) ∈ T0 := T0_in (List.mem_append_right _ (List.mem_append_right _ (List.mem_append_right _ (List.mem_append_left _ (List.mem_of_getElem? (i := 209) (by decide +kernel)))))) rfl
theorem mw_690 : (Jvm.Cond.code ({ cls := "MaterialBarsModel", name := "isMethod", desc := "(I)Z" } : Jvm.MethodName) prog_7_method_10_code (2 : Nat) (Option.some Jvm.ClassFile.FieldType.boolean)) ∈ T0 := T0_in (List.mem_append_right _ (List.mem_append_right _ (List.mem_append_right _ (List.mem_append_left _ (List.mem_of_getElem? (i := 210) rfl))))) rfl
theorem mw_691 : (Jvm.Cond.methodLink "MaterialBarsModel" (104 : Nat) ({ cls := "MaterialBarsModel", name := "below", desc := "(II)Z" } : Jvm.MethodName)) ∈ T0 := T0_in (List.mem_append_right _ (List.mem_append_right _ (List.mem_append_right _ (List.mem_append_left _ (List.mem_of_getElem? (i := 211) (by decide +kernel)))))) rfl
theorem mw_692 : (Jvm.Cond.static ({ cls := "MaterialBarsModel", name := "below", desc := "(II)Z" } : Jvm.MethodName)) ∈ T0 := T0_in (List.mem_append_right _ (List.mem_append_right _ (List.mem_append_right _ (List.mem_append_left _ (List.mem_of_getElem? (i := 212) (by decide +kernel)))))) rfl
theorem mw_693 : (Jvm.Cond.code ({ cls := "MaterialBarsModel", name := "below", desc := "(II)Z" } : Jvm.MethodName) prog_7_method_4_code (2 : Nat) (Option.some Jvm.ClassFile.FieldType.boolean)) ∈ T0 := T0_in (List.mem_append_right _ (List.mem_append_right _ (List.mem_append_right _ (List.mem_append_left _ (List.mem_of_getElem? (i := 213) rfl))))) rfl
theorem mw_694 : (Jvm.Cond.methodLink "MaterialBarsModel" (111 : Nat) ({ cls := "MaterialBarsModel", name := "used", desc := "(II)I" } : Jvm.MethodName)) ∈ T0 := T0_in (List.mem_append_right _ (List.mem_append_right _ (List.mem_append_right _ (List.mem_append_left _ (List.mem_of_getElem? (i := 214) (by decide +kernel)))))) rfl
theorem mw_696 : (Jvm.Cond.instanceMethod ({ cls := "MaterialBarsModel", name := "used", desc := "(II)I" } : Jvm.MethodName)) ∈ T0 := T0_in (List.mem_append_right _ (List.mem_append_right _ (List.mem_append_right _ (List.mem_append_left _ (List.mem_of_getElem? (i := 216) (by decide +kernel)))))) rfl
theorem mw_697 : (Jvm.Cond.code ({ cls := "MaterialBarsModel", name := "used", desc := "(II)I" } : Jvm.MethodName) prog_7_method_11_code (5 : Nat) (Option.some Jvm.ClassFile.FieldType.int)) ∈ T0 := T0_in (List.mem_append_right _ (List.mem_append_right _ (List.mem_append_right _ (List.mem_append_left _ (List.mem_of_getElem? (i := 217) rfl))))) rfl
theorem mw_698 : (Jvm.Cond.methodLink "MaterialBarsLaw" (98 : Nat) ({ cls := "MaterialBarsModel", name := "object", desc := "()I" } : Jvm.MethodName)) ∈ T0 := T0_in (List.mem_append_right _ (List.mem_append_right _ (List.mem_append_right _ (List.mem_append_left _ (List.mem_of_getElem? (i := 218) (by decide +kernel)))))) rfl
theorem mw_699 : (Jvm.Cond.instanceMethod ({ cls := "MaterialBarsModel", name := "object", desc := "()I" } : Jvm.MethodName)) ∈ T0 := T0_in (List.mem_append_right _ (List.mem_append_right _ (List.mem_append_right _ (List.mem_append_left _ (List.mem_of_getElem? (i := 219) (by decide +kernel)))))) rfl
theorem mw_700 : (Jvm.Cond.selects "MaterialBarsModel" ({ cls := "MaterialBarsModel", name := "object", desc := "()I" } : Jvm.MethodName) ({ cls := "MaterialBarsModel", name := "object", desc := "()I" } : Jvm.MethodName)) ∈ T0 := T0_in (List.mem_append_right _ (List.mem_append_right _ (List.mem_append_right _ (List.mem_append_left _ (List.mem_of_getElem? (i := 220) (by decide +kernel)))))) rfl
theorem mw_701 : (Jvm.Cond.code ({ cls := "MaterialBarsModel", name := "object", desc := "()I" } : Jvm.MethodName) prog_7_method_14_code (1 : Nat) (Option.some Jvm.ClassFile.FieldType.int)) ∈ T0 := T0_in (List.mem_append_right _ (List.mem_append_right _ (List.mem_append_right _ (List.mem_append_left _ (List.mem_of_getElem? (i := 221) rfl))))) rfl
theorem mw_702 : (Jvm.Cond.methodLink "MaterialBarsLaw" (101 : Nat) ({ cls := "MaterialBarsModel", name := "part", desc := "(II)I" } : Jvm.MethodName)) ∈ T0 := T0_in (List.mem_append_right _ (List.mem_append_right _ (List.mem_append_right _ (List.mem_append_left _ (List.mem_of_getElem? (i := 222) (by decide +kernel)))))) rfl
theorem mw_703 : (Jvm.Cond.instanceMethod ({ cls := "MaterialBarsModel", name := "part", desc := "(II)I" } : Jvm.MethodName)) ∈ T0 := T0_in (List.mem_append_right _ (List.mem_append_right _ (List.mem_append_right _ (List.mem_append_left _ (List.mem_of_getElem? (i := 223) (by decide +kernel)))))) rfl
theorem mw_704 : (Jvm.Cond.selects "MaterialBarsModel" ({ cls := "MaterialBarsModel", name := "part", desc := "(II)I" } : Jvm.MethodName) ({ cls := "MaterialBarsModel", name := "part", desc := "(II)I" } : Jvm.MethodName)) ∈ T0 := T0_in (List.mem_append_right _ (List.mem_append_right _ (List.mem_append_right _ (List.mem_append_left _ (List.mem_of_getElem? (i := 224) (by decide +kernel)))))) rfl
theorem mw_705 : (Jvm.Cond.code ({ cls := "MaterialBarsModel", name := "part", desc := "(II)I" } : Jvm.MethodName) prog_7_method_16_code (4 : Nat) (Option.some Jvm.ClassFile.FieldType.int)) ∈ T0 := T0_in (List.mem_append_right _ (List.mem_append_right _ (List.mem_append_right _ (List.mem_append_left _ (List.mem_of_getElem? (i := 225) rfl))))) rfl
theorem mw_706 : (Jvm.Cond.methodLink "MaterialBarsModel" (118 : Nat) ({ cls := "MaterialBarsModel", name := "isObject", desc := "(I)Z" } : Jvm.MethodName)) ∈ T0 := T0_in (List.mem_append_right _ (List.mem_append_right _ (List.mem_append_right _ (List.mem_append_left _ (List.mem_of_getElem? (i := 226) (by decide +kernel)))))) rfl
theorem mw_708 : (Jvm.Cond.instanceMethod ({ cls := "MaterialBarsModel", name := "isObject", desc := "(I)Z" } : Jvm.MethodName)) ∈ T0 := T0_in (List.mem_append_right _ (List.mem_append_right _ (List.mem_append_right _ (List.mem_append_left _ (List.mem_of_getElem? (i := 228) (by decide +kernel)))))) rfl
theorem mw_709 : (Jvm.Cond.code ({ cls := "MaterialBarsModel", name := "isObject", desc := "(I)Z" } : Jvm.MethodName) prog_7_method_15_code (2 : Nat) (Option.some Jvm.ClassFile.FieldType.boolean)) ∈ T0 := T0_in (List.mem_append_right _ (List.mem_append_right _ (List.mem_append_right _ (List.mem_append_left _ (List.mem_of_getElem? (i := 229) rfl))))) rfl
theorem mw_710 : (Jvm.Cond.methodLink "MaterialBarsLaw" (105 : Nat) ({ cls := "MaterialBarsModel", name := "right", desc := "(IIZ)Z" } : Jvm.MethodName)) ∈ T0 := T0_in (List.mem_append_right _ (List.mem_append_right _ (List.mem_append_right _ (List.mem_append_left _ (List.mem_of_getElem? (i := 230) (by decide +kernel)))))) rfl
theorem mw_711 : (Jvm.Cond.instanceMethod ({ cls := "MaterialBarsModel", name := "right", desc := "(IIZ)Z" } : Jvm.MethodName)) ∈ T0 := T0_in (List.mem_append_right _ (List.mem_append_right _ (List.mem_append_right _ (List.mem_append_left _ (List.mem_of_getElem? (i := 231) (by decide +kernel)))))) rfl
theorem mw_712 : (Jvm.Cond.selects "MaterialBarsModel" ({ cls := "MaterialBarsModel", name := "right", desc := "(IIZ)Z" } : Jvm.MethodName) ({ cls := "MaterialBarsModel", name := "right", desc := "(IIZ)Z" } : Jvm.MethodName)) ∈ T0 := T0_in (List.mem_append_right _ (List.mem_append_right _ (List.mem_append_right _ (List.mem_append_left _ (List.mem_of_getElem? (i := 232) (by decide +kernel)))))) rfl
theorem mw_713 : (Jvm.Cond.code ({ cls := "MaterialBarsModel", name := "right", desc := "(IIZ)Z" } : Jvm.MethodName) prog_7_method_17_code (5 : Nat) (Option.some Jvm.ClassFile.FieldType.boolean)) ∈ T0 := T0_in (List.mem_append_right _ (List.mem_append_right _ (List.mem_append_right _ (List.mem_append_left _ (List.mem_of_getElem? (i := 233) rfl))))) rfl
theorem mw_714 : (Jvm.Cond.methodLink "MaterialBarsLaw" (108 : Nat) ({ cls := "MaterialBarsModel", name := "trial", desc := "(IIZ)Z" } : Jvm.MethodName)) ∈ T0 := T0_in (List.mem_append_right _ (List.mem_append_right _ (List.mem_append_right _ (List.mem_append_left _ (List.mem_of_getElem? (i := 234) (by decide +kernel)))))) rfl
theorem mw_715 : (Jvm.Cond.instanceMethod ({ cls := "MaterialBarsModel", name := "trial", desc := "(IIZ)Z" } : Jvm.MethodName)) ∈ T0 := T0_in (List.mem_append_right _ (List.mem_append_right _ (List.mem_append_right _ (List.mem_append_left _ (List.mem_of_getElem? (i := 235) (by decide +kernel)))))) rfl
theorem mw_716 : (Jvm.Cond.selects "MaterialBarsModel" ({ cls := "MaterialBarsModel", name := "trial", desc := "(IIZ)Z" } : Jvm.MethodName) ({ cls := "MaterialBarsModel", name := "trial", desc := "(IIZ)Z" } : Jvm.MethodName)) ∈ T0 := T0_in (List.mem_append_right _ (List.mem_append_right _ (List.mem_append_right _ (List.mem_append_left _ (List.mem_of_getElem? (i := 236) (by decide +kernel)))))) rfl
theorem mw_717 : (Jvm.Cond.code ({ cls := "MaterialBarsModel", name := "trial", desc := "(IIZ)Z" } : Jvm.MethodName) prog_7_method_18_code (5 : Nat) (Option.some Jvm.ClassFile.FieldType.boolean)) ∈ T0 := T0_in (List.mem_append_right _ (List.mem_append_right _ (List.mem_append_right _ (List.mem_append_left _ (List.mem_of_getElem? (i := 237) rfl))))) rfl
theorem mw_718 : (Jvm.Cond.methodLink "MaterialBarsLaw" (112 : Nat) ({ cls := "MaterialBarsModel", name := "reason", desc := "(IIII)I" } : Jvm.MethodName)) ∈ T0 := T0_in (List.mem_append_right _ (List.mem_append_right _ (List.mem_append_right _ (List.mem_append_left _ (List.mem_of_getElem? (i := 238) (by decide +kernel)))))) rfl
theorem mw_719 : (Jvm.Cond.instanceMethod ({ cls := "MaterialBarsModel", name := "reason", desc := "(IIII)I" } : Jvm.MethodName)) ∈ T0 := T0_in (List.mem_append_right _ (List.mem_append_right _ (List.mem_append_right _ (List.mem_append_left _ (List.mem_of_getElem? (i := 239) (by decide +kernel)))))) rfl
theorem mw_720 : (Jvm.Cond.selects "MaterialBarsModel" ({ cls := "MaterialBarsModel", name := "reason", desc := "(IIII)I" } : Jvm.MethodName) ({ cls := "MaterialBarsModel", name := "reason", desc := "(IIII)I" } : Jvm.MethodName)) ∈ T0 := T0_in (List.mem_append_right _ (List.mem_append_right _ (List.mem_append_right _ (List.mem_append_right _ (List.mem_of_getElem? (i := 0) (by decide +kernel)))))) rfl
theorem mw_721 : (Jvm.Cond.code ({ cls := "MaterialBarsModel", name := "reason", desc := "(IIII)I" } : Jvm.MethodName) prog_7_method_25_code (5 : Nat) (Option.some Jvm.ClassFile.FieldType.int)) ∈ T0 := T0_in (List.mem_append_right _ (List.mem_append_right _ (List.mem_append_right _ (List.mem_append_right _ (List.mem_of_getElem? (i := 1) rfl))))) rfl
theorem mw_722 : (Jvm.Cond.methodLink "MaterialBarsModel" (139 : Nat) ({ cls := "MaterialBarsModel", name := "isHour", desc := "(I)Z" } : Jvm.MethodName)) ∈ T0 := T0_in (List.mem_append_right _ (List.mem_append_right _ (List.mem_append_right _ (List.mem_append_right _ (List.mem_of_getElem? (i := 2) (by decide +kernel)))))) rfl
theorem mw_723 : (Jvm.Cond.static ({ cls := "MaterialBarsModel", name := "isHour", desc := "(I)Z" } : Jvm.MethodName)) ∈ T0 := T0_in (List.mem_append_right _ (List.mem_append_right _ (List.mem_append_right _ (List.mem_append_right _ (List.mem_of_getElem? (i := 3) (by decide +kernel)))))) rfl
theorem mw_724 : (Jvm.Cond.code ({ cls := "MaterialBarsModel", name := "isHour", desc := "(I)Z" } : Jvm.MethodName) prog_7_method_24_code (1 : Nat) (Option.some Jvm.ClassFile.FieldType.boolean)) ∈ T0 := T0_in (List.mem_append_right _ (List.mem_append_right _ (List.mem_append_right _ (List.mem_append_right _ (List.mem_of_getElem? (i := 4) rfl))))) rfl
theorem mw_725 : (Jvm.Cond.constant "MaterialBarsModel" (138 : Nat) (1000000 : Int32)) ∈ T0 := T0_in (List.mem_append_right _ (List.mem_append_right _ (List.mem_append_right _ (List.mem_append_right _ (List.mem_of_getElem? (i := 5) (by decide +kernel)))))) rfl
theorem mw_726 : (Jvm.Cond.methodLink "MaterialBarsModel" (142 : Nat) ({ cls := "MaterialBarsModel", name := "why", desc := "(IIII)I" } : Jvm.MethodName)) ∈ T0 := T0_in (List.mem_append_right _ (List.mem_append_right _ (List.mem_append_right _ (List.mem_append_right _ (List.mem_of_getElem? (i := 6) (by decide +kernel)))))) rfl
theorem mw_728 : (Jvm.Cond.instanceMethod ({ cls := "MaterialBarsModel", name := "why", desc := "(IIII)I" } : Jvm.MethodName)) ∈ T0 := T0_in (List.mem_append_right _ (List.mem_append_right _ (List.mem_append_right _ (List.mem_append_right _ (List.mem_of_getElem? (i := 8) (by decide +kernel)))))) rfl
theorem mw_729 : (Jvm.Cond.code ({ cls := "MaterialBarsModel", name := "why", desc := "(IIII)I" } : Jvm.MethodName) prog_7_method_23_code (6 : Nat) (Option.some Jvm.ClassFile.FieldType.int)) ∈ T0 := T0_in (List.mem_append_right _ (List.mem_append_right _ (List.mem_append_right _ (List.mem_append_right _ (List.mem_of_getElem? (i := 9) rfl))))) rfl
theorem mw_730 : (Jvm.Cond.methodLink "MaterialBarsModel" (128 : Nat) ({ cls := "MaterialBarsModel", name := "barred", desc := "(II)I" } : Jvm.MethodName)) ∈ T0 := T0_in (List.mem_append_right _ (List.mem_append_right _ (List.mem_append_right _ (List.mem_append_right _ (List.mem_of_getElem? (i := 10) (by decide +kernel)))))) rfl
theorem mw_732 : (Jvm.Cond.instanceMethod ({ cls := "MaterialBarsModel", name := "barred", desc := "(II)I" } : Jvm.MethodName)) ∈ T0 := T0_in (List.mem_append_right _ (List.mem_append_right _ (List.mem_append_right _ (List.mem_append_right _ (List.mem_of_getElem? (i := 12) (by decide +kernel)))))) rfl
theorem mw_733 : (Jvm.Cond.code ({ cls := "MaterialBarsModel", name := "barred", desc := "(II)I" } : Jvm.MethodName) prog_7_method_20_code (4 : Nat) (Option.some Jvm.ClassFile.FieldType.int)) ∈ T0 := T0_in (List.mem_append_right _ (List.mem_append_right _ (List.mem_append_right _ (List.mem_append_right _ (List.mem_of_getElem? (i := 13) rfl))))) rfl
theorem mw_734 : (Jvm.Cond.methodLink "MaterialBarsModel" (121 : Nat) ({ cls := "MaterialBarsModel", name := "has", desc := "(III)Z" } : Jvm.MethodName)) ∈ T0 := T0_in (List.mem_append_right _ (List.mem_append_right _ (List.mem_append_right _ (List.mem_append_right _ (List.mem_of_getElem? (i := 14) (by decide +kernel)))))) rfl
theorem mw_736 : (Jvm.Cond.instanceMethod ({ cls := "MaterialBarsModel", name := "has", desc := "(III)Z" } : Jvm.MethodName)) ∈ T0 := T0_in (List.mem_append_right _ (List.mem_append_right _ (List.mem_append_right _ (List.mem_append_right _ (List.mem_of_getElem? (i := 16) (by decide +kernel)))))) rfl
theorem mw_737 : (Jvm.Cond.code ({ cls := "MaterialBarsModel", name := "has", desc := "(III)Z" } : Jvm.MethodName) prog_7_method_13_code (6 : Nat) (Option.some Jvm.ClassFile.FieldType.boolean)) ∈ T0 := T0_in (List.mem_append_right _ (List.mem_append_right _ (List.mem_append_right _ (List.mem_append_right _ (List.mem_of_getElem? (i := 17) rfl))))) rfl
theorem mw_738 : (Jvm.Cond.methodLink "MaterialBarsModel" (125 : Nat) ({ cls := "MaterialBarsModel", name := "latest", desc := "(II)I" } : Jvm.MethodName)) ∈ T0 := T0_in (List.mem_append_right _ (List.mem_append_right _ (List.mem_append_right _ (List.mem_append_right _ (List.mem_of_getElem? (i := 18) (by decide +kernel)))))) rfl
theorem mw_740 : (Jvm.Cond.instanceMethod ({ cls := "MaterialBarsModel", name := "latest", desc := "(II)I" } : Jvm.MethodName)) ∈ T0 := T0_in (List.mem_append_right _ (List.mem_append_right _ (List.mem_append_right _ (List.mem_append_right _ (List.mem_of_getElem? (i := 20) (by decide +kernel)))))) rfl
theorem mw_741 : (Jvm.Cond.code ({ cls := "MaterialBarsModel", name := "latest", desc := "(II)I" } : Jvm.MethodName) prog_7_method_19_code (5 : Nat) (Option.some Jvm.ClassFile.FieldType.int)) ∈ T0 := T0_in (List.mem_append_right _ (List.mem_append_right _ (List.mem_append_right _ (List.mem_append_right _ (List.mem_of_getElem? (i := 21) rfl))))) rfl
theorem mw_742 : (Jvm.Cond.methodLink "MaterialBarsModel" (131 : Nat) ({ cls := "MaterialBarsModel", name := "waits", desc := "(IIII)Z" } : Jvm.MethodName)) ∈ T0 := T0_in (List.mem_append_right _ (List.mem_append_right _ (List.mem_append_right _ (List.mem_append_right _ (List.mem_of_getElem? (i := 22) (by decide +kernel)))))) rfl
theorem mw_744 : (Jvm.Cond.instanceMethod ({ cls := "MaterialBarsModel", name := "waits", desc := "(IIII)Z" } : Jvm.MethodName)) ∈ T0 := T0_in (List.mem_append_right _ (List.mem_append_right _ (List.mem_append_right _ (List.mem_append_right _ (List.mem_of_getElem? (i := 24) (by decide +kernel)))))) rfl
theorem mw_745 : (Jvm.Cond.code ({ cls := "MaterialBarsModel", name := "waits", desc := "(IIII)Z" } : Jvm.MethodName) prog_7_method_21_code (8 : Nat) (Option.some Jvm.ClassFile.FieldType.boolean)) ∈ T0 := T0_in (List.mem_append_right _ (List.mem_append_right _ (List.mem_append_right _ (List.mem_append_right _ (List.mem_of_getElem? (i := 25) rfl))))) rfl
theorem mw_746 : (Jvm.Cond.methodLink "MaterialBarsModel" (135 : Nat) ({ cls := "MaterialBarsModel", name := "hasPart", desc := "(II)Z" } : Jvm.MethodName)) ∈ T0 := T0_in (List.mem_append_right _ (List.mem_append_right _ (List.mem_append_right _ (List.mem_append_right _ (List.mem_of_getElem? (i := 26) (by decide +kernel)))))) rfl
theorem mw_748 : (Jvm.Cond.instanceMethod ({ cls := "MaterialBarsModel", name := "hasPart", desc := "(II)Z" } : Jvm.MethodName)) ∈ T0 := T0_in (List.mem_append_right _ (List.mem_append_right _ (List.mem_append_right _ (List.mem_append_right _ (List.mem_of_getElem? (i := 28) (by decide +kernel)))))) rfl
theorem mw_749 : (Jvm.Cond.code ({ cls := "MaterialBarsModel", name := "hasPart", desc := "(II)Z" } : Jvm.MethodName) prog_7_method_22_code (5 : Nat) (Option.some Jvm.ClassFile.FieldType.boolean)) ∈ T0 := T0_in (List.mem_append_right _ (List.mem_append_right _ (List.mem_append_right _ (List.mem_append_right _ (List.mem_of_getElem? (i := 29) rfl))))) rfl
theorem mw_750 : (Jvm.Cond.methodLink "MaterialBarsLaw" (116 : Nat) ({ cls := "MaterialBarsModel", name := "done", desc := "(IIIII)I" } : Jvm.MethodName)) ∈ T0 := T0_in (List.mem_append_right _ (List.mem_append_right _ (List.mem_append_right _ (List.mem_append_right _ (List.mem_of_getElem? (i := 30) (by decide +kernel)))))) rfl
theorem mw_751 : (Jvm.Cond.instanceMethod ({ cls := "MaterialBarsModel", name := "done", desc := "(IIIII)I" } : Jvm.MethodName)) ∈ T0 := T0_in (List.mem_append_right _ (List.mem_append_right _ (List.mem_append_right _ (List.mem_append_right _ (List.mem_of_getElem? (i := 31) (by decide +kernel)))))) rfl
theorem mw_752 : (Jvm.Cond.selects "MaterialBarsModel" ({ cls := "MaterialBarsModel", name := "done", desc := "(IIIII)I" } : Jvm.MethodName) ({ cls := "MaterialBarsModel", name := "done", desc := "(IIIII)I" } : Jvm.MethodName)) ∈ T0 := T0_in (List.mem_append_right _ (List.mem_append_right _ (List.mem_append_right _ (List.mem_append_right _ (List.mem_of_getElem? (i := 32) (by decide +kernel)))))) rfl
theorem mw_753 : (Jvm.Cond.code ({ cls := "MaterialBarsModel", name := "done", desc := "(IIIII)I" } : Jvm.MethodName) prog_7_method_26_code (12 : Nat) (Option.some Jvm.ClassFile.FieldType.int)) ∈ T0 := T0_in (List.mem_append_right _ (List.mem_append_right _ (List.mem_append_right _ (List.mem_append_right _ (List.mem_of_getElem? (i := 33) rfl))))) rfl
theorem mw_754 : (Jvm.Cond.methodLink "MaterialBarsLaw" (120 : Nat) ({ cls := "MaterialBarsModel", name := "row", desc := "(III)I" } : Jvm.MethodName)) ∈ T0 := T0_in (List.mem_append_right _ (List.mem_append_right _ (List.mem_append_right _ (List.mem_append_right _ (List.mem_of_getElem? (i := 34) (by decide +kernel)))))) rfl
theorem mw_755 : (Jvm.Cond.instanceMethod ({ cls := "MaterialBarsModel", name := "row", desc := "(III)I" } : Jvm.MethodName)) ∈ T0 := T0_in (List.mem_append_right _ (List.mem_append_right _ (List.mem_append_right _ (List.mem_append_right _ (List.mem_of_getElem? (i := 35) (by decide +kernel)))))) rfl
theorem mw_756 : (Jvm.Cond.selects "MaterialBarsModel" ({ cls := "MaterialBarsModel", name := "row", desc := "(III)I" } : Jvm.MethodName) ({ cls := "MaterialBarsModel", name := "row", desc := "(III)I" } : Jvm.MethodName)) ∈ T0 := T0_in (List.mem_append_right _ (List.mem_append_right _ (List.mem_append_right _ (List.mem_append_right _ (List.mem_of_getElem? (i := 36) (by decide +kernel)))))) rfl
theorem mw_757 : (Jvm.Cond.code ({ cls := "MaterialBarsModel", name := "row", desc := "(III)I" } : Jvm.MethodName) prog_7_method_27_code (6 : Nat) (Option.some Jvm.ClassFile.FieldType.int)) ∈ T0 := T0_in (List.mem_append_right _ (List.mem_append_right _ (List.mem_append_right _ (List.mem_append_right _ (List.mem_of_getElem? (i := 37) rfl))))) rfl
theorem mw_758 : (Jvm.Cond.methodLink "MaterialBarsLaw" (123 : Nat) ({ cls := "MaterialBarsModel", name := "stock", desc := "(II)I" } : Jvm.MethodName)) ∈ T0 := T0_in (List.mem_append_right _ (List.mem_append_right _ (List.mem_append_right _ (List.mem_append_right _ (List.mem_of_getElem? (i := 38) (by decide +kernel)))))) rfl
theorem mw_759 : (Jvm.Cond.instanceMethod ({ cls := "MaterialBarsModel", name := "stock", desc := "(II)I" } : Jvm.MethodName)) ∈ T0 := T0_in (List.mem_append_right _ (List.mem_append_right _ (List.mem_append_right _ (List.mem_append_right _ (List.mem_of_getElem? (i := 39) (by decide +kernel)))))) rfl
theorem mw_760 : (Jvm.Cond.selects "MaterialBarsModel" ({ cls := "MaterialBarsModel", name := "stock", desc := "(II)I" } : Jvm.MethodName) ({ cls := "MaterialBarsModel", name := "stock", desc := "(II)I" } : Jvm.MethodName)) ∈ T0 := T0_in (List.mem_append_right _ (List.mem_append_right _ (List.mem_append_right _ (List.mem_append_right _ (List.mem_of_getElem? (i := 40) (by decide +kernel)))))) rfl
theorem mw_761 : (Jvm.Cond.code ({ cls := "MaterialBarsModel", name := "stock", desc := "(II)I" } : Jvm.MethodName) prog_7_method_28_code (4 : Nat) (Option.some Jvm.ClassFile.FieldType.int)) ∈ T0 := T0_in (List.mem_append_right _ (List.mem_append_right _ (List.mem_append_right _ (List.mem_append_right _ (List.mem_of_getElem? (i := 41) rfl))))) rfl
theorem mw_762 : (Jvm.Cond.constant "MaterialBarsModel" (146 : Nat) (-1000000 : Int32)) ∈ T0 := T0_in (List.mem_append_right _ (List.mem_append_right _ (List.mem_append_right _ (List.mem_append_right _ (List.mem_of_getElem? (i := 42) (by decide +kernel)))))) rfl
theorem mw_763 : (Jvm.Cond.methodLink "MaterialBarsLaw" (126 : Nat) ({ cls := "MaterialBarsModel", name := "about", desc := "(II)J" } : Jvm.MethodName)) ∈ T0 := T0_in (List.mem_append_right _ (List.mem_append_right _ (List.mem_append_right _ (List.mem_append_right _ (List.mem_of_getElem? (i := 43) (by decide +kernel)))))) rfl
theorem mw_764 : (Jvm.Cond.instanceMethod ({ cls := "MaterialBarsModel", name := "about", desc := "(II)J" } : Jvm.MethodName)) ∈ T0 := T0_in (List.mem_append_right _ (List.mem_append_right _ (List.mem_append_right _ (List.mem_append_right _ (List.mem_of_getElem? (i := 44) (by decide +kernel)))))) rfl
theorem mw_765 : (Jvm.Cond.selects "MaterialBarsModel" ({ cls := "MaterialBarsModel", name := "about", desc := "(II)J" } : Jvm.MethodName) ({ cls := "MaterialBarsModel", name := "about", desc := "(II)J" } : Jvm.MethodName)) ∈ T0 := T0_in (List.mem_append_right _ (List.mem_append_right _ (List.mem_append_right _ (List.mem_append_right _ (List.mem_of_getElem? (i := 45) (by decide +kernel)))))) rfl
theorem mw_766 : (Jvm.Cond.code ({ cls := "MaterialBarsModel", name := "about", desc := "(II)J" } : Jvm.MethodName) prog_7_method_29_code (3 : Nat) (Option.some Jvm.ClassFile.FieldType.long)) ∈ T0 := T0_in (List.mem_append_right _ (List.mem_append_right _ (List.mem_append_right _ (List.mem_append_right _ (List.mem_of_getElem? (i := 46) rfl))))) rfl
theorem mw_767 : (Jvm.Cond.methodLink "MaterialBarsLaw" (129 : Nat) ({ cls := "MaterialBarsModel", name := "apart", desc := "(II)Z" } : Jvm.MethodName)) ∈ T0 := T0_in (List.mem_append_right _ (List.mem_append_right _ (List.mem_append_right _ (List.mem_append_right _ (List.mem_of_getElem? (i := 47) (by decide +kernel)))))) rfl
theorem mw_768 : (Jvm.Cond.instanceMethod ({ cls := "MaterialBarsModel", name := "apart", desc := "(II)Z" } : Jvm.MethodName)) ∈ T0 := T0_in (List.mem_append_right _ (List.mem_append_right _ (List.mem_append_right _ (List.mem_append_right _ (List.mem_of_getElem? (i := 48) (by decide +kernel)))))) rfl
theorem mw_769 : (Jvm.Cond.selects "MaterialBarsModel" ({ cls := "MaterialBarsModel", name := "apart", desc := "(II)Z" } : Jvm.MethodName) ({ cls := "MaterialBarsModel", name := "apart", desc := "(II)Z" } : Jvm.MethodName)) ∈ T0 := T0_in (List.mem_append_right _ (List.mem_append_right _ (List.mem_append_right _ (List.mem_append_right _ (List.mem_of_getElem? (i := 49) (by decide +kernel)))))) rfl
theorem mw_770 : (Jvm.Cond.code ({ cls := "MaterialBarsModel", name := "apart", desc := "(II)Z" } : Jvm.MethodName) prog_7_method_30_code (3 : Nat) (Option.some Jvm.ClassFile.FieldType.boolean)) ∈ T0 := T0_in (List.mem_append_right _ (List.mem_append_right _ (List.mem_append_right _ (List.mem_append_right _ (List.mem_of_getElem? (i := 50) rfl))))) rfl
theorem mw_771 : (Jvm.Cond.methodLink "MaterialBarsLaw" (132 : Nat) ({ cls := "MaterialBarsModel", name := "put", desc := "(II)I" } : Jvm.MethodName)) ∈ T0 := T0_in (List.mem_append_right _ (List.mem_append_right _ (List.mem_append_right _ (List.mem_append_right _ (List.mem_of_getElem? (i := 51) (by decide +kernel)))))) rfl
theorem mw_772 : (Jvm.Cond.instanceMethod ({ cls := "MaterialBarsModel", name := "put", desc := "(II)I" } : Jvm.MethodName)) ∈ T0 := T0_in (List.mem_append_right _ (List.mem_append_right _ (List.mem_append_right _ (List.mem_append_right _ (List.mem_of_getElem? (i := 52) (by decide +kernel)))))) rfl
theorem mw_773 : (Jvm.Cond.selects "MaterialBarsModel" ({ cls := "MaterialBarsModel", name := "put", desc := "(II)I" } : Jvm.MethodName) ({ cls := "MaterialBarsModel", name := "put", desc := "(II)I" } : Jvm.MethodName)) ∈ T0 := T0_in (List.mem_append_right _ (List.mem_append_right _ (List.mem_append_right _ (List.mem_append_right _ (List.mem_of_getElem? (i := 53) (by decide +kernel)))))) rfl
theorem mw_774 : (Jvm.Cond.code ({ cls := "MaterialBarsModel", name := "put", desc := "(II)I" } : Jvm.MethodName) prog_7_method_31_code (4 : Nat) (Option.some Jvm.ClassFile.FieldType.int)) ∈ T0 := T0_in (List.mem_append_right _ (List.mem_append_right _ (List.mem_append_right _ (List.mem_append_right _ (List.mem_of_getElem? (i := 54) rfl))))) rfl
theorem mw_775 : (Jvm.Cond.methodLink "MaterialBarsLaw" (135 : Nat) ({ cls := "MaterialBarsModel", name := "plan", desc := "(II)I" } : Jvm.MethodName)) ∈ T0 := T0_in (List.mem_append_right _ (List.mem_append_right _ (List.mem_append_right _ (List.mem_append_right _ (List.mem_of_getElem? (i := 55) (by decide +kernel)))))) rfl
theorem mw_776 : (Jvm.Cond.instanceMethod ({ cls := "MaterialBarsModel", name := "plan", desc := "(II)I" } : Jvm.MethodName)) ∈ T0 := T0_in (List.mem_append_right _ (List.mem_append_right _ (List.mem_append_right _ (List.mem_append_right _ (List.mem_of_getElem? (i := 56) (by decide +kernel)))))) rfl
theorem mw_777 : (Jvm.Cond.selects "MaterialBarsModel" ({ cls := "MaterialBarsModel", name := "plan", desc := "(II)I" } : Jvm.MethodName) ({ cls := "MaterialBarsModel", name := "plan", desc := "(II)I" } : Jvm.MethodName)) ∈ T0 := T0_in (List.mem_append_right _ (List.mem_append_right _ (List.mem_append_right _ (List.mem_append_right _ (List.mem_of_getElem? (i := 57) (by decide +kernel)))))) rfl
theorem mw_778 : (Jvm.Cond.code ({ cls := "MaterialBarsModel", name := "plan", desc := "(II)I" } : Jvm.MethodName) prog_7_method_36_code (9 : Nat) (Option.some Jvm.ClassFile.FieldType.int)) ∈ T0 := T0_in (List.mem_append_right _ (List.mem_append_right _ (List.mem_append_right _ (List.mem_append_right _ (List.mem_of_getElem? (i := 58) rfl))))) rfl
theorem mw_779 : (Jvm.Cond.methodLink "MaterialBarsModel" (153 : Nat) ({ cls := "MaterialBarsModel", name := "closed", desc := "(I)I" } : Jvm.MethodName)) ∈ T0 := T0_in (List.mem_append_right _ (List.mem_append_right _ (List.mem_append_right _ (List.mem_append_right _ (List.mem_of_getElem? (i := 59) (by decide +kernel)))))) rfl
theorem mw_781 : (Jvm.Cond.instanceMethod ({ cls := "MaterialBarsModel", name := "closed", desc := "(I)I" } : Jvm.MethodName)) ∈ T0 := T0_in (List.mem_append_right _ (List.mem_append_right _ (List.mem_append_right _ (List.mem_append_right _ (List.mem_of_getElem? (i := 61) (by decide +kernel)))))) rfl
theorem mw_782 : (Jvm.Cond.code ({ cls := "MaterialBarsModel", name := "closed", desc := "(I)I" } : Jvm.MethodName) prog_7_method_34_code (6 : Nat) (Option.some Jvm.ClassFile.FieldType.int)) ∈ T0 := T0_in (List.mem_append_right _ (List.mem_append_right _ (List.mem_append_right _ (List.mem_append_right _ (List.mem_of_getElem? (i := 62) rfl))))) rfl
theorem mw_783 : (Jvm.Cond.methodLink "MaterialBarsModel" (156 : Nat) ({ cls := "MaterialBarsModel", name := "orders", desc := "(II)Z" } : Jvm.MethodName)) ∈ T0 := T0_in (List.mem_append_right _ (List.mem_append_right _ (List.mem_append_right _ (List.mem_append_right _ (List.mem_of_getElem? (i := 63) (by decide +kernel)))))) rfl
theorem mw_785 : (Jvm.Cond.instanceMethod ({ cls := "MaterialBarsModel", name := "orders", desc := "(II)Z" } : Jvm.MethodName)) ∈ T0 := T0_in (List.mem_append_right _ (List.mem_append_right _ (List.mem_append_right _ (List.mem_append_right _ (List.mem_of_getElem? (i := 65) (by decide +kernel)))))) rfl
theorem mw_786 : (Jvm.Cond.code ({ cls := "MaterialBarsModel", name := "orders", desc := "(II)Z" } : Jvm.MethodName) prog_7_method_35_code (6 : Nat) (Option.some Jvm.ClassFile.FieldType.boolean)) ∈ T0 := T0_in (List.mem_append_right _ (List.mem_append_right _ (List.mem_append_right _ (List.mem_append_right _ (List.mem_of_getElem? (i := 66) rfl))))) rfl
theorem mw_787 : (Jvm.Cond.methodLink "MaterialBarsModel" (147 : Nat) ({ cls := "MaterialBarsModel", name := "methodsOf", desc := "(II)I" } : Jvm.MethodName)) ∈ T0 := T0_in (List.mem_append_right _ (List.mem_append_right _ (List.mem_append_right _ (List.mem_append_right _ (List.mem_of_getElem? (i := 67) (by decide +kernel)))))) rfl
theorem mw_789 : (Jvm.Cond.instanceMethod ({ cls := "MaterialBarsModel", name := "methodsOf", desc := "(II)I" } : Jvm.MethodName)) ∈ T0 := T0_in (List.mem_append_right _ (List.mem_append_right _ (List.mem_append_right _ (List.mem_append_right _ (List.mem_of_getElem? (i := 69) (by decide +kernel)))))) rfl
theorem mw_790 : (Jvm.Cond.code ({ cls := "MaterialBarsModel", name := "methodsOf", desc := "(II)I" } : Jvm.MethodName) prog_7_method_33_code (5 : Nat) (Option.some Jvm.ClassFile.FieldType.int)) ∈ T0 := T0_in (List.mem_append_right _ (List.mem_append_right _ (List.mem_append_right _ (List.mem_append_right _ (List.mem_of_getElem? (i := 70) rfl))))) rfl
theorem mw_791 : (Jvm.Cond.methodLink "MaterialBarsModel" (150 : Nat) ({ cls := "MaterialBarsModel", name := "mayCome", desc := "(III)Z" } : Jvm.MethodName)) ∈ T0 := T0_in (List.mem_append_right _ (List.mem_append_right _ (List.mem_append_right _ (List.mem_append_right _ (List.mem_of_getElem? (i := 71) (by decide +kernel)))))) rfl
theorem mw_793 : (Jvm.Cond.instanceMethod ({ cls := "MaterialBarsModel", name := "mayCome", desc := "(III)Z" } : Jvm.MethodName)) ∈ T0 := T0_in (List.mem_append_right _ (List.mem_append_right _ (List.mem_append_right _ (List.mem_append_right _ (List.mem_of_getElem? (i := 73) (by decide +kernel)))))) rfl
theorem mw_794 : (Jvm.Cond.code ({ cls := "MaterialBarsModel", name := "mayCome", desc := "(III)Z" } : Jvm.MethodName) prog_7_method_32_code (7 : Nat) (Option.some Jvm.ClassFile.FieldType.boolean)) ∈ T0 := T0_in (List.mem_append_right _ (List.mem_append_right _ (List.mem_append_right _ (List.mem_append_right _ (List.mem_of_getElem? (i := 74) rfl))))) rfl
theorem mw_795 : (Jvm.Cond.methodLink "MaterialBarsLaw" (138 : Nat) ({ cls := "MaterialBarsModel", name := "step", desc := "(I)I" } : Jvm.MethodName)) ∈ T0 := T0_in (List.mem_append_right _ (List.mem_append_right _ (List.mem_append_right _ (List.mem_append_right _ (List.mem_of_getElem? (i := 75) (by decide +kernel)))))) rfl
theorem mw_796 : (Jvm.Cond.instanceMethod ({ cls := "MaterialBarsModel", name := "step", desc := "(I)I" } : Jvm.MethodName)) ∈ T0 := T0_in (List.mem_append_right _ (List.mem_append_right _ (List.mem_append_right _ (List.mem_append_right _ (List.mem_of_getElem? (i := 76) (by decide +kernel)))))) rfl
theorem mw_797 : (Jvm.Cond.selects "MaterialBarsModel" ({ cls := "MaterialBarsModel", name := "step", desc := "(I)I" } : Jvm.MethodName) ({ cls := "MaterialBarsModel", name := "step", desc := "(I)I" } : Jvm.MethodName)) ∈ T0 := T0_in (List.mem_append_right _ (List.mem_append_right _ (List.mem_append_right _ (List.mem_append_right _ (List.mem_of_getElem? (i := 77) (by decide +kernel)))))) rfl
theorem mw_798 : (Jvm.Cond.code ({ cls := "MaterialBarsModel", name := "step", desc := "(I)I" } : Jvm.MethodName) prog_7_method_37_code (2 : Nat) (Option.some Jvm.ClassFile.FieldType.int)) ∈ T0 := T0_in (List.mem_append_right _ (List.mem_append_right _ (List.mem_append_right _ (List.mem_append_right _ (List.mem_of_getElem? (i := 78) rfl))))) rfl
theorem mw_799 : (Jvm.Cond.methodLink "MaterialBarsLaw" (141 : Nat) ({ cls := "MaterialBarsModel", name := "count", desc := "(I)I" } : Jvm.MethodName)) ∈ T0 := T0_in (List.mem_append_right _ (List.mem_append_right _ (List.mem_append_right _ (List.mem_append_right _ (List.mem_of_getElem? (i := 79) (by decide +kernel)))))) rfl
theorem mw_800 : (Jvm.Cond.instanceMethod ({ cls := "MaterialBarsModel", name := "count", desc := "(I)I" } : Jvm.MethodName)) ∈ T0 := T0_in (List.mem_append_right _ (List.mem_append_right _ (List.mem_append_right _ (List.mem_append_right _ (List.mem_of_getElem? (i := 80) (by decide +kernel)))))) rfl
theorem mw_801 : (Jvm.Cond.selects "MaterialBarsModel" ({ cls := "MaterialBarsModel", name := "count", desc := "(I)I" } : Jvm.MethodName) ({ cls := "MaterialBarsModel", name := "count", desc := "(I)I" } : Jvm.MethodName)) ∈ T0 := T0_in (List.mem_append_right _ (List.mem_append_right _ (List.mem_append_right _ (List.mem_append_right _ (List.mem_of_getElem? (i := 81) (by decide +kernel)))))) rfl
theorem mw_802 : (Jvm.Cond.code ({ cls := "MaterialBarsModel", name := "count", desc := "(I)I" } : Jvm.MethodName) prog_7_method_38_code (4 : Nat) (Option.some Jvm.ClassFile.FieldType.int)) ∈ T0 := T0_in (List.mem_append_right _ (List.mem_append_right _ (List.mem_append_right _ (List.mem_append_right _ (List.mem_of_getElem? (i := 82) rfl))))) rfl
theorem mw_803 : (Jvm.Cond.sameMethod "java/lang/Throwable" "java/lang/Throwable" "fillInStackTrace" "(I)Ljava/lang/Throwable;") ∈ T0 := T0_in (List.mem_append_right _ (List.mem_append_right _ (List.mem_append_right _ (List.mem_append_right _ (List.mem_of_getElem? (i := 83) (by decide +kernel)))))) rfl
theorem ms_0 : Cond.selects "java/lang/Throwable" ⟨"java/lang/Throwable", "fillInStackTrace", "(I)Ljava/lang/Throwable;"⟩ ⟨"java/lang/Throwable", "fillInStackTrace", "(I)Ljava/lang/Throwable;"⟩ ∈ T0 := T0_in (List.mem_append_left _ (by decide +kernel)) rfl
theorem ms_1 : Cond.selects "MaterialBars$Pad" ⟨"MaterialBars$Pad", "take", "(I)Z"⟩ ⟨"MaterialBars$Pad", "take", "(I)Z"⟩ ∈ T0 := T0_in (List.mem_append_left _ (by decide +kernel)) rfl
theorem ms_2 : Cond.selects "MaterialBars$Pad" ⟨"MaterialBars$Pad", "signHere", "()I"⟩ ⟨"MaterialBars$Pad", "signHere", "()I"⟩ ∈ T0 := T0_in (List.mem_append_left _ (by decide +kernel)) rfl
theorem ms_3 : Cond.selects "MaterialBars$Pad" ⟨"MaterialBars$Pad", "readClause", "(LMaterialBars$Method;)Z"⟩ ⟨"MaterialBars$Pad", "readClause", "(LMaterialBars$Method;)Z"⟩ ∈ T0 := T0_in (List.mem_append_left _ (by decide +kernel)) rfl
theorem ms_4 : Cond.selects "MaterialBars$Pad" ⟨"MaterialBars$Pad", "readUse", "(LMaterialBars$Method;)Z"⟩ ⟨"MaterialBars$Pad", "readUse", "(LMaterialBars$Method;)Z"⟩ ∈ T0 := T0_in (List.mem_append_left _ (by decide +kernel)) rfl
theorem ms_5 : Cond.selects "MaterialBars$Pad" ⟨"MaterialBars$Pad", "readNumber", "(II)I"⟩ ⟨"MaterialBars$Pad", "readNumber", "(II)I"⟩ ∈ T0 := T0_in (List.mem_append_left _ (by decide +kernel)) rfl
theorem ms_6 : Cond.selects "MaterialBars$Pad" ⟨"MaterialBars$Pad", "readBar", "(LMaterialBars$Method;)Z"⟩ ⟨"MaterialBars$Pad", "readBar", "(LMaterialBars$Method;)Z"⟩ ∈ T0 := T0_in (List.mem_append_left _ (by decide +kernel)) rfl
theorem ms_7 : Cond.selects "MaterialBars$Pad" ⟨"MaterialBars$Pad", "readNotBehind", "(LMaterialBars$Method;)Z"⟩ ⟨"MaterialBars$Pad", "readNotBehind", "(LMaterialBars$Method;)Z"⟩ ∈ T0 := T0_in (List.mem_append_left _ (by decide +kernel)) rfl
theorem ms_8 : Cond.selects "MaterialBars$Pad" ⟨"MaterialBars$Pad", "readAfter", "(LMaterialBars$Method;)Z"⟩ ⟨"MaterialBars$Pad", "readAfter", "(LMaterialBars$Method;)Z"⟩ ∈ T0 := T0_in (List.mem_append_left _ (by decide +kernel)) rfl
theorem ms_9 : Cond.selects "MaterialBars" ⟨"MaterialBars", "methodAt", "(I)LMaterialBars$Method;"⟩ ⟨"MaterialBars", "methodAt", "(I)LMaterialBars$Method;"⟩ ∈ T0 := T0_in (List.mem_append_left _ (by decide +kernel)) rfl
theorem ms_10 : Cond.selects "MaterialBars" ⟨"MaterialBars", "pieceAt", "(I)LMaterialBars$Piece;"⟩ ⟨"MaterialBars", "pieceAt", "(I)LMaterialBars$Piece;"⟩ ∈ T0 := T0_in (List.mem_append_left _ (by decide +kernel)) rfl
theorem ms_11 : Cond.selects "MaterialBars" ⟨"MaterialBars", "reasonAgainst", "(LMaterialBars$Piece;LMaterialBars$Method;II)I"⟩ ⟨"MaterialBars", "reasonAgainst", "(LMaterialBars$Piece;LMaterialBars$Method;II)I"⟩ ∈ T0 := T0_in (List.mem_append_left _ (by decide +kernel)) rfl
theorem ms_12 : Cond.selects "MaterialBars" ⟨"MaterialBars", "lowestLacking", "(LMaterialBars$Method;)I"⟩ ⟨"MaterialBars", "lowestLacking", "(LMaterialBars$Method;)I"⟩ ∈ T0 := T0_in (List.mem_append_left _ (by decide +kernel)) rfl
theorem ms_13 : Cond.selects "MaterialBars" ⟨"MaterialBars", "takeWhatGoes", "(LMaterialBars$Method;)V"⟩ ⟨"MaterialBars", "takeWhatGoes", "(LMaterialBars$Method;)V"⟩ ∈ T0 := T0_in (List.mem_append_left _ (by decide +kernel)) rfl
theorem ms_14 : Cond.selects "MaterialBars" ⟨"MaterialBars", "goodAt", "(I)LMaterialBars$Good;"⟩ ⟨"MaterialBars", "goodAt", "(I)LMaterialBars$Good;"⟩ ∈ T0 := T0_in (List.mem_append_left _ (by decide +kernel)) rfl
theorem ms_15 : Cond.selects "MaterialBars" ⟨"MaterialBars", "goodsOn", "(I)I"⟩ ⟨"MaterialBars", "goodsOn", "(I)I"⟩ ∈ T0 := T0_in (List.mem_append_left _ (by decide +kernel)) rfl
theorem ms_16 : Cond.selects "MaterialBars" ⟨"MaterialBars", "withAllAhead", "(I)I"⟩ ⟨"MaterialBars", "withAllAhead", "(I)I"⟩ ∈ T0 := T0_in (List.mem_append_left _ (by decide +kernel)) rfl
theorem ms_17 : Cond.selects "MaterialBars" ⟨"MaterialBars", "eachMayBeDone", "(LMaterialBars$Piece;I)Z"⟩ ⟨"MaterialBars", "eachMayBeDone", "(LMaterialBars$Piece;I)Z"⟩ ∈ T0 := T0_in (List.mem_append_left _ (by decide +kernel)) rfl
theorem ms_18 : Cond.selects "MaterialBars" ⟨"MaterialBars", "mayBeDone", "(LMaterialBars$Piece;I)Z"⟩ ⟨"MaterialBars", "mayBeDone", "(LMaterialBars$Piece;I)Z"⟩ ∈ T0 := T0_in (List.mem_append_left _ (by decide +kernel)) rfl
theorem ms_19 : Cond.selects "MaterialBars" ⟨"MaterialBars", "putInOrder", "(II)Z"⟩ ⟨"MaterialBars", "putInOrder", "(II)Z"⟩ ∈ T0 := T0_in (List.mem_append_left _ (by decide +kernel)) rfl
theorem ms_20 : Cond.selects "MaterialBars" ⟨"MaterialBars", "lowestThatMayComeNext", "(I)I"⟩ ⟨"MaterialBars", "lowestThatMayComeNext", "(I)I"⟩ ∈ T0 := T0_in (List.mem_append_left _ (by decide +kernel)) rfl
theorem ms_21 : Cond.selects "MaterialBars" ⟨"MaterialBars", "hasToWait", "(II)Z"⟩ ⟨"MaterialBars", "hasToWait", "(II)Z"⟩ ∈ T0 := T0_in (List.mem_append_left _ (by decide +kernel)) rfl
theorem ms_22 : Cond.selects "MaterialBars" ⟨"MaterialBars", "rowsOfAll", "()I"⟩ ⟨"MaterialBars", "rowsOfAll", "()I"⟩ ∈ T0 := T0_in (List.mem_append_left _ (by decide +kernel)) rfl
theorem ms_23 : Cond.selects "MaterialBarsModel" ⟨"MaterialBarsModel", "goes", "(ZZZ)Z"⟩ ⟨"MaterialBarsModel", "goes", "(ZZZ)Z"⟩ ∈ T0 := T0_in (List.mem_append_left _ (by decide +kernel)) rfl
theorem ms_24 : Cond.selects "MaterialBarsModel" ⟨"MaterialBarsModel", "fault", "()I"⟩ ⟨"MaterialBarsModel", "fault", "()I"⟩ ∈ T0 := T0_in (List.mem_append_left _ (by decide +kernel)) rfl
theorem ms_25 : Cond.selects "MaterialBarsModel" ⟨"MaterialBarsModel", "isMethod", "(I)Z"⟩ ⟨"MaterialBarsModel", "isMethod", "(I)Z"⟩ ∈ T0 := T0_in (List.mem_append_left _ (by decide +kernel)) rfl
theorem ms_26 : Cond.selects "MaterialBarsModel" ⟨"MaterialBarsModel", "used", "(II)I"⟩ ⟨"MaterialBarsModel", "used", "(II)I"⟩ ∈ T0 := T0_in (List.mem_append_left _ (by decide +kernel)) rfl
theorem ms_27 : Cond.selects "MaterialBarsModel" ⟨"MaterialBarsModel", "isObject", "(I)Z"⟩ ⟨"MaterialBarsModel", "isObject", "(I)Z"⟩ ∈ T0 := T0_in (List.mem_append_left _ (by decide +kernel)) rfl
theorem ms_28 : Cond.selects "MaterialBarsModel" ⟨"MaterialBarsModel", "why", "(IIII)I"⟩ ⟨"MaterialBarsModel", "why", "(IIII)I"⟩ ∈ T0 := T0_in (List.mem_append_left _ (by decide +kernel)) rfl
theorem ms_29 : Cond.selects "MaterialBarsModel" ⟨"MaterialBarsModel", "barred", "(II)I"⟩ ⟨"MaterialBarsModel", "barred", "(II)I"⟩ ∈ T0 := T0_in (List.mem_append_left _ (by decide +kernel)) rfl
theorem ms_30 : Cond.selects "MaterialBarsModel" ⟨"MaterialBarsModel", "has", "(III)Z"⟩ ⟨"MaterialBarsModel", "has", "(III)Z"⟩ ∈ T0 := T0_in (List.mem_append_left _ (by decide +kernel)) rfl
theorem ms_31 : Cond.selects "MaterialBarsModel" ⟨"MaterialBarsModel", "latest", "(II)I"⟩ ⟨"MaterialBarsModel", "latest", "(II)I"⟩ ∈ T0 := T0_in (List.mem_append_left _ (by decide +kernel)) rfl
theorem ms_32 : Cond.selects "MaterialBarsModel" ⟨"MaterialBarsModel", "waits", "(IIII)Z"⟩ ⟨"MaterialBarsModel", "waits", "(IIII)Z"⟩ ∈ T0 := T0_in (List.mem_append_left _ (by decide +kernel)) rfl
theorem ms_33 : Cond.selects "MaterialBarsModel" ⟨"MaterialBarsModel", "hasPart", "(II)Z"⟩ ⟨"MaterialBarsModel", "hasPart", "(II)Z"⟩ ∈ T0 := T0_in (List.mem_append_left _ (by decide +kernel)) rfl
theorem ms_34 : Cond.selects "MaterialBarsModel" ⟨"MaterialBarsModel", "closed", "(I)I"⟩ ⟨"MaterialBarsModel", "closed", "(I)I"⟩ ∈ T0 := T0_in (List.mem_append_left _ (by decide +kernel)) rfl
theorem ms_35 : Cond.selects "MaterialBarsModel" ⟨"MaterialBarsModel", "orders", "(II)Z"⟩ ⟨"MaterialBarsModel", "orders", "(II)Z"⟩ ∈ T0 := T0_in (List.mem_append_left _ (by decide +kernel)) rfl
theorem ms_36 : Cond.selects "MaterialBarsModel" ⟨"MaterialBarsModel", "methodsOf", "(II)I"⟩ ⟨"MaterialBarsModel", "methodsOf", "(II)I"⟩ ∈ T0 := T0_in (List.mem_append_left _ (by decide +kernel)) rfl
theorem ms_37 : Cond.selects "MaterialBarsModel" ⟨"MaterialBarsModel", "mayCome", "(III)Z"⟩ ⟨"MaterialBarsModel", "mayCome", "(III)Z"⟩ ∈ T0 := T0_in (List.mem_append_left _ (by decide +kernel)) rfl
end
section
/-! Worlds by places: cell i of n lies at ad i and holds ct i. -/
def wL (n : Nat) (ad : Nat → Nat) (ct : Nat → va_E) : va_W := (List.range n).map (fun i => (ad i, ct i))
theorem wL_len {n : Nat} {ad : Nat → Nat} {ct : Nat → va_E} : (wL n ad ct).length = n := by
  simp [wL]
theorem wL_get {n : Nat} {ad : Nat → Nat} {ct : Nat → va_E} {i : Nat} (h : i < n) : (wL n ad ct)[i]? = some (ad i, ct i) := by
  unfold wL
  rw [List.getElem?_map, List.getElem?_range h]
  rfl
theorem wL_at {n : Nat} {ad : Nat → Nat} {ct : Nat → va_E} {i : Nat} {e : va_E} (h : i < n) (he : ct i = e) : (wL n ad ct)[i]? = some (ad i, e) := by
  rw [wL_get h, he]
theorem wL_out {n : Nat} {ad : Nat → Nat} {ct : Nat → va_E} {i : Nat} (h : n ≤ i) : (wL n ad ct)[i]? = none := by
  rw [List.getElem?_eq_none_iff, wL_len]; exact h
theorem wL_of {n : Nat} {ad : Nat → Nat} {ct : Nat → va_E} {i : Nat} {q : Nat × va_E} (h : (wL n ad ct)[i]? = some q) : i < n ∧ q = (ad i, ct i) := by
  rcases Nat.lt_or_ge i n with h1 | h1
  · rw [wL_get h1] at h; exact ⟨h1, (Option.some.inj h).symm⟩
  · rw [wL_out h1] at h; cases h
theorem wL_congr {n : Nat} {ad : Nat → Nat} {ct ct' : Nat → va_E} (h : ∀ i, i < n → ct i = ct' i) : wL n ad ct = wL n ad ct' := by
  unfold wL
  exact List.map_congr_left (fun i hi => by rw [h i (List.mem_range.mp hi)])
theorem wL_set {n : Nat} {ad : Nat → Nat} {ct ct' : Nat → va_E} {i : Nat} {e : va_E} (hi : i < n) (h1 : ct' i = e) (h2 : ∀ j, j < n → j ≠ i → ct' j = ct j) : (wL n ad ct).set i (ad i, e) = wL n ad ct' := by
  apply List.ext_getElem?
  intro k
  rw [List.getElem?_set]
  rcases Nat.lt_or_ge k n with hk | hk
  · by_cases hki : i = k
    · subst hki
      rw [if_pos rfl, wL_len, if_pos hk, wL_get hk, h1]
    · rw [if_neg hki, wL_get hk, wL_get hk, h2 k hk (fun h => hki h.symm)]
  · have hki : ¬ i = k := by omega
    rw [if_neg hki, wL_out hk, wL_out hk]
theorem wL_push {n : Nat} {ad : Nat → Nat} {ct : Nat → va_E} {q : Nat} {e : va_E} : wL n ad ct ++ [(q, e)] = wL (n + 1) (va_up ad n q) (va_up ct n e) := by
  unfold wL
  rw [List.range_succ, List.map_append]
  congr 1
  · exact List.map_congr_left (fun i hi => by
      have h : i ≠ n := Nat.ne_of_lt (List.mem_range.mp hi)
      rw [va_up_ne _ _ h, va_up_ne _ _ h])
  · simp [va_up_self]
/-- what a method over the world by places may change: its cells, and those that come from sz on -/
def aL (n : Nat) (ad : Nat → Nat) (sz : Nat) : Nat → Prop := fun q => (∃ i, i < n ∧ q = ad i) ∨ sz ≤ q
theorem aL_le {n : Nat} {ad : Nat → Nat} {a b : Nat} (h : a ≤ b) : ∀ q, aL n ad b q → aL n ad a q := fun q hq => by
  rcases hq with h1 | h1
  · exact Or.inl h1
  · exact Or.inr (Nat.le_trans h h1)
theorem aL_D {n : Nat} {ad : Nat → Nat} {ct : Nat → va_E} {sz : Nat} {A : Nat → Prop} (h : va_D A (wL n ad ct)) : va_D (aL n ad sz) (wL n ad ct) :=
  ⟨h.1, fun k q hk => by obtain ⟨h1, h2⟩ := wL_of hk; subst h2; exact Or.inl ⟨k, h1, rfl⟩⟩
theorem aL_D2 {n : Nat} {ad : Nat → Nat} {ct : Nat → va_E} {A B : Nat → Prop} (h : va_D A (wL n ad ct)) (hB : ∀ q, A q → B q) : va_D B (wL n ad ct) :=
  ⟨h.1, fun k q hk => hB _ (h.2 k q hk)⟩
/-! A state of a system whose objects and arrays stay: F the ints (booleans) in fields, L the longs in fields, A the ints in arrays; each by place and slot. -/
abbrev St : Type := (Nat → Nat → Int32) × (Nat → Nat → Int64) × (Nat → Nat → Int32)
def gF (σ : St) (i j : Nat) : Int32 := σ.1 i j
def gL (σ : St) (i j : Nat) : Int64 := σ.2.1 i j
def gA (σ : St) (i j : Nat) : Int32 := σ.2.2 i j
def u2 {α : Type} (f : Nat → Nat → α) (i j : Nat) (v : α) : Nat → Nat → α := fun a b => if a = i ∧ b = j then v else f a b
def sF (σ : St) (i j : Nat) (v : Int32) : St := (u2 σ.1 i j v, σ.2.1, σ.2.2)
def sL (σ : St) (i j : Nat) (v : Int64) : St := (σ.1, u2 σ.2.1 i j v, σ.2.2)
def sA (σ : St) (i j : Nat) (v : Int32) : St := (σ.1, σ.2.1, u2 σ.2.2 i j v)
theorem gF_sF (σ : St) (i j : Nat) (v : Int32) (a b : Nat) : gF (sF σ i j v) a b = if a = i ∧ b = j then v else gF σ a b := rfl
theorem gF_sL (σ : St) (i j : Nat) (v : Int64) (a b : Nat) : gF (sL σ i j v) a b = gF σ a b := rfl
theorem gF_sA (σ : St) (i j : Nat) (v : Int32) (a b : Nat) : gF (sA σ i j v) a b = gF σ a b := rfl
theorem gL_sF (σ : St) (i j : Nat) (v : Int32) (a b : Nat) : gL (sF σ i j v) a b = gL σ a b := rfl
theorem gL_sL (σ : St) (i j : Nat) (v : Int64) (a b : Nat) : gL (sL σ i j v) a b = if a = i ∧ b = j then v else gL σ a b := rfl
theorem gL_sA (σ : St) (i j : Nat) (v : Int32) (a b : Nat) : gL (sA σ i j v) a b = gL σ a b := rfl
theorem gA_sF (σ : St) (i j : Nat) (v : Int32) (a b : Nat) : gA (sF σ i j v) a b = gA σ a b := rfl
theorem gA_sL (σ : St) (i j : Nat) (v : Int64) (a b : Nat) : gA (sL σ i j v) a b = gA σ a b := rfl
theorem gA_sA (σ : St) (i j : Nat) (v : Int32) (a b : Nat) : gA (sA σ i j v) a b = if a = i ∧ b = j then v else gA σ a b := rfl
/-- place i holds the same in both -/
def same (σ τ : St) (i : Nat) : Prop := (∀ j, gF τ i j = gF σ i j) ∧ (∀ j, gL τ i j = gL σ i j) ∧ gA τ i = gA σ i
theorem same_sF {σ : St} {p j : Nat} {v : Int32} {i : Nat} (h : i ≠ p) : same σ (sF σ p j v) i :=
  ⟨fun b => by rw [gF_sF, if_neg (fun q => h q.1)], fun b => rfl, rfl⟩
theorem same_sL {σ : St} {p j : Nat} {v : Int64} {i : Nat} (h : i ≠ p) : same σ (sL σ p j v) i :=
  ⟨fun b => rfl, fun b => by rw [gL_sL, if_neg (fun q => h q.1)], rfl⟩
theorem same_sA {σ : St} {p j : Nat} {v : Int32} {i : Nat} (h : i ≠ p) : same σ (sA σ p j v) i :=
  ⟨fun b => rfl, fun b => rfl, by funext b; rw [gA_sA, if_neg (fun q => h q.1)]⟩
theorem gA_upd (σ : St) (p j : Nat) (v : Int32) : gA (sA σ p j v) p = upd (gA σ p) j v := by
  funext b
  rw [gA_sA]
  by_cases h : b = j
  · subst h; rw [if_pos ⟨rfl, rfl⟩]; exact pk_us.symm
  · rw [if_neg (fun q => h q.2)]; exact (pk_un h).symm
/-! A call on a part of the world: the rest stays. -/
theorem join_R {D : va_G} {cl : List vw_C} {A0 A1 : Nat → Prop} {w1 w1' w2 : va_W} {H H1 : Heap} (hP : va_P D cl (w2 ++ w1) H) (hD : va_D A0 (w2 ++ w1)) (hA1 : ∀ q, A1 q → (∃ (k : Nat) (e : va_E), w1[k]? = some (q, e)) ∨ H.size ≤ q) (hA0 : ∀ q, A1 q → A0 q) (hk : ∀ q : Nat, q < H.size → ¬ A1 q → H1[q]? = H[q]?) (hP1 : va_P D cl w1' H1) (hD1 : va_D A1 w1') : va_P D cl (w2 ++ w1') H1 ∧ va_D A0 (w2 ++ w1') := by
  have no : ∀ (k : Nat) (q : Nat × va_E), w2[k]? = some q → ¬ A1 q.1 := by
    intro k q hq hA
    have hlt : k < w2.length := (List.getElem?_eq_some_iff.mp hq).1
    have hq2 : (w2 ++ w1)[k]? = some q := by rw [List.getElem?_append_left hlt]; exact hq
    rcases hA1 _ hA with ⟨j, e, he⟩ | h
    · have hj : (w2 ++ w1)[w2.length + j]? = some (q.1, e) := by rw [List.getElem?_append_right (Nat.le_add_right _ _), Nat.add_sub_cancel_left]; exact he
      have := hD.1 _ _ _ _ hq2 hj rfl
      omega
    · exact absurd (hP _ _ hq2).lt (Nat.not_lt.mpr h)
  refine ⟨?_, ?_, ?_⟩
  · intro k q hq
    rcases Nat.lt_or_ge k w2.length with h | h
    · rw [List.getElem?_append_left h] at hq
      have hq2 : (w2 ++ w1)[k]? = some q := by rw [List.getElem?_append_left h]; exact hq
      exact (hP _ _ hq2).kept (hk _ (hP _ _ hq2).lt (no k q hq))
    · rw [List.getElem?_append_right h] at hq
      exact hP1 _ _ hq
  · intro i j p q hp hq e
    rcases Nat.lt_or_ge i w2.length with h | h <;> rcases Nat.lt_or_ge j w2.length with h' | h'
    · rw [List.getElem?_append_left h] at hp
      rw [List.getElem?_append_left h'] at hq
      exact hD.1 i j p q (by rw [List.getElem?_append_left h]; exact hp) (by rw [List.getElem?_append_left h']; exact hq) e
    · rw [List.getElem?_append_left h] at hp
      rw [List.getElem?_append_right h'] at hq
      exact absurd (by rw [e]; exact hD1.2 _ _ hq) (no _ _ hp)
    · rw [List.getElem?_append_right h] at hp
      rw [List.getElem?_append_left h'] at hq
      exact absurd (by rw [← e]; exact hD1.2 _ _ hp) (no _ _ hq)
    · rw [List.getElem?_append_right h] at hp
      rw [List.getElem?_append_right h'] at hq
      have := hD1.1 _ _ _ _ hp hq e
      omega
  · intro k q hq
    rcases Nat.lt_or_ge k w2.length with h | h
    · rw [List.getElem?_append_left h] at hq
      exact hD.2 k q (by rw [List.getElem?_append_left h]; exact hq)
    · rw [List.getElem?_append_right h] at hq
      exact hA0 _ (hD1.2 _ _ hq)
/-! combinators of the mirrors -/
def vb {α β : Type} (x : α) (k : α → β) : β := k x
theorem vb_eq {α β : Type} (x : α) (k : α → β) : vb x k = k x := rfl
def pb {α β γ : Type} (x : α × β) (k : α → β → γ) : γ := k x.1 x.2
theorem pb_mk {α β γ : Type} (a : α) (b : β) (k : α → β → γ) : pb (a, b) k = k a b := rfl
theorem namedQ {p : Program} {l : Launch} {e : Env} {R : Room} {s : State} {m : MethodId} {args : Array Value} {below : List Frame} {meth : Method} {c : Code} {H : Heap} {locs : List Loc} {cells slots : Nat} {Q : State → Prop} {g : JFrame} (h : ∀ Q', Q' = Q → W p l e R s m args below meth c H locs cells slots Q' g) : W p l e R s m args below meth c H locs cells slots Q g := h Q rfl
def cpA (σ : St) (a b sp dp n : Nat) : St := (σ.1, σ.2.1, fun p => if p = b then va_cpy (σ.2.2 a) (σ.2.2 b) sp dp n else σ.2.2 p)
end
