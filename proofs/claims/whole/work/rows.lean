section
/-- a private method of a class that the tables say can be made, by its rows of tables_1 -/
def lw_okq (q : MethodName × Nat) : Prop := (q.1.cls ≠ "java/lang/invoke/MethodHandle" ∧ q.1.cls ≠ "java/lang/invoke/VarHandle") ∧ Cond.instantiable q.1.cls q.2 ∈ tables_1 ∧ Cond.privateMethod q.1 ∈ tables_1 ∧ Cond.instanceMethod q.1 ∈ tables_1
theorem lw_p0 : lw_okq (⟨"java/lang/Throwable", "fillInStackTrace", "(I)Ljava/lang/Throwable;"⟩, 6) := ⟨⟨by decide +kernel, by decide +kernel⟩, List.mem_of_getElem? (i := 235) (by decide +kernel), List.mem_of_getElem? (i := 233) (by decide +kernel), List.mem_of_getElem? (i := 234) (by decide +kernel)⟩
theorem lw_p1 : lw_okq (⟨"MaterialBars$Pad", "take", "(I)Z"⟩, 3) := ⟨⟨by decide +kernel, by decide +kernel⟩, List.mem_of_getElem? (i := 25) (by decide +kernel), List.mem_of_getElem? (i := 297) (by decide +kernel), List.mem_of_getElem? (i := 298) (by decide +kernel)⟩
theorem lw_p2 : lw_okq (⟨"MaterialBars$Pad", "signHere", "()I"⟩, 3) := ⟨⟨by decide +kernel, by decide +kernel⟩, List.mem_of_getElem? (i := 25) (by decide +kernel), List.mem_of_getElem? (i := 301) (by decide +kernel), List.mem_of_getElem? (i := 302) (by decide +kernel)⟩
theorem lw_p3 : lw_okq (⟨"MaterialBars$Pad", "readClause", "(LMaterialBars$Method;)Z"⟩, 3) := ⟨⟨by decide +kernel, by decide +kernel⟩, List.mem_of_getElem? (i := 25) (by decide +kernel), List.mem_of_getElem? (i := 305) (by decide +kernel), List.mem_of_getElem? (i := 306) (by decide +kernel)⟩
theorem lw_p4 : lw_okq (⟨"MaterialBars$Pad", "readUse", "(LMaterialBars$Method;)Z"⟩, 3) := ⟨⟨by decide +kernel, by decide +kernel⟩, List.mem_of_getElem? (i := 25) (by decide +kernel), List.mem_of_getElem? (i := 309) (by decide +kernel), List.mem_of_getElem? (i := 310) (by decide +kernel)⟩
theorem lw_p5 : lw_okq (⟨"MaterialBars$Pad", "readNumber", "(II)I"⟩, 3) := ⟨⟨by decide +kernel, by decide +kernel⟩, List.mem_of_getElem? (i := 25) (by decide +kernel), List.mem_of_getElem? (i := 313) (by decide +kernel), List.mem_of_getElem? (i := 314) (by decide +kernel)⟩
theorem lw_p6 : lw_okq (⟨"MaterialBars$Pad", "readBar", "(LMaterialBars$Method;)Z"⟩, 3) := ⟨⟨by decide +kernel, by decide +kernel⟩, List.mem_of_getElem? (i := 25) (by decide +kernel), List.mem_of_getElem? (i := 320) (by decide +kernel), List.mem_of_getElem? (i := 321) (by decide +kernel)⟩
theorem lw_p7 : lw_okq (⟨"MaterialBars$Pad", "readNotBehind", "(LMaterialBars$Method;)Z"⟩, 3) := ⟨⟨by decide +kernel, by decide +kernel⟩, List.mem_of_getElem? (i := 25) (by decide +kernel), List.mem_of_getElem? (i := 327) (by decide +kernel), List.mem_of_getElem? (i := 328) (by decide +kernel)⟩
theorem lw_p8 : lw_okq (⟨"MaterialBars$Pad", "readAfter", "(LMaterialBars$Method;)Z"⟩, 3) := ⟨⟨by decide +kernel, by decide +kernel⟩, List.mem_of_getElem? (i := 25) (by decide +kernel), List.mem_of_getElem? (i := 331) (by decide +kernel), List.mem_of_getElem? (i := 332) (by decide +kernel)⟩
theorem lw_p9 : lw_okq (⟨"MaterialBars", "methodAt", "(I)LMaterialBars$Method;"⟩, 9) := ⟨⟨by decide +kernel, by decide +kernel⟩, List.mem_of_getElem? (i := 17) (by decide +kernel), List.mem_of_getElem? (i := 346) (by decide +kernel), List.mem_of_getElem? (i := 347) (by decide +kernel)⟩
theorem lw_p10 : lw_okq (⟨"MaterialBars", "pieceAt", "(I)LMaterialBars$Piece;"⟩, 9) := ⟨⟨by decide +kernel, by decide +kernel⟩, List.mem_of_getElem? (i := 17) (by decide +kernel), List.mem_of_getElem? (i := 384) (by decide +kernel), List.mem_of_getElem? (i := 385) (by decide +kernel)⟩
theorem lw_p11 : lw_okq (⟨"MaterialBars", "reasonAgainst", "(LMaterialBars$Piece;LMaterialBars$Method;II)I"⟩, 9) := ⟨⟨by decide +kernel, by decide +kernel⟩, List.mem_of_getElem? (i := 17) (by decide +kernel), List.mem_of_getElem? (i := 424) (by decide +kernel), List.mem_of_getElem? (i := 425) (by decide +kernel)⟩
theorem lw_p12 : lw_okq (⟨"MaterialBars", "lowestLacking", "(LMaterialBars$Method;)I"⟩, 9) := ⟨⟨by decide +kernel, by decide +kernel⟩, List.mem_of_getElem? (i := 17) (by decide +kernel), List.mem_of_getElem? (i := 439) (by decide +kernel), List.mem_of_getElem? (i := 440) (by decide +kernel)⟩
theorem lw_p13 : lw_okq (⟨"MaterialBars", "takeWhatGoes", "(LMaterialBars$Method;)V"⟩, 9) := ⟨⟨by decide +kernel, by decide +kernel⟩, List.mem_of_getElem? (i := 17) (by decide +kernel), List.mem_of_getElem? (i := 451) (by decide +kernel), List.mem_of_getElem? (i := 452) (by decide +kernel)⟩
theorem lw_p14 : lw_okq (⟨"MaterialBars", "goodAt", "(I)LMaterialBars$Good;"⟩, 9) := ⟨⟨by decide +kernel, by decide +kernel⟩, List.mem_of_getElem? (i := 17) (by decide +kernel), List.mem_of_getElem? (i := 477) (by decide +kernel), List.mem_of_getElem? (i := 478) (by decide +kernel)⟩
theorem lw_p15 : lw_okq (⟨"MaterialBars", "goodsOn", "(I)I"⟩, 9) := ⟨⟨by decide +kernel, by decide +kernel⟩, List.mem_of_getElem? (i := 17) (by decide +kernel), List.mem_of_getElem? (i := 505) (by decide +kernel), List.mem_of_getElem? (i := 506) (by decide +kernel)⟩
def lw_privs_1 : List (MethodName × Nat) := [(⟨"java/lang/Throwable", "fillInStackTrace", "(I)Ljava/lang/Throwable;"⟩, 6), (⟨"MaterialBars$Pad", "take", "(I)Z"⟩, 3), (⟨"MaterialBars$Pad", "signHere", "()I"⟩, 3), (⟨"MaterialBars$Pad", "readClause", "(LMaterialBars$Method;)Z"⟩, 3), (⟨"MaterialBars$Pad", "readUse", "(LMaterialBars$Method;)Z"⟩, 3), (⟨"MaterialBars$Pad", "readNumber", "(II)I"⟩, 3), (⟨"MaterialBars$Pad", "readBar", "(LMaterialBars$Method;)Z"⟩, 3), (⟨"MaterialBars$Pad", "readNotBehind", "(LMaterialBars$Method;)Z"⟩, 3), (⟨"MaterialBars$Pad", "readAfter", "(LMaterialBars$Method;)Z"⟩, 3), (⟨"MaterialBars", "methodAt", "(I)LMaterialBars$Method;"⟩, 9), (⟨"MaterialBars", "pieceAt", "(I)LMaterialBars$Piece;"⟩, 9), (⟨"MaterialBars", "reasonAgainst", "(LMaterialBars$Piece;LMaterialBars$Method;II)I"⟩, 9), (⟨"MaterialBars", "lowestLacking", "(LMaterialBars$Method;)I"⟩, 9), (⟨"MaterialBars", "takeWhatGoes", "(LMaterialBars$Method;)V"⟩, 9), (⟨"MaterialBars", "goodAt", "(I)LMaterialBars$Good;"⟩, 9), (⟨"MaterialBars", "goodsOn", "(I)I"⟩, 9)]
theorem lw_r1 : ∀ q ∈ lw_privs_1, lw_okq q := List.forall_mem_cons.mpr ⟨lw_p0, List.forall_mem_cons.mpr ⟨lw_p1, List.forall_mem_cons.mpr ⟨lw_p2, List.forall_mem_cons.mpr ⟨lw_p3, List.forall_mem_cons.mpr ⟨lw_p4, List.forall_mem_cons.mpr ⟨lw_p5, List.forall_mem_cons.mpr ⟨lw_p6, List.forall_mem_cons.mpr ⟨lw_p7, List.forall_mem_cons.mpr ⟨lw_p8, List.forall_mem_cons.mpr ⟨lw_p9, List.forall_mem_cons.mpr ⟨lw_p10, List.forall_mem_cons.mpr ⟨lw_p11, List.forall_mem_cons.mpr ⟨lw_p12, List.forall_mem_cons.mpr ⟨lw_p13, List.forall_mem_cons.mpr ⟨lw_p14, List.forall_mem_cons.mpr ⟨lw_p15, fun _ h => absurd h List.not_mem_nil⟩⟩⟩⟩⟩⟩⟩⟩⟩⟩⟩⟩⟩⟩⟩⟩
theorem lw_p16 : lw_okq (⟨"MaterialBars", "withAllAhead", "(I)I"⟩, 9) := ⟨⟨by decide +kernel, by decide +kernel⟩, List.mem_of_getElem? (i := 17) (by decide +kernel), List.mem_of_getElem? (i := 517) (by decide +kernel), List.mem_of_getElem? (i := 518) (by decide +kernel)⟩
theorem lw_p17 : lw_okq (⟨"MaterialBars", "eachMayBeDone", "(LMaterialBars$Piece;I)Z"⟩, 9) := ⟨⟨by decide +kernel, by decide +kernel⟩, List.mem_of_getElem? (i := 17) (by decide +kernel), List.mem_of_getElem? (i := 527) (by decide +kernel), List.mem_of_getElem? (i := 528) (by decide +kernel)⟩
theorem lw_p18 : lw_okq (⟨"MaterialBars", "mayBeDone", "(LMaterialBars$Piece;I)Z"⟩, 9) := ⟨⟨by decide +kernel, by decide +kernel⟩, List.mem_of_getElem? (i := 17) (by decide +kernel), List.mem_of_getElem? (i := 531) (by decide +kernel), List.mem_of_getElem? (i := 532) (by decide +kernel)⟩
theorem lw_p19 : lw_okq (⟨"MaterialBars", "putInOrder", "(II)Z"⟩, 9) := ⟨⟨by decide +kernel, by decide +kernel⟩, List.mem_of_getElem? (i := 17) (by decide +kernel), List.mem_of_getElem? (i := 535) (by decide +kernel), List.mem_of_getElem? (i := 536) (by decide +kernel)⟩
theorem lw_p20 : lw_okq (⟨"MaterialBars", "lowestThatMayComeNext", "(I)I"⟩, 9) := ⟨⟨by decide +kernel, by decide +kernel⟩, List.mem_of_getElem? (i := 17) (by decide +kernel), List.mem_of_getElem? (i := 539) (by decide +kernel), List.mem_of_getElem? (i := 540) (by decide +kernel)⟩
theorem lw_p21 : lw_okq (⟨"MaterialBars", "hasToWait", "(II)Z"⟩, 9) := ⟨⟨by decide +kernel, by decide +kernel⟩, List.mem_of_getElem? (i := 17) (by decide +kernel), List.mem_of_getElem? (i := 543) (by decide +kernel), List.mem_of_getElem? (i := 544) (by decide +kernel)⟩
theorem lw_p22 : lw_okq (⟨"MaterialBars", "rowsOfAll", "()I"⟩, 9) := ⟨⟨by decide +kernel, by decide +kernel⟩, List.mem_of_getElem? (i := 17) (by decide +kernel), List.mem_of_getElem? (i := 564) (by decide +kernel), List.mem_of_getElem? (i := 565) (by decide +kernel)⟩
theorem lw_p23 : lw_okq (⟨"MaterialBarsModel", "goes", "(ZZZ)Z"⟩, 27) := ⟨⟨by decide +kernel, by decide +kernel⟩, List.mem_of_getElem? (i := 568) (by decide +kernel), List.mem_of_getElem? (i := 666) (by decide +kernel), List.mem_of_getElem? (i := 667) (by decide +kernel)⟩
theorem lw_p24 : lw_okq (⟨"MaterialBarsModel", "fault", "()I"⟩, 27) := ⟨⟨by decide +kernel, by decide +kernel⟩, List.mem_of_getElem? (i := 568) (by decide +kernel), List.mem_of_getElem? (i := 674) (by decide +kernel), List.mem_of_getElem? (i := 675) (by decide +kernel)⟩
theorem lw_p25 : lw_okq (⟨"MaterialBarsModel", "isMethod", "(I)Z"⟩, 27) := ⟨⟨by decide +kernel, by decide +kernel⟩, List.mem_of_getElem? (i := 568) (by decide +kernel), List.mem_of_getElem? (i := 688) (by decide +kernel), List.mem_of_getElem? (i := 689) (by decide +kernel)⟩
theorem lw_p26 : lw_okq (⟨"MaterialBarsModel", "used", "(II)I"⟩, 27) := ⟨⟨by decide +kernel, by decide +kernel⟩, List.mem_of_getElem? (i := 568) (by decide +kernel), List.mem_of_getElem? (i := 695) (by decide +kernel), List.mem_of_getElem? (i := 696) (by decide +kernel)⟩
theorem lw_p27 : lw_okq (⟨"MaterialBarsModel", "isObject", "(I)Z"⟩, 27) := ⟨⟨by decide +kernel, by decide +kernel⟩, List.mem_of_getElem? (i := 568) (by decide +kernel), List.mem_of_getElem? (i := 707) (by decide +kernel), List.mem_of_getElem? (i := 708) (by decide +kernel)⟩
theorem lw_p28 : lw_okq (⟨"MaterialBarsModel", "why", "(IIII)I"⟩, 27) := ⟨⟨by decide +kernel, by decide +kernel⟩, List.mem_of_getElem? (i := 568) (by decide +kernel), List.mem_of_getElem? (i := 727) (by decide +kernel), List.mem_of_getElem? (i := 728) (by decide +kernel)⟩
theorem lw_p29 : lw_okq (⟨"MaterialBarsModel", "barred", "(II)I"⟩, 27) := ⟨⟨by decide +kernel, by decide +kernel⟩, List.mem_of_getElem? (i := 568) (by decide +kernel), List.mem_of_getElem? (i := 731) (by decide +kernel), List.mem_of_getElem? (i := 732) (by decide +kernel)⟩
theorem lw_p30 : lw_okq (⟨"MaterialBarsModel", "has", "(III)Z"⟩, 27) := ⟨⟨by decide +kernel, by decide +kernel⟩, List.mem_of_getElem? (i := 568) (by decide +kernel), List.mem_of_getElem? (i := 735) (by decide +kernel), List.mem_of_getElem? (i := 736) (by decide +kernel)⟩
theorem lw_p31 : lw_okq (⟨"MaterialBarsModel", "latest", "(II)I"⟩, 27) := ⟨⟨by decide +kernel, by decide +kernel⟩, List.mem_of_getElem? (i := 568) (by decide +kernel), List.mem_of_getElem? (i := 739) (by decide +kernel), List.mem_of_getElem? (i := 740) (by decide +kernel)⟩
def lw_privs_2 : List (MethodName × Nat) := [(⟨"MaterialBars", "withAllAhead", "(I)I"⟩, 9), (⟨"MaterialBars", "eachMayBeDone", "(LMaterialBars$Piece;I)Z"⟩, 9), (⟨"MaterialBars", "mayBeDone", "(LMaterialBars$Piece;I)Z"⟩, 9), (⟨"MaterialBars", "putInOrder", "(II)Z"⟩, 9), (⟨"MaterialBars", "lowestThatMayComeNext", "(I)I"⟩, 9), (⟨"MaterialBars", "hasToWait", "(II)Z"⟩, 9), (⟨"MaterialBars", "rowsOfAll", "()I"⟩, 9), (⟨"MaterialBarsModel", "goes", "(ZZZ)Z"⟩, 27), (⟨"MaterialBarsModel", "fault", "()I"⟩, 27), (⟨"MaterialBarsModel", "isMethod", "(I)Z"⟩, 27), (⟨"MaterialBarsModel", "used", "(II)I"⟩, 27), (⟨"MaterialBarsModel", "isObject", "(I)Z"⟩, 27), (⟨"MaterialBarsModel", "why", "(IIII)I"⟩, 27), (⟨"MaterialBarsModel", "barred", "(II)I"⟩, 27), (⟨"MaterialBarsModel", "has", "(III)Z"⟩, 27), (⟨"MaterialBarsModel", "latest", "(II)I"⟩, 27)]
theorem lw_r2 : ∀ q ∈ lw_privs_2, lw_okq q := List.forall_mem_cons.mpr ⟨lw_p16, List.forall_mem_cons.mpr ⟨lw_p17, List.forall_mem_cons.mpr ⟨lw_p18, List.forall_mem_cons.mpr ⟨lw_p19, List.forall_mem_cons.mpr ⟨lw_p20, List.forall_mem_cons.mpr ⟨lw_p21, List.forall_mem_cons.mpr ⟨lw_p22, List.forall_mem_cons.mpr ⟨lw_p23, List.forall_mem_cons.mpr ⟨lw_p24, List.forall_mem_cons.mpr ⟨lw_p25, List.forall_mem_cons.mpr ⟨lw_p26, List.forall_mem_cons.mpr ⟨lw_p27, List.forall_mem_cons.mpr ⟨lw_p28, List.forall_mem_cons.mpr ⟨lw_p29, List.forall_mem_cons.mpr ⟨lw_p30, List.forall_mem_cons.mpr ⟨lw_p31, fun _ h => absurd h List.not_mem_nil⟩⟩⟩⟩⟩⟩⟩⟩⟩⟩⟩⟩⟩⟩⟩⟩
theorem lw_p32 : lw_okq (⟨"MaterialBarsModel", "waits", "(IIII)Z"⟩, 27) := ⟨⟨by decide +kernel, by decide +kernel⟩, List.mem_of_getElem? (i := 568) (by decide +kernel), List.mem_of_getElem? (i := 743) (by decide +kernel), List.mem_of_getElem? (i := 744) (by decide +kernel)⟩
theorem lw_p33 : lw_okq (⟨"MaterialBarsModel", "hasPart", "(II)Z"⟩, 27) := ⟨⟨by decide +kernel, by decide +kernel⟩, List.mem_of_getElem? (i := 568) (by decide +kernel), List.mem_of_getElem? (i := 747) (by decide +kernel), List.mem_of_getElem? (i := 748) (by decide +kernel)⟩
theorem lw_p34 : lw_okq (⟨"MaterialBarsModel", "closed", "(I)I"⟩, 27) := ⟨⟨by decide +kernel, by decide +kernel⟩, List.mem_of_getElem? (i := 568) (by decide +kernel), List.mem_of_getElem? (i := 780) (by decide +kernel), List.mem_of_getElem? (i := 781) (by decide +kernel)⟩
theorem lw_p35 : lw_okq (⟨"MaterialBarsModel", "orders", "(II)Z"⟩, 27) := ⟨⟨by decide +kernel, by decide +kernel⟩, List.mem_of_getElem? (i := 568) (by decide +kernel), List.mem_of_getElem? (i := 784) (by decide +kernel), List.mem_of_getElem? (i := 785) (by decide +kernel)⟩
theorem lw_p36 : lw_okq (⟨"MaterialBarsModel", "methodsOf", "(II)I"⟩, 27) := ⟨⟨by decide +kernel, by decide +kernel⟩, List.mem_of_getElem? (i := 568) (by decide +kernel), List.mem_of_getElem? (i := 788) (by decide +kernel), List.mem_of_getElem? (i := 789) (by decide +kernel)⟩
theorem lw_p37 : lw_okq (⟨"MaterialBarsModel", "mayCome", "(III)Z"⟩, 27) := ⟨⟨by decide +kernel, by decide +kernel⟩, List.mem_of_getElem? (i := 568) (by decide +kernel), List.mem_of_getElem? (i := 792) (by decide +kernel), List.mem_of_getElem? (i := 793) (by decide +kernel)⟩
def lw_privs_3 : List (MethodName × Nat) := [(⟨"MaterialBarsModel", "waits", "(IIII)Z"⟩, 27), (⟨"MaterialBarsModel", "hasPart", "(II)Z"⟩, 27), (⟨"MaterialBarsModel", "closed", "(I)I"⟩, 27), (⟨"MaterialBarsModel", "orders", "(II)Z"⟩, 27), (⟨"MaterialBarsModel", "methodsOf", "(II)I"⟩, 27), (⟨"MaterialBarsModel", "mayCome", "(III)Z"⟩, 27)]
theorem lw_r3 : ∀ q ∈ lw_privs_3, lw_okq q := List.forall_mem_cons.mpr ⟨lw_p32, List.forall_mem_cons.mpr ⟨lw_p33, List.forall_mem_cons.mpr ⟨lw_p34, List.forall_mem_cons.mpr ⟨lw_p35, List.forall_mem_cons.mpr ⟨lw_p36, List.forall_mem_cons.mpr ⟨lw_p37, fun _ h => absurd h List.not_mem_nil⟩⟩⟩⟩⟩⟩
def lw_privs : List (MethodName × Nat) := lw_privs_1 ++ (lw_privs_2 ++ (lw_privs_3))
def lw_tbl : List Cond := k2_sels lw_privs ++ tables_1
theorem lw_privs_ok : ∀ q ∈ lw_privs, lw_okq q := by
  show ∀ q ∈ lw_privs_1 ++ (lw_privs_2 ++ (lw_privs_3)), lw_okq q
  exact List.forall_mem_append.mpr ⟨lw_r1, List.forall_mem_append.mpr ⟨lw_r2, lw_r3⟩⟩
end
section
/-! ===== BEGIN words of one list among another's, by their places ===== -/
theorem goodIn_r {big : List Cond} (ws : List Cond) (ps : List Nat) (hp : ws = ps.filterMap (fun i => big[i]?)) (h : ws.all goodWord = true) : GoodIn big ws := by
  intro w hw
  have h1 := List.all_eq_true.mp h w hw
  rw [hp] at hw
  obtain ⟨i, -, hi⟩ := List.mem_filterMap.mp hw
  have hm : w ∈ big := by first | exact List.mem_of_getElem? hi | exact List.getElem?_mem hi
  exact ⟨hm, good_of_word h1⟩
theorem goodIn_app {big a b : List Cond} (ha : GoodIn big a) (hb : GoodIn big b) : GoodIn big (a ++ b) := fun w h => (List.mem_append.mp h).elim (ha w) (hb w)
theorem goodIn_ca {big a b : List Cond} {c : Cond} (ha : GoodIn big (c :: a)) (hb : GoodIn big b) : GoodIn big (c :: (a ++ b)) := fun w h => (List.mem_cons.mp h).elim (fun e => ha w (List.mem_cons.mpr (Or.inl e))) (fun h => (List.mem_append.mp h).elim (fun h => ha w (List.mem_cons.mpr (Or.inr h))) (hb w))
theorem goodIn_sub {big ws : List Cond} (hm : ∀ w ∈ ws, w ∈ big) (h : ws.all goodWord = true) : GoodIn big ws := fun w hw => ⟨hm w hw, good_of_word (List.all_eq_true.mp h w hw)⟩
/-! ===== END ===== -/

/-! ===== BEGIN exceptions that leave a method, and their catching by the caller (launches without stack traces) ===== -/
section VXA
/-! The laws vx_back, vx_callV, vx_callS, vx_callSW, vx_throw0, vx_throwS follow proofs of the library, with one case more: JvmDerived/Free/Laws.lean (Back.of_free), Shelf42/LK1.lean (callV, callS), Shelf/KitTraced.lean (throwNew0V, throwNewS). -/
/-- where a method has thrown q: the class by its name, the cell, what was written, the world -/
def vx_T (XC : String → State → State → Prop) (st : State) (q : Addr) (t : State) (mc ms : Nat) (free : Addr → Prop) : Prop :=
  ∃ (E : String) (ce : Cell) (L : List Loc), XC E st t ∧ t.heap[q]? = some ce ∧ ce.vm = .none ∧ st.vm.findClass E = some ce.cls ∧ st.WarmedH t.vm ∧ st.sameButNew ({ t with vm := st.vm } : State) L mc ms ∧ ∀ z ∈ L, free z.base
def vx_Q (Qc : Array Value → State → Outcome → State → Prop) (XC : String → State → State → Prop) (mc ms : Nat) (free : Addr → Prop) : Array Value → State → Outcome → State → Prop := fun a st o t =>
  (Qc a st o t ∧ ∃ L, FrameEnd st o t L mc ms ∧ ∀ q ∈ L, free q.base) ∨ ∃ q, o = .threw q ∧ vx_T XC st q t mc ms free
/-- a callee that returns or throws -/
def vx_Met (l : Launch) (y : MethodName) (ws : List Cond) (rm : Room) (Pc : Array Value → State → Prop) (Qc : Array Value → State → Outcome → State → Prop) (XC : String → State → State → Prop) (mc ms : Nat) (free : Addr → Prop) : Prop :=
  MetFree l y (headSpec ws rm) Pc (fun _ _ _ _ _ => True) (vx_Q Qc XC mc ms free)
def vx_Post (XC : String → State → State → Prop) (mc ms : Nat) (free : Addr → Prop) : Pt → Array Value → Addr → Pt → Prop := fun A a q B =>
  ∃ (g : JFrame) (mk : MethodId) (t : State) (L : List Loc) (E : String) (ce : Cell), B.U.heap = t.heap ∧ B.U.vm = t.vm ∧ XC E (A.U.calling g mk a) t ∧ t.heap[q]? = some ce ∧ ce.vm = .none ∧ A.U.vm.findClass E = some ce.cls ∧ B.locs = A.locs ++ L ∧ (∀ z ∈ L, free z.base) ∧ B.cells = A.cells + mc ∧ B.slots = A.slots + ms
def vx_Back (l : Launch) (R : Room) (p : Program) (e : Env) (below : List Frame) (s : State) (sargs : Array Value) (y : MethodName) (len W9 : Nat)
    (Pre : Pt → Array Value → Prop) (Post : Pt → Array Value → Option Value → Pt → Prop) (PostX : Pt → Array Value → Addr → Pt → Prop) : Prop :=
  ∀ (m : MethodId) (meth : Method) (c : Code) (A : Pt) (g : JFrame) (ig : Instr) (mk : MethodId) (a : Array Value),
    Stand p l e R s m sargs below meth c A.U A.locs A.cells A.slots → g.method = m → g.locals.size = c.maxLocals → decode c.code g.pc = .ok (ig, len) →
    2 * g.monitorRoom + (g.stack.map fun v => v.category).sum ≤ W9 → A.U.methodNamed? y = some mk → Pre A a →
    (∃ (v : Option Value) (B : Pt), Stand p l e R s m sargs below meth c B.U B.locs B.cells B.slots ∧ Post A a v B ∧
      Steps p.tables e below (doInvoke e (A.U.setTop g) [] mk a).1 (B.U.setTop { g with pc := g.pc + len, stack := v.toList ++ g.stack })) ∨
    (∃ (q : Addr) (B : Pt), Stand p l e R s m sargs below meth c B.U B.locs B.cells B.slots ∧ PostX A a q B ∧
      Steps p.tables e below (doInvoke e (A.U.setTop g) [] mk a).1 ((B.U.setTop g).pushFrame (.throwing q)))
section Payer
variable {l : Launch} {R : Room} {p : Program} {e : Env} {below : List Frame} {s : State} {sargs : Array Value} {y : MethodName} {len W9 : Nat}
theorem vx_back {ws : List Cond} {rm : Room} {Pc : Array Value → State → Prop} {Qc : Array Value → State → Outcome → State → Prop} {XC : String → State → State → Prop} {mc ms : Nat} {free : Addr → Prop} {bytes : ByteArray} {maxL : Nat} {ret : Option FieldType}
    (hM : vx_Met l y ws rm Pc Qc XC mc ms free) (hblind : FrameBlind Pc) (hrc : rm.cells = mc) (hrs : rm.slots = ms)
    (hframes : rm.frames + 1 ≤ R.frames) (hlocals : W9 + (maxL + 11) + rm.locals ≤ R.locals)
    (hws : ∀ w ∈ ws, ∀ a' U, s.WarmedH U.vm → w.before a' U = true) (hcode : Cond.code y bytes maxL ret ∈ ws) (hinit : ∀ a' U, s.WarmedH U.vm → (Cond.initialized y.cls).before a' U = true) :
    vx_Back l R p e below s sargs y len W9 (PreOf R mc ms Pc) (PostOf Qc mc ms free) (vx_Post XC mc ms free) := by
  intro m meth c A g ig mk a X hg hsize hdg hW hn hp
  have h1 : (headSpec ws rm).pre.before a A.U = true := atoms_intro fun w hw => hws w hw _ _ X.warmed
  have h2 : (Cond.code y bytes maxL ret).before a A.U = true := hws _ hcode _ _ X.warmed
  have h3 : (Cond.initialized y.cls).before a A.U = true := hinit _ _ X.warmed
  have h4 : A.cells + (headSpec ws rm).room.cells ≤ R.cells := by rw [show (headSpec ws rm).room.cells = mc from hrc]; exact hp.1
  have h5 : A.slots + (headSpec ws rm).room.slots ≤ R.slots := by rw [show (headSpec ws rm).room.slots = ms from hrs]; exact hp.2.1
  have hPc : Pc a (A.U.calling g mk a) := hblind _ _ _ _ hp.2.2
  obtain ⟨U, Ls, c0, s0⟩ := A
  dsimp only [Pt.U, Pt.locs, Pt.cells, Pt.slots] at h1 h2 h3 h4 h5 X hn hPc ⊢
  obtain ⟨methY, cY, hmY, hcY, -, hlY, -, -, -, -⟩ := Cond.code_spec hn h2
  obtain ⟨kY, hkY, -⟩ := className_of_methodNamed hn
  have hinitY : kY.init = .initialized := Cond.initialized_spec (findClass_of_methodNamed hn) hkY h3
  have h : At U g.method c below := by rw [hg]; exact X.here
  have hlocals9 : W9 + (maxL + 11) + (headSpec ws rm).room.locals ≤ R.locals := hlocals
  have happ : (headSpec ws rm).appliesLoose y e.platform (U.calling g mk a) = true :=
    Spec.appliesLoose_calling (g := g) h hdg hn hkY hinitY
      (X.room_calling (g := g) (R' := (headSpec ws rm).room) hsize hmY hcY hframes (by rw [hlY]; omega) h4 h5) h1
  obtain ⟨mid, hmid⟩ := h.above
  have hfr : (U.setTop g).frames = (.java g :: mid) ++ below := by rw [State.frames_setTop' g h.top, hmid]; rfl
  obtain ⟨o, s₂, hsteps, -, hend, hq⟩ := Steps.callFree hM p X.admits X.cas X.clock (acts := []) hfr happ hPc trivial
  have hq' : vx_Q Qc XC mc ms free a (U.calling g mk a) o s₂ := hq
  rw [State.frames_setTop' g h.top] at hend
  obtain ⟨g₀, hg0⟩ := Option.isSome_iff_exists.mp h.top
  obtain ⟨r, hr⟩ := State.topJava?_eq_some.mp hg0
  have hr' : (({ U with heap := s₂.heap, slotsUsed := s₂.slotsUsed } : State).setVm s₂.vm).frames = .java g₀ :: r := hr
  rcases hq' with ⟨hqc, L, hfe, hL⟩ | ⟨q, rfl, E, ce, L, hx, hce, hcv, hcl, hW₂, hsm, hL⟩
  · obtain ⟨⟨v, rfl⟩, hW₂, e2, q2, q3, q4, q5, q6⟩ := id hfe
    have e3 : s₂ = ({ (U.calling g mk a).setFrames s₂.frames with heap := s₂.heap, slotsUsed := s₂.slotsUsed } : State).setVm s₂.vm := by
      have : s₂ = ({ s₂ with vm := (U.calling g mk a).vm } : State).setVm s₂.vm := rfl
      rw [e2] at this
      exact this
    obtain ⟨c₂, i₂, len₂, hc₂, hd₂, hf₂⟩ := hend
    have hW' : U.WarmedH s₂.vm := hW₂
    have hcc : c₂ = c := by
      have h1 : s₂.code? g.method = U.code? g.method := by
        rw [State.code?_eq, State.code?_eq, hW'.alike.method?]
      exact Option.some.inj (hc₂.symm.trans (h1.trans h.code))
    subst hcc
    have hlen : len₂ = len := by rw [hdg] at hd₂; cases hd₂; rfl
    subst hlen
    have hs₂ : s₂ = (({ U with heap := s₂.heap, slotsUsed := s₂.slotsUsed } : State).setVm s₂.vm).setTop { g with pc := g.pc + len₂, stack := v.toList ++ g.stack } := by
      refine e3.trans ?_
      rw [hf₂, State.calling_eq h.top, State.setFrames_setFrames, State.setTop_of_frames _ hr', hr]
      rfl
    have hsame : U.sameButNew ({ U with heap := s₂.heap, slotsUsed := s₂.slotsUsed } : State) L mc ms := by
      refine ⟨?_, q2, q3, q4, q5, q6⟩
      obtain ⟨t, ht, -⟩ := State.frames_cons hr
      show ({ U with heap := s₂.heap, slotsUsed := s₂.slotsUsed } : State) = { U.setFrames U.frames with heap := s₂.heap, slotsUsed := s₂.slotsUsed }
      rw [State.setFrames_self ht]
    subst hg
    refine Or.inl ⟨v, ⟨(({ U with heap := s₂.heap, slotsUsed := s₂.slotsUsed } : State).setVm s₂.vm), Ls ++ L, c0 + mc, s0 + ms⟩,
      ⟨X.admits, X.cas, X.clock, X.frames, X.room, X.hears, X.method, X.code, (X.here.setHeapUsed s₂.heap s₂.slotsUsed).setVm hW'.alike, X.tail, State.WarmedH.trans X.warmed hW', X.limits, X.bytes, X.same.trans (hsame.setVm s.vm)⟩,
      ⟨g, mk, s₂, L, rfl, rfl, hqc, rfl, hL, rfl, rfl⟩, ?_⟩
    show Steps p.tables e below _ ((({ U with heap := s₂.heap, slotsUsed := s₂.slotsUsed } : State).setVm s₂.vm).setTop { g with pc := g.pc + len₂, stack := v.toList ++ g.stack })
    rw [← hs₂]
    exact hsteps
  · obtain ⟨e2, q2, q3, q4, q5, q6⟩ := id hsm
    have e3 : s₂ = ({ (U.calling g mk a).setFrames s₂.frames with heap := s₂.heap, slotsUsed := s₂.slotsUsed } : State).setVm s₂.vm := by
      have : s₂ = ({ s₂ with vm := (U.calling g mk a).vm } : State).setVm s₂.vm := rfl
      rw [e2] at this
      exact this
    have hf₂ : s₂.frames = .throwing q :: .java g :: U.frames.tail := hend
    have hW' : U.WarmedH s₂.vm := hW₂
    have hs₂ : s₂ = ((({ U with heap := s₂.heap, slotsUsed := s₂.slotsUsed } : State).setVm s₂.vm).setTop g).pushFrame (.throwing q) := by
      refine e3.trans ?_
      rw [hf₂, State.calling_eq h.top, State.setFrames_setFrames, State.pushFrame, State.frames_setTop _ hr', State.setTop_of_frames _ hr', State.setFrames_setFrames, hr]
      rfl
    have hsame : U.sameButNew ({ U with heap := s₂.heap, slotsUsed := s₂.slotsUsed } : State) L mc ms := by
      refine ⟨?_, q2, q3, q4, q5, q6⟩
      obtain ⟨t, ht, -⟩ := State.frames_cons hr
      show ({ U with heap := s₂.heap, slotsUsed := s₂.slotsUsed } : State) = { U.setFrames U.frames with heap := s₂.heap, slotsUsed := s₂.slotsUsed }
      rw [State.setFrames_self ht]
    subst hg
    refine Or.inr ⟨q, ⟨(({ U with heap := s₂.heap, slotsUsed := s₂.slotsUsed } : State).setVm s₂.vm), Ls ++ L, c0 + mc, s0 + ms⟩,
      ⟨X.admits, X.cas, X.clock, X.frames, X.room, X.hears, X.method, X.code, (X.here.setHeapUsed s₂.heap s₂.slotsUsed).setVm hW'.alike, X.tail, State.WarmedH.trans X.warmed hW', X.limits, X.bytes, X.same.trans (hsame.setVm s.vm)⟩,
      ⟨g, mk, s₂, L, E, ce, rfl, rfl, hx, hce, hcv, hcl, rfl, hL, rfl, rfl⟩, ?_⟩
    show Steps p.tables e below _ (((({ U with heap := s₂.heap, slotsUsed := s₂.slotsUsed } : State).setVm s₂.vm).setTop g).pushFrame (.throwing q))
    rw [← hs₂]
    exact hsteps
end Payer
section Calls
variable {p : Program} {l : Launch} {e : Env} {R : Room} {s : State} {m : MethodId} {args : Array Value} {below : List Frame} {meth : Method} {c : Code} {T : State} {locs : List Loc} {cells slots : Nat}
theorem vx_callV (X : Stand p l e R s m args below meth c T locs cells slots) (hexec : p.tables.exec = Jvm.exec) {own C : String} {index : Nat} {y : MethodName} {bytes : ByteArray} {maxL : Nat} {ret : Option FieldType}
    (hown : s.vm.findClass own = some m.cls) (hlink : (Cond.methodLink own index y).before args s = true) (hinst : (Cond.instanceMethod y).before args s = true) (hsel : (Cond.selects C y y).before args s = true)
    (hcode : (Cond.code y bytes maxL ret).before args s = true) (hy : y.cls ≠ "java/lang/invoke/MethodHandle" ∧ y.cls ≠ "java/lang/invoke/VarHandle")
    {W9 : Nat} {Pre : Pt → Array Value → Prop} {Post : Pt → Array Value → Option Value → Pt → Prop} {PostX : Pt → Array Value → Addr → Pt → Prop} (hK : vx_Back l R p e below s args y 3 W9 Pre Post PostX)
    {b : Addr} {cellB : Cell} (hcell : T.heap[b]? = some cellB) (hobj : cellB.vm.isStatics = false) (hcls : s.vm.findClass C = some cellB.cls)
    {g : JFrame} (hg : g.method = m) (hsize : g.locals.size = c.maxLocals) {argsL rest : List Value} (hlen : ∀ sig, parseMethodDescriptor y.desc = some sig → argsL.length = sig.parameters.length)
    (hstack : g.stack = argsL.reverse ++ .ref b :: rest) (hW : 2 * g.monitorRoom + (rest.map fun v => v.category).sum ≤ W9) (hdg : decode c.code g.pc = .ok (.invokevirtual index, 3))
    (hpre : ∀ vm₁, s.WarmedH vm₁ → Pre ⟨T.setVm vm₁, locs, cells, slots⟩ (Value.ref b :: argsL).toArray) :
    (∃ (v : Option Value) (vm₁ : Vm) (B : Pt), s.WarmedH vm₁ ∧ Stand p l e R s m args below meth c B.U B.locs B.cells B.slots ∧ Post ⟨T.setVm vm₁, locs, cells, slots⟩ (Value.ref b :: argsL).toArray v B ∧
      ∀ target, Steps p.tables e below (B.U.setTop { g with pc := g.pc + 3, stack := v.toList ++ rest }) target → Steps p.tables e below (T.setTop g) target) ∨
    (∃ (q : Addr) (vm₁ : Vm) (B : Pt), s.WarmedH vm₁ ∧ Stand p l e R s m args below meth c B.U B.locs B.cells B.slots ∧ PostX ⟨T.setVm vm₁, locs, cells, slots⟩ (Value.ref b :: argsL).toArray q B ∧
      Steps p.tables e below (T.setTop g) ((B.U.setTop { g with stack := rest }).pushFrame (.throwing q))) := by
  obtain ⟨mk, methM, hnamed, hmethM, hstM, habM⟩ := Cond.instanceMethod_spec hinst
  obtain ⟨methM', cM, hmethM', -, -, -, -, -, -, hsigM⟩ := Cond.code_spec hnamed hcode
  cases hmethM.symm.trans hmethM'
  obtain ⟨c2, r2, m2, q1, q2, q3, q4, kP, hkP, hkPi⟩ := Cond.selects_spec hsel
  cases hcls.symm.trans q1
  cases (State.methodFound?_of_named hnamed hy).symm.trans q2
  cases hnamed.symm.trans q3
  have hselP : selectMethod e.platform s.vm cellB.cls mk = .method mk := by rw [Launch.admits_selectMethod X.admits]; exact q4
  obtain ⟨vm₁, X₁, hstep₁⟩ := X.invokevirtual hexec hown hlink hnamed hmethM hstM hkP hkPi hy (a := b) (cell := cellB) hcell
    (fun z h => by rw [h] at hobj; cases hobj) hselP hmethM habM hkP hkPi (g := g) hg (argsL := argsL) (rest := rest) (hlen _ hsigM) hstack hdg
  rcases hK m meth c ⟨T.setVm vm₁, locs, cells, slots⟩ { g with stack := rest } (.invokevirtual index) mk (Value.ref b :: argsL).toArray X₁ hg hsize hdg hW (X₁.named hnamed) (hpre vm₁ X₁.warmed) with ⟨v, B, X', hpost, hsteps⟩ | ⟨q, B, X', hpost, hsteps⟩
  · exact Or.inl ⟨v, vm₁, B, X₁.warmed, X', hpost, fun target h => hstep₁ _ fun acts => by rw [doInvoke_state]; exact hsteps.trans h⟩
  · exact Or.inr ⟨q, vm₁, B, X₁.warmed, X', hpost, hstep₁ _ fun acts => by rw [doInvoke_state]; exact hsteps⟩
theorem vx_callS (X : Stand p l e R s m args below meth c T locs cells slots) (hexec : p.tables.exec = Jvm.exec) {own : String} {index : Nat} {y : MethodName} {bytes : ByteArray} {maxL : Nat} {ret : Option FieldType}
    (hown : s.vm.findClass own = some m.cls) (hlink : (Cond.methodLink own index y).before args s = true) (hstat : (Cond.static y).before args s = true) (hinit : (Cond.initialized y.cls).before args s = true)
    (hcode : (Cond.code y bytes maxL ret).before args s = true) (hy : y.cls ≠ "java/lang/invoke/MethodHandle" ∧ y.cls ≠ "java/lang/invoke/VarHandle")
    {W9 : Nat} {Pre : Pt → Array Value → Prop} {Post : Pt → Array Value → Option Value → Pt → Prop} {PostX : Pt → Array Value → Addr → Pt → Prop} (hK : vx_Back l R p e below s args y 3 W9 Pre Post PostX)
    {g : JFrame} (hg : g.method = m) (hsize : g.locals.size = c.maxLocals) {argsL rest : List Value} (hlen : ∀ sig, parseMethodDescriptor y.desc = some sig → argsL.length = sig.parameters.length)
    (hstack : g.stack = argsL.reverse ++ rest) (hW : 2 * g.monitorRoom + (rest.map fun v => v.category).sum ≤ W9) (hdg : decode c.code g.pc = .ok (.invokestatic index, 3))
    (hpre : ∀ vm₁, s.WarmedH vm₁ → Pre ⟨T.setVm vm₁, locs, cells, slots⟩ argsL.toArray) :
    (∃ (v : Option Value) (vm₁ : Vm) (B : Pt), s.WarmedH vm₁ ∧ Stand p l e R s m args below meth c B.U B.locs B.cells B.slots ∧ Post ⟨T.setVm vm₁, locs, cells, slots⟩ argsL.toArray v B ∧
      ∀ target, Steps p.tables e below (B.U.setTop { g with pc := g.pc + 3, stack := v.toList ++ rest }) target → Steps p.tables e below (T.setTop g) target) ∨
    (∃ (q : Addr) (vm₁ : Vm) (B : Pt), s.WarmedH vm₁ ∧ Stand p l e R s m args below meth c B.U B.locs B.cells B.slots ∧ PostX ⟨T.setVm vm₁, locs, cells, slots⟩ argsL.toArray q B ∧
      Steps p.tables e below (T.setTop g) ((B.U.setTop { g with stack := rest }).pushFrame (.throwing q))) := by
  obtain ⟨mk, hnamed⟩ := Cond.code_named hcode
  obtain ⟨methM, cM, hmethM, -, -, -, -, -, -, hsigM⟩ := Cond.code_spec hnamed hcode
  have hstatic : methM.isStatic = true := Cond.static_spec hnamed hmethM hstat
  obtain ⟨kP, hkP, -⟩ := className_of_methodNamed hnamed
  have hinitP : kP.init = .initialized := Cond.initialized_spec (findClass_of_methodNamed hnamed) hkP hinit
  obtain ⟨vm₁, X₁, hstep₁⟩ := X.invokestatic hexec hown hlink hnamed hmethM hstatic hkP hinitP hy (g := g) hg (argsL := argsL) (rest := rest) (hlen _ hsigM) hstack hdg
  rcases hK m meth c ⟨T.setVm vm₁, locs, cells, slots⟩ { g with stack := rest } (.invokestatic index) mk argsL.toArray X₁ hg hsize hdg hW (X₁.named hnamed) (hpre vm₁ X₁.warmed) with ⟨v, B, X', hpost, hsteps⟩ | ⟨q, B, X', hpost, hsteps⟩
  · exact Or.inl ⟨v, vm₁, B, X₁.warmed, X', hpost, fun target h => hstep₁ _ fun acts => by rw [doInvoke_state]; exact hsteps.trans h⟩
  · exact Or.inr ⟨q, vm₁, B, X₁.warmed, X', hpost, hstep₁ _ fun acts => by rw [doInvoke_state]; exact hsteps⟩
end Calls
theorem vx_cls {s : State} {T : State} {vm₁ : Vm} {E : String} {k : ClassId} (hW : s.WarmedH vm₁) (h : (T.setVm vm₁).vm.findClass E = some k) : s.vm.findClass E = some k := by
  have h1 : vm₁.findClass E = some k := h
  rw [hW.alike.findClass] at h1
  exact h1
/-- the method's frame g, with q thrown over it -/
def vx_W (p : Program) (l : Launch) (e : Env) (R : Room) (s : State) (m : MethodId) (args : Array Value) (below : List Frame) (meth : Method) (c : Code) (H : Heap) (locs : List Loc) (cells slots : Nat) (Q : State → Prop) (g : JFrame) (q : Addr) : Prop :=
  ∀ T : State, T.heap = H → Stand p l e R s m args below meth c T locs cells slots → ∃ t, Steps p.tables e below ((T.setTop g).pushFrame (.throwing q)) t ∧ Q t
def vx_Run (p : Program) (l : Launch) (e : Env) (R : Room) (s : State) (m : MethodId) (args : Array Value) (below : List Frame) (meth : Method) (c : Code) (H : Heap) (locs : List Loc) (cells slots mc ms : Nat) (g : JFrame) (rest : List Value) (Qa : State → Outcome → State → Prop) (XC : String → State → State → Prop) (free : Addr → Prop) : Prop :=
  ∀ T : State, T.heap = H → Stand p l e R s m args below meth c T locs cells slots →
    (∃ (v : Option Value) (st₀ t T' : State) (L : List Loc), st₀.heap = H ∧ Stand p l e R s m args below meth c T' (locs ++ L) (cells + mc) (slots + ms) ∧ (∀ q ∈ L, free q.base) ∧ T'.heap = t.heap ∧ T'.vm = t.vm ∧ Qa st₀ (.returned v) t ∧
      Goes p e below T g T' { g with pc := g.pc + 3, stack := v.toList ++ rest }) ∨
    (∃ (q : Addr) (st₀ t T' : State) (L : List Loc) (E : String) (ce : Cell), st₀.heap = H ∧ Stand p l e R s m args below meth c T' (locs ++ L) (cells + mc) (slots + ms) ∧ (∀ z ∈ L, free z.base) ∧ T'.heap = t.heap ∧ T'.vm = t.vm ∧ XC E st₀ t ∧ t.heap[q]? = some ce ∧ ce.vm = .none ∧ s.vm.findClass E = some ce.cls ∧
      Steps p.tables e below (T.setTop g) ((T'.setTop { g with stack := rest }).pushFrame (.throwing q)))
def vx_X {S : Type} (px : S → Prop) (B : String → S → State → Prop) (A : Nat → Prop) : String → State → State → Prop := fun E st t => ∃ u : S, px u ∧ B E u t ∧ va_F A st t
section Runs
variable {p : Program} {l : Launch} {e : Env} {R : Room} {s : State} {m : MethodId} {args : Array Value} {below : List Frame} {meth : Method} {c : Code} {H : Heap} {locs : List Loc} {cells slots : Nat}
variable {y : MethodName} {bytes cc : ByteArray} {maxL nL mc ms n index : Nat} {ret : Option FieldType} {ws : List Cond} {rm : Room} {Pc : Array Value → State → Prop} {Qc : Array Value → State → Outcome → State → Prop} {XC : String → State → State → Prop} {free : Addr → Prop} {Ts : List Cond} {own C : String} {b : Addr} {As rest : List Value} {g : JFrame}
theorem vx_callBack (cb : CallB R s args own index y bytes maxL ret ws rm mc ms n) (hM : vx_Met l y ws rm Pc Qc XC mc ms free) (hbl : FrameBlind Pc) : vx_Back l R p e below s args y 3 8 (PreOf R mc ms Pc) (PostOf Qc mc ms free) (vx_Post XC mc ms free) := by
  obtain ⟨hrc, hrs, hfr, hlo, hws, hcw, -, hini, -⟩ := cb
  exact vx_back (bytes := bytes) (maxL := maxL) (ret := ret) hM hbl hrc hrs hfr hlo hws hcw (fun a' U hW => word_at hW (Or.inl (by first | rfl | simp [Cond.onTables, Cond.keeps, Cond.steady])) hini)
theorem vx_runV (S : CallFix p m c cc nL s args Ts own) (hM : vx_Met l y ws rm Pc Qc XC mc ms free) (cw : CallW R s args own C index y bytes maxL ret ws rm mc ms n) (hp : PreV s H C b Pc As)
    (hg : g.method = m) (hn : As.length = n) (hsize : g.locals.size = nL) (hstack : g.stack = As.reverse ++ .ref b :: rest) (hW : 2 * g.monitorRoom + (rest.map fun v => v.category).sum ≤ 8) (hdg : decode cc g.pc = .ok (.invokevirtual index, 3)) (hf : cells + mc ≤ R.cells ∧ slots + ms ≤ R.slots) :
    vx_Run p l e R s m args below meth c H locs cells slots mc ms g rest (Qc (Value.ref b :: As).toArray) XC free := by
  have hK : vx_Back l R p e below s args y 3 8 (PreOf R mc ms Pc) (PostOf Qc mc ms free) (vx_Post XC mc ms free) := vx_callBack cw.1 hM hp.1
  obtain ⟨⟨-, -, -, -, -, -, hcode, -, hy, hlen, hl⟩, hin, hse⟩ := cw
  obtain ⟨hx, hb, hml, ho, -⟩ := S
  obtain ⟨-, ⟨cellB, hcB, hoB, hclB⟩, hPc⟩ := hp
  intro T hT X
  rcases vx_callV X hx (C := C) (bytes := bytes) (maxL := maxL) (ret := ret) ho hl hin hse hcode hy hK (by rw [hT]; exact hcB) hoB hclB hg (hsize.trans hml.symm) (argsL := As) (rest := rest) (fun sig h => hn.trans (hlen sig h)) hstack hW (by rw [hb]; exact hdg)
    (fun vm₁ hW₁ => ⟨hf.1, hf.2, hPc (T.setVm vm₁) hT hW₁⟩) with ⟨v, vm₁, ⟨U', l2, c2, s2⟩, hW₁, X', ⟨g', mk, t, L, e1, e2, hq, h1, hL, h2, h3⟩, st⟩ | ⟨q, vm₁, ⟨U', l2, c2, s2⟩, hW₁, X', ⟨g', mk, t, L, E, ce, e1, e2, hq, hce, hcv, hcl, h1, hL, h2, h3⟩, st⟩
  · dsimp only [Pt.U, Pt.locs, Pt.cells, Pt.slots] at X' e1 e2 h1 h2 h3 st
    subst h1; subst h2; subst h3
    exact Or.inl ⟨v, (T.setVm vm₁).calling g' mk (Value.ref b :: As).toArray, t, U', L, hT, X', hL, e1, e2, hq, st⟩
  · dsimp only [Pt.U, Pt.locs, Pt.cells, Pt.slots] at X' e1 e2 h1 h2 h3 st hcl
    subst h1; subst h2; subst h3
    exact Or.inr ⟨q, (T.setVm vm₁).calling g' mk (Value.ref b :: As).toArray, t, U', L, E, ce, hT, X', hL, e1, e2, hq, hce, hcv, vx_cls hW₁ hcl, st⟩
theorem vx_runS (S : CallFix p m c cc nL s args Ts own) (hM : vx_Met l y ws rm Pc Qc XC mc ms free) (cw : CallB R s args own index y bytes maxL ret ws rm mc ms n ∧ (Cond.static y).before args s = true) (hp : PreS s H Pc As)
    (hg : g.method = m) (hn : As.length = n) (hsize : g.locals.size = nL) (hstack : g.stack = As.reverse ++ rest) (hW : 2 * g.monitorRoom + (rest.map fun v => v.category).sum ≤ 8) (hdg : decode cc g.pc = .ok (.invokestatic index, 3)) (hf : cells + mc ≤ R.cells ∧ slots + ms ≤ R.slots) :
    vx_Run p l e R s m args below meth c H locs cells slots mc ms g rest (Qc As.toArray) XC free := by
  have hK : vx_Back l R p e below s args y 3 8 (PreOf R mc ms Pc) (PostOf Qc mc ms free) (vx_Post XC mc ms free) := vx_callBack cw.1 hM hp.1
  obtain ⟨⟨-, -, -, -, -, -, hcode, hini, hy, hlen, hl⟩, hstt⟩ := cw
  obtain ⟨hx, hb, hml, ho, -⟩ := S
  intro T hT X
  rcases vx_callS X hx (bytes := bytes) (maxL := maxL) (ret := ret) ho hl hstt hini hcode hy hK hg (hsize.trans hml.symm) (argsL := As) (rest := rest) (fun sig h => hn.trans (hlen sig h)) hstack hW (by rw [hb]; exact hdg)
    (fun vm₁ hW₁ => ⟨hf.1, hf.2, hp.2 (T.setVm vm₁) hT hW₁⟩) with ⟨v, vm₁, ⟨U', l2, c2, s2⟩, hW₁, X', ⟨g', mk, t, L, e1, e2, hq, h1, hL, h2, h3⟩, st⟩ | ⟨q, vm₁, ⟨U', l2, c2, s2⟩, hW₁, X', ⟨g', mk, t, L, E, ce, e1, e2, hq, hce, hcv, hcl, h1, hL, h2, h3⟩, st⟩
  · dsimp only [Pt.U, Pt.locs, Pt.cells, Pt.slots] at X' e1 e2 h1 h2 h3 st
    subst h1; subst h2; subst h3
    exact Or.inl ⟨v, (T.setVm vm₁).calling g' mk As.toArray, t, U', L, hT, X', hL, e1, e2, hq, st⟩
  · dsimp only [Pt.U, Pt.locs, Pt.cells, Pt.slots] at X' e1 e2 h1 h2 h3 st hcl
    subst h1; subst h2; subst h3
    exact Or.inr ⟨q, (T.setVm vm₁).calling g' mk As.toArray, t, U', L, E, ce, hT, X', hL, e1, e2, hq, hce, hcv, vx_cls hW₁ hcl, st⟩
end Runs
section Rows
variable {p : Program} {l : Launch} {e : Env} {R : Room} {s : State} {m : MethodId} {args : Array Value} {below : List Frame} {meth : Method} {c : Code} {H : Heap} {locs : List Loc} {cells slots : Nat} {Q : State → Prop}
variable {mc ms : Nat} {free : Addr → Prop} {A0 A1 : Nat → Prop} {H0 : Heap} {a : Array Value} {pc : Nat} {ls : Array Slot} {st0 rest : List Value}
theorem vx_keep {st₀ t T' : State} {L : List Loc} (h0 : st₀.heap = H) (e1 : T'.heap = t.heap) (hS : va_S A0 H0 H locs) (hA : ∀ q, q < H.size → A1 q → A0 q) (hf : ∀ q, free q → A0 q) (hL : ∀ q ∈ L, free q.base) (hF : va_F A1 st₀ t) :
    H.size ≤ T'.heap.size ∧ (∀ q : Nat, q < H.size → ¬ A1 q → T'.heap[q]? = H[q]?) ∧ va_S A0 H0 T'.heap (locs ++ L) := by
  obtain ⟨hz, hk⟩ := hF
  rw [h0] at hz hk
  exact ⟨by rw [e1]; exact hz, fun q h1 h2 => by rw [e1]; exact hk q h1 h2,
    ⟨Nat.le_trans hS.1 (by rw [e1]; exact hz), fun q h1 h2 => by rw [e1, hk q (Nat.lt_of_lt_of_le h1 hS.1) (fun z => h2 (hA q (Nat.lt_of_lt_of_le h1 hS.1) z))]; exact hS.2.1 q h1 h2, fun q hq => by
      rcases List.mem_append.mp hq with h | h
      · exact hS.2.2 q h
      · exact hf _ (hL q h)⟩⟩
theorem vx_calli {S SX : Type} {post : Int32 → S → Prop} {px : SX → Prop} {B : S → State → Prop} {BX : String → SX → State → Prop} {AX : Nat → Prop} (hr : vx_Run p l e R s m args below meth c H locs cells slots mc ms (F0 m pc ls st0) rest (va_Qi post B A1 a) (vx_X px BX AX) free) (hS : va_S A0 H0 H locs) (hA : ∀ q, q < H.size → A1 q → A0 q) (hf : ∀ q, free q → A0 q) (hAX : ∀ q, q < H.size → AX q → A0 q)
    (kx : ∀ (E : String) (ce : Cell) (q9 : Addr) (u : SX) (t : State) (H1 : Heap) (locs1 : List Loc), t.heap = H1 → s.vm.Alike t.vm → px u → BX E u t → H.size ≤ H1.size → (∀ q : Nat, q < H.size → ¬ AX q → H1[q]? = H[q]?) → va_S A0 H0 H1 locs1 → H1[q9]? = some ce → ce.vm = .none → s.vm.findClass E = some ce.cls → vx_W p l e R s m args below meth c H1 locs1 (cells + mc) (slots + ms) Q (F0 m pc ls rest) q9)
    (kk : ∀ (r : Int32) (u : S) (t : State) (H1 : Heap) (locs1 : List Loc), t.heap = H1 → s.vm.Alike t.vm → post r u → B u t → H.size ≤ H1.size → (∀ q : Nat, q < H.size → ¬ A1 q → H1[q]? = H[q]?) → va_S A0 H0 H1 locs1 → W p l e R s m args below meth c H1 locs1 (cells + mc) (slots + ms) Q (F0 m (pc + 3) ls (.int r :: rest))) : W p l e R s m args below meth c H locs cells slots Q (F0 m pc ls st0) := by
  intro T hT X
  rcases hr T hT X with ⟨v, st₀, t, T', L, h0, X', hL, e1, e2, ⟨⟨r, u, hv, hp, hb⟩, hF⟩, st⟩ | ⟨q, st₀, t, T', L, E, ce, h0, X', hL, e1, e2, ⟨u, hp, hb, hF⟩, hce, hcv, hcl, st⟩
  · cases hv
    obtain ⟨k1, k2, k3⟩ := vx_keep h0 e1 hS hA hf hL hF
    obtain ⟨t2, a1, b1⟩ := kk r u t T'.heap (locs ++ L) e1.symm (by rw [← e2]; exact X'.warmed.alike) hp hb k1 k2 k3 T' rfl X'
    exact ⟨t2, st t2 a1, b1⟩
  · obtain ⟨k1, k2, k3⟩ := vx_keep h0 e1 hS hAX hf hL hF
    obtain ⟨t2, a1, b1⟩ := kx E ce q u t T'.heap (locs ++ L) e1.symm (by rw [← e2]; exact X'.warmed.alike) hp hb k1 k2 k3 (by rw [e1]; exact hce) hcv hcl T' rfl X'
    exact ⟨t2, st.trans a1, b1⟩
theorem vx_calll {S SX : Type} {post : Int64 → S → Prop} {px : SX → Prop} {B : S → State → Prop} {BX : String → SX → State → Prop} {AX : Nat → Prop} (hr : vx_Run p l e R s m args below meth c H locs cells slots mc ms (F0 m pc ls st0) rest (va_Ql post B A1 a) (vx_X px BX AX) free) (hS : va_S A0 H0 H locs) (hA : ∀ q, q < H.size → A1 q → A0 q) (hf : ∀ q, free q → A0 q) (hAX : ∀ q, q < H.size → AX q → A0 q)
    (kx : ∀ (E : String) (ce : Cell) (q9 : Addr) (u : SX) (t : State) (H1 : Heap) (locs1 : List Loc), t.heap = H1 → s.vm.Alike t.vm → px u → BX E u t → H.size ≤ H1.size → (∀ q : Nat, q < H.size → ¬ AX q → H1[q]? = H[q]?) → va_S A0 H0 H1 locs1 → H1[q9]? = some ce → ce.vm = .none → s.vm.findClass E = some ce.cls → vx_W p l e R s m args below meth c H1 locs1 (cells + mc) (slots + ms) Q (F0 m pc ls rest) q9)
    (kk : ∀ (r : Int64) (u : S) (t : State) (H1 : Heap) (locs1 : List Loc), t.heap = H1 → s.vm.Alike t.vm → post r u → B u t → H.size ≤ H1.size → (∀ q : Nat, q < H.size → ¬ A1 q → H1[q]? = H[q]?) → va_S A0 H0 H1 locs1 → W p l e R s m args below meth c H1 locs1 (cells + mc) (slots + ms) Q (F0 m (pc + 3) ls (.long r :: rest))) : W p l e R s m args below meth c H locs cells slots Q (F0 m pc ls st0) := by
  intro T hT X
  rcases hr T hT X with ⟨v, st₀, t, T', L, h0, X', hL, e1, e2, ⟨⟨r, u, hv, hp, hb⟩, hF⟩, st⟩ | ⟨q, st₀, t, T', L, E, ce, h0, X', hL, e1, e2, ⟨u, hp, hb, hF⟩, hce, hcv, hcl, st⟩
  · cases hv
    obtain ⟨k1, k2, k3⟩ := vx_keep h0 e1 hS hA hf hL hF
    obtain ⟨t2, a1, b1⟩ := kk r u t T'.heap (locs ++ L) e1.symm (by rw [← e2]; exact X'.warmed.alike) hp hb k1 k2 k3 T' rfl X'
    exact ⟨t2, st t2 a1, b1⟩
  · obtain ⟨k1, k2, k3⟩ := vx_keep h0 e1 hS hAX hf hL hF
    obtain ⟨t2, a1, b1⟩ := kx E ce q u t T'.heap (locs ++ L) e1.symm (by rw [← e2]; exact X'.warmed.alike) hp hb k1 k2 k3 (by rw [e1]; exact hce) hcv hcl T' rfl X'
    exact ⟨t2, st.trans a1, b1⟩
theorem vx_callf {S SX : Type} {post : UInt32 → S → Prop} {px : SX → Prop} {B : S → State → Prop} {BX : String → SX → State → Prop} {AX : Nat → Prop} (hr : vx_Run p l e R s m args below meth c H locs cells slots mc ms (F0 m pc ls st0) rest (va_Qf post B A1 a) (vx_X px BX AX) free) (hS : va_S A0 H0 H locs) (hA : ∀ q, q < H.size → A1 q → A0 q) (hf : ∀ q, free q → A0 q) (hAX : ∀ q, q < H.size → AX q → A0 q)
    (kx : ∀ (E : String) (ce : Cell) (q9 : Addr) (u : SX) (t : State) (H1 : Heap) (locs1 : List Loc), t.heap = H1 → s.vm.Alike t.vm → px u → BX E u t → H.size ≤ H1.size → (∀ q : Nat, q < H.size → ¬ AX q → H1[q]? = H[q]?) → va_S A0 H0 H1 locs1 → H1[q9]? = some ce → ce.vm = .none → s.vm.findClass E = some ce.cls → vx_W p l e R s m args below meth c H1 locs1 (cells + mc) (slots + ms) Q (F0 m pc ls rest) q9)
    (kk : ∀ (r : UInt32) (u : S) (t : State) (H1 : Heap) (locs1 : List Loc), t.heap = H1 → s.vm.Alike t.vm → post r u → B u t → H.size ≤ H1.size → (∀ q : Nat, q < H.size → ¬ A1 q → H1[q]? = H[q]?) → va_S A0 H0 H1 locs1 → W p l e R s m args below meth c H1 locs1 (cells + mc) (slots + ms) Q (F0 m (pc + 3) ls (.float r :: rest))) : W p l e R s m args below meth c H locs cells slots Q (F0 m pc ls st0) := by
  intro T hT X
  rcases hr T hT X with ⟨v, st₀, t, T', L, h0, X', hL, e1, e2, ⟨⟨r, u, hv, hp, hb⟩, hF⟩, st⟩ | ⟨q, st₀, t, T', L, E, ce, h0, X', hL, e1, e2, ⟨u, hp, hb, hF⟩, hce, hcv, hcl, st⟩
  · cases hv
    obtain ⟨k1, k2, k3⟩ := vx_keep h0 e1 hS hA hf hL hF
    obtain ⟨t2, a1, b1⟩ := kk r u t T'.heap (locs ++ L) e1.symm (by rw [← e2]; exact X'.warmed.alike) hp hb k1 k2 k3 T' rfl X'
    exact ⟨t2, st t2 a1, b1⟩
  · obtain ⟨k1, k2, k3⟩ := vx_keep h0 e1 hS hAX hf hL hF
    obtain ⟨t2, a1, b1⟩ := kx E ce q u t T'.heap (locs ++ L) e1.symm (by rw [← e2]; exact X'.warmed.alike) hp hb k1 k2 k3 (by rw [e1]; exact hce) hcv hcl T' rfl X'
    exact ⟨t2, st.trans a1, b1⟩
theorem vx_calld {S SX : Type} {post : UInt64 → S → Prop} {px : SX → Prop} {B : S → State → Prop} {BX : String → SX → State → Prop} {AX : Nat → Prop} (hr : vx_Run p l e R s m args below meth c H locs cells slots mc ms (F0 m pc ls st0) rest (va_Qd post B A1 a) (vx_X px BX AX) free) (hS : va_S A0 H0 H locs) (hA : ∀ q, q < H.size → A1 q → A0 q) (hf : ∀ q, free q → A0 q) (hAX : ∀ q, q < H.size → AX q → A0 q)
    (kx : ∀ (E : String) (ce : Cell) (q9 : Addr) (u : SX) (t : State) (H1 : Heap) (locs1 : List Loc), t.heap = H1 → s.vm.Alike t.vm → px u → BX E u t → H.size ≤ H1.size → (∀ q : Nat, q < H.size → ¬ AX q → H1[q]? = H[q]?) → va_S A0 H0 H1 locs1 → H1[q9]? = some ce → ce.vm = .none → s.vm.findClass E = some ce.cls → vx_W p l e R s m args below meth c H1 locs1 (cells + mc) (slots + ms) Q (F0 m pc ls rest) q9)
    (kk : ∀ (r : UInt64) (u : S) (t : State) (H1 : Heap) (locs1 : List Loc), t.heap = H1 → s.vm.Alike t.vm → post r u → B u t → H.size ≤ H1.size → (∀ q : Nat, q < H.size → ¬ A1 q → H1[q]? = H[q]?) → va_S A0 H0 H1 locs1 → W p l e R s m args below meth c H1 locs1 (cells + mc) (slots + ms) Q (F0 m (pc + 3) ls (.double r :: rest))) : W p l e R s m args below meth c H locs cells slots Q (F0 m pc ls st0) := by
  intro T hT X
  rcases hr T hT X with ⟨v, st₀, t, T', L, h0, X', hL, e1, e2, ⟨⟨r, u, hv, hp, hb⟩, hF⟩, st⟩ | ⟨q, st₀, t, T', L, E, ce, h0, X', hL, e1, e2, ⟨u, hp, hb, hF⟩, hce, hcv, hcl, st⟩
  · cases hv
    obtain ⟨k1, k2, k3⟩ := vx_keep h0 e1 hS hA hf hL hF
    obtain ⟨t2, a1, b1⟩ := kk r u t T'.heap (locs ++ L) e1.symm (by rw [← e2]; exact X'.warmed.alike) hp hb k1 k2 k3 T' rfl X'
    exact ⟨t2, st t2 a1, b1⟩
  · obtain ⟨k1, k2, k3⟩ := vx_keep h0 e1 hS hAX hf hL hF
    obtain ⟨t2, a1, b1⟩ := kx E ce q u t T'.heap (locs ++ L) e1.symm (by rw [← e2]; exact X'.warmed.alike) hp hb k1 k2 k3 (by rw [e1]; exact hce) hcv hcl T' rfl X'
    exact ⟨t2, st.trans a1, b1⟩
theorem vx_callv {S SX : Type} {post : S → Prop} {px : SX → Prop} {B : S → State → Prop} {BX : String → SX → State → Prop} {AX : Nat → Prop} (hr : vx_Run p l e R s m args below meth c H locs cells slots mc ms (F0 m pc ls st0) rest (va_Qv post B A1 a) (vx_X px BX AX) free) (hS : va_S A0 H0 H locs) (hA : ∀ q, q < H.size → A1 q → A0 q) (hf : ∀ q, free q → A0 q) (hAX : ∀ q, q < H.size → AX q → A0 q)
    (kx : ∀ (E : String) (ce : Cell) (q9 : Addr) (u : SX) (t : State) (H1 : Heap) (locs1 : List Loc), t.heap = H1 → s.vm.Alike t.vm → px u → BX E u t → H.size ≤ H1.size → (∀ q : Nat, q < H.size → ¬ AX q → H1[q]? = H[q]?) → va_S A0 H0 H1 locs1 → H1[q9]? = some ce → ce.vm = .none → s.vm.findClass E = some ce.cls → vx_W p l e R s m args below meth c H1 locs1 (cells + mc) (slots + ms) Q (F0 m pc ls rest) q9)
    (kk : ∀ (u : S) (t : State) (H1 : Heap) (locs1 : List Loc), t.heap = H1 → s.vm.Alike t.vm → post u → B u t → H.size ≤ H1.size → (∀ q : Nat, q < H.size → ¬ A1 q → H1[q]? = H[q]?) → va_S A0 H0 H1 locs1 → W p l e R s m args below meth c H1 locs1 (cells + mc) (slots + ms) Q (F0 m (pc + 3) ls (rest))) : W p l e R s m args below meth c H locs cells slots Q (F0 m pc ls st0) := by
  intro T hT X
  rcases hr T hT X with ⟨v, st₀, t, T', L, h0, X', hL, e1, e2, ⟨⟨u, hv, hp, hb⟩, hF⟩, st⟩ | ⟨q, st₀, t, T', L, E, ce, h0, X', hL, e1, e2, ⟨u, hp, hb, hF⟩, hce, hcv, hcl, st⟩
  · cases hv
    obtain ⟨k1, k2, k3⟩ := vx_keep h0 e1 hS hA hf hL hF
    obtain ⟨t2, a1, b1⟩ := kk u t T'.heap (locs ++ L) e1.symm (by rw [← e2]; exact X'.warmed.alike) hp hb k1 k2 k3 T' rfl X'
    exact ⟨t2, st t2 a1, b1⟩
  · obtain ⟨k1, k2, k3⟩ := vx_keep h0 e1 hS hAX hf hL hF
    obtain ⟨t2, a1, b1⟩ := kx E ce q u t T'.heap (locs ++ L) e1.symm (by rw [← e2]; exact X'.warmed.alike) hp hb k1 k2 k3 (by rw [e1]; exact hce) hcv hcl T' rfl X'
    exact ⟨t2, st.trans a1, b1⟩
/-- caught by the row x of this method's table; the rows ahead don't take it -/
theorem vx_catch {own name : String} {E : String} {ce : Cell} {q : Addr} (hown : s.vm.findClass own = some m.cls) (pre : List ExceptionTableEntry) (x : ExceptionTableEntry) (suf : List ExceptionTableEntry) (hsplit : c.exceptionTable.toList = pre ++ x :: suf)
    (hpass : ∀ z ∈ pre, covers z pc = false ∨ (z.catchType ≠ 0 ∧ ∃ nm : String, (Cond.classLink own z.catchType nm).before args s = true ∧ va_Nc E nm s)) (hx : covers x pc = true) (h0 : x.catchType ≠ 0)
    (hlink : (Cond.classLink own x.catchType name).before args s = true) (hcast : (Cond.castable E name).before args s = true) (hcell : H[q]? = some ce) (hv : ce.vm = .none) (hcl : s.vm.findClass E = some ce.cls)
    (kk : W p l e R s m args below meth c H locs cells slots Q (F0 m x.handlerPc ls [.ref q])) : vx_W p l e R s m args below meth c H locs cells slots Q (F0 m pc ls rest) q := by
  intro T hT X
  have hpl : e.platform.magicAccessors = ({} : Platform).magicAccessors := by rw [X.admits.platform]
  obtain ⟨c3, c4, hc3, hc4, hasg⟩ := Cond.castable_spec hcast
  cases Option.some.inj (hc3.symm.trans hcl)
  obtain ⟨c5, hc5, hcl5⟩ := Cond.classLink_spec hown hlink e.platform hpl
  cases Option.some.inj (hc4.symm.trans hc5)
  obtain ⟨vm', X', st⟩ := X.thenCaughtThrough q (g := F0 m pc ls rest) rfl (Steps.refl _) (by rw [hT]; exact hcell) (by rw [hv]; rfl) (by obtain ⟨k9, h9, -⟩ := Vm.findClass_spec hcl; exact ⟨k9, h9⟩) pre x suf hsplit
    (fun z hz => by
      rcases hpass z hz with h | ⟨hz0, nm, hl1, hn1⟩
      · exact Or.inl h
      · obtain ⟨c6, hc6, hcl6⟩ := Cond.classLink_spec hown hl1 e.platform hpl
        obtain ⟨a8, b8, h1, h2, h3⟩ := hn1
        cases Option.some.inj (h1.symm.trans hcl)
        cases Option.some.inj (h2.symm.trans hc6)
        exact Or.inr ⟨hz0, _, hcl6, h3⟩) hx (Or.inr ⟨h0, c4, hcl5, hasg⟩)
  obtain ⟨t, a1, b1⟩ := kk (T.setVm vm') hT X'
  exact ⟨t, st.trans a1, b1⟩
end Rows
section Ends
variable {p : Program} {l : Launch} {e : Env} {R : Room} {s : State} {m : MethodId} {args : Array Value} {below : List Frame} {meth : Method} {c : Code} {H : Heap} {locs : List Loc} {cells slots : Nat} {Q : State → Prop}
variable {mc ms : Nat} {free : Addr → Prop} {A0 A1 : Nat → Prop} {H0 : Heap} {a : Array Value} {ls : Array Slot} {st0 rest : List Value}
variable {Qc : Array Value → State → Outcome → State → Prop} {XC : String → State → State → Prop}
/-- what a body that may throw owes at its end -/
def vx_MQ (below : List Frame) (Qc : Array Value → State → Outcome → State → Prop) (XC : String → State → State → Prop) (a : Array Value) (s : State) (mc ms : Nat) (free : Addr → Prop) : State → Prop := fun t =>
  ∃ o, t.status = .running ∧ Ended t below o ∧ vx_Q Qc XC mc ms free a s o t
theorem vx_ret {g : JFrame} {mc ms : Nat} (k : W p l e R s m args below meth c H locs cells slots (MQ below Qc args s mc ms free) g) : W p l e R s m args below meth c H locs cells slots (vx_MQ below Qc XC args s mc ms free) g := by
  intro T hT X
  obtain ⟨t, a1, o, b1, b2, b3, b4⟩ := k T hT X
  exact ⟨t, a1, o, b1, b2, Or.inl ⟨b3, b4⟩⟩
/-- not caught here: it goes on to the caller -/
theorem vx_widen {g : JFrame} {q : Addr} {k n : Nat} (h1 : cells ≤ k) (h2 : slots ≤ n) (kk : vx_W p l e R s m args below meth c H locs k n Q g q) : vx_W p l e R s m args below meth c H locs cells slots Q g q := fun T hT X => kk T hT (stand_widen X h1 h2)
theorem vx_out {pc : Nat} {E : String} {ce : Cell} {q : Addr} {mc ms : Nat} (hout : ∀ x ∈ c.exceptionTable.toList, covers x pc = false) (hlocks : meth.locks = false) (hcell : H[q]? = some ce) (hv : ce.vm = .none) (hcl : s.vm.findClass E = some ce.cls)
    (hx : ∀ t : State, t.heap = H → s.vm.Alike t.vm → XC E s t) (hf : ∀ z ∈ locs, free z.base) (hc : cells ≤ mc) (hs : slots ≤ ms) :
    vx_W p l e R s m args below meth c H locs cells slots (vx_MQ below Qc XC args s mc ms free) (F0 m pc ls rest) q := by
  intro T hT X
  obtain ⟨st1, hrun, hend, hW, hsm⟩ := X.leaveThrown q (g := F0 m pc ls rest) rfl rfl rfl hout hlocks
  have hcell9 : (T.setFrames (.throwing q :: below)).heap[q]? = some ce := by
    show T.heap[q]? = some ce
    rw [hT]; exact hcell
  exact ⟨_, st1, .threw q, hrun, hend, Or.inr ⟨q, rfl, E, ce, locs, hx _ hT hW.alike, hcell9, hv, hcl, hW, hsm.mono hc hs, hf⟩⟩
theorem vx_frame {U : State} {k n : Nat} (h : s.sameButNew ({ U with vm := s.vm } : State) locs k n) : s.heap.size ≤ U.heap.size ∧ ∀ q : Nat, q < s.heap.size → (∀ z ∈ locs, z.base ≠ q) → U.heap[q]? = s.heap[q]? := by
  obtain ⟨-, h2, -, -, -, h6⟩ := h
  refine ⟨h2, fun q hq hz => ?_⟩
  obtain ⟨c9, e1, e2, e3, e4⟩ := h6 q _ (Array.getElem?_eq_getElem hq)
  have hs : c9.slots = (s.heap[q]).slots := Array.ext_getElem? fun i => e4 i fun hm => hz _ hm rfl
  have h9 : c9 = s.heap[q] := by
    rw [hs] at e2
    exact e2
  have e5 : U.heap[q]? = some c9 := e1
  rw [e5, h9, Array.getElem?_eq_getElem hq]
/-- the words of a throw but the four that speak of the heap -/
def vx_no (w : Cond) : Bool := decide (w ≠ .isRef (.static Bundle.tN "UNASSIGNED_STACK" Bundle.steD)) && decide (w ≠ .isRef (.static Bundle.tN "SUPPRESSED_SENTINEL" Bundle.listD)) && decide (w ≠ .laysStatic Bundle.tN "UNASSIGNED_STACK" Bundle.steD) && decide (w ≠ .laysStatic Bundle.tN "SUPPRESSED_SENTINEL" Bundle.listD)
def vx_at0 (own : String) (ic : Nat) (X : String) (names : List String) : List Cond := (Bundle.ownAtoms0 own ic X names).filter vx_no
def vx_atS (own : String) (ic : Nat) (X : String) (names : List String) : List Cond := (Bundle.ownAtoms own ic X names).filter vx_no
/-- a word that the tables alone decide, or a good one -/
def vx_ot (w : Cond) : Bool := w.onTables || goodWord w
theorem vx_ot_at {args a' : Array Value} {s U : State} {w : Cond} (hW : s.WarmedH U.vm) (hvm : s.vm = U.vm) (hg : vx_ot w = true) (h : w.before args s = true) : w.before a' U = true := by
  simp only [vx_ot, Bool.or_eq_true] at hg
  rcases hg with hg | hg
  · exact va_tabs hg hvm h
  · exact word_at hW (good_of_word hg) h
/-- a list's words: the good ones out of the method's own list, the others by premises of their own -/
theorem vx_hat {args : Array Value} {s : State} {L B : List Cond} (h1 : ∀ w ∈ L.filter goodWord, w.before args s = true) (h2 : ∀ w ∈ L.filter (fun w => !goodWord w), w ∈ B) (h3 : ∀ w ∈ B, w.before args s = true) : ∀ w ∈ L, w.before args s = true := by
  intro w hw
  by_cases g : goodWord w = true
  · exact h1 w (List.mem_filter.mpr ⟨hw, g⟩)
  · refine h3 w (h2 w (List.mem_filter.mpr ⟨hw, ?_⟩))
    show (!goodWord w) = true
    cases hgw : goodWord w
    · rfl
    · exact absurd hgw g
theorem vx_c {args : Array Value} {s : State} {w : Cond} {B : List Cond} (h : w.before args s = true) (t : ∀ w ∈ B, w.before args s = true) : ∀ w' ∈ w :: B, w'.before args s = true := fun w' h' => (List.mem_cons.mp h').elim (fun e => by rw [e]; exact h) (t w')
theorem vx_n {args : Array Value} {s : State} : ∀ w ∈ ([] : List Cond), w.before args s = true := fun _ h => nomatch h
theorem vx_own {args : Array Value} {s : State} {L : List Cond} (h1 : ∀ w ∈ L.filter vx_no, w.before args s = true)
    (hU : (Cond.isRef (.static Bundle.tN "UNASSIGNED_STACK" Bundle.steD)).before args s = true) (hN : (Cond.isRef (.static Bundle.tN "SUPPRESSED_SENTINEL" Bundle.listD)).before args s = true)
    (lU : (Cond.laysStatic Bundle.tN "UNASSIGNED_STACK" Bundle.steD).before args s = true) (lN : (Cond.laysStatic Bundle.tN "SUPPRESSED_SENTINEL" Bundle.listD).before args s = true) : ∀ w ∈ L, w.before args s = true := by
  intro w hw
  by_cases e1 : w = .isRef (.static Bundle.tN "UNASSIGNED_STACK" Bundle.steD)
  · rw [e1]; exact hU
  · by_cases e2 : w = .isRef (.static Bundle.tN "SUPPRESSED_SENTINEL" Bundle.listD)
    · rw [e2]; exact hN
    · by_cases e3 : w = .laysStatic Bundle.tN "UNASSIGNED_STACK" Bundle.steD
      · rw [e3]; exact lU
      · by_cases e4 : w = .laysStatic Bundle.tN "SUPPRESSED_SENTINEL" Bundle.listD
        · rw [e4]; exact lN
        · exact h1 w (List.mem_filter.mpr ⟨hw, by unfold vx_no; rw [decide_eq_true e1, decide_eq_true e2, decide_eq_true e3, decide_eq_true e4]; rfl⟩)
/-- where a static field lies, its class's statics cell in H -/
def vx_L (C n d : String) (A : Nat → Prop) (U : State) (H : Heap) : Prop := ∃ (c : ClassId) (k : Class) (i : Nat) (f : Field) (a : Nat) (cell : Cell), U.vm.findClass C = some c ∧ U.fieldFound? C n d = some (c, k, i, f) ∧ f.isStatic = true ∧ k.statics = some a ∧ H[a]? = some cell ∧ cell.vm.isStatics = true ∧ cell.cls = c ∧ f.slot < cell.slots.size ∧ k.staticTypes[f.slot]? = some f.type ∧ ¬ A a
theorem vx_L.moved {C n d : String} {A : Nat → Prop} {u U : State} {H : Heap} (hvm : u.vm.Alike U.vm) (h : vx_L C n d A u H) : vx_L C n d A U H := by
  obtain ⟨c, k, i, f, a, cell, h1, h2, h3, h4, h5, h6, h7, h8, h9, h10⟩ := h
  obtain ⟨k', hi', he⟩ := State.fieldFound?_setVm hvm h2
  exact ⟨c, k', i, f, a, cell, by rw [hvm.findClass]; exact h1, hi', h3, by rw [he]; exact h4, h5, h6, h7, h8, by rw [he]; exact h9, h10⟩
theorem vx_L.kept {C n d : String} {A : Nat → Prop} {U : State} {H H1 : Heap} (h : vx_L C n d A U H) (hq : ∀ a : Nat, a < H.size → ¬ A a → H1[a]? = H[a]?) : vx_L C n d A U H1 := by
  obtain ⟨c, k, i, f, a, cell, h1, h2, h3, h4, h5, h6, h7, h8, h9, h10⟩ := h
  exact ⟨c, k, i, f, a, cell, h1, h2, h3, h4, by rw [hq a (Array.getElem?_eq_some_iff.mp h5).1 h10]; exact h5, h6, h7, h8, h9, h10⟩
theorem vx_L.narrow {C n d : String} {A B : Nat → Prop} {U : State} {H : Heap} (h : vx_L C n d A U H) (hAB : ∀ q, B q → A q) : vx_L C n d B U H := by
  obtain ⟨c, k, i, f, a, cell, h1, h2, h3, h4, h5, h6, h7, h8, h9, h10⟩ := h
  exact ⟨c, k, i, f, a, cell, h1, h2, h3, h4, h5, h6, h7, h8, h9, fun z => h10 (hAB _ z)⟩
theorem vx_L.word {C n d : String} {A : Nat → Prop} {s : State} {args : Array Value} (h : vx_L C n d A s s.heap) : (Cond.laysStatic C n d).before args s = true := by
  obtain ⟨c, k, i, f, a, cell, h1, h2, h3, h4, h5, h6, h7, h8, h9, -⟩ := h
  show (Cond.laysStatic C n d).holds args s none s [] = true
  exact Cond.laysStatic_of h1 h2 h3 h4 h5 h6 h7 h8 h9
/-- .. and what it holds: null or some reference -/
def vx_Zq (C n d : String) (A : Nat → Prop) (U : State) (H : Heap) : Prop := va_Zq C n d A U H ∧ vx_L C n d A U H
theorem vx_Zq.moved {C n d : String} {A : Nat → Prop} {u U : State} {H : Heap} (hvm : u.vm.Alike U.vm) (h : vx_Zq C n d A u H) : vx_Zq C n d A U H := ⟨va_Zq.moved hvm h.1, vx_L.moved hvm h.2⟩
theorem vx_Zq.kept {C n d : String} {A : Nat → Prop} {U : State} {H H1 : Heap} (h : vx_Zq C n d A U H) (hq : ∀ a : Nat, a < H.size → ¬ A a → H1[a]? = H[a]?) : vx_Zq C n d A U H1 := ⟨va_Zq.kept h.1 hq, vx_L.kept h.2 hq⟩
theorem vx_Zq.narrow {C n d : String} {A B : Nat → Prop} {U : State} {H : Heap} (h : vx_Zq C n d A U H) (hAB : ∀ q, B q → A q) : vx_Zq C n d B U H := ⟨va_Zq.narrow h.1 hAB, vx_L.narrow h.2 hAB⟩
theorem vx_Zqof {args : Array Value} {s : State} {C n d : String} {A : Nat → Prop} (hl : (Cond.laysStatic C n d).before args s = true) (hini : (Cond.initialized C).before args s = true) (h : (Cond.isRef (.static C n d)).before args s = true) (hA : ∀ a : Nat, a < s.heap.size → ¬ A a) : vx_Zq C n d A s s.heap := by
  refine ⟨va_Zqof hl hini h hA, ?_⟩
  obtain ⟨c, k, i, f, a, cell, h1, h2, h3, h4, h5, h6, h7, h8, h9⟩ := Cond.laysStatic_spec hl
  exact ⟨c, k, i, f, a, cell, h1, h2, h3, h4, h5, h6, h7, h8, h9, hA a (Array.getElem?_eq_some_iff.mp h5).1⟩
theorem vx_isRef {C n d : String} {v : Value} {A : Nat → Prop} {s : State} {args : Array Value} (h : va_Z C n d v A s s.heap) (hv : v.isRef = true) : (Cond.isRef (.static C n d)).before args s = true := by
  obtain ⟨cf, kf, fi, f, a, cell, h1, h2, h3, h4, h5, h6, h7, -⟩ := h
  have he : (Term.static C n d).eval args s none [] s = some v := by
    simp [Term.eval, State.fieldNamed?, h1, h2, h4, h5, h6, h7]
  simp only [Cond.before, Cond.holds, Cond.value, he]
  cases v <;> simp_all [Value.isRef]
theorem vx_isRefq {C n d : String} {A : Nat → Prop} {s : State} {args : Array Value} (h : va_Zq C n d A s s.heap) : (Cond.isRef (.static C n d)).before args s = true := by
  rcases h with h | ⟨t, h⟩
  · exact vx_isRef h rfl
  · exact vx_isRef h rfl
/-- the same frame, seen from here: as if the method were called anew in this heap -/
theorem vx_rebase {T : State} (X : Stand p l e R s m args below meth c T locs cells slots) {R' : Room} (hf : R'.frames ≤ R.frames) (hl : R'.locals ≤ R.locals) (hc : cells + R'.cells ≤ R.cells) (hs : slots + R'.slots ≤ R.slots) :
    Stand p l e R' ((T.setVm s.vm).setFrames (.invoking m args :: below)) m args below meth c T [] 0 0 := by
  have htop : (T.setVm s.vm).topJava?.isSome := X.here.top
  have hF : ((T.setVm s.vm).setFrames (.invoking m args :: below)).frames = .invoking m args :: below := State.frames_setFrames _ (State.cur_lt_of_top htop)
  obtain ⟨g₀, hg0⟩ := Option.isSome_iff_exists.mp htop
  obtain ⟨r, hr⟩ := State.topJava?_eq_some.mp hg0
  have hl9 : e.platform.stackLimits (T.setVm s.vm).me = e.platform.stackLimits s.me := X.limits
  have hb9 : (T.setVm s.vm).me.stackBytes = s.me.stackBytes := X.bytes
  refine ⟨X.admits, X.cas, X.clock, hF, ?_, X.hears, X.method, X.code, X.here, X.tail, X.warmed, ?_, ?_, ?_⟩
  · have h := X.room
    have hU : ((T.setVm s.vm).setFrames (.invoking m args :: below)).localsInUse = s.localsInUse := by
      rw [State.localsInUse_invoking hF (meth := meth) (c := c) X.method X.code, State.localsInUse_invoking X.frames X.method X.code]
    simp only [State.hasRoom, Bool.and_eq_true, decide_eq_true_eq] at h ⊢
    obtain ⟨⟨⟨⟨h1, h2, h3, h4, h5, h6⟩, h7⟩, h8⟩, h9⟩ := h
    rw [X.frames, List.length_cons] at h2 h3
    have q1 := X.heapSize
    have q2 := X.used
    simp only [hF, hU, List.length_cons, State.stackLimits_setFrames, State.stackBytes_setFrames, hl9, hb9]
    refine ⟨⟨⟨⟨by omega, by omega, by omega, by omega, by omega, h6⟩, ?_⟩, ?_⟩, X.book⟩
    · show T.heap.size + R'.cells ≤ e.platform.maxCells
      omega
    · show T.slotsUsed + R'.slots ≤ e.platform.maxSlots
      omega
  · rw [State.stackLimits_setFrames]; rfl
  · rw [State.stackBytes_setFrames]; rfl
  · refine ⟨?_, Nat.le_refl _, Nat.le_refl _, ?_, ?_, fun a c9 h9 => ⟨c9, h9, rfl, rfl, fun _ _ => rfl⟩⟩
    · obtain ⟨t, ht, -⟩ := State.frames_cons hr
      show T.setVm s.vm = { ((T.setVm s.vm).setFrames (.invoking m args :: below)).setFrames (T.setVm s.vm).frames with heap := T.heap, slotsUsed := T.slotsUsed }
      rw [State.setFrames_setFrames, State.setFrames_self ht]
      rfl
    · show T.slotsUsed = T.slotsUsed + ((T.heap.toList.drop T.heap.size).map (·.slots.size)).sum
      rw [List.drop_eq_nil_of_le (Nat.le_of_eq Array.length_toList)]
      rfl
    · show ((T.heap.toList.drop T.heap.size).map (·.slots.size)).sum ≤ 0
      rw [List.drop_eq_nil_of_le (Nat.le_of_eq Array.length_toList)]
      exact Nat.le_refl _
/-- 'throw new E()': new; dup; invokespecial; athrow -/
theorem vx_throw0 {cc : ByteArray} {pc : Nat} (hexec : p.tables.exec = Jvm.exec) (hb : c.code = cc) (hl : l.stackTraces = false) {own cls : String} {names : List String} {ik ic mc ms : Nat} {A : Nat → Prop}
    (hown : s.vm.findClass own = some m.cls) (hcls : Bundle.fit cls = true) (hnames : ∀ n ∈ names, Bundle.fit n = true)
    (hk : (Cond.classLink own ik cls).before args s = true) (hini : (Cond.initialized cls).before args s = true) (hat : ∀ w ∈ vx_at0 own ic cls names, w.before args s = true)
    (hgood : ∀ w ∈ Cond.classLink own ik cls :: Cond.initialized cls :: vx_at0 own ic cls names, vx_ot w = true)
    (hU : vx_Zq Bundle.tN "UNASSIGNED_STACK" Bundle.steD A s s.heap) (hN : vx_Zq Bundle.tN "SUPPRESSED_SENTINEL" Bundle.listD A s s.heap) (hS : va_S A s.heap H locs) (hsize : ls.size = c.maxLocals)
    (d0 : decode cc pc = .ok (.new ik, 3)) (d3 : decode cc (pc + 3) = .ok (.dup, 1)) (d4 : decode cc (pc + 4) = .ok (.invokespecial ic, 3)) (d7 : decode cc (pc + 7) = .ok (.athrow, 1))
    (hout : ∀ x ∈ c.exceptionTable.toList, covers x (pc + 7) = false)
    (hRframes : names.length + 3 < R.frames) (hRlocals : (rest.map fun v => v.category).sum + (13 * (names.length + 1) + 42) ≤ R.locals) (hRcells : cells + 1 ≤ R.cells) (hRslots : slots + 6 ≤ R.slots) (hlocks : meth.locks = false)
    (hx : ∀ t : State, s.vm.Alike t.vm → H.size ≤ t.heap.size → (∀ q : Nat, q < H.size → t.heap[q]? = H[q]?) → XC cls s t)
    (hf : ∀ z ∈ locs, free z.base) (hc : cells + 1 ≤ mc) (hs : slots + 6 ≤ ms) :
    W p l e R s m args below meth c H locs cells slots (vx_MQ below Qc XC args s mc ms free) (F0 m pc ls rest) := by
  intro T hT X
  have htr : e.platform.stackTraces = false := (show e.platform.stackTraces = l.stackTraces by rw [X.admits.platform]).trans hl
  have Y := vx_rebase X (R' := { frames := R.frames, locals := R.locals, cells := 1, slots := 6 }) (Nat.le_refl _) (Nat.le_refl _) hRcells hRslots
  obtain ⟨s', hA⟩ : ∃ z, z = (T.setVm s.vm).setFrames (.invoking m args :: below) := ⟨_, rfl⟩
  rw [← hA] at Y
  have hvm : s'.vm = s.vm := by rw [hA]; rfl
  have hhp : s'.heap = H := by rw [hA]; exact hT
  have hW0 : s.WarmedH s'.vm := by rw [hvm]; exact State.WarmedH.refl s
  have hat' : ∀ w ∈ vx_at0 own ic cls names, w.before args s' = true := fun w hw => vx_ot_at hW0 hvm.symm (hgood w (List.mem_cons_of_mem _ (List.mem_cons_of_mem _ hw))) (hat w hw)
  have hk' : (Cond.classLink own ik cls).before args s' = true := vx_ot_at hW0 hvm.symm (hgood _ List.mem_cons_self) hk
  have hini' : (Cond.initialized cls).before args s' = true := vx_ot_at hW0 hvm.symm (hgood _ (List.mem_cons_of_mem _ List.mem_cons_self)) hini
  have hU' : vx_Zq Bundle.tN "UNASSIGNED_STACK" Bundle.steD A s' s'.heap := by rw [hhp]; exact vx_Zq.moved hW0.alike (hU.kept hS.2.1)
  have hN' : vx_Zq Bundle.tN "SUPPRESSED_SENTINEL" Bundle.listD A s' s'.heap := by rw [hhp]; exact vx_Zq.moved hW0.alike (hN.kept hS.2.1)
  have h : ∀ w ∈ Bundle.ownAtoms0 own ic cls names, w.before args s' = true := vx_own hat' (vx_isRefq hU'.1) (vx_isRefq hN'.1) hU'.2.word hN'.2.word
  have hown' : s'.vm.findClass own = some m.cls := by rw [hvm]; exact hown
  have hins : (Cond.instantiable cls 6).before args s' = true := h _ (by simp [Bundle.ownAtoms0])
  obtain ⟨vm₁, cX, kX, hfX, hkX, -, -, X₁, st1⟩ := Y.newCold hexec (own := own) (C := cls) (index := ik) (n := 6) hown' hk' hins hini'
    (g := F0 m pc ls rest) rfl (by rw [hb]; exact d0) (Nat.le_refl _) (Nat.le_refl _)
  generalize hT1 : (T.setVm vm₁).pushCell { cls := cX, slots := kX.instanceTypes.map defaultValue, vm := .none } = T1 at X₁ st1
  have hcat : (Value.ref T.heap.size).category = 1 := rfl
  have hcellA : T1.heap[T.heap.size]? = some (freshCell cX kX) := by rw [← hT1]; exact State.heap_pushCell_size _ _
  have d3' : decode c.code (pc + 3) = .ok (.dup, 1) := by rw [hb]; exact d3
  obtain ⟨U, hsteps, hrun, hend, hW, hsame, ce, hce, hO⟩ := X₁.ctorThrow0 hexec htr (own := own) (cls := cls) (names := names) (ic := ic) hown' hcls hnames h (fun x hx => nomatch hx) hfX hkX hcellA (by rw [hhp, hT]; exact Nat.le_refl _)
    (g := { method := m, pc := pc + 4, locals := ls, stack := .ref T.heap.size :: .ref T.heap.size :: rest, locked := none }) rfl hsize rfl rfl (rest := rest) rfl
    (by rw [hb]; exact d4) (by rw [hb]; exact d7) hout hRframes (by simp only [List.map_cons, List.sum_cons, hcat]; omega) hlocks
  obtain ⟨f1, f2⟩ := vx_frame hsame
  rw [hhp] at f1 f2
  have hWs : s.WarmedH U.vm := State.WarmedH.trans hW0 hW
  have hcl : s.vm.findClass cls = some ce.cls := by
    have h9 := hO.cls
    rw [hvm] at h9
    exact h9
  have hall : s.sameButNew ({ U with vm := s.vm } : State) locs mc ms := by
    subst hA
    obtain ⟨e1, e2⟩ := hsame
    rw [State.setFrames_setFrames] at e1
    have h2 : (T.setVm s.vm).sameButNew ({ U with vm := s.vm } : State) [] (0 + 1) (0 + 6) := ⟨e1, e2⟩
    have h3 := X.same.trans h2
    rw [List.append_nil] at h3
    exact h3.mono hc hs
  refine ⟨U, ?_, .threw T.heap.size, hrun, hend, Or.inr ⟨T.heap.size, rfl, cls, ce, locs, hx U hWs.alike f1 (fun q hq => f2 q hq (fun z hz => nomatch hz)), hce, hO.vm, hcl, hWs, hall, hf⟩⟩
  refine st1 _ ?_
  show Steps p.tables e below (T1.setTop { method := m, pc := pc + 3, locals := ls, stack := .ref T.heap.size :: rest, locked := none }) _
  jvm_step X₁.here [X₁.here.top, hexec, d3', Value.category]
  exact hsteps
/-- 'throw new E("text")': new; dup; ldc; invokespecial; athrow -/
theorem vx_throwS {cc : ByteArray} {pc : Nat} (hexec : p.tables.exec = Jvm.exec) (hb : c.code = cc) (hl : l.stackTraces = false) {own cls text : String} {names : List String} {ik is ic mc ms sa : Nat} {A : Nat → Prop}
    (hown : s.vm.findClass own = some m.cls) (hcls : Bundle.fit cls = true) (hnames : ∀ n ∈ names, Bundle.fit n = true)
    (hk : (Cond.classLink own ik cls).before args s = true) (hini : (Cond.initialized cls).before args s = true) (hstr : vk_R own is text sa s) (hat : ∀ w ∈ vx_atS own ic cls names, w.before args s = true)
    (hgood : ∀ w ∈ Cond.classLink own ik cls :: Cond.initialized cls :: vx_atS own ic cls names, vx_ot w = true)
    (hU : vx_Zq Bundle.tN "UNASSIGNED_STACK" Bundle.steD A s s.heap) (hN : vx_Zq Bundle.tN "SUPPRESSED_SENTINEL" Bundle.listD A s s.heap) (hS : va_S A s.heap H locs) (hsize : ls.size = c.maxLocals)
    (d0 : decode cc pc = .ok (.new ik, 3)) (d3 : decode cc (pc + 3) = .ok (.dup, 1)) (d4 : decode cc (pc + 4) = .ok (.ldc is, 2)) (d6 : decode cc (pc + 6) = .ok (.invokespecial ic, 3)) (d9 : decode cc (pc + 9) = .ok (.athrow, 1))
    (hout : ∀ x ∈ c.exceptionTable.toList, covers x (pc + 9) = false)
    (hRframes : names.length + 3 < R.frames) (hRlocals : (rest.map fun v => v.category).sum + (13 * (names.length + 1) + 43) ≤ R.locals) (hRcells : cells + 1 ≤ R.cells) (hRslots : slots + 6 ≤ R.slots) (hlocks : meth.locks = false)
    (hx : ∀ t : State, s.vm.Alike t.vm → H.size ≤ t.heap.size → (∀ q : Nat, q < H.size → t.heap[q]? = H[q]?) → XC cls s t)
    (hf : ∀ z ∈ locs, free z.base) (hc : cells + 1 ≤ mc) (hs : slots + 6 ≤ ms) :
    W p l e R s m args below meth c H locs cells slots (vx_MQ below Qc XC args s mc ms free) (F0 m pc ls rest) := by
  intro T hT X
  have htr : e.platform.stackTraces = false := (show e.platform.stackTraces = l.stackTraces by rw [X.admits.platform]).trans hl
  have Y := vx_rebase X (R' := { frames := R.frames, locals := R.locals, cells := 1, slots := 6 }) (Nat.le_refl _) (Nat.le_refl _) hRcells hRslots
  obtain ⟨s', hA⟩ : ∃ z, z = (T.setVm s.vm).setFrames (.invoking m args :: below) := ⟨_, rfl⟩
  rw [← hA] at Y
  have hvm : s'.vm = s.vm := by rw [hA]; rfl
  have hhp : s'.heap = H := by rw [hA]; exact hT
  have hW0 : s.WarmedH s'.vm := by rw [hvm]; exact State.WarmedH.refl s
  have hat' : ∀ w ∈ vx_atS own ic cls names, w.before args s' = true := fun w hw => vx_ot_at hW0 hvm.symm (hgood w (List.mem_cons_of_mem _ (List.mem_cons_of_mem _ hw))) (hat w hw)
  have hk' : (Cond.classLink own ik cls).before args s' = true := vx_ot_at hW0 hvm.symm (hgood _ List.mem_cons_self) hk
  have hini' : (Cond.initialized cls).before args s' = true := vx_ot_at hW0 hvm.symm (hgood _ (List.mem_cons_of_mem _ List.mem_cons_self)) hini
  have hU' : vx_Zq Bundle.tN "UNASSIGNED_STACK" Bundle.steD A s' s'.heap := by rw [hhp]; exact vx_Zq.moved hW0.alike (hU.kept hS.2.1)
  have hN' : vx_Zq Bundle.tN "SUPPRESSED_SENTINEL" Bundle.listD A s' s'.heap := by rw [hhp]; exact vx_Zq.moved hW0.alike (hN.kept hS.2.1)
  have h : ∀ w ∈ Bundle.ownAtoms own ic cls names, w.before args s' = true := vx_own hat' (vx_isRefq hU'.1) (vx_isRefq hN'.1) hU'.2.word hN'.2.word
  have hown' : s'.vm.findClass own = some m.cls := by rw [hvm]; exact hown
  have hins : (Cond.instantiable cls 6).before args s' = true := h _ (by simp [Bundle.ownAtoms])
  obtain ⟨vm₁, cX, kX, hfX, hkX, -, -, X₁, st1⟩ := Y.newCold hexec (own := own) (C := cls) (index := ik) (n := 6) hown' hk' hins hini'
    (g := F0 m pc ls rest) rfl (by rw [hb]; exact d0) (Nat.le_refl _) (Nat.le_refl _)
  generalize hT1 : (T.setVm vm₁).pushCell { cls := cX, slots := kX.instanceTypes.map defaultValue, vm := .none } = T1 at X₁ st1
  have hcat : (Value.ref T.heap.size).category = 1 := rfl
  have hcellA : T1.heap[T.heap.size]? = some (freshCell cX kX) := by rw [← hT1]; exact State.heap_pushCell_size _ _
  have d3' : decode c.code (pc + 3) = .ok (.dup, 1) := by rw [hb]; exact d3
  have d4' : decode c.code (pc + 4) = .ok (.ldc is, 2) := by rw [hb]; exact d4
  have hstr' : vk_R own is text sa s' := vk_R.warm hW0 hstr
  obtain ⟨U, hsteps, hrun, hend, hW, hsame, ce, hce, hO⟩ := X₁.ctorThrowS hexec htr (own := own) (cls := cls) (names := names) (ic := ic) hown' hcls hnames h (fun x hx => nomatch hx) hfX hkX hcellA (by rw [hhp, hT]; exact Nat.le_refl _) (msg := .ref sa) rfl
    (g := { method := m, pc := pc + 6, locals := ls, stack := .ref sa :: .ref T.heap.size :: .ref T.heap.size :: rest, locked := none }) rfl hsize rfl rfl (rest := rest) rfl
    (by rw [hb]; exact d6) (by rw [hb]; exact d9) hout hRframes (by simp only [List.map_cons, List.sum_cons, hcat]; omega) hlocks
  obtain ⟨f1, f2⟩ := vx_frame hsame
  rw [hhp] at f1 f2
  have hWs : s.WarmedH U.vm := State.WarmedH.trans hW0 hW
  have hcl : s.vm.findClass cls = some ce.cls := by
    have h9 := hO.cls
    rw [hvm] at h9
    exact h9
  have hall : s.sameButNew ({ U with vm := s.vm } : State) locs mc ms := by
    subst hA
    obtain ⟨e1, e2⟩ := hsame
    rw [State.setFrames_setFrames] at e1
    have h2 : (T.setVm s.vm).sameButNew ({ U with vm := s.vm } : State) [] (0 + 1) (0 + 6) := ⟨e1, e2⟩
    have h3 := X.same.trans h2
    rw [List.append_nil] at h3
    exact h3.mono hc hs
  refine ⟨U, ?_, .threw T.heap.size, hrun, hend, Or.inr ⟨T.heap.size, rfl, cls, ce, locs, hx U hWs.alike f1 (fun q hq => f2 q hq (fun z hz => nomatch hz)), hce, hO.vm, hcl, hWs, hall, hf⟩⟩
  refine st1 _ ?_
  show Steps p.tables e below (T1.setTop { method := m, pc := pc + 3, locals := ls, stack := .ref T.heap.size :: rest, locked := none }) _
  jvm_step X₁.here [X₁.here.top, hexec, d3', Value.category]
  exact X₁.ldcString hexec (own := own) (text := text) (index := is) (a := sa) hown' hstr'.1 hstr'.2
    (g := { method := m, pc := pc + 4, locals := ls, stack := .ref T.heap.size :: .ref T.heap.size :: rest, locked := none }) rfl d4' _ hsteps
/-- 'throw new E("text")', the text by a wide index -/
theorem vx_throwSW {cc : ByteArray} {pc : Nat} (hexec : p.tables.exec = Jvm.exec) (hb : c.code = cc) (hl : l.stackTraces = false) {own cls text : String} {names : List String} {ik is ic mc ms sa : Nat} {A : Nat → Prop}
    (hown : s.vm.findClass own = some m.cls) (hcls : Bundle.fit cls = true) (hnames : ∀ n ∈ names, Bundle.fit n = true)
    (hk : (Cond.classLink own ik cls).before args s = true) (hini : (Cond.initialized cls).before args s = true) (hstr : vk_R own is text sa s) (hat : ∀ w ∈ vx_atS own ic cls names, w.before args s = true)
    (hgood : ∀ w ∈ Cond.classLink own ik cls :: Cond.initialized cls :: vx_atS own ic cls names, vx_ot w = true)
    (hU : vx_Zq Bundle.tN "UNASSIGNED_STACK" Bundle.steD A s s.heap) (hN : vx_Zq Bundle.tN "SUPPRESSED_SENTINEL" Bundle.listD A s s.heap) (hS : va_S A s.heap H locs) (hsize : ls.size = c.maxLocals)
    (d0 : decode cc pc = .ok (.new ik, 3)) (d3 : decode cc (pc + 3) = .ok (.dup, 1)) (d4 : decode cc (pc + 4) = .ok (.ldc_w is, 3)) (d7 : decode cc (pc + 7) = .ok (.invokespecial ic, 3)) (d10 : decode cc (pc + 10) = .ok (.athrow, 1))
    (hout : ∀ x ∈ c.exceptionTable.toList, covers x (pc + 10) = false)
    (hRframes : names.length + 3 < R.frames) (hRlocals : (rest.map fun v => v.category).sum + (13 * (names.length + 1) + 43) ≤ R.locals) (hRcells : cells + 1 ≤ R.cells) (hRslots : slots + 6 ≤ R.slots) (hlocks : meth.locks = false)
    (hx : ∀ t : State, s.vm.Alike t.vm → H.size ≤ t.heap.size → (∀ q : Nat, q < H.size → t.heap[q]? = H[q]?) → XC cls s t)
    (hf : ∀ z ∈ locs, free z.base) (hc : cells + 1 ≤ mc) (hs : slots + 6 ≤ ms) :
    W p l e R s m args below meth c H locs cells slots (vx_MQ below Qc XC args s mc ms free) (F0 m pc ls rest) := by
  intro T hT X
  have htr : e.platform.stackTraces = false := (show e.platform.stackTraces = l.stackTraces by rw [X.admits.platform]).trans hl
  have Y := vx_rebase X (R' := { frames := R.frames, locals := R.locals, cells := 1, slots := 6 }) (Nat.le_refl _) (Nat.le_refl _) hRcells hRslots
  obtain ⟨s', hA⟩ : ∃ z, z = (T.setVm s.vm).setFrames (.invoking m args :: below) := ⟨_, rfl⟩
  rw [← hA] at Y
  have hvm : s'.vm = s.vm := by rw [hA]; rfl
  have hhp : s'.heap = H := by rw [hA]; exact hT
  have hW0 : s.WarmedH s'.vm := by rw [hvm]; exact State.WarmedH.refl s
  have hat' : ∀ w ∈ vx_atS own ic cls names, w.before args s' = true := fun w hw => vx_ot_at hW0 hvm.symm (hgood w (List.mem_cons_of_mem _ (List.mem_cons_of_mem _ hw))) (hat w hw)
  have hk' : (Cond.classLink own ik cls).before args s' = true := vx_ot_at hW0 hvm.symm (hgood _ List.mem_cons_self) hk
  have hini' : (Cond.initialized cls).before args s' = true := vx_ot_at hW0 hvm.symm (hgood _ (List.mem_cons_of_mem _ List.mem_cons_self)) hini
  have hU' : vx_Zq Bundle.tN "UNASSIGNED_STACK" Bundle.steD A s' s'.heap := by rw [hhp]; exact vx_Zq.moved hW0.alike (hU.kept hS.2.1)
  have hN' : vx_Zq Bundle.tN "SUPPRESSED_SENTINEL" Bundle.listD A s' s'.heap := by rw [hhp]; exact vx_Zq.moved hW0.alike (hN.kept hS.2.1)
  have h : ∀ w ∈ Bundle.ownAtoms own ic cls names, w.before args s' = true := vx_own hat' (vx_isRefq hU'.1) (vx_isRefq hN'.1) hU'.2.word hN'.2.word
  have hown' : s'.vm.findClass own = some m.cls := by rw [hvm]; exact hown
  have hins : (Cond.instantiable cls 6).before args s' = true := h _ (by simp [Bundle.ownAtoms])
  obtain ⟨vm₁, cX, kX, hfX, hkX, -, -, X₁, st1⟩ := Y.newCold hexec (own := own) (C := cls) (index := ik) (n := 6) hown' hk' hins hini'
    (g := F0 m pc ls rest) rfl (by rw [hb]; exact d0) (Nat.le_refl _) (Nat.le_refl _)
  generalize hT1 : (T.setVm vm₁).pushCell { cls := cX, slots := kX.instanceTypes.map defaultValue, vm := .none } = T1 at X₁ st1
  have hcat : (Value.ref T.heap.size).category = 1 := rfl
  have hcellA : T1.heap[T.heap.size]? = some (freshCell cX kX) := by rw [← hT1]; exact State.heap_pushCell_size _ _
  have d3' : decode c.code (pc + 3) = .ok (.dup, 1) := by rw [hb]; exact d3
  have d4' : decode c.code (pc + 4) = .ok (.ldc_w is, 3) := by rw [hb]; exact d4
  have hstr' : vk_R own is text sa s' := vk_R.warm hW0 hstr
  obtain ⟨U, hsteps, hrun, hend, hW, hsame, ce, hce, hO⟩ := X₁.ctorThrowS hexec htr (own := own) (cls := cls) (names := names) (ic := ic) hown' hcls hnames h (fun x hx => nomatch hx) hfX hkX hcellA (by rw [hhp, hT]; exact Nat.le_refl _) (msg := .ref sa) rfl
    (g := { method := m, pc := pc + 7, locals := ls, stack := .ref sa :: .ref T.heap.size :: .ref T.heap.size :: rest, locked := none }) rfl hsize rfl rfl (rest := rest) rfl
    (by rw [hb]; exact d7) (by rw [hb]; exact d10) hout hRframes (by simp only [List.map_cons, List.sum_cons, hcat]; omega) hlocks
  obtain ⟨f1, f2⟩ := vx_frame hsame
  rw [hhp] at f1 f2
  have hWs : s.WarmedH U.vm := State.WarmedH.trans hW0 hW
  have hcl : s.vm.findClass cls = some ce.cls := by
    have h9 := hO.cls
    rw [hvm] at h9
    exact h9
  have hall : s.sameButNew ({ U with vm := s.vm } : State) locs mc ms := by
    subst hA
    obtain ⟨e1, e2⟩ := hsame
    rw [State.setFrames_setFrames] at e1
    have h2 : (T.setVm s.vm).sameButNew ({ U with vm := s.vm } : State) [] (0 + 1) (0 + 6) := ⟨e1, e2⟩
    have h3 := X.same.trans h2
    rw [List.append_nil] at h3
    exact h3.mono hc hs
  refine ⟨U, ?_, .threw T.heap.size, hrun, hend, Or.inr ⟨T.heap.size, rfl, cls, ce, locs, hx U hWs.alike f1 (fun q hq => f2 q hq (fun z hz => nomatch hz)), hce, hO.vm, hcl, hWs, hall, hf⟩⟩
  refine st1 _ ?_
  show Steps p.tables e below (T1.setTop { method := m, pc := pc + 3, locals := ls, stack := .ref T.heap.size :: rest, locked := none }) _
  jvm_step X₁.here [X₁.here.top, hexec, d3', Value.category]
  exact X₁.ldcStringW hexec (own := own) (text := text) (index := is) (a := sa) hown' hstr'.1 hstr'.2
    (g := { method := m, pc := pc + 4, locals := ls, stack := .ref T.heap.size :: .ref T.heap.size :: rest, locked := none }) rfl d4' _ hsteps
end Ends
section Bodies
variable {l : Launch}
theorem vx_ofW {y : MethodName} {ws ws' : List Cond} {rm : Room} {Pc : Array Value → State → Prop} {Qc : Array Value → State → Outcome → State → Prop} {XC : String → State → State → Prop} {mc ms : Nat} {free : Addr → Prop} {cc : ByteArray} {maxL : Nat} {ret : Option FieldType}
    (hy : plainName y.cls = true) (hw : ws = Cond.code y cc maxL ret :: ws')
    (body : ∀ p e s m args below meth c s₁, BodyLoose p l y (headSpec ws rm) cc maxL ret e s m args below meth c s₁ → c.maxLocals = maxL → (∀ x ∈ c.exceptionTable.toList, False) → Pc args s →
      W p l e (headSpec ws rm).room s m args below meth c s.heap [] 0 0 (vx_MQ below Qc XC args s mc ms free) (entryFrame m args maxL)) : vx_Met l y ws rm Pc Qc XC mc ms free := by
  refine MetFree.of_bodyS (code := cc) (maxLocals := maxL) (ret := ret) hy ?_ ?_
  · intro args s m h hn
    obtain ⟨meth, c, h1, h2, h3, h4, h5, h6, -, -⟩ := Cond.code_spec hn (atoms_spec (ws := ws) h _ (by rw [hw]; exact List.mem_cons_self))
    exact ⟨meth, c, h1, h2, h3, h4, h5, h6⟩
  · intro p e s m args below meth c s₁ B hml hP _
    have hh0 : s₁.heap = s.heap := by rw [B.state]; rfl
    have ht : ∀ x ∈ c.exceptionTable.toList, False := by
      obtain ⟨meth9, c9, h1, h2, -, -, -, -, h7, -⟩ := Cond.code_spec B.named (atoms_spec (ws := ws) B.pre _ (by rw [hw]; exact List.mem_cons_self))
      cases Option.some.inj (h1.symm.trans B.method)
      cases Option.some.inj (h2.symm.trans (Stand.of_body B).code)
      intro x hx
      rw [Array.isEmpty_iff.mp h7] at hx
      cases hx
    obtain ⟨t, a1, o, b1, b2, b3⟩ := body p e s m args below meth c s₁ B hml ht hP s₁ hh0 (Stand.of_body B)
    exact ⟨t, o, a1, b1, b2, b3⟩
/-- the table of a body with handlers -/
theorem vx_table {p : Program} {x y : MethodName} {S : Spec} {cc bytes : ByteArray} {maxL maxL' : Nat} {ret ret' : Option FieldType} {e : Env} {s s₁ : State} {m : MethodId} {args : Array Value} {below : List Frame} {meth : Method} {c : Code} {hh : List (Nat × Nat × Nat × Nat)}
    (B : BodyLoose p l y S cc maxL ret e s m args below meth c s₁) (h : (Cond.codeWith y bytes maxL' ret' hh).before args s = true) : c.exceptionTable.toList = tableOf hh := by
  obtain ⟨m9, meth9, c9, hn9, h1, h2, -, -, h6, -⟩ := Cond.codeWith_spec h
  cases Option.some.inj (hn9.symm.trans B.named)
  cases Option.some.inj (h1.symm.trans B.method)
  cases Option.some.inj (h2.symm.trans (Stand.of_body B).code)
  rw [← h6, table_eq]
end Bodies
end VXA
/-! ===== END ===== -/
/-! ===== BEGIN a static call of a method with an exception table ===== -/
section VXS
variable {p : Program} {l : Launch} {e : Env} {R : Room} {s : State} {m : MethodId} {args : Array Value} {below : List Frame} {meth : Method} {c : Code} {T : State} {H : Heap} {locs : List Loc} {cells slots : Nat}
abbrev vx_CSW (R : Room) (s : State) (args : Array Value) (own : String) (index : Nat) (y : MethodName) (bytes : ByteArray) (maxL : Nat) (ret : Option FieldType) (hh : List (Nat × Nat × Nat × Nat)) (ws : List Cond) (rm : Room) (mc ms n : Nat) : Prop :=
  (rm.cells = mc ∧ rm.slots = ms ∧ rm.frames + 1 ≤ R.frames ∧ 8 + (maxL + 11) + rm.locals ≤ R.locals ∧ (∀ w ∈ ws, ∀ (a' : Array Value) (U : State), s.WarmedH U.vm → w.before a' U = true) ∧ Cond.codeWith y bytes maxL ret hh ∈ ws) ∧
  (Cond.codeWith y bytes maxL ret hh).before args s = true ∧ (Cond.initialized y.cls).before args s = true ∧ (y.cls ≠ "java/lang/invoke/MethodHandle" ∧ y.cls ≠ "java/lang/invoke/VarHandle") ∧
  (∀ sig, parseMethodDescriptor y.desc = some sig → n = sig.parameters.length) ∧ (Cond.methodLink own index y).before args s = true ∧ (Cond.static y).before args s = true
theorem vx_cwSW {own : String} {index maxL mc ms : Nat} {y : MethodName} {bytes : ByteArray} {ret : Option FieldType} {hh : List (Nat × Nat × Nat × Nat)} {Ts ws ws' : List Cond} {rm : Room} (n : Nat) (ht : ∀ w ∈ Ts, w.before args s = true) (hT : GoodIn Ts (va_wsS own index y ws)) (hw : ws = Cond.codeWith y bytes maxL ret hh :: ws') (hrc : rm.cells = mc) (hrs : rm.slots = ms)
    (hd : y.cls ≠ "java/lang/invoke/MethodHandle" ∧ y.cls ≠ "java/lang/invoke/VarHandle" ∧ (parseMethodDescriptor y.desc).map (fun d => d.parameters.length) = some n) (hR : rm.frames + 1 ≤ R.frames ∧ 8 + (maxL + 11) + rm.locals ≤ R.locals) :
    vx_CSW R s args own index y bytes maxL ret hh ws rm mc ms n := by
  have ok : ∀ w ∈ va_wsS own index y ws, w.before args s = true := fun w h => ht w (hT w h).1
  have hG : GoodIn Ts ws := fun w h => hT w (by unfold va_wsS; exact List.mem_append_right _ h)
  have hc : Cond.codeWith y bytes maxL ret hh ∈ ws := by rw [hw]; exact List.mem_cons_self
  refine ⟨⟨hrc, hrs, hR.1, hR.2, pay_in ht hG, hc⟩, ht _ (hG _ hc).1, ok _ (by simp [va_wsS]), ⟨hd.1, hd.2.1⟩, fun sig h => ?_, ok _ (by simp [va_wsS]), ok _ (by simp [va_wsS])⟩
  have h2 := hd.2.2
  rw [h] at h2
  exact (Option.some.inj h2).symm
theorem vx_callSW (X : Stand p l e R s m args below meth c T locs cells slots) (hexec : p.tables.exec = Jvm.exec) {own : String} {index : Nat} {y : MethodName} {bytes : ByteArray} {maxL : Nat} {ret : Option FieldType} {hh : List (Nat × Nat × Nat × Nat)}
    (hown : s.vm.findClass own = some m.cls) (hlink : (Cond.methodLink own index y).before args s = true) (hstat : (Cond.static y).before args s = true) (hinit : (Cond.initialized y.cls).before args s = true)
    (hcode : (Cond.codeWith y bytes maxL ret hh).before args s = true) (hy : y.cls ≠ "java/lang/invoke/MethodHandle" ∧ y.cls ≠ "java/lang/invoke/VarHandle")
    {W9 : Nat} {Pre : Pt → Array Value → Prop} {Post : Pt → Array Value → Option Value → Pt → Prop} (hK : Back l R p e below s args y 3 W9 Pre Post)
    {g : JFrame} (hg : g.method = m) (hsize : g.locals.size = c.maxLocals) {argsL rest : List Value} (hlen : ∀ sig, parseMethodDescriptor y.desc = some sig → argsL.length = sig.parameters.length)
    (hstack : g.stack = argsL.reverse ++ rest) (hW : 2 * g.monitorRoom + (rest.map fun v => v.category).sum ≤ W9) (hdg : decode c.code g.pc = .ok (.invokestatic index, 3))
    (hpre : ∀ vm₁, s.WarmedH vm₁ → Pre ⟨T.setVm vm₁, locs, cells, slots⟩ argsL.toArray) :
    ∃ (v : Option Value) (vm₁ : Vm) (B : Pt), s.WarmedH vm₁ ∧ Stand p l e R s m args below meth c B.U B.locs B.cells B.slots ∧ Post ⟨T.setVm vm₁, locs, cells, slots⟩ argsL.toArray v B ∧
      ∀ target, Steps p.tables e below (B.U.setTop { g with pc := g.pc + 3, stack := v.toList ++ rest }) target → Steps p.tables e below (T.setTop g) target := by
  obtain ⟨mk, methM, cM, hnamed, hmethM, -, -, -, -, -, -, hsigM⟩ := Cond.codeWith_spec hcode
  have hstatic : methM.isStatic = true := Cond.static_spec hnamed hmethM hstat
  obtain ⟨kP, hkP, -⟩ := className_of_methodNamed hnamed
  have hinitP : kP.init = .initialized := Cond.initialized_spec (findClass_of_methodNamed hnamed) hkP hinit
  obtain ⟨vm₁, X₁, hstep₁⟩ := X.invokestatic hexec hown hlink hnamed hmethM hstatic hkP hinitP hy (g := g) hg (argsL := argsL) (rest := rest) (hlen _ hsigM) hstack hdg
  obtain ⟨v, B, X', hpost, hsteps⟩ := hK m meth c ⟨T.setVm vm₁, locs, cells, slots⟩ { g with stack := rest } (.invokestatic index) mk argsL.toArray X₁ hg hsize hdg hW (X₁.named hnamed) (hpre vm₁ X₁.warmed)
  exact ⟨v, vm₁, B, X₁.warmed, X', hpost, fun target h => hstep₁ _ fun acts => by rw [doInvoke_state]; exact hsteps.trans h⟩
theorem vx_runSW {y : MethodName} {bytes cc : ByteArray} {maxL nL mc ms n index : Nat} {ret : Option FieldType} {hh : List (Nat × Nat × Nat × Nat)} {ws : List Cond} {rm : Room} {Pc : Array Value → State → Prop} {Qc : Array Value → State → Outcome → State → Prop} {free : Addr → Prop} {Ts : List Cond} {own : String} {As rest : List Value} {g : JFrame}
    (S : CallFix p m c cc nL s args Ts own) (hM : Met l y ws rm Pc Qc mc ms free) (cw : vx_CSW R s args own index y bytes maxL ret hh ws rm mc ms n) (hp : PreS s H Pc As)
    (hg : g.method = m) (hn : As.length = n) (hsize : g.locals.size = nL) (hstack : g.stack = As.reverse ++ rest) (hW : 2 * g.monitorRoom + (rest.map fun v => v.category).sum ≤ 8) (hdg : decode cc g.pc = .ok (.invokestatic index, 3)) (hf : cells + mc ≤ R.cells ∧ slots + ms ≤ R.slots) :
    va_Run p l e R s m args below meth c H locs cells slots mc ms g rest (Qc As.toArray) (free) := by
  obtain ⟨⟨hrc, hrs, hfr, hlo, hws, hcw⟩, hcode, hini, hy, hlen, hl, hstt⟩ := cw
  have hK : Back l R p e below s args y 3 8 (PreOf R mc ms Pc) (PostOf Qc mc ms free) := va_backW (hh := hh) (bytes := bytes) (maxL := maxL) (ret := ret) hM hp.1 hrc hrs hfr hlo hws hcw (fun a' U hW => word_at hW (Or.inl (by first | rfl | simp [Cond.onTables, Cond.keeps, Cond.steady])) hini)
  obtain ⟨hx, hb, hml, ho, -⟩ := S
  intro T hT X
  obtain ⟨v, vm₁, ⟨U', l2, c2, s2⟩, hW₁, X', ⟨g', mk, t, L, e1, e2, hq, h1, hL, h2, h3⟩, st⟩ := vx_callSW X hx (hh := hh) (bytes := bytes) (maxL := maxL) (ret := ret) ho hl hstt hini hcode hy hK hg (hsize.trans hml.symm) (argsL := As) (rest := rest) (fun sig h => hn.trans (hlen sig h)) hstack hW (by rw [hb]; exact hdg)
    (fun vm₁ hW₁ => ⟨hf.1, hf.2, hp.2 (T.setVm vm₁) hT hW₁⟩)
  dsimp only [Pt.U, Pt.locs, Pt.cells, Pt.slots] at X' e1 e2 h1 h2 h3 st
  subst h1; subst h2; subst h3
  exact ⟨v, (T.setVm vm₁).calling g' mk As.toArray, t, U', L, hT, X', hL, e1, e2, hq, st⟩
/-- not caught here, past rows that name other classes: it goes on to the caller -/
theorem vx_outP {p : Program} {l : Launch} {e : Env} {R : Room} {s : State} {m : MethodId} {args : Array Value} {below : List Frame} {meth : Method} {c : Code} {H : Heap} {locs : List Loc} {cells slots : Nat} {free : Addr → Prop} {ls : Array Slot} {rest : List Value} {Qc : Array Value → State → Outcome → State → Prop} {XC : String → State → State → Prop}
    {pc : Nat} {own E : String} {ce : Cell} {q : Addr} {mc ms : Nat} (hown : s.vm.findClass own = some m.cls) (hlocks : meth.locks = false)
    (hpass : ∀ z ∈ c.exceptionTable.toList, covers z pc = false ∨ (z.catchType ≠ 0 ∧ ∃ nm : String, (Cond.classLink own z.catchType nm).before args s = true ∧ va_Nc E nm s)) (hcell : H[q]? = some ce) (hv : ce.vm = .none) (hcl : s.vm.findClass E = some ce.cls)
    (hx : ∀ t : State, t.heap = H → s.vm.Alike t.vm → XC E s t) (hf : ∀ z ∈ locs, free z.base) (hc : cells ≤ mc) (hs : slots ≤ ms) :
    vx_W p l e R s m args below meth c H locs cells slots (vx_MQ below Qc XC args s mc ms free) (F0 m pc ls rest) q := by
  intro T hT X
  have hpl : e.platform.magicAccessors = ({} : Platform).magicAccessors := by rw [X.admits.platform]
  obtain ⟨vm', hW', X', st⟩ := X.outThrough hlocks q (g := F0 m pc ls rest) rfl rfl rfl (cell := ce) (by rw [hT]; exact hcell) (by rw [hv]; rfl)
    (by obtain ⟨k9, h9, -⟩ := Vm.findClass_spec hcl; exact ⟨k9, h9⟩) (fun z hz => by
      rcases hpass z hz with h | ⟨hz0, nm, hl1, hn1⟩
      · exact Or.inl h
      · obtain ⟨c6, hc6, hcl6⟩ := Cond.classLink_spec hown hl1 e.platform hpl
        obtain ⟨a8, b8, h1, h2, h3⟩ := hn1
        cases Option.some.inj (h1.symm.trans hcl)
        cases Option.some.inj (h2.symm.trans hc6)
        exact Or.inr ⟨hz0, _, hcl6, h3⟩)
  obtain ⟨g₀, hfr⟩ := X'.frames_eq
  have hcell9 : ((T.setVm vm').setFrames (.throwing q :: below)).heap[q]? = some ce := by
    show T.heap[q]? = some ce
    rw [hT]; exact hcell
  have hend : Ended ((T.setVm vm').setFrames (.throwing q :: below)) below (.threw q) := State.frames_setFrames _ (State.cur_lt_of_frames hfr)
  refine ⟨(T.setVm vm').setFrames (.throwing q :: below), ?_, .threw q, X'.here.running, hend, Or.inr ⟨q, rfl, E, ce, locs, hx _ hT (X'.ends _).1.alike, hcell9, hv, hcl, (X'.ends _).1, (X'.ends _).2.mono hc hs, hf⟩⟩
  rw [X.pushThrowing_eq]
  exact st
/-- a thing of a world lies in the heap -/
theorem vx_lt {D : va_G} {cl : List vw_C} {ws : va_W} {H1 : Heap} (h : va_P D cl ws H1) {k : Nat} {q : Nat × va_E} (hk : ws[k]? = some q) : q.1 < H1.size := (h k q hk).lt
end VXS
/-! ===== END ===== -/
/-! ===== BEGIN methods with a table of their own: called by a name, returning or throwing ===== -/
section VXH
/-! vx_backW, vx_callVX, vx_callSX, vx_callVW, vx_runVW, vx_runVX, vx_runSX, vx_ofWH follow the same proofs as their sisters above (Free/Laws.lean, Shelf42/LK1.lean); vx_outP calls Shelf42/NT130.lean (outThrough). -/
section
variable {l : Launch} {R : Room} {p : Program} {e : Env} {below : List Frame} {s : State} {sargs : Array Value} {y : MethodName} {len W9 : Nat}
theorem vx_backW {ws : List Cond} {rm : Room} {Pc : Array Value → State → Prop} {Qc : Array Value → State → Outcome → State → Prop} {XC : String → State → State → Prop} {mc ms : Nat} {free : Addr → Prop} {bytes : ByteArray} {maxL : Nat} {ret : Option FieldType} {hh : List (Nat × Nat × Nat × Nat)}
    (hM : vx_Met l y ws rm Pc Qc XC mc ms free) (hblind : FrameBlind Pc) (hrc : rm.cells = mc) (hrs : rm.slots = ms)
    (hframes : rm.frames + 1 ≤ R.frames) (hlocals : W9 + (maxL + 11) + rm.locals ≤ R.locals)
    (hws : ∀ w ∈ ws, ∀ a' U, s.WarmedH U.vm → w.before a' U = true) (hcode : Cond.codeWith y bytes maxL ret hh ∈ ws) (hinit : ∀ a' U, s.WarmedH U.vm → (Cond.initialized y.cls).before a' U = true) :
    vx_Back l R p e below s sargs y len W9 (PreOf R mc ms Pc) (PostOf Qc mc ms free) (vx_Post XC mc ms free) := by
  intro m meth c A g ig mk a X hg hsize hdg hW hn hp
  have h1 : (headSpec ws rm).pre.before a A.U = true := atoms_intro fun w hw => hws w hw _ _ X.warmed
  have h2 : (Cond.codeWith y bytes maxL ret hh).before a A.U = true := hws _ hcode _ _ X.warmed
  have h3 : (Cond.initialized y.cls).before a A.U = true := hinit _ _ X.warmed
  have h4 : A.cells + (headSpec ws rm).room.cells ≤ R.cells := by rw [show (headSpec ws rm).room.cells = mc from hrc]; exact hp.1
  have h5 : A.slots + (headSpec ws rm).room.slots ≤ R.slots := by rw [show (headSpec ws rm).room.slots = ms from hrs]; exact hp.2.1
  have hPc : Pc a (A.U.calling g mk a) := hblind _ _ _ _ hp.2.2
  obtain ⟨U, Ls, c0, s0⟩ := A
  dsimp only [Pt.U, Pt.locs, Pt.cells, Pt.slots] at h1 h2 h3 h4 h5 X hn hPc ⊢
  obtain ⟨m9, methY, cY, hn9, hmY, hcY, -, hlY, -⟩ := Cond.codeWith_spec h2
  cases Option.some.inj (hn9.symm.trans hn)
  obtain ⟨kY, hkY, -⟩ := className_of_methodNamed hn
  have hinitY : kY.init = .initialized := Cond.initialized_spec (findClass_of_methodNamed hn) hkY h3
  have h : At U g.method c below := by rw [hg]; exact X.here
  have hlocals9 : W9 + (maxL + 11) + (headSpec ws rm).room.locals ≤ R.locals := hlocals
  have happ : (headSpec ws rm).appliesLoose y e.platform (U.calling g mk a) = true :=
    Spec.appliesLoose_calling (g := g) h hdg hn hkY hinitY
      (X.room_calling (g := g) (R' := (headSpec ws rm).room) hsize hmY hcY hframes (by rw [hlY]; omega) h4 h5) h1
  obtain ⟨mid, hmid⟩ := h.above
  have hfr : (U.setTop g).frames = (.java g :: mid) ++ below := by rw [State.frames_setTop' g h.top, hmid]; rfl
  obtain ⟨o, s₂, hsteps, -, hend, hq⟩ := Steps.callFree hM p X.admits X.cas X.clock (acts := []) hfr happ hPc trivial
  have hq' : vx_Q Qc XC mc ms free a (U.calling g mk a) o s₂ := hq
  rw [State.frames_setTop' g h.top] at hend
  obtain ⟨g₀, hg0⟩ := Option.isSome_iff_exists.mp h.top
  obtain ⟨r, hr⟩ := State.topJava?_eq_some.mp hg0
  have hr' : (({ U with heap := s₂.heap, slotsUsed := s₂.slotsUsed } : State).setVm s₂.vm).frames = .java g₀ :: r := hr
  rcases hq' with ⟨hqc, L, hfe, hL⟩ | ⟨q, rfl, E, ce, L, hx, hce, hcv, hcl, hW₂, hsm, hL⟩
  · obtain ⟨⟨v, rfl⟩, hW₂, e2, q2, q3, q4, q5, q6⟩ := id hfe
    have e3 : s₂ = ({ (U.calling g mk a).setFrames s₂.frames with heap := s₂.heap, slotsUsed := s₂.slotsUsed } : State).setVm s₂.vm := by
      have : s₂ = ({ s₂ with vm := (U.calling g mk a).vm } : State).setVm s₂.vm := rfl
      rw [e2] at this
      exact this
    obtain ⟨c₂, i₂, len₂, hc₂, hd₂, hf₂⟩ := hend
    have hW' : U.WarmedH s₂.vm := hW₂
    have hcc : c₂ = c := by
      have h1 : s₂.code? g.method = U.code? g.method := by
        rw [State.code?_eq, State.code?_eq, hW'.alike.method?]
      exact Option.some.inj (hc₂.symm.trans (h1.trans h.code))
    subst hcc
    have hlen : len₂ = len := by rw [hdg] at hd₂; cases hd₂; rfl
    subst hlen
    have hs₂ : s₂ = (({ U with heap := s₂.heap, slotsUsed := s₂.slotsUsed } : State).setVm s₂.vm).setTop { g with pc := g.pc + len₂, stack := v.toList ++ g.stack } := by
      refine e3.trans ?_
      rw [hf₂, State.calling_eq h.top, State.setFrames_setFrames, State.setTop_of_frames _ hr', hr]
      rfl
    have hsame : U.sameButNew ({ U with heap := s₂.heap, slotsUsed := s₂.slotsUsed } : State) L mc ms := by
      refine ⟨?_, q2, q3, q4, q5, q6⟩
      obtain ⟨t, ht, -⟩ := State.frames_cons hr
      show ({ U with heap := s₂.heap, slotsUsed := s₂.slotsUsed } : State) = { U.setFrames U.frames with heap := s₂.heap, slotsUsed := s₂.slotsUsed }
      rw [State.setFrames_self ht]
    subst hg
    refine Or.inl ⟨v, ⟨(({ U with heap := s₂.heap, slotsUsed := s₂.slotsUsed } : State).setVm s₂.vm), Ls ++ L, c0 + mc, s0 + ms⟩,
      ⟨X.admits, X.cas, X.clock, X.frames, X.room, X.hears, X.method, X.code, (X.here.setHeapUsed s₂.heap s₂.slotsUsed).setVm hW'.alike, X.tail, State.WarmedH.trans X.warmed hW', X.limits, X.bytes, X.same.trans (hsame.setVm s.vm)⟩,
      ⟨g, mk, s₂, L, rfl, rfl, hqc, rfl, hL, rfl, rfl⟩, ?_⟩
    show Steps p.tables e below _ ((({ U with heap := s₂.heap, slotsUsed := s₂.slotsUsed } : State).setVm s₂.vm).setTop { g with pc := g.pc + len₂, stack := v.toList ++ g.stack })
    rw [← hs₂]
    exact hsteps
  · obtain ⟨e2, q2, q3, q4, q5, q6⟩ := id hsm
    have e3 : s₂ = ({ (U.calling g mk a).setFrames s₂.frames with heap := s₂.heap, slotsUsed := s₂.slotsUsed } : State).setVm s₂.vm := by
      have : s₂ = ({ s₂ with vm := (U.calling g mk a).vm } : State).setVm s₂.vm := rfl
      rw [e2] at this
      exact this
    have hf₂ : s₂.frames = .throwing q :: .java g :: U.frames.tail := hend
    have hW' : U.WarmedH s₂.vm := hW₂
    have hs₂ : s₂ = ((({ U with heap := s₂.heap, slotsUsed := s₂.slotsUsed } : State).setVm s₂.vm).setTop g).pushFrame (.throwing q) := by
      refine e3.trans ?_
      rw [hf₂, State.calling_eq h.top, State.setFrames_setFrames, State.pushFrame, State.frames_setTop _ hr', State.setTop_of_frames _ hr', State.setFrames_setFrames, hr]
      rfl
    have hsame : U.sameButNew ({ U with heap := s₂.heap, slotsUsed := s₂.slotsUsed } : State) L mc ms := by
      refine ⟨?_, q2, q3, q4, q5, q6⟩
      obtain ⟨t, ht, -⟩ := State.frames_cons hr
      show ({ U with heap := s₂.heap, slotsUsed := s₂.slotsUsed } : State) = { U.setFrames U.frames with heap := s₂.heap, slotsUsed := s₂.slotsUsed }
      rw [State.setFrames_self ht]
    subst hg
    refine Or.inr ⟨q, ⟨(({ U with heap := s₂.heap, slotsUsed := s₂.slotsUsed } : State).setVm s₂.vm), Ls ++ L, c0 + mc, s0 + ms⟩,
      ⟨X.admits, X.cas, X.clock, X.frames, X.room, X.hears, X.method, X.code, (X.here.setHeapUsed s₂.heap s₂.slotsUsed).setVm hW'.alike, X.tail, State.WarmedH.trans X.warmed hW', X.limits, X.bytes, X.same.trans (hsame.setVm s.vm)⟩,
      ⟨g, mk, s₂, L, E, ce, rfl, rfl, hx, hce, hcv, hcl, rfl, hL, rfl, rfl⟩, ?_⟩
    show Steps p.tables e below _ (((({ U with heap := s₂.heap, slotsUsed := s₂.slotsUsed } : State).setVm s₂.vm).setTop g).pushFrame (.throwing q))
    rw [← hs₂]
    exact hsteps
end
variable {p : Program} {l : Launch} {e : Env} {R : Room} {s : State} {m : MethodId} {args : Array Value} {below : List Frame} {meth : Method} {c : Code} {T : State} {H : Heap} {locs : List Loc} {cells slots : Nat}
theorem vx_callVX (X : Stand p l e R s m args below meth c T locs cells slots) (hexec : p.tables.exec = Jvm.exec) {own C : String} {index : Nat} {y : MethodName} {bytes : ByteArray} {maxL : Nat} {ret : Option FieldType} {hh : List (Nat × Nat × Nat × Nat)}
    (hown : s.vm.findClass own = some m.cls) (hlink : (Cond.methodLink own index y).before args s = true) (hinst : (Cond.instanceMethod y).before args s = true) (hsel : (Cond.selects C y y).before args s = true)
    (hcode : (Cond.codeWith y bytes maxL ret hh).before args s = true) (hy : y.cls ≠ "java/lang/invoke/MethodHandle" ∧ y.cls ≠ "java/lang/invoke/VarHandle")
    {W9 : Nat} {Pre : Pt → Array Value → Prop} {Post : Pt → Array Value → Option Value → Pt → Prop} {PostX : Pt → Array Value → Addr → Pt → Prop} (hK : vx_Back l R p e below s args y 3 W9 Pre Post PostX)
    {b : Addr} {cellB : Cell} (hcell : T.heap[b]? = some cellB) (hobj : cellB.vm.isStatics = false) (hcls : s.vm.findClass C = some cellB.cls)
    {g : JFrame} (hg : g.method = m) (hsize : g.locals.size = c.maxLocals) {argsL rest : List Value} (hlen : ∀ sig, parseMethodDescriptor y.desc = some sig → argsL.length = sig.parameters.length)
    (hstack : g.stack = argsL.reverse ++ .ref b :: rest) (hW : 2 * g.monitorRoom + (rest.map fun v => v.category).sum ≤ W9) (hdg : decode c.code g.pc = .ok (.invokevirtual index, 3))
    (hpre : ∀ vm₁, s.WarmedH vm₁ → Pre ⟨T.setVm vm₁, locs, cells, slots⟩ (Value.ref b :: argsL).toArray) :
    (∃ (v : Option Value) (vm₁ : Vm) (B : Pt), s.WarmedH vm₁ ∧ Stand p l e R s m args below meth c B.U B.locs B.cells B.slots ∧ Post ⟨T.setVm vm₁, locs, cells, slots⟩ (Value.ref b :: argsL).toArray v B ∧
      ∀ target, Steps p.tables e below (B.U.setTop { g with pc := g.pc + 3, stack := v.toList ++ rest }) target → Steps p.tables e below (T.setTop g) target) ∨
    (∃ (q : Addr) (vm₁ : Vm) (B : Pt), s.WarmedH vm₁ ∧ Stand p l e R s m args below meth c B.U B.locs B.cells B.slots ∧ PostX ⟨T.setVm vm₁, locs, cells, slots⟩ (Value.ref b :: argsL).toArray q B ∧
      Steps p.tables e below (T.setTop g) ((B.U.setTop { g with stack := rest }).pushFrame (.throwing q))) := by
  obtain ⟨mk, methM, hnamed, hmethM, hstM, habM⟩ := Cond.instanceMethod_spec hinst
  obtain ⟨m8, methM', cM, hn8, hmethM', -, -, -, -, -, -, hsigM⟩ := Cond.codeWith_spec hcode
  cases Option.some.inj (hn8.symm.trans hnamed)
  cases hmethM.symm.trans hmethM'
  obtain ⟨c2, r2, m2, q1, q2, q3, q4, kP, hkP, hkPi⟩ := Cond.selects_spec hsel
  cases hcls.symm.trans q1
  cases (State.methodFound?_of_named hnamed hy).symm.trans q2
  cases hnamed.symm.trans q3
  have hselP : selectMethod e.platform s.vm cellB.cls mk = .method mk := by rw [Launch.admits_selectMethod X.admits]; exact q4
  obtain ⟨vm₁, X₁, hstep₁⟩ := X.invokevirtual hexec hown hlink hnamed hmethM hstM hkP hkPi hy (a := b) (cell := cellB) hcell
    (fun z h => by rw [h] at hobj; cases hobj) hselP hmethM habM hkP hkPi (g := g) hg (argsL := argsL) (rest := rest) (hlen _ hsigM) hstack hdg
  rcases hK m meth c ⟨T.setVm vm₁, locs, cells, slots⟩ { g with stack := rest } (.invokevirtual index) mk (Value.ref b :: argsL).toArray X₁ hg hsize hdg hW (X₁.named hnamed) (hpre vm₁ X₁.warmed) with ⟨v, B, X', hpost, hsteps⟩ | ⟨q, B, X', hpost, hsteps⟩
  · exact Or.inl ⟨v, vm₁, B, X₁.warmed, X', hpost, fun target h => hstep₁ _ fun acts => by rw [doInvoke_state]; exact hsteps.trans h⟩
  · exact Or.inr ⟨q, vm₁, B, X₁.warmed, X', hpost, hstep₁ _ fun acts => by rw [doInvoke_state]; exact hsteps⟩
theorem vx_callSX (X : Stand p l e R s m args below meth c T locs cells slots) (hexec : p.tables.exec = Jvm.exec) {own : String} {index : Nat} {y : MethodName} {bytes : ByteArray} {maxL : Nat} {ret : Option FieldType} {hh : List (Nat × Nat × Nat × Nat)}
    (hown : s.vm.findClass own = some m.cls) (hlink : (Cond.methodLink own index y).before args s = true) (hstat : (Cond.static y).before args s = true) (hinit : (Cond.initialized y.cls).before args s = true)
    (hcode : (Cond.codeWith y bytes maxL ret hh).before args s = true) (hy : y.cls ≠ "java/lang/invoke/MethodHandle" ∧ y.cls ≠ "java/lang/invoke/VarHandle")
    {W9 : Nat} {Pre : Pt → Array Value → Prop} {Post : Pt → Array Value → Option Value → Pt → Prop} {PostX : Pt → Array Value → Addr → Pt → Prop} (hK : vx_Back l R p e below s args y 3 W9 Pre Post PostX)
    {g : JFrame} (hg : g.method = m) (hsize : g.locals.size = c.maxLocals) {argsL rest : List Value} (hlen : ∀ sig, parseMethodDescriptor y.desc = some sig → argsL.length = sig.parameters.length)
    (hstack : g.stack = argsL.reverse ++ rest) (hW : 2 * g.monitorRoom + (rest.map fun v => v.category).sum ≤ W9) (hdg : decode c.code g.pc = .ok (.invokestatic index, 3))
    (hpre : ∀ vm₁, s.WarmedH vm₁ → Pre ⟨T.setVm vm₁, locs, cells, slots⟩ argsL.toArray) :
    (∃ (v : Option Value) (vm₁ : Vm) (B : Pt), s.WarmedH vm₁ ∧ Stand p l e R s m args below meth c B.U B.locs B.cells B.slots ∧ Post ⟨T.setVm vm₁, locs, cells, slots⟩ argsL.toArray v B ∧
      ∀ target, Steps p.tables e below (B.U.setTop { g with pc := g.pc + 3, stack := v.toList ++ rest }) target → Steps p.tables e below (T.setTop g) target) ∨
    (∃ (q : Addr) (vm₁ : Vm) (B : Pt), s.WarmedH vm₁ ∧ Stand p l e R s m args below meth c B.U B.locs B.cells B.slots ∧ PostX ⟨T.setVm vm₁, locs, cells, slots⟩ argsL.toArray q B ∧
      Steps p.tables e below (T.setTop g) ((B.U.setTop { g with stack := rest }).pushFrame (.throwing q))) := by
  obtain ⟨mk, methM, cM, hnamed, hmethM, -, -, -, -, -, -, hsigM⟩ := Cond.codeWith_spec hcode
  have hstatic : methM.isStatic = true := Cond.static_spec hnamed hmethM hstat
  obtain ⟨kP, hkP, -⟩ := className_of_methodNamed hnamed
  have hinitP : kP.init = .initialized := Cond.initialized_spec (findClass_of_methodNamed hnamed) hkP hinit
  obtain ⟨vm₁, X₁, hstep₁⟩ := X.invokestatic hexec hown hlink hnamed hmethM hstatic hkP hinitP hy (g := g) hg (argsL := argsL) (rest := rest) (hlen _ hsigM) hstack hdg
  rcases hK m meth c ⟨T.setVm vm₁, locs, cells, slots⟩ { g with stack := rest } (.invokestatic index) mk argsL.toArray X₁ hg hsize hdg hW (X₁.named hnamed) (hpre vm₁ X₁.warmed) with ⟨v, B, X', hpost, hsteps⟩ | ⟨q, B, X', hpost, hsteps⟩
  · exact Or.inl ⟨v, vm₁, B, X₁.warmed, X', hpost, fun target h => hstep₁ _ fun acts => by rw [doInvoke_state]; exact hsteps.trans h⟩
  · exact Or.inr ⟨q, vm₁, B, X₁.warmed, X', hpost, hstep₁ _ fun acts => by rw [doInvoke_state]; exact hsteps⟩
theorem vx_callVW (X : Stand p l e R s m args below meth c T locs cells slots) (hexec : p.tables.exec = Jvm.exec) {own C : String} {index : Nat} {y : MethodName} {bytes : ByteArray} {maxL : Nat} {ret : Option FieldType} {hh : List (Nat × Nat × Nat × Nat)}
    (hown : s.vm.findClass own = some m.cls) (hlink : (Cond.methodLink own index y).before args s = true) (hinst : (Cond.instanceMethod y).before args s = true) (hsel : (Cond.selects C y y).before args s = true)
    (hcode : (Cond.codeWith y bytes maxL ret hh).before args s = true) (hy : y.cls ≠ "java/lang/invoke/MethodHandle" ∧ y.cls ≠ "java/lang/invoke/VarHandle")
    {W9 : Nat} {Pre : Pt → Array Value → Prop} {Post : Pt → Array Value → Option Value → Pt → Prop} (hK : Back l R p e below s args y 3 W9 Pre Post)
    {b : Addr} {cellB : Cell} (hcell : T.heap[b]? = some cellB) (hobj : cellB.vm.isStatics = false) (hcls : s.vm.findClass C = some cellB.cls)
    {g : JFrame} (hg : g.method = m) (hsize : g.locals.size = c.maxLocals) {argsL rest : List Value} (hlen : ∀ sig, parseMethodDescriptor y.desc = some sig → argsL.length = sig.parameters.length)
    (hstack : g.stack = argsL.reverse ++ .ref b :: rest) (hW : 2 * g.monitorRoom + (rest.map fun v => v.category).sum ≤ W9) (hdg : decode c.code g.pc = .ok (.invokevirtual index, 3))
    (hpre : ∀ vm₁, s.WarmedH vm₁ → Pre ⟨T.setVm vm₁, locs, cells, slots⟩ (Value.ref b :: argsL).toArray) :
    ∃ (v : Option Value) (vm₁ : Vm) (B : Pt), s.WarmedH vm₁ ∧ Stand p l e R s m args below meth c B.U B.locs B.cells B.slots ∧ Post ⟨T.setVm vm₁, locs, cells, slots⟩ (Value.ref b :: argsL).toArray v B ∧
      ∀ target, Steps p.tables e below (B.U.setTop { g with pc := g.pc + 3, stack := v.toList ++ rest }) target → Steps p.tables e below (T.setTop g) target := by
  obtain ⟨mk, methM, hnamed, hmethM, hstM, habM⟩ := Cond.instanceMethod_spec hinst
  obtain ⟨m8, methM', cM, hn8, hmethM', -, -, -, -, -, -, hsigM⟩ := Cond.codeWith_spec hcode
  cases Option.some.inj (hn8.symm.trans hnamed)
  cases hmethM.symm.trans hmethM'
  obtain ⟨c2, r2, m2, q1, q2, q3, q4, kP, hkP, hkPi⟩ := Cond.selects_spec hsel
  cases hcls.symm.trans q1
  cases (State.methodFound?_of_named hnamed hy).symm.trans q2
  cases hnamed.symm.trans q3
  have hselP : selectMethod e.platform s.vm cellB.cls mk = .method mk := by rw [Launch.admits_selectMethod X.admits]; exact q4
  obtain ⟨vm₁, X₁, hstep₁⟩ := X.invokevirtual hexec hown hlink hnamed hmethM hstM hkP hkPi hy (a := b) (cell := cellB) hcell
    (fun z h => by rw [h] at hobj; cases hobj) hselP hmethM habM hkP hkPi (g := g) hg (argsL := argsL) (rest := rest) (hlen _ hsigM) hstack hdg
  obtain ⟨v, B, X', hpost, hsteps⟩ := hK m meth c ⟨T.setVm vm₁, locs, cells, slots⟩ { g with stack := rest } (.invokevirtual index) mk (Value.ref b :: argsL).toArray X₁ hg hsize hdg hW (X₁.named hnamed) (hpre vm₁ X₁.warmed)
  exact ⟨v, vm₁, B, X₁.warmed, X', hpost, fun target h => hstep₁ _ fun acts => by rw [doInvoke_state]; exact hsteps.trans h⟩
abbrev vx_CVW (R : Room) (s : State) (args : Array Value) (own C : String) (index : Nat) (y : MethodName) (bytes : ByteArray) (maxL : Nat) (ret : Option FieldType) (hh : List (Nat × Nat × Nat × Nat)) (ws : List Cond) (rm : Room) (mc ms n : Nat) : Prop :=
  (rm.cells = mc ∧ rm.slots = ms ∧ rm.frames + 1 ≤ R.frames ∧ 8 + (maxL + 11) + rm.locals ≤ R.locals ∧ (∀ w ∈ ws, ∀ (a' : Array Value) (U : State), s.WarmedH U.vm → w.before a' U = true) ∧ Cond.codeWith y bytes maxL ret hh ∈ ws) ∧
  (Cond.codeWith y bytes maxL ret hh).before args s = true ∧ (Cond.initialized y.cls).before args s = true ∧ (y.cls ≠ "java/lang/invoke/MethodHandle" ∧ y.cls ≠ "java/lang/invoke/VarHandle") ∧
  (∀ sig, parseMethodDescriptor y.desc = some sig → n = sig.parameters.length) ∧ (Cond.methodLink own index y).before args s = true ∧ (Cond.instanceMethod y).before args s = true ∧ (Cond.selects C y y).before args s = true
theorem vx_cwVW {own C : String} {index maxL mc ms : Nat} {y : MethodName} {bytes : ByteArray} {ret : Option FieldType} {hh : List (Nat × Nat × Nat × Nat)} {Ts ws ws' : List Cond} {rm : Room} (n : Nat) (ht : ∀ w ∈ Ts, w.before args s = true) (hT : GoodIn Ts (wsV own index C y ws)) (hw : ws = Cond.codeWith y bytes maxL ret hh :: ws') (hrc : rm.cells = mc) (hrs : rm.slots = ms)
    (hd : y.cls = C ∧ y.cls ≠ "java/lang/invoke/MethodHandle" ∧ y.cls ≠ "java/lang/invoke/VarHandle" ∧ (parseMethodDescriptor y.desc).map (fun d => d.parameters.length) = some n) (hR : rm.frames + 1 ≤ R.frames ∧ 8 + (maxL + 11) + rm.locals ≤ R.locals) :
    vx_CVW R s args own C index y bytes maxL ret hh ws rm mc ms n := by
  obtain ⟨hC, hd⟩ := hd
  subst hC
  have ok : ∀ w ∈ wsV own index y.cls y ws, w.before args s = true := fun w h => ht w (hT w h).1
  have hG : GoodIn Ts ws := fun w h => hT w (by unfold wsV; exact List.mem_append_right _ h)
  have hc : Cond.codeWith y bytes maxL ret hh ∈ ws := by rw [hw]; exact List.mem_cons_self
  refine ⟨⟨hrc, hrs, hR.1, hR.2, pay_in ht hG, hc⟩, ht _ (hG _ hc).1, ok _ (by simp [wsV]), ⟨hd.1, hd.2.1⟩, fun sig h => ?_, ok _ (by simp [wsV]), ok _ (by simp [wsV]), ok _ (by simp [wsV])⟩
  have h2 := hd.2.2
  rw [h] at h2
  exact (Option.some.inj h2).symm
theorem vx_runVW {y : MethodName} {bytes cc : ByteArray} {maxL nL mc ms n index : Nat} {ret : Option FieldType} {hh : List (Nat × Nat × Nat × Nat)} {ws : List Cond} {rm : Room} {Pc : Array Value → State → Prop} {Qc : Array Value → State → Outcome → State → Prop} {free : Addr → Prop} {Ts : List Cond} {own C : String} {b : Addr} {As rest : List Value} {g : JFrame}
    (S : CallFix p m c cc nL s args Ts own) (hM : Met l y ws rm Pc Qc mc ms free) (cw : vx_CVW R s args own C index y bytes maxL ret hh ws rm mc ms n) (hp : PreV s H C b Pc As)
    (hg : g.method = m) (hn : As.length = n) (hsize : g.locals.size = nL) (hstack : g.stack = As.reverse ++ .ref b :: rest) (hW : 2 * g.monitorRoom + (rest.map fun v => v.category).sum ≤ 8) (hdg : decode cc g.pc = .ok (.invokevirtual index, 3)) (hf : cells + mc ≤ R.cells ∧ slots + ms ≤ R.slots) :
    va_Run p l e R s m args below meth c H locs cells slots mc ms g rest (Qc (Value.ref b :: As).toArray) free := by
  obtain ⟨⟨hrc, hrs, hfr, hlo, hws, hcw⟩, hcode, hini, hy, hlen, hl, hin, hse⟩ := cw
  have hK : Back l R p e below s args y 3 8 (PreOf R mc ms Pc) (PostOf Qc mc ms free) := va_backW (hh := hh) (bytes := bytes) (maxL := maxL) (ret := ret) hM hp.1 hrc hrs hfr hlo hws hcw (fun a' U hW => word_at hW (Or.inl (by first | rfl | simp [Cond.onTables, Cond.keeps, Cond.steady])) hini)
  obtain ⟨hx, hb, hml, ho, -⟩ := S
  obtain ⟨-, ⟨cellB, hcB, hoB, hclB⟩, hPc⟩ := hp
  intro T hT X
  obtain ⟨v, vm₁, ⟨U', l2, c2, s2⟩, hW₁, X', ⟨g', mk, t, L, e1, e2, hq, h1, hL, h2, h3⟩, st⟩ := vx_callVW X hx (C := C) (hh := hh) (bytes := bytes) (maxL := maxL) (ret := ret) ho hl hin hse hcode hy hK (by rw [hT]; exact hcB) hoB hclB hg (hsize.trans hml.symm) (argsL := As) (rest := rest) (fun sig h => hn.trans (hlen sig h)) hstack hW (by rw [hb]; exact hdg)
    (fun vm₁ hW₁ => ⟨hf.1, hf.2, hPc (T.setVm vm₁) hT hW₁⟩)
  dsimp only [Pt.U, Pt.locs, Pt.cells, Pt.slots] at X' e1 e2 h1 h2 h3 st
  subst h1; subst h2; subst h3
  exact ⟨v, (T.setVm vm₁).calling g' mk (Value.ref b :: As).toArray, t, U', L, hT, X', hL, e1, e2, hq, st⟩
section
variable {y : MethodName} {bytes cc : ByteArray} {maxL nL mc ms n index : Nat} {ret : Option FieldType} {ws : List Cond} {rm : Room} {Pc : Array Value → State → Prop} {Qc : Array Value → State → Outcome → State → Prop} {XC : String → State → State → Prop} {free : Addr → Prop} {Ts : List Cond} {own C : String} {b : Addr} {As rest : List Value} {g : JFrame}
theorem vx_runVX {hh : List (Nat × Nat × Nat × Nat)} (S : CallFix p m c cc nL s args Ts own) (hM : vx_Met l y ws rm Pc Qc XC mc ms free) (cw : vx_CVW R s args own C index y bytes maxL ret hh ws rm mc ms n) (hp : PreV s H C b Pc As)
    (hg : g.method = m) (hn : As.length = n) (hsize : g.locals.size = nL) (hstack : g.stack = As.reverse ++ .ref b :: rest) (hW : 2 * g.monitorRoom + (rest.map fun v => v.category).sum ≤ 8) (hdg : decode cc g.pc = .ok (.invokevirtual index, 3)) (hf : cells + mc ≤ R.cells ∧ slots + ms ≤ R.slots) :
    vx_Run p l e R s m args below meth c H locs cells slots mc ms g rest (Qc (Value.ref b :: As).toArray) XC free := by
  obtain ⟨⟨hrc, hrs, hfr, hlo, hws, hcw⟩, hcode, hini, hy, hlen, hl, hin, hse⟩ := cw
  have hK : vx_Back l R p e below s args y 3 8 (PreOf R mc ms Pc) (PostOf Qc mc ms free) (vx_Post XC mc ms free) := vx_backW (hh := hh) (bytes := bytes) (maxL := maxL) (ret := ret) hM hp.1 hrc hrs hfr hlo hws hcw (fun a' U hW => word_at hW (Or.inl (by first | rfl | simp [Cond.onTables, Cond.keeps, Cond.steady])) hini)
  obtain ⟨hx, hb, hml, ho, -⟩ := S
  obtain ⟨-, ⟨cellB, hcB, hoB, hclB⟩, hPc⟩ := hp
  intro T hT X
  rcases vx_callVX X hx (C := C) (hh := hh) (bytes := bytes) (maxL := maxL) (ret := ret) ho hl hin hse hcode hy hK (by rw [hT]; exact hcB) hoB hclB hg (hsize.trans hml.symm) (argsL := As) (rest := rest) (fun sig h => hn.trans (hlen sig h)) hstack hW (by rw [hb]; exact hdg)
    (fun vm₁ hW₁ => ⟨hf.1, hf.2, hPc (T.setVm vm₁) hT hW₁⟩) with ⟨v, vm₁, ⟨U', l2, c2, s2⟩, hW₁, X', ⟨g', mk, t, L, e1, e2, hq, h1, hL, h2, h3⟩, st⟩ | ⟨q, vm₁, ⟨U', l2, c2, s2⟩, hW₁, X', ⟨g', mk, t, L, E, ce, e1, e2, hq, hce, hcv, hcl, h1, hL, h2, h3⟩, st⟩
  · dsimp only [Pt.U, Pt.locs, Pt.cells, Pt.slots] at X' e1 e2 h1 h2 h3 st
    subst h1; subst h2; subst h3
    exact Or.inl ⟨v, (T.setVm vm₁).calling g' mk (Value.ref b :: As).toArray, t, U', L, hT, X', hL, e1, e2, hq, st⟩
  · dsimp only [Pt.U, Pt.locs, Pt.cells, Pt.slots] at X' e1 e2 h1 h2 h3 st hcl
    subst h1; subst h2; subst h3
    exact Or.inr ⟨q, (T.setVm vm₁).calling g' mk (Value.ref b :: As).toArray, t, U', L, E, ce, hT, X', hL, e1, e2, hq, hce, hcv, vx_cls hW₁ hcl, st⟩
theorem vx_runSX {hh : List (Nat × Nat × Nat × Nat)} (S : CallFix p m c cc nL s args Ts own) (hM : vx_Met l y ws rm Pc Qc XC mc ms free) (cw : vx_CSW R s args own index y bytes maxL ret hh ws rm mc ms n) (hp : PreS s H Pc As)
    (hg : g.method = m) (hn : As.length = n) (hsize : g.locals.size = nL) (hstack : g.stack = As.reverse ++ rest) (hW : 2 * g.monitorRoom + (rest.map fun v => v.category).sum ≤ 8) (hdg : decode cc g.pc = .ok (.invokestatic index, 3)) (hf : cells + mc ≤ R.cells ∧ slots + ms ≤ R.slots) :
    vx_Run p l e R s m args below meth c H locs cells slots mc ms g rest (Qc As.toArray) XC free := by
  obtain ⟨⟨hrc, hrs, hfr, hlo, hws, hcw⟩, hcode, hini, hy, hlen, hl, hstt⟩ := cw
  have hK : vx_Back l R p e below s args y 3 8 (PreOf R mc ms Pc) (PostOf Qc mc ms free) (vx_Post XC mc ms free) := vx_backW (hh := hh) (bytes := bytes) (maxL := maxL) (ret := ret) hM hp.1 hrc hrs hfr hlo hws hcw (fun a' U hW => word_at hW (Or.inl (by first | rfl | simp [Cond.onTables, Cond.keeps, Cond.steady])) hini)
  obtain ⟨hx, hb, hml, ho, -⟩ := S
  intro T hT X
  rcases vx_callSX X hx (hh := hh) (bytes := bytes) (maxL := maxL) (ret := ret) ho hl hstt hini hcode hy hK hg (hsize.trans hml.symm) (argsL := As) (rest := rest) (fun sig h => hn.trans (hlen sig h)) hstack hW (by rw [hb]; exact hdg)
    (fun vm₁ hW₁ => ⟨hf.1, hf.2, hp.2 (T.setVm vm₁) hT hW₁⟩) with ⟨v, vm₁, ⟨U', l2, c2, s2⟩, hW₁, X', ⟨g', mk, t, L, e1, e2, hq, h1, hL, h2, h3⟩, st⟩ | ⟨q, vm₁, ⟨U', l2, c2, s2⟩, hW₁, X', ⟨g', mk, t, L, E, ce, e1, e2, hq, hce, hcv, hcl, h1, hL, h2, h3⟩, st⟩
  · dsimp only [Pt.U, Pt.locs, Pt.cells, Pt.slots] at X' e1 e2 h1 h2 h3 st
    subst h1; subst h2; subst h3
    exact Or.inl ⟨v, (T.setVm vm₁).calling g' mk As.toArray, t, U', L, hT, X', hL, e1, e2, hq, st⟩
  · dsimp only [Pt.U, Pt.locs, Pt.cells, Pt.slots] at X' e1 e2 h1 h2 h3 st hcl
    subst h1; subst h2; subst h3
    exact Or.inr ⟨q, (T.setVm vm₁).calling g' mk As.toArray, t, U', L, E, ce, hT, X', hL, e1, e2, hq, hce, hcv, vx_cls hW₁ hcl, st⟩
end
end VXH
theorem vx_ofWH {l : Launch} {y : MethodName} {ws ws' : List Cond} {rm : Room} {Pc : Array Value → State → Prop} {Qc : Array Value → State → Outcome → State → Prop} {XC : String → State → State → Prop} {mc ms : Nat} {free : Addr → Prop} {cc : ByteArray} {maxL : Nat} {ret : Option FieldType} {hh : List (Nat × Nat × Nat × Nat)}
    (hy : plainName y.cls = true) (hw : ws = Cond.codeWith y cc maxL ret hh :: ws')
    (body : ∀ p e s m args below meth c s₁, BodyLoose p l y (headSpec ws rm) cc maxL ret e s m args below meth c s₁ → c.maxLocals = maxL → Pc args s →
      W p l e (headSpec ws rm).room s m args below meth c s.heap [] 0 0 (vx_MQ below Qc XC args s mc ms free) (entryFrame m args maxL)) : vx_Met l y ws rm Pc Qc XC mc ms free := by
  refine MetFree.of_bodyS (code := cc) (maxLocals := maxL) (ret := ret) hy ?_ ?_
  · intro args s m h hn
    obtain ⟨m9, meth, c, hn9, h1, h2, h3, h4, -, h5, h6, -⟩ := Cond.codeWith_spec (atoms_spec (ws := ws) h _ (by rw [hw]; exact List.mem_cons_self))
    cases hn.symm.trans hn9
    exact ⟨meth, c, h1, h2, h3, h4, h5, h6⟩
  · intro p e s m args below meth c s₁ B hml hP _
    have hh0 : s₁.heap = s.heap := by rw [B.state]; rfl
    obtain ⟨t, a1, o, b1, b2, b3⟩ := body p e s m args below meth c s₁ B hml hP s₁ hh0 (Stand.of_body B)
    exact ⟨t, o, a1, b1, b2, b3⟩
/-! ===== END ===== -/
end
section
/-! names, fields -/
def RX0 : String := "MaterialBars$Good"
def TX0 : u_T := fun k => match k with
  | 0 => ("MaterialBars$Good", "amount", "I", false)
  | 1 => ("MaterialBars$Good", "came", "J", false)
  | 2 => ("MaterialBars$Good", "went", "J", false)
  | 3 => ("MaterialBars$Good", "shelf", "I", false)
  | _ => ("MaterialBars$Good", "apartFrom", "I", false)
def tyX0 : Nat → FieldType := fun k => match k with
  | 0 => .int
  | 1 => .long
  | 2 => .long
  | 3 => .int
  | _ => .int
abbrev wsX00 : List Cond := u_ws RX0 TX0 5
theorem nmX0 : ∀ a, a < 5 → ∀ b, b < 5 → a ≠ b → (TX0 a).2.1 ≠ (TX0 b).2.1 := by decide +kernel
theorem tyX0_ok : ∀ k, k < 5 → parseFieldDescriptor (TX0 k).2.2.1 = some (tyX0 k) := by decide +kernel
def RX1 : String := "MaterialBars$Method"
def TX1 : u_T := fun k => match k with
  | 0 => ("MaterialBars$Method", "amounts", "[I", true)
  | 1 => ("MaterialBars$Method", "hours", "[I", true)
  | 2 => ("MaterialBars$Method", "barred", "I", false)
  | 3 => ("MaterialBars$Method", "notBehind", "I", false)
  | 4 => ("MaterialBars$Method", "after", "I", false)
  | 5 => ("MaterialBars$Method", "needsTrial", "Z", false)
  | 6 => ("MaterialBars$Method", "needsTwo", "Z", false)
  | 7 => ("MaterialBars$Method", "persons", "I", false)
  | _ => ("MaterialBars$Method", "goodTrials", "I", false)
def tyX1 : Nat → FieldType := fun k => match k with
  | 0 => .array .int
  | 1 => .array .int
  | 2 => .int
  | 3 => .int
  | 4 => .int
  | 5 => .boolean
  | 6 => .boolean
  | 7 => .int
  | _ => .int
abbrev wsX10 : List Cond := u_ws RX1 TX1 9
theorem nmX1 : ∀ a, a < 9 → ∀ b, b < 9 → a ≠ b → (TX1 a).2.1 ≠ (TX1 b).2.1 := by decide +kernel
theorem tyX1_ok : ∀ k, k < 9 → parseFieldDescriptor (TX1 k).2.2.1 = some (tyX1 k) := by decide +kernel
def RX2 : String := "MaterialBars$Pad"
def TX2 : u_T := fun k => match k with
  | 0 => ("MaterialBars$Pad", "signs", "[I", true)
  | 1 => ("MaterialBars$Pad", "length", "I", false)
  | _ => ("MaterialBars$Pad", "at", "I", false)
def tyX2 : Nat → FieldType := fun k => match k with
  | 0 => .array .int
  | 1 => .int
  | _ => .int
abbrev wsX20 : List Cond := u_ws RX2 TX2 3
theorem nmX2 : ∀ a, a < 3 → ∀ b, b < 3 → a ≠ b → (TX2 a).2.1 ≠ (TX2 b).2.1 := by decide +kernel
theorem tyX2_ok : ∀ k, k < 3 → parseFieldDescriptor (TX2 k).2.2.1 = some (tyX2 k) := by decide +kernel
def RX3 : String := "MaterialBars$Piece"
def TX3 : u_T := fun k => match k with
  | 0 => ("MaterialBars$Piece", "parts", "[I", true)
  | 1 => ("MaterialBars$Piece", "rows", "[I", true)
  | 2 => ("MaterialBars$Piece", "latest", "[I", true)
  | 3 => ("MaterialBars$Piece", "partCount", "I", false)
  | 4 => ("MaterialBars$Piece", "rowCount", "I", false)
  | 5 => ("MaterialBars$Piece", "materials", "I", false)
  | 6 => ("MaterialBars$Piece", "doneMethods", "I", false)
  | _ => ("MaterialBars$Piece", "latestHour", "I", false)
def tyX3 : Nat → FieldType := fun k => match k with
  | 0 => .array .int
  | 1 => .array .int
  | 2 => .array .int
  | 3 => .int
  | 4 => .int
  | 5 => .int
  | 6 => .int
  | _ => .int
abbrev wsX30 : List Cond := u_ws RX3 TX3 8
theorem nmX3 : ∀ a, a < 8 → ∀ b, b < 8 → a ≠ b → (TX3 a).2.1 ≠ (TX3 b).2.1 := by decide +kernel
theorem tyX3_ok : ∀ k, k < 8 → parseFieldDescriptor (TX3 k).2.2.1 = some (tyX3 k) := by decide +kernel
def RX4 : String := "MaterialBars"
def TX4 : u_T := fun k => match k with
  | 0 => ("MaterialBars", "pad", "LMaterialBars$Pad;", true)
  | 1 => ("MaterialBars", "methods", "[LMaterialBars$Method;", true)
  | 2 => ("MaterialBars", "pieces", "[LMaterialBars$Piece;", true)
  | 3 => ("MaterialBars", "goods", "[LMaterialBars$Good;", true)
  | 4 => ("MaterialBars", "planned", "[I", true)
  | 5 => ("MaterialBars", "draft", "[I", true)
  | 6 => ("MaterialBars", "methodCount", "I", false)
  | 7 => ("MaterialBars", "pieceCount", "I", false)
  | _ => ("MaterialBars", "plannedCount", "I", false)
def tyX4 : Nat → FieldType := fun k => match k with
  | 0 => .object "MaterialBars$Pad"
  | 1 => .array (.object "MaterialBars$Method")
  | 2 => .array (.object "MaterialBars$Piece")
  | 3 => .array (.object "MaterialBars$Good")
  | 4 => .array .int
  | 5 => .array .int
  | 6 => .int
  | 7 => .int
  | _ => .int
abbrev wsX40 : List Cond := u_ws RX4 TX4 9
theorem nmX4 : ∀ a, a < 9 → ∀ b, b < 9 → a ≠ b → (TX4 a).2.1 ≠ (TX4 b).2.1 := by decide +kernel
theorem tyX4_ok : ∀ k, k < 9 → parseFieldDescriptor (TX4 k).2.2.1 = some (tyX4 k) := by decide +kernel
def RX5 : String := "MaterialBarsModel"
def TX5 : u_T := fun k => match k with
  | 0 => ("MaterialBarsModel", "thrown", "I", false)
  | 1 => ("MaterialBarsModel", "padded", "I", false)
  | 2 => ("MaterialBarsModel", "pad", "[I", true)
  | 3 => ("MaterialBarsModel", "methods", "I", false)
  | 4 => ("MaterialBarsModel", "many", "[I", true)
  | 5 => ("MaterialBarsModel", "letters", "[I", true)
  | 6 => ("MaterialBarsModel", "firsts", "[I", true)
  | 7 => ("MaterialBarsModel", "seconds", "[I", true)
  | 8 => ("MaterialBarsModel", "trials", "[Z", true)
  | 9 => ("MaterialBarsModel", "rights", "[Z", true)
  | 10 => ("MaterialBarsModel", "objects", "I", false)
  | 11 => ("MaterialBarsModel", "parts", "[I", true)
  | 12 => ("MaterialBarsModel", "materials", "[I", true)
  | 13 => ("MaterialBarsModel", "rows", "[I", true)
  | 14 => ("MaterialBarsModel", "rowMethods", "[I", true)
  | 15 => ("MaterialBarsModel", "rowHours", "[I", true)
  | 16 => ("MaterialBarsModel", "rowPersons", "[I", true)
  | 17 => ("MaterialBarsModel", "rowSeconds", "[I", true)
  | 18 => ("MaterialBarsModel", "stocks", "[I", true)
  | 19 => ("MaterialBarsModel", "came", "[J", true)
  | 20 => ("MaterialBarsModel", "went", "[J", true)
  | 21 => ("MaterialBarsModel", "shelves", "[I", true)
  | 22 => ("MaterialBarsModel", "apart", "[Z", true)
  | 23 => ("MaterialBarsModel", "steps", "I", false)
  | 24 => ("MaterialBarsModel", "plan", "[I", true)
  | 25 => ("MaterialBarsModel", "chosen", "[I", true)
  | _ => ("MaterialBarsModel", "ends", "[Z", true)
def tyX5 : Nat → FieldType := fun k => match k with
  | 0 => .int
  | 1 => .int
  | 2 => .array .int
  | 3 => .int
  | 4 => .array .int
  | 5 => .array .int
  | 6 => .array .int
  | 7 => .array .int
  | 8 => .array .boolean
  | 9 => .array .boolean
  | 10 => .int
  | 11 => .array .int
  | 12 => .array .int
  | 13 => .array .int
  | 14 => .array .int
  | 15 => .array .int
  | 16 => .array .int
  | 17 => .array .int
  | 18 => .array .int
  | 19 => .array .long
  | 20 => .array .long
  | 21 => .array .int
  | 22 => .array .boolean
  | 23 => .int
  | 24 => .array .int
  | 25 => .array .int
  | _ => .array .boolean
abbrev wsX50 : List Cond := u_ws RX5 TX5 27
theorem nmX5 : ∀ a, a < 27 → ∀ b, b < 27 → a ≠ b → (TX5 a).2.1 ≠ (TX5 b).2.1 := by decide +kernel
theorem tyX5_ok : ∀ k, k < 27 → parseFieldDescriptor (TX5 k).2.2.1 = some (tyX5 k) := by decide +kernel
def RL : String := "MaterialBarsLaw"
def RJ6 : String := "java/lang/Integer"
abbrev vwCl : List vw_C := [(RX0, TX0, 5), (RX1, TX1, 9), (RX2, TX2, 3), (RX3, TX3, 8), (RX4, TX4, 9), (RX5, TX5, 27)]
/-- the good words of the tables -/
def T0 : List Cond := lw_tbl.filter goodWord
theorem T0_in {w : Cond} (h : w ∈ lw_tbl) (hg : goodWord w = true) : w ∈ T0 := List.mem_filter.mpr ⟨h, hg⟩
theorem T0_lw {w : Cond} (h : w ∈ T0) : w ∈ lw_tbl := (List.mem_filter.mp h).1
theorem gT {c c1 : Cond} (h : c1 ∈ T0) : GoodIn (c :: T0) (c1 :: T0) := fun w hw => by
  rcases List.mem_cons.mp hw with rfl | h1
  · exact ⟨List.mem_cons_of_mem _ h, good_of_word (List.mem_filter.mp h).2⟩
  · exact ⟨List.mem_cons_of_mem _ h1, good_of_word (List.mem_filter.mp h1).2⟩
theorem gT0 {c1 : Cond} (h : c1 ∈ T0) : GoodIn T0 (c1 :: T0) := fun w hw => by
  rcases List.mem_cons.mp hw with rfl | h1
  · exact ⟨h, good_of_word (List.mem_filter.mp h).2⟩
  · exact ⟨h1, good_of_word (List.mem_filter.mp h1).2⟩
theorem inX0 : ∀ w ∈ wsX00, w ∈ T0 := fun w h => T0_in ((by decide +kernel : ∀ w ∈ wsX00, w ∈ lw_tbl) w h) ((by decide +kernel : ∀ w ∈ wsX00, goodWord w = true) w h)
theorem inX1 : ∀ w ∈ wsX10, w ∈ T0 := fun w h => T0_in ((by decide +kernel : ∀ w ∈ wsX10, w ∈ lw_tbl) w h) ((by decide +kernel : ∀ w ∈ wsX10, goodWord w = true) w h)
theorem inX2 : ∀ w ∈ wsX20, w ∈ T0 := fun w h => T0_in ((by decide +kernel : ∀ w ∈ wsX20, w ∈ lw_tbl) w h) ((by decide +kernel : ∀ w ∈ wsX20, goodWord w = true) w h)
theorem inX3 : ∀ w ∈ wsX30, w ∈ T0 := fun w h => T0_in ((by decide +kernel : ∀ w ∈ wsX30, w ∈ lw_tbl) w h) ((by decide +kernel : ∀ w ∈ wsX30, goodWord w = true) w h)
theorem inX4 : ∀ w ∈ wsX40, w ∈ T0 := fun w h => T0_in ((by decide +kernel : ∀ w ∈ wsX40, w ∈ lw_tbl) w h) ((by decide +kernel : ∀ w ∈ wsX40, goodWord w = true) w h)
theorem inX5 : ∀ w ∈ wsX50, w ∈ T0 := fun w h => T0_in ((by decide +kernel : ∀ w ∈ wsX50, w ∈ lw_tbl) w h) ((by decide +kernel : ∀ w ∈ wsX50, goodWord w = true) w h)
abbrev cX4_init : ByteArray := prog_1_method_1_code
def yX4_init : MethodName := ⟨"MaterialBars", "<init>", "()V"⟩
abbrev wsX4_init : List Cond := .code yX4_init cX4_init 2 none :: T0
abbrev cX4_unit : ByteArray := prog_1_method_2_code
def yX4_unit : MethodName := ⟨"MaterialBars", "unit", "(I)I"⟩
abbrev wsX4_unit : List Cond := .code yX4_unit cX4_unit 2 (some .int) :: T0
abbrev cX4_read : ByteArray := prog_1_method_3_code
def yX4_read : MethodName := ⟨"MaterialBars", "read", "()I"⟩
abbrev wsX4_read : List Cond := .code yX4_read cX4_read 3 (some .int) :: T0
abbrev cX4_uses : ByteArray := prog_1_method_4_code
def yX4_uses : MethodName := ⟨"MaterialBars", "uses", "(II)I"⟩
abbrev wsX4_uses : List Cond := .code yX4_uses cX4_uses 4 (some .int) :: T0
abbrev cX4_object : ByteArray := prog_1_method_5_code
def yX4_object : MethodName := ⟨"MaterialBars", "object", "()I"⟩
abbrev wsX4_object : List Cond := .code yX4_object cX4_object 1 (some .int) :: T0
abbrev cX4_part : ByteArray := prog_1_method_6_code
def yX4_part : MethodName := ⟨"MaterialBars", "part", "(II)I"⟩
abbrev wsX4_part : List Cond := .code yX4_part cX4_part 4 (some .int) :: T0
abbrev cX4_right : ByteArray := prog_1_method_7_code
def yX4_right : MethodName := ⟨"MaterialBars", "right", "(IIZ)Z"⟩
abbrev wsX4_right : List Cond := .code yX4_right cX4_right 6 (some .boolean) :: T0
abbrev cX4_trial : ByteArray := prog_1_method_8_code
def yX4_trial : MethodName := ⟨"MaterialBars", "trial", "(IIZ)Z"⟩
abbrev wsX4_trial : List Cond := .code yX4_trial cX4_trial 6 (some .boolean) :: T0
abbrev cX4_reason : ByteArray := prog_1_method_9_code
def yX4_reason : MethodName := ⟨"MaterialBars", "reason", "(IIII)I"⟩
abbrev wsX4_reason : List Cond := .code yX4_reason cX4_reason 7 (some .int) :: T0
abbrev cX4_done : ByteArray := prog_1_method_10_code
def yX4_done : MethodName := ⟨"MaterialBars", "done", "(IIIII)I"⟩
abbrev wsX4_done : List Cond := .code yX4_done cX4_done 9 (some .int) :: T0
abbrev cX4_row : ByteArray := prog_1_method_11_code
def yX4_row : MethodName := ⟨"MaterialBars", "row", "(III)I"⟩
abbrev wsX4_row : List Cond := .code yX4_row cX4_row 5 (some .int) :: T0
abbrev cX4_stock : ByteArray := prog_1_method_12_code
def yX4_stock : MethodName := ⟨"MaterialBars", "stock", "(II)I"⟩
abbrev wsX4_stock : List Cond := .code yX4_stock cX4_stock 5 (some .int) :: T0
abbrev cX4_about : ByteArray := prog_1_method_13_code
def yX4_about : MethodName := ⟨"MaterialBars", "about", "(II)J"⟩
abbrev wsX4_about : List Cond := .code yX4_about cX4_about 4 (some .long) :: T0
abbrev cX4_apart : ByteArray := prog_1_method_14_code
def yX4_apart : MethodName := ⟨"MaterialBars", "apart", "(II)Z"⟩
abbrev wsX4_apart : List Cond := .code yX4_apart cX4_apart 5 (some .boolean) :: T0
abbrev cX4_put : ByteArray := prog_1_method_15_code
def yX4_put : MethodName := ⟨"MaterialBars", "put", "(II)I"⟩
abbrev wsX4_put : List Cond := .code yX4_put cX4_put 5 (some .int) :: T0
abbrev cX4_plan : ByteArray := prog_1_method_16_code
def yX4_plan : MethodName := ⟨"MaterialBars", "plan", "(II)I"⟩
abbrev wsX4_plan : List Cond := .code yX4_plan cX4_plan 6 (some .int) :: T0
abbrev cX4_step : ByteArray := prog_1_method_17_code
def yX4_step : MethodName := ⟨"MaterialBars", "step", "(I)I"⟩
abbrev wsX4_step : List Cond := .code yX4_step cX4_step 2 (some .int) :: T0
abbrev cX4_count : ByteArray := prog_1_method_18_code
def yX4_count : MethodName := ⟨"MaterialBars", "count", "(I)I"⟩
abbrev wsX4_count : List Cond := .code yX4_count cX4_count 2 (some .int) :: T0
abbrev cX4_checkPlace : ByteArray := prog_1_method_19_code
def yX4_checkPlace : MethodName := ⟨"MaterialBars", "checkPlace", "(II)V"⟩
abbrev wsX4_checkPlace : List Cond := .code yX4_checkPlace cX4_checkPlace 2 none :: T0
abbrev cX4_checkHour : ByteArray := prog_1_method_20_code
def yX4_checkHour : MethodName := ⟨"MaterialBars", "checkHour", "(II)V"⟩
abbrev wsX4_checkHour : List Cond := .code yX4_checkHour cX4_checkHour 2 none :: T0
abbrev cX4_methodAt : ByteArray := prog_1_method_21_code
def yX4_methodAt : MethodName := ⟨"MaterialBars", "methodAt", "(I)LMaterialBars$Method;"⟩
abbrev wsX4_methodAt : List Cond := .code yX4_methodAt cX4_methodAt 2 (some (.object "MaterialBars$Method")) :: T0
abbrev cX4_pieceAt : ByteArray := prog_1_method_22_code
def yX4_pieceAt : MethodName := ⟨"MaterialBars", "pieceAt", "(I)LMaterialBars$Piece;"⟩
abbrev wsX4_pieceAt : List Cond := .code yX4_pieceAt cX4_pieceAt 2 (some (.object "MaterialBars$Piece")) :: T0
abbrev cX4_goodAt : ByteArray := prog_1_method_23_code
def yX4_goodAt : MethodName := ⟨"MaterialBars", "goodAt", "(I)LMaterialBars$Good;"⟩
abbrev wsX4_goodAt : List Cond := .code yX4_goodAt cX4_goodAt 2 (some (.object "MaterialBars$Good")) :: T0
abbrev cX4_has : ByteArray := prog_1_method_24_code
def yX4_has : MethodName := ⟨"MaterialBars", "has", "(II)Z"⟩
abbrev wsX4_has : List Cond := .code yX4_has cX4_has 2 (some .boolean) :: T0
abbrev cX4_with : ByteArray := prog_1_method_25_code
def yX4_with : MethodName := ⟨"MaterialBars", "with", "(IIZ)I"⟩
abbrev wsX4_with : List Cond := .code yX4_with cX4_with 3 (some .int) :: T0
abbrev cX4_lowest : ByteArray := prog_1_method_26_code
def yX4_lowest : MethodName := ⟨"MaterialBars", "lowest", "(I)I"⟩
abbrev wsX4_lowest : List Cond := .code yX4_lowest cX4_lowest 2 (some .int) :: T0
abbrev cX4_reasonAgainst : ByteArray := prog_1_method_27_code
def yX4_reasonAgainst : MethodName := ⟨"MaterialBars", "reasonAgainst", "(LMaterialBars$Piece;LMaterialBars$Method;II)I"⟩
abbrev wsX4_reasonAgainst : List Cond := .code yX4_reasonAgainst cX4_reasonAgainst 10 (some .int) :: T0
abbrev cX4_lowestNotLongEnoughAgo : ByteArray := prog_1_method_28_code
def yX4_lowestNotLongEnoughAgo : MethodName := ⟨"MaterialBars", "lowestNotLongEnoughAgo", "(LMaterialBars$Piece;LMaterialBars$Method;I)I"⟩
abbrev wsX4_lowestNotLongEnoughAgo : List Cond := .code yX4_lowestNotLongEnoughAgo cX4_lowestNotLongEnoughAgo 4 (some .int) :: T0
abbrev cX4_lowestLacking : ByteArray := prog_1_method_29_code
def yX4_lowestLacking : MethodName := ⟨"MaterialBars", "lowestLacking", "(LMaterialBars$Method;)I"⟩
abbrev wsX4_lowestLacking : List Cond := .code yX4_lowestLacking cX4_lowestLacking 3 (some .int) :: T0
abbrev cX4_takeWhatGoes : ByteArray := prog_1_method_30_code
def yX4_takeWhatGoes : MethodName := ⟨"MaterialBars", "takeWhatGoes", "(LMaterialBars$Method;)V"⟩
abbrev wsX4_takeWhatGoes : List Cond := .code yX4_takeWhatGoes cX4_takeWhatGoes 3 none :: T0
abbrev cX4_goodsOn : ByteArray := prog_1_method_31_code
def yX4_goodsOn : MethodName := ⟨"MaterialBars", "goodsOn", "(I)I"⟩
abbrev wsX4_goodsOn : List Cond := .code yX4_goodsOn cX4_goodsOn 4 (some .int) :: T0
abbrev cX4_rowsOfAll : ByteArray := prog_1_method_32_code
def yX4_rowsOfAll : MethodName := ⟨"MaterialBars", "rowsOfAll", "()I"⟩
abbrev wsX4_rowsOfAll : List Cond := .code yX4_rowsOfAll cX4_rowsOfAll 3 (some .int) :: T0
abbrev cX4_withAllAhead : ByteArray := prog_1_method_33_code
def yX4_withAllAhead : MethodName := ⟨"MaterialBars", "withAllAhead", "(I)I"⟩
abbrev wsX4_withAllAhead : List Cond := .code yX4_withAllAhead cX4_withAllAhead 5 (some .int) :: T0
abbrev cX4_eachMayBeDone : ByteArray := prog_1_method_34_code
def yX4_eachMayBeDone : MethodName := ⟨"MaterialBars", "eachMayBeDone", "(LMaterialBars$Piece;I)Z"⟩
abbrev wsX4_eachMayBeDone : List Cond := .code yX4_eachMayBeDone cX4_eachMayBeDone 4 (some .boolean) :: T0
abbrev cX4_mayBeDone : ByteArray := prog_1_method_35_code
def yX4_mayBeDone : MethodName := ⟨"MaterialBars", "mayBeDone", "(LMaterialBars$Piece;I)Z"⟩
abbrev wsX4_mayBeDone : List Cond := .code yX4_mayBeDone cX4_mayBeDone 3 (some .boolean) :: T0
abbrev cX4_putInOrder : ByteArray := prog_1_method_36_code
def yX4_putInOrder : MethodName := ⟨"MaterialBars", "putInOrder", "(II)Z"⟩
abbrev wsX4_putInOrder : List Cond := .code yX4_putInOrder cX4_putInOrder 6 (some .boolean) :: T0
abbrev cX4_lowestThatMayComeNext : ByteArray := prog_1_method_37_code
def yX4_lowestThatMayComeNext : MethodName := ⟨"MaterialBars", "lowestThatMayComeNext", "(I)I"⟩
abbrev wsX4_lowestThatMayComeNext : List Cond := .code yX4_lowestThatMayComeNext cX4_lowestThatMayComeNext 3 (some .int) :: T0
abbrev cX4_hasToWait : ByteArray := prog_1_method_38_code
def yX4_hasToWait : MethodName := ⟨"MaterialBars", "hasToWait", "(II)Z"⟩
abbrev wsX4_hasToWait : List Cond := .code yX4_hasToWait cX4_hasToWait 4 (some .boolean) :: T0
abbrev cX5_init : ByteArray := prog_7_method_1_code
def yX5_init : MethodName := ⟨"MaterialBarsModel", "<init>", "()V"⟩
abbrev wsX5_init : List Cond := .code yX5_init cX5_init 2 none :: T0
abbrev cX5_thrown : ByteArray := prog_7_method_2_code
def yX5_thrown : MethodName := ⟨"MaterialBarsModel", "thrown", "()I"⟩
abbrev wsX5_thrown : List Cond := .code yX5_thrown cX5_thrown 1 (some .int) :: T0
abbrev cX5_goes : ByteArray := prog_7_method_3_code
def yX5_goes : MethodName := ⟨"MaterialBarsModel", "goes", "(ZZZ)Z"⟩
abbrev wsX5_goes : List Cond := .code yX5_goes cX5_goes 4 (some .boolean) :: T0
abbrev cX5_below : ByteArray := prog_7_method_4_code
def yX5_below : MethodName := ⟨"MaterialBarsModel", "below", "(II)Z"⟩
abbrev wsX5_below : List Cond := .code yX5_below cX5_below 2 (some .boolean) :: T0
abbrev cX5_unit : ByteArray := prog_7_method_5_code
def yX5_unit : MethodName := ⟨"MaterialBarsModel", "unit", "(I)I"⟩
abbrev wsX5_unit : List Cond := .code yX5_unit cX5_unit 2 (some .int) :: T0
abbrev cX5_greatest : ByteArray := prog_7_method_6_code
def yX5_greatest : MethodName := ⟨"MaterialBarsModel", "greatest", "(I)I"⟩
abbrev wsX5_greatest : List Cond := .code yX5_greatest cX5_greatest 1 (some .int) :: T0
abbrev cX5_isLetter : ByteArray := prog_7_method_7_code
def yX5_isLetter : MethodName := ⟨"MaterialBarsModel", "isLetter", "(I)Z"⟩
abbrev wsX5_isLetter : List Cond := .code yX5_isLetter cX5_isLetter 1 (some .boolean) :: T0
abbrev cX5_fault : ByteArray := prog_7_method_8_code
def yX5_fault : MethodName := ⟨"MaterialBarsModel", "fault", "()I"⟩
abbrev wsX5_fault : List Cond := .code yX5_fault cX5_fault 10 (some .int) :: T0
abbrev cX5_read : ByteArray := prog_7_method_9_code
def yX5_read : MethodName := ⟨"MaterialBarsModel", "read", "()I"⟩
abbrev wsX5_read : List Cond := .code yX5_read cX5_read 2 (some .int) :: T0
abbrev cX5_isMethod : ByteArray := prog_7_method_10_code
def yX5_isMethod : MethodName := ⟨"MaterialBarsModel", "isMethod", "(I)Z"⟩
abbrev wsX5_isMethod : List Cond := .code yX5_isMethod cX5_isMethod 2 (some .boolean) :: T0
abbrev cX5_used : ByteArray := prog_7_method_11_code
def yX5_used : MethodName := ⟨"MaterialBarsModel", "used", "(II)I"⟩
abbrev wsX5_used : List Cond := .code yX5_used cX5_used 5 (some .int) :: T0
abbrev cX5_uses : ByteArray := prog_7_method_12_code
def yX5_uses : MethodName := ⟨"MaterialBarsModel", "uses", "(II)I"⟩
abbrev wsX5_uses : List Cond := .code yX5_uses cX5_uses 3 (some .int) :: T0
abbrev cX5_has : ByteArray := prog_7_method_13_code
def yX5_has : MethodName := ⟨"MaterialBarsModel", "has", "(III)Z"⟩
abbrev wsX5_has : List Cond := .code yX5_has cX5_has 6 (some .boolean) :: T0
abbrev cX5_object : ByteArray := prog_7_method_14_code
def yX5_object : MethodName := ⟨"MaterialBarsModel", "object", "()I"⟩
abbrev wsX5_object : List Cond := .code yX5_object cX5_object 1 (some .int) :: T0
abbrev cX5_isObject : ByteArray := prog_7_method_15_code
def yX5_isObject : MethodName := ⟨"MaterialBarsModel", "isObject", "(I)Z"⟩
abbrev wsX5_isObject : List Cond := .code yX5_isObject cX5_isObject 2 (some .boolean) :: T0
abbrev cX5_part : ByteArray := prog_7_method_16_code
def yX5_part : MethodName := ⟨"MaterialBarsModel", "part", "(II)I"⟩
abbrev wsX5_part : List Cond := .code yX5_part cX5_part 4 (some .int) :: T0
abbrev cX5_right : ByteArray := prog_7_method_17_code
def yX5_right : MethodName := ⟨"MaterialBarsModel", "right", "(IIZ)Z"⟩
abbrev wsX5_right : List Cond := .code yX5_right cX5_right 5 (some .boolean) :: T0
abbrev cX5_trial : ByteArray := prog_7_method_18_code
def yX5_trial : MethodName := ⟨"MaterialBarsModel", "trial", "(IIZ)Z"⟩
abbrev wsX5_trial : List Cond := .code yX5_trial cX5_trial 5 (some .boolean) :: T0
abbrev cX5_latest : ByteArray := prog_7_method_19_code
def yX5_latest : MethodName := ⟨"MaterialBarsModel", "latest", "(II)I"⟩
abbrev wsX5_latest : List Cond := .code yX5_latest cX5_latest 5 (some .int) :: T0
abbrev cX5_barred : ByteArray := prog_7_method_20_code
def yX5_barred : MethodName := ⟨"MaterialBarsModel", "barred", "(II)I"⟩
abbrev wsX5_barred : List Cond := .code yX5_barred cX5_barred 4 (some .int) :: T0
abbrev cX5_waits : ByteArray := prog_7_method_21_code
def yX5_waits : MethodName := ⟨"MaterialBarsModel", "waits", "(IIII)Z"⟩
abbrev wsX5_waits : List Cond := .code yX5_waits cX5_waits 8 (some .boolean) :: T0
abbrev cX5_hasPart : ByteArray := prog_7_method_22_code
def yX5_hasPart : MethodName := ⟨"MaterialBarsModel", "hasPart", "(II)Z"⟩
abbrev wsX5_hasPart : List Cond := .code yX5_hasPart cX5_hasPart 5 (some .boolean) :: T0
abbrev cX5_why : ByteArray := prog_7_method_23_code
def yX5_why : MethodName := ⟨"MaterialBarsModel", "why", "(IIII)I"⟩
abbrev wsX5_why : List Cond := .code yX5_why cX5_why 6 (some .int) :: T0
abbrev cX5_isHour : ByteArray := prog_7_method_24_code
def yX5_isHour : MethodName := ⟨"MaterialBarsModel", "isHour", "(I)Z"⟩
abbrev wsX5_isHour : List Cond := .code yX5_isHour cX5_isHour 1 (some .boolean) :: T0
abbrev cX5_reason : ByteArray := prog_7_method_25_code
def yX5_reason : MethodName := ⟨"MaterialBarsModel", "reason", "(IIII)I"⟩
abbrev wsX5_reason : List Cond := .code yX5_reason cX5_reason 5 (some .int) :: T0
abbrev cX5_done : ByteArray := prog_7_method_26_code
def yX5_done : MethodName := ⟨"MaterialBarsModel", "done", "(IIIII)I"⟩
abbrev wsX5_done : List Cond := .code yX5_done cX5_done 12 (some .int) :: T0
abbrev cX5_row : ByteArray := prog_7_method_27_code
def yX5_row : MethodName := ⟨"MaterialBarsModel", "row", "(III)I"⟩
abbrev wsX5_row : List Cond := .code yX5_row cX5_row 6 (some .int) :: T0
abbrev cX5_stock : ByteArray := prog_7_method_28_code
def yX5_stock : MethodName := ⟨"MaterialBarsModel", "stock", "(II)I"⟩
abbrev wsX5_stock : List Cond := .code yX5_stock cX5_stock 4 (some .int) :: T0
abbrev cX5_about : ByteArray := prog_7_method_29_code
def yX5_about : MethodName := ⟨"MaterialBarsModel", "about", "(II)J"⟩
abbrev wsX5_about : List Cond := .code yX5_about cX5_about 3 (some .long) :: T0
abbrev cX5_apart : ByteArray := prog_7_method_30_code
def yX5_apart : MethodName := ⟨"MaterialBarsModel", "apart", "(II)Z"⟩
abbrev wsX5_apart : List Cond := .code yX5_apart cX5_apart 3 (some .boolean) :: T0
abbrev cX5_put : ByteArray := prog_7_method_31_code
def yX5_put : MethodName := ⟨"MaterialBarsModel", "put", "(II)I"⟩
abbrev wsX5_put : List Cond := .code yX5_put cX5_put 4 (some .int) :: T0
abbrev cX5_mayCome : ByteArray := prog_7_method_32_code
def yX5_mayCome : MethodName := ⟨"MaterialBarsModel", "mayCome", "(III)Z"⟩
abbrev wsX5_mayCome : List Cond := .code yX5_mayCome cX5_mayCome 7 (some .boolean) :: T0
abbrev cX5_methodsOf : ByteArray := prog_7_method_33_code
def yX5_methodsOf : MethodName := ⟨"MaterialBarsModel", "methodsOf", "(II)I"⟩
abbrev wsX5_methodsOf : List Cond := .code yX5_methodsOf cX5_methodsOf 5 (some .int) :: T0
abbrev cX5_closed : ByteArray := prog_7_method_34_code
def yX5_closed : MethodName := ⟨"MaterialBarsModel", "closed", "(I)I"⟩
abbrev wsX5_closed : List Cond := .code yX5_closed cX5_closed 6 (some .int) :: T0
abbrev cX5_orders : ByteArray := prog_7_method_35_code
def yX5_orders : MethodName := ⟨"MaterialBarsModel", "orders", "(II)Z"⟩
abbrev wsX5_orders : List Cond := .code yX5_orders cX5_orders 6 (some .boolean) :: T0
abbrev cX5_plan : ByteArray := prog_7_method_36_code
def yX5_plan : MethodName := ⟨"MaterialBarsModel", "plan", "(II)I"⟩
abbrev wsX5_plan : List Cond := .code yX5_plan cX5_plan 9 (some .int) :: T0
abbrev cX5_step : ByteArray := prog_7_method_37_code
def yX5_step : MethodName := ⟨"MaterialBarsModel", "step", "(I)I"⟩
abbrev wsX5_step : List Cond := .code yX5_step cX5_step 2 (some .int) :: T0
abbrev cX5_count : ByteArray := prog_7_method_38_code
def yX5_count : MethodName := ⟨"MaterialBarsModel", "count", "(I)I"⟩
abbrev wsX5_count : List Cond := .code yX5_count cX5_count 4 (some .int) :: T0
abbrev cX0_init : ByteArray := prog_2_method_1_code
def yX0_init : MethodName := ⟨"MaterialBars$Good", "<init>", "()V"⟩
abbrev wsX0_init : List Cond := .code yX0_init cX0_init 1 none :: T0
abbrev cX0_changeBy : ByteArray := prog_2_method_2_code
def yX0_changeBy : MethodName := ⟨"MaterialBars$Good", "changeBy", "(I)V"⟩
abbrev wsX0_changeBy : List Cond := .code yX0_changeBy cX0_changeBy 2 none :: T0
abbrev cX1_init : ByteArray := prog_3_method_1_code
def yX1_init : MethodName := ⟨"MaterialBars$Method", "<init>", "()V"⟩
abbrev wsX1_init : List Cond := .code yX1_init cX1_init 1 none :: T0
abbrev cX1_clear : ByteArray := prog_3_method_2_code
def yX1_clear : MethodName := ⟨"MaterialBars$Method", "clear", "()V"⟩
abbrev wsX1_clear : List Cond := .code yX1_clear cX1_clear 2 none :: T0
abbrev cX2_init : ByteArray := prog_4_method_1_code
def yX2_init : MethodName := ⟨"MaterialBars$Pad", "<init>", "()V"⟩
abbrev wsX2_init : List Cond := .code yX2_init cX2_init 1 none :: T0
abbrev cX2_readText : ByteArray := prog_4_method_2_code
def yX2_readText : MethodName := ⟨"MaterialBars$Pad", "readText", "(LMaterialBars$Method;)Z"⟩
abbrev wsX2_readText : List Cond := .code yX2_readText cX2_readText 3 (some .boolean) :: T0
abbrev cX2_readClause : ByteArray := prog_4_method_3_code
def yX2_readClause : MethodName := ⟨"MaterialBars$Pad", "readClause", "(LMaterialBars$Method;)Z"⟩
abbrev wsX2_readClause : List Cond := .code yX2_readClause cX2_readClause 2 (some .boolean) :: T0
abbrev cX2_readUse : ByteArray := prog_4_method_4_code
def yX2_readUse : MethodName := ⟨"MaterialBars$Pad", "readUse", "(LMaterialBars$Method;)Z"⟩
abbrev wsX2_readUse : List Cond := .code yX2_readUse cX2_readUse 4 (some .boolean) :: T0
abbrev cX2_readBar : ByteArray := prog_4_method_5_code
def yX2_readBar : MethodName := ⟨"MaterialBars$Pad", "readBar", "(LMaterialBars$Method;)Z"⟩
abbrev wsX2_readBar : List Cond := .code yX2_readBar cX2_readBar 3 (some .boolean) :: T0
abbrev cX2_readNotBehind : ByteArray := prog_4_method_6_code
def yX2_readNotBehind : MethodName := ⟨"MaterialBars$Pad", "readNotBehind", "(LMaterialBars$Method;)Z"⟩
abbrev wsX2_readNotBehind : List Cond := .code yX2_readNotBehind cX2_readNotBehind 3 (some .boolean) :: T0
abbrev cX2_readAfter : ByteArray := prog_4_method_7_code
def yX2_readAfter : MethodName := ⟨"MaterialBars$Pad", "readAfter", "(LMaterialBars$Method;)Z"⟩
abbrev wsX2_readAfter : List Cond := .code yX2_readAfter cX2_readAfter 4 (some .boolean) :: T0
abbrev cX2_readNumber : ByteArray := prog_4_method_8_code
def yX2_readNumber : MethodName := ⟨"MaterialBars$Pad", "readNumber", "(II)I"⟩
abbrev wsX2_readNumber : List Cond := .code yX2_readNumber cX2_readNumber 6 (some .int) :: T0
abbrev cX2_take : ByteArray := prog_4_method_9_code
def yX2_take : MethodName := ⟨"MaterialBars$Pad", "take", "(I)Z"⟩
abbrev wsX2_take : List Cond := .code yX2_take cX2_take 2 (some .boolean) :: T0
abbrev cX2_signHere : ByteArray := prog_4_method_10_code
def yX2_signHere : MethodName := ⟨"MaterialBars$Pad", "signHere", "()I"⟩
abbrev wsX2_signHere : List Cond := .code yX2_signHere cX2_signHere 1 (some .int) :: T0
abbrev cX2_isDigit : ByteArray := prog_4_method_11_code
def yX2_isDigit : MethodName := ⟨"MaterialBars$Pad", "isDigit", "(I)Z"⟩
abbrev wsX2_isDigit : List Cond := .code yX2_isDigit cX2_isDigit 1 (some .boolean) :: T0
abbrev cX3_init : ByteArray := prog_5_method_1_code
def yX3_init : MethodName := ⟨"MaterialBars$Piece", "<init>", "()V"⟩
abbrev wsX3_init : List Cond := .code yX3_init cX3_init 1 none :: T0
abbrev cX3_addPart : ByteArray := prog_5_method_2_code
def yX3_addPart : MethodName := ⟨"MaterialBars$Piece", "addPart", "(I)I"⟩
abbrev wsX3_addPart : List Cond := .code yX3_addPart cX3_addPart 2 (some .int) :: T0
abbrev cX3_firstPartOf : ByteArray := prog_5_method_3_code
def yX3_firstPartOf : MethodName := ⟨"MaterialBars$Piece", "firstPartOf", "(I)I"⟩
abbrev wsX3_firstPartOf : List Cond := .code yX3_firstPartOf cX3_firstPartOf 3 (some .int) :: T0
abbrev cX3_addRow : ByteArray := prog_5_method_4_code
def yX3_addRow : MethodName := ⟨"MaterialBars$Piece", "addRow", "(IIII)V"⟩
abbrev wsX3_addRow : List Cond := .code yX3_addRow cX3_addRow 6 none :: T0
abbrev cL_unit : ByteArray := method_3_code
def yL_unit : MethodName := ⟨"MaterialBarsLaw", "unit", "(LMaterialBars;I[J)I"⟩
abbrev wsL_unit : List Cond := .codeWith yL_unit cL_unit 4 (some .int) [(0, 9, 12, 13), (0, 9, 15, 15)] :: T0
abbrev cL_read : ByteArray := method_4_code
def yL_read : MethodName := ⟨"MaterialBarsLaw", "read", "(LMaterialBars;[J)I"⟩
abbrev wsL_read : List Cond := .codeWith yL_read cL_read 3 (some .int) [(0, 8, 11, 13)] :: T0
abbrev cL_uses : ByteArray := method_5_code
def yL_uses : MethodName := ⟨"MaterialBarsLaw", "uses", "(LMaterialBars;II[J)I"⟩
abbrev wsL_uses : List Cond := .codeWith yL_uses cL_uses 5 (some .int) [(0, 10, 13, 25)] :: T0
abbrev cL_object : ByteArray := method_6_code
def yL_object : MethodName := ⟨"MaterialBarsLaw", "object", "(LMaterialBars;[J)I"⟩
abbrev wsL_object : List Cond := .codeWith yL_object cL_object 3 (some .int) [(0, 8, 11, 13)] :: T0
abbrev cL_part : ByteArray := method_7_code
def yL_part : MethodName := ⟨"MaterialBarsLaw", "part", "(LMaterialBars;II[J)I"⟩
abbrev wsL_part : List Cond := .codeWith yL_part cL_part 5 (some .int) [(0, 10, 13, 25), (0, 10, 17, 13)] :: T0
abbrev cL_right : ByteArray := method_8_code
def yL_right : MethodName := ⟨"MaterialBarsLaw", "right", "(LMaterialBars;IIZ[J)I"⟩
abbrev wsL_right : List Cond := .codeWith yL_right cL_right 6 (some .int) [(0, 19, 22, 25)] :: T0
abbrev cL_trial : ByteArray := method_9_code
def yL_trial : MethodName := ⟨"MaterialBarsLaw", "trial", "(LMaterialBars;IIZ[J)I"⟩
abbrev wsL_trial : List Cond := .codeWith yL_trial cL_trial 6 (some .int) [(0, 19, 22, 25)] :: T0
abbrev cL_reason : ByteArray := method_10_code
def yL_reason : MethodName := ⟨"MaterialBarsLaw", "reason", "(LMaterialBars;IIII[J)I"⟩
abbrev wsL_reason : List Cond := .codeWith yL_reason cL_reason 7 (some .int) [(0, 14, 17, 25), (0, 14, 21, 15)] :: T0
abbrev cL_done : ByteArray := method_11_code
def yL_done : MethodName := ⟨"MaterialBarsLaw", "done", "(LMaterialBars;IIIII[J)I"⟩
abbrev wsL_done : List Cond := .codeWith yL_done cL_done 8 (some .int) [(0, 16, 19, 25), (0, 16, 23, 13), (0, 16, 27, 15)] :: T0
abbrev cL_row : ByteArray := method_12_code
def yL_row : MethodName := ⟨"MaterialBarsLaw", "row", "(LMaterialBars;III[J)I"⟩
abbrev wsL_row : List Cond := .codeWith yL_row cL_row 6 (some .int) [(0, 12, 15, 25)] :: T0
abbrev cL_stock : ByteArray := method_13_code
def yL_stock : MethodName := ⟨"MaterialBarsLaw", "stock", "(LMaterialBars;II[J)I"⟩
abbrev wsL_stock : List Cond := .codeWith yL_stock cL_stock 5 (some .int) [(0, 10, 13, 25), (0, 10, 17, 15)] :: T0
abbrev cL_about : ByteArray := method_14_code
def yL_about : MethodName := ⟨"MaterialBarsLaw", "about", "(LMaterialBars;II[J)I"⟩
abbrev wsL_about : List Cond := .codeWith yL_about cL_about 5 (some .int) [(0, 9, 12, 25)] :: T0
abbrev cL_apart : ByteArray := method_15_code
def yL_apart : MethodName := ⟨"MaterialBarsLaw", "apart", "(LMaterialBars;II[J)I"⟩
abbrev wsL_apart : List Cond := .codeWith yL_apart cL_apart 5 (some .int) [(0, 17, 20, 25)] :: T0
abbrev cL_put : ByteArray := method_16_code
def yL_put : MethodName := ⟨"MaterialBarsLaw", "put", "(LMaterialBars;II[J)I"⟩
abbrev wsL_put : List Cond := .codeWith yL_put cL_put 5 (some .int) [(0, 10, 13, 25)] :: T0
abbrev cL_plan : ByteArray := method_17_code
def yL_plan : MethodName := ⟨"MaterialBarsLaw", "plan", "(LMaterialBars;II[J)I"⟩
abbrev wsL_plan : List Cond := .codeWith yL_plan cL_plan 5 (some .int) [(0, 10, 13, 25)] :: T0
abbrev cL_step : ByteArray := method_18_code
def yL_step : MethodName := ⟨"MaterialBarsLaw", "step", "(LMaterialBars;I[J)I"⟩
abbrev wsL_step : List Cond := .codeWith yL_step cL_step 4 (some .int) [(0, 9, 12, 25)] :: T0
abbrev cL_count : ByteArray := method_19_code
def yL_count : MethodName := ⟨"MaterialBarsLaw", "count", "(LMaterialBars;I[J)I"⟩
abbrev wsL_count : List Cond := .codeWith yL_count cL_count 4 (some .int) [(0, 9, 12, 25)] :: T0
abbrev cJ6_bitCount : ByteArray := prog_12_method_49_code
def yJ6_bitCount : MethodName := ⟨"java/lang/Integer", "bitCount", "(I)I"⟩
abbrev wsJ6_bitCount : List Cond := .code yJ6_bitCount cJ6_bitCount 1 (some .int) :: T0
end
section
theorem mw_0 : (Jvm.Cond.initialized "MaterialBarsLaw") ∈ T0 := T0_in (List.mem_append_right _ (List.mem_append_left _ (List.mem_of_getElem? (i := 0) (by decide +kernel)))) rfl
theorem mw_1 : (Jvm.Cond.initialized "MaterialBars") ∈ T0 := T0_in (List.mem_append_right _ (List.mem_append_left _ (List.mem_of_getElem? (i := 1) (by decide +kernel)))) rfl
theorem mw_2 : (Jvm.Cond.initialized "MaterialBars$Pad") ∈ T0 := T0_in (List.mem_append_right _ (List.mem_append_left _ (List.mem_of_getElem? (i := 2) (by decide +kernel)))) rfl
theorem mw_3 : (Jvm.Cond.initialized "MaterialBars$Method") ∈ T0 := T0_in (List.mem_append_right _ (List.mem_append_left _ (List.mem_of_getElem? (i := 3) (by decide +kernel)))) rfl
theorem mw_4 : (Jvm.Cond.initialized "MaterialBars$Piece") ∈ T0 := T0_in (List.mem_append_right _ (List.mem_append_left _ (List.mem_of_getElem? (i := 4) (by decide +kernel)))) rfl
theorem mw_5 : (Jvm.Cond.initialized "MaterialBars$Good") ∈ T0 := T0_in (List.mem_append_right _ (List.mem_append_left _ (List.mem_of_getElem? (i := 5) (by decide +kernel)))) rfl
theorem mw_6 : (Jvm.Cond.initialized "MaterialBarsModel") ∈ T0 := T0_in (List.mem_append_right _ (List.mem_append_left _ (List.mem_of_getElem? (i := 6) (by decide +kernel)))) rfl
theorem mw_7 : (Jvm.Cond.initialized "java/lang/Throwable") ∈ T0 := T0_in (List.mem_append_right _ (List.mem_append_left _ (List.mem_of_getElem? (i := 7) (by decide +kernel)))) rfl
theorem mw_8 : (Jvm.Cond.initialized "java/lang/Exception") ∈ T0 := T0_in (List.mem_append_right _ (List.mem_append_left _ (List.mem_of_getElem? (i := 8) (by decide +kernel)))) rfl
theorem mw_9 : (Jvm.Cond.initialized "java/lang/RuntimeException") ∈ T0 := T0_in (List.mem_append_right _ (List.mem_append_left _ (List.mem_of_getElem? (i := 9) (by decide +kernel)))) rfl
theorem mw_10 : (Jvm.Cond.initialized "java/lang/IllegalStateException") ∈ T0 := T0_in (List.mem_append_right _ (List.mem_append_left _ (List.mem_of_getElem? (i := 10) (by decide +kernel)))) rfl
theorem mw_11 : (Jvm.Cond.initialized "java/lang/IllegalArgumentException") ∈ T0 := T0_in (List.mem_append_right _ (List.mem_append_left _ (List.mem_of_getElem? (i := 11) (by decide +kernel)))) rfl
theorem mw_12 : (Jvm.Cond.initialized "java/lang/Math") ∈ T0 := T0_in (List.mem_append_right _ (List.mem_append_left _ (List.mem_of_getElem? (i := 12) (by decide +kernel)))) rfl
theorem mw_13 : (Jvm.Cond.initialized "java/lang/IndexOutOfBoundsException") ∈ T0 := T0_in (List.mem_append_right _ (List.mem_append_left _ (List.mem_of_getElem? (i := 13) (by decide +kernel)))) rfl
theorem mw_14 : (Jvm.Cond.initialized "java/lang/Integer") ∈ T0 := T0_in (List.mem_append_right _ (List.mem_append_left _ (List.mem_of_getElem? (i := 14) (by decide +kernel)))) rfl
theorem mw_15 : (Jvm.Cond.initialized "java/lang/System") ∈ T0 := T0_in (List.mem_append_right _ (List.mem_append_left _ (List.mem_of_getElem? (i := 15) (by decide +kernel)))) rfl
theorem mw_16 : (Jvm.Cond.classLink "MaterialBarsLaw" (8 : Nat) "MaterialBars") ∈ T0 := T0_in (List.mem_append_right _ (List.mem_append_left _ (List.mem_of_getElem? (i := 16) (by decide +kernel)))) rfl
theorem mw_17 : (Jvm.Cond.instantiable "MaterialBars" (9 : Nat)) ∈ T0 := T0_in (List.mem_append_right _ (List.mem_append_left _ (List.mem_of_getElem? (i := 17) (by decide +kernel)))) rfl
theorem mw_18 : (Jvm.Cond.methodLink "MaterialBarsLaw" (75 : Nat) ({ cls := "MaterialBars", name := "<init>", desc := "()V" } : Jvm.MethodName)) ∈ T0 := T0_in (List.mem_append_right _ (List.mem_append_left _ (List.mem_of_getElem? (i := 18) (by decide +kernel)))) rfl
theorem mw_19 : (Jvm.Cond.instanceMethod ({ cls := "MaterialBars", name := "<init>", desc := "()V" } : Jvm.MethodName)) ∈ T0 := T0_in (List.mem_append_right _ (List.mem_append_left _ (List.mem_of_getElem? (i := 19) (by decide +kernel)))) rfl
theorem mw_20 : (Jvm.Cond.code ({ cls := "MaterialBars", name := "<init>", desc := "()V" } : Jvm.MethodName) prog_1_method_1_code (2 : Nat) (Option.none : Option Jvm.ClassFile.FieldType)) ∈ T0 := T0_in (List.mem_append_right _ (List.mem_append_left _ (List.mem_of_getElem? (i := 20) rfl))) rfl
theorem mw_21 : (Jvm.Cond.methodLink "MaterialBars" (1 : Nat) ({ cls := "java/lang/Object", name := "<init>", desc := "()V" } : Jvm.MethodName)) ∈ T0 := T0_in (List.mem_append_right _ (List.mem_append_left _ (List.mem_of_getElem? (i := 21) (by decide +kernel)))) rfl
theorem mw_22 : (Jvm.Cond.instanceMethod ({ cls := "java/lang/Object", name := "<init>", desc := "()V" } : Jvm.MethodName)) ∈ T0 := T0_in (List.mem_append_right _ (List.mem_append_left _ (List.mem_of_getElem? (i := 22) (by decide +kernel)))) rfl
theorem mw_23 : (Jvm.Cond.code ({ cls := "java/lang/Object", name := "<init>", desc := "()V" } : Jvm.MethodName) object_method_1_code (1 : Nat) (Option.none : Option Jvm.ClassFile.FieldType)) ∈ T0 := T0_in (List.mem_append_right _ (List.mem_append_left _ (List.mem_of_getElem? (i := 23) rfl))) rfl
theorem mw_24 : (Jvm.Cond.classLink "MaterialBars" (7 : Nat) "MaterialBars$Pad") ∈ T0 := T0_in (List.mem_append_right _ (List.mem_append_left _ (List.mem_of_getElem? (i := 24) (by decide +kernel)))) rfl
theorem mw_25 : (Jvm.Cond.instantiable "MaterialBars$Pad" (3 : Nat)) ∈ T0 := T0_in (List.mem_append_right _ (List.mem_append_left _ (List.mem_of_getElem? (i := 25) (by decide +kernel)))) rfl
theorem mw_27 : (Jvm.Cond.instanceMethod ({ cls := "MaterialBars$Pad", name := "<init>", desc := "()V" } : Jvm.MethodName)) ∈ T0 := T0_in (List.mem_append_right _ (List.mem_append_left _ (List.mem_of_getElem? (i := 27) (by decide +kernel)))) rfl
theorem mw_28 : (Jvm.Cond.code ({ cls := "MaterialBars$Pad", name := "<init>", desc := "()V" } : Jvm.MethodName) prog_4_method_1_code (1 : Nat) (Option.none : Option Jvm.ClassFile.FieldType)) ∈ T0 := T0_in (List.mem_append_right _ (List.mem_append_left _ (List.mem_of_getElem? (i := 28) rfl))) rfl
theorem mw_29 : (Jvm.Cond.methodLink "MaterialBars$Pad" (3 : Nat) ({ cls := "java/lang/Object", name := "<init>", desc := "()V" } : Jvm.MethodName)) ∈ T0 := T0_in (List.mem_append_right _ (List.mem_append_left _ (List.mem_of_getElem? (i := 29) (by decide +kernel)))) rfl
theorem mw_30 : (Jvm.Cond.fieldLink "MaterialBars$Pad" (9 : Nat) "MaterialBars$Pad" "signs" "[I") ∈ T0 := T0_in (List.mem_append_right _ (List.mem_append_left _ (List.mem_of_getElem? (i := 30) (by decide +kernel)))) rfl
theorem mw_31 : (Jvm.Cond.fieldLink "MaterialBars" (60 : Nat) "MaterialBars$Pad" "signs" "[I") ∈ T0 := T0_in (List.mem_append_right _ (List.mem_append_left _ (List.mem_of_getElem? (i := 31) (by decide +kernel)))) rfl
theorem mw_32 : (Jvm.Cond.fieldLink "MaterialBars" (44 : Nat) "MaterialBars$Pad" "length" "I") ∈ T0 := T0_in (List.mem_append_right _ (List.mem_append_left _ (List.mem_of_getElem? (i := 32) (by decide +kernel)))) rfl
theorem mw_33 : (Jvm.Cond.fieldLink "MaterialBars$Pad" (19 : Nat) "MaterialBars$Pad" "length" "I") ∈ T0 := T0_in (List.mem_append_right _ (List.mem_append_left _ (List.mem_of_getElem? (i := 33) (by decide +kernel)))) rfl
theorem mw_34 : (Jvm.Cond.fieldLink "MaterialBars$Pad" (15 : Nat) "MaterialBars$Pad" "at" "I") ∈ T0 := T0_in (List.mem_append_right _ (List.mem_append_left _ (List.mem_of_getElem? (i := 34) (by decide +kernel)))) rfl
theorem mw_35 : (Jvm.Cond.fieldLink "MaterialBars" (75 : Nat) "MaterialBars$Pad" "at" "I") ∈ T0 := T0_in (List.mem_append_right _ (List.mem_append_left _ (List.mem_of_getElem? (i := 35) (by decide +kernel)))) rfl
theorem mw_36 : (Jvm.Cond.laysFinal "MaterialBars$Pad" "MaterialBars$Pad" "signs" "[I") ∈ T0 := T0_in (List.mem_append_right _ (List.mem_append_left _ (List.mem_of_getElem? (i := 36) (by decide +kernel)))) rfl
theorem mw_37 : (Jvm.Cond.soleField "MaterialBars$Pad" "signs") ∈ T0 := T0_in (List.mem_append_right _ (List.mem_append_left _ (List.mem_of_getElem? (i := 37) (by decide +kernel)))) rfl
theorem mw_38 : (Jvm.Cond.lays "MaterialBars$Pad" "MaterialBars$Pad" "length" "I") ∈ T0 := T0_in (List.mem_append_right _ (List.mem_append_left _ (List.mem_of_getElem? (i := 38) (by decide +kernel)))) rfl
theorem mw_39 : (Jvm.Cond.soleField "MaterialBars$Pad" "length") ∈ T0 := T0_in (List.mem_append_right _ (List.mem_append_left _ (List.mem_of_getElem? (i := 39) (by decide +kernel)))) rfl
theorem mw_40 : (Jvm.Cond.lays "MaterialBars$Pad" "MaterialBars$Pad" "at" "I") ∈ T0 := T0_in (List.mem_append_right _ (List.mem_append_left _ (List.mem_of_getElem? (i := 40) (by decide +kernel)))) rfl
theorem mw_41 : (Jvm.Cond.soleField "MaterialBars$Pad" "at") ∈ T0 := T0_in (List.mem_append_right _ (List.mem_append_left _ (List.mem_of_getElem? (i := 41) (by decide +kernel)))) rfl
theorem mw_42 : (Jvm.Cond.superclass "MaterialBars$Pad" "java/lang/Object") ∈ T0 := T0_in (List.mem_append_right _ (List.mem_append_left _ (List.mem_of_getElem? (i := 42) (by decide +kernel)))) rfl
theorem mw_43 : (Jvm.Cond.arrayClass Jvm.ClassFile.FieldType.int) ∈ T0 := T0_in (List.mem_append_right _ (List.mem_append_left _ (List.mem_of_getElem? (i := 43) (by decide +kernel)))) rfl
theorem mw_44 : (Jvm.Cond.classLink "MaterialBars" (16 : Nat) "MaterialBars$Method") ∈ T0 := T0_in (List.mem_append_right _ (List.mem_append_left _ (List.mem_of_getElem? (i := 44) (by decide +kernel)))) rfl
theorem mw_46 : (Jvm.Cond.instantiable "MaterialBars$Method" (9 : Nat)) ∈ T0 := T0_in (List.mem_append_right _ (List.mem_append_left _ (List.mem_of_getElem? (i := 46) (by decide +kernel)))) rfl
theorem mw_48 : (Jvm.Cond.instanceMethod ({ cls := "MaterialBars$Method", name := "<init>", desc := "()V" } : Jvm.MethodName)) ∈ T0 := T0_in (List.mem_append_right _ (List.mem_append_left _ (List.mem_of_getElem? (i := 48) (by decide +kernel)))) rfl
theorem mw_49 : (Jvm.Cond.code ({ cls := "MaterialBars$Method", name := "<init>", desc := "()V" } : Jvm.MethodName) prog_3_method_1_code (1 : Nat) (Option.none : Option Jvm.ClassFile.FieldType)) ∈ T0 := T0_in (List.mem_append_right _ (List.mem_append_left _ (List.mem_of_getElem? (i := 49) rfl))) rfl
theorem mw_50 : (Jvm.Cond.methodLink "MaterialBars$Method" (3 : Nat) ({ cls := "java/lang/Object", name := "<init>", desc := "()V" } : Jvm.MethodName)) ∈ T0 := T0_in (List.mem_append_right _ (List.mem_append_left _ (List.mem_of_getElem? (i := 50) (by decide +kernel)))) rfl
theorem mw_51 : (Jvm.Cond.fieldLink "MaterialBars$Method" (9 : Nat) "MaterialBars$Method" "amounts" "[I") ∈ T0 := T0_in (List.mem_append_right _ (List.mem_append_left _ (List.mem_of_getElem? (i := 51) (by decide +kernel)))) rfl
theorem mw_52 : (Jvm.Cond.fieldLink "MaterialBars" (86 : Nat) "MaterialBars$Method" "amounts" "[I") ∈ T0 := T0_in (List.mem_append_right _ (List.mem_append_left _ (List.mem_of_getElem? (i := 52) (by decide +kernel)))) rfl
theorem mw_53 : (Jvm.Cond.fieldLink "MaterialBars$Pad" (55 : Nat) "MaterialBars$Method" "amounts" "[I") ∈ T0 := T0_in (List.mem_append_right _ (List.mem_append_left _ (List.mem_of_getElem? (i := 53) (by decide +kernel)))) rfl
theorem mw_54 : (Jvm.Cond.fieldLink "MaterialBars$Method" (15 : Nat) "MaterialBars$Method" "hours" "[I") ∈ T0 := T0_in (List.mem_append_right _ (List.mem_append_left _ (List.mem_of_getElem? (i := 54) (by decide +kernel)))) rfl
theorem mw_55 : (Jvm.Cond.fieldLink "MaterialBars$Pad" (71 : Nat) "MaterialBars$Method" "hours" "[I") ∈ T0 := T0_in (List.mem_append_right _ (List.mem_append_left _ (List.mem_of_getElem? (i := 55) (by decide +kernel)))) rfl
theorem mw_56 : (Jvm.Cond.fieldLink "MaterialBars" (256 : Nat) "MaterialBars$Method" "hours" "[I") ∈ T0 := T0_in (List.mem_append_right _ (List.mem_append_left _ (List.mem_of_getElem? (i := 56) (by decide +kernel)))) rfl
theorem mw_57 : (Jvm.Cond.fieldLink "MaterialBars$Method" (18 : Nat) "MaterialBars$Method" "barred" "I") ∈ T0 := T0_in (List.mem_append_right _ (List.mem_append_left _ (List.mem_of_getElem? (i := 57) (by decide +kernel)))) rfl
theorem mw_58 : (Jvm.Cond.fieldLink "MaterialBars$Pad" (58 : Nat) "MaterialBars$Method" "barred" "I") ∈ T0 := T0_in (List.mem_append_right _ (List.mem_append_left _ (List.mem_of_getElem? (i := 58) (by decide +kernel)))) rfl
theorem mw_59 : (Jvm.Cond.fieldLink "MaterialBars" (227 : Nat) "MaterialBars$Method" "barred" "I") ∈ T0 := T0_in (List.mem_append_right _ (List.mem_append_left _ (List.mem_of_getElem? (i := 59) (by decide +kernel)))) rfl
theorem mw_60 : (Jvm.Cond.fieldLink "MaterialBars$Method" (22 : Nat) "MaterialBars$Method" "notBehind" "I") ∈ T0 := T0_in (List.mem_append_right _ (List.mem_append_left _ (List.mem_of_getElem? (i := 60) (by decide +kernel)))) rfl
theorem mw_61 : (Jvm.Cond.fieldLink "MaterialBars$Pad" (65 : Nat) "MaterialBars$Method" "notBehind" "I") ∈ T0 := T0_in (List.mem_append_right _ (List.mem_append_left _ (List.mem_of_getElem? (i := 61) (by decide +kernel)))) rfl
theorem mw_62 : (Jvm.Cond.fieldLink "MaterialBars" (233 : Nat) "MaterialBars$Method" "notBehind" "I") ∈ T0 := T0_in (List.mem_append_right _ (List.mem_append_left _ (List.mem_of_getElem? (i := 62) (by decide +kernel)))) rfl
theorem mw_63 : (Jvm.Cond.fieldLink "MaterialBars$Method" (25 : Nat) "MaterialBars$Method" "after" "I") ∈ T0 := T0_in (List.mem_append_right _ (List.mem_append_left _ (List.mem_of_getElem? (i := 63) (by decide +kernel)))) rfl
theorem mw_64 : (Jvm.Cond.fieldLink "MaterialBars$Pad" (68 : Nat) "MaterialBars$Method" "after" "I") ∈ T0 := T0_in (List.mem_append_right _ (List.mem_append_left _ (List.mem_of_getElem? (i := 64) (by decide +kernel)))) rfl
theorem mw_65 : (Jvm.Cond.fieldLink "MaterialBars" (250 : Nat) "MaterialBars$Method" "after" "I") ∈ T0 := T0_in (List.mem_append_right _ (List.mem_append_left _ (List.mem_of_getElem? (i := 65) (by decide +kernel)))) rfl
theorem mw_66 : (Jvm.Cond.fieldLink "MaterialBars$Method" (28 : Nat) "MaterialBars$Method" "needsTrial" "Z") ∈ T0 := T0_in (List.mem_append_right _ (List.mem_append_left _ (List.mem_of_getElem? (i := 66) (by decide +kernel)))) rfl
theorem mw_67 : (Jvm.Cond.fieldLink "MaterialBars$Pad" (42 : Nat) "MaterialBars$Method" "needsTrial" "Z") ∈ T0 := T0_in (List.mem_append_right _ (List.mem_append_left _ (List.mem_of_getElem? (i := 67) (by decide +kernel)))) rfl
theorem mw_68 : (Jvm.Cond.fieldLink "MaterialBars" (240 : Nat) "MaterialBars$Method" "needsTrial" "Z") ∈ T0 := T0_in (List.mem_append_right _ (List.mem_append_left _ (List.mem_of_getElem? (i := 68) (by decide +kernel)))) rfl
theorem mw_69 : (Jvm.Cond.fieldLink "MaterialBars$Method" (32 : Nat) "MaterialBars$Method" "needsTwo" "Z") ∈ T0 := T0_in (List.mem_append_right _ (List.mem_append_left _ (List.mem_of_getElem? (i := 69) (by decide +kernel)))) rfl
theorem mw_70 : (Jvm.Cond.fieldLink "MaterialBars$Pad" (48 : Nat) "MaterialBars$Method" "needsTwo" "Z") ∈ T0 := T0_in (List.mem_append_right _ (List.mem_append_left _ (List.mem_of_getElem? (i := 70) (by decide +kernel)))) rfl
theorem mw_71 : (Jvm.Cond.fieldLink "MaterialBars" (136 : Nat) "MaterialBars$Method" "needsTwo" "Z") ∈ T0 := T0_in (List.mem_append_right _ (List.mem_append_left _ (List.mem_of_getElem? (i := 71) (by decide +kernel)))) rfl
theorem mw_72 : (Jvm.Cond.fieldLink "MaterialBars" (107 : Nat) "MaterialBars$Method" "persons" "I") ∈ T0 := T0_in (List.mem_append_right _ (List.mem_append_left _ (List.mem_of_getElem? (i := 72) (by decide +kernel)))) rfl
theorem mw_73 : (Jvm.Cond.fieldLink "MaterialBars" (118 : Nat) "MaterialBars$Method" "goodTrials" "I") ∈ T0 := T0_in (List.mem_append_right _ (List.mem_append_left _ (List.mem_of_getElem? (i := 73) (by decide +kernel)))) rfl
theorem mw_74 : (Jvm.Cond.laysFinal "MaterialBars$Method" "MaterialBars$Method" "amounts" "[I") ∈ T0 := T0_in (List.mem_append_right _ (List.mem_append_left _ (List.mem_of_getElem? (i := 74) (by decide +kernel)))) rfl
theorem mw_75 : (Jvm.Cond.soleField "MaterialBars$Method" "amounts") ∈ T0 := T0_in (List.mem_append_right _ (List.mem_append_left _ (List.mem_of_getElem? (i := 75) (by decide +kernel)))) rfl
theorem mw_76 : (Jvm.Cond.laysFinal "MaterialBars$Method" "MaterialBars$Method" "hours" "[I") ∈ T0 := T0_in (List.mem_append_right _ (List.mem_append_left _ (List.mem_of_getElem? (i := 76) (by decide +kernel)))) rfl
theorem mw_77 : (Jvm.Cond.soleField "MaterialBars$Method" "hours") ∈ T0 := T0_in (List.mem_append_right _ (List.mem_append_left _ (List.mem_of_getElem? (i := 77) (by decide +kernel)))) rfl
theorem mw_78 : (Jvm.Cond.lays "MaterialBars$Method" "MaterialBars$Method" "barred" "I") ∈ T0 := T0_in (List.mem_append_right _ (List.mem_append_left _ (List.mem_of_getElem? (i := 78) (by decide +kernel)))) rfl
theorem mw_79 : (Jvm.Cond.soleField "MaterialBars$Method" "barred") ∈ T0 := T0_in (List.mem_append_right _ (List.mem_append_left _ (List.mem_of_getElem? (i := 79) (by decide +kernel)))) rfl
theorem mw_80 : (Jvm.Cond.lays "MaterialBars$Method" "MaterialBars$Method" "notBehind" "I") ∈ T0 := T0_in (List.mem_append_right _ (List.mem_append_left _ (List.mem_of_getElem? (i := 80) (by decide +kernel)))) rfl
theorem mw_81 : (Jvm.Cond.soleField "MaterialBars$Method" "notBehind") ∈ T0 := T0_in (List.mem_append_right _ (List.mem_append_left _ (List.mem_of_getElem? (i := 81) (by decide +kernel)))) rfl
theorem mw_82 : (Jvm.Cond.lays "MaterialBars$Method" "MaterialBars$Method" "after" "I") ∈ T0 := T0_in (List.mem_append_right _ (List.mem_append_left _ (List.mem_of_getElem? (i := 82) (by decide +kernel)))) rfl
theorem mw_83 : (Jvm.Cond.soleField "MaterialBars$Method" "after") ∈ T0 := T0_in (List.mem_append_right _ (List.mem_append_left _ (List.mem_of_getElem? (i := 83) (by decide +kernel)))) rfl
theorem mw_84 : (Jvm.Cond.lays "MaterialBars$Method" "MaterialBars$Method" "needsTrial" "Z") ∈ T0 := T0_in (List.mem_append_right _ (List.mem_append_left _ (List.mem_of_getElem? (i := 84) (by decide +kernel)))) rfl
theorem mw_85 : (Jvm.Cond.soleField "MaterialBars$Method" "needsTrial") ∈ T0 := T0_in (List.mem_append_right _ (List.mem_append_left _ (List.mem_of_getElem? (i := 85) (by decide +kernel)))) rfl
theorem mw_86 : (Jvm.Cond.lays "MaterialBars$Method" "MaterialBars$Method" "needsTwo" "Z") ∈ T0 := T0_in (List.mem_append_right _ (List.mem_append_left _ (List.mem_of_getElem? (i := 86) (by decide +kernel)))) rfl
theorem mw_87 : (Jvm.Cond.soleField "MaterialBars$Method" "needsTwo") ∈ T0 := T0_in (List.mem_append_right _ (List.mem_append_left _ (List.mem_of_getElem? (i := 87) (by decide +kernel)))) rfl
theorem mw_88 : (Jvm.Cond.lays "MaterialBars$Method" "MaterialBars$Method" "persons" "I") ∈ T0 := T0_in (List.mem_append_right _ (List.mem_append_left _ (List.mem_of_getElem? (i := 88) (by decide +kernel)))) rfl
theorem mw_89 : (Jvm.Cond.soleField "MaterialBars$Method" "persons") ∈ T0 := T0_in (List.mem_append_right _ (List.mem_append_left _ (List.mem_of_getElem? (i := 89) (by decide +kernel)))) rfl
theorem mw_90 : (Jvm.Cond.lays "MaterialBars$Method" "MaterialBars$Method" "goodTrials" "I") ∈ T0 := T0_in (List.mem_append_right _ (List.mem_append_left _ (List.mem_of_getElem? (i := 90) (by decide +kernel)))) rfl
theorem mw_91 : (Jvm.Cond.soleField "MaterialBars$Method" "goodTrials") ∈ T0 := T0_in (List.mem_append_right _ (List.mem_append_left _ (List.mem_of_getElem? (i := 91) (by decide +kernel)))) rfl
theorem mw_92 : (Jvm.Cond.superclass "MaterialBars$Method" "java/lang/Object") ∈ T0 := T0_in (List.mem_append_right _ (List.mem_append_left _ (List.mem_of_getElem? (i := 92) (by decide +kernel)))) rfl
theorem mw_93 : (Jvm.Cond.classLink "MaterialBars" (23 : Nat) "MaterialBars$Piece") ∈ T0 := T0_in (List.mem_append_right _ (List.mem_append_left _ (List.mem_of_getElem? (i := 93) (by decide +kernel)))) rfl
theorem mw_95 : (Jvm.Cond.instantiable "MaterialBars$Piece" (8 : Nat)) ∈ T0 := T0_in (List.mem_append_right _ (List.mem_append_left _ (List.mem_of_getElem? (i := 95) (by decide +kernel)))) rfl
theorem mw_97 : (Jvm.Cond.instanceMethod ({ cls := "MaterialBars$Piece", name := "<init>", desc := "()V" } : Jvm.MethodName)) ∈ T0 := T0_in (List.mem_append_right _ (List.mem_append_left _ (List.mem_of_getElem? (i := 97) (by decide +kernel)))) rfl
theorem mw_98 : (Jvm.Cond.code ({ cls := "MaterialBars$Piece", name := "<init>", desc := "()V" } : Jvm.MethodName) prog_5_method_1_code (1 : Nat) (Option.none : Option Jvm.ClassFile.FieldType)) ∈ T0 := T0_in (List.mem_append_right _ (List.mem_append_left _ (List.mem_of_getElem? (i := 98) rfl))) rfl
theorem mw_99 : (Jvm.Cond.methodLink "MaterialBars$Piece" (3 : Nat) ({ cls := "java/lang/Object", name := "<init>", desc := "()V" } : Jvm.MethodName)) ∈ T0 := T0_in (List.mem_append_right _ (List.mem_append_left _ (List.mem_of_getElem? (i := 99) (by decide +kernel)))) rfl
theorem mw_100 : (Jvm.Cond.fieldLink "MaterialBars$Piece" (9 : Nat) "MaterialBars$Piece" "parts" "[I") ∈ T0 := T0_in (List.mem_append_right _ (List.mem_append_left _ (List.mem_of_getElem? (i := 100) (by decide +kernel)))) rfl
theorem mw_101 : (Jvm.Cond.fieldLink "MaterialBars$Piece" (15 : Nat) "MaterialBars$Piece" "rows" "[I") ∈ T0 := T0_in (List.mem_append_right _ (List.mem_append_left _ (List.mem_of_getElem? (i := 101) (by decide +kernel)))) rfl
theorem mw_102 : (Jvm.Cond.fieldLink "MaterialBars" (148 : Nat) "MaterialBars$Piece" "rows" "[I") ∈ T0 := T0_in (List.mem_append_right _ (List.mem_append_left _ (List.mem_of_getElem? (i := 102) (by decide +kernel)))) rfl
theorem mw_103 : (Jvm.Cond.fieldLink "MaterialBars$Piece" (18 : Nat) "MaterialBars$Piece" "latest" "[I") ∈ T0 := T0_in (List.mem_append_right _ (List.mem_append_left _ (List.mem_of_getElem? (i := 103) (by decide +kernel)))) rfl
theorem mw_104 : (Jvm.Cond.fieldLink "MaterialBars" (253 : Nat) "MaterialBars$Piece" "latest" "[I") ∈ T0 := T0_in (List.mem_append_right _ (List.mem_append_left _ (List.mem_of_getElem? (i := 104) (by decide +kernel)))) rfl
theorem mw_105 : (Jvm.Cond.fieldLink "MaterialBars$Piece" (21 : Nat) "MaterialBars$Piece" "partCount" "I") ∈ T0 := T0_in (List.mem_append_right _ (List.mem_append_left _ (List.mem_of_getElem? (i := 105) (by decide +kernel)))) rfl
theorem mw_106 : (Jvm.Cond.fieldLink "MaterialBars" (98 : Nat) "MaterialBars$Piece" "partCount" "I") ∈ T0 := T0_in (List.mem_append_right _ (List.mem_append_left _ (List.mem_of_getElem? (i := 106) (by decide +kernel)))) rfl
theorem mw_107 : (Jvm.Cond.fieldLink "MaterialBars$Piece" (36 : Nat) "MaterialBars$Piece" "rowCount" "I") ∈ T0 := T0_in (List.mem_append_right _ (List.mem_append_left _ (List.mem_of_getElem? (i := 107) (by decide +kernel)))) rfl
theorem mw_108 : (Jvm.Cond.fieldLink "MaterialBars" (128 : Nat) "MaterialBars$Piece" "rowCount" "I") ∈ T0 := T0_in (List.mem_append_right _ (List.mem_append_left _ (List.mem_of_getElem? (i := 108) (by decide +kernel)))) rfl
theorem mw_109 : (Jvm.Cond.fieldLink "MaterialBars$Piece" (25 : Nat) "MaterialBars$Piece" "materials" "I") ∈ T0 := T0_in (List.mem_append_right _ (List.mem_append_left _ (List.mem_of_getElem? (i := 109) (by decide +kernel)))) rfl
theorem mw_110 : (Jvm.Cond.fieldLink "MaterialBars" (243 : Nat) "MaterialBars$Piece" "materials" "I") ∈ T0 := T0_in (List.mem_append_right _ (List.mem_append_left _ (List.mem_of_getElem? (i := 110) (by decide +kernel)))) rfl
theorem mw_111 : (Jvm.Cond.fieldLink "MaterialBars$Piece" (42 : Nat) "MaterialBars$Piece" "doneMethods" "I") ∈ T0 := T0_in (List.mem_append_right _ (List.mem_append_left _ (List.mem_of_getElem? (i := 111) (by decide +kernel)))) rfl
theorem mw_112 : (Jvm.Cond.fieldLink "MaterialBars" (195 : Nat) "MaterialBars$Piece" "doneMethods" "I") ∈ T0 := T0_in (List.mem_append_right _ (List.mem_append_left _ (List.mem_of_getElem? (i := 112) (by decide +kernel)))) rfl
theorem mw_113 : (Jvm.Cond.fieldLink "MaterialBars$Piece" (39 : Nat) "MaterialBars$Piece" "latestHour" "I") ∈ T0 := T0_in (List.mem_append_right _ (List.mem_append_left _ (List.mem_of_getElem? (i := 113) (by decide +kernel)))) rfl
theorem mw_114 : (Jvm.Cond.fieldLink "MaterialBars" (133 : Nat) "MaterialBars$Piece" "latestHour" "I") ∈ T0 := T0_in (List.mem_append_right _ (List.mem_append_left _ (List.mem_of_getElem? (i := 114) (by decide +kernel)))) rfl
theorem mw_115 : (Jvm.Cond.laysFinal "MaterialBars$Piece" "MaterialBars$Piece" "parts" "[I") ∈ T0 := T0_in (List.mem_append_right _ (List.mem_append_left _ (List.mem_of_getElem? (i := 115) (by decide +kernel)))) rfl
theorem mw_116 : (Jvm.Cond.soleField "MaterialBars$Piece" "parts") ∈ T0 := T0_in (List.mem_append_right _ (List.mem_append_left _ (List.mem_of_getElem? (i := 116) (by decide +kernel)))) rfl
theorem mw_117 : (Jvm.Cond.laysFinal "MaterialBars$Piece" "MaterialBars$Piece" "rows" "[I") ∈ T0 := T0_in (List.mem_append_right _ (List.mem_append_left _ (List.mem_of_getElem? (i := 117) (by decide +kernel)))) rfl
theorem mw_118 : (Jvm.Cond.soleField "MaterialBars$Piece" "rows") ∈ T0 := T0_in (List.mem_append_right _ (List.mem_append_left _ (List.mem_of_getElem? (i := 118) (by decide +kernel)))) rfl
theorem mw_119 : (Jvm.Cond.laysFinal "MaterialBars$Piece" "MaterialBars$Piece" "latest" "[I") ∈ T0 := T0_in (List.mem_append_right _ (List.mem_append_left _ (List.mem_of_getElem? (i := 119) (by decide +kernel)))) rfl
theorem mw_120 : (Jvm.Cond.soleField "MaterialBars$Piece" "latest") ∈ T0 := T0_in (List.mem_append_right _ (List.mem_append_left _ (List.mem_of_getElem? (i := 120) (by decide +kernel)))) rfl
theorem mw_121 : (Jvm.Cond.lays "MaterialBars$Piece" "MaterialBars$Piece" "partCount" "I") ∈ T0 := T0_in (List.mem_append_right _ (List.mem_append_left _ (List.mem_of_getElem? (i := 121) (by decide +kernel)))) rfl
theorem mw_122 : (Jvm.Cond.soleField "MaterialBars$Piece" "partCount") ∈ T0 := T0_in (List.mem_append_right _ (List.mem_append_left _ (List.mem_of_getElem? (i := 122) (by decide +kernel)))) rfl
theorem mw_123 : (Jvm.Cond.lays "MaterialBars$Piece" "MaterialBars$Piece" "rowCount" "I") ∈ T0 := T0_in (List.mem_append_right _ (List.mem_append_left _ (List.mem_of_getElem? (i := 123) (by decide +kernel)))) rfl
theorem mw_124 : (Jvm.Cond.soleField "MaterialBars$Piece" "rowCount") ∈ T0 := T0_in (List.mem_append_right _ (List.mem_append_left _ (List.mem_of_getElem? (i := 124) (by decide +kernel)))) rfl
theorem mw_125 : (Jvm.Cond.lays "MaterialBars$Piece" "MaterialBars$Piece" "materials" "I") ∈ T0 := T0_in (List.mem_append_right _ (List.mem_append_left _ (List.mem_of_getElem? (i := 125) (by decide +kernel)))) rfl
theorem mw_126 : (Jvm.Cond.soleField "MaterialBars$Piece" "materials") ∈ T0 := T0_in (List.mem_append_right _ (List.mem_append_left _ (List.mem_of_getElem? (i := 126) (by decide +kernel)))) rfl
theorem mw_127 : (Jvm.Cond.lays "MaterialBars$Piece" "MaterialBars$Piece" "doneMethods" "I") ∈ T0 := T0_in (List.mem_append_right _ (List.mem_append_left _ (List.mem_of_getElem? (i := 127) (by decide +kernel)))) rfl
theorem mw_128 : (Jvm.Cond.soleField "MaterialBars$Piece" "doneMethods") ∈ T0 := T0_in (List.mem_append_right _ (List.mem_append_left _ (List.mem_of_getElem? (i := 128) (by decide +kernel)))) rfl
theorem mw_129 : (Jvm.Cond.lays "MaterialBars$Piece" "MaterialBars$Piece" "latestHour" "I") ∈ T0 := T0_in (List.mem_append_right _ (List.mem_append_left _ (List.mem_of_getElem? (i := 129) (by decide +kernel)))) rfl
theorem mw_130 : (Jvm.Cond.soleField "MaterialBars$Piece" "latestHour") ∈ T0 := T0_in (List.mem_append_right _ (List.mem_append_left _ (List.mem_of_getElem? (i := 130) (by decide +kernel)))) rfl
theorem mw_131 : (Jvm.Cond.superclass "MaterialBars$Piece" "java/lang/Object") ∈ T0 := T0_in (List.mem_append_right _ (List.mem_append_left _ (List.mem_of_getElem? (i := 131) (by decide +kernel)))) rfl
theorem mw_132 : (Jvm.Cond.classLink "MaterialBars" (30 : Nat) "MaterialBars$Good") ∈ T0 := T0_in (List.mem_append_right _ (List.mem_append_left _ (List.mem_of_getElem? (i := 132) (by decide +kernel)))) rfl
theorem mw_134 : (Jvm.Cond.instantiable "MaterialBars$Good" (5 : Nat)) ∈ T0 := T0_in (List.mem_append_right _ (List.mem_append_left _ (List.mem_of_getElem? (i := 134) (by decide +kernel)))) rfl
theorem mw_136 : (Jvm.Cond.instanceMethod ({ cls := "MaterialBars$Good", name := "<init>", desc := "()V" } : Jvm.MethodName)) ∈ T0 := T0_in (List.mem_append_right _ (List.mem_append_left _ (List.mem_of_getElem? (i := 136) (by decide +kernel)))) rfl
theorem mw_137 : (Jvm.Cond.code ({ cls := "MaterialBars$Good", name := "<init>", desc := "()V" } : Jvm.MethodName) prog_2_method_1_code (1 : Nat) (Option.none : Option Jvm.ClassFile.FieldType)) ∈ T0 := T0_in (List.mem_append_right _ (List.mem_append_left _ (List.mem_of_getElem? (i := 137) rfl))) rfl
theorem mw_138 : (Jvm.Cond.methodLink "MaterialBars$Good" (3 : Nat) ({ cls := "java/lang/Object", name := "<init>", desc := "()V" } : Jvm.MethodName)) ∈ T0 := T0_in (List.mem_append_right _ (List.mem_append_left _ (List.mem_of_getElem? (i := 138) (by decide +kernel)))) rfl
theorem mw_139 : (Jvm.Cond.fieldLink "MaterialBars$Good" (15 : Nat) "MaterialBars$Good" "amount" "I") ∈ T0 := T0_in (List.mem_append_right _ (List.mem_append_left _ (List.mem_of_getElem? (i := 139) (by decide +kernel)))) rfl
theorem mw_140 : (Jvm.Cond.fieldLink "MaterialBars" (159 : Nat) "MaterialBars$Good" "amount" "I") ∈ T0 := T0_in (List.mem_append_right _ (List.mem_append_left _ (List.mem_of_getElem? (i := 140) (by decide +kernel)))) rfl
theorem mw_141 : (Jvm.Cond.fieldLink "MaterialBars$Good" (18 : Nat) "MaterialBars$Good" "came" "J") ∈ T0 := T0_in (List.mem_append_right _ (List.mem_append_left _ (List.mem_of_getElem? (i := 141) (by decide +kernel)))) rfl
theorem mw_142 : (Jvm.Cond.fieldLink "MaterialBars" (166 : Nat) "MaterialBars$Good" "came" "J") ∈ T0 := T0_in (List.mem_append_right _ (List.mem_append_left _ (List.mem_of_getElem? (i := 142) (by decide +kernel)))) rfl
theorem mw_143 : (Jvm.Cond.fieldLink "MaterialBars$Good" (22 : Nat) "MaterialBars$Good" "went" "J") ∈ T0 := T0_in (List.mem_append_right _ (List.mem_append_left _ (List.mem_of_getElem? (i := 143) (by decide +kernel)))) rfl
theorem mw_144 : (Jvm.Cond.fieldLink "MaterialBars" (170 : Nat) "MaterialBars$Good" "went" "J") ∈ T0 := T0_in (List.mem_append_right _ (List.mem_append_left _ (List.mem_of_getElem? (i := 144) (by decide +kernel)))) rfl
theorem mw_145 : (Jvm.Cond.fieldLink "MaterialBars$Good" (9 : Nat) "MaterialBars$Good" "shelf" "I") ∈ T0 := T0_in (List.mem_append_right _ (List.mem_append_left _ (List.mem_of_getElem? (i := 145) (by decide +kernel)))) rfl
theorem mw_146 : (Jvm.Cond.fieldLink "MaterialBars" (173 : Nat) "MaterialBars$Good" "shelf" "I") ∈ T0 := T0_in (List.mem_append_right _ (List.mem_append_left _ (List.mem_of_getElem? (i := 146) (by decide +kernel)))) rfl
theorem mw_147 : (Jvm.Cond.fieldLink "MaterialBars" (181 : Nat) "MaterialBars$Good" "apartFrom" "I") ∈ T0 := T0_in (List.mem_append_right _ (List.mem_append_left _ (List.mem_of_getElem? (i := 147) (by decide +kernel)))) rfl
theorem mw_148 : (Jvm.Cond.lays "MaterialBars$Good" "MaterialBars$Good" "amount" "I") ∈ T0 := T0_in (List.mem_append_right _ (List.mem_append_left _ (List.mem_of_getElem? (i := 148) (by decide +kernel)))) rfl
theorem mw_149 : (Jvm.Cond.soleField "MaterialBars$Good" "amount") ∈ T0 := T0_in (List.mem_append_right _ (List.mem_append_left _ (List.mem_of_getElem? (i := 149) (by decide +kernel)))) rfl
theorem mw_150 : (Jvm.Cond.lays "MaterialBars$Good" "MaterialBars$Good" "came" "J") ∈ T0 := T0_in (List.mem_append_right _ (List.mem_append_left _ (List.mem_of_getElem? (i := 150) (by decide +kernel)))) rfl
theorem mw_151 : (Jvm.Cond.soleField "MaterialBars$Good" "came") ∈ T0 := T0_in (List.mem_append_right _ (List.mem_append_left _ (List.mem_of_getElem? (i := 151) (by decide +kernel)))) rfl
theorem mw_152 : (Jvm.Cond.lays "MaterialBars$Good" "MaterialBars$Good" "went" "J") ∈ T0 := T0_in (List.mem_append_right _ (List.mem_append_left _ (List.mem_of_getElem? (i := 152) (by decide +kernel)))) rfl
theorem mw_153 : (Jvm.Cond.soleField "MaterialBars$Good" "went") ∈ T0 := T0_in (List.mem_append_right _ (List.mem_append_left _ (List.mem_of_getElem? (i := 153) (by decide +kernel)))) rfl
theorem mw_154 : (Jvm.Cond.lays "MaterialBars$Good" "MaterialBars$Good" "shelf" "I") ∈ T0 := T0_in (List.mem_append_right _ (List.mem_append_left _ (List.mem_of_getElem? (i := 154) (by decide +kernel)))) rfl
theorem mw_155 : (Jvm.Cond.soleField "MaterialBars$Good" "shelf") ∈ T0 := T0_in (List.mem_append_right _ (List.mem_append_left _ (List.mem_of_getElem? (i := 155) (by decide +kernel)))) rfl
theorem mw_156 : (Jvm.Cond.lays "MaterialBars$Good" "MaterialBars$Good" "apartFrom" "I") ∈ T0 := T0_in (List.mem_append_right _ (List.mem_append_left _ (List.mem_of_getElem? (i := 156) (by decide +kernel)))) rfl
theorem mw_157 : (Jvm.Cond.soleField "MaterialBars$Good" "apartFrom") ∈ T0 := T0_in (List.mem_append_right _ (List.mem_append_left _ (List.mem_of_getElem? (i := 157) (by decide +kernel)))) rfl
theorem mw_158 : (Jvm.Cond.superclass "MaterialBars$Good" "java/lang/Object") ∈ T0 := T0_in (List.mem_append_right _ (List.mem_append_left _ (List.mem_of_getElem? (i := 158) (by decide +kernel)))) rfl
theorem mw_159 : (Jvm.Cond.fieldLink "MaterialBars" (10 : Nat) "MaterialBars" "pad" "LMaterialBars$Pad;") ∈ T0 := T0_in (List.mem_append_right _ (List.mem_append_left _ (List.mem_of_getElem? (i := 159) (by decide +kernel)))) rfl
theorem mw_160 : (Jvm.Cond.fieldLink "MaterialBars" (18 : Nat) "MaterialBars" "methods" "[LMaterialBars$Method;") ∈ T0 := T0_in (List.mem_append_right _ (List.mem_append_left _ (List.mem_of_getElem? (i := 160) (by decide +kernel)))) rfl
theorem mw_161 : (Jvm.Cond.fieldLink "MaterialBars" (25 : Nat) "MaterialBars" "pieces" "[LMaterialBars$Piece;") ∈ T0 := T0_in (List.mem_append_right _ (List.mem_append_left _ (List.mem_of_getElem? (i := 161) (by decide +kernel)))) rfl
theorem mw_162 : (Jvm.Cond.fieldLink "MaterialBars" (32 : Nat) "MaterialBars" "goods" "[LMaterialBars$Good;") ∈ T0 := T0_in (List.mem_append_right _ (List.mem_append_left _ (List.mem_of_getElem? (i := 162) (by decide +kernel)))) rfl
theorem mw_163 : (Jvm.Cond.fieldLink "MaterialBars" (37 : Nat) "MaterialBars" "planned" "[I") ∈ T0 := T0_in (List.mem_append_right _ (List.mem_append_left _ (List.mem_of_getElem? (i := 163) (by decide +kernel)))) rfl
theorem mw_164 : (Jvm.Cond.fieldLink "MaterialBars" (41 : Nat) "MaterialBars" "draft" "[I") ∈ T0 := T0_in (List.mem_append_right _ (List.mem_append_left _ (List.mem_of_getElem? (i := 164) (by decide +kernel)))) rfl
theorem mw_165 : (Jvm.Cond.fieldLink "MaterialBars" (63 : Nat) "MaterialBars" "methodCount" "I") ∈ T0 := T0_in (List.mem_append_right _ (List.mem_append_left _ (List.mem_of_getElem? (i := 165) (by decide +kernel)))) rfl
theorem mw_166 : (Jvm.Cond.fieldLink "MaterialBars" (89 : Nat) "MaterialBars" "pieceCount" "I") ∈ T0 := T0_in (List.mem_append_right _ (List.mem_append_left _ (List.mem_of_getElem? (i := 166) (by decide +kernel)))) rfl
theorem mw_167 : (Jvm.Cond.fieldLink "MaterialBars" (216 : Nat) "MaterialBars" "plannedCount" "I") ∈ T0 := T0_in (List.mem_append_right _ (List.mem_append_left _ (List.mem_of_getElem? (i := 167) (by decide +kernel)))) rfl
theorem mw_168 : (Jvm.Cond.laysFinal "MaterialBars" "MaterialBars" "pad" "LMaterialBars$Pad;") ∈ T0 := T0_in (List.mem_append_right _ (List.mem_append_left _ (List.mem_of_getElem? (i := 168) (by decide +kernel)))) rfl
theorem mw_169 : (Jvm.Cond.soleField "MaterialBars" "pad") ∈ T0 := T0_in (List.mem_append_right _ (List.mem_append_left _ (List.mem_of_getElem? (i := 169) (by decide +kernel)))) rfl
theorem mw_170 : (Jvm.Cond.laysFinal "MaterialBars" "MaterialBars" "methods" "[LMaterialBars$Method;") ∈ T0 := T0_in (List.mem_append_right _ (List.mem_append_left _ (List.mem_of_getElem? (i := 170) (by decide +kernel)))) rfl
theorem mw_171 : (Jvm.Cond.soleField "MaterialBars" "methods") ∈ T0 := T0_in (List.mem_append_right _ (List.mem_append_left _ (List.mem_of_getElem? (i := 171) (by decide +kernel)))) rfl
theorem mw_172 : (Jvm.Cond.laysFinal "MaterialBars" "MaterialBars" "pieces" "[LMaterialBars$Piece;") ∈ T0 := T0_in (List.mem_append_right _ (List.mem_append_left _ (List.mem_of_getElem? (i := 172) (by decide +kernel)))) rfl
theorem mw_173 : (Jvm.Cond.soleField "MaterialBars" "pieces") ∈ T0 := T0_in (List.mem_append_right _ (List.mem_append_left _ (List.mem_of_getElem? (i := 173) (by decide +kernel)))) rfl
theorem mw_174 : (Jvm.Cond.laysFinal "MaterialBars" "MaterialBars" "goods" "[LMaterialBars$Good;") ∈ T0 := T0_in (List.mem_append_right _ (List.mem_append_left _ (List.mem_of_getElem? (i := 174) (by decide +kernel)))) rfl
theorem mw_175 : (Jvm.Cond.soleField "MaterialBars" "goods") ∈ T0 := T0_in (List.mem_append_right _ (List.mem_append_left _ (List.mem_of_getElem? (i := 175) (by decide +kernel)))) rfl
theorem mw_176 : (Jvm.Cond.laysFinal "MaterialBars" "MaterialBars" "planned" "[I") ∈ T0 := T0_in (List.mem_append_right _ (List.mem_append_left _ (List.mem_of_getElem? (i := 176) (by decide +kernel)))) rfl
theorem mw_177 : (Jvm.Cond.soleField "MaterialBars" "planned") ∈ T0 := T0_in (List.mem_append_right _ (List.mem_append_left _ (List.mem_of_getElem? (i := 177) (by decide +kernel)))) rfl
theorem mw_178 : (Jvm.Cond.laysFinal "MaterialBars" "MaterialBars" "draft" "[I") ∈ T0 := T0_in (List.mem_append_right _ (List.mem_append_left _ (List.mem_of_getElem? (i := 178) (by decide +kernel)))) rfl
theorem mw_179 : (Jvm.Cond.soleField "MaterialBars" "draft") ∈ T0 := T0_in (List.mem_append_right _ (List.mem_append_left _ (List.mem_of_getElem? (i := 179) (by decide +kernel)))) rfl
theorem mw_180 : (Jvm.Cond.lays "MaterialBars" "MaterialBars" "methodCount" "I") ∈ T0 := T0_in (List.mem_append_right _ (List.mem_append_left _ (List.mem_of_getElem? (i := 180) (by decide +kernel)))) rfl
theorem mw_181 : (Jvm.Cond.soleField "MaterialBars" "methodCount") ∈ T0 := T0_in (List.mem_append_right _ (List.mem_append_left _ (List.mem_of_getElem? (i := 181) (by decide +kernel)))) rfl
theorem mw_182 : (Jvm.Cond.lays "MaterialBars" "MaterialBars" "pieceCount" "I") ∈ T0 := T0_in (List.mem_append_right _ (List.mem_append_left _ (List.mem_of_getElem? (i := 182) (by decide +kernel)))) rfl
theorem mw_183 : (Jvm.Cond.soleField "MaterialBars" "pieceCount") ∈ T0 := T0_in (List.mem_append_right _ (List.mem_append_left _ (List.mem_of_getElem? (i := 183) (by decide +kernel)))) rfl
theorem mw_184 : (Jvm.Cond.lays "MaterialBars" "MaterialBars" "plannedCount" "I") ∈ T0 := T0_in (List.mem_append_right _ (List.mem_append_left _ (List.mem_of_getElem? (i := 184) (by decide +kernel)))) rfl
theorem mw_185 : (Jvm.Cond.soleField "MaterialBars" "plannedCount") ∈ T0 := T0_in (List.mem_append_right _ (List.mem_append_left _ (List.mem_of_getElem? (i := 185) (by decide +kernel)))) rfl
theorem mw_186 : (Jvm.Cond.superclass "MaterialBars" "java/lang/Object") ∈ T0 := T0_in (List.mem_append_right _ (List.mem_append_left _ (List.mem_of_getElem? (i := 186) (by decide +kernel)))) rfl
theorem mw_187 : (Jvm.Cond.methodLink "MaterialBarsLaw" (79 : Nat) ({ cls := "MaterialBarsLaw", name := "unit", desc := "(LMaterialBars;I[J)I" } : Jvm.MethodName)) ∈ T0 := T0_in (List.mem_append_right _ (List.mem_append_left _ (List.mem_of_getElem? (i := 187) (by decide +kernel)))) rfl
theorem mw_188 : (Jvm.Cond.static ({ cls := "MaterialBarsLaw", name := "unit", desc := "(LMaterialBars;I[J)I" } : Jvm.MethodName)) ∈ T0 := T0_in (List.mem_append_right _ (List.mem_append_left _ (List.mem_of_getElem? (i := 188) (by decide +kernel)))) rfl
theorem mw_189 : (Jvm.Cond.codeWith ({ cls := "MaterialBarsLaw", name := "unit", desc := "(LMaterialBars;I[J)I" } : Jvm.MethodName) method_3_code (4 : Nat) (Option.some Jvm.ClassFile.FieldType.int) [((0 : Nat), (9 : Nat), (12 : Nat), (13 : Nat)), ((0 : Nat), (9 : Nat), (15 : Nat), (15 : Nat))]) ∈ T0 := T0_in (List.mem_append_right _ (List.mem_append_left _ (List.mem_of_getElem? (i := 189) rfl))) rfl
theorem mw_190 : (Jvm.Cond.classLink "MaterialBarsLaw" (13 : Nat) "java/lang/IllegalStateException") ∈ T0 := T0_in (List.mem_append_right _ (List.mem_append_left _ (List.mem_of_getElem? (i := 190) (by decide +kernel)))) rfl
theorem mw_191 : (Jvm.Cond.classLink "MaterialBarsLaw" (15 : Nat) "java/lang/IllegalArgumentException") ∈ T0 := T0_in (List.mem_append_right _ (List.mem_append_left _ (List.mem_of_getElem? (i := 191) (by decide +kernel)))) rfl
theorem mw_192 : (Jvm.Cond.methodLink "MaterialBarsLaw" (7 : Nat) ({ cls := "MaterialBars", name := "unit", desc := "(I)I" } : Jvm.MethodName)) ∈ T0 := T0_in (List.mem_append_right _ (List.mem_append_left _ (List.mem_of_getElem? (i := 192) (by decide +kernel)))) rfl
theorem mw_193 : (Jvm.Cond.instanceMethod ({ cls := "MaterialBars", name := "unit", desc := "(I)I" } : Jvm.MethodName)) ∈ T0 := T0_in (List.mem_append_right _ (List.mem_append_left _ (List.mem_of_getElem? (i := 193) (by decide +kernel)))) rfl
theorem mw_194 : (Jvm.Cond.selects "MaterialBars" ({ cls := "MaterialBars", name := "unit", desc := "(I)I" } : Jvm.MethodName) ({ cls := "MaterialBars", name := "unit", desc := "(I)I" } : Jvm.MethodName)) ∈ T0 := T0_in (List.mem_append_right _ (List.mem_append_left _ (List.mem_of_getElem? (i := 194) (by decide +kernel)))) rfl
theorem mw_195 : (Jvm.Cond.code ({ cls := "MaterialBars", name := "unit", desc := "(I)I" } : Jvm.MethodName) prog_1_method_2_code (2 : Nat) (Option.some Jvm.ClassFile.FieldType.int)) ∈ T0 := T0_in (List.mem_append_right _ (List.mem_append_left _ (List.mem_of_getElem? (i := 195) rfl))) rfl
theorem mw_196 : (Jvm.Cond.classLink "MaterialBars" (48 : Nat) "java/lang/IllegalStateException") ∈ T0 := T0_in (List.mem_append_right _ (List.mem_append_left _ (List.mem_of_getElem? (i := 196) (by decide +kernel)))) rfl
theorem mw_197 : (Jvm.Cond.instantiable "java/lang/IllegalStateException" (6 : Nat)) ∈ T0 := T0_in (List.mem_append_right _ (List.mem_append_left _ (List.mem_of_getElem? (i := 197) (by decide +kernel)))) rfl
theorem mw_205 : (Jvm.Cond.selects "java/lang/IllegalStateException" ({ cls := "java/lang/Throwable", name := "fillInStackTrace", desc := "(I)Ljava/lang/Throwable;" } : Jvm.MethodName) ({ cls := "java/lang/Throwable", name := "fillInStackTrace", desc := "(I)Ljava/lang/Throwable;" } : Jvm.MethodName)) ∈ T0 := T0_in (List.mem_append_right _ (List.mem_append_left _ (List.mem_of_getElem? (i := 205) (by decide +kernel)))) rfl
theorem mw_206 : (Jvm.Cond.selects "java/lang/IllegalStateException" ({ cls := "java/lang/Throwable", name := "fillInStackTrace", desc := "()Ljava/lang/Throwable;" } : Jvm.MethodName) ({ cls := "java/lang/Throwable", name := "fillInStackTrace", desc := "()Ljava/lang/Throwable;" } : Jvm.MethodName)) ∈ T0 := T0_in (List.mem_append_right _ (List.mem_append_left _ (List.mem_of_getElem? (i := 206) (by decide +kernel)))) rfl
theorem mw_207 : (Jvm.Cond.lays "java/lang/IllegalStateException" "java/lang/Throwable" "cause" "Ljava/lang/Throwable;") ∈ T0 := T0_in (List.mem_append_right _ (List.mem_append_left _ (List.mem_of_getElem? (i := 207) (by decide +kernel)))) rfl
theorem mw_208 : (Jvm.Cond.lays "java/lang/Throwable" "java/lang/Throwable" "cause" "Ljava/lang/Throwable;") ∈ T0 := T0_in (List.mem_append_right _ (List.mem_append_left _ (List.mem_of_getElem? (i := 208) (by decide +kernel)))) rfl
theorem mw_209 : (Jvm.Cond.lays "java/lang/IllegalStateException" "java/lang/Throwable" "stackTrace" "[Ljava/lang/StackTraceElement;") ∈ T0 := T0_in (List.mem_append_right _ (List.mem_append_left _ (List.mem_of_getElem? (i := 209) (by decide +kernel)))) rfl
theorem mw_210 : (Jvm.Cond.lays "java/lang/Throwable" "java/lang/Throwable" "stackTrace" "[Ljava/lang/StackTraceElement;") ∈ T0 := T0_in (List.mem_append_right _ (List.mem_append_left _ (List.mem_of_getElem? (i := 210) (by decide +kernel)))) rfl
theorem mw_211 : (Jvm.Cond.lays "java/lang/IllegalStateException" "java/lang/Throwable" "suppressedExceptions" "Ljava/util/List;") ∈ T0 := T0_in (List.mem_append_right _ (List.mem_append_left _ (List.mem_of_getElem? (i := 211) (by decide +kernel)))) rfl
theorem mw_212 : (Jvm.Cond.lays "java/lang/Throwable" "java/lang/Throwable" "suppressedExceptions" "Ljava/util/List;") ∈ T0 := T0_in (List.mem_append_right _ (List.mem_append_left _ (List.mem_of_getElem? (i := 212) (by decide +kernel)))) rfl
theorem mw_213 : (Jvm.Cond.lays "java/lang/IllegalStateException" "java/lang/Throwable" "detailMessage" "Ljava/lang/String;") ∈ T0 := T0_in (List.mem_append_right _ (List.mem_append_left _ (List.mem_of_getElem? (i := 213) (by decide +kernel)))) rfl
theorem mw_214 : (Jvm.Cond.lays "java/lang/Throwable" "java/lang/Throwable" "detailMessage" "Ljava/lang/String;") ∈ T0 := T0_in (List.mem_append_right _ (List.mem_append_left _ (List.mem_of_getElem? (i := 214) (by decide +kernel)))) rfl
theorem mw_215 : (Jvm.Cond.lays "java/lang/IllegalStateException" "java/lang/Throwable" "backtrace" "Ljava/lang/Object;") ∈ T0 := T0_in (List.mem_append_right _ (List.mem_append_left _ (List.mem_of_getElem? (i := 215) (by decide +kernel)))) rfl
theorem mw_216 : (Jvm.Cond.lays "java/lang/Throwable" "java/lang/Throwable" "backtrace" "Ljava/lang/Object;") ∈ T0 := T0_in (List.mem_append_right _ (List.mem_append_left _ (List.mem_of_getElem? (i := 216) (by decide +kernel)))) rfl
theorem mw_217 : (Jvm.Cond.fieldLink "java/lang/Throwable" (198 : Nat) "java/lang/Throwable" "backtrace" "Ljava/lang/Object;") ∈ T0 := T0_in (List.mem_append_right _ (List.mem_append_left _ (List.mem_of_getElem? (i := 217) (by decide +kernel)))) rfl
theorem mw_218 : (Jvm.Cond.superclass "java/lang/Throwable" "java/lang/Object") ∈ T0 := T0_in (List.mem_append_right _ (List.mem_append_left _ (List.mem_of_getElem? (i := 218) (by decide +kernel)))) rfl
theorem mw_219 : (Jvm.Cond.instanceMethod ({ cls := "java/lang/Throwable", name := "<init>", desc := "()V" } : Jvm.MethodName)) ∈ T0 := T0_in (List.mem_append_right _ (List.mem_append_left _ (List.mem_of_getElem? (i := 219) (by decide +kernel)))) rfl
theorem mw_220 : (Jvm.Cond.code ({ cls := "java/lang/Throwable", name := "<init>", desc := "()V" } : Jvm.MethodName) prog_17_method_1_code (1 : Nat) (Option.none : Option Jvm.ClassFile.FieldType)) ∈ T0 := T0_in (List.mem_append_right _ (List.mem_append_left _ (List.mem_of_getElem? (i := 220) rfl))) rfl
theorem mw_221 : (Jvm.Cond.methodLink "java/lang/Throwable" (1 : Nat) ({ cls := "java/lang/Object", name := "<init>", desc := "()V" } : Jvm.MethodName)) ∈ T0 := T0_in (List.mem_append_right _ (List.mem_append_left _ (List.mem_of_getElem? (i := 221) (by decide +kernel)))) rfl
theorem mw_222 : (Jvm.Cond.fieldLink "java/lang/Throwable" (13 : Nat) "java/lang/Throwable" "UNASSIGNED_STACK" "[Ljava/lang/StackTraceElement;") ∈ T0 := T0_in (List.mem_append_right _ (List.mem_append_left _ (List.mem_of_getElem? (i := 222) (by decide +kernel)))) rfl
theorem mw_224 : (Jvm.Cond.fieldLink "java/lang/Throwable" (20 : Nat) "java/lang/Throwable" "SUPPRESSED_SENTINEL" "Ljava/util/List;") ∈ T0 := T0_in (List.mem_append_right _ (List.mem_append_left _ (List.mem_of_getElem? (i := 224) (by decide +kernel)))) rfl
theorem mw_226 : (Jvm.Cond.methodLink "java/lang/Throwable" (27 : Nat) ({ cls := "java/lang/Throwable", name := "fillInStackTrace", desc := "()Ljava/lang/Throwable;" } : Jvm.MethodName)) ∈ T0 := T0_in (List.mem_append_right _ (List.mem_append_left _ (List.mem_of_getElem? (i := 226) (by decide +kernel)))) rfl
theorem mw_227 : (Jvm.Cond.instanceMethod ({ cls := "java/lang/Throwable", name := "fillInStackTrace", desc := "()Ljava/lang/Throwable;" } : Jvm.MethodName)) ∈ T0 := T0_in (List.mem_append_right _ (List.mem_append_left _ (List.mem_of_getElem? (i := 227) (by decide +kernel)))) rfl
theorem mw_228 : (Jvm.Cond.sameMethod "java/lang/Throwable" "java/lang/Throwable" "fillInStackTrace" "()Ljava/lang/Throwable;") ∈ T0 := T0_in (List.mem_append_right _ (List.mem_append_left _ (List.mem_of_getElem? (i := 228) (by decide +kernel)))) rfl
theorem mw_229 : (Jvm.Cond.selects "java/lang/IllegalArgumentException" ({ cls := "java/lang/Throwable", name := "fillInStackTrace", desc := "()Ljava/lang/Throwable;" } : Jvm.MethodName) ({ cls := "java/lang/Throwable", name := "fillInStackTrace", desc := "()Ljava/lang/Throwable;" } : Jvm.MethodName)) ∈ T0 := T0_in (List.mem_append_right _ (List.mem_append_left _ (List.mem_of_getElem? (i := 229) (by decide +kernel)))) rfl
theorem mw_230 : (Jvm.Cond.selects "java/lang/IndexOutOfBoundsException" ({ cls := "java/lang/Throwable", name := "fillInStackTrace", desc := "()Ljava/lang/Throwable;" } : Jvm.MethodName) ({ cls := "java/lang/Throwable", name := "fillInStackTrace", desc := "()Ljava/lang/Throwable;" } : Jvm.MethodName)) ∈ T0 := T0_in (List.mem_append_right _ (List.mem_append_left _ (List.mem_of_getElem? (i := 230) (by decide +kernel)))) rfl
theorem mw_231 : (Jvm.Cond.codeSync ({ cls := "java/lang/Throwable", name := "fillInStackTrace", desc := "()Ljava/lang/Throwable;" } : Jvm.MethodName) prog_17_method_18_code (1 : Nat) (Option.some (Jvm.ClassFile.FieldType.object "java/lang/Throwable"))) ∈ T0 := T0_in (List.mem_append_right _ (List.mem_append_left _ (List.mem_of_getElem? (i := 231) rfl))) rfl
theorem mw_232 : (Jvm.Cond.methodLink "java/lang/Throwable" (202 : Nat) ({ cls := "java/lang/Throwable", name := "fillInStackTrace", desc := "(I)Ljava/lang/Throwable;" } : Jvm.MethodName)) ∈ T0 := T0_in (List.mem_append_right _ (List.mem_append_left _ (List.mem_of_getElem? (i := 232) (by decide +kernel)))) rfl
theorem mw_234 : (Jvm.Cond.instanceMethod ({ cls := "java/lang/Throwable", name := "fillInStackTrace", desc := "(I)Ljava/lang/Throwable;" } : Jvm.MethodName)) ∈ T0 := T0_in (List.mem_append_right _ (List.mem_append_left _ (List.mem_of_getElem? (i := 234) (by decide +kernel)))) rfl
theorem mw_235 : (Jvm.Cond.instantiable "java/lang/Throwable" (6 : Nat)) ∈ T0 := T0_in (List.mem_append_right _ (List.mem_append_left _ (List.mem_of_getElem? (i := 235) (by decide +kernel)))) rfl
theorem mw_236 : (Jvm.Cond.native ({ cls := "java/lang/Throwable", name := "fillInStackTrace", desc := "(I)Ljava/lang/Throwable;" } : Jvm.MethodName)) ∈ T0 := T0_in (List.mem_append_right _ (List.mem_append_left _ (List.mem_of_getElem? (i := 236) (by decide +kernel)))) rfl
theorem mw_238 : (Jvm.Cond.methodLink "MaterialBars" (52 : Nat) ({ cls := "java/lang/IllegalStateException", name := "<init>", desc := "(Ljava/lang/String;)V" } : Jvm.MethodName)) ∈ T0 := T0_in (List.mem_append_right _ (List.mem_append_left _ (List.mem_of_getElem? (i := 238) (by decide +kernel)))) rfl
theorem mw_239 : (Jvm.Cond.instanceMethod ({ cls := "java/lang/IllegalStateException", name := "<init>", desc := "(Ljava/lang/String;)V" } : Jvm.MethodName)) ∈ T0 := T0_in (List.mem_append_right _ (List.mem_append_left _ (List.mem_of_getElem? (i := 239) (by decide +kernel)))) rfl
theorem mw_240 : (Jvm.Cond.code ({ cls := "java/lang/IllegalStateException", name := "<init>", desc := "(Ljava/lang/String;)V" } : Jvm.MethodName) prog_10_method_2_code (2 : Nat) (Option.none : Option Jvm.ClassFile.FieldType)) ∈ T0 := T0_in (List.mem_append_right _ (List.mem_append_right _ (List.mem_append_left _ (List.mem_of_getElem? (i := 0) rfl)))) rfl
theorem mw_241 : (Jvm.Cond.methodLink "java/lang/IllegalStateException" (7 : Nat) ({ cls := "java/lang/RuntimeException", name := "<init>", desc := "(Ljava/lang/String;)V" } : Jvm.MethodName)) ∈ T0 := T0_in (List.mem_append_right _ (List.mem_append_right _ (List.mem_append_left _ (List.mem_of_getElem? (i := 1) (by decide +kernel))))) rfl
theorem mw_242 : (Jvm.Cond.instanceMethod ({ cls := "java/lang/RuntimeException", name := "<init>", desc := "(Ljava/lang/String;)V" } : Jvm.MethodName)) ∈ T0 := T0_in (List.mem_append_right _ (List.mem_append_right _ (List.mem_append_left _ (List.mem_of_getElem? (i := 2) (by decide +kernel))))) rfl
theorem mw_243 : (Jvm.Cond.code ({ cls := "java/lang/RuntimeException", name := "<init>", desc := "(Ljava/lang/String;)V" } : Jvm.MethodName) prog_14_method_2_code (2 : Nat) (Option.none : Option Jvm.ClassFile.FieldType)) ∈ T0 := T0_in (List.mem_append_right _ (List.mem_append_right _ (List.mem_append_left _ (List.mem_of_getElem? (i := 3) rfl)))) rfl
theorem mw_244 : (Jvm.Cond.methodLink "java/lang/RuntimeException" (7 : Nat) ({ cls := "java/lang/Exception", name := "<init>", desc := "(Ljava/lang/String;)V" } : Jvm.MethodName)) ∈ T0 := T0_in (List.mem_append_right _ (List.mem_append_right _ (List.mem_append_left _ (List.mem_of_getElem? (i := 4) (by decide +kernel))))) rfl
theorem mw_245 : (Jvm.Cond.instanceMethod ({ cls := "java/lang/Exception", name := "<init>", desc := "(Ljava/lang/String;)V" } : Jvm.MethodName)) ∈ T0 := T0_in (List.mem_append_right _ (List.mem_append_right _ (List.mem_append_left _ (List.mem_of_getElem? (i := 5) (by decide +kernel))))) rfl
theorem mw_246 : (Jvm.Cond.code ({ cls := "java/lang/Exception", name := "<init>", desc := "(Ljava/lang/String;)V" } : Jvm.MethodName) prog_8_method_2_code (2 : Nat) (Option.none : Option Jvm.ClassFile.FieldType)) ∈ T0 := T0_in (List.mem_append_right _ (List.mem_append_right _ (List.mem_append_left _ (List.mem_of_getElem? (i := 6) rfl)))) rfl
theorem mw_247 : (Jvm.Cond.methodLink "java/lang/Exception" (7 : Nat) ({ cls := "java/lang/Throwable", name := "<init>", desc := "(Ljava/lang/String;)V" } : Jvm.MethodName)) ∈ T0 := T0_in (List.mem_append_right _ (List.mem_append_right _ (List.mem_append_left _ (List.mem_of_getElem? (i := 7) (by decide +kernel))))) rfl
theorem mw_248 : (Jvm.Cond.instanceMethod ({ cls := "java/lang/Throwable", name := "<init>", desc := "(Ljava/lang/String;)V" } : Jvm.MethodName)) ∈ T0 := T0_in (List.mem_append_right _ (List.mem_append_right _ (List.mem_append_left _ (List.mem_of_getElem? (i := 8) (by decide +kernel))))) rfl
theorem mw_249 : (Jvm.Cond.code ({ cls := "java/lang/Throwable", name := "<init>", desc := "(Ljava/lang/String;)V" } : Jvm.MethodName) prog_17_method_2_code (2 : Nat) (Option.none : Option Jvm.ClassFile.FieldType)) ∈ T0 := T0_in (List.mem_append_right _ (List.mem_append_right _ (List.mem_append_left _ (List.mem_of_getElem? (i := 9) rfl)))) rfl
theorem mw_250 : (Jvm.Cond.fieldLink "java/lang/Throwable" (198 : Nat) "java/lang/Throwable" "backtrace" "Ljava/lang/Object;") ∈ T0 := T0_in (List.mem_append_right _ (List.mem_append_right _ (List.mem_append_left _ (List.mem_of_getElem? (i := 10) (by decide +kernel))))) rfl
theorem mw_251 : (Jvm.Cond.fieldLink "java/lang/Throwable" (31 : Nat) "java/lang/Throwable" "detailMessage" "Ljava/lang/String;") ∈ T0 := T0_in (List.mem_append_right _ (List.mem_append_right _ (List.mem_append_left _ (List.mem_of_getElem? (i := 11) (by decide +kernel))))) rfl
theorem mw_252 : (Jvm.Cond.fieldLink "java/lang/Throwable" (7 : Nat) "java/lang/Throwable" "cause" "Ljava/lang/Throwable;") ∈ T0 := T0_in (List.mem_append_right _ (List.mem_append_right _ (List.mem_append_left _ (List.mem_of_getElem? (i := 12) (by decide +kernel))))) rfl
theorem mw_253 : (Jvm.Cond.fieldLink "java/lang/Throwable" (17 : Nat) "java/lang/Throwable" "stackTrace" "[Ljava/lang/StackTraceElement;") ∈ T0 := T0_in (List.mem_append_right _ (List.mem_append_right _ (List.mem_append_left _ (List.mem_of_getElem? (i := 13) (by decide +kernel))))) rfl
theorem mw_254 : (Jvm.Cond.fieldLink "java/lang/Throwable" (24 : Nat) "java/lang/Throwable" "suppressedExceptions" "Ljava/util/List;") ∈ T0 := T0_in (List.mem_append_right _ (List.mem_append_right _ (List.mem_append_left _ (List.mem_of_getElem? (i := 14) (by decide +kernel))))) rfl
theorem mw_255 : (Jvm.Cond.soleField "java/lang/Throwable" "backtrace") ∈ T0 := T0_in (List.mem_append_right _ (List.mem_append_right _ (List.mem_append_left _ (List.mem_of_getElem? (i := 15) (by decide +kernel))))) rfl
theorem mw_256 : (Jvm.Cond.soleField "java/lang/Throwable" "detailMessage") ∈ T0 := T0_in (List.mem_append_right _ (List.mem_append_right _ (List.mem_append_left _ (List.mem_of_getElem? (i := 16) (by decide +kernel))))) rfl
theorem mw_257 : (Jvm.Cond.soleField "java/lang/Throwable" "cause") ∈ T0 := T0_in (List.mem_append_right _ (List.mem_append_right _ (List.mem_append_left _ (List.mem_of_getElem? (i := 17) (by decide +kernel))))) rfl
theorem mw_258 : (Jvm.Cond.soleField "java/lang/Throwable" "stackTrace") ∈ T0 := T0_in (List.mem_append_right _ (List.mem_append_right _ (List.mem_append_left _ (List.mem_of_getElem? (i := 18) (by decide +kernel))))) rfl
theorem mw_259 : (Jvm.Cond.lays "java/lang/IllegalStateException" "java/lang/Throwable" "depth" "I") ∈ T0 := T0_in (List.mem_append_right _ (List.mem_append_right _ (List.mem_append_left _ (List.mem_of_getElem? (i := 19) (by decide +kernel))))) rfl
theorem mw_260 : (Jvm.Cond.soleField "java/lang/Throwable" "depth") ∈ T0 := T0_in (List.mem_append_right _ (List.mem_append_right _ (List.mem_append_left _ (List.mem_of_getElem? (i := 20) (by decide +kernel))))) rfl
theorem mw_261 : (Jvm.Cond.soleField "java/lang/Throwable" "suppressedExceptions") ∈ T0 := T0_in (List.mem_append_right _ (List.mem_append_right _ (List.mem_append_left _ (List.mem_of_getElem? (i := 21) (by decide +kernel))))) rfl
theorem mw_262 : (Jvm.Cond.superclass "java/lang/IllegalStateException" "java/lang/RuntimeException") ∈ T0 := T0_in (List.mem_append_right _ (List.mem_append_right _ (List.mem_append_left _ (List.mem_of_getElem? (i := 22) (by decide +kernel))))) rfl
theorem mw_263 : (Jvm.Cond.arrayClass Jvm.ClassFile.FieldType.byte) ∈ T0 := T0_in (List.mem_append_right _ (List.mem_append_right _ (List.mem_append_left _ (List.mem_of_getElem? (i := 23) (by decide +kernel))))) rfl
theorem mw_264 : (Jvm.Cond.classLink "MaterialBars" (55 : Nat) "java/lang/IllegalArgumentException") ∈ T0 := T0_in (List.mem_append_right _ (List.mem_append_right _ (List.mem_append_left _ (List.mem_of_getElem? (i := 24) (by decide +kernel))))) rfl
theorem mw_265 : (Jvm.Cond.instantiable "java/lang/IllegalArgumentException" (6 : Nat)) ∈ T0 := T0_in (List.mem_append_right _ (List.mem_append_right _ (List.mem_append_left _ (List.mem_of_getElem? (i := 25) (by decide +kernel))))) rfl
theorem mw_267 : (Jvm.Cond.selects "java/lang/IllegalArgumentException" ({ cls := "java/lang/Throwable", name := "fillInStackTrace", desc := "(I)Ljava/lang/Throwable;" } : Jvm.MethodName) ({ cls := "java/lang/Throwable", name := "fillInStackTrace", desc := "(I)Ljava/lang/Throwable;" } : Jvm.MethodName)) ∈ T0 := T0_in (List.mem_append_right _ (List.mem_append_right _ (List.mem_append_left _ (List.mem_of_getElem? (i := 27) (by decide +kernel))))) rfl
theorem mw_268 : (Jvm.Cond.lays "java/lang/IllegalArgumentException" "java/lang/Throwable" "cause" "Ljava/lang/Throwable;") ∈ T0 := T0_in (List.mem_append_right _ (List.mem_append_right _ (List.mem_append_left _ (List.mem_of_getElem? (i := 28) (by decide +kernel))))) rfl
theorem mw_269 : (Jvm.Cond.lays "java/lang/IllegalArgumentException" "java/lang/Throwable" "stackTrace" "[Ljava/lang/StackTraceElement;") ∈ T0 := T0_in (List.mem_append_right _ (List.mem_append_right _ (List.mem_append_left _ (List.mem_of_getElem? (i := 29) (by decide +kernel))))) rfl
theorem mw_270 : (Jvm.Cond.lays "java/lang/IllegalArgumentException" "java/lang/Throwable" "suppressedExceptions" "Ljava/util/List;") ∈ T0 := T0_in (List.mem_append_right _ (List.mem_append_right _ (List.mem_append_left _ (List.mem_of_getElem? (i := 30) (by decide +kernel))))) rfl
theorem mw_271 : (Jvm.Cond.lays "java/lang/IllegalArgumentException" "java/lang/Throwable" "detailMessage" "Ljava/lang/String;") ∈ T0 := T0_in (List.mem_append_right _ (List.mem_append_right _ (List.mem_append_left _ (List.mem_of_getElem? (i := 31) (by decide +kernel))))) rfl
theorem mw_272 : (Jvm.Cond.lays "java/lang/IllegalArgumentException" "java/lang/Throwable" "backtrace" "Ljava/lang/Object;") ∈ T0 := T0_in (List.mem_append_right _ (List.mem_append_right _ (List.mem_append_left _ (List.mem_of_getElem? (i := 32) (by decide +kernel))))) rfl
theorem mw_274 : (Jvm.Cond.methodLink "MaterialBars" (59 : Nat) ({ cls := "java/lang/IllegalArgumentException", name := "<init>", desc := "(Ljava/lang/String;)V" } : Jvm.MethodName)) ∈ T0 := T0_in (List.mem_append_right _ (List.mem_append_right _ (List.mem_append_left _ (List.mem_of_getElem? (i := 34) (by decide +kernel))))) rfl
theorem mw_275 : (Jvm.Cond.instanceMethod ({ cls := "java/lang/IllegalArgumentException", name := "<init>", desc := "(Ljava/lang/String;)V" } : Jvm.MethodName)) ∈ T0 := T0_in (List.mem_append_right _ (List.mem_append_right _ (List.mem_append_left _ (List.mem_of_getElem? (i := 35) (by decide +kernel))))) rfl
theorem mw_276 : (Jvm.Cond.code ({ cls := "java/lang/IllegalArgumentException", name := "<init>", desc := "(Ljava/lang/String;)V" } : Jvm.MethodName) prog_9_method_2_code (2 : Nat) (Option.none : Option Jvm.ClassFile.FieldType)) ∈ T0 := T0_in (List.mem_append_right _ (List.mem_append_right _ (List.mem_append_left _ (List.mem_of_getElem? (i := 36) rfl)))) rfl
theorem mw_277 : (Jvm.Cond.methodLink "java/lang/IllegalArgumentException" (7 : Nat) ({ cls := "java/lang/RuntimeException", name := "<init>", desc := "(Ljava/lang/String;)V" } : Jvm.MethodName)) ∈ T0 := T0_in (List.mem_append_right _ (List.mem_append_right _ (List.mem_append_left _ (List.mem_of_getElem? (i := 37) (by decide +kernel))))) rfl
theorem mw_278 : (Jvm.Cond.lays "java/lang/IllegalArgumentException" "java/lang/Throwable" "depth" "I") ∈ T0 := T0_in (List.mem_append_right _ (List.mem_append_right _ (List.mem_append_left _ (List.mem_of_getElem? (i := 38) (by decide +kernel))))) rfl
theorem mw_279 : (Jvm.Cond.superclass "java/lang/IllegalArgumentException" "java/lang/RuntimeException") ∈ T0 := T0_in (List.mem_append_right _ (List.mem_append_right _ (List.mem_append_left _ (List.mem_of_getElem? (i := 39) (by decide +kernel))))) rfl
theorem mw_280 : (Jvm.Cond.methodLink "MaterialBarsLaw" (88 : Nat) ({ cls := "MaterialBarsLaw", name := "read", desc := "(LMaterialBars;[J)I" } : Jvm.MethodName)) ∈ T0 := T0_in (List.mem_append_right _ (List.mem_append_right _ (List.mem_append_left _ (List.mem_of_getElem? (i := 40) (by decide +kernel))))) rfl
theorem mw_281 : (Jvm.Cond.static ({ cls := "MaterialBarsLaw", name := "read", desc := "(LMaterialBars;[J)I" } : Jvm.MethodName)) ∈ T0 := T0_in (List.mem_append_right _ (List.mem_append_right _ (List.mem_append_left _ (List.mem_of_getElem? (i := 41) (by decide +kernel))))) rfl
theorem mw_282 : (Jvm.Cond.codeWith ({ cls := "MaterialBarsLaw", name := "read", desc := "(LMaterialBars;[J)I" } : Jvm.MethodName) method_4_code (3 : Nat) (Option.some Jvm.ClassFile.FieldType.int) [((0 : Nat), (8 : Nat), (11 : Nat), (13 : Nat))]) ∈ T0 := T0_in (List.mem_append_right _ (List.mem_append_right _ (List.mem_append_left _ (List.mem_of_getElem? (i := 42) rfl)))) rfl
theorem mw_283 : (Jvm.Cond.methodLink "MaterialBarsLaw" (17 : Nat) ({ cls := "MaterialBars", name := "read", desc := "()I" } : Jvm.MethodName)) ∈ T0 := T0_in (List.mem_append_right _ (List.mem_append_right _ (List.mem_append_left _ (List.mem_of_getElem? (i := 43) (by decide +kernel))))) rfl
theorem mw_284 : (Jvm.Cond.instanceMethod ({ cls := "MaterialBars", name := "read", desc := "()I" } : Jvm.MethodName)) ∈ T0 := T0_in (List.mem_append_right _ (List.mem_append_right _ (List.mem_append_left _ (List.mem_of_getElem? (i := 44) (by decide +kernel))))) rfl
theorem mw_285 : (Jvm.Cond.selects "MaterialBars" ({ cls := "MaterialBars", name := "read", desc := "()I" } : Jvm.MethodName) ({ cls := "MaterialBars", name := "read", desc := "()I" } : Jvm.MethodName)) ∈ T0 := T0_in (List.mem_append_right _ (List.mem_append_right _ (List.mem_append_left _ (List.mem_of_getElem? (i := 45) (by decide +kernel))))) rfl
theorem mw_286 : (Jvm.Cond.code ({ cls := "MaterialBars", name := "read", desc := "()I" } : Jvm.MethodName) prog_1_method_3_code (3 : Nat) (Option.some Jvm.ClassFile.FieldType.int)) ∈ T0 := T0_in (List.mem_append_right _ (List.mem_append_right _ (List.mem_append_left _ (List.mem_of_getElem? (i := 46) rfl)))) rfl
theorem mw_288 : (Jvm.Cond.methodLink "MaterialBars" (68 : Nat) ({ cls := "MaterialBars$Method", name := "clear", desc := "()V" } : Jvm.MethodName)) ∈ T0 := T0_in (List.mem_append_right _ (List.mem_append_right _ (List.mem_append_left _ (List.mem_of_getElem? (i := 48) (by decide +kernel))))) rfl
theorem mw_289 : (Jvm.Cond.instanceMethod ({ cls := "MaterialBars$Method", name := "clear", desc := "()V" } : Jvm.MethodName)) ∈ T0 := T0_in (List.mem_append_right _ (List.mem_append_right _ (List.mem_append_left _ (List.mem_of_getElem? (i := 49) (by decide +kernel))))) rfl
theorem mw_290 : (Jvm.Cond.selects "MaterialBars$Method" ({ cls := "MaterialBars$Method", name := "clear", desc := "()V" } : Jvm.MethodName) ({ cls := "MaterialBars$Method", name := "clear", desc := "()V" } : Jvm.MethodName)) ∈ T0 := T0_in (List.mem_append_right _ (List.mem_append_right _ (List.mem_append_left _ (List.mem_of_getElem? (i := 50) (by decide +kernel))))) rfl
theorem mw_291 : (Jvm.Cond.code ({ cls := "MaterialBars$Method", name := "clear", desc := "()V" } : Jvm.MethodName) prog_3_method_2_code (2 : Nat) (Option.none : Option Jvm.ClassFile.FieldType)) ∈ T0 := T0_in (List.mem_append_right _ (List.mem_append_right _ (List.mem_append_left _ (List.mem_of_getElem? (i := 51) rfl)))) rfl
theorem mw_292 : (Jvm.Cond.methodLink "MaterialBars" (71 : Nat) ({ cls := "MaterialBars$Pad", name := "readText", desc := "(LMaterialBars$Method;)Z" } : Jvm.MethodName)) ∈ T0 := T0_in (List.mem_append_right _ (List.mem_append_right _ (List.mem_append_left _ (List.mem_of_getElem? (i := 52) (by decide +kernel))))) rfl
theorem mw_293 : (Jvm.Cond.instanceMethod ({ cls := "MaterialBars$Pad", name := "readText", desc := "(LMaterialBars$Method;)Z" } : Jvm.MethodName)) ∈ T0 := T0_in (List.mem_append_right _ (List.mem_append_right _ (List.mem_append_left _ (List.mem_of_getElem? (i := 53) (by decide +kernel))))) rfl
theorem mw_294 : (Jvm.Cond.selects "MaterialBars$Pad" ({ cls := "MaterialBars$Pad", name := "readText", desc := "(LMaterialBars$Method;)Z" } : Jvm.MethodName) ({ cls := "MaterialBars$Pad", name := "readText", desc := "(LMaterialBars$Method;)Z" } : Jvm.MethodName)) ∈ T0 := T0_in (List.mem_append_right _ (List.mem_append_right _ (List.mem_append_left _ (List.mem_of_getElem? (i := 54) (by decide +kernel))))) rfl
theorem mw_295 : (Jvm.Cond.code ({ cls := "MaterialBars$Pad", name := "readText", desc := "(LMaterialBars$Method;)Z" } : Jvm.MethodName) prog_4_method_2_code (3 : Nat) (Option.some Jvm.ClassFile.FieldType.boolean)) ∈ T0 := T0_in (List.mem_append_right _ (List.mem_append_right _ (List.mem_append_left _ (List.mem_of_getElem? (i := 55) rfl)))) rfl
theorem mw_296 : (Jvm.Cond.methodLink "MaterialBars$Pad" (22 : Nat) ({ cls := "MaterialBars$Pad", name := "take", desc := "(I)Z" } : Jvm.MethodName)) ∈ T0 := T0_in (List.mem_append_right _ (List.mem_append_right _ (List.mem_append_left _ (List.mem_of_getElem? (i := 56) (by decide +kernel))))) rfl
theorem mw_298 : (Jvm.Cond.instanceMethod ({ cls := "MaterialBars$Pad", name := "take", desc := "(I)Z" } : Jvm.MethodName)) ∈ T0 := T0_in (List.mem_append_right _ (List.mem_append_right _ (List.mem_append_left _ (List.mem_of_getElem? (i := 58) (by decide +kernel))))) rfl
theorem mw_299 : (Jvm.Cond.code ({ cls := "MaterialBars$Pad", name := "take", desc := "(I)Z" } : Jvm.MethodName) prog_4_method_9_code (2 : Nat) (Option.some Jvm.ClassFile.FieldType.boolean)) ∈ T0 := T0_in (List.mem_append_right _ (List.mem_append_right _ (List.mem_append_left _ (List.mem_of_getElem? (i := 59) rfl)))) rfl
theorem mw_300 : (Jvm.Cond.methodLink "MaterialBars$Pad" (79 : Nat) ({ cls := "MaterialBars$Pad", name := "signHere", desc := "()I" } : Jvm.MethodName)) ∈ T0 := T0_in (List.mem_append_right _ (List.mem_append_right _ (List.mem_append_left _ (List.mem_of_getElem? (i := 60) (by decide +kernel))))) rfl
theorem mw_302 : (Jvm.Cond.instanceMethod ({ cls := "MaterialBars$Pad", name := "signHere", desc := "()I" } : Jvm.MethodName)) ∈ T0 := T0_in (List.mem_append_right _ (List.mem_append_right _ (List.mem_append_left _ (List.mem_of_getElem? (i := 62) (by decide +kernel))))) rfl
theorem mw_303 : (Jvm.Cond.code ({ cls := "MaterialBars$Pad", name := "signHere", desc := "()I" } : Jvm.MethodName) prog_4_method_10_code (1 : Nat) (Option.some Jvm.ClassFile.FieldType.int)) ∈ T0 := T0_in (List.mem_append_right _ (List.mem_append_right _ (List.mem_append_left _ (List.mem_of_getElem? (i := 63) rfl)))) rfl
theorem mw_304 : (Jvm.Cond.methodLink "MaterialBars$Pad" (26 : Nat) ({ cls := "MaterialBars$Pad", name := "readClause", desc := "(LMaterialBars$Method;)Z" } : Jvm.MethodName)) ∈ T0 := T0_in (List.mem_append_right _ (List.mem_append_right _ (List.mem_append_left _ (List.mem_of_getElem? (i := 64) (by decide +kernel))))) rfl
theorem mw_306 : (Jvm.Cond.instanceMethod ({ cls := "MaterialBars$Pad", name := "readClause", desc := "(LMaterialBars$Method;)Z" } : Jvm.MethodName)) ∈ T0 := T0_in (List.mem_append_right _ (List.mem_append_right _ (List.mem_append_left _ (List.mem_of_getElem? (i := 66) (by decide +kernel))))) rfl
theorem mw_307 : (Jvm.Cond.code ({ cls := "MaterialBars$Pad", name := "readClause", desc := "(LMaterialBars$Method;)Z" } : Jvm.MethodName) prog_4_method_3_code (2 : Nat) (Option.some Jvm.ClassFile.FieldType.boolean)) ∈ T0 := T0_in (List.mem_append_right _ (List.mem_append_right _ (List.mem_append_left _ (List.mem_of_getElem? (i := 67) rfl)))) rfl
theorem mw_308 : (Jvm.Cond.methodLink "MaterialBars$Pad" (30 : Nat) ({ cls := "MaterialBars$Pad", name := "readUse", desc := "(LMaterialBars$Method;)Z" } : Jvm.MethodName)) ∈ T0 := T0_in (List.mem_append_right _ (List.mem_append_right _ (List.mem_append_left _ (List.mem_of_getElem? (i := 68) (by decide +kernel))))) rfl
theorem mw_310 : (Jvm.Cond.instanceMethod ({ cls := "MaterialBars$Pad", name := "readUse", desc := "(LMaterialBars$Method;)Z" } : Jvm.MethodName)) ∈ T0 := T0_in (List.mem_append_right _ (List.mem_append_right _ (List.mem_append_left _ (List.mem_of_getElem? (i := 70) (by decide +kernel))))) rfl
theorem mw_311 : (Jvm.Cond.code ({ cls := "MaterialBars$Pad", name := "readUse", desc := "(LMaterialBars$Method;)Z" } : Jvm.MethodName) prog_4_method_4_code (4 : Nat) (Option.some Jvm.ClassFile.FieldType.boolean)) ∈ T0 := T0_in (List.mem_append_right _ (List.mem_append_right _ (List.mem_append_left _ (List.mem_of_getElem? (i := 71) rfl)))) rfl
theorem mw_312 : (Jvm.Cond.methodLink "MaterialBars$Pad" (51 : Nat) ({ cls := "MaterialBars$Pad", name := "readNumber", desc := "(II)I" } : Jvm.MethodName)) ∈ T0 := T0_in (List.mem_append_right _ (List.mem_append_right _ (List.mem_append_left _ (List.mem_of_getElem? (i := 72) (by decide +kernel))))) rfl
theorem mw_314 : (Jvm.Cond.instanceMethod ({ cls := "MaterialBars$Pad", name := "readNumber", desc := "(II)I" } : Jvm.MethodName)) ∈ T0 := T0_in (List.mem_append_right _ (List.mem_append_right _ (List.mem_append_left _ (List.mem_of_getElem? (i := 74) (by decide +kernel))))) rfl
theorem mw_315 : (Jvm.Cond.code ({ cls := "MaterialBars$Pad", name := "readNumber", desc := "(II)I" } : Jvm.MethodName) prog_4_method_8_code (6 : Nat) (Option.some Jvm.ClassFile.FieldType.int)) ∈ T0 := T0_in (List.mem_append_right _ (List.mem_append_right _ (List.mem_append_left _ (List.mem_of_getElem? (i := 75) rfl)))) rfl
theorem mw_316 : (Jvm.Cond.methodLink "MaterialBars$Pad" (83 : Nat) ({ cls := "MaterialBars$Pad", name := "isDigit", desc := "(I)Z" } : Jvm.MethodName)) ∈ T0 := T0_in (List.mem_append_right _ (List.mem_append_right _ (List.mem_append_left _ (List.mem_of_getElem? (i := 76) (by decide +kernel))))) rfl
theorem mw_317 : (Jvm.Cond.static ({ cls := "MaterialBars$Pad", name := "isDigit", desc := "(I)Z" } : Jvm.MethodName)) ∈ T0 := T0_in (List.mem_append_right _ (List.mem_append_right _ (List.mem_append_left _ (List.mem_of_getElem? (i := 77) (by decide +kernel))))) rfl
theorem mw_318 : (Jvm.Cond.code ({ cls := "MaterialBars$Pad", name := "isDigit", desc := "(I)Z" } : Jvm.MethodName) prog_4_method_11_code (1 : Nat) (Option.some Jvm.ClassFile.FieldType.boolean)) ∈ T0 := T0_in (List.mem_append_right _ (List.mem_append_right _ (List.mem_append_left _ (List.mem_of_getElem? (i := 78) rfl)))) rfl
theorem mw_319 : (Jvm.Cond.methodLink "MaterialBars$Pad" (33 : Nat) ({ cls := "MaterialBars$Pad", name := "readBar", desc := "(LMaterialBars$Method;)Z" } : Jvm.MethodName)) ∈ T0 := T0_in (List.mem_append_right _ (List.mem_append_right _ (List.mem_append_left _ (List.mem_of_getElem? (i := 79) (by decide +kernel))))) rfl
theorem mw_321 : (Jvm.Cond.instanceMethod ({ cls := "MaterialBars$Pad", name := "readBar", desc := "(LMaterialBars$Method;)Z" } : Jvm.MethodName)) ∈ T0 := T0_in (List.mem_append_right _ (List.mem_append_right _ (List.mem_append_left _ (List.mem_of_getElem? (i := 81) (by decide +kernel))))) rfl
theorem mw_322 : (Jvm.Cond.code ({ cls := "MaterialBars$Pad", name := "readBar", desc := "(LMaterialBars$Method;)Z" } : Jvm.MethodName) prog_4_method_5_code (3 : Nat) (Option.some Jvm.ClassFile.FieldType.boolean)) ∈ T0 := T0_in (List.mem_append_right _ (List.mem_append_right _ (List.mem_append_left _ (List.mem_of_getElem? (i := 82) rfl)))) rfl
theorem mw_324 : (Jvm.Cond.static ({ cls := "MaterialBars", name := "with", desc := "(IIZ)I" } : Jvm.MethodName)) ∈ T0 := T0_in (List.mem_append_right _ (List.mem_append_right _ (List.mem_append_left _ (List.mem_of_getElem? (i := 84) (by decide +kernel))))) rfl
theorem mw_325 : (Jvm.Cond.code ({ cls := "MaterialBars", name := "with", desc := "(IIZ)I" } : Jvm.MethodName) prog_1_method_25_code (3 : Nat) (Option.some Jvm.ClassFile.FieldType.int)) ∈ T0 := T0_in (List.mem_append_right _ (List.mem_append_right _ (List.mem_append_left _ (List.mem_of_getElem? (i := 85) rfl)))) rfl
theorem mw_326 : (Jvm.Cond.methodLink "MaterialBars$Pad" (36 : Nat) ({ cls := "MaterialBars$Pad", name := "readNotBehind", desc := "(LMaterialBars$Method;)Z" } : Jvm.MethodName)) ∈ T0 := T0_in (List.mem_append_right _ (List.mem_append_right _ (List.mem_append_left _ (List.mem_of_getElem? (i := 86) (by decide +kernel))))) rfl
theorem mw_328 : (Jvm.Cond.instanceMethod ({ cls := "MaterialBars$Pad", name := "readNotBehind", desc := "(LMaterialBars$Method;)Z" } : Jvm.MethodName)) ∈ T0 := T0_in (List.mem_append_right _ (List.mem_append_right _ (List.mem_append_left _ (List.mem_of_getElem? (i := 88) (by decide +kernel))))) rfl
theorem mw_329 : (Jvm.Cond.code ({ cls := "MaterialBars$Pad", name := "readNotBehind", desc := "(LMaterialBars$Method;)Z" } : Jvm.MethodName) prog_4_method_6_code (3 : Nat) (Option.some Jvm.ClassFile.FieldType.boolean)) ∈ T0 := T0_in (List.mem_append_right _ (List.mem_append_right _ (List.mem_append_left _ (List.mem_of_getElem? (i := 89) rfl)))) rfl
theorem mw_330 : (Jvm.Cond.methodLink "MaterialBars$Pad" (39 : Nat) ({ cls := "MaterialBars$Pad", name := "readAfter", desc := "(LMaterialBars$Method;)Z" } : Jvm.MethodName)) ∈ T0 := T0_in (List.mem_append_right _ (List.mem_append_right _ (List.mem_append_left _ (List.mem_of_getElem? (i := 90) (by decide +kernel))))) rfl
theorem mw_332 : (Jvm.Cond.instanceMethod ({ cls := "MaterialBars$Pad", name := "readAfter", desc := "(LMaterialBars$Method;)Z" } : Jvm.MethodName)) ∈ T0 := T0_in (List.mem_append_right _ (List.mem_append_right _ (List.mem_append_left _ (List.mem_of_getElem? (i := 92) (by decide +kernel))))) rfl
theorem mw_333 : (Jvm.Cond.code ({ cls := "MaterialBars$Pad", name := "readAfter", desc := "(LMaterialBars$Method;)Z" } : Jvm.MethodName) prog_4_method_7_code (4 : Nat) (Option.some Jvm.ClassFile.FieldType.boolean)) ∈ T0 := T0_in (List.mem_append_right _ (List.mem_append_right _ (List.mem_append_left _ (List.mem_of_getElem? (i := 93) rfl)))) rfl
theorem mw_334 : (Jvm.Cond.methodLink "MaterialBars$Pad" (74 : Nat) ({ cls := "java/lang/Math", name := "max", desc := "(II)I" } : Jvm.MethodName)) ∈ T0 := T0_in (List.mem_append_right _ (List.mem_append_right _ (List.mem_append_left _ (List.mem_of_getElem? (i := 94) (by decide +kernel))))) rfl
theorem mw_335 : (Jvm.Cond.static ({ cls := "java/lang/Math", name := "max", desc := "(II)I" } : Jvm.MethodName)) ∈ T0 := T0_in (List.mem_append_right _ (List.mem_append_right _ (List.mem_append_left _ (List.mem_of_getElem? (i := 95) (by decide +kernel))))) rfl
theorem mw_336 : (Jvm.Cond.code ({ cls := "java/lang/Math", name := "max", desc := "(II)I" } : Jvm.MethodName) prog_13_method_65_code (2 : Nat) (Option.some Jvm.ClassFile.FieldType.int)) ∈ T0 := T0_in (List.mem_append_right _ (List.mem_append_right _ (List.mem_append_left _ (List.mem_of_getElem? (i := 96) rfl)))) rfl
theorem mw_337 : (Jvm.Cond.methodLink "MaterialBarsLaw" (92 : Nat) ({ cls := "MaterialBarsLaw", name := "uses", desc := "(LMaterialBars;II[J)I" } : Jvm.MethodName)) ∈ T0 := T0_in (List.mem_append_right _ (List.mem_append_right _ (List.mem_append_left _ (List.mem_of_getElem? (i := 97) (by decide +kernel))))) rfl
theorem mw_338 : (Jvm.Cond.static ({ cls := "MaterialBarsLaw", name := "uses", desc := "(LMaterialBars;II[J)I" } : Jvm.MethodName)) ∈ T0 := T0_in (List.mem_append_right _ (List.mem_append_right _ (List.mem_append_left _ (List.mem_of_getElem? (i := 98) (by decide +kernel))))) rfl
theorem mw_339 : (Jvm.Cond.codeWith ({ cls := "MaterialBarsLaw", name := "uses", desc := "(LMaterialBars;II[J)I" } : Jvm.MethodName) method_5_code (5 : Nat) (Option.some Jvm.ClassFile.FieldType.int) [((0 : Nat), (10 : Nat), (13 : Nat), (25 : Nat))]) ∈ T0 := T0_in (List.mem_append_right _ (List.mem_append_right _ (List.mem_append_left _ (List.mem_of_getElem? (i := 99) rfl)))) rfl
theorem mw_340 : (Jvm.Cond.classLink "MaterialBarsLaw" (25 : Nat) "java/lang/IndexOutOfBoundsException") ∈ T0 := T0_in (List.mem_append_right _ (List.mem_append_right _ (List.mem_append_left _ (List.mem_of_getElem? (i := 100) (by decide +kernel))))) rfl
theorem mw_341 : (Jvm.Cond.methodLink "MaterialBarsLaw" (21 : Nat) ({ cls := "MaterialBars", name := "uses", desc := "(II)I" } : Jvm.MethodName)) ∈ T0 := T0_in (List.mem_append_right _ (List.mem_append_right _ (List.mem_append_left _ (List.mem_of_getElem? (i := 101) (by decide +kernel))))) rfl
theorem mw_342 : (Jvm.Cond.instanceMethod ({ cls := "MaterialBars", name := "uses", desc := "(II)I" } : Jvm.MethodName)) ∈ T0 := T0_in (List.mem_append_right _ (List.mem_append_right _ (List.mem_append_left _ (List.mem_of_getElem? (i := 102) (by decide +kernel))))) rfl
theorem mw_343 : (Jvm.Cond.selects "MaterialBars" ({ cls := "MaterialBars", name := "uses", desc := "(II)I" } : Jvm.MethodName) ({ cls := "MaterialBars", name := "uses", desc := "(II)I" } : Jvm.MethodName)) ∈ T0 := T0_in (List.mem_append_right _ (List.mem_append_right _ (List.mem_append_left _ (List.mem_of_getElem? (i := 103) (by decide +kernel))))) rfl
theorem mw_344 : (Jvm.Cond.code ({ cls := "MaterialBars", name := "uses", desc := "(II)I" } : Jvm.MethodName) prog_1_method_4_code (4 : Nat) (Option.some Jvm.ClassFile.FieldType.int)) ∈ T0 := T0_in (List.mem_append_right _ (List.mem_append_right _ (List.mem_append_left _ (List.mem_of_getElem? (i := 104) rfl)))) rfl
theorem mw_345 : (Jvm.Cond.methodLink "MaterialBars" (78 : Nat) ({ cls := "MaterialBars", name := "methodAt", desc := "(I)LMaterialBars$Method;" } : Jvm.MethodName)) ∈ T0 := T0_in (List.mem_append_right _ (List.mem_append_right _ (List.mem_append_left _ (List.mem_of_getElem? (i := 105) (by decide +kernel))))) rfl
theorem mw_347 : (Jvm.Cond.instanceMethod ({ cls := "MaterialBars", name := "methodAt", desc := "(I)LMaterialBars$Method;" } : Jvm.MethodName)) ∈ T0 := T0_in (List.mem_append_right _ (List.mem_append_right _ (List.mem_append_left _ (List.mem_of_getElem? (i := 107) (by decide +kernel))))) rfl
theorem mw_348 : (Jvm.Cond.code ({ cls := "MaterialBars", name := "methodAt", desc := "(I)LMaterialBars$Method;" } : Jvm.MethodName) prog_1_method_21_code (2 : Nat) (Option.some (Jvm.ClassFile.FieldType.object "MaterialBars$Method"))) ∈ T0 := T0_in (List.mem_append_right _ (List.mem_append_right _ (List.mem_append_left _ (List.mem_of_getElem? (i := 108) rfl)))) rfl
theorem mw_349 : (Jvm.Cond.methodLink "MaterialBars" (82 : Nat) ({ cls := "MaterialBars", name := "checkPlace", desc := "(II)V" } : Jvm.MethodName)) ∈ T0 := T0_in (List.mem_append_right _ (List.mem_append_right _ (List.mem_append_left _ (List.mem_of_getElem? (i := 109) (by decide +kernel))))) rfl
theorem mw_350 : (Jvm.Cond.static ({ cls := "MaterialBars", name := "checkPlace", desc := "(II)V" } : Jvm.MethodName)) ∈ T0 := T0_in (List.mem_append_right _ (List.mem_append_right _ (List.mem_append_left _ (List.mem_of_getElem? (i := 110) (by decide +kernel))))) rfl
theorem mw_351 : (Jvm.Cond.code ({ cls := "MaterialBars", name := "checkPlace", desc := "(II)V" } : Jvm.MethodName) prog_1_method_19_code (2 : Nat) (Option.none : Option Jvm.ClassFile.FieldType)) ∈ T0 := T0_in (List.mem_append_right _ (List.mem_append_right _ (List.mem_append_left _ (List.mem_of_getElem? (i := 111) rfl)))) rfl
theorem mw_352 : (Jvm.Cond.classLink "MaterialBars" (176 : Nat) "java/lang/IndexOutOfBoundsException") ∈ T0 := T0_in (List.mem_append_right _ (List.mem_append_right _ (List.mem_append_left _ (List.mem_of_getElem? (i := 112) (by decide +kernel))))) rfl
theorem mw_353 : (Jvm.Cond.instantiable "java/lang/IndexOutOfBoundsException" (6 : Nat)) ∈ T0 := T0_in (List.mem_append_right _ (List.mem_append_right _ (List.mem_append_left _ (List.mem_of_getElem? (i := 113) (by decide +kernel))))) rfl
theorem mw_355 : (Jvm.Cond.selects "java/lang/IndexOutOfBoundsException" ({ cls := "java/lang/Throwable", name := "fillInStackTrace", desc := "(I)Ljava/lang/Throwable;" } : Jvm.MethodName) ({ cls := "java/lang/Throwable", name := "fillInStackTrace", desc := "(I)Ljava/lang/Throwable;" } : Jvm.MethodName)) ∈ T0 := T0_in (List.mem_append_right _ (List.mem_append_right _ (List.mem_append_left _ (List.mem_of_getElem? (i := 115) (by decide +kernel))))) rfl
theorem mw_356 : (Jvm.Cond.lays "java/lang/IndexOutOfBoundsException" "java/lang/Throwable" "cause" "Ljava/lang/Throwable;") ∈ T0 := T0_in (List.mem_append_right _ (List.mem_append_right _ (List.mem_append_left _ (List.mem_of_getElem? (i := 116) (by decide +kernel))))) rfl
theorem mw_357 : (Jvm.Cond.lays "java/lang/IndexOutOfBoundsException" "java/lang/Throwable" "stackTrace" "[Ljava/lang/StackTraceElement;") ∈ T0 := T0_in (List.mem_append_right _ (List.mem_append_right _ (List.mem_append_left _ (List.mem_of_getElem? (i := 117) (by decide +kernel))))) rfl
theorem mw_358 : (Jvm.Cond.lays "java/lang/IndexOutOfBoundsException" "java/lang/Throwable" "suppressedExceptions" "Ljava/util/List;") ∈ T0 := T0_in (List.mem_append_right _ (List.mem_append_right _ (List.mem_append_left _ (List.mem_of_getElem? (i := 118) (by decide +kernel))))) rfl
theorem mw_359 : (Jvm.Cond.lays "java/lang/IndexOutOfBoundsException" "java/lang/Throwable" "detailMessage" "Ljava/lang/String;") ∈ T0 := T0_in (List.mem_append_right _ (List.mem_append_right _ (List.mem_append_left _ (List.mem_of_getElem? (i := 119) (by decide +kernel))))) rfl
theorem mw_360 : (Jvm.Cond.lays "java/lang/IndexOutOfBoundsException" "java/lang/Throwable" "backtrace" "Ljava/lang/Object;") ∈ T0 := T0_in (List.mem_append_right _ (List.mem_append_right _ (List.mem_append_left _ (List.mem_of_getElem? (i := 120) (by decide +kernel))))) rfl
theorem mw_362 : (Jvm.Cond.methodLink "MaterialBars" (180 : Nat) ({ cls := "java/lang/IndexOutOfBoundsException", name := "<init>", desc := "(Ljava/lang/String;)V" } : Jvm.MethodName)) ∈ T0 := T0_in (List.mem_append_right _ (List.mem_append_right _ (List.mem_append_left _ (List.mem_of_getElem? (i := 122) (by decide +kernel))))) rfl
theorem mw_363 : (Jvm.Cond.instanceMethod ({ cls := "java/lang/IndexOutOfBoundsException", name := "<init>", desc := "(Ljava/lang/String;)V" } : Jvm.MethodName)) ∈ T0 := T0_in (List.mem_append_right _ (List.mem_append_right _ (List.mem_append_left _ (List.mem_of_getElem? (i := 123) (by decide +kernel))))) rfl
theorem mw_364 : (Jvm.Cond.code ({ cls := "java/lang/IndexOutOfBoundsException", name := "<init>", desc := "(Ljava/lang/String;)V" } : Jvm.MethodName) prog_11_method_2_code (2 : Nat) (Option.none : Option Jvm.ClassFile.FieldType)) ∈ T0 := T0_in (List.mem_append_right _ (List.mem_append_right _ (List.mem_append_left _ (List.mem_of_getElem? (i := 124) rfl)))) rfl
theorem mw_365 : (Jvm.Cond.methodLink "java/lang/IndexOutOfBoundsException" (7 : Nat) ({ cls := "java/lang/RuntimeException", name := "<init>", desc := "(Ljava/lang/String;)V" } : Jvm.MethodName)) ∈ T0 := T0_in (List.mem_append_right _ (List.mem_append_right _ (List.mem_append_left _ (List.mem_of_getElem? (i := 125) (by decide +kernel))))) rfl
theorem mw_366 : (Jvm.Cond.lays "java/lang/IndexOutOfBoundsException" "java/lang/Throwable" "depth" "I") ∈ T0 := T0_in (List.mem_append_right _ (List.mem_append_right _ (List.mem_append_left _ (List.mem_of_getElem? (i := 126) (by decide +kernel))))) rfl
theorem mw_367 : (Jvm.Cond.superclass "java/lang/IndexOutOfBoundsException" "java/lang/RuntimeException") ∈ T0 := T0_in (List.mem_append_right _ (List.mem_append_right _ (List.mem_append_left _ (List.mem_of_getElem? (i := 127) (by decide +kernel))))) rfl
theorem mw_368 : (Jvm.Cond.methodLink "MaterialBarsLaw" (96 : Nat) ({ cls := "MaterialBarsLaw", name := "object", desc := "(LMaterialBars;[J)I" } : Jvm.MethodName)) ∈ T0 := T0_in (List.mem_append_right _ (List.mem_append_right _ (List.mem_append_left _ (List.mem_of_getElem? (i := 128) (by decide +kernel))))) rfl
theorem mw_369 : (Jvm.Cond.static ({ cls := "MaterialBarsLaw", name := "object", desc := "(LMaterialBars;[J)I" } : Jvm.MethodName)) ∈ T0 := T0_in (List.mem_append_right _ (List.mem_append_right _ (List.mem_append_left _ (List.mem_of_getElem? (i := 129) (by decide +kernel))))) rfl
theorem mw_370 : (Jvm.Cond.codeWith ({ cls := "MaterialBarsLaw", name := "object", desc := "(LMaterialBars;[J)I" } : Jvm.MethodName) method_6_code (3 : Nat) (Option.some Jvm.ClassFile.FieldType.int) [((0 : Nat), (8 : Nat), (11 : Nat), (13 : Nat))]) ∈ T0 := T0_in (List.mem_append_right _ (List.mem_append_right _ (List.mem_append_left _ (List.mem_of_getElem? (i := 130) rfl)))) rfl
theorem mw_371 : (Jvm.Cond.methodLink "MaterialBarsLaw" (27 : Nat) ({ cls := "MaterialBars", name := "object", desc := "()I" } : Jvm.MethodName)) ∈ T0 := T0_in (List.mem_append_right _ (List.mem_append_right _ (List.mem_append_left _ (List.mem_of_getElem? (i := 131) (by decide +kernel))))) rfl
theorem mw_372 : (Jvm.Cond.instanceMethod ({ cls := "MaterialBars", name := "object", desc := "()I" } : Jvm.MethodName)) ∈ T0 := T0_in (List.mem_append_right _ (List.mem_append_right _ (List.mem_append_left _ (List.mem_of_getElem? (i := 132) (by decide +kernel))))) rfl
theorem mw_373 : (Jvm.Cond.selects "MaterialBars" ({ cls := "MaterialBars", name := "object", desc := "()I" } : Jvm.MethodName) ({ cls := "MaterialBars", name := "object", desc := "()I" } : Jvm.MethodName)) ∈ T0 := T0_in (List.mem_append_right _ (List.mem_append_right _ (List.mem_append_left _ (List.mem_of_getElem? (i := 133) (by decide +kernel))))) rfl
theorem mw_374 : (Jvm.Cond.code ({ cls := "MaterialBars", name := "object", desc := "()I" } : Jvm.MethodName) prog_1_method_5_code (1 : Nat) (Option.some Jvm.ClassFile.FieldType.int)) ∈ T0 := T0_in (List.mem_append_right _ (List.mem_append_right _ (List.mem_append_left _ (List.mem_of_getElem? (i := 134) rfl)))) rfl
theorem mw_376 : (Jvm.Cond.methodLink "MaterialBarsLaw" (99 : Nat) ({ cls := "MaterialBarsLaw", name := "part", desc := "(LMaterialBars;II[J)I" } : Jvm.MethodName)) ∈ T0 := T0_in (List.mem_append_right _ (List.mem_append_right _ (List.mem_append_left _ (List.mem_of_getElem? (i := 136) (by decide +kernel))))) rfl
theorem mw_377 : (Jvm.Cond.static ({ cls := "MaterialBarsLaw", name := "part", desc := "(LMaterialBars;II[J)I" } : Jvm.MethodName)) ∈ T0 := T0_in (List.mem_append_right _ (List.mem_append_right _ (List.mem_append_left _ (List.mem_of_getElem? (i := 137) (by decide +kernel))))) rfl
theorem mw_378 : (Jvm.Cond.codeWith ({ cls := "MaterialBarsLaw", name := "part", desc := "(LMaterialBars;II[J)I" } : Jvm.MethodName) method_7_code (5 : Nat) (Option.some Jvm.ClassFile.FieldType.int) [((0 : Nat), (10 : Nat), (13 : Nat), (25 : Nat)), ((0 : Nat), (10 : Nat), (17 : Nat), (13 : Nat))]) ∈ T0 := T0_in (List.mem_append_right _ (List.mem_append_right _ (List.mem_append_left _ (List.mem_of_getElem? (i := 138) rfl)))) rfl
theorem mw_379 : (Jvm.Cond.methodLink "MaterialBarsLaw" (30 : Nat) ({ cls := "MaterialBars", name := "part", desc := "(II)I" } : Jvm.MethodName)) ∈ T0 := T0_in (List.mem_append_right _ (List.mem_append_right _ (List.mem_append_left _ (List.mem_of_getElem? (i := 139) (by decide +kernel))))) rfl
theorem mw_380 : (Jvm.Cond.instanceMethod ({ cls := "MaterialBars", name := "part", desc := "(II)I" } : Jvm.MethodName)) ∈ T0 := T0_in (List.mem_append_right _ (List.mem_append_right _ (List.mem_append_left _ (List.mem_of_getElem? (i := 140) (by decide +kernel))))) rfl
theorem mw_381 : (Jvm.Cond.selects "MaterialBars" ({ cls := "MaterialBars", name := "part", desc := "(II)I" } : Jvm.MethodName) ({ cls := "MaterialBars", name := "part", desc := "(II)I" } : Jvm.MethodName)) ∈ T0 := T0_in (List.mem_append_right _ (List.mem_append_right _ (List.mem_append_left _ (List.mem_of_getElem? (i := 141) (by decide +kernel))))) rfl
theorem mw_382 : (Jvm.Cond.code ({ cls := "MaterialBars", name := "part", desc := "(II)I" } : Jvm.MethodName) prog_1_method_6_code (4 : Nat) (Option.some Jvm.ClassFile.FieldType.int)) ∈ T0 := T0_in (List.mem_append_right _ (List.mem_append_right _ (List.mem_append_left _ (List.mem_of_getElem? (i := 142) rfl)))) rfl
theorem mw_383 : (Jvm.Cond.methodLink "MaterialBars" (94 : Nat) ({ cls := "MaterialBars", name := "pieceAt", desc := "(I)LMaterialBars$Piece;" } : Jvm.MethodName)) ∈ T0 := T0_in (List.mem_append_right _ (List.mem_append_right _ (List.mem_append_left _ (List.mem_of_getElem? (i := 143) (by decide +kernel))))) rfl
theorem mw_385 : (Jvm.Cond.instanceMethod ({ cls := "MaterialBars", name := "pieceAt", desc := "(I)LMaterialBars$Piece;" } : Jvm.MethodName)) ∈ T0 := T0_in (List.mem_append_right _ (List.mem_append_right _ (List.mem_append_left _ (List.mem_of_getElem? (i := 145) (by decide +kernel))))) rfl
theorem mw_386 : (Jvm.Cond.code ({ cls := "MaterialBars", name := "pieceAt", desc := "(I)LMaterialBars$Piece;" } : Jvm.MethodName) prog_1_method_22_code (2 : Nat) (Option.some (Jvm.ClassFile.FieldType.object "MaterialBars$Piece"))) ∈ T0 := T0_in (List.mem_append_right _ (List.mem_append_right _ (List.mem_append_left _ (List.mem_of_getElem? (i := 146) rfl)))) rfl
theorem mw_388 : (Jvm.Cond.methodLink "MaterialBars" (103 : Nat) ({ cls := "MaterialBars$Piece", name := "addPart", desc := "(I)I" } : Jvm.MethodName)) ∈ T0 := T0_in (List.mem_append_right _ (List.mem_append_right _ (List.mem_append_left _ (List.mem_of_getElem? (i := 148) (by decide +kernel))))) rfl
theorem mw_389 : (Jvm.Cond.instanceMethod ({ cls := "MaterialBars$Piece", name := "addPart", desc := "(I)I" } : Jvm.MethodName)) ∈ T0 := T0_in (List.mem_append_right _ (List.mem_append_right _ (List.mem_append_left _ (List.mem_of_getElem? (i := 149) (by decide +kernel))))) rfl
theorem mw_390 : (Jvm.Cond.selects "MaterialBars$Piece" ({ cls := "MaterialBars$Piece", name := "addPart", desc := "(I)I" } : Jvm.MethodName) ({ cls := "MaterialBars$Piece", name := "addPart", desc := "(I)I" } : Jvm.MethodName)) ∈ T0 := T0_in (List.mem_append_right _ (List.mem_append_right _ (List.mem_append_left _ (List.mem_of_getElem? (i := 150) (by decide +kernel))))) rfl
theorem mw_391 : (Jvm.Cond.code ({ cls := "MaterialBars$Piece", name := "addPart", desc := "(I)I" } : Jvm.MethodName) prog_5_method_2_code (2 : Nat) (Option.some Jvm.ClassFile.FieldType.int)) ∈ T0 := T0_in (List.mem_append_right _ (List.mem_append_right _ (List.mem_append_left _ (List.mem_of_getElem? (i := 151) rfl)))) rfl
theorem mw_393 : (Jvm.Cond.methodLink "MaterialBarsLaw" (102 : Nat) ({ cls := "MaterialBarsLaw", name := "right", desc := "(LMaterialBars;IIZ[J)I" } : Jvm.MethodName)) ∈ T0 := T0_in (List.mem_append_right _ (List.mem_append_right _ (List.mem_append_left _ (List.mem_of_getElem? (i := 153) (by decide +kernel))))) rfl
theorem mw_394 : (Jvm.Cond.static ({ cls := "MaterialBarsLaw", name := "right", desc := "(LMaterialBars;IIZ[J)I" } : Jvm.MethodName)) ∈ T0 := T0_in (List.mem_append_right _ (List.mem_append_right _ (List.mem_append_left _ (List.mem_of_getElem? (i := 154) (by decide +kernel))))) rfl
theorem mw_395 : (Jvm.Cond.codeWith ({ cls := "MaterialBarsLaw", name := "right", desc := "(LMaterialBars;IIZ[J)I" } : Jvm.MethodName) method_8_code (6 : Nat) (Option.some Jvm.ClassFile.FieldType.int) [((0 : Nat), (19 : Nat), (22 : Nat), (25 : Nat))]) ∈ T0 := T0_in (List.mem_append_right _ (List.mem_append_right _ (List.mem_append_left _ (List.mem_of_getElem? (i := 155) rfl)))) rfl
theorem mw_396 : (Jvm.Cond.methodLink "MaterialBarsLaw" (33 : Nat) ({ cls := "MaterialBars", name := "right", desc := "(IIZ)Z" } : Jvm.MethodName)) ∈ T0 := T0_in (List.mem_append_right _ (List.mem_append_right _ (List.mem_append_left _ (List.mem_of_getElem? (i := 156) (by decide +kernel))))) rfl
theorem mw_397 : (Jvm.Cond.instanceMethod ({ cls := "MaterialBars", name := "right", desc := "(IIZ)Z" } : Jvm.MethodName)) ∈ T0 := T0_in (List.mem_append_right _ (List.mem_append_right _ (List.mem_append_left _ (List.mem_of_getElem? (i := 157) (by decide +kernel))))) rfl
theorem mw_398 : (Jvm.Cond.selects "MaterialBars" ({ cls := "MaterialBars", name := "right", desc := "(IIZ)Z" } : Jvm.MethodName) ({ cls := "MaterialBars", name := "right", desc := "(IIZ)Z" } : Jvm.MethodName)) ∈ T0 := T0_in (List.mem_append_right _ (List.mem_append_right _ (List.mem_append_left _ (List.mem_of_getElem? (i := 158) (by decide +kernel))))) rfl
theorem mw_399 : (Jvm.Cond.code ({ cls := "MaterialBars", name := "right", desc := "(IIZ)Z" } : Jvm.MethodName) prog_1_method_7_code (6 : Nat) (Option.some Jvm.ClassFile.FieldType.boolean)) ∈ T0 := T0_in (List.mem_append_right _ (List.mem_append_right _ (List.mem_append_left _ (List.mem_of_getElem? (i := 159) rfl)))) rfl
theorem mw_400 : (Jvm.Cond.methodLink "MaterialBars" (110 : Nat) ({ cls := "MaterialBars", name := "has", desc := "(II)Z" } : Jvm.MethodName)) ∈ T0 := T0_in (List.mem_append_right _ (List.mem_append_right _ (List.mem_append_left _ (List.mem_of_getElem? (i := 160) (by decide +kernel))))) rfl
theorem mw_401 : (Jvm.Cond.static ({ cls := "MaterialBars", name := "has", desc := "(II)Z" } : Jvm.MethodName)) ∈ T0 := T0_in (List.mem_append_right _ (List.mem_append_right _ (List.mem_append_left _ (List.mem_of_getElem? (i := 161) (by decide +kernel))))) rfl
theorem mw_402 : (Jvm.Cond.code ({ cls := "MaterialBars", name := "has", desc := "(II)Z" } : Jvm.MethodName) prog_1_method_24_code (2 : Nat) (Option.some Jvm.ClassFile.FieldType.boolean)) ∈ T0 := T0_in (List.mem_append_right _ (List.mem_append_right _ (List.mem_append_left _ (List.mem_of_getElem? (i := 162) rfl)))) rfl
theorem mw_403 : (Jvm.Cond.methodLink "MaterialBars" (114 : Nat) ({ cls := "MaterialBars", name := "with", desc := "(IIZ)I" } : Jvm.MethodName)) ∈ T0 := T0_in (List.mem_append_right _ (List.mem_append_right _ (List.mem_append_left _ (List.mem_of_getElem? (i := 163) (by decide +kernel))))) rfl
theorem mw_404 : (Jvm.Cond.methodLink "MaterialBarsLaw" (106 : Nat) ({ cls := "MaterialBarsLaw", name := "trial", desc := "(LMaterialBars;IIZ[J)I" } : Jvm.MethodName)) ∈ T0 := T0_in (List.mem_append_right _ (List.mem_append_right _ (List.mem_append_left _ (List.mem_of_getElem? (i := 164) (by decide +kernel))))) rfl
theorem mw_405 : (Jvm.Cond.static ({ cls := "MaterialBarsLaw", name := "trial", desc := "(LMaterialBars;IIZ[J)I" } : Jvm.MethodName)) ∈ T0 := T0_in (List.mem_append_right _ (List.mem_append_right _ (List.mem_append_left _ (List.mem_of_getElem? (i := 165) (by decide +kernel))))) rfl
theorem mw_406 : (Jvm.Cond.codeWith ({ cls := "MaterialBarsLaw", name := "trial", desc := "(LMaterialBars;IIZ[J)I" } : Jvm.MethodName) method_9_code (6 : Nat) (Option.some Jvm.ClassFile.FieldType.int) [((0 : Nat), (19 : Nat), (22 : Nat), (25 : Nat))]) ∈ T0 := T0_in (List.mem_append_right _ (List.mem_append_right _ (List.mem_append_left _ (List.mem_of_getElem? (i := 166) rfl)))) rfl
theorem mw_407 : (Jvm.Cond.methodLink "MaterialBarsLaw" (37 : Nat) ({ cls := "MaterialBars", name := "trial", desc := "(IIZ)Z" } : Jvm.MethodName)) ∈ T0 := T0_in (List.mem_append_right _ (List.mem_append_right _ (List.mem_append_left _ (List.mem_of_getElem? (i := 167) (by decide +kernel))))) rfl
theorem mw_408 : (Jvm.Cond.instanceMethod ({ cls := "MaterialBars", name := "trial", desc := "(IIZ)Z" } : Jvm.MethodName)) ∈ T0 := T0_in (List.mem_append_right _ (List.mem_append_right _ (List.mem_append_left _ (List.mem_of_getElem? (i := 168) (by decide +kernel))))) rfl
theorem mw_409 : (Jvm.Cond.selects "MaterialBars" ({ cls := "MaterialBars", name := "trial", desc := "(IIZ)Z" } : Jvm.MethodName) ({ cls := "MaterialBars", name := "trial", desc := "(IIZ)Z" } : Jvm.MethodName)) ∈ T0 := T0_in (List.mem_append_right _ (List.mem_append_right _ (List.mem_append_left _ (List.mem_of_getElem? (i := 169) (by decide +kernel))))) rfl
theorem mw_410 : (Jvm.Cond.code ({ cls := "MaterialBars", name := "trial", desc := "(IIZ)Z" } : Jvm.MethodName) prog_1_method_8_code (6 : Nat) (Option.some Jvm.ClassFile.FieldType.boolean)) ∈ T0 := T0_in (List.mem_append_right _ (List.mem_append_right _ (List.mem_append_left _ (List.mem_of_getElem? (i := 170) rfl)))) rfl
theorem mw_411 : (Jvm.Cond.methodLink "MaterialBarsLaw" (109 : Nat) ({ cls := "MaterialBarsLaw", name := "reason", desc := "(LMaterialBars;IIII[J)I" } : Jvm.MethodName)) ∈ T0 := T0_in (List.mem_append_right _ (List.mem_append_right _ (List.mem_append_left _ (List.mem_of_getElem? (i := 171) (by decide +kernel))))) rfl
theorem mw_412 : (Jvm.Cond.static ({ cls := "MaterialBarsLaw", name := "reason", desc := "(LMaterialBars;IIII[J)I" } : Jvm.MethodName)) ∈ T0 := T0_in (List.mem_append_right _ (List.mem_append_right _ (List.mem_append_left _ (List.mem_of_getElem? (i := 172) (by decide +kernel))))) rfl
theorem mw_413 : (Jvm.Cond.codeWith ({ cls := "MaterialBarsLaw", name := "reason", desc := "(LMaterialBars;IIII[J)I" } : Jvm.MethodName) method_10_code (7 : Nat) (Option.some Jvm.ClassFile.FieldType.int) [((0 : Nat), (14 : Nat), (17 : Nat), (25 : Nat)), ((0 : Nat), (14 : Nat), (21 : Nat), (15 : Nat))]) ∈ T0 := T0_in (List.mem_append_right _ (List.mem_append_right _ (List.mem_append_left _ (List.mem_of_getElem? (i := 173) rfl)))) rfl
theorem mw_414 : (Jvm.Cond.methodLink "MaterialBarsLaw" (40 : Nat) ({ cls := "MaterialBars", name := "reason", desc := "(IIII)I" } : Jvm.MethodName)) ∈ T0 := T0_in (List.mem_append_right _ (List.mem_append_right _ (List.mem_append_left _ (List.mem_of_getElem? (i := 174) (by decide +kernel))))) rfl
theorem mw_415 : (Jvm.Cond.instanceMethod ({ cls := "MaterialBars", name := "reason", desc := "(IIII)I" } : Jvm.MethodName)) ∈ T0 := T0_in (List.mem_append_right _ (List.mem_append_right _ (List.mem_append_left _ (List.mem_of_getElem? (i := 175) (by decide +kernel))))) rfl
theorem mw_416 : (Jvm.Cond.selects "MaterialBars" ({ cls := "MaterialBars", name := "reason", desc := "(IIII)I" } : Jvm.MethodName) ({ cls := "MaterialBars", name := "reason", desc := "(IIII)I" } : Jvm.MethodName)) ∈ T0 := T0_in (List.mem_append_right _ (List.mem_append_right _ (List.mem_append_left _ (List.mem_of_getElem? (i := 176) (by decide +kernel))))) rfl
theorem mw_417 : (Jvm.Cond.code ({ cls := "MaterialBars", name := "reason", desc := "(IIII)I" } : Jvm.MethodName) prog_1_method_9_code (7 : Nat) (Option.some Jvm.ClassFile.FieldType.int)) ∈ T0 := T0_in (List.mem_append_right _ (List.mem_append_right _ (List.mem_append_left _ (List.mem_of_getElem? (i := 177) rfl)))) rfl
theorem mw_418 : (Jvm.Cond.methodLink "MaterialBars" (121 : Nat) ({ cls := "MaterialBars", name := "checkHour", desc := "(II)V" } : Jvm.MethodName)) ∈ T0 := T0_in (List.mem_append_right _ (List.mem_append_right _ (List.mem_append_left _ (List.mem_of_getElem? (i := 178) (by decide +kernel))))) rfl
theorem mw_419 : (Jvm.Cond.static ({ cls := "MaterialBars", name := "checkHour", desc := "(II)V" } : Jvm.MethodName)) ∈ T0 := T0_in (List.mem_append_right _ (List.mem_append_right _ (List.mem_append_left _ (List.mem_of_getElem? (i := 179) (by decide +kernel))))) rfl
theorem mw_420 : (Jvm.Cond.code ({ cls := "MaterialBars", name := "checkHour", desc := "(II)V" } : Jvm.MethodName) prog_1_method_20_code (2 : Nat) (Option.none : Option Jvm.ClassFile.FieldType)) ∈ T0 := T0_in (List.mem_append_right _ (List.mem_append_right _ (List.mem_append_left _ (List.mem_of_getElem? (i := 180) rfl)))) rfl
theorem mw_421 : (Jvm.Cond.constant "MaterialBars" (156 : Nat) (1000000 : Int32)) ∈ T0 := T0_in (List.mem_append_right _ (List.mem_append_right _ (List.mem_append_left _ (List.mem_of_getElem? (i := 181) (by decide +kernel))))) rfl
theorem mw_423 : (Jvm.Cond.methodLink "MaterialBars" (124 : Nat) ({ cls := "MaterialBars", name := "reasonAgainst", desc := "(LMaterialBars$Piece;LMaterialBars$Method;II)I" } : Jvm.MethodName)) ∈ T0 := T0_in (List.mem_append_right _ (List.mem_append_right _ (List.mem_append_left _ (List.mem_of_getElem? (i := 183) (by decide +kernel))))) rfl
theorem mw_425 : (Jvm.Cond.instanceMethod ({ cls := "MaterialBars", name := "reasonAgainst", desc := "(LMaterialBars$Piece;LMaterialBars$Method;II)I" } : Jvm.MethodName)) ∈ T0 := T0_in (List.mem_append_right _ (List.mem_append_right _ (List.mem_append_left _ (List.mem_of_getElem? (i := 185) (by decide +kernel))))) rfl
theorem mw_426 : (Jvm.Cond.code ({ cls := "MaterialBars", name := "reasonAgainst", desc := "(LMaterialBars$Piece;LMaterialBars$Method;II)I" } : Jvm.MethodName) prog_1_method_27_code (10 : Nat) (Option.some Jvm.ClassFile.FieldType.int)) ∈ T0 := T0_in (List.mem_append_right _ (List.mem_append_right _ (List.mem_append_left _ (List.mem_of_getElem? (i := 186) rfl)))) rfl
theorem mw_427 : (Jvm.Cond.methodLink "MaterialBars" (230 : Nat) ({ cls := "MaterialBars$Piece", name := "firstPartOf", desc := "(I)I" } : Jvm.MethodName)) ∈ T0 := T0_in (List.mem_append_right _ (List.mem_append_right _ (List.mem_append_left _ (List.mem_of_getElem? (i := 187) (by decide +kernel))))) rfl
theorem mw_428 : (Jvm.Cond.instanceMethod ({ cls := "MaterialBars$Piece", name := "firstPartOf", desc := "(I)I" } : Jvm.MethodName)) ∈ T0 := T0_in (List.mem_append_right _ (List.mem_append_right _ (List.mem_append_left _ (List.mem_of_getElem? (i := 188) (by decide +kernel))))) rfl
theorem mw_429 : (Jvm.Cond.selects "MaterialBars$Piece" ({ cls := "MaterialBars$Piece", name := "firstPartOf", desc := "(I)I" } : Jvm.MethodName) ({ cls := "MaterialBars$Piece", name := "firstPartOf", desc := "(I)I" } : Jvm.MethodName)) ∈ T0 := T0_in (List.mem_append_right _ (List.mem_append_right _ (List.mem_append_left _ (List.mem_of_getElem? (i := 189) (by decide +kernel))))) rfl
theorem mw_430 : (Jvm.Cond.code ({ cls := "MaterialBars$Piece", name := "firstPartOf", desc := "(I)I" } : Jvm.MethodName) prog_5_method_3_code (3 : Nat) (Option.some Jvm.ClassFile.FieldType.int)) ∈ T0 := T0_in (List.mem_append_right _ (List.mem_append_right _ (List.mem_append_left _ (List.mem_of_getElem? (i := 190) rfl)))) rfl
theorem mw_432 : (Jvm.Cond.methodLink "MaterialBars" (187 : Nat) ({ cls := "MaterialBars", name := "lowest", desc := "(I)I" } : Jvm.MethodName)) ∈ T0 := T0_in (List.mem_append_right _ (List.mem_append_right _ (List.mem_append_left _ (List.mem_of_getElem? (i := 192) (by decide +kernel))))) rfl
theorem mw_433 : (Jvm.Cond.static ({ cls := "MaterialBars", name := "lowest", desc := "(I)I" } : Jvm.MethodName)) ∈ T0 := T0_in (List.mem_append_right _ (List.mem_append_right _ (List.mem_append_left _ (List.mem_of_getElem? (i := 193) (by decide +kernel))))) rfl
theorem mw_434 : (Jvm.Cond.code ({ cls := "MaterialBars", name := "lowest", desc := "(I)I" } : Jvm.MethodName) prog_1_method_26_code (2 : Nat) (Option.some Jvm.ClassFile.FieldType.int)) ∈ T0 := T0_in (List.mem_append_right _ (List.mem_append_right _ (List.mem_append_left _ (List.mem_of_getElem? (i := 194) rfl)))) rfl
theorem mw_435 : (Jvm.Cond.methodLink "MaterialBars" (236 : Nat) ({ cls := "MaterialBars", name := "lowestNotLongEnoughAgo", desc := "(LMaterialBars$Piece;LMaterialBars$Method;I)I" } : Jvm.MethodName)) ∈ T0 := T0_in (List.mem_append_right _ (List.mem_append_right _ (List.mem_append_left _ (List.mem_of_getElem? (i := 195) (by decide +kernel))))) rfl
theorem mw_436 : (Jvm.Cond.static ({ cls := "MaterialBars", name := "lowestNotLongEnoughAgo", desc := "(LMaterialBars$Piece;LMaterialBars$Method;I)I" } : Jvm.MethodName)) ∈ T0 := T0_in (List.mem_append_right _ (List.mem_append_right _ (List.mem_append_left _ (List.mem_of_getElem? (i := 196) (by decide +kernel))))) rfl
theorem mw_437 : (Jvm.Cond.code ({ cls := "MaterialBars", name := "lowestNotLongEnoughAgo", desc := "(LMaterialBars$Piece;LMaterialBars$Method;I)I" } : Jvm.MethodName) prog_1_method_28_code (4 : Nat) (Option.some Jvm.ClassFile.FieldType.int)) ∈ T0 := T0_in (List.mem_append_right _ (List.mem_append_right _ (List.mem_append_left _ (List.mem_of_getElem? (i := 197) rfl)))) rfl
theorem mw_438 : (Jvm.Cond.methodLink "MaterialBars" (246 : Nat) ({ cls := "MaterialBars", name := "lowestLacking", desc := "(LMaterialBars$Method;)I" } : Jvm.MethodName)) ∈ T0 := T0_in (List.mem_append_right _ (List.mem_append_right _ (List.mem_append_left _ (List.mem_of_getElem? (i := 198) (by decide +kernel))))) rfl
theorem mw_440 : (Jvm.Cond.instanceMethod ({ cls := "MaterialBars", name := "lowestLacking", desc := "(LMaterialBars$Method;)I" } : Jvm.MethodName)) ∈ T0 := T0_in (List.mem_append_right _ (List.mem_append_right _ (List.mem_append_left _ (List.mem_of_getElem? (i := 200) (by decide +kernel))))) rfl
theorem mw_441 : (Jvm.Cond.code ({ cls := "MaterialBars", name := "lowestLacking", desc := "(LMaterialBars$Method;)I" } : Jvm.MethodName) prog_1_method_29_code (3 : Nat) (Option.some Jvm.ClassFile.FieldType.int)) ∈ T0 := T0_in (List.mem_append_right _ (List.mem_append_right _ (List.mem_append_left _ (List.mem_of_getElem? (i := 201) rfl)))) rfl
theorem mw_442 : (Jvm.Cond.methodLink "MaterialBarsLaw" (113 : Nat) ({ cls := "MaterialBarsLaw", name := "done", desc := "(LMaterialBars;IIIII[J)I" } : Jvm.MethodName)) ∈ T0 := T0_in (List.mem_append_right _ (List.mem_append_right _ (List.mem_append_left _ (List.mem_of_getElem? (i := 202) (by decide +kernel))))) rfl
theorem mw_443 : (Jvm.Cond.static ({ cls := "MaterialBarsLaw", name := "done", desc := "(LMaterialBars;IIIII[J)I" } : Jvm.MethodName)) ∈ T0 := T0_in (List.mem_append_right _ (List.mem_append_right _ (List.mem_append_left _ (List.mem_of_getElem? (i := 203) (by decide +kernel))))) rfl
theorem mw_444 : (Jvm.Cond.codeWith ({ cls := "MaterialBarsLaw", name := "done", desc := "(LMaterialBars;IIIII[J)I" } : Jvm.MethodName) method_11_code (8 : Nat) (Option.some Jvm.ClassFile.FieldType.int) [((0 : Nat), (16 : Nat), (19 : Nat), (25 : Nat)), ((0 : Nat), (16 : Nat), (23 : Nat), (13 : Nat)), ((0 : Nat), (16 : Nat), (27 : Nat), (15 : Nat))]) ∈ T0 := T0_in (List.mem_append_right _ (List.mem_append_right _ (List.mem_append_left _ (List.mem_of_getElem? (i := 204) rfl)))) rfl
theorem mw_445 : (Jvm.Cond.methodLink "MaterialBarsLaw" (44 : Nat) ({ cls := "MaterialBars", name := "done", desc := "(IIIII)I" } : Jvm.MethodName)) ∈ T0 := T0_in (List.mem_append_right _ (List.mem_append_right _ (List.mem_append_left _ (List.mem_of_getElem? (i := 205) (by decide +kernel))))) rfl
theorem mw_446 : (Jvm.Cond.instanceMethod ({ cls := "MaterialBars", name := "done", desc := "(IIIII)I" } : Jvm.MethodName)) ∈ T0 := T0_in (List.mem_append_right _ (List.mem_append_right _ (List.mem_append_left _ (List.mem_of_getElem? (i := 206) (by decide +kernel))))) rfl
theorem mw_447 : (Jvm.Cond.selects "MaterialBars" ({ cls := "MaterialBars", name := "done", desc := "(IIIII)I" } : Jvm.MethodName) ({ cls := "MaterialBars", name := "done", desc := "(IIIII)I" } : Jvm.MethodName)) ∈ T0 := T0_in (List.mem_append_right _ (List.mem_append_right _ (List.mem_append_left _ (List.mem_of_getElem? (i := 207) (by decide +kernel))))) rfl
theorem mw_448 : (Jvm.Cond.code ({ cls := "MaterialBars", name := "done", desc := "(IIIII)I" } : Jvm.MethodName) prog_1_method_10_code (9 : Nat) (Option.some Jvm.ClassFile.FieldType.int)) ∈ T0 := T0_in (List.mem_append_right _ (List.mem_append_right _ (List.mem_append_left _ (List.mem_of_getElem? (i := 208) rfl)))) rfl
theorem mw_450 : (Jvm.Cond.methodLink "MaterialBars" (140 : Nat) ({ cls := "MaterialBars", name := "takeWhatGoes", desc := "(LMaterialBars$Method;)V" } : Jvm.MethodName)) ∈ T0 := T0_in (List.mem_append_right _ (List.mem_append_right _ (List.mem_append_left _ (List.mem_of_getElem? (i := 210) (by decide +kernel))))) rfl
theorem mw_452 : (Jvm.Cond.instanceMethod ({ cls := "MaterialBars", name := "takeWhatGoes", desc := "(LMaterialBars$Method;)V" } : Jvm.MethodName)) ∈ T0 := T0_in (List.mem_append_right _ (List.mem_append_right _ (List.mem_append_left _ (List.mem_of_getElem? (i := 212) (by decide +kernel))))) rfl
theorem mw_453 : (Jvm.Cond.code ({ cls := "MaterialBars", name := "takeWhatGoes", desc := "(LMaterialBars$Method;)V" } : Jvm.MethodName) prog_1_method_30_code (3 : Nat) (Option.none : Option Jvm.ClassFile.FieldType)) ∈ T0 := T0_in (List.mem_append_right _ (List.mem_append_right _ (List.mem_append_left _ (List.mem_of_getElem? (i := 213) rfl)))) rfl
theorem mw_454 : (Jvm.Cond.methodLink "MaterialBars" (162 : Nat) ({ cls := "MaterialBars$Good", name := "changeBy", desc := "(I)V" } : Jvm.MethodName)) ∈ T0 := T0_in (List.mem_append_right _ (List.mem_append_right _ (List.mem_append_left _ (List.mem_of_getElem? (i := 214) (by decide +kernel))))) rfl
theorem mw_455 : (Jvm.Cond.instanceMethod ({ cls := "MaterialBars$Good", name := "changeBy", desc := "(I)V" } : Jvm.MethodName)) ∈ T0 := T0_in (List.mem_append_right _ (List.mem_append_right _ (List.mem_append_left _ (List.mem_of_getElem? (i := 215) (by decide +kernel))))) rfl
theorem mw_456 : (Jvm.Cond.selects "MaterialBars$Good" ({ cls := "MaterialBars$Good", name := "changeBy", desc := "(I)V" } : Jvm.MethodName) ({ cls := "MaterialBars$Good", name := "changeBy", desc := "(I)V" } : Jvm.MethodName)) ∈ T0 := T0_in (List.mem_append_right _ (List.mem_append_right _ (List.mem_append_left _ (List.mem_of_getElem? (i := 216) (by decide +kernel))))) rfl
theorem mw_457 : (Jvm.Cond.code ({ cls := "MaterialBars$Good", name := "changeBy", desc := "(I)V" } : Jvm.MethodName) prog_2_method_2_code (2 : Nat) (Option.none : Option Jvm.ClassFile.FieldType)) ∈ T0 := T0_in (List.mem_append_right _ (List.mem_append_right _ (List.mem_append_left _ (List.mem_of_getElem? (i := 217) rfl)))) rfl
theorem mw_458 : (Jvm.Cond.methodLink "MaterialBars" (144 : Nat) ({ cls := "MaterialBars$Piece", name := "addRow", desc := "(IIII)V" } : Jvm.MethodName)) ∈ T0 := T0_in (List.mem_append_right _ (List.mem_append_right _ (List.mem_append_left _ (List.mem_of_getElem? (i := 218) (by decide +kernel))))) rfl
theorem mw_459 : (Jvm.Cond.instanceMethod ({ cls := "MaterialBars$Piece", name := "addRow", desc := "(IIII)V" } : Jvm.MethodName)) ∈ T0 := T0_in (List.mem_append_right _ (List.mem_append_right _ (List.mem_append_left _ (List.mem_of_getElem? (i := 219) (by decide +kernel))))) rfl
theorem mw_460 : (Jvm.Cond.selects "MaterialBars$Piece" ({ cls := "MaterialBars$Piece", name := "addRow", desc := "(IIII)V" } : Jvm.MethodName) ({ cls := "MaterialBars$Piece", name := "addRow", desc := "(IIII)V" } : Jvm.MethodName)) ∈ T0 := T0_in (List.mem_append_right _ (List.mem_append_right _ (List.mem_append_left _ (List.mem_of_getElem? (i := 220) (by decide +kernel))))) rfl
theorem mw_461 : (Jvm.Cond.code ({ cls := "MaterialBars$Piece", name := "addRow", desc := "(IIII)V" } : Jvm.MethodName) prog_5_method_4_code (6 : Nat) (Option.none : Option Jvm.ClassFile.FieldType)) ∈ T0 := T0_in (List.mem_append_right _ (List.mem_append_right _ (List.mem_append_left _ (List.mem_of_getElem? (i := 221) rfl)))) rfl
theorem mw_462 : (Jvm.Cond.methodLink "MaterialBarsLaw" (117 : Nat) ({ cls := "MaterialBarsLaw", name := "row", desc := "(LMaterialBars;III[J)I" } : Jvm.MethodName)) ∈ T0 := T0_in (List.mem_append_right _ (List.mem_append_right _ (List.mem_append_left _ (List.mem_of_getElem? (i := 222) (by decide +kernel))))) rfl
theorem mw_463 : (Jvm.Cond.static ({ cls := "MaterialBarsLaw", name := "row", desc := "(LMaterialBars;III[J)I" } : Jvm.MethodName)) ∈ T0 := T0_in (List.mem_append_right _ (List.mem_append_right _ (List.mem_append_left _ (List.mem_of_getElem? (i := 223) (by decide +kernel))))) rfl
theorem mw_464 : (Jvm.Cond.codeWith ({ cls := "MaterialBarsLaw", name := "row", desc := "(LMaterialBars;III[J)I" } : Jvm.MethodName) method_12_code (6 : Nat) (Option.some Jvm.ClassFile.FieldType.int) [((0 : Nat), (12 : Nat), (15 : Nat), (25 : Nat))]) ∈ T0 := T0_in (List.mem_append_right _ (List.mem_append_right _ (List.mem_append_left _ (List.mem_of_getElem? (i := 224) rfl)))) rfl
theorem mw_465 : (Jvm.Cond.methodLink "MaterialBarsLaw" (48 : Nat) ({ cls := "MaterialBars", name := "row", desc := "(III)I" } : Jvm.MethodName)) ∈ T0 := T0_in (List.mem_append_right _ (List.mem_append_right _ (List.mem_append_left _ (List.mem_of_getElem? (i := 225) (by decide +kernel))))) rfl
theorem mw_466 : (Jvm.Cond.instanceMethod ({ cls := "MaterialBars", name := "row", desc := "(III)I" } : Jvm.MethodName)) ∈ T0 := T0_in (List.mem_append_right _ (List.mem_append_right _ (List.mem_append_left _ (List.mem_of_getElem? (i := 226) (by decide +kernel))))) rfl
theorem mw_467 : (Jvm.Cond.selects "MaterialBars" ({ cls := "MaterialBars", name := "row", desc := "(III)I" } : Jvm.MethodName) ({ cls := "MaterialBars", name := "row", desc := "(III)I" } : Jvm.MethodName)) ∈ T0 := T0_in (List.mem_append_right _ (List.mem_append_right _ (List.mem_append_left _ (List.mem_of_getElem? (i := 227) (by decide +kernel))))) rfl
theorem mw_468 : (Jvm.Cond.code ({ cls := "MaterialBars", name := "row", desc := "(III)I" } : Jvm.MethodName) prog_1_method_11_code (5 : Nat) (Option.some Jvm.ClassFile.FieldType.int)) ∈ T0 := T0_in (List.mem_append_right _ (List.mem_append_right _ (List.mem_append_left _ (List.mem_of_getElem? (i := 228) rfl)))) rfl
theorem mw_469 : (Jvm.Cond.methodLink "MaterialBarsLaw" (121 : Nat) ({ cls := "MaterialBarsLaw", name := "stock", desc := "(LMaterialBars;II[J)I" } : Jvm.MethodName)) ∈ T0 := T0_in (List.mem_append_right _ (List.mem_append_right _ (List.mem_append_left _ (List.mem_of_getElem? (i := 229) (by decide +kernel))))) rfl
theorem mw_470 : (Jvm.Cond.static ({ cls := "MaterialBarsLaw", name := "stock", desc := "(LMaterialBars;II[J)I" } : Jvm.MethodName)) ∈ T0 := T0_in (List.mem_append_right _ (List.mem_append_right _ (List.mem_append_left _ (List.mem_of_getElem? (i := 230) (by decide +kernel))))) rfl
theorem mw_471 : (Jvm.Cond.codeWith ({ cls := "MaterialBarsLaw", name := "stock", desc := "(LMaterialBars;II[J)I" } : Jvm.MethodName) method_13_code (5 : Nat) (Option.some Jvm.ClassFile.FieldType.int) [((0 : Nat), (10 : Nat), (13 : Nat), (25 : Nat)), ((0 : Nat), (10 : Nat), (17 : Nat), (15 : Nat))]) ∈ T0 := T0_in (List.mem_append_right _ (List.mem_append_right _ (List.mem_append_left _ (List.mem_of_getElem? (i := 231) rfl)))) rfl
theorem mw_472 : (Jvm.Cond.methodLink "MaterialBarsLaw" (52 : Nat) ({ cls := "MaterialBars", name := "stock", desc := "(II)I" } : Jvm.MethodName)) ∈ T0 := T0_in (List.mem_append_right _ (List.mem_append_right _ (List.mem_append_left _ (List.mem_of_getElem? (i := 232) (by decide +kernel))))) rfl
theorem mw_473 : (Jvm.Cond.instanceMethod ({ cls := "MaterialBars", name := "stock", desc := "(II)I" } : Jvm.MethodName)) ∈ T0 := T0_in (List.mem_append_right _ (List.mem_append_right _ (List.mem_append_left _ (List.mem_of_getElem? (i := 233) (by decide +kernel))))) rfl
theorem mw_474 : (Jvm.Cond.selects "MaterialBars" ({ cls := "MaterialBars", name := "stock", desc := "(II)I" } : Jvm.MethodName) ({ cls := "MaterialBars", name := "stock", desc := "(II)I" } : Jvm.MethodName)) ∈ T0 := T0_in (List.mem_append_right _ (List.mem_append_right _ (List.mem_append_left _ (List.mem_of_getElem? (i := 234) (by decide +kernel))))) rfl
theorem mw_475 : (Jvm.Cond.code ({ cls := "MaterialBars", name := "stock", desc := "(II)I" } : Jvm.MethodName) prog_1_method_12_code (5 : Nat) (Option.some Jvm.ClassFile.FieldType.int)) ∈ T0 := T0_in (List.mem_append_right _ (List.mem_append_right _ (List.mem_append_left _ (List.mem_of_getElem? (i := 235) rfl)))) rfl
theorem mw_476 : (Jvm.Cond.methodLink "MaterialBars" (151 : Nat) ({ cls := "MaterialBars", name := "goodAt", desc := "(I)LMaterialBars$Good;" } : Jvm.MethodName)) ∈ T0 := T0_in (List.mem_append_right _ (List.mem_append_right _ (List.mem_append_left _ (List.mem_of_getElem? (i := 236) (by decide +kernel))))) rfl
theorem mw_478 : (Jvm.Cond.instanceMethod ({ cls := "MaterialBars", name := "goodAt", desc := "(I)LMaterialBars$Good;" } : Jvm.MethodName)) ∈ T0 := T0_in (List.mem_append_right _ (List.mem_append_right _ (List.mem_append_left _ (List.mem_of_getElem? (i := 238) (by decide +kernel))))) rfl
theorem mw_479 : (Jvm.Cond.code ({ cls := "MaterialBars", name := "goodAt", desc := "(I)LMaterialBars$Good;" } : Jvm.MethodName) prog_1_method_23_code (2 : Nat) (Option.some (Jvm.ClassFile.FieldType.object "MaterialBars$Good"))) ∈ T0 := T0_in (List.mem_append_right _ (List.mem_append_right _ (List.mem_append_left _ (List.mem_of_getElem? (i := 239) rfl)))) rfl
theorem mw_480 : (Jvm.Cond.constant "MaterialBars" (155 : Nat) (-1000000 : Int32)) ∈ T0 := T0_in (List.mem_append_right _ (List.mem_append_right _ (List.mem_append_right _ (List.mem_append_left _ (List.mem_of_getElem? (i := 0) (by decide +kernel)))))) rfl
theorem mw_482 : (Jvm.Cond.methodLink "MaterialBarsLaw" (124 : Nat) ({ cls := "MaterialBarsLaw", name := "about", desc := "(LMaterialBars;II[J)I" } : Jvm.MethodName)) ∈ T0 := T0_in (List.mem_append_right _ (List.mem_append_right _ (List.mem_append_right _ (List.mem_append_left _ (List.mem_of_getElem? (i := 2) (by decide +kernel)))))) rfl
theorem mw_483 : (Jvm.Cond.static ({ cls := "MaterialBarsLaw", name := "about", desc := "(LMaterialBars;II[J)I" } : Jvm.MethodName)) ∈ T0 := T0_in (List.mem_append_right _ (List.mem_append_right _ (List.mem_append_right _ (List.mem_append_left _ (List.mem_of_getElem? (i := 3) (by decide +kernel)))))) rfl
theorem mw_484 : (Jvm.Cond.codeWith ({ cls := "MaterialBarsLaw", name := "about", desc := "(LMaterialBars;II[J)I" } : Jvm.MethodName) method_14_code (5 : Nat) (Option.some Jvm.ClassFile.FieldType.int) [((0 : Nat), (9 : Nat), (12 : Nat), (25 : Nat))]) ∈ T0 := T0_in (List.mem_append_right _ (List.mem_append_right _ (List.mem_append_right _ (List.mem_append_left _ (List.mem_of_getElem? (i := 4) rfl))))) rfl
theorem mw_485 : (Jvm.Cond.methodLink "MaterialBarsLaw" (55 : Nat) ({ cls := "MaterialBars", name := "about", desc := "(II)J" } : Jvm.MethodName)) ∈ T0 := T0_in (List.mem_append_right _ (List.mem_append_right _ (List.mem_append_right _ (List.mem_append_left _ (List.mem_of_getElem? (i := 5) (by decide +kernel)))))) rfl
theorem mw_486 : (Jvm.Cond.instanceMethod ({ cls := "MaterialBars", name := "about", desc := "(II)J" } : Jvm.MethodName)) ∈ T0 := T0_in (List.mem_append_right _ (List.mem_append_right _ (List.mem_append_right _ (List.mem_append_left _ (List.mem_of_getElem? (i := 6) (by decide +kernel)))))) rfl
theorem mw_487 : (Jvm.Cond.selects "MaterialBars" ({ cls := "MaterialBars", name := "about", desc := "(II)J" } : Jvm.MethodName) ({ cls := "MaterialBars", name := "about", desc := "(II)J" } : Jvm.MethodName)) ∈ T0 := T0_in (List.mem_append_right _ (List.mem_append_right _ (List.mem_append_right _ (List.mem_append_left _ (List.mem_of_getElem? (i := 7) (by decide +kernel)))))) rfl
theorem mw_488 : (Jvm.Cond.code ({ cls := "MaterialBars", name := "about", desc := "(II)J" } : Jvm.MethodName) prog_1_method_13_code (4 : Nat) (Option.some Jvm.ClassFile.FieldType.long)) ∈ T0 := T0_in (List.mem_append_right _ (List.mem_append_right _ (List.mem_append_right _ (List.mem_append_left _ (List.mem_of_getElem? (i := 8) rfl))))) rfl
theorem mw_490 : (Jvm.Cond.methodLink "MaterialBarsLaw" (127 : Nat) ({ cls := "MaterialBarsLaw", name := "apart", desc := "(LMaterialBars;II[J)I" } : Jvm.MethodName)) ∈ T0 := T0_in (List.mem_append_right _ (List.mem_append_right _ (List.mem_append_right _ (List.mem_append_left _ (List.mem_of_getElem? (i := 10) (by decide +kernel)))))) rfl
theorem mw_491 : (Jvm.Cond.static ({ cls := "MaterialBarsLaw", name := "apart", desc := "(LMaterialBars;II[J)I" } : Jvm.MethodName)) ∈ T0 := T0_in (List.mem_append_right _ (List.mem_append_right _ (List.mem_append_right _ (List.mem_append_left _ (List.mem_of_getElem? (i := 11) (by decide +kernel)))))) rfl
theorem mw_492 : (Jvm.Cond.codeWith ({ cls := "MaterialBarsLaw", name := "apart", desc := "(LMaterialBars;II[J)I" } : Jvm.MethodName) method_15_code (5 : Nat) (Option.some Jvm.ClassFile.FieldType.int) [((0 : Nat), (17 : Nat), (20 : Nat), (25 : Nat))]) ∈ T0 := T0_in (List.mem_append_right _ (List.mem_append_right _ (List.mem_append_right _ (List.mem_append_left _ (List.mem_of_getElem? (i := 12) rfl))))) rfl
theorem mw_493 : (Jvm.Cond.methodLink "MaterialBarsLaw" (59 : Nat) ({ cls := "MaterialBars", name := "apart", desc := "(II)Z" } : Jvm.MethodName)) ∈ T0 := T0_in (List.mem_append_right _ (List.mem_append_right _ (List.mem_append_right _ (List.mem_append_left _ (List.mem_of_getElem? (i := 13) (by decide +kernel)))))) rfl
theorem mw_494 : (Jvm.Cond.instanceMethod ({ cls := "MaterialBars", name := "apart", desc := "(II)Z" } : Jvm.MethodName)) ∈ T0 := T0_in (List.mem_append_right _ (List.mem_append_right _ (List.mem_append_right _ (List.mem_append_left _ (List.mem_of_getElem? (i := 14) (by decide +kernel)))))) rfl
theorem mw_495 : (Jvm.Cond.selects "MaterialBars" ({ cls := "MaterialBars", name := "apart", desc := "(II)Z" } : Jvm.MethodName) ({ cls := "MaterialBars", name := "apart", desc := "(II)Z" } : Jvm.MethodName)) ∈ T0 := T0_in (List.mem_append_right _ (List.mem_append_right _ (List.mem_append_right _ (List.mem_append_left _ (List.mem_of_getElem? (i := 15) (by decide +kernel)))))) rfl
theorem mw_496 : (Jvm.Cond.code ({ cls := "MaterialBars", name := "apart", desc := "(II)Z" } : Jvm.MethodName) prog_1_method_14_code (5 : Nat) (Option.some Jvm.ClassFile.FieldType.boolean)) ∈ T0 := T0_in (List.mem_append_right _ (List.mem_append_right _ (List.mem_append_right _ (List.mem_append_left _ (List.mem_of_getElem? (i := 16) rfl))))) rfl
theorem mw_497 : (Jvm.Cond.methodLink "MaterialBarsLaw" (130 : Nat) ({ cls := "MaterialBarsLaw", name := "put", desc := "(LMaterialBars;II[J)I" } : Jvm.MethodName)) ∈ T0 := T0_in (List.mem_append_right _ (List.mem_append_right _ (List.mem_append_right _ (List.mem_append_left _ (List.mem_of_getElem? (i := 17) (by decide +kernel)))))) rfl
theorem mw_498 : (Jvm.Cond.static ({ cls := "MaterialBarsLaw", name := "put", desc := "(LMaterialBars;II[J)I" } : Jvm.MethodName)) ∈ T0 := T0_in (List.mem_append_right _ (List.mem_append_right _ (List.mem_append_right _ (List.mem_append_left _ (List.mem_of_getElem? (i := 18) (by decide +kernel)))))) rfl
theorem mw_499 : (Jvm.Cond.codeWith ({ cls := "MaterialBarsLaw", name := "put", desc := "(LMaterialBars;II[J)I" } : Jvm.MethodName) method_16_code (5 : Nat) (Option.some Jvm.ClassFile.FieldType.int) [((0 : Nat), (10 : Nat), (13 : Nat), (25 : Nat))]) ∈ T0 := T0_in (List.mem_append_right _ (List.mem_append_right _ (List.mem_append_right _ (List.mem_append_left _ (List.mem_of_getElem? (i := 19) rfl))))) rfl
theorem mw_500 : (Jvm.Cond.methodLink "MaterialBarsLaw" (63 : Nat) ({ cls := "MaterialBars", name := "put", desc := "(II)I" } : Jvm.MethodName)) ∈ T0 := T0_in (List.mem_append_right _ (List.mem_append_right _ (List.mem_append_right _ (List.mem_append_left _ (List.mem_of_getElem? (i := 20) (by decide +kernel)))))) rfl
theorem mw_501 : (Jvm.Cond.instanceMethod ({ cls := "MaterialBars", name := "put", desc := "(II)I" } : Jvm.MethodName)) ∈ T0 := T0_in (List.mem_append_right _ (List.mem_append_right _ (List.mem_append_right _ (List.mem_append_left _ (List.mem_of_getElem? (i := 21) (by decide +kernel)))))) rfl
theorem mw_502 : (Jvm.Cond.selects "MaterialBars" ({ cls := "MaterialBars", name := "put", desc := "(II)I" } : Jvm.MethodName) ({ cls := "MaterialBars", name := "put", desc := "(II)I" } : Jvm.MethodName)) ∈ T0 := T0_in (List.mem_append_right _ (List.mem_append_right _ (List.mem_append_right _ (List.mem_append_left _ (List.mem_of_getElem? (i := 22) (by decide +kernel)))))) rfl
theorem mw_503 : (Jvm.Cond.code ({ cls := "MaterialBars", name := "put", desc := "(II)I" } : Jvm.MethodName) prog_1_method_15_code (5 : Nat) (Option.some Jvm.ClassFile.FieldType.int)) ∈ T0 := T0_in (List.mem_append_right _ (List.mem_append_right _ (List.mem_append_right _ (List.mem_append_left _ (List.mem_of_getElem? (i := 23) rfl))))) rfl
theorem mw_504 : (Jvm.Cond.methodLink "MaterialBars" (184 : Nat) ({ cls := "MaterialBars", name := "goodsOn", desc := "(I)I" } : Jvm.MethodName)) ∈ T0 := T0_in (List.mem_append_right _ (List.mem_append_right _ (List.mem_append_right _ (List.mem_append_left _ (List.mem_of_getElem? (i := 24) (by decide +kernel)))))) rfl
theorem mw_506 : (Jvm.Cond.instanceMethod ({ cls := "MaterialBars", name := "goodsOn", desc := "(I)I" } : Jvm.MethodName)) ∈ T0 := T0_in (List.mem_append_right _ (List.mem_append_right _ (List.mem_append_right _ (List.mem_append_left _ (List.mem_of_getElem? (i := 26) (by decide +kernel)))))) rfl
theorem mw_507 : (Jvm.Cond.code ({ cls := "MaterialBars", name := "goodsOn", desc := "(I)I" } : Jvm.MethodName) prog_1_method_31_code (4 : Nat) (Option.some Jvm.ClassFile.FieldType.int)) ∈ T0 := T0_in (List.mem_append_right _ (List.mem_append_right _ (List.mem_append_right _ (List.mem_append_left _ (List.mem_of_getElem? (i := 27) rfl))))) rfl
theorem mw_508 : (Jvm.Cond.methodLink "MaterialBarsLaw" (133 : Nat) ({ cls := "MaterialBarsLaw", name := "plan", desc := "(LMaterialBars;II[J)I" } : Jvm.MethodName)) ∈ T0 := T0_in (List.mem_append_right _ (List.mem_append_right _ (List.mem_append_right _ (List.mem_append_left _ (List.mem_of_getElem? (i := 28) (by decide +kernel)))))) rfl
theorem mw_509 : (Jvm.Cond.static ({ cls := "MaterialBarsLaw", name := "plan", desc := "(LMaterialBars;II[J)I" } : Jvm.MethodName)) ∈ T0 := T0_in (List.mem_append_right _ (List.mem_append_right _ (List.mem_append_right _ (List.mem_append_left _ (List.mem_of_getElem? (i := 29) (by decide +kernel)))))) rfl
theorem mw_510 : (Jvm.Cond.codeWith ({ cls := "MaterialBarsLaw", name := "plan", desc := "(LMaterialBars;II[J)I" } : Jvm.MethodName) method_17_code (5 : Nat) (Option.some Jvm.ClassFile.FieldType.int) [((0 : Nat), (10 : Nat), (13 : Nat), (25 : Nat))]) ∈ T0 := T0_in (List.mem_append_right _ (List.mem_append_right _ (List.mem_append_right _ (List.mem_append_left _ (List.mem_of_getElem? (i := 30) rfl))))) rfl
theorem mw_511 : (Jvm.Cond.methodLink "MaterialBarsLaw" (66 : Nat) ({ cls := "MaterialBars", name := "plan", desc := "(II)I" } : Jvm.MethodName)) ∈ T0 := T0_in (List.mem_append_right _ (List.mem_append_right _ (List.mem_append_right _ (List.mem_append_left _ (List.mem_of_getElem? (i := 31) (by decide +kernel)))))) rfl
theorem mw_512 : (Jvm.Cond.instanceMethod ({ cls := "MaterialBars", name := "plan", desc := "(II)I" } : Jvm.MethodName)) ∈ T0 := T0_in (List.mem_append_right _ (List.mem_append_right _ (List.mem_append_right _ (List.mem_append_left _ (List.mem_of_getElem? (i := 32) (by decide +kernel)))))) rfl
theorem mw_513 : (Jvm.Cond.selects "MaterialBars" ({ cls := "MaterialBars", name := "plan", desc := "(II)I" } : Jvm.MethodName) ({ cls := "MaterialBars", name := "plan", desc := "(II)I" } : Jvm.MethodName)) ∈ T0 := T0_in (List.mem_append_right _ (List.mem_append_right _ (List.mem_append_right _ (List.mem_append_left _ (List.mem_of_getElem? (i := 33) (by decide +kernel)))))) rfl
theorem mw_514 : (Jvm.Cond.code ({ cls := "MaterialBars", name := "plan", desc := "(II)I" } : Jvm.MethodName) prog_1_method_16_code (6 : Nat) (Option.some Jvm.ClassFile.FieldType.int)) ∈ T0 := T0_in (List.mem_append_right _ (List.mem_append_right _ (List.mem_append_right _ (List.mem_append_left _ (List.mem_of_getElem? (i := 34) rfl))))) rfl
theorem mw_516 : (Jvm.Cond.methodLink "MaterialBars" (192 : Nat) ({ cls := "MaterialBars", name := "withAllAhead", desc := "(I)I" } : Jvm.MethodName)) ∈ T0 := T0_in (List.mem_append_right _ (List.mem_append_right _ (List.mem_append_right _ (List.mem_append_left _ (List.mem_of_getElem? (i := 36) (by decide +kernel)))))) rfl
theorem mw_518 : (Jvm.Cond.instanceMethod ({ cls := "MaterialBars", name := "withAllAhead", desc := "(I)I" } : Jvm.MethodName)) ∈ T0 := T0_in (List.mem_append_right _ (List.mem_append_right _ (List.mem_append_right _ (List.mem_append_left _ (List.mem_of_getElem? (i := 38) (by decide +kernel)))))) rfl
theorem mw_519 : (Jvm.Cond.code ({ cls := "MaterialBars", name := "withAllAhead", desc := "(I)I" } : Jvm.MethodName) prog_1_method_33_code (5 : Nat) (Option.some Jvm.ClassFile.FieldType.int)) ∈ T0 := T0_in (List.mem_append_right _ (List.mem_append_right _ (List.mem_append_right _ (List.mem_append_left _ (List.mem_of_getElem? (i := 39) rfl))))) rfl
theorem mw_520 : (Jvm.Cond.methodLink "MaterialBars" (198 : Nat) ({ cls := "java/lang/Integer", name := "bitCount", desc := "(I)I" } : Jvm.MethodName)) ∈ T0 := T0_in (List.mem_append_right _ (List.mem_append_right _ (List.mem_append_right _ (List.mem_append_left _ (List.mem_of_getElem? (i := 40) (by decide +kernel)))))) rfl
theorem mw_521 : (Jvm.Cond.static ({ cls := "java/lang/Integer", name := "bitCount", desc := "(I)I" } : Jvm.MethodName)) ∈ T0 := T0_in (List.mem_append_right _ (List.mem_append_right _ (List.mem_append_right _ (List.mem_append_left _ (List.mem_of_getElem? (i := 41) (by decide +kernel)))))) rfl
theorem mw_522 : (Jvm.Cond.code ({ cls := "java/lang/Integer", name := "bitCount", desc := "(I)I" } : Jvm.MethodName) prog_12_method_49_code (1 : Nat) (Option.some Jvm.ClassFile.FieldType.int)) ∈ T0 := T0_in (List.mem_append_right _ (List.mem_append_right _ (List.mem_append_right _ (List.mem_append_left _ (List.mem_of_getElem? (i := 42) rfl))))) rfl
theorem mw_523 : (Jvm.Cond.constant "java/lang/Integer" (265 : Nat) (1431655765 : Int32)) ∈ T0 := T0_in (List.mem_append_right _ (List.mem_append_right _ (List.mem_append_right _ (List.mem_append_left _ (List.mem_of_getElem? (i := 43) (by decide +kernel)))))) rfl
theorem mw_524 : (Jvm.Cond.constant "java/lang/Integer" (266 : Nat) (858993459 : Int32)) ∈ T0 := T0_in (List.mem_append_right _ (List.mem_append_right _ (List.mem_append_right _ (List.mem_append_left _ (List.mem_of_getElem? (i := 44) (by decide +kernel)))))) rfl
theorem mw_525 : (Jvm.Cond.constant "java/lang/Integer" (267 : Nat) (252645135 : Int32)) ∈ T0 := T0_in (List.mem_append_right _ (List.mem_append_right _ (List.mem_append_right _ (List.mem_append_left _ (List.mem_of_getElem? (i := 45) (by decide +kernel)))))) rfl
theorem mw_526 : (Jvm.Cond.methodLink "MaterialBars" (203 : Nat) ({ cls := "MaterialBars", name := "eachMayBeDone", desc := "(LMaterialBars$Piece;I)Z" } : Jvm.MethodName)) ∈ T0 := T0_in (List.mem_append_right _ (List.mem_append_right _ (List.mem_append_right _ (List.mem_append_left _ (List.mem_of_getElem? (i := 46) (by decide +kernel)))))) rfl
theorem mw_528 : (Jvm.Cond.instanceMethod ({ cls := "MaterialBars", name := "eachMayBeDone", desc := "(LMaterialBars$Piece;I)Z" } : Jvm.MethodName)) ∈ T0 := T0_in (List.mem_append_right _ (List.mem_append_right _ (List.mem_append_right _ (List.mem_append_left _ (List.mem_of_getElem? (i := 48) (by decide +kernel)))))) rfl
theorem mw_529 : (Jvm.Cond.code ({ cls := "MaterialBars", name := "eachMayBeDone", desc := "(LMaterialBars$Piece;I)Z" } : Jvm.MethodName) prog_1_method_34_code (4 : Nat) (Option.some Jvm.ClassFile.FieldType.boolean)) ∈ T0 := T0_in (List.mem_append_right _ (List.mem_append_right _ (List.mem_append_right _ (List.mem_append_left _ (List.mem_of_getElem? (i := 49) rfl))))) rfl
theorem mw_530 : (Jvm.Cond.methodLink "MaterialBars" (259 : Nat) ({ cls := "MaterialBars", name := "mayBeDone", desc := "(LMaterialBars$Piece;I)Z" } : Jvm.MethodName)) ∈ T0 := T0_in (List.mem_append_right _ (List.mem_append_right _ (List.mem_append_right _ (List.mem_append_left _ (List.mem_of_getElem? (i := 50) (by decide +kernel)))))) rfl
theorem mw_532 : (Jvm.Cond.instanceMethod ({ cls := "MaterialBars", name := "mayBeDone", desc := "(LMaterialBars$Piece;I)Z" } : Jvm.MethodName)) ∈ T0 := T0_in (List.mem_append_right _ (List.mem_append_right _ (List.mem_append_right _ (List.mem_append_left _ (List.mem_of_getElem? (i := 52) (by decide +kernel)))))) rfl
theorem mw_533 : (Jvm.Cond.code ({ cls := "MaterialBars", name := "mayBeDone", desc := "(LMaterialBars$Piece;I)Z" } : Jvm.MethodName) prog_1_method_35_code (3 : Nat) (Option.some Jvm.ClassFile.FieldType.boolean)) ∈ T0 := T0_in (List.mem_append_right _ (List.mem_append_right _ (List.mem_append_right _ (List.mem_append_left _ (List.mem_of_getElem? (i := 53) rfl))))) rfl
theorem mw_534 : (Jvm.Cond.methodLink "MaterialBars" (207 : Nat) ({ cls := "MaterialBars", name := "putInOrder", desc := "(II)Z" } : Jvm.MethodName)) ∈ T0 := T0_in (List.mem_append_right _ (List.mem_append_right _ (List.mem_append_right _ (List.mem_append_left _ (List.mem_of_getElem? (i := 54) (by decide +kernel)))))) rfl
theorem mw_536 : (Jvm.Cond.instanceMethod ({ cls := "MaterialBars", name := "putInOrder", desc := "(II)Z" } : Jvm.MethodName)) ∈ T0 := T0_in (List.mem_append_right _ (List.mem_append_right _ (List.mem_append_right _ (List.mem_append_left _ (List.mem_of_getElem? (i := 56) (by decide +kernel)))))) rfl
theorem mw_537 : (Jvm.Cond.code ({ cls := "MaterialBars", name := "putInOrder", desc := "(II)Z" } : Jvm.MethodName) prog_1_method_36_code (6 : Nat) (Option.some Jvm.ClassFile.FieldType.boolean)) ∈ T0 := T0_in (List.mem_append_right _ (List.mem_append_right _ (List.mem_append_right _ (List.mem_append_left _ (List.mem_of_getElem? (i := 57) rfl))))) rfl
theorem mw_538 : (Jvm.Cond.methodLink "MaterialBars" (262 : Nat) ({ cls := "MaterialBars", name := "lowestThatMayComeNext", desc := "(I)I" } : Jvm.MethodName)) ∈ T0 := T0_in (List.mem_append_right _ (List.mem_append_right _ (List.mem_append_right _ (List.mem_append_left _ (List.mem_of_getElem? (i := 58) (by decide +kernel)))))) rfl
theorem mw_540 : (Jvm.Cond.instanceMethod ({ cls := "MaterialBars", name := "lowestThatMayComeNext", desc := "(I)I" } : Jvm.MethodName)) ∈ T0 := T0_in (List.mem_append_right _ (List.mem_append_right _ (List.mem_append_right _ (List.mem_append_left _ (List.mem_of_getElem? (i := 60) (by decide +kernel)))))) rfl
theorem mw_541 : (Jvm.Cond.code ({ cls := "MaterialBars", name := "lowestThatMayComeNext", desc := "(I)I" } : Jvm.MethodName) prog_1_method_37_code (3 : Nat) (Option.some Jvm.ClassFile.FieldType.int)) ∈ T0 := T0_in (List.mem_append_right _ (List.mem_append_right _ (List.mem_append_right _ (List.mem_append_left _ (List.mem_of_getElem? (i := 61) rfl))))) rfl
theorem mw_542 : (Jvm.Cond.methodLink "MaterialBars" (265 : Nat) ({ cls := "MaterialBars", name := "hasToWait", desc := "(II)Z" } : Jvm.MethodName)) ∈ T0 := T0_in (List.mem_append_right _ (List.mem_append_right _ (List.mem_append_right _ (List.mem_append_left _ (List.mem_of_getElem? (i := 62) (by decide +kernel)))))) rfl
theorem mw_544 : (Jvm.Cond.instanceMethod ({ cls := "MaterialBars", name := "hasToWait", desc := "(II)Z" } : Jvm.MethodName)) ∈ T0 := T0_in (List.mem_append_right _ (List.mem_append_right _ (List.mem_append_right _ (List.mem_append_left _ (List.mem_of_getElem? (i := 64) (by decide +kernel)))))) rfl
theorem mw_545 : (Jvm.Cond.code ({ cls := "MaterialBars", name := "hasToWait", desc := "(II)Z" } : Jvm.MethodName) prog_1_method_38_code (4 : Nat) (Option.some Jvm.ClassFile.FieldType.boolean)) ∈ T0 := T0_in (List.mem_append_right _ (List.mem_append_right _ (List.mem_append_right _ (List.mem_append_left _ (List.mem_of_getElem? (i := 65) rfl))))) rfl
theorem mw_546 : (Jvm.Cond.methodLink "MaterialBars" (210 : Nat) ({ cls := "java/lang/System", name := "arraycopy", desc := "(Ljava/lang/Object;ILjava/lang/Object;II)V" } : Jvm.MethodName)) ∈ T0 := T0_in (List.mem_append_right _ (List.mem_append_right _ (List.mem_append_right _ (List.mem_append_left _ (List.mem_of_getElem? (i := 66) (by decide +kernel)))))) rfl
theorem mw_547 : (Jvm.Cond.static ({ cls := "java/lang/System", name := "arraycopy", desc := "(Ljava/lang/Object;ILjava/lang/Object;II)V" } : Jvm.MethodName)) ∈ T0 := T0_in (List.mem_append_right _ (List.mem_append_right _ (List.mem_append_right _ (List.mem_append_left _ (List.mem_of_getElem? (i := 67) (by decide +kernel)))))) rfl
theorem mw_548 : (Jvm.Cond.native ({ cls := "java/lang/System", name := "arraycopy", desc := "(Ljava/lang/Object;ILjava/lang/Object;II)V" } : Jvm.MethodName)) ∈ T0 := T0_in (List.mem_append_right _ (List.mem_append_right _ (List.mem_append_right _ (List.mem_append_left _ (List.mem_of_getElem? (i := 68) (by decide +kernel)))))) rfl
theorem mw_549 : (Jvm.Cond.methodLink "MaterialBarsLaw" (136 : Nat) ({ cls := "MaterialBarsLaw", name := "step", desc := "(LMaterialBars;I[J)I" } : Jvm.MethodName)) ∈ T0 := T0_in (List.mem_append_right _ (List.mem_append_right _ (List.mem_append_right _ (List.mem_append_left _ (List.mem_of_getElem? (i := 69) (by decide +kernel)))))) rfl
theorem mw_550 : (Jvm.Cond.static ({ cls := "MaterialBarsLaw", name := "step", desc := "(LMaterialBars;I[J)I" } : Jvm.MethodName)) ∈ T0 := T0_in (List.mem_append_right _ (List.mem_append_right _ (List.mem_append_right _ (List.mem_append_left _ (List.mem_of_getElem? (i := 70) (by decide +kernel)))))) rfl
theorem mw_551 : (Jvm.Cond.codeWith ({ cls := "MaterialBarsLaw", name := "step", desc := "(LMaterialBars;I[J)I" } : Jvm.MethodName) method_18_code (4 : Nat) (Option.some Jvm.ClassFile.FieldType.int) [((0 : Nat), (9 : Nat), (12 : Nat), (25 : Nat))]) ∈ T0 := T0_in (List.mem_append_right _ (List.mem_append_right _ (List.mem_append_right _ (List.mem_append_left _ (List.mem_of_getElem? (i := 71) rfl))))) rfl
theorem mw_552 : (Jvm.Cond.methodLink "MaterialBarsLaw" (69 : Nat) ({ cls := "MaterialBars", name := "step", desc := "(I)I" } : Jvm.MethodName)) ∈ T0 := T0_in (List.mem_append_right _ (List.mem_append_right _ (List.mem_append_right _ (List.mem_append_left _ (List.mem_of_getElem? (i := 72) (by decide +kernel)))))) rfl
theorem mw_553 : (Jvm.Cond.instanceMethod ({ cls := "MaterialBars", name := "step", desc := "(I)I" } : Jvm.MethodName)) ∈ T0 := T0_in (List.mem_append_right _ (List.mem_append_right _ (List.mem_append_right _ (List.mem_append_left _ (List.mem_of_getElem? (i := 73) (by decide +kernel)))))) rfl
theorem mw_554 : (Jvm.Cond.selects "MaterialBars" ({ cls := "MaterialBars", name := "step", desc := "(I)I" } : Jvm.MethodName) ({ cls := "MaterialBars", name := "step", desc := "(I)I" } : Jvm.MethodName)) ∈ T0 := T0_in (List.mem_append_right _ (List.mem_append_right _ (List.mem_append_right _ (List.mem_append_left _ (List.mem_of_getElem? (i := 74) (by decide +kernel)))))) rfl
theorem mw_555 : (Jvm.Cond.code ({ cls := "MaterialBars", name := "step", desc := "(I)I" } : Jvm.MethodName) prog_1_method_17_code (2 : Nat) (Option.some Jvm.ClassFile.FieldType.int)) ∈ T0 := T0_in (List.mem_append_right _ (List.mem_append_right _ (List.mem_append_right _ (List.mem_append_left _ (List.mem_of_getElem? (i := 75) rfl))))) rfl
theorem mw_556 : (Jvm.Cond.methodLink "MaterialBarsLaw" (139 : Nat) ({ cls := "MaterialBarsLaw", name := "count", desc := "(LMaterialBars;I[J)I" } : Jvm.MethodName)) ∈ T0 := T0_in (List.mem_append_right _ (List.mem_append_right _ (List.mem_append_right _ (List.mem_append_left _ (List.mem_of_getElem? (i := 76) (by decide +kernel)))))) rfl
theorem mw_557 : (Jvm.Cond.static ({ cls := "MaterialBarsLaw", name := "count", desc := "(LMaterialBars;I[J)I" } : Jvm.MethodName)) ∈ T0 := T0_in (List.mem_append_right _ (List.mem_append_right _ (List.mem_append_right _ (List.mem_append_left _ (List.mem_of_getElem? (i := 77) (by decide +kernel)))))) rfl
theorem mw_558 : (Jvm.Cond.codeWith ({ cls := "MaterialBarsLaw", name := "count", desc := "(LMaterialBars;I[J)I" } : Jvm.MethodName) method_19_code (4 : Nat) (Option.some Jvm.ClassFile.FieldType.int) [((0 : Nat), (9 : Nat), (12 : Nat), (25 : Nat))]) ∈ T0 := T0_in (List.mem_append_right _ (List.mem_append_right _ (List.mem_append_right _ (List.mem_append_left _ (List.mem_of_getElem? (i := 78) rfl))))) rfl
theorem mw_559 : (Jvm.Cond.methodLink "MaterialBarsLaw" (72 : Nat) ({ cls := "MaterialBars", name := "count", desc := "(I)I" } : Jvm.MethodName)) ∈ T0 := T0_in (List.mem_append_right _ (List.mem_append_right _ (List.mem_append_right _ (List.mem_append_left _ (List.mem_of_getElem? (i := 79) (by decide +kernel)))))) rfl
theorem mw_560 : (Jvm.Cond.instanceMethod ({ cls := "MaterialBars", name := "count", desc := "(I)I" } : Jvm.MethodName)) ∈ T0 := T0_in (List.mem_append_right _ (List.mem_append_right _ (List.mem_append_right _ (List.mem_append_left _ (List.mem_of_getElem? (i := 80) (by decide +kernel)))))) rfl
theorem mw_561 : (Jvm.Cond.selects "MaterialBars" ({ cls := "MaterialBars", name := "count", desc := "(I)I" } : Jvm.MethodName) ({ cls := "MaterialBars", name := "count", desc := "(I)I" } : Jvm.MethodName)) ∈ T0 := T0_in (List.mem_append_right _ (List.mem_append_right _ (List.mem_append_right _ (List.mem_append_left _ (List.mem_of_getElem? (i := 81) (by decide +kernel)))))) rfl
theorem mw_562 : (Jvm.Cond.code ({ cls := "MaterialBars", name := "count", desc := "(I)I" } : Jvm.MethodName) prog_1_method_18_code (2 : Nat) (Option.some Jvm.ClassFile.FieldType.int)) ∈ T0 := T0_in (List.mem_append_right _ (List.mem_append_right _ (List.mem_append_right _ (List.mem_append_left _ (List.mem_of_getElem? (i := 82) rfl))))) rfl
theorem mw_563 : (Jvm.Cond.methodLink "MaterialBars" (219 : Nat) ({ cls := "MaterialBars", name := "rowsOfAll", desc := "()I" } : Jvm.MethodName)) ∈ T0 := T0_in (List.mem_append_right _ (List.mem_append_right _ (List.mem_append_right _ (List.mem_append_left _ (List.mem_of_getElem? (i := 83) (by decide +kernel)))))) rfl
theorem mw_565 : (Jvm.Cond.instanceMethod ({ cls := "MaterialBars", name := "rowsOfAll", desc := "()I" } : Jvm.MethodName)) ∈ T0 := T0_in (List.mem_append_right _ (List.mem_append_right _ (List.mem_append_right _ (List.mem_append_left _ (List.mem_of_getElem? (i := 85) (by decide +kernel)))))) rfl
theorem mw_566 : (Jvm.Cond.code ({ cls := "MaterialBars", name := "rowsOfAll", desc := "()I" } : Jvm.MethodName) prog_1_method_32_code (3 : Nat) (Option.some Jvm.ClassFile.FieldType.int)) ∈ T0 := T0_in (List.mem_append_right _ (List.mem_append_right _ (List.mem_append_right _ (List.mem_append_left _ (List.mem_of_getElem? (i := 86) rfl))))) rfl
theorem mw_567 : (Jvm.Cond.classLink "MaterialBarsLaw" (76 : Nat) "MaterialBarsModel") ∈ T0 := T0_in (List.mem_append_right _ (List.mem_append_right _ (List.mem_append_right _ (List.mem_append_left _ (List.mem_of_getElem? (i := 87) (by decide +kernel)))))) rfl
theorem mw_568 : (Jvm.Cond.instantiable "MaterialBarsModel" (27 : Nat)) ∈ T0 := T0_in (List.mem_append_right _ (List.mem_append_right _ (List.mem_append_right _ (List.mem_append_left _ (List.mem_of_getElem? (i := 88) (by decide +kernel)))))) rfl
theorem mw_569 : (Jvm.Cond.methodLink "MaterialBarsLaw" (78 : Nat) ({ cls := "MaterialBarsModel", name := "<init>", desc := "()V" } : Jvm.MethodName)) ∈ T0 := T0_in (List.mem_append_right _ (List.mem_append_right _ (List.mem_append_right _ (List.mem_append_left _ (List.mem_of_getElem? (i := 89) (by decide +kernel)))))) rfl
theorem mw_570 : (Jvm.Cond.instanceMethod ({ cls := "MaterialBarsModel", name := "<init>", desc := "()V" } : Jvm.MethodName)) ∈ T0 := T0_in (List.mem_append_right _ (List.mem_append_right _ (List.mem_append_right _ (List.mem_append_left _ (List.mem_of_getElem? (i := 90) (by decide +kernel)))))) rfl
theorem mw_571 : (Jvm.Cond.code ({ cls := "MaterialBarsModel", name := "<init>", desc := "()V" } : Jvm.MethodName) prog_7_method_1_code (2 : Nat) (Option.none : Option Jvm.ClassFile.FieldType)) ∈ T0 := T0_in (List.mem_append_right _ (List.mem_append_right _ (List.mem_append_right _ (List.mem_append_left _ (List.mem_of_getElem? (i := 91) rfl))))) rfl
theorem mw_572 : (Jvm.Cond.methodLink "MaterialBarsModel" (1 : Nat) ({ cls := "java/lang/Object", name := "<init>", desc := "()V" } : Jvm.MethodName)) ∈ T0 := T0_in (List.mem_append_right _ (List.mem_append_right _ (List.mem_append_right _ (List.mem_append_left _ (List.mem_of_getElem? (i := 92) (by decide +kernel)))))) rfl
theorem mw_573 : (Jvm.Cond.fieldLink "MaterialBarsModel" (78 : Nat) "MaterialBarsModel" "thrown" "I") ∈ T0 := T0_in (List.mem_append_right _ (List.mem_append_right _ (List.mem_append_right _ (List.mem_append_left _ (List.mem_of_getElem? (i := 93) (by decide +kernel)))))) rfl
theorem mw_574 : (Jvm.Cond.fieldLink "MaterialBarsModel" (82 : Nat) "MaterialBarsModel" "padded" "I") ∈ T0 := T0_in (List.mem_append_right _ (List.mem_append_right _ (List.mem_append_right _ (List.mem_append_left _ (List.mem_of_getElem? (i := 94) (by decide +kernel)))))) rfl
theorem mw_575 : (Jvm.Cond.fieldLink "MaterialBarsModel" (7 : Nat) "MaterialBarsModel" "pad" "[I") ∈ T0 := T0_in (List.mem_append_right _ (List.mem_append_right _ (List.mem_append_right _ (List.mem_append_left _ (List.mem_of_getElem? (i := 95) (by decide +kernel)))))) rfl
theorem mw_576 : (Jvm.Cond.fieldLink "MaterialBarsModel" (89 : Nat) "MaterialBarsModel" "methods" "I") ∈ T0 := T0_in (List.mem_append_right _ (List.mem_append_right _ (List.mem_append_right _ (List.mem_append_left _ (List.mem_of_getElem? (i := 96) (by decide +kernel)))))) rfl
theorem mw_577 : (Jvm.Cond.fieldLink "MaterialBarsModel" (13 : Nat) "MaterialBarsModel" "many" "[I") ∈ T0 := T0_in (List.mem_append_right _ (List.mem_append_right _ (List.mem_append_right _ (List.mem_append_left _ (List.mem_of_getElem? (i := 97) (by decide +kernel)))))) rfl
theorem mw_578 : (Jvm.Cond.fieldLink "MaterialBarsModel" (16 : Nat) "MaterialBarsModel" "letters" "[I") ∈ T0 := T0_in (List.mem_append_right _ (List.mem_append_right _ (List.mem_append_right _ (List.mem_append_left _ (List.mem_of_getElem? (i := 98) (by decide +kernel)))))) rfl
theorem mw_579 : (Jvm.Cond.fieldLink "MaterialBarsModel" (19 : Nat) "MaterialBarsModel" "firsts" "[I") ∈ T0 := T0_in (List.mem_append_right _ (List.mem_append_right _ (List.mem_append_right _ (List.mem_append_left _ (List.mem_of_getElem? (i := 99) (by decide +kernel)))))) rfl
theorem mw_580 : (Jvm.Cond.fieldLink "MaterialBarsModel" (22 : Nat) "MaterialBarsModel" "seconds" "[I") ∈ T0 := T0_in (List.mem_append_right _ (List.mem_append_right _ (List.mem_append_right _ (List.mem_append_left _ (List.mem_of_getElem? (i := 100) (by decide +kernel)))))) rfl
theorem mw_581 : (Jvm.Cond.fieldLink "MaterialBarsModel" (25 : Nat) "MaterialBarsModel" "trials" "[Z") ∈ T0 := T0_in (List.mem_append_right _ (List.mem_append_right _ (List.mem_append_right _ (List.mem_append_left _ (List.mem_of_getElem? (i := 101) (by decide +kernel)))))) rfl
theorem mw_582 : (Jvm.Cond.fieldLink "MaterialBarsModel" (29 : Nat) "MaterialBarsModel" "rights" "[Z") ∈ T0 := T0_in (List.mem_append_right _ (List.mem_append_right _ (List.mem_append_right _ (List.mem_append_left _ (List.mem_of_getElem? (i := 102) (by decide +kernel)))))) rfl
theorem mw_583 : (Jvm.Cond.fieldLink "MaterialBarsModel" (115 : Nat) "MaterialBarsModel" "objects" "I") ∈ T0 := T0_in (List.mem_append_right _ (List.mem_append_right _ (List.mem_append_right _ (List.mem_append_left _ (List.mem_of_getElem? (i := 103) (by decide +kernel)))))) rfl
theorem mw_584 : (Jvm.Cond.fieldLink "MaterialBarsModel" (32 : Nat) "MaterialBarsModel" "parts" "[I") ∈ T0 := T0_in (List.mem_append_right _ (List.mem_append_right _ (List.mem_append_right _ (List.mem_append_left _ (List.mem_of_getElem? (i := 104) (by decide +kernel)))))) rfl
theorem mw_585 : (Jvm.Cond.fieldLink "MaterialBarsModel" (35 : Nat) "MaterialBarsModel" "materials" "[I") ∈ T0 := T0_in (List.mem_append_right _ (List.mem_append_right _ (List.mem_append_right _ (List.mem_append_left _ (List.mem_of_getElem? (i := 105) (by decide +kernel)))))) rfl
theorem mw_586 : (Jvm.Cond.fieldLink "MaterialBarsModel" (38 : Nat) "MaterialBarsModel" "rows" "[I") ∈ T0 := T0_in (List.mem_append_right _ (List.mem_append_right _ (List.mem_append_right _ (List.mem_append_left _ (List.mem_of_getElem? (i := 106) (by decide +kernel)))))) rfl
theorem mw_587 : (Jvm.Cond.fieldLink "MaterialBarsModel" (41 : Nat) "MaterialBarsModel" "rowMethods" "[I") ∈ T0 := T0_in (List.mem_append_right _ (List.mem_append_right _ (List.mem_append_right _ (List.mem_append_left _ (List.mem_of_getElem? (i := 107) (by decide +kernel)))))) rfl
theorem mw_588 : (Jvm.Cond.fieldLink "MaterialBarsModel" (44 : Nat) "MaterialBarsModel" "rowHours" "[I") ∈ T0 := T0_in (List.mem_append_right _ (List.mem_append_right _ (List.mem_append_right _ (List.mem_append_left _ (List.mem_of_getElem? (i := 108) (by decide +kernel)))))) rfl
theorem mw_589 : (Jvm.Cond.fieldLink "MaterialBarsModel" (47 : Nat) "MaterialBarsModel" "rowPersons" "[I") ∈ T0 := T0_in (List.mem_append_right _ (List.mem_append_right _ (List.mem_append_right _ (List.mem_append_left _ (List.mem_of_getElem? (i := 109) (by decide +kernel)))))) rfl
theorem mw_590 : (Jvm.Cond.fieldLink "MaterialBarsModel" (50 : Nat) "MaterialBarsModel" "rowSeconds" "[I") ∈ T0 := T0_in (List.mem_append_right _ (List.mem_append_right _ (List.mem_append_right _ (List.mem_append_left _ (List.mem_of_getElem? (i := 110) (by decide +kernel)))))) rfl
theorem mw_591 : (Jvm.Cond.fieldLink "MaterialBarsModel" (53 : Nat) "MaterialBarsModel" "stocks" "[I") ∈ T0 := T0_in (List.mem_append_right _ (List.mem_append_right _ (List.mem_append_right _ (List.mem_append_left _ (List.mem_of_getElem? (i := 111) (by decide +kernel)))))) rfl
theorem mw_592 : (Jvm.Cond.fieldLink "MaterialBarsModel" (56 : Nat) "MaterialBarsModel" "came" "[J") ∈ T0 := T0_in (List.mem_append_right _ (List.mem_append_right _ (List.mem_append_right _ (List.mem_append_left _ (List.mem_of_getElem? (i := 112) (by decide +kernel)))))) rfl
theorem mw_593 : (Jvm.Cond.fieldLink "MaterialBarsModel" (60 : Nat) "MaterialBarsModel" "went" "[J") ∈ T0 := T0_in (List.mem_append_right _ (List.mem_append_right _ (List.mem_append_right _ (List.mem_append_left _ (List.mem_of_getElem? (i := 113) (by decide +kernel)))))) rfl
theorem mw_594 : (Jvm.Cond.fieldLink "MaterialBarsModel" (63 : Nat) "MaterialBarsModel" "shelves" "[I") ∈ T0 := T0_in (List.mem_append_right _ (List.mem_append_right _ (List.mem_append_right _ (List.mem_append_left _ (List.mem_of_getElem? (i := 114) (by decide +kernel)))))) rfl
theorem mw_595 : (Jvm.Cond.fieldLink "MaterialBarsModel" (66 : Nat) "MaterialBarsModel" "apart" "[Z") ∈ T0 := T0_in (List.mem_append_right _ (List.mem_append_right _ (List.mem_append_right _ (List.mem_append_left _ (List.mem_of_getElem? (i := 115) (by decide +kernel)))))) rfl
theorem mw_596 : (Jvm.Cond.fieldLink "MaterialBarsModel" (159 : Nat) "MaterialBarsModel" "steps" "I") ∈ T0 := T0_in (List.mem_append_right _ (List.mem_append_right _ (List.mem_append_right _ (List.mem_append_left _ (List.mem_of_getElem? (i := 116) (by decide +kernel)))))) rfl
theorem mw_597 : (Jvm.Cond.fieldLink "MaterialBarsModel" (69 : Nat) "MaterialBarsModel" "plan" "[I") ∈ T0 := T0_in (List.mem_append_right _ (List.mem_append_right _ (List.mem_append_right _ (List.mem_append_left _ (List.mem_of_getElem? (i := 117) (by decide +kernel)))))) rfl
theorem mw_598 : (Jvm.Cond.fieldLink "MaterialBarsModel" (72 : Nat) "MaterialBarsModel" "chosen" "[I") ∈ T0 := T0_in (List.mem_append_right _ (List.mem_append_right _ (List.mem_append_right _ (List.mem_append_left _ (List.mem_of_getElem? (i := 118) (by decide +kernel)))))) rfl
theorem mw_599 : (Jvm.Cond.fieldLink "MaterialBarsModel" (75 : Nat) "MaterialBarsModel" "ends" "[Z") ∈ T0 := T0_in (List.mem_append_right _ (List.mem_append_right _ (List.mem_append_right _ (List.mem_append_left _ (List.mem_of_getElem? (i := 119) (by decide +kernel)))))) rfl
theorem mw_600 : (Jvm.Cond.lays "MaterialBarsModel" "MaterialBarsModel" "thrown" "I") ∈ T0 := T0_in (List.mem_append_right _ (List.mem_append_right _ (List.mem_append_right _ (List.mem_append_left _ (List.mem_of_getElem? (i := 120) (by decide +kernel)))))) rfl
theorem mw_601 : (Jvm.Cond.soleField "MaterialBarsModel" "thrown") ∈ T0 := T0_in (List.mem_append_right _ (List.mem_append_right _ (List.mem_append_right _ (List.mem_append_left _ (List.mem_of_getElem? (i := 121) (by decide +kernel)))))) rfl
theorem mw_602 : (Jvm.Cond.lays "MaterialBarsModel" "MaterialBarsModel" "padded" "I") ∈ T0 := T0_in (List.mem_append_right _ (List.mem_append_right _ (List.mem_append_right _ (List.mem_append_left _ (List.mem_of_getElem? (i := 122) (by decide +kernel)))))) rfl
theorem mw_603 : (Jvm.Cond.soleField "MaterialBarsModel" "padded") ∈ T0 := T0_in (List.mem_append_right _ (List.mem_append_right _ (List.mem_append_right _ (List.mem_append_left _ (List.mem_of_getElem? (i := 123) (by decide +kernel)))))) rfl
theorem mw_604 : (Jvm.Cond.laysFinal "MaterialBarsModel" "MaterialBarsModel" "pad" "[I") ∈ T0 := T0_in (List.mem_append_right _ (List.mem_append_right _ (List.mem_append_right _ (List.mem_append_left _ (List.mem_of_getElem? (i := 124) (by decide +kernel)))))) rfl
theorem mw_605 : (Jvm.Cond.soleField "MaterialBarsModel" "pad") ∈ T0 := T0_in (List.mem_append_right _ (List.mem_append_right _ (List.mem_append_right _ (List.mem_append_left _ (List.mem_of_getElem? (i := 125) (by decide +kernel)))))) rfl
theorem mw_606 : (Jvm.Cond.lays "MaterialBarsModel" "MaterialBarsModel" "methods" "I") ∈ T0 := T0_in (List.mem_append_right _ (List.mem_append_right _ (List.mem_append_right _ (List.mem_append_left _ (List.mem_of_getElem? (i := 126) (by decide +kernel)))))) rfl
theorem mw_607 : (Jvm.Cond.soleField "MaterialBarsModel" "methods") ∈ T0 := T0_in (List.mem_append_right _ (List.mem_append_right _ (List.mem_append_right _ (List.mem_append_left _ (List.mem_of_getElem? (i := 127) (by decide +kernel)))))) rfl
theorem mw_608 : (Jvm.Cond.laysFinal "MaterialBarsModel" "MaterialBarsModel" "many" "[I") ∈ T0 := T0_in (List.mem_append_right _ (List.mem_append_right _ (List.mem_append_right _ (List.mem_append_left _ (List.mem_of_getElem? (i := 128) (by decide +kernel)))))) rfl
theorem mw_609 : (Jvm.Cond.soleField "MaterialBarsModel" "many") ∈ T0 := T0_in (List.mem_append_right _ (List.mem_append_right _ (List.mem_append_right _ (List.mem_append_left _ (List.mem_of_getElem? (i := 129) (by decide +kernel)))))) rfl
theorem mw_610 : (Jvm.Cond.laysFinal "MaterialBarsModel" "MaterialBarsModel" "letters" "[I") ∈ T0 := T0_in (List.mem_append_right _ (List.mem_append_right _ (List.mem_append_right _ (List.mem_append_left _ (List.mem_of_getElem? (i := 130) (by decide +kernel)))))) rfl
theorem mw_611 : (Jvm.Cond.soleField "MaterialBarsModel" "letters") ∈ T0 := T0_in (List.mem_append_right _ (List.mem_append_right _ (List.mem_append_right _ (List.mem_append_left _ (List.mem_of_getElem? (i := 131) (by decide +kernel)))))) rfl
theorem mw_612 : (Jvm.Cond.laysFinal "MaterialBarsModel" "MaterialBarsModel" "firsts" "[I") ∈ T0 := T0_in (List.mem_append_right _ (List.mem_append_right _ (List.mem_append_right _ (List.mem_append_left _ (List.mem_of_getElem? (i := 132) (by decide +kernel)))))) rfl
theorem mw_613 : (Jvm.Cond.soleField "MaterialBarsModel" "firsts") ∈ T0 := T0_in (List.mem_append_right _ (List.mem_append_right _ (List.mem_append_right _ (List.mem_append_left _ (List.mem_of_getElem? (i := 133) (by decide +kernel)))))) rfl
theorem mw_614 : (Jvm.Cond.laysFinal "MaterialBarsModel" "MaterialBarsModel" "seconds" "[I") ∈ T0 := T0_in (List.mem_append_right _ (List.mem_append_right _ (List.mem_append_right _ (List.mem_append_left _ (List.mem_of_getElem? (i := 134) (by decide +kernel)))))) rfl
theorem mw_615 : (Jvm.Cond.soleField "MaterialBarsModel" "seconds") ∈ T0 := T0_in (List.mem_append_right _ (List.mem_append_right _ (List.mem_append_right _ (List.mem_append_left _ (List.mem_of_getElem? (i := 135) (by decide +kernel)))))) rfl
theorem mw_616 : (Jvm.Cond.laysFinal "MaterialBarsModel" "MaterialBarsModel" "trials" "[Z") ∈ T0 := T0_in (List.mem_append_right _ (List.mem_append_right _ (List.mem_append_right _ (List.mem_append_left _ (List.mem_of_getElem? (i := 136) (by decide +kernel)))))) rfl
theorem mw_617 : (Jvm.Cond.soleField "MaterialBarsModel" "trials") ∈ T0 := T0_in (List.mem_append_right _ (List.mem_append_right _ (List.mem_append_right _ (List.mem_append_left _ (List.mem_of_getElem? (i := 137) (by decide +kernel)))))) rfl
theorem mw_618 : (Jvm.Cond.laysFinal "MaterialBarsModel" "MaterialBarsModel" "rights" "[Z") ∈ T0 := T0_in (List.mem_append_right _ (List.mem_append_right _ (List.mem_append_right _ (List.mem_append_left _ (List.mem_of_getElem? (i := 138) (by decide +kernel)))))) rfl
theorem mw_619 : (Jvm.Cond.soleField "MaterialBarsModel" "rights") ∈ T0 := T0_in (List.mem_append_right _ (List.mem_append_right _ (List.mem_append_right _ (List.mem_append_left _ (List.mem_of_getElem? (i := 139) (by decide +kernel)))))) rfl
theorem mw_620 : (Jvm.Cond.lays "MaterialBarsModel" "MaterialBarsModel" "objects" "I") ∈ T0 := T0_in (List.mem_append_right _ (List.mem_append_right _ (List.mem_append_right _ (List.mem_append_left _ (List.mem_of_getElem? (i := 140) (by decide +kernel)))))) rfl
theorem mw_621 : (Jvm.Cond.soleField "MaterialBarsModel" "objects") ∈ T0 := T0_in (List.mem_append_right _ (List.mem_append_right _ (List.mem_append_right _ (List.mem_append_left _ (List.mem_of_getElem? (i := 141) (by decide +kernel)))))) rfl
theorem mw_622 : (Jvm.Cond.laysFinal "MaterialBarsModel" "MaterialBarsModel" "parts" "[I") ∈ T0 := T0_in (List.mem_append_right _ (List.mem_append_right _ (List.mem_append_right _ (List.mem_append_left _ (List.mem_of_getElem? (i := 142) (by decide +kernel)))))) rfl
theorem mw_623 : (Jvm.Cond.soleField "MaterialBarsModel" "parts") ∈ T0 := T0_in (List.mem_append_right _ (List.mem_append_right _ (List.mem_append_right _ (List.mem_append_left _ (List.mem_of_getElem? (i := 143) (by decide +kernel)))))) rfl
theorem mw_624 : (Jvm.Cond.laysFinal "MaterialBarsModel" "MaterialBarsModel" "materials" "[I") ∈ T0 := T0_in (List.mem_append_right _ (List.mem_append_right _ (List.mem_append_right _ (List.mem_append_left _ (List.mem_of_getElem? (i := 144) (by decide +kernel)))))) rfl
theorem mw_625 : (Jvm.Cond.soleField "MaterialBarsModel" "materials") ∈ T0 := T0_in (List.mem_append_right _ (List.mem_append_right _ (List.mem_append_right _ (List.mem_append_left _ (List.mem_of_getElem? (i := 145) (by decide +kernel)))))) rfl
theorem mw_626 : (Jvm.Cond.laysFinal "MaterialBarsModel" "MaterialBarsModel" "rows" "[I") ∈ T0 := T0_in (List.mem_append_right _ (List.mem_append_right _ (List.mem_append_right _ (List.mem_append_left _ (List.mem_of_getElem? (i := 146) (by decide +kernel)))))) rfl
theorem mw_627 : (Jvm.Cond.soleField "MaterialBarsModel" "rows") ∈ T0 := T0_in (List.mem_append_right _ (List.mem_append_right _ (List.mem_append_right _ (List.mem_append_left _ (List.mem_of_getElem? (i := 147) (by decide +kernel)))))) rfl
theorem mw_628 : (Jvm.Cond.laysFinal "MaterialBarsModel" "MaterialBarsModel" "rowMethods" "[I") ∈ T0 := T0_in (List.mem_append_right _ (List.mem_append_right _ (List.mem_append_right _ (List.mem_append_left _ (List.mem_of_getElem? (i := 148) (by decide +kernel)))))) rfl
theorem mw_629 : (Jvm.Cond.soleField "MaterialBarsModel" "rowMethods") ∈ T0 := T0_in (List.mem_append_right _ (List.mem_append_right _ (List.mem_append_right _ (List.mem_append_left _ (List.mem_of_getElem? (i := 149) (by decide +kernel)))))) rfl
theorem mw_630 : (Jvm.Cond.laysFinal "MaterialBarsModel" "MaterialBarsModel" "rowHours" "[I") ∈ T0 := T0_in (List.mem_append_right _ (List.mem_append_right _ (List.mem_append_right _ (List.mem_append_left _ (List.mem_of_getElem? (i := 150) (by decide +kernel)))))) rfl
theorem mw_631 : (Jvm.Cond.soleField "MaterialBarsModel" "rowHours") ∈ T0 := T0_in (List.mem_append_right _ (List.mem_append_right _ (List.mem_append_right _ (List.mem_append_left _ (List.mem_of_getElem? (i := 151) (by decide +kernel)))))) rfl
theorem mw_632 : (Jvm.Cond.laysFinal "MaterialBarsModel" "MaterialBarsModel" "rowPersons" "[I") ∈ T0 := T0_in (List.mem_append_right _ (List.mem_append_right _ (List.mem_append_right _ (List.mem_append_left _ (List.mem_of_getElem? (i := 152) (by decide +kernel)))))) rfl
theorem mw_633 : (Jvm.Cond.soleField "MaterialBarsModel" "rowPersons") ∈ T0 := T0_in (List.mem_append_right _ (List.mem_append_right _ (List.mem_append_right _ (List.mem_append_left _ (List.mem_of_getElem? (i := 153) (by decide +kernel)))))) rfl
theorem mw_634 : (Jvm.Cond.laysFinal "MaterialBarsModel" "MaterialBarsModel" "rowSeconds" "[I") ∈ T0 := T0_in (List.mem_append_right _ (List.mem_append_right _ (List.mem_append_right _ (List.mem_append_left _ (List.mem_of_getElem? (i := 154) (by decide +kernel)))))) rfl
theorem mw_635 : (Jvm.Cond.soleField "MaterialBarsModel" "rowSeconds") ∈ T0 := T0_in (List.mem_append_right _ (List.mem_append_right _ (List.mem_append_right _ (List.mem_append_left _ (List.mem_of_getElem? (i := 155) (by decide +kernel)))))) rfl
theorem mw_636 : (Jvm.Cond.laysFinal "MaterialBarsModel" "MaterialBarsModel" "stocks" "[I") ∈ T0 := T0_in (List.mem_append_right _ (List.mem_append_right _ (List.mem_append_right _ (List.mem_append_left _ (List.mem_of_getElem? (i := 156) (by decide +kernel)))))) rfl
theorem mw_637 : (Jvm.Cond.soleField "MaterialBarsModel" "stocks") ∈ T0 := T0_in (List.mem_append_right _ (List.mem_append_right _ (List.mem_append_right _ (List.mem_append_left _ (List.mem_of_getElem? (i := 157) (by decide +kernel)))))) rfl
theorem mw_638 : (Jvm.Cond.laysFinal "MaterialBarsModel" "MaterialBarsModel" "came" "[J") ∈ T0 := T0_in (List.mem_append_right _ (List.mem_append_right _ (List.mem_append_right _ (List.mem_append_left _ (List.mem_of_getElem? (i := 158) (by decide +kernel)))))) rfl
theorem mw_639 : (Jvm.Cond.soleField "MaterialBarsModel" "came") ∈ T0 := T0_in (List.mem_append_right _ (List.mem_append_right _ (List.mem_append_right _ (List.mem_append_left _ (List.mem_of_getElem? (i := 159) (by decide +kernel)))))) rfl
theorem mw_640 : (Jvm.Cond.laysFinal "MaterialBarsModel" "MaterialBarsModel" "went" "[J") ∈ T0 := T0_in (List.mem_append_right _ (List.mem_append_right _ (List.mem_append_right _ (List.mem_append_left _ (List.mem_of_getElem? (i := 160) (by decide +kernel)))))) rfl
theorem mw_641 : (Jvm.Cond.soleField "MaterialBarsModel" "went") ∈ T0 := T0_in (List.mem_append_right _ (List.mem_append_right _ (List.mem_append_right _ (List.mem_append_left _ (List.mem_of_getElem? (i := 161) (by decide +kernel)))))) rfl
theorem mw_642 : (Jvm.Cond.laysFinal "MaterialBarsModel" "MaterialBarsModel" "shelves" "[I") ∈ T0 := T0_in (List.mem_append_right _ (List.mem_append_right _ (List.mem_append_right _ (List.mem_append_left _ (List.mem_of_getElem? (i := 162) (by decide +kernel)))))) rfl
theorem mw_643 : (Jvm.Cond.soleField "MaterialBarsModel" "shelves") ∈ T0 := T0_in (List.mem_append_right _ (List.mem_append_right _ (List.mem_append_right _ (List.mem_append_left _ (List.mem_of_getElem? (i := 163) (by decide +kernel)))))) rfl
theorem mw_644 : (Jvm.Cond.laysFinal "MaterialBarsModel" "MaterialBarsModel" "apart" "[Z") ∈ T0 := T0_in (List.mem_append_right _ (List.mem_append_right _ (List.mem_append_right _ (List.mem_append_left _ (List.mem_of_getElem? (i := 164) (by decide +kernel)))))) rfl
theorem mw_645 : (Jvm.Cond.soleField "MaterialBarsModel" "apart") ∈ T0 := T0_in (List.mem_append_right _ (List.mem_append_right _ (List.mem_append_right _ (List.mem_append_left _ (List.mem_of_getElem? (i := 165) (by decide +kernel)))))) rfl
theorem mw_646 : (Jvm.Cond.lays "MaterialBarsModel" "MaterialBarsModel" "steps" "I") ∈ T0 := T0_in (List.mem_append_right _ (List.mem_append_right _ (List.mem_append_right _ (List.mem_append_left _ (List.mem_of_getElem? (i := 166) (by decide +kernel)))))) rfl
theorem mw_647 : (Jvm.Cond.soleField "MaterialBarsModel" "steps") ∈ T0 := T0_in (List.mem_append_right _ (List.mem_append_right _ (List.mem_append_right _ (List.mem_append_left _ (List.mem_of_getElem? (i := 167) (by decide +kernel)))))) rfl
theorem mw_648 : (Jvm.Cond.laysFinal "MaterialBarsModel" "MaterialBarsModel" "plan" "[I") ∈ T0 := T0_in (List.mem_append_right _ (List.mem_append_right _ (List.mem_append_right _ (List.mem_append_left _ (List.mem_of_getElem? (i := 168) (by decide +kernel)))))) rfl
theorem mw_649 : (Jvm.Cond.soleField "MaterialBarsModel" "plan") ∈ T0 := T0_in (List.mem_append_right _ (List.mem_append_right _ (List.mem_append_right _ (List.mem_append_left _ (List.mem_of_getElem? (i := 169) (by decide +kernel)))))) rfl
theorem mw_650 : (Jvm.Cond.laysFinal "MaterialBarsModel" "MaterialBarsModel" "chosen" "[I") ∈ T0 := T0_in (List.mem_append_right _ (List.mem_append_right _ (List.mem_append_right _ (List.mem_append_left _ (List.mem_of_getElem? (i := 170) (by decide +kernel)))))) rfl
theorem mw_651 : (Jvm.Cond.soleField "MaterialBarsModel" "chosen") ∈ T0 := T0_in (List.mem_append_right _ (List.mem_append_right _ (List.mem_append_right _ (List.mem_append_left _ (List.mem_of_getElem? (i := 171) (by decide +kernel)))))) rfl
theorem mw_652 : (Jvm.Cond.laysFinal "MaterialBarsModel" "MaterialBarsModel" "ends" "[Z") ∈ T0 := T0_in (List.mem_append_right _ (List.mem_append_right _ (List.mem_append_right _ (List.mem_append_left _ (List.mem_of_getElem? (i := 172) (by decide +kernel)))))) rfl
theorem mw_653 : (Jvm.Cond.soleField "MaterialBarsModel" "ends") ∈ T0 := T0_in (List.mem_append_right _ (List.mem_append_right _ (List.mem_append_right _ (List.mem_append_left _ (List.mem_of_getElem? (i := 173) (by decide +kernel)))))) rfl
theorem mw_654 : (Jvm.Cond.superclass "MaterialBarsModel" "java/lang/Object") ∈ T0 := T0_in (List.mem_append_right _ (List.mem_append_right _ (List.mem_append_right _ (List.mem_append_left _ (List.mem_of_getElem? (i := 174) (by decide +kernel)))))) rfl
theorem mw_655 : (Jvm.Cond.arrayClass Jvm.ClassFile.FieldType.boolean) ∈ T0 := T0_in (List.mem_append_right _ (List.mem_append_right _ (List.mem_append_right _ (List.mem_append_left _ (List.mem_of_getElem? (i := 175) (by decide +kernel)))))) rfl
theorem mw_656 : (Jvm.Cond.arrayClass Jvm.ClassFile.FieldType.long) ∈ T0 := T0_in (List.mem_append_right _ (List.mem_append_right _ (List.mem_append_right _ (List.mem_append_left _ (List.mem_of_getElem? (i := 176) (by decide +kernel)))))) rfl
theorem mw_657 : (Jvm.Cond.methodLink "MaterialBarsLaw" (85 : Nat) ({ cls := "MaterialBarsModel", name := "thrown", desc := "()I" } : Jvm.MethodName)) ∈ T0 := T0_in (List.mem_append_right _ (List.mem_append_right _ (List.mem_append_right _ (List.mem_append_left _ (List.mem_of_getElem? (i := 177) (by decide +kernel)))))) rfl
theorem mw_658 : (Jvm.Cond.instanceMethod ({ cls := "MaterialBarsModel", name := "thrown", desc := "()I" } : Jvm.MethodName)) ∈ T0 := T0_in (List.mem_append_right _ (List.mem_append_right _ (List.mem_append_right _ (List.mem_append_left _ (List.mem_of_getElem? (i := 178) (by decide +kernel)))))) rfl
theorem mw_659 : (Jvm.Cond.selects "MaterialBarsModel" ({ cls := "MaterialBarsModel", name := "thrown", desc := "()I" } : Jvm.MethodName) ({ cls := "MaterialBarsModel", name := "thrown", desc := "()I" } : Jvm.MethodName)) ∈ T0 := T0_in (List.mem_append_right _ (List.mem_append_right _ (List.mem_append_right _ (List.mem_append_left _ (List.mem_of_getElem? (i := 179) (by decide +kernel)))))) rfl
theorem mw_660 : (Jvm.Cond.code ({ cls := "MaterialBarsModel", name := "thrown", desc := "()I" } : Jvm.MethodName) prog_7_method_2_code (1 : Nat) (Option.some Jvm.ClassFile.FieldType.int)) ∈ T0 := T0_in (List.mem_append_right _ (List.mem_append_right _ (List.mem_append_right _ (List.mem_append_left _ (List.mem_of_getElem? (i := 180) rfl))))) rfl
theorem mw_661 : (Jvm.Cond.methodLink "MaterialBarsLaw" (84 : Nat) ({ cls := "MaterialBarsModel", name := "unit", desc := "(I)I" } : Jvm.MethodName)) ∈ T0 := T0_in (List.mem_append_right _ (List.mem_append_right _ (List.mem_append_right _ (List.mem_append_left _ (List.mem_of_getElem? (i := 181) (by decide +kernel)))))) rfl
theorem mw_662 : (Jvm.Cond.instanceMethod ({ cls := "MaterialBarsModel", name := "unit", desc := "(I)I" } : Jvm.MethodName)) ∈ T0 := T0_in (List.mem_append_right _ (List.mem_append_right _ (List.mem_append_right _ (List.mem_append_left _ (List.mem_of_getElem? (i := 182) (by decide +kernel)))))) rfl
theorem mw_663 : (Jvm.Cond.selects "MaterialBarsModel" ({ cls := "MaterialBarsModel", name := "unit", desc := "(I)I" } : Jvm.MethodName) ({ cls := "MaterialBarsModel", name := "unit", desc := "(I)I" } : Jvm.MethodName)) ∈ T0 := T0_in (List.mem_append_right _ (List.mem_append_right _ (List.mem_append_right _ (List.mem_append_left _ (List.mem_of_getElem? (i := 183) (by decide +kernel)))))) rfl
theorem mw_664 : (Jvm.Cond.code ({ cls := "MaterialBarsModel", name := "unit", desc := "(I)I" } : Jvm.MethodName) prog_7_method_5_code (2 : Nat) (Option.some Jvm.ClassFile.FieldType.int)) ∈ T0 := T0_in (List.mem_append_right _ (List.mem_append_right _ (List.mem_append_right _ (List.mem_append_left _ (List.mem_of_getElem? (i := 184) rfl))))) rfl
theorem mw_665 : (Jvm.Cond.methodLink "MaterialBarsModel" (85 : Nat) ({ cls := "MaterialBarsModel", name := "goes", desc := "(ZZZ)Z" } : Jvm.MethodName)) ∈ T0 := T0_in (List.mem_append_right _ (List.mem_append_right _ (List.mem_append_right _ (List.mem_append_left _ (List.mem_of_getElem? (i := 185) (by decide +kernel)))))) rfl
theorem mw_667 : (Jvm.Cond.instanceMethod ({ cls := "MaterialBarsModel", name := "goes", desc := "(ZZZ)Z" } : Jvm.MethodName)) ∈ T0 := T0_in (List.mem_append_right _ (List.mem_append_right _ (List.mem_append_right _ (List.mem_append_left _ (List.mem_of_getElem? (i := 187) (by decide +kernel)))))) rfl
theorem mw_668 : (Jvm.Cond.code ({ cls := "MaterialBarsModel", name := "goes", desc := "(ZZZ)Z" } : Jvm.MethodName) prog_7_method_3_code (4 : Nat) (Option.some Jvm.ClassFile.FieldType.boolean)) ∈ T0 := T0_in (List.mem_append_right _ (List.mem_append_right _ (List.mem_append_right _ (List.mem_append_left _ (List.mem_of_getElem? (i := 188) rfl))))) rfl
theorem mw_669 : (Jvm.Cond.methodLink "MaterialBarsLaw" (91 : Nat) ({ cls := "MaterialBarsModel", name := "read", desc := "()I" } : Jvm.MethodName)) ∈ T0 := T0_in (List.mem_append_right _ (List.mem_append_right _ (List.mem_append_right _ (List.mem_append_left _ (List.mem_of_getElem? (i := 189) (by decide +kernel)))))) rfl
theorem mw_670 : (Jvm.Cond.instanceMethod ({ cls := "MaterialBarsModel", name := "read", desc := "()I" } : Jvm.MethodName)) ∈ T0 := T0_in (List.mem_append_right _ (List.mem_append_right _ (List.mem_append_right _ (List.mem_append_left _ (List.mem_of_getElem? (i := 190) (by decide +kernel)))))) rfl
theorem mw_671 : (Jvm.Cond.selects "MaterialBarsModel" ({ cls := "MaterialBarsModel", name := "read", desc := "()I" } : Jvm.MethodName) ({ cls := "MaterialBarsModel", name := "read", desc := "()I" } : Jvm.MethodName)) ∈ T0 := T0_in (List.mem_append_right _ (List.mem_append_right _ (List.mem_append_right _ (List.mem_append_left _ (List.mem_of_getElem? (i := 191) (by decide +kernel)))))) rfl
theorem mw_672 : (Jvm.Cond.code ({ cls := "MaterialBarsModel", name := "read", desc := "()I" } : Jvm.MethodName) prog_7_method_9_code (2 : Nat) (Option.some Jvm.ClassFile.FieldType.int)) ∈ T0 := T0_in (List.mem_append_right _ (List.mem_append_right _ (List.mem_append_right _ (List.mem_append_left _ (List.mem_of_getElem? (i := 192) rfl))))) rfl
theorem mw_673 : (Jvm.Cond.methodLink "MaterialBarsModel" (100 : Nat) ({ cls := "MaterialBarsModel", name := "fault", desc := "()I" } : Jvm.MethodName)) ∈ T0 := T0_in (List.mem_append_right _ (List.mem_append_right _ (List.mem_append_right _ (List.mem_append_left _ (List.mem_of_getElem? (i := 193) (by decide +kernel)))))) rfl
theorem mw_675 : (Jvm.Cond.instanceMethod ({ cls := "MaterialBarsModel", name := "fault", desc := "()I" } : Jvm.MethodName)) ∈ T0 := T0_in (List.mem_append_right _ (List.mem_append_right _ (List.mem_append_right _ (List.mem_append_left _ (List.mem_of_getElem? (i := 195) (by decide +kernel)))))) rfl
theorem mw_676 : (Jvm.Cond.code ({ cls := "MaterialBarsModel", name := "fault", desc := "()I" } : Jvm.MethodName) prog_7_method_8_code (10 : Nat) (Option.some Jvm.ClassFile.FieldType.int)) ∈ T0 := T0_in (List.mem_append_right _ (List.mem_append_right _ (List.mem_append_right _ (List.mem_append_left _ (List.mem_of_getElem? (i := 196) rfl))))) rfl
theorem mw_677 : (Jvm.Cond.methodLink "MaterialBarsModel" (92 : Nat) ({ cls := "MaterialBarsModel", name := "isLetter", desc := "(I)Z" } : Jvm.MethodName)) ∈ T0 := T0_in (List.mem_append_right _ (List.mem_append_right _ (List.mem_append_right _ (List.mem_append_left _ (List.mem_of_getElem? (i := 197) (by decide +kernel)))))) rfl
theorem mw_678 : (Jvm.Cond.static ({ cls := "MaterialBarsModel", name := "isLetter", desc := "(I)Z" } : Jvm.MethodName)) ∈ T0 := T0_in (List.mem_append_right _ (List.mem_append_right _ (List.mem_append_right _ (List.mem_append_left _ (List.mem_of_getElem? (i := 198) (by decide +kernel)))))) rfl
theorem mw_679 : (Jvm.Cond.code ({ cls := "MaterialBarsModel", name := "isLetter", desc := "(I)Z" } : Jvm.MethodName) prog_7_method_7_code (1 : Nat) (Option.some Jvm.ClassFile.FieldType.boolean)) ∈ T0 := T0_in (List.mem_append_right _ (List.mem_append_right _ (List.mem_append_right _ (List.mem_append_left _ (List.mem_of_getElem? (i := 199) rfl))))) rfl
theorem mw_680 : (Jvm.Cond.methodLink "MaterialBarsModel" (96 : Nat) ({ cls := "MaterialBarsModel", name := "greatest", desc := "(I)I" } : Jvm.MethodName)) ∈ T0 := T0_in (List.mem_append_right _ (List.mem_append_right _ (List.mem_append_right _ (List.mem_append_left _ (List.mem_of_getElem? (i := 200) (by decide +kernel)))))) rfl
theorem mw_681 : (Jvm.Cond.static ({ cls := "MaterialBarsModel", name := "greatest", desc := "(I)I" } : Jvm.MethodName)) ∈ T0 := T0_in (List.mem_append_right _ (List.mem_append_right _ (List.mem_append_right _ (List.mem_append_left _ (List.mem_of_getElem? (i := 201) (by decide +kernel)))))) rfl
theorem mw_682 : (Jvm.Cond.code ({ cls := "MaterialBarsModel", name := "greatest", desc := "(I)I" } : Jvm.MethodName) prog_7_method_6_code (1 : Nat) (Option.some Jvm.ClassFile.FieldType.int)) ∈ T0 := T0_in (List.mem_append_right _ (List.mem_append_right _ (List.mem_append_right _ (List.mem_append_left _ (List.mem_of_getElem? (i := 202) rfl))))) rfl
theorem mw_683 : (Jvm.Cond.methodLink "MaterialBarsLaw" (95 : Nat) ({ cls := "MaterialBarsModel", name := "uses", desc := "(II)I" } : Jvm.MethodName)) ∈ T0 := T0_in (List.mem_append_right _ (List.mem_append_right _ (List.mem_append_right _ (List.mem_append_left _ (List.mem_of_getElem? (i := 203) (by decide +kernel)))))) rfl
theorem mw_684 : (Jvm.Cond.instanceMethod ({ cls := "MaterialBarsModel", name := "uses", desc := "(II)I" } : Jvm.MethodName)) ∈ T0 := T0_in (List.mem_append_right _ (List.mem_append_right _ (List.mem_append_right _ (List.mem_append_left _ (List.mem_of_getElem? (i := 204) (by decide +kernel)))))) rfl
theorem mw_685 : (Jvm.Cond.selects "MaterialBarsModel" ({ cls := "MaterialBarsModel", name := "uses", desc := "(II)I" } : Jvm.MethodName) ({ cls := "MaterialBarsModel", name := "uses", desc := "(II)I" } : Jvm.MethodName)) ∈ T0 := T0_in (List.mem_append_right _ (List.mem_append_right _ (List.mem_append_right _ (List.mem_append_left _ (List.mem_of_getElem? (i := 205) (by decide +kernel)))))) rfl
theorem mw_686 : (Jvm.Cond.code ({ cls := "MaterialBarsModel", name := "uses", desc := "(II)I" } : Jvm.MethodName) prog_7_method_12_code (3 : Nat) (Option.some Jvm.ClassFile.FieldType.int)) ∈ T0 := T0_in (List.mem_append_right _ (List.mem_append_right _ (List.mem_append_right _ (List.mem_append_left _ (List.mem_of_getElem? (i := 206) rfl))))) rfl
theorem mw_687 : (Jvm.Cond.methodLink "MaterialBarsModel" (108 : Nat) ({ cls := "MaterialBarsModel", name := "isMethod", desc := "(I)Z" } : Jvm.MethodName)) ∈ T0 := T0_in (List.mem_append_right _ (List.mem_append_right _ (List.mem_append_right _ (List.mem_append_left _ (List.mem_of_getElem? (i := 207) (by decide +kernel)))))) rfl
theorem mw_689 : (Jvm.Cond.instanceMethod ({ cls := "MaterialBarsModel", name := "isMethod", desc := "(I)Z" } : Jvm.MethodName)) ∈ T0 := T0_in (List.mem_append_right _ (List.mem_append_right _ (List.mem_append_right _ (List.mem_append_left _ (List.mem_of_getElem? (i := 209) (by decide +kernel)))))) rfl
theorem mw_690 : (Jvm.Cond.code ({ cls := "MaterialBarsModel", name := "isMethod", desc := "(I)Z" } : Jvm.MethodName) prog_7_method_10_code (2 : Nat) (Option.some Jvm.ClassFile.FieldType.boolean)) ∈ T0 := T0_in (List.mem_append_right _ (List.mem_append_right _ (List.mem_append_right _ (List.mem_append_left _ (List.mem_of_getElem? (i := 210) rfl))))) rfl
theorem mw_691 : (Jvm.Cond.methodLink "MaterialBarsModel" (104 : Nat) ({ cls := "MaterialBarsModel", name := "below", desc := "(II)Z" } : Jvm.MethodName)) ∈ T0 := T0_in (List.mem_append_right _ (List.mem_append_right _ (List.mem_append_right _ (List.mem_append_left _ (List.mem_of_getElem? (i := 211) (by decide +kernel)))))) rfl
theorem mw_692 : (Jvm.Cond.static ({ cls := "MaterialBarsModel", name := "below", desc := "(II)Z" } : Jvm.MethodName)) ∈ T0 := T0_in (List.mem_append_right _ (List.mem_append_right _ (List.mem_append_right _ (List.mem_append_left _ (List.mem_of_getElem? (i := 212) (by decide +kernel)))))) rfl
theorem mw_693 : (Jvm.Cond.code ({ cls := "MaterialBarsModel", name := "below", desc := "(II)Z" } : Jvm.MethodName) prog_7_method_4_code (2 : Nat) (Option.some Jvm.ClassFile.FieldType.boolean)) ∈ T0 := T0_in (List.mem_append_right _ (List.mem_append_right _ (List.mem_append_right _ (List.mem_append_left _ (List.mem_of_getElem? (i := 213) rfl))))) rfl
theorem mw_694 : (Jvm.Cond.methodLink "MaterialBarsModel" (111 : Nat) ({ cls := "MaterialBarsModel", name := "used", desc := "(II)I" } : Jvm.MethodName)) ∈ T0 := T0_in (List.mem_append_right _ (List.mem_append_right _ (List.mem_append_right _ (List.mem_append_left _ (List.mem_of_getElem? (i := 214) (by decide +kernel)))))) rfl
theorem mw_696 : (Jvm.Cond.instanceMethod ({ cls := "MaterialBarsModel", name := "used", desc := "(II)I" } : Jvm.MethodName)) ∈ T0 := T0_in (List.mem_append_right _ (List.mem_append_right _ (List.mem_append_right _ (List.mem_append_left _ (List.mem_of_getElem? (i := 216) (by decide +kernel)))))) rfl
theorem mw_697 : (Jvm.Cond.code ({ cls := "MaterialBarsModel", name := "used", desc := "(II)I" } : Jvm.MethodName) prog_7_method_11_code (5 : Nat) (Option.some Jvm.ClassFile.FieldType.int)) ∈ T0 := T0_in (List.mem_append_right _ (List.mem_append_right _ (List.mem_append_right _ (List.mem_append_left _ (List.mem_of_getElem? (i := 217) rfl))))) rfl
theorem mw_698 : (Jvm.Cond.methodLink "MaterialBarsLaw" (98 : Nat) ({ cls := "MaterialBarsModel", name := "object", desc := "()I" } : Jvm.MethodName)) ∈ T0 := T0_in (List.mem_append_right _ (List.mem_append_right _ (List.mem_append_right _ (List.mem_append_left _ (List.mem_of_getElem? (i := 218) (by decide +kernel)))))) rfl
theorem mw_699 : (Jvm.Cond.instanceMethod ({ cls := "MaterialBarsModel", name := "object", desc := "()I" } : Jvm.MethodName)) ∈ T0 := T0_in (List.mem_append_right _ (List.mem_append_right _ (List.mem_append_right _ (List.mem_append_left _ (List.mem_of_getElem? (i := 219) (by decide +kernel)))))) rfl
theorem mw_700 : (Jvm.Cond.selects "MaterialBarsModel" ({ cls := "MaterialBarsModel", name := "object", desc := "()I" } : Jvm.MethodName) ({ cls := "MaterialBarsModel", name := "object", desc := "()I" } : Jvm.MethodName)) ∈ T0 := T0_in (List.mem_append_right _ (List.mem_append_right _ (List.mem_append_right _ (List.mem_append_left _ (List.mem_of_getElem? (i := 220) (by decide +kernel)))))) rfl
theorem mw_701 : (Jvm.Cond.code ({ cls := "MaterialBarsModel", name := "object", desc := "()I" } : Jvm.MethodName) prog_7_method_14_code (1 : Nat) (Option.some Jvm.ClassFile.FieldType.int)) ∈ T0 := T0_in (List.mem_append_right _ (List.mem_append_right _ (List.mem_append_right _ (List.mem_append_left _ (List.mem_of_getElem? (i := 221) rfl))))) rfl
theorem mw_702 : (Jvm.Cond.methodLink "MaterialBarsLaw" (101 : Nat) ({ cls := "MaterialBarsModel", name := "part", desc := "(II)I" } : Jvm.MethodName)) ∈ T0 := T0_in (List.mem_append_right _ (List.mem_append_right _ (List.mem_append_right _ (List.mem_append_left _ (List.mem_of_getElem? (i := 222) (by decide +kernel)))))) rfl
theorem mw_703 : (Jvm.Cond.instanceMethod ({ cls := "MaterialBarsModel", name := "part", desc := "(II)I" } : Jvm.MethodName)) ∈ T0 := T0_in (List.mem_append_right _ (List.mem_append_right _ (List.mem_append_right _ (List.mem_append_left _ (List.mem_of_getElem? (i := 223) (by decide +kernel)))))) rfl
theorem mw_704 : (Jvm.Cond.selects "MaterialBarsModel" ({ cls := "MaterialBarsModel", name := "part", desc := "(II)I" } : Jvm.MethodName) ({ cls := "MaterialBarsModel", name := "part", desc := "(II)I" } : Jvm.MethodName)) ∈ T0 := T0_in (List.mem_append_right _ (List.mem_append_right _ (List.mem_append_right _ (List.mem_append_left _ (List.mem_of_getElem? (i := 224) (by decide +kernel)))))) rfl
theorem mw_705 : (Jvm.Cond.code ({ cls := "MaterialBarsModel", name := "part", desc := "(II)I" } : Jvm.MethodName) prog_7_method_16_code (4 : Nat) (Option.some Jvm.ClassFile.FieldType.int)) ∈ T0 := T0_in (List.mem_append_right _ (List.mem_append_right _ (List.mem_append_right _ (List.mem_append_left _ (List.mem_of_getElem? (i := 225) rfl))))) rfl
theorem mw_706 : (Jvm.Cond.methodLink "MaterialBarsModel" (118 : Nat) ({ cls := "MaterialBarsModel", name := "isObject", desc := "(I)Z" } : Jvm.MethodName)) ∈ T0 := T0_in (List.mem_append_right _ (List.mem_append_right _ (List.mem_append_right _ (List.mem_append_left _ (List.mem_of_getElem? (i := 226) (by decide +kernel)))))) rfl
theorem mw_708 : (Jvm.Cond.instanceMethod ({ cls := "MaterialBarsModel", name := "isObject", desc := "(I)Z" } : Jvm.MethodName)) ∈ T0 := T0_in (List.mem_append_right _ (List.mem_append_right _ (List.mem_append_right _ (List.mem_append_left _ (List.mem_of_getElem? (i := 228) (by decide +kernel)))))) rfl
theorem mw_709 : (Jvm.Cond.code ({ cls := "MaterialBarsModel", name := "isObject", desc := "(I)Z" } : Jvm.MethodName) prog_7_method_15_code (2 : Nat) (Option.some Jvm.ClassFile.FieldType.boolean)) ∈ T0 := T0_in (List.mem_append_right _ (List.mem_append_right _ (List.mem_append_right _ (List.mem_append_left _ (List.mem_of_getElem? (i := 229) rfl))))) rfl
theorem mw_710 : (Jvm.Cond.methodLink "MaterialBarsLaw" (105 : Nat) ({ cls := "MaterialBarsModel", name := "right", desc := "(IIZ)Z" } : Jvm.MethodName)) ∈ T0 := T0_in (List.mem_append_right _ (List.mem_append_right _ (List.mem_append_right _ (List.mem_append_left _ (List.mem_of_getElem? (i := 230) (by decide +kernel)))))) rfl
theorem mw_711 : (Jvm.Cond.instanceMethod ({ cls := "MaterialBarsModel", name := "right", desc := "(IIZ)Z" } : Jvm.MethodName)) ∈ T0 := T0_in (List.mem_append_right _ (List.mem_append_right _ (List.mem_append_right _ (List.mem_append_left _ (List.mem_of_getElem? (i := 231) (by decide +kernel)))))) rfl
theorem mw_712 : (Jvm.Cond.selects "MaterialBarsModel" ({ cls := "MaterialBarsModel", name := "right", desc := "(IIZ)Z" } : Jvm.MethodName) ({ cls := "MaterialBarsModel", name := "right", desc := "(IIZ)Z" } : Jvm.MethodName)) ∈ T0 := T0_in (List.mem_append_right _ (List.mem_append_right _ (List.mem_append_right _ (List.mem_append_left _ (List.mem_of_getElem? (i := 232) (by decide +kernel)))))) rfl
theorem mw_713 : (Jvm.Cond.code ({ cls := "MaterialBarsModel", name := "right", desc := "(IIZ)Z" } : Jvm.MethodName) prog_7_method_17_code (5 : Nat) (Option.some Jvm.ClassFile.FieldType.boolean)) ∈ T0 := T0_in (List.mem_append_right _ (List.mem_append_right _ (List.mem_append_right _ (List.mem_append_left _ (List.mem_of_getElem? (i := 233) rfl))))) rfl
theorem mw_714 : (Jvm.Cond.methodLink "MaterialBarsLaw" (108 : Nat) ({ cls := "MaterialBarsModel", name := "trial", desc := "(IIZ)Z" } : Jvm.MethodName)) ∈ T0 := T0_in (List.mem_append_right _ (List.mem_append_right _ (List.mem_append_right _ (List.mem_append_left _ (List.mem_of_getElem? (i := 234) (by decide +kernel)))))) rfl
theorem mw_715 : (Jvm.Cond.instanceMethod ({ cls := "MaterialBarsModel", name := "trial", desc := "(IIZ)Z" } : Jvm.MethodName)) ∈ T0 := T0_in (List.mem_append_right _ (List.mem_append_right _ (List.mem_append_right _ (List.mem_append_left _ (List.mem_of_getElem? (i := 235) (by decide +kernel)))))) rfl
theorem mw_716 : (Jvm.Cond.selects "MaterialBarsModel" ({ cls := "MaterialBarsModel", name := "trial", desc := "(IIZ)Z" } : Jvm.MethodName) ({ cls := "MaterialBarsModel", name := "trial", desc := "(IIZ)Z" } : Jvm.MethodName)) ∈ T0 := T0_in (List.mem_append_right _ (List.mem_append_right _ (List.mem_append_right _ (List.mem_append_left _ (List.mem_of_getElem? (i := 236) (by decide +kernel)))))) rfl
theorem mw_717 : (Jvm.Cond.code ({ cls := "MaterialBarsModel", name := "trial", desc := "(IIZ)Z" } : Jvm.MethodName) prog_7_method_18_code (5 : Nat) (Option.some Jvm.ClassFile.FieldType.boolean)) ∈ T0 := T0_in (List.mem_append_right _ (List.mem_append_right _ (List.mem_append_right _ (List.mem_append_left _ (List.mem_of_getElem? (i := 237) rfl))))) rfl
theorem mw_718 : (Jvm.Cond.methodLink "MaterialBarsLaw" (112 : Nat) ({ cls := "MaterialBarsModel", name := "reason", desc := "(IIII)I" } : Jvm.MethodName)) ∈ T0 := T0_in (List.mem_append_right _ (List.mem_append_right _ (List.mem_append_right _ (List.mem_append_left _ (List.mem_of_getElem? (i := 238) (by decide +kernel)))))) rfl
theorem mw_719 : (Jvm.Cond.instanceMethod ({ cls := "MaterialBarsModel", name := "reason", desc := "(IIII)I" } : Jvm.MethodName)) ∈ T0 := T0_in (List.mem_append_right _ (List.mem_append_right _ (List.mem_append_right _ (List.mem_append_left _ (List.mem_of_getElem? (i := 239) (by decide +kernel)))))) rfl
theorem mw_720 : (Jvm.Cond.selects "MaterialBarsModel" ({ cls := "MaterialBarsModel", name := "reason", desc := "(IIII)I" } : Jvm.MethodName) ({ cls := "MaterialBarsModel", name := "reason", desc := "(IIII)I" } : Jvm.MethodName)) ∈ T0 := T0_in (List.mem_append_right _ (List.mem_append_right _ (List.mem_append_right _ (List.mem_append_right _ (List.mem_of_getElem? (i := 0) (by decide +kernel)))))) rfl
theorem mw_721 : (Jvm.Cond.code ({ cls := "MaterialBarsModel", name := "reason", desc := "(IIII)I" } : Jvm.MethodName) prog_7_method_25_code (5 : Nat) (Option.some Jvm.ClassFile.FieldType.int)) ∈ T0 := T0_in (List.mem_append_right _ (List.mem_append_right _ (List.mem_append_right _ (List.mem_append_right _ (List.mem_of_getElem? (i := 1) rfl))))) rfl
theorem mw_722 : (Jvm.Cond.methodLink "MaterialBarsModel" (139 : Nat) ({ cls := "MaterialBarsModel", name := "isHour", desc := "(I)Z" } : Jvm.MethodName)) ∈ T0 := T0_in (List.mem_append_right _ (List.mem_append_right _ (List.mem_append_right _ (List.mem_append_right _ (List.mem_of_getElem? (i := 2) (by decide +kernel)))))) rfl
theorem mw_723 : (Jvm.Cond.static ({ cls := "MaterialBarsModel", name := "isHour", desc := "(I)Z" } : Jvm.MethodName)) ∈ T0 := T0_in (List.mem_append_right _ (List.mem_append_right _ (List.mem_append_right _ (List.mem_append_right _ (List.mem_of_getElem? (i := 3) (by decide +kernel)))))) rfl
theorem mw_724 : (Jvm.Cond.code ({ cls := "MaterialBarsModel", name := "isHour", desc := "(I)Z" } : Jvm.MethodName) prog_7_method_24_code (1 : Nat) (Option.some Jvm.ClassFile.FieldType.boolean)) ∈ T0 := T0_in (List.mem_append_right _ (List.mem_append_right _ (List.mem_append_right _ (List.mem_append_right _ (List.mem_of_getElem? (i := 4) rfl))))) rfl
theorem mw_725 : (Jvm.Cond.constant "MaterialBarsModel" (138 : Nat) (1000000 : Int32)) ∈ T0 := T0_in (List.mem_append_right _ (List.mem_append_right _ (List.mem_append_right _ (List.mem_append_right _ (List.mem_of_getElem? (i := 5) (by decide +kernel)))))) rfl
theorem mw_726 : (Jvm.Cond.methodLink "MaterialBarsModel" (142 : Nat) ({ cls := "MaterialBarsModel", name := "why", desc := "(IIII)I" } : Jvm.MethodName)) ∈ T0 := T0_in (List.mem_append_right _ (List.mem_append_right _ (List.mem_append_right _ (List.mem_append_right _ (List.mem_of_getElem? (i := 6) (by decide +kernel)))))) rfl
theorem mw_728 : (Jvm.Cond.instanceMethod ({ cls := "MaterialBarsModel", name := "why", desc := "(IIII)I" } : Jvm.MethodName)) ∈ T0 := T0_in (List.mem_append_right _ (List.mem_append_right _ (List.mem_append_right _ (List.mem_append_right _ (List.mem_of_getElem? (i := 8) (by decide +kernel)))))) rfl
theorem mw_729 : (Jvm.Cond.code ({ cls := "MaterialBarsModel", name := "why", desc := "(IIII)I" } : Jvm.MethodName) prog_7_method_23_code (6 : Nat) (Option.some Jvm.ClassFile.FieldType.int)) ∈ T0 := T0_in (List.mem_append_right _ (List.mem_append_right _ (List.mem_append_right _ (List.mem_append_right _ (List.mem_of_getElem? (i := 9) rfl))))) rfl
theorem mw_730 : (Jvm.Cond.methodLink "MaterialBarsModel" (128 : Nat) ({ cls := "MaterialBarsModel", name := "barred", desc := "(II)I" } : Jvm.MethodName)) ∈ T0 := T0_in (List.mem_append_right _ (List.mem_append_right _ (List.mem_append_right _ (List.mem_append_right _ (List.mem_of_getElem? (i := 10) (by decide +kernel)))))) rfl
theorem mw_732 : (Jvm.Cond.instanceMethod ({ cls := "MaterialBarsModel", name := "barred", desc := "(II)I" } : Jvm.MethodName)) ∈ T0 := T0_in (List.mem_append_right _ (List.mem_append_right _ (List.mem_append_right _ (List.mem_append_right _ (List.mem_of_getElem? (i := 12) (by decide +kernel)))))) rfl
theorem mw_733 : (Jvm.Cond.code ({ cls := "MaterialBarsModel", name := "barred", desc := "(II)I" } : Jvm.MethodName) prog_7_method_20_code (4 : Nat) (Option.some Jvm.ClassFile.FieldType.int)) ∈ T0 := T0_in (List.mem_append_right _ (List.mem_append_right _ (List.mem_append_right _ (List.mem_append_right _ (List.mem_of_getElem? (i := 13) rfl))))) rfl
theorem mw_734 : (Jvm.Cond.methodLink "MaterialBarsModel" (121 : Nat) ({ cls := "MaterialBarsModel", name := "has", desc := "(III)Z" } : Jvm.MethodName)) ∈ T0 := T0_in (List.mem_append_right _ (List.mem_append_right _ (List.mem_append_right _ (List.mem_append_right _ (List.mem_of_getElem? (i := 14) (by decide +kernel)))))) rfl
theorem mw_736 : (Jvm.Cond.instanceMethod ({ cls := "MaterialBarsModel", name := "has", desc := "(III)Z" } : Jvm.MethodName)) ∈ T0 := T0_in (List.mem_append_right _ (List.mem_append_right _ (List.mem_append_right _ (List.mem_append_right _ (List.mem_of_getElem? (i := 16) (by decide +kernel)))))) rfl
theorem mw_737 : (Jvm.Cond.code ({ cls := "MaterialBarsModel", name := "has", desc := "(III)Z" } : Jvm.MethodName) prog_7_method_13_code (6 : Nat) (Option.some Jvm.ClassFile.FieldType.boolean)) ∈ T0 := T0_in (List.mem_append_right _ (List.mem_append_right _ (List.mem_append_right _ (List.mem_append_right _ (List.mem_of_getElem? (i := 17) rfl))))) rfl
theorem mw_738 : (Jvm.Cond.methodLink "MaterialBarsModel" (125 : Nat) ({ cls := "MaterialBarsModel", name := "latest", desc := "(II)I" } : Jvm.MethodName)) ∈ T0 := T0_in (List.mem_append_right _ (List.mem_append_right _ (List.mem_append_right _ (List.mem_append_right _ (List.mem_of_getElem? (i := 18) (by decide +kernel)))))) rfl
theorem mw_740 : (Jvm.Cond.instanceMethod ({ cls := "MaterialBarsModel", name := "latest", desc := "(II)I" } : Jvm.MethodName)) ∈ T0 := T0_in (List.mem_append_right _ (List.mem_append_right _ (List.mem_append_right _ (List.mem_append_right _ (List.mem_of_getElem? (i := 20) (by decide +kernel)))))) rfl
theorem mw_741 : (Jvm.Cond.code ({ cls := "MaterialBarsModel", name := "latest", desc := "(II)I" } : Jvm.MethodName) prog_7_method_19_code (5 : Nat) (Option.some Jvm.ClassFile.FieldType.int)) ∈ T0 := T0_in (List.mem_append_right _ (List.mem_append_right _ (List.mem_append_right _ (List.mem_append_right _ (List.mem_of_getElem? (i := 21) rfl))))) rfl
theorem mw_742 : (Jvm.Cond.methodLink "MaterialBarsModel" (131 : Nat) ({ cls := "MaterialBarsModel", name := "waits", desc := "(IIII)Z" } : Jvm.MethodName)) ∈ T0 := T0_in (List.mem_append_right _ (List.mem_append_right _ (List.mem_append_right _ (List.mem_append_right _ (List.mem_of_getElem? (i := 22) (by decide +kernel)))))) rfl
theorem mw_744 : (Jvm.Cond.instanceMethod ({ cls := "MaterialBarsModel", name := "waits", desc := "(IIII)Z" } : Jvm.MethodName)) ∈ T0 := T0_in (List.mem_append_right _ (List.mem_append_right _ (List.mem_append_right _ (List.mem_append_right _ (List.mem_of_getElem? (i := 24) (by decide +kernel)))))) rfl
theorem mw_745 : (Jvm.Cond.code ({ cls := "MaterialBarsModel", name := "waits", desc := "(IIII)Z" } : Jvm.MethodName) prog_7_method_21_code (8 : Nat) (Option.some Jvm.ClassFile.FieldType.boolean)) ∈ T0 := T0_in (List.mem_append_right _ (List.mem_append_right _ (List.mem_append_right _ (List.mem_append_right _ (List.mem_of_getElem? (i := 25) rfl))))) rfl
theorem mw_746 : (Jvm.Cond.methodLink "MaterialBarsModel" (135 : Nat) ({ cls := "MaterialBarsModel", name := "hasPart", desc := "(II)Z" } : Jvm.MethodName)) ∈ T0 := T0_in (List.mem_append_right _ (List.mem_append_right _ (List.mem_append_right _ (List.mem_append_right _ (List.mem_of_getElem? (i := 26) (by decide +kernel)))))) rfl
theorem mw_748 : (Jvm.Cond.instanceMethod ({ cls := "MaterialBarsModel", name := "hasPart", desc := "(II)Z" } : Jvm.MethodName)) ∈ T0 := T0_in (List.mem_append_right _ (List.mem_append_right _ (List.mem_append_right _ (List.mem_append_right _ (List.mem_of_getElem? (i := 28) (by decide +kernel)))))) rfl
theorem mw_749 : (Jvm.Cond.code ({ cls := "MaterialBarsModel", name := "hasPart", desc := "(II)Z" } : Jvm.MethodName) prog_7_method_22_code (5 : Nat) (Option.some Jvm.ClassFile.FieldType.boolean)) ∈ T0 := T0_in (List.mem_append_right _ (List.mem_append_right _ (List.mem_append_right _ (List.mem_append_right _ (List.mem_of_getElem? (i := 29) rfl))))) rfl
theorem mw_750 : (Jvm.Cond.methodLink "MaterialBarsLaw" (116 : Nat) ({ cls := "MaterialBarsModel", name := "done", desc := "(IIIII)I" } : Jvm.MethodName)) ∈ T0 := T0_in (List.mem_append_right _ (List.mem_append_right _ (List.mem_append_right _ (List.mem_append_right _ (List.mem_of_getElem? (i := 30) (by decide +kernel)))))) rfl
theorem mw_751 : (Jvm.Cond.instanceMethod ({ cls := "MaterialBarsModel", name := "done", desc := "(IIIII)I" } : Jvm.MethodName)) ∈ T0 := T0_in (List.mem_append_right _ (List.mem_append_right _ (List.mem_append_right _ (List.mem_append_right _ (List.mem_of_getElem? (i := 31) (by decide +kernel)))))) rfl
theorem mw_752 : (Jvm.Cond.selects "MaterialBarsModel" ({ cls := "MaterialBarsModel", name := "done", desc := "(IIIII)I" } : Jvm.MethodName) ({ cls := "MaterialBarsModel", name := "done", desc := "(IIIII)I" } : Jvm.MethodName)) ∈ T0 := T0_in (List.mem_append_right _ (List.mem_append_right _ (List.mem_append_right _ (List.mem_append_right _ (List.mem_of_getElem? (i := 32) (by decide +kernel)))))) rfl
theorem mw_753 : (Jvm.Cond.code ({ cls := "MaterialBarsModel", name := "done", desc := "(IIIII)I" } : Jvm.MethodName) prog_7_method_26_code (12 : Nat) (Option.some Jvm.ClassFile.FieldType.int)) ∈ T0 := T0_in (List.mem_append_right _ (List.mem_append_right _ (List.mem_append_right _ (List.mem_append_right _ (List.mem_of_getElem? (i := 33) rfl))))) rfl
theorem mw_754 : (Jvm.Cond.methodLink "MaterialBarsLaw" (120 : Nat) ({ cls := "MaterialBarsModel", name := "row", desc := "(III)I" } : Jvm.MethodName)) ∈ T0 := T0_in (List.mem_append_right _ (List.mem_append_right _ (List.mem_append_right _ (List.mem_append_right _ (List.mem_of_getElem? (i := 34) (by decide +kernel)))))) rfl
theorem mw_755 : (Jvm.Cond.instanceMethod ({ cls := "MaterialBarsModel", name := "row", desc := "(III)I" } : Jvm.MethodName)) ∈ T0 := T0_in (List.mem_append_right _ (List.mem_append_right _ (List.mem_append_right _ (List.mem_append_right _ (List.mem_of_getElem? (i := 35) (by decide +kernel)))))) rfl
theorem mw_756 : (Jvm.Cond.selects "MaterialBarsModel" ({ cls := "MaterialBarsModel", name := "row", desc := "(III)I" } : Jvm.MethodName) ({ cls := "MaterialBarsModel", name := "row", desc := "(III)I" } : Jvm.MethodName)) ∈ T0 := T0_in (List.mem_append_right _ (List.mem_append_right _ (List.mem_append_right _ (List.mem_append_right _ (List.mem_of_getElem? (i := 36) (by decide +kernel)))))) rfl
theorem mw_757 : (Jvm.Cond.code ({ cls := "MaterialBarsModel", name := "row", desc := "(III)I" } : Jvm.MethodName) prog_7_method_27_code (6 : Nat) (Option.some Jvm.ClassFile.FieldType.int)) ∈ T0 := T0_in (List.mem_append_right _ (List.mem_append_right _ (List.mem_append_right _ (List.mem_append_right _ (List.mem_of_getElem? (i := 37) rfl))))) rfl
theorem mw_758 : (Jvm.Cond.methodLink "MaterialBarsLaw" (123 : Nat) ({ cls := "MaterialBarsModel", name := "stock", desc := "(II)I" } : Jvm.MethodName)) ∈ T0 := T0_in (List.mem_append_right _ (List.mem_append_right _ (List.mem_append_right _ (List.mem_append_right _ (List.mem_of_getElem? (i := 38) (by decide +kernel)))))) rfl
theorem mw_759 : (Jvm.Cond.instanceMethod ({ cls := "MaterialBarsModel", name := "stock", desc := "(II)I" } : Jvm.MethodName)) ∈ T0 := T0_in (List.mem_append_right _ (List.mem_append_right _ (List.mem_append_right _ (List.mem_append_right _ (List.mem_of_getElem? (i := 39) (by decide +kernel)))))) rfl
theorem mw_760 : (Jvm.Cond.selects "MaterialBarsModel" ({ cls := "MaterialBarsModel", name := "stock", desc := "(II)I" } : Jvm.MethodName) ({ cls := "MaterialBarsModel", name := "stock", desc := "(II)I" } : Jvm.MethodName)) ∈ T0 := T0_in (List.mem_append_right _ (List.mem_append_right _ (List.mem_append_right _ (List.mem_append_right _ (List.mem_of_getElem? (i := 40) (by decide +kernel)))))) rfl
theorem mw_761 : (Jvm.Cond.code ({ cls := "MaterialBarsModel", name := "stock", desc := "(II)I" } : Jvm.MethodName) prog_7_method_28_code (4 : Nat) (Option.some Jvm.ClassFile.FieldType.int)) ∈ T0 := T0_in (List.mem_append_right _ (List.mem_append_right _ (List.mem_append_right _ (List.mem_append_right _ (List.mem_of_getElem? (i := 41) rfl))))) rfl
theorem mw_762 : (Jvm.Cond.constant "MaterialBarsModel" (146 : Nat) (-1000000 : Int32)) ∈ T0 := T0_in (List.mem_append_right _ (List.mem_append_right _ (List.mem_append_right _ (List.mem_append_right _ (List.mem_of_getElem? (i := 42) (by decide +kernel)))))) rfl
theorem mw_763 : (Jvm.Cond.methodLink "MaterialBarsLaw" (126 : Nat) ({ cls := "MaterialBarsModel", name := "about", desc := "(II)J" } : Jvm.MethodName)) ∈ T0 := T0_in (List.mem_append_right _ (List.mem_append_right _ (List.mem_append_right _ (List.mem_append_right _ (List.mem_of_getElem? (i := 43) (by decide +kernel)))))) rfl
theorem mw_764 : (Jvm.Cond.instanceMethod ({ cls := "MaterialBarsModel", name := "about", desc := "(II)J" } : Jvm.MethodName)) ∈ T0 := T0_in (List.mem_append_right _ (List.mem_append_right _ (List.mem_append_right _ (List.mem_append_right _ (List.mem_of_getElem? (i := 44) (by decide +kernel)))))) rfl
theorem mw_765 : (Jvm.Cond.selects "MaterialBarsModel" ({ cls := "MaterialBarsModel", name := "about", desc := "(II)J" } : Jvm.MethodName) ({ cls := "MaterialBarsModel", name := "about", desc := "(II)J" } : Jvm.MethodName)) ∈ T0 := T0_in (List.mem_append_right _ (List.mem_append_right _ (List.mem_append_right _ (List.mem_append_right _ (List.mem_of_getElem? (i := 45) (by decide +kernel)))))) rfl
theorem mw_766 : (Jvm.Cond.code ({ cls := "MaterialBarsModel", name := "about", desc := "(II)J" } : Jvm.MethodName) prog_7_method_29_code (3 : Nat) (Option.some Jvm.ClassFile.FieldType.long)) ∈ T0 := T0_in (List.mem_append_right _ (List.mem_append_right _ (List.mem_append_right _ (List.mem_append_right _ (List.mem_of_getElem? (i := 46) rfl))))) rfl
theorem mw_767 : (Jvm.Cond.methodLink "MaterialBarsLaw" (129 : Nat) ({ cls := "MaterialBarsModel", name := "apart", desc := "(II)Z" } : Jvm.MethodName)) ∈ T0 := T0_in (List.mem_append_right _ (List.mem_append_right _ (List.mem_append_right _ (List.mem_append_right _ (List.mem_of_getElem? (i := 47) (by decide +kernel)))))) rfl
theorem mw_768 : (Jvm.Cond.instanceMethod ({ cls := "MaterialBarsModel", name := "apart", desc := "(II)Z" } : Jvm.MethodName)) ∈ T0 := T0_in (List.mem_append_right _ (List.mem_append_right _ (List.mem_append_right _ (List.mem_append_right _ (List.mem_of_getElem? (i := 48) (by decide +kernel)))))) rfl
theorem mw_769 : (Jvm.Cond.selects "MaterialBarsModel" ({ cls := "MaterialBarsModel", name := "apart", desc := "(II)Z" } : Jvm.MethodName) ({ cls := "MaterialBarsModel", name := "apart", desc := "(II)Z" } : Jvm.MethodName)) ∈ T0 := T0_in (List.mem_append_right _ (List.mem_append_right _ (List.mem_append_right _ (List.mem_append_right _ (List.mem_of_getElem? (i := 49) (by decide +kernel)))))) rfl
theorem mw_770 : (Jvm.Cond.code ({ cls := "MaterialBarsModel", name := "apart", desc := "(II)Z" } : Jvm.MethodName) prog_7_method_30_code (3 : Nat) (Option.some Jvm.ClassFile.FieldType.boolean)) ∈ T0 := T0_in (List.mem_append_right _ (List.mem_append_right _ (List.mem_append_right _ (List.mem_append_right _ (List.mem_of_getElem? (i := 50) rfl))))) rfl
theorem mw_771 : (Jvm.Cond.methodLink "MaterialBarsLaw" (132 : Nat) ({ cls := "MaterialBarsModel", name := "put", desc := "(II)I" } : Jvm.MethodName)) ∈ T0 := T0_in (List.mem_append_right _ (List.mem_append_right _ (List.mem_append_right _ (List.mem_append_right _ (List.mem_of_getElem? (i := 51) (by decide +kernel)))))) rfl
theorem mw_772 : (Jvm.Cond.instanceMethod ({ cls := "MaterialBarsModel", name := "put", desc := "(II)I" } : Jvm.MethodName)) ∈ T0 := T0_in (List.mem_append_right _ (List.mem_append_right _ (List.mem_append_right _ (List.mem_append_right _ (List.mem_of_getElem? (i := 52) (by decide +kernel)))))) rfl
theorem mw_773 : (Jvm.Cond.selects "MaterialBarsModel" ({ cls := "MaterialBarsModel", name := "put", desc := "(II)I" } : Jvm.MethodName) ({ cls := "MaterialBarsModel", name := "put", desc := "(II)I" } : Jvm.MethodName)) ∈ T0 := T0_in (List.mem_append_right _ (List.mem_append_right _ (List.mem_append_right _ (List.mem_append_right _ (List.mem_of_getElem? (i := 53) (by decide +kernel)))))) rfl
theorem mw_774 : (Jvm.Cond.code ({ cls := "MaterialBarsModel", name := "put", desc := "(II)I" } : Jvm.MethodName) prog_7_method_31_code (4 : Nat) (Option.some Jvm.ClassFile.FieldType.int)) ∈ T0 := T0_in (List.mem_append_right _ (List.mem_append_right _ (List.mem_append_right _ (List.mem_append_right _ (List.mem_of_getElem? (i := 54) rfl))))) rfl
theorem mw_775 : (Jvm.Cond.methodLink "MaterialBarsLaw" (135 : Nat) ({ cls := "MaterialBarsModel", name := "plan", desc := "(II)I" } : Jvm.MethodName)) ∈ T0 := T0_in (List.mem_append_right _ (List.mem_append_right _ (List.mem_append_right _ (List.mem_append_right _ (List.mem_of_getElem? (i := 55) (by decide +kernel)))))) rfl
theorem mw_776 : (Jvm.Cond.instanceMethod ({ cls := "MaterialBarsModel", name := "plan", desc := "(II)I" } : Jvm.MethodName)) ∈ T0 := T0_in (List.mem_append_right _ (List.mem_append_right _ (List.mem_append_right _ (List.mem_append_right _ (List.mem_of_getElem? (i := 56) (by decide +kernel)))))) rfl
theorem mw_777 : (Jvm.Cond.selects "MaterialBarsModel" ({ cls := "MaterialBarsModel", name := "plan", desc := "(II)I" } : Jvm.MethodName) ({ cls := "MaterialBarsModel", name := "plan", desc := "(II)I" } : Jvm.MethodName)) ∈ T0 := T0_in (List.mem_append_right _ (List.mem_append_right _ (List.mem_append_right _ (List.mem_append_right _ (List.mem_of_getElem? (i := 57) (by decide +kernel)))))) rfl
theorem mw_778 : (Jvm.Cond.code ({ cls := "MaterialBarsModel", name := "plan", desc := "(II)I" } : Jvm.MethodName) prog_7_method_36_code (9 : Nat) (Option.some Jvm.ClassFile.FieldType.int)) ∈ T0 := T0_in (List.mem_append_right _ (List.mem_append_right _ (List.mem_append_right _ (List.mem_append_right _ (List.mem_of_getElem? (i := 58) rfl))))) rfl
theorem mw_779 : (Jvm.Cond.methodLink "MaterialBarsModel" (153 : Nat) ({ cls := "MaterialBarsModel", name := "closed", desc := "(I)I" } : Jvm.MethodName)) ∈ T0 := T0_in (List.mem_append_right _ (List.mem_append_right _ (List.mem_append_right _ (List.mem_append_right _ (List.mem_of_getElem? (i := 59) (by decide +kernel)))))) rfl
theorem mw_781 : (Jvm.Cond.instanceMethod ({ cls := "MaterialBarsModel", name := "closed", desc := "(I)I" } : Jvm.MethodName)) ∈ T0 := T0_in (List.mem_append_right _ (List.mem_append_right _ (List.mem_append_right _ (List.mem_append_right _ (List.mem_of_getElem? (i := 61) (by decide +kernel)))))) rfl
theorem mw_782 : (Jvm.Cond.code ({ cls := "MaterialBarsModel", name := "closed", desc := "(I)I" } : Jvm.MethodName) prog_7_method_34_code (6 : Nat) (Option.some Jvm.ClassFile.FieldType.int)) ∈ T0 := T0_in (List.mem_append_right _ (List.mem_append_right _ (List.mem_append_right _ (List.mem_append_right _ (List.mem_of_getElem? (i := 62) rfl))))) rfl
theorem mw_783 : (Jvm.Cond.methodLink "MaterialBarsModel" (156 : Nat) ({ cls := "MaterialBarsModel", name := "orders", desc := "(II)Z" } : Jvm.MethodName)) ∈ T0 := T0_in (List.mem_append_right _ (List.mem_append_right _ (List.mem_append_right _ (List.mem_append_right _ (List.mem_of_getElem? (i := 63) (by decide +kernel)))))) rfl
theorem mw_785 : (Jvm.Cond.instanceMethod ({ cls := "MaterialBarsModel", name := "orders", desc := "(II)Z" } : Jvm.MethodName)) ∈ T0 := T0_in (List.mem_append_right _ (List.mem_append_right _ (List.mem_append_right _ (List.mem_append_right _ (List.mem_of_getElem? (i := 65) (by decide +kernel)))))) rfl
theorem mw_786 : (Jvm.Cond.code ({ cls := "MaterialBarsModel", name := "orders", desc := "(II)Z" } : Jvm.MethodName) prog_7_method_35_code (6 : Nat) (Option.some Jvm.ClassFile.FieldType.boolean)) ∈ T0 := T0_in (List.mem_append_right _ (List.mem_append_right _ (List.mem_append_right _ (List.mem_append_right _ (List.mem_of_getElem? (i := 66) rfl))))) rfl
theorem mw_787 : (Jvm.Cond.methodLink "MaterialBarsModel" (147 : Nat) ({ cls := "MaterialBarsModel", name := "methodsOf", desc := "(II)I" } : Jvm.MethodName)) ∈ T0 := T0_in (List.mem_append_right _ (List.mem_append_right _ (List.mem_append_right _ (List.mem_append_right _ (List.mem_of_getElem? (i := 67) (by decide +kernel)))))) rfl
theorem mw_789 : (Jvm.Cond.instanceMethod ({ cls := "MaterialBarsModel", name := "methodsOf", desc := "(II)I" } : Jvm.MethodName)) ∈ T0 := T0_in (List.mem_append_right _ (List.mem_append_right _ (List.mem_append_right _ (List.mem_append_right _ (List.mem_of_getElem? (i := 69) (by decide +kernel)))))) rfl
theorem mw_790 : (Jvm.Cond.code ({ cls := "MaterialBarsModel", name := "methodsOf", desc := "(II)I" } : Jvm.MethodName) prog_7_method_33_code (5 : Nat) (Option.some Jvm.ClassFile.FieldType.int)) ∈ T0 := T0_in (List.mem_append_right _ (List.mem_append_right _ (List.mem_append_right _ (List.mem_append_right _ (List.mem_of_getElem? (i := 70) rfl))))) rfl
theorem mw_791 : (Jvm.Cond.methodLink "MaterialBarsModel" (150 : Nat) ({ cls := "MaterialBarsModel", name := "mayCome", desc := "(III)Z" } : Jvm.MethodName)) ∈ T0 := T0_in (List.mem_append_right _ (List.mem_append_right _ (List.mem_append_right _ (List.mem_append_right _ (List.mem_of_getElem? (i := 71) (by decide +kernel)))))) rfl
theorem mw_793 : (Jvm.Cond.instanceMethod ({ cls := "MaterialBarsModel", name := "mayCome", desc := "(III)Z" } : Jvm.MethodName)) ∈ T0 := T0_in (List.mem_append_right _ (List.mem_append_right _ (List.mem_append_right _ (List.mem_append_right _ (List.mem_of_getElem? (i := 73) (by decide +kernel)))))) rfl
theorem mw_794 : (Jvm.Cond.code ({ cls := "MaterialBarsModel", name := "mayCome", desc := "(III)Z" } : Jvm.MethodName) prog_7_method_32_code (7 : Nat) (Option.some Jvm.ClassFile.FieldType.boolean)) ∈ T0 := T0_in (List.mem_append_right _ (List.mem_append_right _ (List.mem_append_right _ (List.mem_append_right _ (List.mem_of_getElem? (i := 74) rfl))))) rfl
theorem mw_795 : (Jvm.Cond.methodLink "MaterialBarsLaw" (138 : Nat) ({ cls := "MaterialBarsModel", name := "step", desc := "(I)I" } : Jvm.MethodName)) ∈ T0 := T0_in (List.mem_append_right _ (List.mem_append_right _ (List.mem_append_right _ (List.mem_append_right _ (List.mem_of_getElem? (i := 75) (by decide +kernel)))))) rfl
theorem mw_796 : (Jvm.Cond.instanceMethod ({ cls := "MaterialBarsModel", name := "step", desc := "(I)I" } : Jvm.MethodName)) ∈ T0 := T0_in (List.mem_append_right _ (List.mem_append_right _ (List.mem_append_right _ (List.mem_append_right _ (List.mem_of_getElem? (i := 76) (by decide +kernel)))))) rfl
theorem mw_797 : (Jvm.Cond.selects "MaterialBarsModel" ({ cls := "MaterialBarsModel", name := "step", desc := "(I)I" } : Jvm.MethodName) ({ cls := "MaterialBarsModel", name := "step", desc := "(I)I" } : Jvm.MethodName)) ∈ T0 := T0_in (List.mem_append_right _ (List.mem_append_right _ (List.mem_append_right _ (List.mem_append_right _ (List.mem_of_getElem? (i := 77) (by decide +kernel)))))) rfl
theorem mw_798 : (Jvm.Cond.code ({ cls := "MaterialBarsModel", name := "step", desc := "(I)I" } : Jvm.MethodName) prog_7_method_37_code (2 : Nat) (Option.some Jvm.ClassFile.FieldType.int)) ∈ T0 := T0_in (List.mem_append_right _ (List.mem_append_right _ (List.mem_append_right _ (List.mem_append_right _ (List.mem_of_getElem? (i := 78) rfl))))) rfl
theorem mw_799 : (Jvm.Cond.methodLink "MaterialBarsLaw" (141 : Nat) ({ cls := "MaterialBarsModel", name := "count", desc := "(I)I" } : Jvm.MethodName)) ∈ T0 := T0_in (List.mem_append_right _ (List.mem_append_right _ (List.mem_append_right _ (List.mem_append_right _ (List.mem_of_getElem? (i := 79) (by decide +kernel)))))) rfl
theorem mw_800 : (Jvm.Cond.instanceMethod ({ cls := "MaterialBarsModel", name := "count", desc := "(I)I" } : Jvm.MethodName)) ∈ T0 := T0_in (List.mem_append_right _ (List.mem_append_right _ (List.mem_append_right _ (List.mem_append_right _ (List.mem_of_getElem? (i := 80) (by decide +kernel)))))) rfl
theorem mw_801 : (Jvm.Cond.selects "MaterialBarsModel" ({ cls := "MaterialBarsModel", name := "count", desc := "(I)I" } : Jvm.MethodName) ({ cls := "MaterialBarsModel", name := "count", desc := "(I)I" } : Jvm.MethodName)) ∈ T0 := T0_in (List.mem_append_right _ (List.mem_append_right _ (List.mem_append_right _ (List.mem_append_right _ (List.mem_of_getElem? (i := 81) (by decide +kernel)))))) rfl
theorem mw_802 : (Jvm.Cond.code ({ cls := "MaterialBarsModel", name := "count", desc := "(I)I" } : Jvm.MethodName) prog_7_method_38_code (4 : Nat) (Option.some Jvm.ClassFile.FieldType.int)) ∈ T0 := T0_in (List.mem_append_right _ (List.mem_append_right _ (List.mem_append_right _ (List.mem_append_right _ (List.mem_of_getElem? (i := 82) rfl))))) rfl
theorem mw_803 : (Jvm.Cond.sameMethod "java/lang/Throwable" "java/lang/Throwable" "fillInStackTrace" "(I)Ljava/lang/Throwable;") ∈ T0 := T0_in (List.mem_append_right _ (List.mem_append_right _ (List.mem_append_right _ (List.mem_append_right _ (List.mem_of_getElem? (i := 83) (by decide +kernel)))))) rfl
theorem ms_0 : Cond.selects "java/lang/Throwable" ⟨"java/lang/Throwable", "fillInStackTrace", "(I)Ljava/lang/Throwable;"⟩ ⟨"java/lang/Throwable", "fillInStackTrace", "(I)Ljava/lang/Throwable;"⟩ ∈ T0 := T0_in (List.mem_append_left _ (by decide +kernel)) rfl
theorem ms_1 : Cond.selects "MaterialBars$Pad" ⟨"MaterialBars$Pad", "take", "(I)Z"⟩ ⟨"MaterialBars$Pad", "take", "(I)Z"⟩ ∈ T0 := T0_in (List.mem_append_left _ (by decide +kernel)) rfl
theorem ms_2 : Cond.selects "MaterialBars$Pad" ⟨"MaterialBars$Pad", "signHere", "()I"⟩ ⟨"MaterialBars$Pad", "signHere", "()I"⟩ ∈ T0 := T0_in (List.mem_append_left _ (by decide +kernel)) rfl
theorem ms_3 : Cond.selects "MaterialBars$Pad" ⟨"MaterialBars$Pad", "readClause", "(LMaterialBars$Method;)Z"⟩ ⟨"MaterialBars$Pad", "readClause", "(LMaterialBars$Method;)Z"⟩ ∈ T0 := T0_in (List.mem_append_left _ (by decide +kernel)) rfl
theorem ms_4 : Cond.selects "MaterialBars$Pad" ⟨"MaterialBars$Pad", "readUse", "(LMaterialBars$Method;)Z"⟩ ⟨"MaterialBars$Pad", "readUse", "(LMaterialBars$Method;)Z"⟩ ∈ T0 := T0_in (List.mem_append_left _ (by decide +kernel)) rfl
theorem ms_5 : Cond.selects "MaterialBars$Pad" ⟨"MaterialBars$Pad", "readNumber", "(II)I"⟩ ⟨"MaterialBars$Pad", "readNumber", "(II)I"⟩ ∈ T0 := T0_in (List.mem_append_left _ (by decide +kernel)) rfl
theorem ms_6 : Cond.selects "MaterialBars$Pad" ⟨"MaterialBars$Pad", "readBar", "(LMaterialBars$Method;)Z"⟩ ⟨"MaterialBars$Pad", "readBar", "(LMaterialBars$Method;)Z"⟩ ∈ T0 := T0_in (List.mem_append_left _ (by decide +kernel)) rfl
theorem ms_7 : Cond.selects "MaterialBars$Pad" ⟨"MaterialBars$Pad", "readNotBehind", "(LMaterialBars$Method;)Z"⟩ ⟨"MaterialBars$Pad", "readNotBehind", "(LMaterialBars$Method;)Z"⟩ ∈ T0 := T0_in (List.mem_append_left _ (by decide +kernel)) rfl
theorem ms_8 : Cond.selects "MaterialBars$Pad" ⟨"MaterialBars$Pad", "readAfter", "(LMaterialBars$Method;)Z"⟩ ⟨"MaterialBars$Pad", "readAfter", "(LMaterialBars$Method;)Z"⟩ ∈ T0 := T0_in (List.mem_append_left _ (by decide +kernel)) rfl
theorem ms_9 : Cond.selects "MaterialBars" ⟨"MaterialBars", "methodAt", "(I)LMaterialBars$Method;"⟩ ⟨"MaterialBars", "methodAt", "(I)LMaterialBars$Method;"⟩ ∈ T0 := T0_in (List.mem_append_left _ (by decide +kernel)) rfl
theorem ms_10 : Cond.selects "MaterialBars" ⟨"MaterialBars", "pieceAt", "(I)LMaterialBars$Piece;"⟩ ⟨"MaterialBars", "pieceAt", "(I)LMaterialBars$Piece;"⟩ ∈ T0 := T0_in (List.mem_append_left _ (by decide +kernel)) rfl
theorem ms_11 : Cond.selects "MaterialBars" ⟨"MaterialBars", "reasonAgainst", "(LMaterialBars$Piece;LMaterialBars$Method;II)I"⟩ ⟨"MaterialBars", "reasonAgainst", "(LMaterialBars$Piece;LMaterialBars$Method;II)I"⟩ ∈ T0 := T0_in (List.mem_append_left _ (by decide +kernel)) rfl
theorem ms_12 : Cond.selects "MaterialBars" ⟨"MaterialBars", "lowestLacking", "(LMaterialBars$Method;)I"⟩ ⟨"MaterialBars", "lowestLacking", "(LMaterialBars$Method;)I"⟩ ∈ T0 := T0_in (List.mem_append_left _ (by decide +kernel)) rfl
theorem ms_13 : Cond.selects "MaterialBars" ⟨"MaterialBars", "takeWhatGoes", "(LMaterialBars$Method;)V"⟩ ⟨"MaterialBars", "takeWhatGoes", "(LMaterialBars$Method;)V"⟩ ∈ T0 := T0_in (List.mem_append_left _ (by decide +kernel)) rfl
theorem ms_14 : Cond.selects "MaterialBars" ⟨"MaterialBars", "goodAt", "(I)LMaterialBars$Good;"⟩ ⟨"MaterialBars", "goodAt", "(I)LMaterialBars$Good;"⟩ ∈ T0 := T0_in (List.mem_append_left _ (by decide +kernel)) rfl
theorem ms_15 : Cond.selects "MaterialBars" ⟨"MaterialBars", "goodsOn", "(I)I"⟩ ⟨"MaterialBars", "goodsOn", "(I)I"⟩ ∈ T0 := T0_in (List.mem_append_left _ (by decide +kernel)) rfl
theorem ms_16 : Cond.selects "MaterialBars" ⟨"MaterialBars", "withAllAhead", "(I)I"⟩ ⟨"MaterialBars", "withAllAhead", "(I)I"⟩ ∈ T0 := T0_in (List.mem_append_left _ (by decide +kernel)) rfl
theorem ms_17 : Cond.selects "MaterialBars" ⟨"MaterialBars", "eachMayBeDone", "(LMaterialBars$Piece;I)Z"⟩ ⟨"MaterialBars", "eachMayBeDone", "(LMaterialBars$Piece;I)Z"⟩ ∈ T0 := T0_in (List.mem_append_left _ (by decide +kernel)) rfl
theorem ms_18 : Cond.selects "MaterialBars" ⟨"MaterialBars", "mayBeDone", "(LMaterialBars$Piece;I)Z"⟩ ⟨"MaterialBars", "mayBeDone", "(LMaterialBars$Piece;I)Z"⟩ ∈ T0 := T0_in (List.mem_append_left _ (by decide +kernel)) rfl
theorem ms_19 : Cond.selects "MaterialBars" ⟨"MaterialBars", "putInOrder", "(II)Z"⟩ ⟨"MaterialBars", "putInOrder", "(II)Z"⟩ ∈ T0 := T0_in (List.mem_append_left _ (by decide +kernel)) rfl
theorem ms_20 : Cond.selects "MaterialBars" ⟨"MaterialBars", "lowestThatMayComeNext", "(I)I"⟩ ⟨"MaterialBars", "lowestThatMayComeNext", "(I)I"⟩ ∈ T0 := T0_in (List.mem_append_left _ (by decide +kernel)) rfl
theorem ms_21 : Cond.selects "MaterialBars" ⟨"MaterialBars", "hasToWait", "(II)Z"⟩ ⟨"MaterialBars", "hasToWait", "(II)Z"⟩ ∈ T0 := T0_in (List.mem_append_left _ (by decide +kernel)) rfl
theorem ms_22 : Cond.selects "MaterialBars" ⟨"MaterialBars", "rowsOfAll", "()I"⟩ ⟨"MaterialBars", "rowsOfAll", "()I"⟩ ∈ T0 := T0_in (List.mem_append_left _ (by decide +kernel)) rfl
theorem ms_23 : Cond.selects "MaterialBarsModel" ⟨"MaterialBarsModel", "goes", "(ZZZ)Z"⟩ ⟨"MaterialBarsModel", "goes", "(ZZZ)Z"⟩ ∈ T0 := T0_in (List.mem_append_left _ (by decide +kernel)) rfl
theorem ms_24 : Cond.selects "MaterialBarsModel" ⟨"MaterialBarsModel", "fault", "()I"⟩ ⟨"MaterialBarsModel", "fault", "()I"⟩ ∈ T0 := T0_in (List.mem_append_left _ (by decide +kernel)) rfl
theorem ms_25 : Cond.selects "MaterialBarsModel" ⟨"MaterialBarsModel", "isMethod", "(I)Z"⟩ ⟨"MaterialBarsModel", "isMethod", "(I)Z"⟩ ∈ T0 := T0_in (List.mem_append_left _ (by decide +kernel)) rfl
theorem ms_26 : Cond.selects "MaterialBarsModel" ⟨"MaterialBarsModel", "used", "(II)I"⟩ ⟨"MaterialBarsModel", "used", "(II)I"⟩ ∈ T0 := T0_in (List.mem_append_left _ (by decide +kernel)) rfl
theorem ms_27 : Cond.selects "MaterialBarsModel" ⟨"MaterialBarsModel", "isObject", "(I)Z"⟩ ⟨"MaterialBarsModel", "isObject", "(I)Z"⟩ ∈ T0 := T0_in (List.mem_append_left _ (by decide +kernel)) rfl
theorem ms_28 : Cond.selects "MaterialBarsModel" ⟨"MaterialBarsModel", "why", "(IIII)I"⟩ ⟨"MaterialBarsModel", "why", "(IIII)I"⟩ ∈ T0 := T0_in (List.mem_append_left _ (by decide +kernel)) rfl
theorem ms_29 : Cond.selects "MaterialBarsModel" ⟨"MaterialBarsModel", "barred", "(II)I"⟩ ⟨"MaterialBarsModel", "barred", "(II)I"⟩ ∈ T0 := T0_in (List.mem_append_left _ (by decide +kernel)) rfl
theorem ms_30 : Cond.selects "MaterialBarsModel" ⟨"MaterialBarsModel", "has", "(III)Z"⟩ ⟨"MaterialBarsModel", "has", "(III)Z"⟩ ∈ T0 := T0_in (List.mem_append_left _ (by decide +kernel)) rfl
theorem ms_31 : Cond.selects "MaterialBarsModel" ⟨"MaterialBarsModel", "latest", "(II)I"⟩ ⟨"MaterialBarsModel", "latest", "(II)I"⟩ ∈ T0 := T0_in (List.mem_append_left _ (by decide +kernel)) rfl
theorem ms_32 : Cond.selects "MaterialBarsModel" ⟨"MaterialBarsModel", "waits", "(IIII)Z"⟩ ⟨"MaterialBarsModel", "waits", "(IIII)Z"⟩ ∈ T0 := T0_in (List.mem_append_left _ (by decide +kernel)) rfl
theorem ms_33 : Cond.selects "MaterialBarsModel" ⟨"MaterialBarsModel", "hasPart", "(II)Z"⟩ ⟨"MaterialBarsModel", "hasPart", "(II)Z"⟩ ∈ T0 := T0_in (List.mem_append_left _ (by decide +kernel)) rfl
theorem ms_34 : Cond.selects "MaterialBarsModel" ⟨"MaterialBarsModel", "closed", "(I)I"⟩ ⟨"MaterialBarsModel", "closed", "(I)I"⟩ ∈ T0 := T0_in (List.mem_append_left _ (by decide +kernel)) rfl
theorem ms_35 : Cond.selects "MaterialBarsModel" ⟨"MaterialBarsModel", "orders", "(II)Z"⟩ ⟨"MaterialBarsModel", "orders", "(II)Z"⟩ ∈ T0 := T0_in (List.mem_append_left _ (by decide +kernel)) rfl
theorem ms_36 : Cond.selects "MaterialBarsModel" ⟨"MaterialBarsModel", "methodsOf", "(II)I"⟩ ⟨"MaterialBarsModel", "methodsOf", "(II)I"⟩ ∈ T0 := T0_in (List.mem_append_left _ (by decide +kernel)) rfl
theorem ms_37 : Cond.selects "MaterialBarsModel" ⟨"MaterialBarsModel", "mayCome", "(III)Z"⟩ ⟨"MaterialBarsModel", "mayCome", "(III)Z"⟩ ∈ T0 := T0_in (List.mem_append_left _ (by decide +kernel)) rfl
end
section
/-! Worlds by places: cell i of n lies at ad i and holds ct i. -/
def wL (n : Nat) (ad : Nat → Nat) (ct : Nat → va_E) : va_W := (List.range n).map (fun i => (ad i, ct i))
theorem wL_len {n : Nat} {ad : Nat → Nat} {ct : Nat → va_E} : (wL n ad ct).length = n := by
  simp [wL]
theorem wL_get {n : Nat} {ad : Nat → Nat} {ct : Nat → va_E} {i : Nat} (h : i < n) : (wL n ad ct)[i]? = some (ad i, ct i) := by
  unfold wL
  rw [List.getElem?_map, List.getElem?_range h]
  rfl
theorem wL_at {n : Nat} {ad : Nat → Nat} {ct : Nat → va_E} {i : Nat} {e : va_E} (h : i < n) (he : ct i = e) : (wL n ad ct)[i]? = some (ad i, e) := by
  rw [wL_get h, he]
theorem wL_out {n : Nat} {ad : Nat → Nat} {ct : Nat → va_E} {i : Nat} (h : n ≤ i) : (wL n ad ct)[i]? = none := by
  rw [List.getElem?_eq_none_iff, wL_len]; exact h
theorem wL_of {n : Nat} {ad : Nat → Nat} {ct : Nat → va_E} {i : Nat} {q : Nat × va_E} (h : (wL n ad ct)[i]? = some q) : i < n ∧ q = (ad i, ct i) := by
  rcases Nat.lt_or_ge i n with h1 | h1
  · rw [wL_get h1] at h; exact ⟨h1, (Option.some.inj h).symm⟩
  · rw [wL_out h1] at h; cases h
theorem wL_congr {n : Nat} {ad : Nat → Nat} {ct ct' : Nat → va_E} (h : ∀ i, i < n → ct i = ct' i) : wL n ad ct = wL n ad ct' := by
  unfold wL
  exact List.map_congr_left (fun i hi => by rw [h i (List.mem_range.mp hi)])
theorem wL_set {n : Nat} {ad : Nat → Nat} {ct ct' : Nat → va_E} {i : Nat} {e : va_E} (hi : i < n) (h1 : ct' i = e) (h2 : ∀ j, j < n → j ≠ i → ct' j = ct j) : (wL n ad ct).set i (ad i, e) = wL n ad ct' := by
  apply List.ext_getElem?
  intro k
  rw [List.getElem?_set]
  rcases Nat.lt_or_ge k n with hk | hk
  · by_cases hki : i = k
    · subst hki
      rw [if_pos rfl, wL_len, if_pos hk, wL_get hk, h1]
    · rw [if_neg hki, wL_get hk, wL_get hk, h2 k hk (fun h => hki h.symm)]
  · have hki : ¬ i = k := by omega
    rw [if_neg hki, wL_out hk, wL_out hk]
theorem wL_push {n : Nat} {ad : Nat → Nat} {ct : Nat → va_E} {q : Nat} {e : va_E} : wL n ad ct ++ [(q, e)] = wL (n + 1) (va_up ad n q) (va_up ct n e) := by
  unfold wL
  rw [List.range_succ, List.map_append]
  congr 1
  · exact List.map_congr_left (fun i hi => by
      have h : i ≠ n := Nat.ne_of_lt (List.mem_range.mp hi)
      rw [va_up_ne _ _ h, va_up_ne _ _ h])
  · simp [va_up_self]
/-- what a method over the world by places may change: its cells, and those that come from sz on -/
def aL (n : Nat) (ad : Nat → Nat) (sz : Nat) : Nat → Prop := fun q => (∃ i, i < n ∧ q = ad i) ∨ sz ≤ q
theorem aL_le {n : Nat} {ad : Nat → Nat} {a b : Nat} (h : a ≤ b) : ∀ q, aL n ad b q → aL n ad a q := fun q hq => by
  rcases hq with h1 | h1
  · exact Or.inl h1
  · exact Or.inr (Nat.le_trans h h1)
theorem aL_D {n : Nat} {ad : Nat → Nat} {ct : Nat → va_E} {sz : Nat} {A : Nat → Prop} (h : va_D A (wL n ad ct)) : va_D (aL n ad sz) (wL n ad ct) :=
  ⟨h.1, fun k q hk => by obtain ⟨h1, h2⟩ := wL_of hk; subst h2; exact Or.inl ⟨k, h1, rfl⟩⟩
theorem aL_D2 {n : Nat} {ad : Nat → Nat} {ct : Nat → va_E} {A B : Nat → Prop} (h : va_D A (wL n ad ct)) (hB : ∀ q, A q → B q) : va_D B (wL n ad ct) :=
  ⟨h.1, fun k q hk => hB _ (h.2 k q hk)⟩
/-! A state of a system whose objects and arrays stay: F the ints (booleans) in fields, L the longs in fields, A the ints in arrays; each by place and slot. -/
abbrev St : Type := (Nat → Nat → Int32) × (Nat → Nat → Int64) × (Nat → Nat → Int32)
def gF (σ : St) (i j : Nat) : Int32 := σ.1 i j
def gL (σ : St) (i j : Nat) : Int64 := σ.2.1 i j
def gA (σ : St) (i j : Nat) : Int32 := σ.2.2 i j
def u2 {α : Type} (f : Nat → Nat → α) (i j : Nat) (v : α) : Nat → Nat → α := fun a b => if a = i ∧ b = j then v else f a b
def sF (σ : St) (i j : Nat) (v : Int32) : St := (u2 σ.1 i j v, σ.2.1, σ.2.2)
def sL (σ : St) (i j : Nat) (v : Int64) : St := (σ.1, u2 σ.2.1 i j v, σ.2.2)
def sA (σ : St) (i j : Nat) (v : Int32) : St := (σ.1, σ.2.1, u2 σ.2.2 i j v)
theorem gF_sF (σ : St) (i j : Nat) (v : Int32) (a b : Nat) : gF (sF σ i j v) a b = if a = i ∧ b = j then v else gF σ a b := rfl
theorem gF_sL (σ : St) (i j : Nat) (v : Int64) (a b : Nat) : gF (sL σ i j v) a b = gF σ a b := rfl
theorem gF_sA (σ : St) (i j : Nat) (v : Int32) (a b : Nat) : gF (sA σ i j v) a b = gF σ a b := rfl
theorem gL_sF (σ : St) (i j : Nat) (v : Int32) (a b : Nat) : gL (sF σ i j v) a b = gL σ a b := rfl
theorem gL_sL (σ : St) (i j : Nat) (v : Int64) (a b : Nat) : gL (sL σ i j v) a b = if a = i ∧ b = j then v else gL σ a b := rfl
theorem gL_sA (σ : St) (i j : Nat) (v : Int32) (a b : Nat) : gL (sA σ i j v) a b = gL σ a b := rfl
theorem gA_sF (σ : St) (i j : Nat) (v : Int32) (a b : Nat) : gA (sF σ i j v) a b = gA σ a b := rfl
theorem gA_sL (σ : St) (i j : Nat) (v : Int64) (a b : Nat) : gA (sL σ i j v) a b = gA σ a b := rfl
theorem gA_sA (σ : St) (i j : Nat) (v : Int32) (a b : Nat) : gA (sA σ i j v) a b = if a = i ∧ b = j then v else gA σ a b := rfl
/-- place i holds the same in both -/
def same (σ τ : St) (i : Nat) : Prop := (∀ j, gF τ i j = gF σ i j) ∧ (∀ j, gL τ i j = gL σ i j) ∧ gA τ i = gA σ i
theorem same_sF {σ : St} {p j : Nat} {v : Int32} {i : Nat} (h : i ≠ p) : same σ (sF σ p j v) i :=
  ⟨fun b => by rw [gF_sF, if_neg (fun q => h q.1)], fun b => rfl, rfl⟩
theorem same_sL {σ : St} {p j : Nat} {v : Int64} {i : Nat} (h : i ≠ p) : same σ (sL σ p j v) i :=
  ⟨fun b => rfl, fun b => by rw [gL_sL, if_neg (fun q => h q.1)], rfl⟩
theorem same_sA {σ : St} {p j : Nat} {v : Int32} {i : Nat} (h : i ≠ p) : same σ (sA σ p j v) i :=
  ⟨fun b => rfl, fun b => rfl, by funext b; rw [gA_sA, if_neg (fun q => h q.1)]⟩
theorem gA_upd (σ : St) (p j : Nat) (v : Int32) : gA (sA σ p j v) p = upd (gA σ p) j v := by
  funext b
  rw [gA_sA]
  by_cases h : b = j
  · subst h; rw [if_pos ⟨rfl, rfl⟩]; exact pk_us.symm
  · rw [if_neg (fun q => h q.2)]; exact (pk_un h).symm
/-! A call on a part of the world: the rest stays. -/
theorem join_R {D : va_G} {cl : List vw_C} {A0 A1 : Nat → Prop} {w1 w1' w2 : va_W} {H H1 : Heap} (hP : va_P D cl (w2 ++ w1) H) (hD : va_D A0 (w2 ++ w1)) (hA1 : ∀ q, A1 q → (∃ (k : Nat) (e : va_E), w1[k]? = some (q, e)) ∨ H.size ≤ q) (hA0 : ∀ q, A1 q → A0 q) (hk : ∀ q : Nat, q < H.size → ¬ A1 q → H1[q]? = H[q]?) (hP1 : va_P D cl w1' H1) (hD1 : va_D A1 w1') : va_P D cl (w2 ++ w1') H1 ∧ va_D A0 (w2 ++ w1') := by
  have no : ∀ (k : Nat) (q : Nat × va_E), w2[k]? = some q → ¬ A1 q.1 := by
    intro k q hq hA
    have hlt : k < w2.length := (List.getElem?_eq_some_iff.mp hq).1
    have hq2 : (w2 ++ w1)[k]? = some q := by rw [List.getElem?_append_left hlt]; exact hq
    rcases hA1 _ hA with ⟨j, e, he⟩ | h
    · have hj : (w2 ++ w1)[w2.length + j]? = some (q.1, e) := by rw [List.getElem?_append_right (Nat.le_add_right _ _), Nat.add_sub_cancel_left]; exact he
      have := hD.1 _ _ _ _ hq2 hj rfl
      omega
    · exact absurd (hP _ _ hq2).lt (Nat.not_lt.mpr h)
  refine ⟨?_, ?_, ?_⟩
  · intro k q hq
    rcases Nat.lt_or_ge k w2.length with h | h
    · rw [List.getElem?_append_left h] at hq
      have hq2 : (w2 ++ w1)[k]? = some q := by rw [List.getElem?_append_left h]; exact hq
      exact (hP _ _ hq2).kept (hk _ (hP _ _ hq2).lt (no k q hq))
    · rw [List.getElem?_append_right h] at hq
      exact hP1 _ _ hq
  · intro i j p q hp hq e
    rcases Nat.lt_or_ge i w2.length with h | h <;> rcases Nat.lt_or_ge j w2.length with h' | h'
    · rw [List.getElem?_append_left h] at hp
      rw [List.getElem?_append_left h'] at hq
      exact hD.1 i j p q (by rw [List.getElem?_append_left h]; exact hp) (by rw [List.getElem?_append_left h']; exact hq) e
    · rw [List.getElem?_append_left h] at hp
      rw [List.getElem?_append_right h'] at hq
      exact absurd (by rw [e]; exact hD1.2 _ _ hq) (no _ _ hp)
    · rw [List.getElem?_append_right h] at hp
      rw [List.getElem?_append_left h'] at hq
      exact absurd (by rw [← e]; exact hD1.2 _ _ hp) (no _ _ hq)
    · rw [List.getElem?_append_right h] at hp
      rw [List.getElem?_append_right h'] at hq
      have := hD1.1 _ _ _ _ hp hq e
      omega
  · intro k q hq
    rcases Nat.lt_or_ge k w2.length with h | h
    · rw [List.getElem?_append_left h] at hq
      exact hD.2 k q (by rw [List.getElem?_append_left h]; exact hq)
    · rw [List.getElem?_append_right h] at hq
      exact hA0 _ (hD1.2 _ _ hq)
/-! combinators of the mirrors -/
def vb {α β : Type} (x : α) (k : α → β) : β := k x
theorem vb_eq {α β : Type} (x : α) (k : α → β) : vb x k = k x := rfl
def pb {α β γ : Type} (x : α × β) (k : α → β → γ) : γ := k x.1 x.2
theorem pb_id {α β : Type} (x : α × β) : pb x (fun a b => (a, b)) = x := rfl
theorem pb_mk {α β γ : Type} (a : α) (b : β) (k : α → β → γ) : pb (a, b) k = k a b := rfl
theorem namedQ {p : Program} {l : Launch} {e : Env} {R : Room} {s : State} {m : MethodId} {args : Array Value} {below : List Frame} {meth : Method} {c : Code} {H : Heap} {locs : List Loc} {cells slots : Nat} {Q : State → Prop} {g : JFrame} (h : ∀ Q', Q' = Q → W p l e R s m args below meth c H locs cells slots Q' g) : W p l e R s m args below meth c H locs cells slots Q g := h Q rfl
def cpA (σ : St) (a b sp dp n : Nat) : St := (σ.1, σ.2.1, fun p => if p = b then va_cpy (σ.2.2 a) (σ.2.2 b) sp dp n else σ.2.2 p)
def xb {α β : Type} (x : Except String α) (k : α → Except String β) : Except String β := match x with
  | .error e => .error e
  | .ok a => k a
theorem xb_ok {α β : Type} (a : α) (k : α → Except String β) : xb (.ok a) k = k a := rfl
theorem xb_er {α β : Type} (e : String) (k : α → Except String β) : xb (.error e) k = .error e := rfl
end
section
/-! The component: 96 places in the order in which its constructor makes them; kinds by place. -/
def pMe (i : Nat) : Nat := 4 + 3 * i
def pPi (i : Nat) : Nat := 41 + 4 * i
def pGo (i : Nat) : Nat := 82 + i
def kdB (p : Nat) : Nat := ([0, 1, 2, 3, 4, 5, 5, 4, 5, 5, 4, 5, 5, 4, 5, 5, 4, 5, 5, 4, 5, 5, 4, 5, 5, 4, 5, 5, 4, 5, 5, 4, 5, 5, 4, 5, 5, 4, 5, 5, 6, 7, 8, 9, 5, 7, 8, 9, 5, 7, 8, 9, 5, 7, 8, 9, 5, 7, 8, 9, 5, 7, 8, 9, 5, 7, 8, 9, 5, 7, 8, 9, 5, 7, 8, 9, 5, 7, 8, 9, 5, 10, 11, 11, 11, 11, 11, 11, 11, 11, 11, 11, 11, 11, 12, 12] : List Nat).getD p 99
def fMB (ad : Nat → Nat) (σ : St) (q : Nat) : List Value := [.ref (ad 1), .ref (ad 3), .ref (ad 40), .ref (ad 81), .ref (ad 94), .ref (ad 95), .int (gF σ q 6), .int (gF σ q 7), .int (gF σ q 8)]
def fPad (ad : Nat → Nat) (σ : St) (q : Nat) : List Value := [.ref (ad 2), .int (gF σ q 1), .int (gF σ q 2)]
def fMe (ad : Nat → Nat) (σ : St) (q : Nat) : List Value := [.ref (ad (q + 1)), .ref (ad (q + 2)), .int (gF σ q 2), .int (gF σ q 3), .int (gF σ q 4), .int (gF σ q 5), .int (gF σ q 6), .int (gF σ q 7), .int (gF σ q 8)]
def fPi (ad : Nat → Nat) (σ : St) (q : Nat) : List Value := [.ref (ad (q + 1)), .ref (ad (q + 2)), .ref (ad (q + 3)), .int (gF σ q 3), .int (gF σ q 4), .int (gF σ q 5), .int (gF σ q 6), .int (gF σ q 7)]
def fGo (ad : Nat → Nat) (σ : St) (q : Nat) : List Value := [.int (gF σ q 0), .long (gL σ q 1), .long (gL σ q 2), .int (gF σ q 3), .int (gF σ q 4)]
def ctB (ad : Nat → Nat) (kk : Nat → ClassId) (σ : St) (q : Nat) : va_E := match kdB q with
  | 0 => .inr (4, fMB ad σ q)
  | 1 => .inr (2, fPad ad σ q)
  | 4 => .inr (1, fMe ad σ q)
  | 7 => .inr (3, fPi ad σ q)
  | 11 => .inr (0, fGo ad σ q)
  | 2 => .inl (kk 0, 50, .inl (gA σ q))
  | 5 => .inl (kk 0, 12, .inl (gA σ q))
  | 8 => .inl (kk 0, 8, .inl (gA σ q))
  | 9 => .inl (kk 0, 120, .inl (gA σ q))
  | 12 => .inl (kk 0, 10, .inl (gA σ q))
  | 3 => .inl (kk 1, 12, .inr (.inr (.inr (.inr (fun j => some (ad (pMe j)))))))
  | 6 => .inl (kk 2, 10, .inr (.inr (.inr (.inr (fun j => some (ad (pPi j)))))))
  | 10 => .inl (kk 3, 12, .inr (.inr (.inr (.inr (fun j => some (ad (pGo j)))))))
  | _ => .inl (kk 0, 0, .inl (gA σ q))
def wB (ad : Nat → Nat) (kk : Nat → ClassId) (σ : St) : va_W := wL 96 ad (ctB ad kk σ)
def tyB (kk : Nat → ClassId) : List (ClassId × FieldType) := [(kk 0, .int), (kk 1, .object "MaterialBars$Method"), (kk 2, .object "MaterialBars$Piece"), (kk 3, .object "MaterialBars$Good")]
theorem ctB_same {ad : Nat → Nat} {kk : Nat → ClassId} {σ τ : St} {q : Nat} (h : same σ τ q) : ctB ad kk τ q = ctB ad kk σ q := by
  obtain ⟨h1, h2, h3⟩ := h
  simp only [ctB, fMB, fPad, fMe, fPi, fGo, h1, h2, h3]
theorem wB_set {ad : Nat → Nat} {kk : Nat → ClassId} {σ τ : St} {q : Nat} {e : va_E} (hq : q < 96) (h1 : ctB ad kk τ q = e) (h2 : ∀ j, j ≠ q → same σ τ j) : (wB ad kk σ).set q (ad q, e) = wB ad kk τ :=
  wL_set hq h1 (fun j _ hj => ctB_same (h2 j hj))
theorem ct_MB {ad : Nat → Nat} {kk : Nat → ClassId} {σ : St} : ctB ad kk σ 0 = .inr (4, fMB ad σ 0) := by
  unfold ctB; rw [(by decide : kdB 0 = 0)]; rfl
theorem g_MB {ad : Nat → Nat} {kk : Nat → ClassId} {σ : St} : (wB ad kk σ)[0]? = some (ad 0, .inr (4, fMB ad σ 0)) := wL_at (by decide) ct_MB
theorem s_MB_6 {ad : Nat → Nat} {kk : Nat → ClassId} {σ : St} {v : Int32} : (wB ad kk σ).set 0 (ad 0, .inr (4, (fMB ad σ 0).set 6 (.int v))) = wB ad kk (sF σ 0 6 v) :=
  wB_set (by decide) (by rw [ct_MB]; simp [fMB, gF_sF, gL_sF]) (fun j hj => same_sF hj)
theorem s_MB_7 {ad : Nat → Nat} {kk : Nat → ClassId} {σ : St} {v : Int32} : (wB ad kk σ).set 0 (ad 0, .inr (4, (fMB ad σ 0).set 7 (.int v))) = wB ad kk (sF σ 0 7 v) :=
  wB_set (by decide) (by rw [ct_MB]; simp [fMB, gF_sF, gL_sF]) (fun j hj => same_sF hj)
theorem s_MB_8 {ad : Nat → Nat} {kk : Nat → ClassId} {σ : St} {v : Int32} : (wB ad kk σ).set 0 (ad 0, .inr (4, (fMB ad σ 0).set 8 (.int v))) = wB ad kk (sF σ 0 8 v) :=
  wB_set (by decide) (by rw [ct_MB]; simp [fMB, gF_sF, gL_sF]) (fun j hj => same_sF hj)
theorem ct_Pad {ad : Nat → Nat} {kk : Nat → ClassId} {σ : St} : ctB ad kk σ 1 = .inr (2, fPad ad σ 1) := by
  unfold ctB; rw [(by decide : kdB 1 = 1)]; rfl
theorem g_Pad {ad : Nat → Nat} {kk : Nat → ClassId} {σ : St} : (wB ad kk σ)[1]? = some (ad 1, .inr (2, fPad ad σ 1)) := wL_at (by decide) ct_Pad
theorem s_Pad_1 {ad : Nat → Nat} {kk : Nat → ClassId} {σ : St} {v : Int32} : (wB ad kk σ).set 1 (ad 1, .inr (2, (fPad ad σ 1).set 1 (.int v))) = wB ad kk (sF σ 1 1 v) :=
  wB_set (by decide) (by rw [ct_Pad]; simp [fPad, gF_sF, gL_sF]) (fun j hj => same_sF hj)
theorem s_Pad_2 {ad : Nat → Nat} {kk : Nat → ClassId} {σ : St} {v : Int32} : (wB ad kk σ).set 1 (ad 1, .inr (2, (fPad ad σ 1).set 2 (.int v))) = wB ad kk (sF σ 1 2 v) :=
  wB_set (by decide) (by rw [ct_Pad]; simp [fPad, gF_sF, gL_sF]) (fun j hj => same_sF hj)
theorem kd_Me : ∀ i, i < 12 → kdB (pMe i) = 4 ∧ pMe i < 96 := by decide
theorem ct_Me {ad : Nat → Nat} {kk : Nat → ClassId} {σ : St} {i : Nat} (hi : i < 12) : ctB ad kk σ (pMe i) = .inr (1, fMe ad σ (pMe i)) := by
  unfold ctB; rw [(kd_Me i hi).1]; rfl
theorem g_Me {ad : Nat → Nat} {kk : Nat → ClassId} {σ : St} {i : Nat} (hi : i < 12) : (wB ad kk σ)[pMe i]? = some (ad (pMe i), .inr (1, fMe ad σ (pMe i))) := wL_at (kd_Me i hi).2 (ct_Me hi)
theorem s_Me_2 {ad : Nat → Nat} {kk : Nat → ClassId} {σ : St} {i : Nat} (hi : i < 12) {v : Int32} : (wB ad kk σ).set (pMe i) (ad (pMe i), .inr (1, (fMe ad σ (pMe i)).set 2 (.int v))) = wB ad kk (sF σ (pMe i) 2 v) :=
  wB_set (kd_Me i hi).2 (by rw [ct_Me hi]; simp [fMe, gF_sF, gL_sF]) (fun j hj => same_sF hj)
theorem s_Me_3 {ad : Nat → Nat} {kk : Nat → ClassId} {σ : St} {i : Nat} (hi : i < 12) {v : Int32} : (wB ad kk σ).set (pMe i) (ad (pMe i), .inr (1, (fMe ad σ (pMe i)).set 3 (.int v))) = wB ad kk (sF σ (pMe i) 3 v) :=
  wB_set (kd_Me i hi).2 (by rw [ct_Me hi]; simp [fMe, gF_sF, gL_sF]) (fun j hj => same_sF hj)
theorem s_Me_4 {ad : Nat → Nat} {kk : Nat → ClassId} {σ : St} {i : Nat} (hi : i < 12) {v : Int32} : (wB ad kk σ).set (pMe i) (ad (pMe i), .inr (1, (fMe ad σ (pMe i)).set 4 (.int v))) = wB ad kk (sF σ (pMe i) 4 v) :=
  wB_set (kd_Me i hi).2 (by rw [ct_Me hi]; simp [fMe, gF_sF, gL_sF]) (fun j hj => same_sF hj)
theorem s_Me_5 {ad : Nat → Nat} {kk : Nat → ClassId} {σ : St} {i : Nat} (hi : i < 12) {v : Int32} : (wB ad kk σ).set (pMe i) (ad (pMe i), .inr (1, (fMe ad σ (pMe i)).set 5 (.int v))) = wB ad kk (sF σ (pMe i) 5 v) :=
  wB_set (kd_Me i hi).2 (by rw [ct_Me hi]; simp [fMe, gF_sF, gL_sF]) (fun j hj => same_sF hj)
theorem s_Me_6 {ad : Nat → Nat} {kk : Nat → ClassId} {σ : St} {i : Nat} (hi : i < 12) {v : Int32} : (wB ad kk σ).set (pMe i) (ad (pMe i), .inr (1, (fMe ad σ (pMe i)).set 6 (.int v))) = wB ad kk (sF σ (pMe i) 6 v) :=
  wB_set (kd_Me i hi).2 (by rw [ct_Me hi]; simp [fMe, gF_sF, gL_sF]) (fun j hj => same_sF hj)
theorem s_Me_7 {ad : Nat → Nat} {kk : Nat → ClassId} {σ : St} {i : Nat} (hi : i < 12) {v : Int32} : (wB ad kk σ).set (pMe i) (ad (pMe i), .inr (1, (fMe ad σ (pMe i)).set 7 (.int v))) = wB ad kk (sF σ (pMe i) 7 v) :=
  wB_set (kd_Me i hi).2 (by rw [ct_Me hi]; simp [fMe, gF_sF, gL_sF]) (fun j hj => same_sF hj)
theorem s_Me_8 {ad : Nat → Nat} {kk : Nat → ClassId} {σ : St} {i : Nat} (hi : i < 12) {v : Int32} : (wB ad kk σ).set (pMe i) (ad (pMe i), .inr (1, (fMe ad σ (pMe i)).set 8 (.int v))) = wB ad kk (sF σ (pMe i) 8 v) :=
  wB_set (kd_Me i hi).2 (by rw [ct_Me hi]; simp [fMe, gF_sF, gL_sF]) (fun j hj => same_sF hj)
theorem kd_Pi : ∀ i, i < 10 → kdB (pPi i) = 7 ∧ pPi i < 96 := by decide
theorem ct_Pi {ad : Nat → Nat} {kk : Nat → ClassId} {σ : St} {i : Nat} (hi : i < 10) : ctB ad kk σ (pPi i) = .inr (3, fPi ad σ (pPi i)) := by
  unfold ctB; rw [(kd_Pi i hi).1]; rfl
theorem g_Pi {ad : Nat → Nat} {kk : Nat → ClassId} {σ : St} {i : Nat} (hi : i < 10) : (wB ad kk σ)[pPi i]? = some (ad (pPi i), .inr (3, fPi ad σ (pPi i))) := wL_at (kd_Pi i hi).2 (ct_Pi hi)
theorem s_Pi_3 {ad : Nat → Nat} {kk : Nat → ClassId} {σ : St} {i : Nat} (hi : i < 10) {v : Int32} : (wB ad kk σ).set (pPi i) (ad (pPi i), .inr (3, (fPi ad σ (pPi i)).set 3 (.int v))) = wB ad kk (sF σ (pPi i) 3 v) :=
  wB_set (kd_Pi i hi).2 (by rw [ct_Pi hi]; simp [fPi, gF_sF, gL_sF]) (fun j hj => same_sF hj)
theorem s_Pi_4 {ad : Nat → Nat} {kk : Nat → ClassId} {σ : St} {i : Nat} (hi : i < 10) {v : Int32} : (wB ad kk σ).set (pPi i) (ad (pPi i), .inr (3, (fPi ad σ (pPi i)).set 4 (.int v))) = wB ad kk (sF σ (pPi i) 4 v) :=
  wB_set (kd_Pi i hi).2 (by rw [ct_Pi hi]; simp [fPi, gF_sF, gL_sF]) (fun j hj => same_sF hj)
theorem s_Pi_5 {ad : Nat → Nat} {kk : Nat → ClassId} {σ : St} {i : Nat} (hi : i < 10) {v : Int32} : (wB ad kk σ).set (pPi i) (ad (pPi i), .inr (3, (fPi ad σ (pPi i)).set 5 (.int v))) = wB ad kk (sF σ (pPi i) 5 v) :=
  wB_set (kd_Pi i hi).2 (by rw [ct_Pi hi]; simp [fPi, gF_sF, gL_sF]) (fun j hj => same_sF hj)
theorem s_Pi_6 {ad : Nat → Nat} {kk : Nat → ClassId} {σ : St} {i : Nat} (hi : i < 10) {v : Int32} : (wB ad kk σ).set (pPi i) (ad (pPi i), .inr (3, (fPi ad σ (pPi i)).set 6 (.int v))) = wB ad kk (sF σ (pPi i) 6 v) :=
  wB_set (kd_Pi i hi).2 (by rw [ct_Pi hi]; simp [fPi, gF_sF, gL_sF]) (fun j hj => same_sF hj)
theorem s_Pi_7 {ad : Nat → Nat} {kk : Nat → ClassId} {σ : St} {i : Nat} (hi : i < 10) {v : Int32} : (wB ad kk σ).set (pPi i) (ad (pPi i), .inr (3, (fPi ad σ (pPi i)).set 7 (.int v))) = wB ad kk (sF σ (pPi i) 7 v) :=
  wB_set (kd_Pi i hi).2 (by rw [ct_Pi hi]; simp [fPi, gF_sF, gL_sF]) (fun j hj => same_sF hj)
theorem kd_Go : ∀ i, i < 12 → kdB (pGo i) = 11 ∧ pGo i < 96 := by decide
theorem ct_Go {ad : Nat → Nat} {kk : Nat → ClassId} {σ : St} {i : Nat} (hi : i < 12) : ctB ad kk σ (pGo i) = .inr (0, fGo ad σ (pGo i)) := by
  unfold ctB; rw [(kd_Go i hi).1]; rfl
theorem g_Go {ad : Nat → Nat} {kk : Nat → ClassId} {σ : St} {i : Nat} (hi : i < 12) : (wB ad kk σ)[pGo i]? = some (ad (pGo i), .inr (0, fGo ad σ (pGo i))) := wL_at (kd_Go i hi).2 (ct_Go hi)
theorem s_Go_0 {ad : Nat → Nat} {kk : Nat → ClassId} {σ : St} {i : Nat} (hi : i < 12) {v : Int32} : (wB ad kk σ).set (pGo i) (ad (pGo i), .inr (0, (fGo ad σ (pGo i)).set 0 (.int v))) = wB ad kk (sF σ (pGo i) 0 v) :=
  wB_set (kd_Go i hi).2 (by rw [ct_Go hi]; simp [fGo, gF_sF, gL_sF]) (fun j hj => same_sF hj)
theorem s_Go_1 {ad : Nat → Nat} {kk : Nat → ClassId} {σ : St} {i : Nat} (hi : i < 12) {v : Int64} : (wB ad kk σ).set (pGo i) (ad (pGo i), .inr (0, (fGo ad σ (pGo i)).set 1 (.long v))) = wB ad kk (sL σ (pGo i) 1 v) :=
  wB_set (kd_Go i hi).2 (by rw [ct_Go hi]; simp [fGo, gF_sL, gL_sL]) (fun j hj => same_sL hj)
theorem s_Go_2 {ad : Nat → Nat} {kk : Nat → ClassId} {σ : St} {i : Nat} (hi : i < 12) {v : Int64} : (wB ad kk σ).set (pGo i) (ad (pGo i), .inr (0, (fGo ad σ (pGo i)).set 2 (.long v))) = wB ad kk (sL σ (pGo i) 2 v) :=
  wB_set (kd_Go i hi).2 (by rw [ct_Go hi]; simp [fGo, gF_sL, gL_sL]) (fun j hj => same_sL hj)
theorem s_Go_3 {ad : Nat → Nat} {kk : Nat → ClassId} {σ : St} {i : Nat} (hi : i < 12) {v : Int32} : (wB ad kk σ).set (pGo i) (ad (pGo i), .inr (0, (fGo ad σ (pGo i)).set 3 (.int v))) = wB ad kk (sF σ (pGo i) 3 v) :=
  wB_set (kd_Go i hi).2 (by rw [ct_Go hi]; simp [fGo, gF_sF, gL_sF]) (fun j hj => same_sF hj)
theorem s_Go_4 {ad : Nat → Nat} {kk : Nat → ClassId} {σ : St} {i : Nat} (hi : i < 12) {v : Int32} : (wB ad kk σ).set (pGo i) (ad (pGo i), .inr (0, (fGo ad σ (pGo i)).set 4 (.int v))) = wB ad kk (sF σ (pGo i) 4 v) :=
  wB_set (kd_Go i hi).2 (by rw [ct_Go hi]; simp [fGo, gF_sF, gL_sF]) (fun j hj => same_sF hj)
theorem ct_signs {ad : Nat → Nat} {kk : Nat → ClassId} {σ : St} : ctB ad kk σ 2 = .inl (kk 0, 50, .inl (gA σ 2)) := by
  unfold ctB; rw [(by decide : kdB 2 = 2)]; rfl
theorem g_signs {ad : Nat → Nat} {kk : Nat → ClassId} {σ : St} : (wB ad kk σ)[2]? = some (ad 2, .inl (kk 0, 50, .inl (gA σ 2))) := wL_at (by decide) (ct_signs)
theorem s_signs {ad : Nat → Nat} {kk : Nat → ClassId} {σ : St} {j : Nat} {v : Int32} : (wB ad kk σ).set 2 (ad 2, .inl (kk 0, 50, .inl (upd (gA σ 2) j v))) = wB ad kk (sA σ 2 j v) :=
  wB_set (by decide) (by rw [ct_signs, gA_upd]) (fun j hj => same_sA hj)
theorem kd_Ma : ∀ i, i < 12 → kdB (pMe i + 1) = 5 ∧ pMe i + 1 < 96 := by decide
theorem ct_Ma {ad : Nat → Nat} {kk : Nat → ClassId} {σ : St} {i : Nat} (hi : i < 12) : ctB ad kk σ (pMe i + 1) = .inl (kk 0, 12, .inl (gA σ (pMe i + 1))) := by
  unfold ctB; rw [(kd_Ma i hi).1]; rfl
theorem g_Ma {ad : Nat → Nat} {kk : Nat → ClassId} {σ : St} {i : Nat} (hi : i < 12) : (wB ad kk σ)[pMe i + 1]? = some (ad (pMe i + 1), .inl (kk 0, 12, .inl (gA σ (pMe i + 1)))) := wL_at (kd_Ma i hi).2 (ct_Ma hi)
theorem s_Ma {ad : Nat → Nat} {kk : Nat → ClassId} {σ : St} {i : Nat} (hi : i < 12) {j : Nat} {v : Int32} : (wB ad kk σ).set (pMe i + 1) (ad (pMe i + 1), .inl (kk 0, 12, .inl (upd (gA σ (pMe i + 1)) j v))) = wB ad kk (sA σ (pMe i + 1) j v) :=
  wB_set (kd_Ma i hi).2 (by rw [ct_Ma hi, gA_upd]) (fun j hj => same_sA hj)
theorem kd_Mh : ∀ i, i < 12 → kdB (pMe i + 2) = 5 ∧ pMe i + 2 < 96 := by decide
theorem ct_Mh {ad : Nat → Nat} {kk : Nat → ClassId} {σ : St} {i : Nat} (hi : i < 12) : ctB ad kk σ (pMe i + 2) = .inl (kk 0, 12, .inl (gA σ (pMe i + 2))) := by
  unfold ctB; rw [(kd_Mh i hi).1]; rfl
theorem g_Mh {ad : Nat → Nat} {kk : Nat → ClassId} {σ : St} {i : Nat} (hi : i < 12) : (wB ad kk σ)[pMe i + 2]? = some (ad (pMe i + 2), .inl (kk 0, 12, .inl (gA σ (pMe i + 2)))) := wL_at (kd_Mh i hi).2 (ct_Mh hi)
theorem s_Mh {ad : Nat → Nat} {kk : Nat → ClassId} {σ : St} {i : Nat} (hi : i < 12) {j : Nat} {v : Int32} : (wB ad kk σ).set (pMe i + 2) (ad (pMe i + 2), .inl (kk 0, 12, .inl (upd (gA σ (pMe i + 2)) j v))) = wB ad kk (sA σ (pMe i + 2) j v) :=
  wB_set (kd_Mh i hi).2 (by rw [ct_Mh hi, gA_upd]) (fun j hj => same_sA hj)
theorem kd_Pp : ∀ i, i < 10 → kdB (pPi i + 1) = 8 ∧ pPi i + 1 < 96 := by decide
theorem ct_Pp {ad : Nat → Nat} {kk : Nat → ClassId} {σ : St} {i : Nat} (hi : i < 10) : ctB ad kk σ (pPi i + 1) = .inl (kk 0, 8, .inl (gA σ (pPi i + 1))) := by
  unfold ctB; rw [(kd_Pp i hi).1]; rfl
theorem g_Pp {ad : Nat → Nat} {kk : Nat → ClassId} {σ : St} {i : Nat} (hi : i < 10) : (wB ad kk σ)[pPi i + 1]? = some (ad (pPi i + 1), .inl (kk 0, 8, .inl (gA σ (pPi i + 1)))) := wL_at (kd_Pp i hi).2 (ct_Pp hi)
theorem s_Pp {ad : Nat → Nat} {kk : Nat → ClassId} {σ : St} {i : Nat} (hi : i < 10) {j : Nat} {v : Int32} : (wB ad kk σ).set (pPi i + 1) (ad (pPi i + 1), .inl (kk 0, 8, .inl (upd (gA σ (pPi i + 1)) j v))) = wB ad kk (sA σ (pPi i + 1) j v) :=
  wB_set (kd_Pp i hi).2 (by rw [ct_Pp hi, gA_upd]) (fun j hj => same_sA hj)
theorem kd_Pr : ∀ i, i < 10 → kdB (pPi i + 2) = 9 ∧ pPi i + 2 < 96 := by decide
theorem ct_Pr {ad : Nat → Nat} {kk : Nat → ClassId} {σ : St} {i : Nat} (hi : i < 10) : ctB ad kk σ (pPi i + 2) = .inl (kk 0, 120, .inl (gA σ (pPi i + 2))) := by
  unfold ctB; rw [(kd_Pr i hi).1]; rfl
theorem g_Pr {ad : Nat → Nat} {kk : Nat → ClassId} {σ : St} {i : Nat} (hi : i < 10) : (wB ad kk σ)[pPi i + 2]? = some (ad (pPi i + 2), .inl (kk 0, 120, .inl (gA σ (pPi i + 2)))) := wL_at (kd_Pr i hi).2 (ct_Pr hi)
theorem s_Pr {ad : Nat → Nat} {kk : Nat → ClassId} {σ : St} {i : Nat} (hi : i < 10) {j : Nat} {v : Int32} : (wB ad kk σ).set (pPi i + 2) (ad (pPi i + 2), .inl (kk 0, 120, .inl (upd (gA σ (pPi i + 2)) j v))) = wB ad kk (sA σ (pPi i + 2) j v) :=
  wB_set (kd_Pr i hi).2 (by rw [ct_Pr hi, gA_upd]) (fun j hj => same_sA hj)
theorem kd_Pl : ∀ i, i < 10 → kdB (pPi i + 3) = 5 ∧ pPi i + 3 < 96 := by decide
theorem ct_Pl {ad : Nat → Nat} {kk : Nat → ClassId} {σ : St} {i : Nat} (hi : i < 10) : ctB ad kk σ (pPi i + 3) = .inl (kk 0, 12, .inl (gA σ (pPi i + 3))) := by
  unfold ctB; rw [(kd_Pl i hi).1]; rfl
theorem g_Pl {ad : Nat → Nat} {kk : Nat → ClassId} {σ : St} {i : Nat} (hi : i < 10) : (wB ad kk σ)[pPi i + 3]? = some (ad (pPi i + 3), .inl (kk 0, 12, .inl (gA σ (pPi i + 3)))) := wL_at (kd_Pl i hi).2 (ct_Pl hi)
theorem s_Pl {ad : Nat → Nat} {kk : Nat → ClassId} {σ : St} {i : Nat} (hi : i < 10) {j : Nat} {v : Int32} : (wB ad kk σ).set (pPi i + 3) (ad (pPi i + 3), .inl (kk 0, 12, .inl (upd (gA σ (pPi i + 3)) j v))) = wB ad kk (sA σ (pPi i + 3) j v) :=
  wB_set (kd_Pl i hi).2 (by rw [ct_Pl hi, gA_upd]) (fun j hj => same_sA hj)
theorem ct_planned {ad : Nat → Nat} {kk : Nat → ClassId} {σ : St} : ctB ad kk σ 94 = .inl (kk 0, 10, .inl (gA σ 94)) := by
  unfold ctB; rw [(by decide : kdB 94 = 12)]; rfl
theorem g_planned {ad : Nat → Nat} {kk : Nat → ClassId} {σ : St} : (wB ad kk σ)[94]? = some (ad 94, .inl (kk 0, 10, .inl (gA σ 94))) := wL_at (by decide) (ct_planned)
theorem s_planned {ad : Nat → Nat} {kk : Nat → ClassId} {σ : St} {j : Nat} {v : Int32} : (wB ad kk σ).set 94 (ad 94, .inl (kk 0, 10, .inl (upd (gA σ 94) j v))) = wB ad kk (sA σ 94 j v) :=
  wB_set (by decide) (by rw [ct_planned, gA_upd]) (fun j hj => same_sA hj)
theorem ct_draft {ad : Nat → Nat} {kk : Nat → ClassId} {σ : St} : ctB ad kk σ 95 = .inl (kk 0, 10, .inl (gA σ 95)) := by
  unfold ctB; rw [(by decide : kdB 95 = 12)]; rfl
theorem g_draft {ad : Nat → Nat} {kk : Nat → ClassId} {σ : St} : (wB ad kk σ)[95]? = some (ad 95, .inl (kk 0, 10, .inl (gA σ 95))) := wL_at (by decide) (ct_draft)
theorem s_draft {ad : Nat → Nat} {kk : Nat → ClassId} {σ : St} {j : Nat} {v : Int32} : (wB ad kk σ).set 95 (ad 95, .inl (kk 0, 10, .inl (upd (gA σ 95) j v))) = wB ad kk (sA σ 95 j v) :=
  wB_set (by decide) (by rw [ct_draft, gA_upd]) (fun j hj => same_sA hj)
theorem g_methods {ad : Nat → Nat} {kk : Nat → ClassId} {σ : St} : (wB ad kk σ)[3]? = some (ad 3, .inl (kk 1, 12, .inr (.inr (.inr (.inr (fun j => some (ad (pMe j)))))))) := wL_at (by decide) (by unfold ctB; rw [(by decide : kdB 3 = 3)]; rfl)
theorem g_pieces {ad : Nat → Nat} {kk : Nat → ClassId} {σ : St} : (wB ad kk σ)[40]? = some (ad 40, .inl (kk 2, 10, .inr (.inr (.inr (.inr (fun j => some (ad (pPi j)))))))) := wL_at (by decide) (by unfold ctB; rw [(by decide : kdB 40 = 6)]; rfl)
theorem g_goods {ad : Nat → Nat} {kk : Nat → ClassId} {σ : St} : (wB ad kk σ)[81]? = some (ad 81, .inl (kk 3, 12, .inr (.inr (.inr (.inr (fun j => some (ad (pGo j)))))))) := wL_at (by decide) (by unfold ctB; rw [(by decide : kdB 81 = 10)]; rfl)
theorem s_cp_draft_planned {ad : Nat → Nat} {kk : Nat → ClassId} {σ : St} {sp dp n : Nat} : (wB ad kk σ).set 94 (ad 94, .inl (kk 0, 10, .inl (va_cpy (gA σ 95) (gA σ 94) sp dp n))) = wB ad kk (cpA σ 95 94 sp dp n) :=
  wB_set (by decide) (by rw [ct_planned]; rfl) (fun j hj => ⟨fun _ => rfl, fun _ => rfl, show (if j = 94 then va_cpy (σ.2.2 95) (σ.2.2 94) sp dp n else σ.2.2 j) = σ.2.2 j from if_neg hj⟩)
end
section
def M_has (p0 : Int32) (p1 : Int32) : Int32 := (if (((p0.toUInt32 >>> (p1.toUInt32 &&& Int32.toUInt32 31)).toInt32) &&& 1) = 1 then 1 else 0)
def M_with (p0 : Int32) (p1 : Int32) (p2 : Int32) : Int32 := (if p2 = 0 then p0 &&& (((1 : Int32) <<< (p1 &&& 31)) ^^^ (-1)) else p0 ||| ((1 : Int32) <<< (p1 &&& 31)))
def M_lowest_h2 : Nat → Nat → Int32 → Int32
  | 0, _, _ => 0
  | n + 1, i102, p0 => (if 12 ≤ (nI i102) then (-1) else (if (M_has p0 (nI i102)) = 0 then (M_lowest_h2 n (i102 + 1) p0) else nI i102))
def M_lowest (p0 : Int32) : Int32 := (M_lowest_h2 13 0 p0)
def M_isDigit (p0 : Int32) : Int32 := (if p0 < 48 then 0 else (if 57 < p0 then 0 else 1))
def M_checkPlace (σ : St) (p0 : Int32) (p1 : Int32) : Except String Unit := (if p0 < 0 then (.error "java/lang/IndexOutOfBoundsException") else (if p0 < p1 then .ok () else (.error "java/lang/IndexOutOfBoundsException")))
def M_checkHour (σ : St) (p0 : Int32) (p1 : Int32) : Except String Unit := (if p0 < p1 then (.error "java/lang/IllegalArgumentException") else (if p0 ≤ 1000000 then .ok () else (.error "java/lang/IllegalArgumentException")))
def M_methodAt (σ : St) (p1 : Int32) : Except String Nat := (xb (M_checkPlace σ p1 (gF σ 0 6)) (fun _ => .ok p1.toNatClampNeg))
def M_pieceAt (σ : St) (p1 : Int32) : Except String Nat := (xb (M_checkPlace σ p1 (gF σ 0 7)) (fun _ => .ok p1.toNatClampNeg))
def M_goodAt (σ : St) (p1 : Int32) : Except String Nat := (xb (M_checkPlace σ p1 12) (fun _ => .ok p1.toNatClampNeg))
def M_changeBy (σ : St) (i0 : Nat) (p1 : Int32) : St := (if p1 ≤ 0 then (sL (sF σ (pGo i0) 0 ((gF σ (pGo i0) 0) + p1)) (pGo i0) 2 ((gL (sF σ (pGo i0) 0 ((gF σ (pGo i0) 0) + p1)) (pGo i0) 2) - p1.toInt64)) else (sL (sF σ (pGo i0) 0 ((gF σ (pGo i0) 0) + p1)) (pGo i0) 1 ((gL (sF σ (pGo i0) 0 ((gF σ (pGo i0) 0) + p1)) (pGo i0) 1) + p1.toInt64)))
def M_clear_h23 : Nat → Nat → St → Nat → St
  | 0, _, τ23, _ => τ23
  | n + 1, i123, τ23, i0 => (if 12 ≤ (nI i123) then (sF (sF (sF (sF (sF τ23 (pMe i0) 2 0) (pMe i0) 3 0) (pMe i0) 4 0) (pMe i0) 5 0) (pMe i0) 6 0) else (M_clear_h23 n (i123 + 1) (sA τ23 (pMe i0 + 2) i123 0) i0))
def M_clear_h2 : Nat → Nat → St → Nat → St
  | 0, _, τ2, _ => τ2
  | n + 1, i102, τ2, i0 => (if 12 ≤ (nI i102) then (M_clear_h23 13 0 τ2 i0) else (M_clear_h2 n (i102 + 1) (sA τ2 (pMe i0 + 1) i102 0) i0))
def M_clear (σ : St) (i0 : Nat) : St := (M_clear_h2 13 0 σ i0)
def M_addPart (σ : St) (i0 : Nat) (p1 : Int32) : Int32 × St := ((gF (sF (sF (sA σ (pPi i0 + 1) (gF σ (pPi i0) 3).toNatClampNeg p1) (pPi i0) 3 ((gF (sA σ (pPi i0 + 1) (gF σ (pPi i0) 3).toNatClampNeg p1) (pPi i0) 3) + 1)) (pPi i0) 5 (M_with (gF (sF (sA σ (pPi i0 + 1) (gF σ (pPi i0) 3).toNatClampNeg p1) (pPi i0) 3 ((gF (sA σ (pPi i0 + 1) (gF σ (pPi i0) 3).toNatClampNeg p1) (pPi i0) 3) + 1)) (pPi i0) 5) p1 1)) (pPi i0) 3) - 1, (sF (sF (sA σ (pPi i0 + 1) (gF σ (pPi i0) 3).toNatClampNeg p1) (pPi i0) 3 ((gF (sA σ (pPi i0 + 1) (gF σ (pPi i0) 3).toNatClampNeg p1) (pPi i0) 3) + 1)) (pPi i0) 5 (M_with (gF (sF (sA σ (pPi i0 + 1) (gF σ (pPi i0) 3).toNatClampNeg p1) (pPi i0) 3 ((gF (sA σ (pPi i0 + 1) (gF σ (pPi i0) 3).toNatClampNeg p1) (pPi i0) 3) + 1)) (pPi i0) 5) p1 1)))
def M_firstPartOf_h2 : Nat → Nat → St → Nat → Int32 → Int32
  | 0, _, _, _, _ => 0
  | n + 1, i102, σ, i0, p1 => (if (gF σ (pPi i0) 3) ≤ (nI i102) then (-1) else (if (M_has p1 (gA σ (pPi i0 + 1) i102)) = 0 then (M_firstPartOf_h2 n (i102 + 1) σ i0 p1) else nI i102))
def M_firstPartOf (σ : St) (i0 : Nat) (p1 : Int32) : Int32 := (M_firstPartOf_h2 9 0 σ i0 p1)
def M_addRow (σ : St) (i0 : Nat) (p1 : Int32) (p2 : Int32) (p3 : Int32) (p4 : Int32) : St := (sF (sF (sA (sF (sA (sA (sA (sA σ (pPi i0 + 2) ((gF σ (pPi i0) 4) * 4).toNatClampNeg p1) (pPi i0 + 2) (((gF σ (pPi i0) 4) * 4) + 1).toNatClampNeg p2) (pPi i0 + 2) (((gF σ (pPi i0) 4) * 4) + 2).toNatClampNeg p3) (pPi i0 + 2) (((gF σ (pPi i0) 4) * 4) + 3).toNatClampNeg p4) (pPi i0) 4 ((gF (sA (sA (sA (sA σ (pPi i0 + 2) ((gF σ (pPi i0) 4) * 4).toNatClampNeg p1) (pPi i0 + 2) (((gF σ (pPi i0) 4) * 4) + 1).toNatClampNeg p2) (pPi i0 + 2) (((gF σ (pPi i0) 4) * 4) + 2).toNatClampNeg p3) (pPi i0 + 2) (((gF σ (pPi i0) 4) * 4) + 3).toNatClampNeg p4) (pPi i0) 4) + 1)) (pPi i0 + 3) p1.toNatClampNeg p2) (pPi i0) 7 p2) (pPi i0) 6 (M_with (gF (sF (sA (sF (sA (sA (sA (sA σ (pPi i0 + 2) ((gF σ (pPi i0) 4) * 4).toNatClampNeg p1) (pPi i0 + 2) (((gF σ (pPi i0) 4) * 4) + 1).toNatClampNeg p2) (pPi i0 + 2) (((gF σ (pPi i0) 4) * 4) + 2).toNatClampNeg p3) (pPi i0 + 2) (((gF σ (pPi i0) 4) * 4) + 3).toNatClampNeg p4) (pPi i0) 4 ((gF (sA (sA (sA (sA σ (pPi i0 + 2) ((gF σ (pPi i0) 4) * 4).toNatClampNeg p1) (pPi i0 + 2) (((gF σ (pPi i0) 4) * 4) + 1).toNatClampNeg p2) (pPi i0 + 2) (((gF σ (pPi i0) 4) * 4) + 2).toNatClampNeg p3) (pPi i0 + 2) (((gF σ (pPi i0) 4) * 4) + 3).toNatClampNeg p4) (pPi i0) 4) + 1)) (pPi i0 + 3) p1.toNatClampNeg p2) (pPi i0) 7 p2) (pPi i0) 6) p1 1))
def M_signHere (σ : St)  : Int32 := (if (gF σ 1 1) ≤ (gF σ 1 2) then (-1) else gA σ 2 (gF σ 1 2).toNatClampNeg)
def M_take (σ : St) (p1 : Int32) : Int32 × St := (if (M_signHere σ) = p1 then (1, (sF σ 1 2 ((gF σ 1 2) + 1))) else (0, σ))
def M_readNumber_h5 : Nat → Nat → Int32 → St → Int32 → Int32 → Int32 × St
  | 0, _, _, τ5, _, _ => (0, τ5)
  | n + 1, i105, x5_3, τ5, p1, p2 => (if 4 ≤ (nI i105) then (if (nI i105) = 0 then ((-1), τ5) else (if p1 ≤ x5_3 then (x5_3, τ5) else ((-1), τ5))) else (if (M_isDigit (M_signHere τ5)) = 0 then (if (nI i105) = 0 then ((-1), τ5) else (if p1 ≤ x5_3 then (x5_3, τ5) else ((-1), τ5))) else (if p2 < ((x5_3 * 10) + ((M_signHere τ5) - 48)) then (if (nI i105) = 0 then ((-1), τ5) else (if p1 ≤ x5_3 then (x5_3, τ5) else ((-1), τ5))) else (if (nI i105) = 3 then (if p1 ≤ ((x5_3 * 10) + ((M_signHere τ5) - 48)) then (M_readNumber_h5 n (i105 + 1) ((x5_3 * 10) + ((M_signHere τ5) - 48)) (sF τ5 1 2 ((gF τ5 1 2) + 1)) p1 p2) else (if (nI i105) = 0 then ((-1), τ5) else (if p1 ≤ x5_3 then (x5_3, τ5) else ((-1), τ5)))) else (M_readNumber_h5 n (i105 + 1) ((x5_3 * 10) + ((M_signHere τ5) - 48)) (sF τ5 1 2 ((gF τ5 1 2) + 1)) p1 p2)))))
def M_readNumber (σ : St) (p1 : Int32) (p2 : Int32) : Int32 × St := (M_readNumber_h5 5 0 0 σ p1 p2)
def M_readUse (σ : St) (i1 : Nat) : Int32 × St := (pb (M_readNumber σ 0 11) (fun r1 σ2 => (if r1 = (-1) then (0, σ2) else (pb (M_take σ2 42) (fun r4 σ5 => (if r4 = 0 then (0, σ5) else (pb (M_readNumber σ5 1 9999) (fun r7 σ8 => (if r7 = (-1) then (0, σ8) else (1, (sA σ8 (pMe i1 + 1) r1.toNatClampNeg ((gA σ8 (pMe i1 + 1) r1.toNatClampNeg) + r7))))))))))))
def M_readBar (σ : St) (i1 : Nat) : Int32 × St := (pb (M_readNumber σ 0 9) (fun r1 σ2 => (if r1 = (-1) then (0, σ2) else (1, (sF σ2 (pMe i1) 2 (M_with (gF σ2 (pMe i1) 2) r1 1))))))
def M_readNotBehind (σ : St) (i1 : Nat) : Int32 × St := (pb (M_readNumber σ 0 11) (fun r1 σ2 => (if r1 = (-1) then (0, σ2) else (1, (sF σ2 (pMe i1) 3 (M_with (gF σ2 (pMe i1) 3) r1 1))))))
def M_readAfter (σ : St) (i1 : Nat) : Int32 × St := (pb (M_readNumber σ 0 11) (fun r1 σ2 => (if r1 = (-1) then (0, σ2) else (pb (M_take σ2 58) (fun r4 σ5 => (if r4 = 0 then (0, σ5) else (pb (M_readNumber σ5 0 9999) (fun r7 σ8 => (if r7 = (-1) then (0, σ8) else (1, (sA (sF σ8 (pMe i1) 4 (M_with (gF σ8 (pMe i1) 4) r1 1)) (pMe i1 + 2) r1.toNatClampNeg (if (gA (sF σ8 (pMe i1) 4 (M_with (gF σ8 (pMe i1) 4) r1 1)) (pMe i1 + 2) r1.toNatClampNeg) < r7 then r7 else (gA (sF σ8 (pMe i1) 4 (M_with (gF σ8 (pMe i1) 4) r1 1)) (pMe i1 + 2) r1.toNatClampNeg)))))))))))))
def M_readClause (σ : St) (i1 : Nat) : Int32 × St := (pb (M_take σ 117) (fun r1 σ2 => (if r1 = 0 then (pb (M_take σ2 98) (fun r4 σ5 => (if r4 = 0 then (pb (M_take σ5 120) (fun r7 σ8 => (if r7 = 0 then (pb (M_take σ8 97) (fun r10 σ11 => (if r10 = 0 then (pb (M_take σ11 116) (fun r13 σ14 => (if r13 = 0 then (pb (M_take σ14 105) (fun r16 σ17 => (if r16 = 0 then (0, σ17) else (1, (sF σ17 (pMe i1) 6 1))))) else (1, (sF σ14 (pMe i1) 5 1))))) else (pb (M_readAfter σ11 i1) (fun r19 σ20 => (r19, σ20)))))) else (pb (M_readNotBehind σ8 i1) (fun r21 σ22 => (r21, σ22)))))) else (pb (M_readBar σ5 i1) (fun r23 σ24 => (r23, σ24)))))) else (pb (M_readUse σ2 i1) (fun r25 σ26 => (r25, σ26))))))
def M_readText_h16 : Nat → Nat → St → Nat → Int32 × St
  | 0, _, τ16, _ => (0, τ16)
  | n + 1, i116, τ16, i1 => (if 10 ≤ (nI i116) then (0, τ16) else (if (nI i116) ≤ 0 then (pb (M_readClause τ16 i1) (fun r4 σ5 => (if r4 = 0 then (0, σ5) else (if (gF σ5 1 2) < (gF σ5 1 1) then (M_readText_h16 n (i116 + 1) σ5 i1) else (1, σ5))))) else (pb (M_take τ16 44) (fun r8 σ9 => (if r8 = 0 then (0, σ9) else (pb (M_readClause σ9 i1) (fun r11 σ12 => (if r11 = 0 then (0, σ12) else (if (gF σ12 1 2) < (gF σ12 1 1) then (M_readText_h16 n (i116 + 1) σ12 i1) else (1, σ12))))))))))
def M_readText (σ : St) (i1 : Nat) : Int32 × St := (if (gF (sF σ 1 2 0) 1 1) = 0 then (1, (sF σ 1 2 0)) else (M_readText_h16 11 0 (sF σ 1 2 0) i1))
def M_lowestNotLongEnoughAgo_h2 : Nat → Nat → St → Nat → Nat → Int32 → Int32
  | 0, _, _, _, _, _ => 0
  | n + 1, i102, σ, i1, i0, p2 => (if 12 ≤ (nI i102) then (-1) else (if (M_has (gF σ (pMe i1) 4) (nI i102)) = 0 then (M_lowestNotLongEnoughAgo_h2 n (i102 + 1) σ i1 i0 p2) else (if (M_has (gF σ (pPi i0) 6) (nI i102)) = 0 then nI i102 else (if (gA σ (pMe i1 + 2) i102) ≤ (p2 - (gA σ (pPi i0 + 3) i102)) then (M_lowestNotLongEnoughAgo_h2 n (i102 + 1) σ i1 i0 p2) else nI i102))))
def M_lowestNotLongEnoughAgo (σ : St) (i0 : Nat) (i1 : Nat) (p2 : Int32) : Int32 := (M_lowestNotLongEnoughAgo_h2 13 0 σ i1 i0 p2)
def M_lowestLacking_h2 : Nat → Nat → St → Nat → Int32
  | 0, _, _, _ => 0
  | n + 1, i102, σ, i1 => (if 12 ≤ (nI i102) then (-1) else (if (gA σ (pMe i1 + 1) i102) ≤ (gF σ (pGo i102) 0) then (M_lowestLacking_h2 n (i102 + 1) σ i1) else nI i102))
def M_lowestLacking (σ : St) (i1 : Nat) : Int32 := (M_lowestLacking_h2 13 0 σ i1)
def M_reasonAgainst (σ : St) (i1 : Nat) (i2 : Nat) (p3 : Int32) (p4 : Int32) : Int32 := (if (M_firstPartOf σ i1 (gF σ (pMe i2) 2)) = (-1) then (if (M_lowest ((gF σ (pMe i2) 3) &&& (gF σ (pPi i1) 6))) = (-1) then (if (M_lowestNotLongEnoughAgo σ i1 i2 p4) = (-1) then (if (gF σ (pMe i2) 5) = 0 then (if (-1 : Int32) = (-1) then (if (M_lowestLacking σ i2) = (-1) then (if (M_has (gF σ (pMe i2) 7) p3) = 0 then 600 else 0) else 500 + (M_lowestLacking σ i2)) else 400 + (-1)) else (if (M_lowest ((gF σ (pPi i1) 5) &&& ((gF σ (pMe i2) 8) ^^^ (-1)))) = (-1) then (if (M_lowestLacking σ i2) = (-1) then (if (M_has (gF σ (pMe i2) 7) p3) = 0 then 600 else 0) else 500 + (M_lowestLacking σ i2)) else 400 + (M_lowest ((gF σ (pPi i1) 5) &&& ((gF σ (pMe i2) 8) ^^^ (-1)))))) else 300 + (M_lowestNotLongEnoughAgo σ i1 i2 p4)) else 200 + (M_lowest ((gF σ (pMe i2) 3) &&& (gF σ (pPi i1) 6)))) else 100 + (M_firstPartOf σ i1 (gF σ (pMe i2) 2)))
def M_takeWhatGoes_h2 : Nat → Nat → St → Nat → St
  | 0, _, τ2, _ => τ2
  | n + 1, i102, τ2, i1 => (if 12 ≤ (nI i102) then τ2 else (vb (M_changeBy τ2 i102 (-(gA τ2 (pMe i1 + 1) i102))) (fun σ3 => (M_takeWhatGoes_h2 n (i102 + 1) σ3 i1))))
def M_takeWhatGoes (σ : St) (i1 : Nat) : St := (M_takeWhatGoes_h2 13 0 σ i1)
def M_goodsOn_h4 : Nat → Nat → Int32 → St → Int32 → Int32
  | 0, _, _, _, _ => 0
  | n + 1, i104, x4_2, σ, p1 => (if 12 ≤ (nI i104) then x4_2 else (if (gF σ (pGo i104) 3) = p1 then (M_goodsOn_h4 n (i104 + 1) (M_with x4_2 (nI i104) 1) σ p1) else (M_goodsOn_h4 n (i104 + 1) (M_with x4_2 (nI i104) 0) σ p1)))
def M_goodsOn (σ : St) (p1 : Int32) : Int32 := (M_goodsOn_h4 13 0 0 σ p1)
def M_rowsOfAll_h4 : Nat → Nat → Int32 → St → Int32
  | 0, _, _, _ => 0
  | n + 1, i104, x4_1, σ => (if (gF σ 0 7) ≤ (nI i104) then x4_1 else (M_rowsOfAll_h4 n (i104 + 1) (x4_1 + (gF σ (pPi i104) 4)) σ))
def M_rowsOfAll (σ : St)  : Int32 := (M_rowsOfAll_h4 11 0 0 σ)
def M_withAllAhead_h13 : Nat → Nat → Int32 → St → Int32
  | 0, _, _, _ => 0
  | n + 1, i113, x13_2, σ => (if (gF σ 0 6) ≤ (nI i113) then x13_2 else (if (M_has x13_2 (nI i113)) = 0 then (M_withAllAhead_h13 n (i113 + 1) x13_2 σ) else (M_withAllAhead_h13 n (i113 + 1) (x13_2 ||| (gF σ (pMe i113) 4)) σ)))
def M_withAllAhead_h4 : Nat → Nat → Int32 → St → Int32
  | 0, _, _, _ => 0
  | n + 1, i104, x4_2, σ => (if 12 ≤ (nI i104) then x4_2 else (vb (M_withAllAhead_h13 13 0 x4_2 σ) (fun y2 => (M_withAllAhead_h4 n (i104 + 1) y2 σ))))
def M_withAllAhead (σ : St) (p1 : Int32) : Int32 := (M_withAllAhead_h4 13 0 p1 σ)
def M_mayBeDone (σ : St) (i1 : Nat) (p2 : Int32) : Int32 := (if (gF σ 0 6) ≤ p2 then 0 else (if ((gF σ (pMe p2.toNatClampNeg) 2) &&& (gF σ (pPi i1) 5)) = 0 then (if ((gF σ (pMe p2.toNatClampNeg) 3) &&& (gF σ (pPi i1) 6)) = 0 then 1 else 0) else 0))
def M_eachMayBeDone_h2 : Nat → Nat → Int32 → St → Nat → Int32
  | 0, _, _, _, _ => 0
  | n + 1, i102, p2, σ, i1 => (if 12 ≤ (nI i102) then 1 else (if (M_has p2 (nI i102)) = 0 then (M_eachMayBeDone_h2 n (i102 + 1) p2 σ i1) else (if (M_mayBeDone σ i1 (nI i102)) = 0 then 0 else (M_eachMayBeDone_h2 n (i102 + 1) p2 σ i1))))
def M_eachMayBeDone (σ : St) (i1 : Nat) (p2 : Int32) : Int32 := (M_eachMayBeDone_h2 13 0 p2 σ i1)
def M_hasToWait_h2 : Nat → Nat → St → Int32 → Int32 → Int32
  | 0, _, _, _, _ => 0
  | n + 1, i102, σ, p1, p2 => (if (gF σ 0 6) ≤ (nI i102) then 0 else (if (nI i102) = p1 then (M_hasToWait_h2 n (i102 + 1) σ p1 p2) else (if (M_has p2 (nI i102)) = 0 then (M_hasToWait_h2 n (i102 + 1) σ p1 p2) else (if (M_has (gF σ (pMe i102) 3) p1) = 0 then (M_hasToWait_h2 n (i102 + 1) σ p1 p2) else 1))))
def M_hasToWait (σ : St) (p1 : Int32) (p2 : Int32) : Int32 := (M_hasToWait_h2 13 0 σ p1 p2)
def M_lowestThatMayComeNext_h2 : Nat → Nat → St → Int32 → Int32
  | 0, _, _, _ => 0
  | n + 1, i102, σ, p1 => (if (gF σ 0 6) ≤ (nI i102) then (-1) else (if (M_has p1 (nI i102)) = 0 then (M_lowestThatMayComeNext_h2 n (i102 + 1) σ p1) else (if ((gF σ (pMe i102) 4) &&& p1) = 0 then (if (M_hasToWait σ (nI i102) p1) = 0 then nI i102 else (M_lowestThatMayComeNext_h2 n (i102 + 1) σ p1)) else (M_lowestThatMayComeNext_h2 n (i102 + 1) σ p1))))
def M_lowestThatMayComeNext (σ : St) (p1 : Int32) : Int32 := (M_lowestThatMayComeNext_h2 13 0 σ p1)
def M_putInOrder_h5 : Nat → Nat → Int32 → St → Int32 → Int32 × St
  | 0, _, _, τ5, _ => (0, τ5)
  | n + 1, i105, x5_3, τ5, p2 => (if p2 ≤ (nI i105) then (1, τ5) else (if 10 ≤ (nI i105) then (1, τ5) else (if (M_lowestThatMayComeNext τ5 x5_3) = (-1) then (0, τ5) else (M_putInOrder_h5 n (i105 + 1) (M_with x5_3 (M_lowestThatMayComeNext τ5 x5_3) 0) (sA τ5 95 i105 (M_lowestThatMayComeNext τ5 x5_3)) p2))))
def M_putInOrder (σ : St) (p1 : Int32) (p2 : Int32) : Int32 × St := (M_putInOrder_h5 11 0 p1 σ p2)
def M_unit (σ : St) (p1 : Int32) : Except String (Int32 × St) := (if (gF σ 1 1) < 50 then (if p1 < 33 then (.error "java/lang/IllegalArgumentException") else (if p1 ≤ 126 then .ok (gF (sF (sA σ 2 (gF σ 1 1).toNatClampNeg p1) 1 1 ((gF (sA σ 2 (gF σ 1 1).toNatClampNeg p1) 1 1) + 1)) 1 1, (sF (sA σ 2 (gF σ 1 1).toNatClampNeg p1) 1 1 ((gF (sA σ 2 (gF σ 1 1).toNatClampNeg p1) 1 1) + 1))) else (.error "java/lang/IllegalArgumentException"))) else (.error "java/lang/IllegalStateException"))
def M_read (σ : St)  : Except String (Int32 × St) := (if (gF σ 0 6) < 12 then (vb (M_clear σ ((gF σ 0 6).toNatClampNeg)) (fun σ3 => (pb (M_readText σ3 ((gF σ 0 6).toNatClampNeg)) (fun r4 σ5 => (if r4 = 0 then .ok ((-1) - (gF (sF σ5 1 1 0) 1 2), (sF σ5 1 1 0)) else .ok ((gF (sF (sF σ5 1 1 0) 0 6 ((gF (sF σ5 1 1 0) 0 6) + 1)) 0 6) - 1, (sF (sF σ5 1 1 0) 0 6 ((gF (sF σ5 1 1 0) 0 6) + 1)))))))) else (.error "java/lang/IllegalStateException"))
def M_uses (σ : St) (p1 : Int32) (p2 : Int32) : Except String Int32 := (xb (M_methodAt σ p1) (fun r1 => (xb (M_checkPlace σ p2 12) (fun _ => .ok (gA σ (pMe r1 + 1) p2.toNatClampNeg)))))
def M_object (σ : St)  : Except String (Int32 × St) := (if (gF σ 0 7) < 10 then .ok ((gF (sF σ 0 7 ((gF σ 0 7) + 1)) 0 7) - 1, (sF σ 0 7 ((gF σ 0 7) + 1))) else (.error "java/lang/IllegalStateException"))
def M_part (σ : St) (p1 : Int32) (p2 : Int32) : Except String (Int32 × St) := (xb (M_pieceAt σ p1) (fun r1 => (xb (M_checkPlace σ p2 10) (fun _ => (if (gF σ (pPi r1) 3) < 8 then (pb (M_addPart σ r1 p2) (fun r4 σ5 => .ok (r4, σ5))) else (.error "java/lang/IllegalStateException"))))))
def M_right (σ : St) (p1 : Int32) (p2 : Int32) (p3 : Int32) : Except String (Int32 × St) := (xb (M_checkPlace σ p1 8) (fun _ => (xb (M_methodAt σ p2) (fun r2 => (if (M_has (gF σ (pMe r2) 7) p1) = p3 then .ok (0, (sF σ (pMe r2) 7 (M_with (gF σ (pMe r2) 7) p1 p3))) else .ok (1, (sF σ (pMe r2) 7 (M_with (gF σ (pMe r2) 7) p1 p3))))))))
def M_trial (σ : St) (p1 : Int32) (p2 : Int32) (p3 : Int32) : Except String (Int32 × St) := (xb (M_methodAt σ p1) (fun r1 => (xb (M_checkPlace σ p2 10) (fun _ => .ok (M_has (gF σ (pMe r1) 8) p2, (sF σ (pMe r1) 8 (M_with (gF σ (pMe r1) 8) p2 p3)))))))
def M_reason (σ : St) (p1 : Int32) (p2 : Int32) (p3 : Int32) (p4 : Int32) : Except String Int32 := (xb (M_pieceAt σ p1) (fun r1 => (xb (M_methodAt σ p2) (fun r2 => (xb (M_checkPlace σ p3 8) (fun _ => (xb (M_checkHour σ p4 0) (fun _ => .ok (M_reasonAgainst σ r1 r2 p3 p4)))))))))
def M_done (σ : St) (p1 : Int32) (p2 : Int32) (p3 : Int32) (p4 : Int32) (p5 : Int32) : Except String (Int32 × St) := (xb (M_pieceAt σ p1) (fun r1 => (xb (M_methodAt σ p2) (fun r2 => (xb (M_checkPlace σ p3 8) (fun _ => (xb (M_checkPlace σ p4 8) (fun _ => (if (gF σ (pPi r1) 4) < 30 then (xb (M_checkHour σ p5 (gF σ (pPi r1) 7)) (fun _ => (if (M_reasonAgainst σ r1 r2 p3 p5) = 0 then (if (gF σ (pMe r2) 6) = 0 then (vb (M_takeWhatGoes σ r2) (fun σ11 => (if (gF σ11 (pMe r2) 6) = 0 then (vb (M_addRow σ11 r1 p2 p5 p3 (-1)) (fun σ14 => .ok (0, σ14))) else (vb (M_addRow σ11 r1 p2 p5 p3 p4) (fun σ16 => .ok (0, σ16)))))) else (if p4 = p3 then .ok (700, σ) else (if (M_has (gF σ (pMe r2) 7) p4) = 0 then .ok (700, σ) else (vb (M_takeWhatGoes σ r2) (fun σ21 => (if (gF σ21 (pMe r2) 6) = 0 then (vb (M_addRow σ21 r1 p2 p5 p3 (-1)) (fun σ24 => .ok (0, σ24))) else (vb (M_addRow σ21 r1 p2 p5 p3 p4) (fun σ26 => .ok (0, σ26))))))))) else .ok (M_reasonAgainst σ r1 r2 p3 p5, σ)))) else (.error "java/lang/IllegalStateException"))))))))))
def M_row (σ : St) (p1 : Int32) (p2 : Int32) (p3 : Int32) : Except String Int32 := (xb (M_pieceAt σ p1) (fun r1 => (xb (M_checkPlace σ p3 4) (fun _ => (if p2 = (-1) then .ok (gF σ (pPi r1) 4) else (xb (M_checkPlace σ p2 (gF σ (pPi r1) 4)) (fun _ => .ok (gA σ (pPi r1 + 2) ((p2 * 4) + p3).toNatClampNeg))))))))
def M_stock (σ : St) (p1 : Int32) (p2 : Int32) : Except String (Int32 × St) := (xb (M_goodAt σ p1) (fun r1 => (if p2 < (-1000000) then (.error "java/lang/IllegalArgumentException") else (if p2 ≤ 1000000 then (if ((gF σ (pGo r1) 0) + p2) < 0 then .ok ((-1), σ) else (if ((gF σ (pGo r1) 0) + p2) ≤ 1000000 then (vb (M_changeBy σ r1 p2) (fun σ7 => .ok ((gF σ (pGo r1) 0) + p2, σ7))) else .ok ((-1), σ))) else (.error "java/lang/IllegalArgumentException")))))
def M_about (σ : St) (p1 : Int32) (p2 : Int32) : Except String Int64 := (xb (M_goodAt σ p1) (fun r1 => (if p2 = 0 then .ok ((gF σ (pGo r1) 0).toInt64) else (if p2 = 1 then .ok (gL σ (pGo r1) 1) else (if p2 = 2 then .ok (gL σ (pGo r1) 2) else (if p2 = 3 then .ok ((gF σ (pGo r1) 3).toInt64) else (.error "java/lang/IndexOutOfBoundsException")))))))
def M_apart (σ : St) (p1 : Int32) (p2 : Int32) : Except String (Int32 × St) := (xb (M_goodAt σ p1) (fun r1 => (xb (M_goodAt σ p2) (fun r2 => (if p1 = p2 then .ok (0, σ) else (if (gF σ (pGo r1) 3) = (-1) then .ok (1, (sF (sF σ (pGo r1) 4 (M_with (gF σ (pGo r1) 4) p2 1)) (pGo r2) 4 (M_with (gF (sF σ (pGo r1) 4 (M_with (gF σ (pGo r1) 4) p2 1)) (pGo r2) 4) p1 1))) else (if (gF σ (pGo r1) 3) = (gF σ (pGo r2) 3) then .ok (0, σ) else .ok (1, (sF (sF σ (pGo r1) 4 (M_with (gF σ (pGo r1) 4) p2 1)) (pGo r2) 4 (M_with (gF (sF σ (pGo r1) 4 (M_with (gF σ (pGo r1) 4) p2 1)) (pGo r2) 4) p1 1))))))))))
def M_put (σ : St) (p1 : Int32) (p2 : Int32) : Except String (Int32 × St) := (xb (M_goodAt σ p1) (fun r1 => (if p2 = (-1) then .ok (0, (sF σ (pGo r1) 3 p2)) else (xb (M_checkPlace σ p2 6) (fun _ => (if (M_lowest ((gF σ (pGo r1) 4) &&& (M_goodsOn σ p2))) = (-1) then .ok (0, (sF σ (pGo r1) 3 p2)) else .ok (1 + (M_lowest ((gF σ (pGo r1) 4) &&& (M_goodsOn σ p2))), σ)))))))
def M_step (σ : St) (p1 : Int32) : Except String Int32 := (xb (M_checkPlace σ p1 (gF σ 0 8)) (fun _ => .ok (gA σ 94 p1.toNatClampNeg)))
def M_count (σ : St) (p1 : Int32) : Except String Int32 := (if p1 = 0 then .ok (gF σ 1 1) else (if p1 = 1 then .ok (gF σ 0 6) else (if p1 = 2 then .ok (gF σ 0 7) else (if p1 = 3 then .ok (M_rowsOfAll σ) else (if p1 = 4 then .ok (gF σ 0 8) else (.error "java/lang/IndexOutOfBoundsException"))))))
def M_bitCount (p0 : Int32) : Int32 := (vb (p0 - (((p0.toUInt32 >>> ((1 : Int32).toUInt32 &&& Int32.toUInt32 31)).toInt32) &&& 1431655765)) (fun y1 => (vb ((y1 &&& 858993459) + (((y1.toUInt32 >>> ((2 : Int32).toUInt32 &&& Int32.toUInt32 31)).toInt32) &&& 858993459)) (fun y2 => (vb ((y2 + ((y2.toUInt32 >>> ((4 : Int32).toUInt32 &&& Int32.toUInt32 31)).toInt32)) &&& 252645135) (fun y3 => (vb (y3 + ((y3.toUInt32 >>> ((8 : Int32).toUInt32 &&& Int32.toUInt32 31)).toInt32)) (fun y4 => (vb (y4 + ((y4.toUInt32 >>> ((16 : Int32).toUInt32 &&& Int32.toUInt32 31)).toInt32)) (fun y5 => y5 &&& 63))))))))))
def M_plan (σ : St) (p1 : Int32) (p2 : Int32) : Except String (Int32 × St) := (xb (M_pieceAt σ p1) (fun r1 => (if ((p2.toUInt32 >>> ((gF σ 0 6).toUInt32 &&& Int32.toUInt32 31)).toInt32) = 0 then (if (M_bitCount ((M_withAllAhead σ p2) &&& ((gF σ (pPi r1) 6) ^^^ (-1)))) ≤ 10 then (if (M_eachMayBeDone σ r1 ((M_withAllAhead σ p2) &&& ((gF σ (pPi r1) 6) ^^^ (-1)))) = 0 then .ok ((-1), σ) else (pb (M_putInOrder σ ((M_withAllAhead σ p2) &&& ((gF σ (pPi r1) 6) ^^^ (-1))) (M_bitCount ((M_withAllAhead σ p2) &&& ((gF σ (pPi r1) 6) ^^^ (-1))))) (fun r8 σ9 => (if r8 = 0 then .ok ((-1), σ9) else .ok (M_bitCount ((M_withAllAhead σ p2) &&& ((gF σ (pPi r1) 6) ^^^ (-1))), (sF (cpA σ9 95 94 (0 : Int32).toNatClampNeg (0 : Int32).toNatClampNeg (M_bitCount ((M_withAllAhead σ p2) &&& ((gF σ (pPi r1) 6) ^^^ (-1)))).toNatClampNeg) 0 8 (M_bitCount ((M_withAllAhead σ p2) &&& ((gF σ (pPi r1) 6) ^^^ (-1)))))))))) else .ok ((-2), σ)) else (.error "java/lang/IndexOutOfBoundsException"))))
end
section
/-! bounds -/
theorem vin_lt {x : Int32} {n : Nat} (h : vp_in x n) : x.toNatClampNeg < n := by
  unfold vp_in at h; omega
theorem vin_of {x : Int32} {n : Nat} (h0 : 0 ≤ x.toInt) (h1 : x.toInt < n) : vp_in x n := vp_in_iff.mpr ⟨h0, h1⟩
theorem lp_lt {b : Int32} {i N : Nat} (hN : N < 2 ^ 31) (hb : b.toInt ≤ N) (hi : i ≤ N) (c : ¬ b ≤ nI i) : i < N := by
  rw [Int32.le_iff_toInt_le, nI_toInt (by omega)] at c
  omega
theorem nb01 {v : Int32} (h : v = 0 ∨ v = 1) : narrow .boolean (.int v) = .int v := by
  rcases h with rfl | rfl <;> rfl
/-! the component's invariants -/
def IP (σ : St) : Prop := 0 ≤ (gF σ 1 1).toInt ∧ (gF σ 1 1).toInt ≤ 50 ∧ 0 ≤ (gF σ 1 2).toInt ∧ (gF σ 1 2).toInt ≤ 50
def IB (σ : St) : Prop := IP σ ∧ (0 ≤ (gF σ 0 6).toInt ∧ (gF σ 0 6).toInt ≤ 12) ∧ (0 ≤ (gF σ 0 7).toInt ∧ (gF σ 0 7).toInt ≤ 10) ∧ (0 ≤ (gF σ 0 8).toInt ∧ (gF σ 0 8).toInt ≤ 10) ∧
  ∀ i, i < 10 → (0 ≤ (gF σ (pPi i) 3).toInt ∧ (gF σ (pPi i) 3).toInt ≤ 8) ∧ 0 ≤ (gF σ (pPi i) 4).toInt ∧ (gF σ (pPi i) 4).toInt ≤ 30
theorem IB.ip {σ : St} (h : IB σ) : IP σ := h.1
theorem IB.mc {σ : St} (h : IB σ) : (gF σ 0 6).toInt ≤ (12 : Nat) := h.2.1.2
theorem IB.pc {σ : St} (h : IB σ) : (gF σ 0 7).toInt ≤ (10 : Nat) := h.2.2.1.2
theorem IB.pl {σ : St} (h : IB σ) : (gF σ 0 8).toInt ≤ (10 : Nat) := h.2.2.2.1.2
theorem IB.ptc {σ : St} (h : IB σ) {i : Nat} (hi : i < 10) : (gF σ (pPi i) 3).toInt ≤ 8 := (h.2.2.2.2 i hi).1.2
theorem IB.rc {σ : St} (h : IB σ) {i : Nat} (hi : i < 10) : (gF σ (pPi i) 4).toInt ≤ 30 := (h.2.2.2.2 i hi).2.2
theorem IB.kA {σ : St} {p j : Nat} {v : Int32} (h : IB σ) : IB (sA σ p j v) := h
theorem lt_toInt {x y : Int32} (h : x < y) : x.toInt < y.toInt := Int32.lt_iff_toInt_lt.mp h
theorem nle_toInt {x y : Int32} (h : ¬ x ≤ y) : y.toInt < x.toInt := by
  rw [Int32.le_iff_toInt_le] at h; omega
theorem nlt_toInt {x y : Int32} (h : ¬ x < y) : y.toInt ≤ x.toInt := by
  rw [Int32.lt_iff_toInt_lt] at h; omega
theorem le_toInt {x y : Int32} (h : x ≤ y) : x.toInt ≤ y.toInt := Int32.le_iff_toInt_le.mp h
theorem IB.len_in {σ : St} (h : IB σ) (c : gF σ 1 1 < 50) : vp_in (gF σ 1 1) 50 := vin_of h.1.1 (by have := lt_toInt c; simpa using this)
theorem IB.mc_in {σ : St} (h : IB σ) (c : gF σ 0 6 < 12) : vp_in (gF σ 0 6) 12 := vin_of h.2.1.1 (by have := lt_toInt c; simpa using this)
theorem IB.part_in {σ : St} (h : IB σ) {i : Nat} (hi : i < 10) (c : gF σ (pPi i) 3 < 8) : vp_in (gF σ (pPi i) 3) 8 := vin_of (h.2.2.2.2 i hi).1.1 (by have := lt_toInt c; simpa using this)
theorem chk_ok {σ : St} {x b : Int32} (h : .ok () = M_checkPlace σ x b) : ¬ x < 0 ∧ x < b := by
  unfold M_checkPlace at h
  by_cases h1 : x < 0
  · rw [if_pos h1] at h; cases h
  · rw [if_neg h1] at h
    by_cases h2 : x < b
    · exact ⟨h1, h2⟩
    · rw [if_neg h2] at h; cases h
theorem vin_chk {σ : St} {x b : Int32} {N : Nat} (h : .ok () = M_checkPlace σ x b) (hb : b.toInt ≤ N) : vp_in x N := by
  obtain ⟨h1, h2⟩ := chk_ok h
  have h3 := nlt_toInt h1
  have h4 := lt_toInt h2
  exact vin_of (by simpa using h3) (by omega)
theorem mAt_ok {σ : St} {x : Int32} {i : Nat} (h : .ok i = M_methodAt σ x) : .ok () = M_checkPlace σ x (gF σ 0 6) ∧ i = x.toNatClampNeg := by
  unfold M_methodAt xb at h
  cases hc : M_checkPlace σ x (gF σ 0 6) with
  | error e => rw [hc] at h; cases h
  | ok u => rw [hc] at h; exact ⟨by cases u; rfl, by cases h; rfl⟩
theorem pAt_ok {σ : St} {x : Int32} {i : Nat} (h : .ok i = M_pieceAt σ x) : .ok () = M_checkPlace σ x (gF σ 0 7) ∧ i = x.toNatClampNeg := by
  unfold M_pieceAt xb at h
  cases hc : M_checkPlace σ x (gF σ 0 7) with
  | error e => rw [hc] at h; cases h
  | ok u => rw [hc] at h; exact ⟨by cases u; rfl, by cases h; rfl⟩
theorem gAt_ok {σ : St} {x : Int32} {i : Nat} (h : .ok i = M_goodAt σ x) : .ok () = M_checkPlace σ x 12 ∧ i = x.toNatClampNeg := by
  unfold M_goodAt xb at h
  cases hc : M_checkPlace σ x 12 with
  | error e => rw [hc] at h; cases h
  | ok u => rw [hc] at h; exact ⟨by cases u; rfl, by cases h; rfl⟩
theorem mAt_lt {σ : St} {x : Int32} {i : Nat} (hI : IB σ) (h : .ok i = M_methodAt σ x) : i < 12 := by
  obtain ⟨h1, rfl⟩ := mAt_ok h
  exact vin_lt (vin_chk h1 hI.mc)
theorem pAt_lt {σ : St} {x : Int32} {i : Nat} (hI : IB σ) (h : .ok i = M_pieceAt σ x) : i < 10 := by
  obtain ⟨h1, rfl⟩ := pAt_ok h
  exact vin_lt (vin_chk h1 hI.pc)
theorem gAt_lt {σ : St} {x : Int32} {i : Nat} (h : .ok i = M_goodAt σ x) : i < 12 := by
  obtain ⟨h1, rfl⟩ := gAt_ok h
  exact vin_lt (vin_chk (N := 12) h1 (by decide))
theorem vin_of_mAt {σ : St} {x : Int32} {i : Nat} (hI : IB σ) (h : .ok i = M_methodAt σ x) : vp_in x 12 := vin_chk (mAt_ok h).1 hI.mc
theorem mul4_toInt {x : Int32} (h0 : 0 ≤ x.toInt) (h1 : x.toInt < 30) (k : Int32) (hk0 : 0 ≤ k.toInt) (hk : k.toInt < 4) : (x * 4 + k).toInt = x.toInt * 4 + k.toInt := by
  rw [Int32.toInt_add, Int32.toInt_mul]
  have h4 : (4 : Int32).toInt = 4 := by decide
  rw [h4]
  have e1 : (x.toInt * 4).bmod (2 ^ 32) = x.toInt * 4 := by
    apply Int.bmod_eq_of_le <;> omega
  rw [e1]
  apply Int.bmod_eq_of_le <;> omega
theorem row_ink {x k : Int32} (hp : vp_in x 30) (hk0 : 0 ≤ k.toInt) (hk : k.toInt < 4) : vp_in (x * 4 + k) 120 := by
  obtain ⟨h0, h1⟩ := vp_in_iff.mp hp
  have h := mul4_toInt h0 (by omega) k hk0 hk
  exact vin_of (by omega) (by omega)
theorem row_in0 {x : Int32} (hp : vp_in x 30) : vp_in (x * 4) 120 := by
  have h := row_ink (k := 0) hp (by decide) (by decide)
  rwa [Int32.add_zero] at h
theorem row_in1 {x : Int32} (hp : vp_in x 30) : vp_in (x * 4 + 1) 120 := row_ink hp (by decide) (by decide)
theorem row_in2 {x : Int32} (hp : vp_in x 30) : vp_in (x * 4 + 2) 120 := row_ink hp (by decide) (by decide)
theorem row_in3 {x : Int32} (hp : vp_in x 30) : vp_in (x * 4 + 3) 120 := row_ink hp (by decide) (by decide)
theorem row_at {σ : St} {x k n : Int32} (h1 : .ok () = M_checkPlace σ k 4) (h2 : .ok () = M_checkPlace σ x n) (hn : n.toInt ≤ 30) : vp_in (x * 4 + k) 120 := by
  have a := vp_in_iff.mp (vin_chk (N := 4) h1 (by decide))
  exact row_ink (vin_chk (N := 30) h2 hn) a.1 a.2
theorem mbd_in {σ : St} {x : Int32} (hI : IB σ) (h0 : 0 ≤ x.toInt) (c : ¬ gF σ 0 6 ≤ x) : vp_in x 12 := by
  have h1 := nle_toInt c
  have h2 := hI.mc
  exact vin_of h0 (by omega)
theorem nI_nn {i N : Nat} (h : i ≤ N) (hN : N < 2 ^ 31) : 0 ≤ (nI i).toInt := by
  rw [nI_toInt (by omega)]; omega
theorem IP.at_in {σ : St} (h : IP σ) (c : ¬ gF σ 1 1 ≤ gF σ 1 2) : vp_in (gF σ 1 2) 50 := by
  have h1 := nle_toInt c
  exact vin_of h.2.2.1 (by have := h.2.1; omega)
theorem IP.at1 {σ : St} (h : IP σ) (c : ¬ gF σ 1 1 ≤ gF σ 1 2) : IP (sF σ 1 2 (gF σ 1 2 + 1)) := by
  have h1 := nle_toInt c
  obtain ⟨a1, a2, a3, a4⟩ := h
  have e : (gF σ 1 2 + 1).toInt = (gF σ 1 2).toInt + 1 := by
    rw [Int32.toInt_add]
    have h4 : (1 : Int32).toInt = 1 := by decide
    rw [h4]
    apply Int.bmod_eq_of_le <;> omega
  refine ⟨?_, ?_, ?_, ?_⟩
  · rw [gF_sF, if_neg (by omega)]; exact a1
  · rw [gF_sF, if_neg (by omega)]; exact a2
  · rw [gF_sF, if_pos ⟨rfl, rfl⟩, e]; omega
  · rw [gF_sF, if_pos ⟨rfl, rfl⟩, e]; omega
theorem IP.zero {σ : St} (h : IP σ) : IP (sF σ 1 2 0) := by
  obtain ⟨a1, a2, a3, a4⟩ := h
  refine ⟨?_, ?_, ?_, ?_⟩
  · rw [gF_sF, if_neg (by omega)]; exact a1
  · rw [gF_sF, if_neg (by omega)]; exact a2
  · rw [gF_sF, if_pos ⟨rfl, rfl⟩]; decide
  · rw [gF_sF, if_pos ⟨rfl, rfl⟩]; decide
theorem here_no {σ : St} (c : gF σ 1 1 ≤ gF σ 1 2) : M_signHere σ = -1 := by
  unfold M_signHere; rw [if_pos c]
theorem IP.step {σ : St} (h : IP σ) (c : ¬ M_isDigit (M_signHere σ) = 0) : IP (sF σ 1 2 (gF σ 1 2 + 1)) := by
  by_cases c2 : gF σ 1 1 ≤ gF σ 1 2
  · rw [here_no c2] at c; exact absurd (by decide) c
  · exact h.at1 c2
theorem take_ne {σ : St} {k : Int32} (hk : k ≠ -1) (h : M_signHere σ = k) : ¬ gF σ 1 1 ≤ gF σ 1 2 := fun c => hk (by rw [← h, here_no c])
theorem IP.take {σ σ1 : St} {r k : Int32} (h : IP σ) (hw : (r, σ1) = M_take σ k) (hk : k ≠ -1 := by decide) : IP σ1 := by
  unfold M_take at hw
  by_cases c : M_signHere σ = k
  · rw [if_pos c] at hw; cases hw; exact h.at1 (take_ne hk c)
  · rw [if_neg c] at hw; cases hw; exact h
theorem IP.of {σ τ : St} (h : IP σ) (h1 : gF τ 1 1 = gF σ 1 1) (h2 : gF τ 1 2 = gF σ 1 2) : IP τ := by
  unfold IP; rw [h1, h2]; exact h
theorem IP.kA {σ : St} {p j : Nat} {v : Int32} (h : IP σ) : IP (sA σ p j v) := h
theorem pMe_ne (i : Nat) : pMe i ≠ 1 ∧ pMe i ≠ 0 := by unfold pMe; omega
theorem pPi_ne (i : Nat) : pPi i ≠ 1 ∧ pPi i ≠ 0 := by unfold pPi; omega
theorem pGo_ne (i : Nat) : pGo i ≠ 1 ∧ pGo i ≠ 0 := by unfold pGo; omega
theorem IP.kF {σ : St} {p j : Nat} {v : Int32} (h : IP σ) (hp : p ≠ 1) : IP (sF σ p j v) :=
  h.of (by rw [gF_sF, if_neg (fun q => hp q.1.symm)]) (by rw [gF_sF, if_neg (fun q => hp q.1.symm)])
theorem num_h {lo hi r : Int32} {σ1 : St} (h9 : hi.toInt ≤ 9999) : ∀ (n i : Nat) (x : Int32) (τ : St), IP τ → 0 ≤ x.toInt → x.toInt ≤ hi.toInt → (r, σ1) = M_readNumber_h5 n i x τ lo hi → IP σ1 ∧ (r = -1 ∨ (0 ≤ r.toInt ∧ r.toInt ≤ hi.toInt)) := by
  intro n
  induction n with
  | zero =>
    intro i x τ hI h0 h1 hw
    rw [M_readNumber_h5] at hw
    cases hw
    exact ⟨hI, Or.inr ⟨by decide, by rw [Int32.toInt_zero]; omega⟩⟩
  | succ n ih =>
    intro i x τ hI h0 h1 hw
    have fin : (r, σ1) = (if nI i = 0 then ((-1 : Int32), τ) else if lo ≤ x then (x, τ) else (-1, τ)) → IP σ1 ∧ (r = -1 ∨ (0 ≤ r.toInt ∧ r.toInt ≤ hi.toInt)) := by
      intro h
      split at h
      · cases h; exact ⟨hI, Or.inl rfl⟩
      · split at h
        · cases h; exact ⟨hI, Or.inr ⟨h0, h1⟩⟩
        · cases h; exact ⟨hI, Or.inl rfl⟩
    rw [M_readNumber_h5] at hw
    by_cases c1 : (4 : Int32) ≤ nI i
    · rw [if_pos c1] at hw; exact fin hw
    · rw [if_neg c1] at hw
      by_cases c2 : M_isDigit (M_signHere τ) = 0
      · rw [if_pos c2] at hw; exact fin hw
      · rw [if_neg c2] at hw
        by_cases c3 : hi < x * 10 + (M_signHere τ - 48)
        · rw [if_pos c3] at hw; exact fin hw
        · rw [if_neg c3] at hw
          have hd : 48 ≤ (M_signHere τ).toInt ∧ (M_signHere τ).toInt ≤ 57 := by
            unfold M_isDigit at c2
            by_cases d1 : M_signHere τ < 48
            · rw [if_pos d1] at c2; exact absurd rfl c2
            · rw [if_neg d1] at c2
              by_cases d2 : (57 : Int32) < M_signHere τ
              · rw [if_pos d2] at c2; exact absurd rfl c2
              · have e1 := nlt_toInt d1
                have e2 := nlt_toInt d2
                have e3 : (48 : Int32).toInt = 48 := by decide
                have e4 : (57 : Int32).toInt = 57 := by decide
                omega
          have e : (x * 10 + (M_signHere τ - 48)).toInt = x.toInt * 10 + ((M_signHere τ).toInt - 48) := by
            rw [Int32.toInt_add, Int32.toInt_mul, Int32.toInt_sub]
            have e3 : (48 : Int32).toInt = 48 := by decide
            have e4 : (10 : Int32).toInt = 10 := by decide
            rw [e3, e4]
            have b1 : (x.toInt * 10).bmod (2 ^ 32) = x.toInt * 10 := by apply Int.bmod_eq_of_le <;> omega
            have b2 : ((M_signHere τ).toInt - 48).bmod (2 ^ 32) = (M_signHere τ).toInt - 48 := by apply Int.bmod_eq_of_le <;> omega
            rw [b1, b2]
            apply Int.bmod_eq_of_le <;> omega
          have h3 := nlt_toInt c3
          have go : (r, σ1) = M_readNumber_h5 n (i + 1) (x * 10 + (M_signHere τ - 48)) (sF τ 1 2 (gF τ 1 2 + 1)) lo hi → IP σ1 ∧ (r = -1 ∨ (0 ≤ r.toInt ∧ r.toInt ≤ hi.toInt)) :=
            fun h => ih (i + 1) _ _ (hI.step c2) (by rw [e]; omega) h3 h
          by_cases c4 : nI i = 3
          · rw [if_pos c4] at hw
            by_cases c5 : lo ≤ x * 10 + (M_signHere τ - 48)
            · rw [if_pos c5] at hw; exact go hw
            · rw [if_neg c5] at hw; exact fin hw
          · rw [if_neg c4] at hw; exact go hw
theorem IP.num {σ σ1 : St} {r lo hi : Int32} (h : IP σ) (hw : (r, σ1) = M_readNumber σ lo hi) (h0 : 0 ≤ hi.toInt := by decide) (h9 : hi.toInt ≤ 9999 := by decide) : IP σ1 :=
  (num_h h9 _ _ _ _ h (by decide) (by rw [Int32.toInt_zero]; exact h0) hw).1
theorem num_in {σ σ1 : St} {r lo hi : Int32} {N : Nat} (h : IP σ) (hw : (r, σ1) = M_readNumber σ lo hi) (h0 : 0 ≤ hi.toInt) (hN : hi.toInt < N) (h9 : hi.toInt ≤ 9999) (hne : ¬ r = -1) : vp_in r N := by
  rcases (num_h h9 _ _ _ _ h (by decide) (by rw [Int32.toInt_zero]; exact h0) hw).2 with e | ⟨e1, e2⟩
  · exact absurd e hne
  · exact vin_of e1 (by omega)
theorem has01 (a b : Int32) : M_has a b = 0 ∨ M_has a b = 1 := by
  unfold M_has; split
  · exact Or.inr rfl
  · exact Or.inl rfl
theorem IP.bar {σ σ1 : St} {r : Int32} {i : Nat} (h : IP σ) (hw : (r, σ1) = M_readBar σ i) : IP σ1 ∧ (r = 0 ∨ r = 1) := by
  unfold M_readBar at hw
  generalize e1 : M_readNumber σ 0 9 = z at hw
  obtain ⟨r1, s1⟩ := z
  have h1 := h.num e1.symm
  rw [pb_mk] at hw
  split at hw
  · cases hw; exact ⟨h1, Or.inl rfl⟩
  · cases hw; exact ⟨h1.kF (pMe_ne i).1, Or.inr rfl⟩
theorem IP.notBehind {σ σ1 : St} {r : Int32} {i : Nat} (h : IP σ) (hw : (r, σ1) = M_readNotBehind σ i) : IP σ1 ∧ (r = 0 ∨ r = 1) := by
  unfold M_readNotBehind at hw
  generalize e1 : M_readNumber σ 0 11 = z at hw
  obtain ⟨r1, s1⟩ := z
  have h1 := h.num e1.symm
  rw [pb_mk] at hw
  split at hw
  · cases hw; exact ⟨h1, Or.inl rfl⟩
  · cases hw; exact ⟨h1.kF (pMe_ne i).1, Or.inr rfl⟩
theorem IP.use {σ σ1 : St} {r : Int32} {i : Nat} (h : IP σ) (hw : (r, σ1) = M_readUse σ i) : IP σ1 ∧ (r = 0 ∨ r = 1) := by
  unfold M_readUse at hw
  generalize e1 : M_readNumber σ 0 11 = z at hw
  obtain ⟨r1, s1⟩ := z
  have h1 := h.num e1.symm
  rw [pb_mk] at hw
  split at hw
  · cases hw; exact ⟨h1, Or.inl rfl⟩
  · generalize e2 : M_take s1 42 = z at hw
    obtain ⟨r2, s2⟩ := z
    have h2 := h1.take e2.symm
    rw [pb_mk] at hw
    split at hw
    · cases hw; exact ⟨h2, Or.inl rfl⟩
    · generalize e3 : M_readNumber s2 1 9999 = z at hw
      obtain ⟨r3, s3⟩ := z
      have h3 := h2.num e3.symm
      rw [pb_mk] at hw
      split at hw
      · cases hw; exact ⟨h3, Or.inl rfl⟩
      · cases hw; exact ⟨h3.kA, Or.inr rfl⟩
theorem IP.after {σ σ1 : St} {r : Int32} {i : Nat} (h : IP σ) (hw : (r, σ1) = M_readAfter σ i) : IP σ1 ∧ (r = 0 ∨ r = 1) := by
  unfold M_readAfter at hw
  generalize e1 : M_readNumber σ 0 11 = z at hw
  obtain ⟨r1, s1⟩ := z
  have h1 := h.num e1.symm
  rw [pb_mk] at hw
  split at hw
  · cases hw; exact ⟨h1, Or.inl rfl⟩
  · generalize e2 : M_take s1 58 = z at hw
    obtain ⟨r2, s2⟩ := z
    have h2 := h1.take e2.symm
    rw [pb_mk] at hw
    split at hw
    · cases hw; exact ⟨h2, Or.inl rfl⟩
    · generalize e3 : M_readNumber s2 0 9999 = z at hw
      obtain ⟨r3, s3⟩ := z
      have h3 := h2.num e3.symm
      rw [pb_mk] at hw
      split at hw
      · cases hw; exact ⟨h3, Or.inl rfl⟩
      · cases hw; exact ⟨(h3.kF (pMe_ne i).1).kA, Or.inr rfl⟩
theorem IP.clause {σ σ1 : St} {r : Int32} {i : Nat} (h : IP σ) (hw : (r, σ1) = M_readClause σ i) : IP σ1 ∧ (r = 0 ∨ r = 1) := by
  unfold M_readClause at hw
  generalize e1 : M_take σ 117 = z at hw
  obtain ⟨r1, s1⟩ := z
  have h1 := h.take e1.symm
  rw [pb_mk] at hw
  split at hw
  · generalize e2 : M_take s1 98 = z at hw
    obtain ⟨r2, s2⟩ := z
    have h2 := h1.take e2.symm
    rw [pb_mk] at hw
    split at hw
    · generalize e3 : M_take s2 120 = z at hw
      obtain ⟨r3, s3⟩ := z
      have h3 := h2.take e3.symm
      rw [pb_mk] at hw
      split at hw
      · generalize e4 : M_take s3 97 = z at hw
        obtain ⟨r4, s4⟩ := z
        have h4 := h3.take e4.symm
        rw [pb_mk] at hw
        split at hw
        · generalize e5 : M_take s4 116 = z at hw
          obtain ⟨r5, s5⟩ := z
          have h5 := h4.take e5.symm
          rw [pb_mk] at hw
          split at hw
          · generalize e6 : M_take s5 105 = z at hw
            obtain ⟨r6, s6⟩ := z
            have h6 := h5.take e6.symm
            rw [pb_mk] at hw
            split at hw
            · cases hw; exact ⟨h6, Or.inl rfl⟩
            · cases hw; exact ⟨h6.kF (pMe_ne i).1, Or.inr rfl⟩
          · cases hw; exact ⟨h5.kF (pMe_ne i).1, Or.inr rfl⟩
        · rw [pb_id] at hw; exact h4.after hw
      · rw [pb_id] at hw; exact h3.notBehind hw
    · rw [pb_id] at hw; exact h2.bar hw
  · rw [pb_id] at hw; exact h1.use hw
theorem clear_h23 {i : Nat} : ∀ (n k : Nat) (τ : St), IP τ → IP (M_clear_h23 n k τ i) := by
  intro n
  induction n with
  | zero => intro k τ h; exact h
  | succ n ih =>
    intro k τ h
    rw [M_clear_h23]
    split
    · exact ((((h.kF (pMe_ne i).1).kF (pMe_ne i).1).kF (pMe_ne i).1).kF (pMe_ne i).1).kF (pMe_ne i).1
    · exact ih _ _ h.kA
theorem clear_h2 {i : Nat} : ∀ (n k : Nat) (τ : St), IP τ → IP (M_clear_h2 n k τ i) := by
  intro n
  induction n with
  | zero => intro k τ h; exact h
  | succ n ih =>
    intro k τ h
    rw [M_clear_h2]
    split
    · exact clear_h23 _ _ _ h
    · exact ih _ _ h.kA
theorem IP.clear {σ σ1 : St} {i : Nat} (h : IP σ) (hw : σ1 = M_clear σ i) : IP σ1 := by
  rw [hw]; exact clear_h2 _ _ _ h
theorem chg_F {σ : St} {i p j : Nat} {x : Int32} (hp : p ≠ pGo i) : gF (M_changeBy σ i x) p j = gF σ p j := by
  unfold M_changeBy
  split
  · rw [gF_sL, gF_sF, if_neg (fun q => hp q.1)]
  · rw [gF_sL, gF_sF, if_neg (fun q => hp q.1)]
theorem twg_F {i p j : Nat} (hp : ∀ g, p ≠ pGo g) : ∀ (n k : Nat) (τ : St), gF (M_takeWhatGoes_h2 n k τ i) p j = gF τ p j := by
  intro n
  induction n with
  | zero => intro k τ; rfl
  | succ n ih =>
    intro k τ
    rw [M_takeWhatGoes_h2]
    split
    · rfl
    · rw [vb_eq, ih, chg_F (hp k)]
theorem pPi_pGo {i g : Nat} (hi : i < 10) : pPi i ≠ pGo g := by unfold pPi pGo; omega
theorem IB.row_in {σ σ1 : St} {a i : Nat} (h : IB σ) (hT : σ1 = M_takeWhatGoes σ a) (hi : i < 10) (c : gF σ (pPi i) 4 < 30) : vp_in (gF σ1 (pPi i) 4) 30 := by
  rw [hT, M_takeWhatGoes, twg_F (fun g => pPi_pGo hi)]
  exact vin_of (h.2.2.2.2 i hi).2.1 (by have := lt_toInt c; simpa using this)
theorem sw_out4 {x : Int32} (h0 : ¬ x = 0) (h1 : ¬ x = 1) (h2 : ¬ x = 2) (h3 : ¬ x = 3) : x.toInt < 0 ∨ 3 < x.toInt := by
  have e (k : Int32) (h : ¬ x = k) : x.toInt ≠ k.toInt := fun q => h (Int32.toInt_inj.mp q)
  have a0 := e 0 h0; have a1 := e 1 h1; have a2 := e 2 h2; have a3 := e 3 h3
  rw [show (0 : Int32).toInt = 0 by decide] at a0
  rw [show (1 : Int32).toInt = 1 by decide] at a1
  rw [show (2 : Int32).toInt = 2 by decide] at a2
  rw [show (3 : Int32).toInt = 3 by decide] at a3
  omega
theorem sw_out5 {x : Int32} (h0 : ¬ x = 0) (h1 : ¬ x = 1) (h2 : ¬ x = 2) (h3 : ¬ x = 3) (h4 : ¬ x = 4) : x.toInt < 0 ∨ 4 < x.toInt := by
  have h := sw_out4 h0 h1 h2 h3
  have a4 : x.toInt ≠ (4 : Int32).toInt := fun q => h4 (Int32.toInt_inj.mp q)
  rw [show (4 : Int32).toInt = 4 by decide] at a4
  omega
theorem bc_nn (x : Int32) : ¬ M_bitCount x < 0 := by
  obtain ⟨z, hz⟩ : ∃ z, M_bitCount x = z &&& 63 := ⟨_, rfl⟩
  obtain ⟨j, hj, e⟩ := pk_andE z (m := 63) 6 (by decide)
  rw [hz, e]; exact nI_pos (by omega)
theorem bc_10 {x : Int32} (h : M_bitCount x ≤ 10) : (0 : Int32).toNatClampNeg + (M_bitCount x).toNatClampNeg ≤ 10 := by
  have h0 := nlt_toInt (bc_nn x)
  have h1 := le_toInt h
  rw [show (10 : Int32).toInt = 10 by decide] at h1
  rw [show (0 : Int32).toNatClampNeg = 0 by decide]
  have : (M_bitCount x).toNatClampNeg = (M_bitCount x).toInt.toNat := rfl
  omega
end
section
/-! The environment of the component: what its throws and its calls between nest mates need of the start. -/
def evStr : List (String × Nat × String) := [("MaterialBars", 50, "the pad is full"), ("MaterialBars", 57, "no sign"), ("MaterialBars", 66, "there are twelve methods"), ("MaterialBars", 92, "there are ten objects"), ("MaterialBars", 101, "the object has eight parts"), ("MaterialBars", 131, "the object has 30 rows"), ("MaterialBars", 157, "change"), ("MaterialBars", 178, "what"), ("MaterialBars", 190, "set"), ("MaterialBars", 223, "no such place"), ("MaterialBars", 225, "hour")]
def evM : List (String × Nat × MethodName × String) := [("MaterialBars", 9, yX2_init, "MaterialBars"), ("MaterialBars", 22, yX1_init, "MaterialBars"), ("MaterialBars", 29, yX3_init, "MaterialBars"), ("MaterialBars", 36, yX0_init, "MaterialBars"), ("MaterialBars$Pad", 61, yX4_with, "MaterialBars"), ("MaterialBars$Piece", 28, yX4_with, "MaterialBars"), ("MaterialBars$Piece", 32, yX4_has, "MaterialBars")]
def evD : List MethodName := [Bundle.initS "java/lang/RuntimeException", Bundle.initS "java/lang/Exception", Bundle.initS "java/lang/Throwable"]
def evC : List String := ["java/lang/IllegalStateException", "java/lang/IllegalArgumentException", "java/lang/IndexOutOfBoundsException"]
def th_B (E : String) : List Cond := [.declares (Bundle.initS "java/lang/RuntimeException"), .declares (Bundle.initS "java/lang/Exception"), .declares (Bundle.initS "java/lang/Throwable"), .castable E E]
def Ev (A : Nat → Prop) (U : State) (H : Heap) : Prop := vx_Zq Bundle.tN "UNASSIGNED_STACK" Bundle.steD A U H ∧ vx_Zq Bundle.tN "SUPPRESSED_SENTINEL" Bundle.listD A U H ∧ (∀ q ∈ evStr, ∃ a, vk_R q.1 q.2.1 q.2.2 a U) ∧ (∀ q ∈ evM, va_Nw (.methodLinkNest q.1 q.2.1 q.2.2.1 q.2.2.2) U) ∧ (∀ q ∈ evD, va_Nw (.declares q) U) ∧ (∀ q ∈ evC, va_Nw (.castable q q) U)
theorem Ev.same {A : Nat → Prop} {u U : State} {H : Heap} (hv : U.vm = u.vm) (h : Ev A u H) : Ev A U H :=
  ⟨vx_Zq.moved (by rw [hv]; exact Vm.Alike.refl _) h.1, vx_Zq.moved (by rw [hv]; exact Vm.Alike.refl _) h.2.1, fun q hq => by obtain ⟨a, ha⟩ := h.2.2.1 q hq; exact ⟨a, vk_R.same hv ha⟩, fun q hq => va_Nw.same rfl hv.symm (h.2.2.2.1 q hq), fun q hq => va_Nw.same rfl hv.symm (h.2.2.2.2.1 q hq), fun q hq => va_Nw.same rfl hv.symm (h.2.2.2.2.2 q hq)⟩
theorem Ev.warm {A B : Nat → Prop} {s U : State} {H H1 : Heap} (hW : s.WarmedH U.vm) (hk : ∀ a : Nat, a < H.size → ¬ A a → H1[a]? = H[a]?) (hAB : ∀ q, B q → A q) (h : Ev A s H) : Ev B U H1 :=
  ⟨vx_Zq.narrow (vx_Zq.kept (vx_Zq.moved hW.alike h.1) hk) hAB, vx_Zq.narrow (vx_Zq.kept (vx_Zq.moved hW.alike h.2.1) hk) hAB, fun q hq => by obtain ⟨a, ha⟩ := h.2.2.1 q hq; exact ⟨a, vk_R.warm hW ha⟩, fun q hq => va_Nw.warmM hW (h.2.2.2.1 q hq), fun q hq => va_Nw.warmD hW (h.2.2.2.2.1 q hq), fun q hq => va_Nw.warmC hW (h.2.2.2.2.2 q hq)⟩
theorem Ev.str {A : Nat → Prop} {U : State} {H : Heap} (h : Ev A U H) {own : String} {k : Nat} {tx : String} (hq : (own, k, tx) ∈ evStr) : ∃ a, vk_R own k tx a U := h.2.2.1 _ hq
theorem Ev.nest {A : Nat → Prop} {U : State} {H : Heap} (h : Ev A U H) {own : String} {k : Nat} {y : MethodName} {host : String} (hq : (own, k, y, host) ∈ evM) : va_Nw (.methodLinkNest own k y host) U := h.2.2.2.1 _ hq
theorem Ev.th {A : Nat → Prop} {U : State} {H : Heap} (h : Ev A U H) {E : String} (hq : E ∈ evC) {args : Array Value} : ∀ w ∈ th_B E, w.before args U = true :=
  vx_c (va_Nw.use rfl (h.2.2.2.2.1 _ (by decide +kernel))) (vx_c (va_Nw.use rfl (h.2.2.2.2.1 _ (by decide +kernel))) (vx_c (va_Nw.use rfl (h.2.2.2.2.1 _ (by decide +kernel))) (vx_c (va_Nw.use rfl (h.2.2.2.2.2 _ hq)) vx_n)))
def th_n : List String := ["java/lang/RuntimeException", "java/lang/Exception"]
theorem thf_n : ∀ n ∈ th_n, Bundle.fit n = true := by decide +kernel
theorem thf_IndexOutOfBoundsException : Bundle.fit "java/lang/IndexOutOfBoundsException" = true := by decide +kernel
theorem thw_IndexOutOfBoundsException : ∀ w ∈ (vx_atS "MaterialBars" 180 "java/lang/IndexOutOfBoundsException" th_n).filter goodWord, w ∈ T0 := fun w h => T0_in ((by decide +kernel : ∀ w ∈ (vx_atS "MaterialBars" 180 "java/lang/IndexOutOfBoundsException" th_n).filter goodWord, w ∈ lw_tbl) w h) (List.mem_filter.mp h).2
theorem thb_IndexOutOfBoundsException : ∀ w ∈ (vx_atS "MaterialBars" 180 "java/lang/IndexOutOfBoundsException" th_n).filter (fun w => !goodWord w), w ∈ th_B "java/lang/IndexOutOfBoundsException" := by decide +kernel
theorem thg_IndexOutOfBoundsException (ik : Nat) : ∀ w ∈ Cond.classLink "MaterialBars" ik "java/lang/IndexOutOfBoundsException" :: Cond.initialized "java/lang/IndexOutOfBoundsException" :: (vx_atS "MaterialBars" 180 "java/lang/IndexOutOfBoundsException" th_n), vx_ot w = true := fun w h => by
  rcases List.mem_cons.mp h with rfl | h
  · rfl
  · rcases List.mem_cons.mp h with rfl | h
    · rfl
    · exact (by decide +kernel : ∀ w ∈ (vx_atS "MaterialBars" 180 "java/lang/IndexOutOfBoundsException" th_n), vx_ot w = true) w h
theorem thf_IllegalArgumentException : Bundle.fit "java/lang/IllegalArgumentException" = true := by decide +kernel
theorem thw_IllegalArgumentException : ∀ w ∈ (vx_atS "MaterialBars" 59 "java/lang/IllegalArgumentException" th_n).filter goodWord, w ∈ T0 := fun w h => T0_in ((by decide +kernel : ∀ w ∈ (vx_atS "MaterialBars" 59 "java/lang/IllegalArgumentException" th_n).filter goodWord, w ∈ lw_tbl) w h) (List.mem_filter.mp h).2
theorem thb_IllegalArgumentException : ∀ w ∈ (vx_atS "MaterialBars" 59 "java/lang/IllegalArgumentException" th_n).filter (fun w => !goodWord w), w ∈ th_B "java/lang/IllegalArgumentException" := by decide +kernel
theorem thg_IllegalArgumentException (ik : Nat) : ∀ w ∈ Cond.classLink "MaterialBars" ik "java/lang/IllegalArgumentException" :: Cond.initialized "java/lang/IllegalArgumentException" :: (vx_atS "MaterialBars" 59 "java/lang/IllegalArgumentException" th_n), vx_ot w = true := fun w h => by
  rcases List.mem_cons.mp h with rfl | h
  · rfl
  · rcases List.mem_cons.mp h with rfl | h
    · rfl
    · exact (by decide +kernel : ∀ w ∈ (vx_atS "MaterialBars" 59 "java/lang/IllegalArgumentException" th_n), vx_ot w = true) w h
theorem thf_IllegalStateException : Bundle.fit "java/lang/IllegalStateException" = true := by decide +kernel
theorem thw_IllegalStateException : ∀ w ∈ (vx_atS "MaterialBars" 52 "java/lang/IllegalStateException" th_n).filter goodWord, w ∈ T0 := fun w h => T0_in ((by decide +kernel : ∀ w ∈ (vx_atS "MaterialBars" 52 "java/lang/IllegalStateException" th_n).filter goodWord, w ∈ lw_tbl) w h) (List.mem_filter.mp h).2
theorem thb_IllegalStateException : ∀ w ∈ (vx_atS "MaterialBars" 52 "java/lang/IllegalStateException" th_n).filter (fun w => !goodWord w), w ∈ th_B "java/lang/IllegalStateException" := by decide +kernel
theorem thg_IllegalStateException (ik : Nat) : ∀ w ∈ Cond.classLink "MaterialBars" ik "java/lang/IllegalStateException" :: Cond.initialized "java/lang/IllegalStateException" :: (vx_atS "MaterialBars" 52 "java/lang/IllegalStateException" th_n), vx_ot w = true := fun w h => by
  rcases List.mem_cons.mp h with rfl | h
  · rfl
  · rcases List.mem_cons.mp h with rfl | h
    · rfl
    · exact (by decide +kernel : ∀ w ∈ (vx_atS "MaterialBars" 52 "java/lang/IllegalStateException" th_n), vx_ot w = true) w h
/-! What a contract over the component's world says before and behind; the environment EV is a parameter: what it needs of the launch's start. -/
def PB (D : va_G) (ad : Nat → Nat) (kk : Nat → ClassId) (sz : Nat) (σ : St) (U : State) : Prop := U.heap.size = sz ∧ va_P D vwCl (wB ad kk σ) U.heap ∧ va_K D vwCl (tyB kk) U ∧ va_D (fun _ => True) (wB ad kk σ) ∧ Ev (aL 96 ad sz) U U.heap
def QB (D : va_G) (ad : Nat → Nat) (kk : Nat → ClassId) (sz : Nat) (σ : St) (t : State) : Prop := va_P D vwCl (wB ad kk σ) t.heap ∧ va_K D vwCl (tyB kk) t ∧ va_D (aL 96 ad sz) (wB ad kk σ)
theorem PB_blind {av : List Value} {D : va_G} {ad : Nat → Nat} {kk : Nat → ClassId} {sz : Nat} {σ : St} : FrameBlind (va_Pc av (PB D ad kk sz σ)) := fun a U g mk q => by
  obtain ⟨q0, q1, qP, qK, qD, qE⟩ := q
  exact ⟨q0, q1, qP, va_K.moved (u := U) (U := U.calling g mk a) (Vm.Alike.refl U.vm) qK, qD, Ev.same (u := U) (U := U.calling g mk a) rfl qE⟩
theorem PB_at {s U : State} {H : Heap} {locs : List Loc} {D : va_G} {ad : Nat → Nat} {kk : Nat → ClassId} {σ : St} {A : Nat → Prop} (hK : va_K D vwCl (tyB kk) s) (hP : va_P D vwCl (wB ad kk σ) H) (hD : va_D A (wB ad kk σ)) (hE : Ev (aL 96 ad s.heap.size) s s.heap) (hS : va_S (aL 96 ad s.heap.size) s.heap H locs) (hU : U.heap = H) (hW : s.WarmedH U.vm) : PB D ad kk H.size σ U :=
  ⟨by rw [hU], by rw [hU]; exact hP, va_K.moved hW.alike hK, hD.weaken (fun _ _ _ _ => trivial), by
    rw [hU]
    exact Ev.warm hW (fun a h1 h2 => hS.2.1 a h1 h2) (aL_le hS.1) hE⟩
section
variable {p : Program} {l : Launch} {e : Env} {R : Room} {s : State} {m : MethodId} {args : Array Value} {below : List Frame} {meth : Method} {c : Code} {H : Heap} {locs : List Loc} {cells slots mc ms pc : Nat} {ls : Array Slot} {st0 rest : List Value} {Q : State → Prop} {D : va_G} {ad : Nat → Nat} {kk : Nat → ClassId} {a : Array Value} {σ : St}
theorem preV_B {C : String} {b : Addr} {As : List Value} {q0 ci : Nat} {r : vw_C} {fs : List Value} {A : Nat → Prop} (hK : va_K D vwCl (tyB kk) s) (hP : va_P D vwCl (wB ad kk σ) H) (hD : va_D A (wB ad kk σ)) (hE : Ev (aL 96 ad s.heap.size) s s.heap) (hS : va_S (aL 96 ad s.heap.size) s.heap H locs) (hc : vwCl[ci]? = some r) (hC : r.1 = C) (he : (wB ad kk σ)[q0]? = some (b, .inr (ci, fs))) : PreV s H C b (va_Pc (.ref b :: As) (PB D ad kk H.size σ)) As :=
  ⟨PB_blind, by rw [← hC]; exact va_recv hK hP hc he, fun U hU hW => ⟨rfl, PB_at hK hP hD hE hS hU hW⟩⟩
theorem preS_B {As : List Value} {A : Nat → Prop} (hK : va_K D vwCl (tyB kk) s) (hP : va_P D vwCl (wB ad kk σ) H) (hD : va_D A (wB ad kk σ)) (hE : Ev (aL 96 ad s.heap.size) s s.heap) (hS : va_S (aL 96 ad s.heap.size) s.heap H locs) : PreS s H (va_Pc As (PB D ad kk H.size σ)) As :=
  ⟨PB_blind, fun U hU hW => ⟨rfl, PB_at hK hP hD hE hS hU hW⟩⟩
theorem kB_i {post : Int32 → St → Prop} (hr : va_Run p l e R s m args below meth c H locs cells slots mc ms (F0 m pc ls st0) rest (va_Qi post (QB D ad kk H.size) (aL 96 ad H.size) a) (aL 96 ad H.size)) (hS : va_S (aL 96 ad s.heap.size) s.heap H locs)
    (kx : ∀ (r : Int32) (u : St) (H1 : Heap) (locs1 : List Loc), post r u → va_P D vwCl (wB ad kk u) H1 → va_D (aL 96 ad s.heap.size) (wB ad kk u) → va_S (aL 96 ad s.heap.size) s.heap H1 locs1 → W p l e R s m args below meth c H1 locs1 (cells + mc) (slots + ms) Q (F0 m (pc + 3) ls (.int r :: rest))) : W p l e R s m args below meth c H locs cells slots Q (F0 m pc ls st0) :=
  va_calli hr hS (fun q _ h => aL_le hS.1 q h) (aL_le hS.1) (fun r u t H1 locs1 ht _ hp hB _ _ hS1 => kx r u H1 locs1 hp (by rw [← ht]; exact hB.1) (aL_D2 hB.2.2 (aL_le hS.1)) hS1)
theorem kB_v {post : St → Prop} (hr : va_Run p l e R s m args below meth c H locs cells slots mc ms (F0 m pc ls st0) rest (va_Qv post (QB D ad kk H.size) (aL 96 ad H.size) a) (aL 96 ad H.size)) (hS : va_S (aL 96 ad s.heap.size) s.heap H locs)
    (kx : ∀ (u : St) (H1 : Heap) (locs1 : List Loc), post u → va_P D vwCl (wB ad kk u) H1 → va_D (aL 96 ad s.heap.size) (wB ad kk u) → va_S (aL 96 ad s.heap.size) s.heap H1 locs1 → W p l e R s m args below meth c H1 locs1 (cells + mc) (slots + ms) Q (F0 m (pc + 3) ls rest)) : W p l e R s m args below meth c H locs cells slots Q (F0 m pc ls st0) :=
  va_callv hr hS (fun q _ h => aL_le hS.1 q h) (aL_le hS.1) (fun u t H1 locs1 ht _ hp hB _ _ hS1 => kx u H1 locs1 hp (by rw [← ht]; exact hB.1) (aL_D2 hB.2.2 (aL_le hS.1)) hS1)
/-- what a throwing method says of its throw: the mirror's error, the world as it was -/
def XB {α : Type} (T : Except String α) (D : va_G) (ad : Nat → Nat) (kk : Nat → ClassId) (sz : Nat) (σ : St) : String → State → State → Prop := vx_X (fun _ : Unit => True) (fun E _ t => .error E = T ∧ QB D ad kk sz σ t) (aL 96 ad sz)
/-- a throw of a callee goes on up -/
theorem xB_up {α β : Type} {Tg : Except String α} {T : Except String β} {Qc : Array Value → State → Outcome → State → Prop} {mc1 ms1 : Nat} {E : String} {ce : Cell} {q9 : Addr} {t : State} {H1 : Heap} {locs1 : List Loc} (hEx : ∀ x ∈ c.exceptionTable.toList, False) (hlocks : meth.locks = false) (hS : va_S (aL 96 ad s.heap.size) s.heap H locs) (hT : ∀ E, Except.error E = Tg → Except.error E = T) (ht : t.heap = H1) (hB : Except.error E = Tg ∧ QB D ad kk H.size σ t) (hS1 : va_S (aL 96 ad s.heap.size) s.heap H1 locs1) (hc1 : H1[q9]? = some ce) (hv1 : ce.vm = .none) (hcl : s.vm.findClass E = some ce.cls) (hvm : s.vm.Alike t.vm) (g1 : cells ≤ mc1) (g2 : slots ≤ ms1) :
    vx_W p l e R s m args below meth c H1 locs1 cells slots (vx_MQ below Qc (XB T D ad kk s.heap.size σ) args s mc1 ms1 (aL 96 ad s.heap.size)) (F0 m pc ls rest) q9 :=
  vx_out (fun x hx => (hEx x hx).elim) hlocks hc1 hv1 hcl (fun t2 ht2 hvm2 => ⟨(), trivial, ⟨hT E hB.1, by rw [ht2, ← ht]; exact hB.2.1, va_K.moved (hvm.symm.trans hvm2) hB.2.2.1, aL_D2 hB.2.2.2 (aL_le hS.1)⟩, hS1.F ht2⟩) hS1.2.2 g1 g2
theorem kX_i {α β : Type} {Tg : Except String α} {T : Except String β} {Qc : Array Value → State → Outcome → State → Prop} {mc1 ms1 : Nat} {post : Int32 → St → Prop} (hr : vx_Run p l e R s m args below meth c H locs cells slots mc ms (F0 m pc ls st0) rest (va_Qi post (QB D ad kk H.size) (aL 96 ad H.size) a) (XB Tg D ad kk H.size σ) (aL 96 ad H.size)) (hS : va_S (aL 96 ad s.heap.size) s.heap H locs) (hEx : ∀ x ∈ c.exceptionTable.toList, False) (hlocks : meth.locks = false) (g1 : cells + mc ≤ mc1) (g2 : slots + ms ≤ ms1) (hT : ∀ E, Except.error E = Tg → Except.error E = T)
    (kx : ∀ (r : Int32) (u : St) (H1 : Heap) (locs1 : List Loc), post r u → va_P D vwCl (wB ad kk u) H1 → va_D (aL 96 ad s.heap.size) (wB ad kk u) → va_S (aL 96 ad s.heap.size) s.heap H1 locs1 → W p l e R s m args below meth c H1 locs1 (cells + mc) (slots + ms) (vx_MQ below Qc (XB T D ad kk s.heap.size σ) args s mc1 ms1 (aL 96 ad s.heap.size)) (F0 m (pc + 3) ls (.int r :: rest))) : W p l e R s m args below meth c H locs cells slots (vx_MQ below Qc (XB T D ad kk s.heap.size σ) args s mc1 ms1 (aL 96 ad s.heap.size)) (F0 m pc ls st0) :=
  vx_calli hr hS (fun q _ h => aL_le hS.1 q h) (aL_le hS.1) (fun q _ h => aL_le hS.1 q h) (fun _ _ _ _ _ _ _ ht hvm _ hB _ _ hS1 hc1 hv1 hcl => xB_up hEx hlocks hS hT ht hB hS1 hc1 hv1 hcl hvm g1 g2) (fun r u t H1 locs1 ht _ hp hB _ _ hS1 => kx r u H1 locs1 hp (by rw [← ht]; exact hB.1) (aL_D2 hB.2.2 (aL_le hS.1)) hS1)
theorem kX_v {α β : Type} {Tg : Except String α} {T : Except String β} {Qc : Array Value → State → Outcome → State → Prop} {mc1 ms1 : Nat} {post : St → Prop} (hr : vx_Run p l e R s m args below meth c H locs cells slots mc ms (F0 m pc ls st0) rest (va_Qv post (QB D ad kk H.size) (aL 96 ad H.size) a) (XB Tg D ad kk H.size σ) (aL 96 ad H.size)) (hS : va_S (aL 96 ad s.heap.size) s.heap H locs) (hEx : ∀ x ∈ c.exceptionTable.toList, False) (hlocks : meth.locks = false) (g1 : cells + mc ≤ mc1) (g2 : slots + ms ≤ ms1) (hT : ∀ E, Except.error E = Tg → Except.error E = T)
    (kx : ∀ (u : St) (H1 : Heap) (locs1 : List Loc), post u → va_P D vwCl (wB ad kk u) H1 → va_D (aL 96 ad s.heap.size) (wB ad kk u) → va_S (aL 96 ad s.heap.size) s.heap H1 locs1 → W p l e R s m args below meth c H1 locs1 (cells + mc) (slots + ms) (vx_MQ below Qc (XB T D ad kk s.heap.size σ) args s mc1 ms1 (aL 96 ad s.heap.size)) (F0 m (pc + 3) ls rest)) : W p l e R s m args below meth c H locs cells slots (vx_MQ below Qc (XB T D ad kk s.heap.size σ) args s mc1 ms1 (aL 96 ad s.heap.size)) (F0 m pc ls st0) :=
  vx_callv hr hS (fun q _ h => aL_le hS.1 q h) (aL_le hS.1) (fun q _ h => aL_le hS.1 q h) (fun _ _ _ _ _ _ _ ht hvm _ hB _ _ hS1 hc1 hv1 hcl => xB_up hEx hlocks hS hT ht hB hS1 hc1 hv1 hcl hvm g1 g2) (fun u t H1 locs1 ht _ hp hB _ _ hS1 => kx u H1 locs1 hp (by rw [← ht]; exact hB.1) (aL_D2 hB.2.2 (aL_le hS.1)) hS1)
theorem kX_q {α β : Type} {Tg : Except String α} {T : Except String β} {Qc : Array Value → State → Outcome → State → Prop} {mc1 ms1 : Nat} {post : Option Nat → St → Prop} (hr : vx_Run p l e R s m args below meth c H locs cells slots mc ms (F0 m pc ls st0) rest (va_Qq post (QB D ad kk H.size) (aL 96 ad H.size) a) (XB Tg D ad kk H.size σ) (aL 96 ad H.size)) (hS : va_S (aL 96 ad s.heap.size) s.heap H locs) (hEx : ∀ x ∈ c.exceptionTable.toList, False) (hlocks : meth.locks = false) (g1 : cells + mc ≤ mc1) (g2 : slots + ms ≤ ms1) (hT : ∀ E, Except.error E = Tg → Except.error E = T)
    (kx : ∀ (r : Option Nat) (u : St) (H1 : Heap) (locs1 : List Loc), post r u → va_P D vwCl (wB ad kk u) H1 → va_D (aL 96 ad s.heap.size) (wB ad kk u) → va_S (aL 96 ad s.heap.size) s.heap H1 locs1 → W p l e R s m args below meth c H1 locs1 (cells + mc) (slots + ms) (vx_MQ below Qc (XB T D ad kk s.heap.size σ) args s mc1 ms1 (aL 96 ad s.heap.size)) (F0 m (pc + 3) ls (va_rf r :: rest))) : W p l e R s m args below meth c H locs cells slots (vx_MQ below Qc (XB T D ad kk s.heap.size σ) args s mc1 ms1 (aL 96 ad s.heap.size)) (F0 m pc ls st0) := by
  intro T0 hT0 X
  rcases hr T0 hT0 X with ⟨v, st₀, t, T', L, h0, X', hL, e1, e2, ⟨⟨r, u, hv, hp, hB⟩, hF⟩, st⟩ | ⟨q, st₀, t, T', L, E, ce, h0, X', hL, e1, e2, ⟨u, hp, hB, hF⟩, hce, hcv, hcl, st⟩
  · cases hv
    obtain ⟨k1, k2, k3⟩ := vx_keep h0 e1 hS (fun q _ h => aL_le hS.1 q h) (aL_le hS.1) hL hF
    obtain ⟨t2, a1, b1⟩ := kx r u T'.heap (locs ++ L) hp (by rw [e1]; exact hB.1) (aL_D2 hB.2.2 (aL_le hS.1)) k3 T' rfl X'
    exact ⟨t2, st t2 a1, b1⟩
  · obtain ⟨k1, k2, k3⟩ := vx_keep h0 e1 hS (fun q _ h => aL_le hS.1 q h) (aL_le hS.1) hL hF
    obtain ⟨t2, a1, b1⟩ := xB_up (locs1 := locs ++ L) (H1 := T'.heap) hEx hlocks hS hT e1.symm hB k3 (by rw [e1]; exact hce) hcv hcl (by rw [← e2]; exact X'.warmed.alike) g1 g2 T' rfl X'
    exact ⟨t2, st.trans a1, b1⟩
/-- a method's own throw: the world as it stands -/
theorem xB_end {α : Type} {T : Except String α} {E : String} {t : State} (hT : Except.error E = T) (hK : va_K D vwCl (tyB kk) s) (hP : va_P D vwCl (wB ad kk σ) H) (hD : va_D (aL 96 ad s.heap.size) (wB ad kk σ)) (hS : va_S (aL 96 ad s.heap.size) s.heap H locs) (ha : s.vm.Alike t.vm) (hsz : H.size ≤ t.heap.size) (hk : ∀ q : Nat, q < H.size → t.heap[q]? = H[q]?) : XB T D ad kk s.heap.size σ E s t :=
  ⟨(), trivial, ⟨hT, hP.kept (fun k q hq => hk q.1 (hP k q hq).lt), va_K.moved ha hK, hD⟩, Nat.le_trans hS.1 hsz, fun q h1 h2 => (hk q (Nat.lt_of_lt_of_le h1 hS.1)).trans (hS.2.1 q h1 h2)⟩
end
end
section
theorem dX0_init_0 : decode cX0_init 0 = .ok (.aload_n 0, 1) := by decide +kernel
theorem dX0_init_1 : decode cX0_init 1 = .ok (.invokespecial 3, 3) := by decide +kernel
theorem dX0_init_4 : decode cX0_init 4 = .ok (.aload_n 0, 1) := by decide +kernel
theorem dX0_init_5 : decode cX0_init 5 = .ok (.iconst (-1), 1) := by decide +kernel
theorem dX0_init_6 : decode cX0_init 6 = .ok (.putfield 9, 3) := by decide +kernel
theorem dX0_init_9 : decode cX0_init 9 = .ok (.return_, 1) := by decide +kernel
theorem dX0_changeBy_0 : decode cX0_changeBy 0 = .ok (.aload_n 0, 1) := by decide +kernel
theorem dX0_changeBy_1 : decode cX0_changeBy 1 = .ok (.dup, 1) := by decide +kernel
theorem dX0_changeBy_2 : decode cX0_changeBy 2 = .ok (.getfield 15, 3) := by decide +kernel
theorem dX0_changeBy_5 : decode cX0_changeBy 5 = .ok (.iload_n 1, 1) := by decide +kernel
theorem dX0_changeBy_6 : decode cX0_changeBy 6 = .ok (.iadd, 1) := by decide +kernel
theorem dX0_changeBy_7 : decode cX0_changeBy 7 = .ok (.putfield 15, 3) := by decide +kernel
theorem dX0_changeBy_10 : decode cX0_changeBy 10 = .ok (.iload_n 1, 1) := by decide +kernel
theorem dX0_changeBy_11 : decode cX0_changeBy 11 = .ok (.ifCond .le 17, 3) := by decide +kernel
theorem dX0_changeBy_14 : decode cX0_changeBy 14 = .ok (.aload_n 0, 1) := by decide +kernel
theorem dX0_changeBy_15 : decode cX0_changeBy 15 = .ok (.dup, 1) := by decide +kernel
theorem dX0_changeBy_16 : decode cX0_changeBy 16 = .ok (.getfield 18, 3) := by decide +kernel
theorem dX0_changeBy_19 : decode cX0_changeBy 19 = .ok (.iload_n 1, 1) := by decide +kernel
theorem dX0_changeBy_20 : decode cX0_changeBy 20 = .ok (.i2l, 1) := by decide +kernel
theorem dX0_changeBy_21 : decode cX0_changeBy 21 = .ok (.ladd, 1) := by decide +kernel
theorem dX0_changeBy_22 : decode cX0_changeBy 22 = .ok (.putfield 18, 3) := by decide +kernel
theorem dX0_changeBy_25 : decode cX0_changeBy 25 = .ok (.goto 14, 3) := by decide +kernel
theorem dX0_changeBy_28 : decode cX0_changeBy 28 = .ok (.aload_n 0, 1) := by decide +kernel
theorem dX0_changeBy_29 : decode cX0_changeBy 29 = .ok (.dup, 1) := by decide +kernel
theorem dX0_changeBy_30 : decode cX0_changeBy 30 = .ok (.getfield 22, 3) := by decide +kernel
theorem dX0_changeBy_33 : decode cX0_changeBy 33 = .ok (.iload_n 1, 1) := by decide +kernel
theorem dX0_changeBy_34 : decode cX0_changeBy 34 = .ok (.i2l, 1) := by decide +kernel
theorem dX0_changeBy_35 : decode cX0_changeBy 35 = .ok (.lsub, 1) := by decide +kernel
theorem dX0_changeBy_36 : decode cX0_changeBy 36 = .ok (.putfield 22, 3) := by decide +kernel
theorem dX0_changeBy_39 : decode cX0_changeBy 39 = .ok (.return_, 1) := by decide +kernel
theorem dX1_init_0 : decode cX1_init 0 = .ok (.aload_n 0, 1) := by decide +kernel
theorem dX1_init_1 : decode cX1_init 1 = .ok (.invokespecial 3, 3) := by decide +kernel
theorem dX1_init_4 : decode cX1_init 4 = .ok (.aload_n 0, 1) := by decide +kernel
theorem dX1_init_5 : decode cX1_init 5 = .ok (.bipush 12, 2) := by decide +kernel
theorem dX1_init_7 : decode cX1_init 7 = .ok (.newarray .int, 2) := by decide +kernel
theorem dX1_init_9 : decode cX1_init 9 = .ok (.putfield 9, 3) := by decide +kernel
theorem dX1_init_12 : decode cX1_init 12 = .ok (.aload_n 0, 1) := by decide +kernel
theorem dX1_init_13 : decode cX1_init 13 = .ok (.bipush 12, 2) := by decide +kernel
theorem dX1_init_15 : decode cX1_init 15 = .ok (.newarray .int, 2) := by decide +kernel
theorem dX1_init_17 : decode cX1_init 17 = .ok (.putfield 15, 3) := by decide +kernel
theorem dX1_init_20 : decode cX1_init 20 = .ok (.return_, 1) := by decide +kernel
theorem dX1_clear_0 : decode cX1_clear 0 = .ok (.iconst 0, 1) := by decide +kernel
theorem dX1_clear_1 : decode cX1_clear 1 = .ok (.istore_n 1, 1) := by decide +kernel
theorem dX1_clear_2 : decode cX1_clear 2 = .ok (.iload_n 1, 1) := by decide +kernel
theorem dX1_clear_3 : decode cX1_clear 3 = .ok (.bipush 12, 2) := by decide +kernel
theorem dX1_clear_5 : decode cX1_clear 5 = .ok (.if_icmp .ge 16, 3) := by decide +kernel
theorem dX1_clear_8 : decode cX1_clear 8 = .ok (.aload_n 0, 1) := by decide +kernel
theorem dX1_clear_9 : decode cX1_clear 9 = .ok (.getfield 9, 3) := by decide +kernel
theorem dX1_clear_12 : decode cX1_clear 12 = .ok (.iload_n 1, 1) := by decide +kernel
theorem dX1_clear_13 : decode cX1_clear 13 = .ok (.iconst 0, 1) := by decide +kernel
theorem dX1_clear_14 : decode cX1_clear 14 = .ok (.iastore, 1) := by decide +kernel
theorem dX1_clear_15 : decode cX1_clear 15 = .ok (.iinc 1 1, 3) := by decide +kernel
theorem dX1_clear_18 : decode cX1_clear 18 = .ok (.goto (-16), 3) := by decide +kernel
theorem dX1_clear_21 : decode cX1_clear 21 = .ok (.iconst 0, 1) := by decide +kernel
theorem dX1_clear_22 : decode cX1_clear 22 = .ok (.istore_n 1, 1) := by decide +kernel
theorem dX1_clear_23 : decode cX1_clear 23 = .ok (.iload_n 1, 1) := by decide +kernel
theorem dX1_clear_24 : decode cX1_clear 24 = .ok (.bipush 12, 2) := by decide +kernel
theorem dX1_clear_26 : decode cX1_clear 26 = .ok (.if_icmp .ge 16, 3) := by decide +kernel
theorem dX1_clear_29 : decode cX1_clear 29 = .ok (.aload_n 0, 1) := by decide +kernel
theorem dX1_clear_30 : decode cX1_clear 30 = .ok (.getfield 15, 3) := by decide +kernel
theorem dX1_clear_33 : decode cX1_clear 33 = .ok (.iload_n 1, 1) := by decide +kernel
theorem dX1_clear_34 : decode cX1_clear 34 = .ok (.iconst 0, 1) := by decide +kernel
theorem dX1_clear_35 : decode cX1_clear 35 = .ok (.iastore, 1) := by decide +kernel
theorem dX1_clear_36 : decode cX1_clear 36 = .ok (.iinc 1 1, 3) := by decide +kernel
theorem dX1_clear_39 : decode cX1_clear 39 = .ok (.goto (-16), 3) := by decide +kernel
theorem dX1_clear_42 : decode cX1_clear 42 = .ok (.aload_n 0, 1) := by decide +kernel
theorem dX1_clear_43 : decode cX1_clear 43 = .ok (.iconst 0, 1) := by decide +kernel
theorem dX1_clear_44 : decode cX1_clear 44 = .ok (.putfield 18, 3) := by decide +kernel
theorem dX1_clear_47 : decode cX1_clear 47 = .ok (.aload_n 0, 1) := by decide +kernel
theorem dX1_clear_48 : decode cX1_clear 48 = .ok (.iconst 0, 1) := by decide +kernel
theorem dX1_clear_49 : decode cX1_clear 49 = .ok (.putfield 22, 3) := by decide +kernel
theorem dX1_clear_52 : decode cX1_clear 52 = .ok (.aload_n 0, 1) := by decide +kernel
theorem dX1_clear_53 : decode cX1_clear 53 = .ok (.iconst 0, 1) := by decide +kernel
theorem dX1_clear_54 : decode cX1_clear 54 = .ok (.putfield 25, 3) := by decide +kernel
theorem dX1_clear_57 : decode cX1_clear 57 = .ok (.aload_n 0, 1) := by decide +kernel
theorem dX1_clear_58 : decode cX1_clear 58 = .ok (.iconst 0, 1) := by decide +kernel
theorem dX1_clear_59 : decode cX1_clear 59 = .ok (.putfield 28, 3) := by decide +kernel
theorem dX1_clear_62 : decode cX1_clear 62 = .ok (.aload_n 0, 1) := by decide +kernel
theorem dX1_clear_63 : decode cX1_clear 63 = .ok (.iconst 0, 1) := by decide +kernel
theorem dX1_clear_64 : decode cX1_clear 64 = .ok (.putfield 32, 3) := by decide +kernel
theorem dX1_clear_67 : decode cX1_clear 67 = .ok (.return_, 1) := by decide +kernel
theorem dX2_init_0 : decode cX2_init 0 = .ok (.aload_n 0, 1) := by decide +kernel
theorem dX2_init_1 : decode cX2_init 1 = .ok (.invokespecial 3, 3) := by decide +kernel
theorem dX2_init_4 : decode cX2_init 4 = .ok (.aload_n 0, 1) := by decide +kernel
theorem dX2_init_5 : decode cX2_init 5 = .ok (.bipush 50, 2) := by decide +kernel
theorem dX2_init_7 : decode cX2_init 7 = .ok (.newarray .int, 2) := by decide +kernel
theorem dX2_init_9 : decode cX2_init 9 = .ok (.putfield 9, 3) := by decide +kernel
theorem dX2_init_12 : decode cX2_init 12 = .ok (.return_, 1) := by decide +kernel
theorem dX2_readText_0 : decode cX2_readText 0 = .ok (.aload_n 0, 1) := by decide +kernel
theorem dX2_readText_1 : decode cX2_readText 1 = .ok (.iconst 0, 1) := by decide +kernel
theorem dX2_readText_2 : decode cX2_readText 2 = .ok (.putfield 15, 3) := by decide +kernel
theorem dX2_readText_5 : decode cX2_readText 5 = .ok (.aload_n 0, 1) := by decide +kernel
theorem dX2_readText_6 : decode cX2_readText 6 = .ok (.getfield 19, 3) := by decide +kernel
theorem dX2_readText_9 : decode cX2_readText 9 = .ok (.ifCond .ne 5, 3) := by decide +kernel
theorem dX2_readText_12 : decode cX2_readText 12 = .ok (.iconst 1, 1) := by decide +kernel
theorem dX2_readText_13 : decode cX2_readText 13 = .ok (.ireturn, 1) := by decide +kernel
theorem dX2_readText_14 : decode cX2_readText 14 = .ok (.iconst 0, 1) := by decide +kernel
theorem dX2_readText_15 : decode cX2_readText 15 = .ok (.istore_n 2, 1) := by decide +kernel
theorem dX2_readText_16 : decode cX2_readText 16 = .ok (.iload_n 2, 1) := by decide +kernel
theorem dX2_readText_17 : decode cX2_readText 17 = .ok (.bipush 10, 2) := by decide +kernel
theorem dX2_readText_19 : decode cX2_readText 19 = .ok (.if_icmp .ge 47, 3) := by decide +kernel
theorem dX2_readText_22 : decode cX2_readText 22 = .ok (.iload_n 2, 1) := by decide +kernel
theorem dX2_readText_23 : decode cX2_readText 23 = .ok (.ifCond .le 14, 3) := by decide +kernel
theorem dX2_readText_26 : decode cX2_readText 26 = .ok (.aload_n 0, 1) := by decide +kernel
theorem dX2_readText_27 : decode cX2_readText 27 = .ok (.bipush 44, 2) := by decide +kernel
theorem dX2_readText_29 : decode cX2_readText 29 = .ok (.invokevirtual 22, 3) := by decide +kernel
theorem dX2_readText_32 : decode cX2_readText 32 = .ok (.ifCond .ne 5, 3) := by decide +kernel
theorem dX2_readText_35 : decode cX2_readText 35 = .ok (.iconst 0, 1) := by decide +kernel
theorem dX2_readText_36 : decode cX2_readText 36 = .ok (.ireturn, 1) := by decide +kernel
theorem dX2_readText_37 : decode cX2_readText 37 = .ok (.aload_n 0, 1) := by decide +kernel
theorem dX2_readText_38 : decode cX2_readText 38 = .ok (.aload_n 1, 1) := by decide +kernel
theorem dX2_readText_39 : decode cX2_readText 39 = .ok (.invokevirtual 26, 3) := by decide +kernel
theorem dX2_readText_42 : decode cX2_readText 42 = .ok (.ifCond .ne 5, 3) := by decide +kernel
theorem dX2_readText_45 : decode cX2_readText 45 = .ok (.iconst 0, 1) := by decide +kernel
theorem dX2_readText_46 : decode cX2_readText 46 = .ok (.ireturn, 1) := by decide +kernel
theorem dX2_readText_47 : decode cX2_readText 47 = .ok (.aload_n 0, 1) := by decide +kernel
theorem dX2_readText_48 : decode cX2_readText 48 = .ok (.getfield 15, 3) := by decide +kernel
theorem dX2_readText_51 : decode cX2_readText 51 = .ok (.aload_n 0, 1) := by decide +kernel
theorem dX2_readText_52 : decode cX2_readText 52 = .ok (.getfield 19, 3) := by decide +kernel
theorem dX2_readText_55 : decode cX2_readText 55 = .ok (.if_icmp .lt 5, 3) := by decide +kernel
theorem dX2_readText_58 : decode cX2_readText 58 = .ok (.iconst 1, 1) := by decide +kernel
theorem dX2_readText_59 : decode cX2_readText 59 = .ok (.ireturn, 1) := by decide +kernel
theorem dX2_readText_60 : decode cX2_readText 60 = .ok (.iinc 2 1, 3) := by decide +kernel
theorem dX2_readText_63 : decode cX2_readText 63 = .ok (.goto (-47), 3) := by decide +kernel
theorem dX2_readText_66 : decode cX2_readText 66 = .ok (.iconst 0, 1) := by decide +kernel
theorem dX2_readText_67 : decode cX2_readText 67 = .ok (.ireturn, 1) := by decide +kernel
theorem dX2_readClause_0 : decode cX2_readClause 0 = .ok (.aload_n 0, 1) := by decide +kernel
theorem dX2_readClause_1 : decode cX2_readClause 1 = .ok (.bipush 117, 2) := by decide +kernel
theorem dX2_readClause_3 : decode cX2_readClause 3 = .ok (.invokevirtual 22, 3) := by decide +kernel
theorem dX2_readClause_6 : decode cX2_readClause 6 = .ok (.ifCond .eq 9, 3) := by decide +kernel
theorem dX2_readClause_9 : decode cX2_readClause 9 = .ok (.aload_n 0, 1) := by decide +kernel
theorem dX2_readClause_10 : decode cX2_readClause 10 = .ok (.aload_n 1, 1) := by decide +kernel
theorem dX2_readClause_11 : decode cX2_readClause 11 = .ok (.invokevirtual 30, 3) := by decide +kernel
theorem dX2_readClause_14 : decode cX2_readClause 14 = .ok (.ireturn, 1) := by decide +kernel
theorem dX2_readClause_15 : decode cX2_readClause 15 = .ok (.aload_n 0, 1) := by decide +kernel
theorem dX2_readClause_16 : decode cX2_readClause 16 = .ok (.bipush 98, 2) := by decide +kernel
theorem dX2_readClause_18 : decode cX2_readClause 18 = .ok (.invokevirtual 22, 3) := by decide +kernel
theorem dX2_readClause_21 : decode cX2_readClause 21 = .ok (.ifCond .eq 9, 3) := by decide +kernel
theorem dX2_readClause_24 : decode cX2_readClause 24 = .ok (.aload_n 0, 1) := by decide +kernel
theorem dX2_readClause_25 : decode cX2_readClause 25 = .ok (.aload_n 1, 1) := by decide +kernel
theorem dX2_readClause_26 : decode cX2_readClause 26 = .ok (.invokevirtual 33, 3) := by decide +kernel
theorem dX2_readClause_29 : decode cX2_readClause 29 = .ok (.ireturn, 1) := by decide +kernel
theorem dX2_readClause_30 : decode cX2_readClause 30 = .ok (.aload_n 0, 1) := by decide +kernel
theorem dX2_readClause_31 : decode cX2_readClause 31 = .ok (.bipush 120, 2) := by decide +kernel
theorem dX2_readClause_33 : decode cX2_readClause 33 = .ok (.invokevirtual 22, 3) := by decide +kernel
theorem dX2_readClause_36 : decode cX2_readClause 36 = .ok (.ifCond .eq 9, 3) := by decide +kernel
theorem dX2_readClause_39 : decode cX2_readClause 39 = .ok (.aload_n 0, 1) := by decide +kernel
theorem dX2_readClause_40 : decode cX2_readClause 40 = .ok (.aload_n 1, 1) := by decide +kernel
theorem dX2_readClause_41 : decode cX2_readClause 41 = .ok (.invokevirtual 36, 3) := by decide +kernel
theorem dX2_readClause_44 : decode cX2_readClause 44 = .ok (.ireturn, 1) := by decide +kernel
theorem dX2_readClause_45 : decode cX2_readClause 45 = .ok (.aload_n 0, 1) := by decide +kernel
theorem dX2_readClause_46 : decode cX2_readClause 46 = .ok (.bipush 97, 2) := by decide +kernel
theorem dX2_readClause_48 : decode cX2_readClause 48 = .ok (.invokevirtual 22, 3) := by decide +kernel
theorem dX2_readClause_51 : decode cX2_readClause 51 = .ok (.ifCond .eq 9, 3) := by decide +kernel
theorem dX2_readClause_54 : decode cX2_readClause 54 = .ok (.aload_n 0, 1) := by decide +kernel
theorem dX2_readClause_55 : decode cX2_readClause 55 = .ok (.aload_n 1, 1) := by decide +kernel
theorem dX2_readClause_56 : decode cX2_readClause 56 = .ok (.invokevirtual 39, 3) := by decide +kernel
theorem dX2_readClause_59 : decode cX2_readClause 59 = .ok (.ireturn, 1) := by decide +kernel
theorem dX2_readClause_60 : decode cX2_readClause 60 = .ok (.aload_n 0, 1) := by decide +kernel
theorem dX2_readClause_61 : decode cX2_readClause 61 = .ok (.bipush 116, 2) := by decide +kernel
theorem dX2_readClause_63 : decode cX2_readClause 63 = .ok (.invokevirtual 22, 3) := by decide +kernel
theorem dX2_readClause_66 : decode cX2_readClause 66 = .ok (.ifCond .eq 10, 3) := by decide +kernel
theorem dX2_readClause_69 : decode cX2_readClause 69 = .ok (.aload_n 1, 1) := by decide +kernel
theorem dX2_readClause_70 : decode cX2_readClause 70 = .ok (.iconst 1, 1) := by decide +kernel
theorem dX2_readClause_71 : decode cX2_readClause 71 = .ok (.putfield 42, 3) := by decide +kernel
theorem dX2_readClause_74 : decode cX2_readClause 74 = .ok (.iconst 1, 1) := by decide +kernel
theorem dX2_readClause_75 : decode cX2_readClause 75 = .ok (.ireturn, 1) := by decide +kernel
theorem dX2_readClause_76 : decode cX2_readClause 76 = .ok (.aload_n 0, 1) := by decide +kernel
theorem dX2_readClause_77 : decode cX2_readClause 77 = .ok (.bipush 105, 2) := by decide +kernel
theorem dX2_readClause_79 : decode cX2_readClause 79 = .ok (.invokevirtual 22, 3) := by decide +kernel
theorem dX2_readClause_82 : decode cX2_readClause 82 = .ok (.ifCond .eq 10, 3) := by decide +kernel
theorem dX2_readClause_85 : decode cX2_readClause 85 = .ok (.aload_n 1, 1) := by decide +kernel
theorem dX2_readClause_86 : decode cX2_readClause 86 = .ok (.iconst 1, 1) := by decide +kernel
theorem dX2_readClause_87 : decode cX2_readClause 87 = .ok (.putfield 48, 3) := by decide +kernel
theorem dX2_readClause_90 : decode cX2_readClause 90 = .ok (.iconst 1, 1) := by decide +kernel
theorem dX2_readClause_91 : decode cX2_readClause 91 = .ok (.ireturn, 1) := by decide +kernel
theorem dX2_readClause_92 : decode cX2_readClause 92 = .ok (.iconst 0, 1) := by decide +kernel
theorem dX2_readClause_93 : decode cX2_readClause 93 = .ok (.ireturn, 1) := by decide +kernel
theorem dX2_readUse_0 : decode cX2_readUse 0 = .ok (.aload_n 0, 1) := by decide +kernel
theorem dX2_readUse_1 : decode cX2_readUse 1 = .ok (.iconst 0, 1) := by decide +kernel
theorem dX2_readUse_2 : decode cX2_readUse 2 = .ok (.bipush 11, 2) := by decide +kernel
theorem dX2_readUse_4 : decode cX2_readUse 4 = .ok (.invokevirtual 51, 3) := by decide +kernel
theorem dX2_readUse_7 : decode cX2_readUse 7 = .ok (.istore_n 2, 1) := by decide +kernel
theorem dX2_readUse_8 : decode cX2_readUse 8 = .ok (.iload_n 2, 1) := by decide +kernel
theorem dX2_readUse_9 : decode cX2_readUse 9 = .ok (.iconst (-1), 1) := by decide +kernel
theorem dX2_readUse_10 : decode cX2_readUse 10 = .ok (.if_icmp .eq 12, 3) := by decide +kernel
theorem dX2_readUse_13 : decode cX2_readUse 13 = .ok (.aload_n 0, 1) := by decide +kernel
theorem dX2_readUse_14 : decode cX2_readUse 14 = .ok (.bipush 42, 2) := by decide +kernel
theorem dX2_readUse_16 : decode cX2_readUse 16 = .ok (.invokevirtual 22, 3) := by decide +kernel
theorem dX2_readUse_19 : decode cX2_readUse 19 = .ok (.ifCond .ne 5, 3) := by decide +kernel
theorem dX2_readUse_22 : decode cX2_readUse 22 = .ok (.iconst 0, 1) := by decide +kernel
theorem dX2_readUse_23 : decode cX2_readUse 23 = .ok (.ireturn, 1) := by decide +kernel
theorem dX2_readUse_24 : decode cX2_readUse 24 = .ok (.aload_n 0, 1) := by decide +kernel
theorem dX2_readUse_25 : decode cX2_readUse 25 = .ok (.iconst 1, 1) := by decide +kernel
theorem dX2_readUse_26 : decode cX2_readUse 26 = .ok (.sipush 9999, 3) := by decide +kernel
theorem dX2_readUse_29 : decode cX2_readUse 29 = .ok (.invokevirtual 51, 3) := by decide +kernel
theorem dX2_readUse_32 : decode cX2_readUse 32 = .ok (.istore_n 3, 1) := by decide +kernel
theorem dX2_readUse_33 : decode cX2_readUse 33 = .ok (.iload_n 3, 1) := by decide +kernel
theorem dX2_readUse_34 : decode cX2_readUse 34 = .ok (.iconst (-1), 1) := by decide +kernel
theorem dX2_readUse_35 : decode cX2_readUse 35 = .ok (.if_icmp .ne 5, 3) := by decide +kernel
theorem dX2_readUse_38 : decode cX2_readUse 38 = .ok (.iconst 0, 1) := by decide +kernel
theorem dX2_readUse_39 : decode cX2_readUse 39 = .ok (.ireturn, 1) := by decide +kernel
theorem dX2_readUse_40 : decode cX2_readUse 40 = .ok (.aload_n 1, 1) := by decide +kernel
theorem dX2_readUse_41 : decode cX2_readUse 41 = .ok (.getfield 55, 3) := by decide +kernel
theorem dX2_readUse_44 : decode cX2_readUse 44 = .ok (.iload_n 2, 1) := by decide +kernel
theorem dX2_readUse_45 : decode cX2_readUse 45 = .ok (.dup2, 1) := by decide +kernel
theorem dX2_readUse_46 : decode cX2_readUse 46 = .ok (.iaload, 1) := by decide +kernel
theorem dX2_readUse_47 : decode cX2_readUse 47 = .ok (.iload_n 3, 1) := by decide +kernel
theorem dX2_readUse_48 : decode cX2_readUse 48 = .ok (.iadd, 1) := by decide +kernel
theorem dX2_readUse_49 : decode cX2_readUse 49 = .ok (.iastore, 1) := by decide +kernel
theorem dX2_readUse_50 : decode cX2_readUse 50 = .ok (.iconst 1, 1) := by decide +kernel
theorem dX2_readUse_51 : decode cX2_readUse 51 = .ok (.ireturn, 1) := by decide +kernel
theorem dX2_readBar_0 : decode cX2_readBar 0 = .ok (.aload_n 0, 1) := by decide +kernel
theorem dX2_readBar_1 : decode cX2_readBar 1 = .ok (.iconst 0, 1) := by decide +kernel
theorem dX2_readBar_2 : decode cX2_readBar 2 = .ok (.bipush 9, 2) := by decide +kernel
theorem dX2_readBar_4 : decode cX2_readBar 4 = .ok (.invokevirtual 51, 3) := by decide +kernel
theorem dX2_readBar_7 : decode cX2_readBar 7 = .ok (.istore_n 2, 1) := by decide +kernel
theorem dX2_readBar_8 : decode cX2_readBar 8 = .ok (.iload_n 2, 1) := by decide +kernel
theorem dX2_readBar_9 : decode cX2_readBar 9 = .ok (.iconst (-1), 1) := by decide +kernel
theorem dX2_readBar_10 : decode cX2_readBar 10 = .ok (.if_icmp .ne 5, 3) := by decide +kernel
theorem dX2_readBar_13 : decode cX2_readBar 13 = .ok (.iconst 0, 1) := by decide +kernel
theorem dX2_readBar_14 : decode cX2_readBar 14 = .ok (.ireturn, 1) := by decide +kernel
theorem dX2_readBar_15 : decode cX2_readBar 15 = .ok (.aload_n 1, 1) := by decide +kernel
theorem dX2_readBar_16 : decode cX2_readBar 16 = .ok (.aload_n 1, 1) := by decide +kernel
theorem dX2_readBar_17 : decode cX2_readBar 17 = .ok (.getfield 58, 3) := by decide +kernel
theorem dX2_readBar_20 : decode cX2_readBar 20 = .ok (.iload_n 2, 1) := by decide +kernel
theorem dX2_readBar_21 : decode cX2_readBar 21 = .ok (.iconst 1, 1) := by decide +kernel
theorem dX2_readBar_22 : decode cX2_readBar 22 = .ok (.invokestatic 61, 3) := by decide +kernel
theorem dX2_readBar_25 : decode cX2_readBar 25 = .ok (.putfield 58, 3) := by decide +kernel
theorem dX2_readBar_28 : decode cX2_readBar 28 = .ok (.iconst 1, 1) := by decide +kernel
theorem dX2_readBar_29 : decode cX2_readBar 29 = .ok (.ireturn, 1) := by decide +kernel
theorem dX2_readNotBehind_0 : decode cX2_readNotBehind 0 = .ok (.aload_n 0, 1) := by decide +kernel
theorem dX2_readNotBehind_1 : decode cX2_readNotBehind 1 = .ok (.iconst 0, 1) := by decide +kernel
theorem dX2_readNotBehind_2 : decode cX2_readNotBehind 2 = .ok (.bipush 11, 2) := by decide +kernel
theorem dX2_readNotBehind_4 : decode cX2_readNotBehind 4 = .ok (.invokevirtual 51, 3) := by decide +kernel
theorem dX2_readNotBehind_7 : decode cX2_readNotBehind 7 = .ok (.istore_n 2, 1) := by decide +kernel
theorem dX2_readNotBehind_8 : decode cX2_readNotBehind 8 = .ok (.iload_n 2, 1) := by decide +kernel
theorem dX2_readNotBehind_9 : decode cX2_readNotBehind 9 = .ok (.iconst (-1), 1) := by decide +kernel
theorem dX2_readNotBehind_10 : decode cX2_readNotBehind 10 = .ok (.if_icmp .ne 5, 3) := by decide +kernel
theorem dX2_readNotBehind_13 : decode cX2_readNotBehind 13 = .ok (.iconst 0, 1) := by decide +kernel
theorem dX2_readNotBehind_14 : decode cX2_readNotBehind 14 = .ok (.ireturn, 1) := by decide +kernel
theorem dX2_readNotBehind_15 : decode cX2_readNotBehind 15 = .ok (.aload_n 1, 1) := by decide +kernel
theorem dX2_readNotBehind_16 : decode cX2_readNotBehind 16 = .ok (.aload_n 1, 1) := by decide +kernel
theorem dX2_readNotBehind_17 : decode cX2_readNotBehind 17 = .ok (.getfield 65, 3) := by decide +kernel
theorem dX2_readNotBehind_20 : decode cX2_readNotBehind 20 = .ok (.iload_n 2, 1) := by decide +kernel
theorem dX2_readNotBehind_21 : decode cX2_readNotBehind 21 = .ok (.iconst 1, 1) := by decide +kernel
theorem dX2_readNotBehind_22 : decode cX2_readNotBehind 22 = .ok (.invokestatic 61, 3) := by decide +kernel
theorem dX2_readNotBehind_25 : decode cX2_readNotBehind 25 = .ok (.putfield 65, 3) := by decide +kernel
theorem dX2_readNotBehind_28 : decode cX2_readNotBehind 28 = .ok (.iconst 1, 1) := by decide +kernel
theorem dX2_readNotBehind_29 : decode cX2_readNotBehind 29 = .ok (.ireturn, 1) := by decide +kernel
theorem dX2_readAfter_0 : decode cX2_readAfter 0 = .ok (.aload_n 0, 1) := by decide +kernel
theorem dX2_readAfter_1 : decode cX2_readAfter 1 = .ok (.iconst 0, 1) := by decide +kernel
theorem dX2_readAfter_2 : decode cX2_readAfter 2 = .ok (.bipush 11, 2) := by decide +kernel
theorem dX2_readAfter_4 : decode cX2_readAfter 4 = .ok (.invokevirtual 51, 3) := by decide +kernel
theorem dX2_readAfter_7 : decode cX2_readAfter 7 = .ok (.istore_n 2, 1) := by decide +kernel
theorem dX2_readAfter_8 : decode cX2_readAfter 8 = .ok (.iload_n 2, 1) := by decide +kernel
theorem dX2_readAfter_9 : decode cX2_readAfter 9 = .ok (.iconst (-1), 1) := by decide +kernel
theorem dX2_readAfter_10 : decode cX2_readAfter 10 = .ok (.if_icmp .eq 12, 3) := by decide +kernel
theorem dX2_readAfter_13 : decode cX2_readAfter 13 = .ok (.aload_n 0, 1) := by decide +kernel
theorem dX2_readAfter_14 : decode cX2_readAfter 14 = .ok (.bipush 58, 2) := by decide +kernel
theorem dX2_readAfter_16 : decode cX2_readAfter 16 = .ok (.invokevirtual 22, 3) := by decide +kernel
theorem dX2_readAfter_19 : decode cX2_readAfter 19 = .ok (.ifCond .ne 5, 3) := by decide +kernel
theorem dX2_readAfter_22 : decode cX2_readAfter 22 = .ok (.iconst 0, 1) := by decide +kernel
theorem dX2_readAfter_23 : decode cX2_readAfter 23 = .ok (.ireturn, 1) := by decide +kernel
theorem dX2_readAfter_24 : decode cX2_readAfter 24 = .ok (.aload_n 0, 1) := by decide +kernel
theorem dX2_readAfter_25 : decode cX2_readAfter 25 = .ok (.iconst 0, 1) := by decide +kernel
theorem dX2_readAfter_26 : decode cX2_readAfter 26 = .ok (.sipush 9999, 3) := by decide +kernel
theorem dX2_readAfter_29 : decode cX2_readAfter 29 = .ok (.invokevirtual 51, 3) := by decide +kernel
theorem dX2_readAfter_32 : decode cX2_readAfter 32 = .ok (.istore_n 3, 1) := by decide +kernel
theorem dX2_readAfter_33 : decode cX2_readAfter 33 = .ok (.iload_n 3, 1) := by decide +kernel
theorem dX2_readAfter_34 : decode cX2_readAfter 34 = .ok (.iconst (-1), 1) := by decide +kernel
theorem dX2_readAfter_35 : decode cX2_readAfter 35 = .ok (.if_icmp .ne 5, 3) := by decide +kernel
theorem dX2_readAfter_38 : decode cX2_readAfter 38 = .ok (.iconst 0, 1) := by decide +kernel
theorem dX2_readAfter_39 : decode cX2_readAfter 39 = .ok (.ireturn, 1) := by decide +kernel
theorem dX2_readAfter_40 : decode cX2_readAfter 40 = .ok (.aload_n 1, 1) := by decide +kernel
theorem dX2_readAfter_41 : decode cX2_readAfter 41 = .ok (.aload_n 1, 1) := by decide +kernel
theorem dX2_readAfter_42 : decode cX2_readAfter 42 = .ok (.getfield 68, 3) := by decide +kernel
theorem dX2_readAfter_45 : decode cX2_readAfter 45 = .ok (.iload_n 2, 1) := by decide +kernel
theorem dX2_readAfter_46 : decode cX2_readAfter 46 = .ok (.iconst 1, 1) := by decide +kernel
theorem dX2_readAfter_47 : decode cX2_readAfter 47 = .ok (.invokestatic 61, 3) := by decide +kernel
theorem dX2_readAfter_50 : decode cX2_readAfter 50 = .ok (.putfield 68, 3) := by decide +kernel
theorem dX2_readAfter_53 : decode cX2_readAfter 53 = .ok (.aload_n 1, 1) := by decide +kernel
theorem dX2_readAfter_54 : decode cX2_readAfter 54 = .ok (.getfield 71, 3) := by decide +kernel
theorem dX2_readAfter_57 : decode cX2_readAfter 57 = .ok (.iload_n 2, 1) := by decide +kernel
theorem dX2_readAfter_58 : decode cX2_readAfter 58 = .ok (.aload_n 1, 1) := by decide +kernel
theorem dX2_readAfter_59 : decode cX2_readAfter 59 = .ok (.getfield 71, 3) := by decide +kernel
theorem dX2_readAfter_62 : decode cX2_readAfter 62 = .ok (.iload_n 2, 1) := by decide +kernel
theorem dX2_readAfter_63 : decode cX2_readAfter 63 = .ok (.iaload, 1) := by decide +kernel
theorem dX2_readAfter_64 : decode cX2_readAfter 64 = .ok (.iload_n 3, 1) := by decide +kernel
theorem dX2_readAfter_65 : decode cX2_readAfter 65 = .ok (.invokestatic 74, 3) := by decide +kernel
theorem dX2_readAfter_68 : decode cX2_readAfter 68 = .ok (.iastore, 1) := by decide +kernel
theorem dX2_readAfter_69 : decode cX2_readAfter 69 = .ok (.iconst 1, 1) := by decide +kernel
theorem dX2_readAfter_70 : decode cX2_readAfter 70 = .ok (.ireturn, 1) := by decide +kernel
theorem dX2_readNumber_0 : decode cX2_readNumber 0 = .ok (.iconst 0, 1) := by decide +kernel
theorem dX2_readNumber_1 : decode cX2_readNumber 1 = .ok (.istore_n 3, 1) := by decide +kernel
theorem dX2_readNumber_2 : decode cX2_readNumber 2 = .ok (.iconst 0, 1) := by decide +kernel
theorem dX2_readNumber_3 : decode cX2_readNumber 3 = .ok (.istore 4, 2) := by decide +kernel
theorem dX2_readNumber_5 : decode cX2_readNumber 5 = .ok (.iload 4, 2) := by decide +kernel
theorem dX2_readNumber_7 : decode cX2_readNumber 7 = .ok (.iconst 4, 1) := by decide +kernel
theorem dX2_readNumber_8 : decode cX2_readNumber 8 = .ok (.if_icmp .ge 67, 3) := by decide +kernel
theorem dX2_readNumber_11 : decode cX2_readNumber 11 = .ok (.aload_n 0, 1) := by decide +kernel
theorem dX2_readNumber_12 : decode cX2_readNumber 12 = .ok (.invokevirtual 79, 3) := by decide +kernel
theorem dX2_readNumber_15 : decode cX2_readNumber 15 = .ok (.invokestatic 83, 3) := by decide +kernel
theorem dX2_readNumber_18 : decode cX2_readNumber 18 = .ok (.ifCond .eq 57, 3) := by decide +kernel
theorem dX2_readNumber_21 : decode cX2_readNumber 21 = .ok (.iload_n 3, 1) := by decide +kernel
theorem dX2_readNumber_22 : decode cX2_readNumber 22 = .ok (.bipush 10, 2) := by decide +kernel
theorem dX2_readNumber_24 : decode cX2_readNumber 24 = .ok (.imul, 1) := by decide +kernel
theorem dX2_readNumber_25 : decode cX2_readNumber 25 = .ok (.aload_n 0, 1) := by decide +kernel
theorem dX2_readNumber_26 : decode cX2_readNumber 26 = .ok (.invokevirtual 79, 3) := by decide +kernel
theorem dX2_readNumber_29 : decode cX2_readNumber 29 = .ok (.bipush 48, 2) := by decide +kernel
theorem dX2_readNumber_31 : decode cX2_readNumber 31 = .ok (.isub, 1) := by decide +kernel
theorem dX2_readNumber_32 : decode cX2_readNumber 32 = .ok (.iadd, 1) := by decide +kernel
theorem dX2_readNumber_33 : decode cX2_readNumber 33 = .ok (.istore 5, 2) := by decide +kernel
theorem dX2_readNumber_35 : decode cX2_readNumber 35 = .ok (.iload 5, 2) := by decide +kernel
theorem dX2_readNumber_37 : decode cX2_readNumber 37 = .ok (.iload_n 2, 1) := by decide +kernel
theorem dX2_readNumber_38 : decode cX2_readNumber 38 = .ok (.if_icmp .gt 37, 3) := by decide +kernel
theorem dX2_readNumber_41 : decode cX2_readNumber 41 = .ok (.iload 4, 2) := by decide +kernel
theorem dX2_readNumber_43 : decode cX2_readNumber 43 = .ok (.iconst 3, 1) := by decide +kernel
theorem dX2_readNumber_44 : decode cX2_readNumber 44 = .ok (.if_icmp .ne 12, 3) := by decide +kernel
theorem dX2_readNumber_47 : decode cX2_readNumber 47 = .ok (.iload 5, 2) := by decide +kernel
theorem dX2_readNumber_49 : decode cX2_readNumber 49 = .ok (.iload_n 1, 1) := by decide +kernel
theorem dX2_readNumber_50 : decode cX2_readNumber 50 = .ok (.if_icmp .ge 6, 3) := by decide +kernel
theorem dX2_readNumber_53 : decode cX2_readNumber 53 = .ok (.goto 22, 3) := by decide +kernel
theorem dX2_readNumber_56 : decode cX2_readNumber 56 = .ok (.iload 5, 2) := by decide +kernel
theorem dX2_readNumber_58 : decode cX2_readNumber 58 = .ok (.istore_n 3, 1) := by decide +kernel
theorem dX2_readNumber_59 : decode cX2_readNumber 59 = .ok (.iinc 4 1, 3) := by decide +kernel
theorem dX2_readNumber_62 : decode cX2_readNumber 62 = .ok (.aload_n 0, 1) := by decide +kernel
theorem dX2_readNumber_63 : decode cX2_readNumber 63 = .ok (.dup, 1) := by decide +kernel
theorem dX2_readNumber_64 : decode cX2_readNumber 64 = .ok (.getfield 15, 3) := by decide +kernel
theorem dX2_readNumber_67 : decode cX2_readNumber 67 = .ok (.iconst 1, 1) := by decide +kernel
theorem dX2_readNumber_68 : decode cX2_readNumber 68 = .ok (.iadd, 1) := by decide +kernel
theorem dX2_readNumber_69 : decode cX2_readNumber 69 = .ok (.putfield 15, 3) := by decide +kernel
theorem dX2_readNumber_72 : decode cX2_readNumber 72 = .ok (.goto (-67), 3) := by decide +kernel
theorem dX2_readNumber_75 : decode cX2_readNumber 75 = .ok (.iload 4, 2) := by decide +kernel
theorem dX2_readNumber_77 : decode cX2_readNumber 77 = .ok (.ifCond .eq 8, 3) := by decide +kernel
theorem dX2_readNumber_80 : decode cX2_readNumber 80 = .ok (.iload_n 3, 1) := by decide +kernel
theorem dX2_readNumber_81 : decode cX2_readNumber 81 = .ok (.iload_n 1, 1) := by decide +kernel
theorem dX2_readNumber_82 : decode cX2_readNumber 82 = .ok (.if_icmp .ge 7, 3) := by decide +kernel
theorem dX2_readNumber_85 : decode cX2_readNumber 85 = .ok (.iconst (-1), 1) := by decide +kernel
theorem dX2_readNumber_86 : decode cX2_readNumber 86 = .ok (.goto 4, 3) := by decide +kernel
theorem dX2_readNumber_89 : decode cX2_readNumber 89 = .ok (.iload_n 3, 1) := by decide +kernel
theorem dX2_readNumber_90 : decode cX2_readNumber 90 = .ok (.ireturn, 1) := by decide +kernel
theorem dX2_take_0 : decode cX2_take 0 = .ok (.aload_n 0, 1) := by decide +kernel
theorem dX2_take_1 : decode cX2_take 1 = .ok (.invokevirtual 79, 3) := by decide +kernel
theorem dX2_take_4 : decode cX2_take 4 = .ok (.iload_n 1, 1) := by decide +kernel
theorem dX2_take_5 : decode cX2_take 5 = .ok (.if_icmp .eq 5, 3) := by decide +kernel
theorem dX2_take_8 : decode cX2_take 8 = .ok (.iconst 0, 1) := by decide +kernel
theorem dX2_take_9 : decode cX2_take 9 = .ok (.ireturn, 1) := by decide +kernel
theorem dX2_take_10 : decode cX2_take 10 = .ok (.aload_n 0, 1) := by decide +kernel
theorem dX2_take_11 : decode cX2_take 11 = .ok (.dup, 1) := by decide +kernel
theorem dX2_take_12 : decode cX2_take 12 = .ok (.getfield 15, 3) := by decide +kernel
theorem dX2_take_15 : decode cX2_take 15 = .ok (.iconst 1, 1) := by decide +kernel
theorem dX2_take_16 : decode cX2_take 16 = .ok (.iadd, 1) := by decide +kernel
theorem dX2_take_17 : decode cX2_take 17 = .ok (.putfield 15, 3) := by decide +kernel
theorem dX2_take_20 : decode cX2_take 20 = .ok (.iconst 1, 1) := by decide +kernel
theorem dX2_take_21 : decode cX2_take 21 = .ok (.ireturn, 1) := by decide +kernel
theorem dX2_signHere_0 : decode cX2_signHere 0 = .ok (.aload_n 0, 1) := by decide +kernel
theorem dX2_signHere_1 : decode cX2_signHere 1 = .ok (.getfield 15, 3) := by decide +kernel
theorem dX2_signHere_4 : decode cX2_signHere 4 = .ok (.aload_n 0, 1) := by decide +kernel
theorem dX2_signHere_5 : decode cX2_signHere 5 = .ok (.getfield 19, 3) := by decide +kernel
theorem dX2_signHere_8 : decode cX2_signHere 8 = .ok (.if_icmp .ge 15, 3) := by decide +kernel
theorem dX2_signHere_11 : decode cX2_signHere 11 = .ok (.aload_n 0, 1) := by decide +kernel
theorem dX2_signHere_12 : decode cX2_signHere 12 = .ok (.getfield 9, 3) := by decide +kernel
theorem dX2_signHere_15 : decode cX2_signHere 15 = .ok (.aload_n 0, 1) := by decide +kernel
theorem dX2_signHere_16 : decode cX2_signHere 16 = .ok (.getfield 15, 3) := by decide +kernel
theorem dX2_signHere_19 : decode cX2_signHere 19 = .ok (.iaload, 1) := by decide +kernel
theorem dX2_signHere_20 : decode cX2_signHere 20 = .ok (.goto 4, 3) := by decide +kernel
theorem dX2_signHere_23 : decode cX2_signHere 23 = .ok (.iconst (-1), 1) := by decide +kernel
theorem dX2_signHere_24 : decode cX2_signHere 24 = .ok (.ireturn, 1) := by decide +kernel
theorem dX2_isDigit_0 : decode cX2_isDigit 0 = .ok (.iload_n 0, 1) := by decide +kernel
theorem dX2_isDigit_1 : decode cX2_isDigit 1 = .ok (.bipush 48, 2) := by decide +kernel
theorem dX2_isDigit_3 : decode cX2_isDigit 3 = .ok (.if_icmp .lt 13, 3) := by decide +kernel
theorem dX2_isDigit_6 : decode cX2_isDigit 6 = .ok (.iload_n 0, 1) := by decide +kernel
theorem dX2_isDigit_7 : decode cX2_isDigit 7 = .ok (.bipush 57, 2) := by decide +kernel
theorem dX2_isDigit_9 : decode cX2_isDigit 9 = .ok (.if_icmp .gt 7, 3) := by decide +kernel
theorem dX2_isDigit_12 : decode cX2_isDigit 12 = .ok (.iconst 1, 1) := by decide +kernel
theorem dX2_isDigit_13 : decode cX2_isDigit 13 = .ok (.goto 4, 3) := by decide +kernel
theorem dX2_isDigit_16 : decode cX2_isDigit 16 = .ok (.iconst 0, 1) := by decide +kernel
theorem dX2_isDigit_17 : decode cX2_isDigit 17 = .ok (.ireturn, 1) := by decide +kernel
theorem dX3_init_0 : decode cX3_init 0 = .ok (.aload_n 0, 1) := by decide +kernel
theorem dX3_init_1 : decode cX3_init 1 = .ok (.invokespecial 3, 3) := by decide +kernel
theorem dX3_init_4 : decode cX3_init 4 = .ok (.aload_n 0, 1) := by decide +kernel
theorem dX3_init_5 : decode cX3_init 5 = .ok (.bipush 8, 2) := by decide +kernel
theorem dX3_init_7 : decode cX3_init 7 = .ok (.newarray .int, 2) := by decide +kernel
theorem dX3_init_9 : decode cX3_init 9 = .ok (.putfield 9, 3) := by decide +kernel
theorem dX3_init_12 : decode cX3_init 12 = .ok (.aload_n 0, 1) := by decide +kernel
theorem dX3_init_13 : decode cX3_init 13 = .ok (.bipush 120, 2) := by decide +kernel
theorem dX3_init_15 : decode cX3_init 15 = .ok (.newarray .int, 2) := by decide +kernel
theorem dX3_init_17 : decode cX3_init 17 = .ok (.putfield 15, 3) := by decide +kernel
theorem dX3_init_20 : decode cX3_init 20 = .ok (.aload_n 0, 1) := by decide +kernel
theorem dX3_init_21 : decode cX3_init 21 = .ok (.bipush 12, 2) := by decide +kernel
theorem dX3_init_23 : decode cX3_init 23 = .ok (.newarray .int, 2) := by decide +kernel
theorem dX3_init_25 : decode cX3_init 25 = .ok (.putfield 18, 3) := by decide +kernel
theorem dX3_init_28 : decode cX3_init 28 = .ok (.return_, 1) := by decide +kernel
theorem dX3_addPart_0 : decode cX3_addPart 0 = .ok (.aload_n 0, 1) := by decide +kernel
theorem dX3_addPart_1 : decode cX3_addPart 1 = .ok (.getfield 9, 3) := by decide +kernel
theorem dX3_addPart_4 : decode cX3_addPart 4 = .ok (.aload_n 0, 1) := by decide +kernel
theorem dX3_addPart_5 : decode cX3_addPart 5 = .ok (.getfield 21, 3) := by decide +kernel
theorem dX3_addPart_8 : decode cX3_addPart 8 = .ok (.iload_n 1, 1) := by decide +kernel
theorem dX3_addPart_9 : decode cX3_addPart 9 = .ok (.iastore, 1) := by decide +kernel
theorem dX3_addPart_10 : decode cX3_addPart 10 = .ok (.aload_n 0, 1) := by decide +kernel
theorem dX3_addPart_11 : decode cX3_addPart 11 = .ok (.dup, 1) := by decide +kernel
theorem dX3_addPart_12 : decode cX3_addPart 12 = .ok (.getfield 21, 3) := by decide +kernel
theorem dX3_addPart_15 : decode cX3_addPart 15 = .ok (.iconst 1, 1) := by decide +kernel
theorem dX3_addPart_16 : decode cX3_addPart 16 = .ok (.iadd, 1) := by decide +kernel
theorem dX3_addPart_17 : decode cX3_addPart 17 = .ok (.putfield 21, 3) := by decide +kernel
theorem dX3_addPart_20 : decode cX3_addPart 20 = .ok (.aload_n 0, 1) := by decide +kernel
theorem dX3_addPart_21 : decode cX3_addPart 21 = .ok (.aload_n 0, 1) := by decide +kernel
theorem dX3_addPart_22 : decode cX3_addPart 22 = .ok (.getfield 25, 3) := by decide +kernel
theorem dX3_addPart_25 : decode cX3_addPart 25 = .ok (.iload_n 1, 1) := by decide +kernel
theorem dX3_addPart_26 : decode cX3_addPart 26 = .ok (.iconst 1, 1) := by decide +kernel
theorem dX3_addPart_27 : decode cX3_addPart 27 = .ok (.invokestatic 28, 3) := by decide +kernel
theorem dX3_addPart_30 : decode cX3_addPart 30 = .ok (.putfield 25, 3) := by decide +kernel
theorem dX3_addPart_33 : decode cX3_addPart 33 = .ok (.aload_n 0, 1) := by decide +kernel
theorem dX3_addPart_34 : decode cX3_addPart 34 = .ok (.getfield 21, 3) := by decide +kernel
theorem dX3_addPart_37 : decode cX3_addPart 37 = .ok (.iconst 1, 1) := by decide +kernel
theorem dX3_addPart_38 : decode cX3_addPart 38 = .ok (.isub, 1) := by decide +kernel
theorem dX3_addPart_39 : decode cX3_addPart 39 = .ok (.ireturn, 1) := by decide +kernel
theorem dX3_firstPartOf_0 : decode cX3_firstPartOf 0 = .ok (.iconst 0, 1) := by decide +kernel
theorem dX3_firstPartOf_1 : decode cX3_firstPartOf 1 = .ok (.istore_n 2, 1) := by decide +kernel
theorem dX3_firstPartOf_2 : decode cX3_firstPartOf 2 = .ok (.iload_n 2, 1) := by decide +kernel
theorem dX3_firstPartOf_3 : decode cX3_firstPartOf 3 = .ok (.aload_n 0, 1) := by decide +kernel
theorem dX3_firstPartOf_4 : decode cX3_firstPartOf 4 = .ok (.getfield 21, 3) := by decide +kernel
theorem dX3_firstPartOf_7 : decode cX3_firstPartOf 7 = .ok (.if_icmp .ge 24, 3) := by decide +kernel
theorem dX3_firstPartOf_10 : decode cX3_firstPartOf 10 = .ok (.iload_n 1, 1) := by decide +kernel
theorem dX3_firstPartOf_11 : decode cX3_firstPartOf 11 = .ok (.aload_n 0, 1) := by decide +kernel
theorem dX3_firstPartOf_12 : decode cX3_firstPartOf 12 = .ok (.getfield 9, 3) := by decide +kernel
theorem dX3_firstPartOf_15 : decode cX3_firstPartOf 15 = .ok (.iload_n 2, 1) := by decide +kernel
theorem dX3_firstPartOf_16 : decode cX3_firstPartOf 16 = .ok (.iaload, 1) := by decide +kernel
theorem dX3_firstPartOf_17 : decode cX3_firstPartOf 17 = .ok (.invokestatic 32, 3) := by decide +kernel
theorem dX3_firstPartOf_20 : decode cX3_firstPartOf 20 = .ok (.ifCond .eq 5, 3) := by decide +kernel
theorem dX3_firstPartOf_23 : decode cX3_firstPartOf 23 = .ok (.iload_n 2, 1) := by decide +kernel
theorem dX3_firstPartOf_24 : decode cX3_firstPartOf 24 = .ok (.ireturn, 1) := by decide +kernel
theorem dX3_firstPartOf_25 : decode cX3_firstPartOf 25 = .ok (.iinc 2 1, 3) := by decide +kernel
theorem dX3_firstPartOf_28 : decode cX3_firstPartOf 28 = .ok (.goto (-26), 3) := by decide +kernel
theorem dX3_firstPartOf_31 : decode cX3_firstPartOf 31 = .ok (.iconst (-1), 1) := by decide +kernel
theorem dX3_firstPartOf_32 : decode cX3_firstPartOf 32 = .ok (.ireturn, 1) := by decide +kernel
theorem dX3_addRow_0 : decode cX3_addRow 0 = .ok (.aload_n 0, 1) := by decide +kernel
theorem dX3_addRow_1 : decode cX3_addRow 1 = .ok (.getfield 36, 3) := by decide +kernel
theorem dX3_addRow_4 : decode cX3_addRow 4 = .ok (.iconst 4, 1) := by decide +kernel
theorem dX3_addRow_5 : decode cX3_addRow 5 = .ok (.imul, 1) := by decide +kernel
theorem dX3_addRow_6 : decode cX3_addRow 6 = .ok (.istore 5, 2) := by decide +kernel
theorem dX3_addRow_8 : decode cX3_addRow 8 = .ok (.aload_n 0, 1) := by decide +kernel
theorem dX3_addRow_9 : decode cX3_addRow 9 = .ok (.getfield 15, 3) := by decide +kernel
theorem dX3_addRow_12 : decode cX3_addRow 12 = .ok (.iload 5, 2) := by decide +kernel
theorem dX3_addRow_14 : decode cX3_addRow 14 = .ok (.iload_n 1, 1) := by decide +kernel
theorem dX3_addRow_15 : decode cX3_addRow 15 = .ok (.iastore, 1) := by decide +kernel
theorem dX3_addRow_16 : decode cX3_addRow 16 = .ok (.aload_n 0, 1) := by decide +kernel
theorem dX3_addRow_17 : decode cX3_addRow 17 = .ok (.getfield 15, 3) := by decide +kernel
theorem dX3_addRow_20 : decode cX3_addRow 20 = .ok (.iload 5, 2) := by decide +kernel
theorem dX3_addRow_22 : decode cX3_addRow 22 = .ok (.iconst 1, 1) := by decide +kernel
theorem dX3_addRow_23 : decode cX3_addRow 23 = .ok (.iadd, 1) := by decide +kernel
theorem dX3_addRow_24 : decode cX3_addRow 24 = .ok (.iload_n 2, 1) := by decide +kernel
theorem dX3_addRow_25 : decode cX3_addRow 25 = .ok (.iastore, 1) := by decide +kernel
theorem dX3_addRow_26 : decode cX3_addRow 26 = .ok (.aload_n 0, 1) := by decide +kernel
theorem dX3_addRow_27 : decode cX3_addRow 27 = .ok (.getfield 15, 3) := by decide +kernel
theorem dX3_addRow_30 : decode cX3_addRow 30 = .ok (.iload 5, 2) := by decide +kernel
theorem dX3_addRow_32 : decode cX3_addRow 32 = .ok (.iconst 2, 1) := by decide +kernel
theorem dX3_addRow_33 : decode cX3_addRow 33 = .ok (.iadd, 1) := by decide +kernel
theorem dX3_addRow_34 : decode cX3_addRow 34 = .ok (.iload_n 3, 1) := by decide +kernel
theorem dX3_addRow_35 : decode cX3_addRow 35 = .ok (.iastore, 1) := by decide +kernel
theorem dX3_addRow_36 : decode cX3_addRow 36 = .ok (.aload_n 0, 1) := by decide +kernel
theorem dX3_addRow_37 : decode cX3_addRow 37 = .ok (.getfield 15, 3) := by decide +kernel
theorem dX3_addRow_40 : decode cX3_addRow 40 = .ok (.iload 5, 2) := by decide +kernel
theorem dX3_addRow_42 : decode cX3_addRow 42 = .ok (.iconst 3, 1) := by decide +kernel
theorem dX3_addRow_43 : decode cX3_addRow 43 = .ok (.iadd, 1) := by decide +kernel
theorem dX3_addRow_44 : decode cX3_addRow 44 = .ok (.iload 4, 2) := by decide +kernel
theorem dX3_addRow_46 : decode cX3_addRow 46 = .ok (.iastore, 1) := by decide +kernel
theorem dX3_addRow_47 : decode cX3_addRow 47 = .ok (.aload_n 0, 1) := by decide +kernel
theorem dX3_addRow_48 : decode cX3_addRow 48 = .ok (.dup, 1) := by decide +kernel
theorem dX3_addRow_49 : decode cX3_addRow 49 = .ok (.getfield 36, 3) := by decide +kernel
theorem dX3_addRow_52 : decode cX3_addRow 52 = .ok (.iconst 1, 1) := by decide +kernel
theorem dX3_addRow_53 : decode cX3_addRow 53 = .ok (.iadd, 1) := by decide +kernel
theorem dX3_addRow_54 : decode cX3_addRow 54 = .ok (.putfield 36, 3) := by decide +kernel
theorem dX3_addRow_57 : decode cX3_addRow 57 = .ok (.aload_n 0, 1) := by decide +kernel
theorem dX3_addRow_58 : decode cX3_addRow 58 = .ok (.getfield 18, 3) := by decide +kernel
theorem dX3_addRow_61 : decode cX3_addRow 61 = .ok (.iload_n 1, 1) := by decide +kernel
theorem dX3_addRow_62 : decode cX3_addRow 62 = .ok (.iload_n 2, 1) := by decide +kernel
theorem dX3_addRow_63 : decode cX3_addRow 63 = .ok (.iastore, 1) := by decide +kernel
theorem dX3_addRow_64 : decode cX3_addRow 64 = .ok (.aload_n 0, 1) := by decide +kernel
theorem dX3_addRow_65 : decode cX3_addRow 65 = .ok (.iload_n 2, 1) := by decide +kernel
theorem dX3_addRow_66 : decode cX3_addRow 66 = .ok (.putfield 39, 3) := by decide +kernel
theorem dX3_addRow_69 : decode cX3_addRow 69 = .ok (.aload_n 0, 1) := by decide +kernel
theorem dX3_addRow_70 : decode cX3_addRow 70 = .ok (.aload_n 0, 1) := by decide +kernel
theorem dX3_addRow_71 : decode cX3_addRow 71 = .ok (.getfield 42, 3) := by decide +kernel
theorem dX3_addRow_74 : decode cX3_addRow 74 = .ok (.iload_n 1, 1) := by decide +kernel
theorem dX3_addRow_75 : decode cX3_addRow 75 = .ok (.iconst 1, 1) := by decide +kernel
theorem dX3_addRow_76 : decode cX3_addRow 76 = .ok (.invokestatic 28, 3) := by decide +kernel
theorem dX3_addRow_79 : decode cX3_addRow 79 = .ok (.putfield 42, 3) := by decide +kernel
theorem dX3_addRow_82 : decode cX3_addRow 82 = .ok (.return_, 1) := by decide +kernel
theorem dX4_init_0 : decode cX4_init 0 = .ok (.aload_n 0, 1) := by decide +kernel
theorem dX4_init_1 : decode cX4_init 1 = .ok (.invokespecial 1, 3) := by decide +kernel
theorem dX4_init_4 : decode cX4_init 4 = .ok (.aload_n 0, 1) := by decide +kernel
theorem dX4_init_5 : decode cX4_init 5 = .ok (.new 7, 3) := by decide +kernel
theorem dX4_init_8 : decode cX4_init 8 = .ok (.dup, 1) := by decide +kernel
theorem dX4_init_9 : decode cX4_init 9 = .ok (.invokespecial 9, 3) := by decide +kernel
theorem dX4_init_12 : decode cX4_init 12 = .ok (.putfield 10, 3) := by decide +kernel
theorem dX4_init_15 : decode cX4_init 15 = .ok (.aload_n 0, 1) := by decide +kernel
theorem dX4_init_16 : decode cX4_init 16 = .ok (.bipush 12, 2) := by decide +kernel
theorem dX4_init_18 : decode cX4_init 18 = .ok (.anewarray 16, 3) := by decide +kernel
theorem dX4_init_21 : decode cX4_init 21 = .ok (.putfield 18, 3) := by decide +kernel
theorem dX4_init_24 : decode cX4_init 24 = .ok (.iconst 0, 1) := by decide +kernel
theorem dX4_init_25 : decode cX4_init 25 = .ok (.istore_n 1, 1) := by decide +kernel
theorem dX4_init_26 : decode cX4_init 26 = .ok (.iload_n 1, 1) := by decide +kernel
theorem dX4_init_27 : decode cX4_init 27 = .ok (.bipush 12, 2) := by decide +kernel
theorem dX4_init_29 : decode cX4_init 29 = .ok (.if_icmp .ge 22, 3) := by decide +kernel
theorem dX4_init_32 : decode cX4_init 32 = .ok (.aload_n 0, 1) := by decide +kernel
theorem dX4_init_33 : decode cX4_init 33 = .ok (.getfield 18, 3) := by decide +kernel
theorem dX4_init_36 : decode cX4_init 36 = .ok (.iload_n 1, 1) := by decide +kernel
theorem dX4_init_37 : decode cX4_init 37 = .ok (.new 16, 3) := by decide +kernel
theorem dX4_init_40 : decode cX4_init 40 = .ok (.dup, 1) := by decide +kernel
theorem dX4_init_41 : decode cX4_init 41 = .ok (.invokespecial 22, 3) := by decide +kernel
theorem dX4_init_44 : decode cX4_init 44 = .ok (.aastore, 1) := by decide +kernel
theorem dX4_init_45 : decode cX4_init 45 = .ok (.iinc 1 1, 3) := by decide +kernel
theorem dX4_init_48 : decode cX4_init 48 = .ok (.goto (-22), 3) := by decide +kernel
theorem dX4_init_51 : decode cX4_init 51 = .ok (.aload_n 0, 1) := by decide +kernel
theorem dX4_init_52 : decode cX4_init 52 = .ok (.bipush 10, 2) := by decide +kernel
theorem dX4_init_54 : decode cX4_init 54 = .ok (.anewarray 23, 3) := by decide +kernel
theorem dX4_init_57 : decode cX4_init 57 = .ok (.putfield 25, 3) := by decide +kernel
theorem dX4_init_60 : decode cX4_init 60 = .ok (.iconst 0, 1) := by decide +kernel
theorem dX4_init_61 : decode cX4_init 61 = .ok (.istore_n 1, 1) := by decide +kernel
theorem dX4_init_62 : decode cX4_init 62 = .ok (.iload_n 1, 1) := by decide +kernel
theorem dX4_init_63 : decode cX4_init 63 = .ok (.bipush 10, 2) := by decide +kernel
theorem dX4_init_65 : decode cX4_init 65 = .ok (.if_icmp .ge 22, 3) := by decide +kernel
theorem dX4_init_68 : decode cX4_init 68 = .ok (.aload_n 0, 1) := by decide +kernel
theorem dX4_init_69 : decode cX4_init 69 = .ok (.getfield 25, 3) := by decide +kernel
theorem dX4_init_72 : decode cX4_init 72 = .ok (.iload_n 1, 1) := by decide +kernel
theorem dX4_init_73 : decode cX4_init 73 = .ok (.new 23, 3) := by decide +kernel
theorem dX4_init_76 : decode cX4_init 76 = .ok (.dup, 1) := by decide +kernel
theorem dX4_init_77 : decode cX4_init 77 = .ok (.invokespecial 29, 3) := by decide +kernel
theorem dX4_init_80 : decode cX4_init 80 = .ok (.aastore, 1) := by decide +kernel
theorem dX4_init_81 : decode cX4_init 81 = .ok (.iinc 1 1, 3) := by decide +kernel
theorem dX4_init_84 : decode cX4_init 84 = .ok (.goto (-22), 3) := by decide +kernel
theorem dX4_init_87 : decode cX4_init 87 = .ok (.aload_n 0, 1) := by decide +kernel
theorem dX4_init_88 : decode cX4_init 88 = .ok (.bipush 12, 2) := by decide +kernel
theorem dX4_init_90 : decode cX4_init 90 = .ok (.anewarray 30, 3) := by decide +kernel
theorem dX4_init_93 : decode cX4_init 93 = .ok (.putfield 32, 3) := by decide +kernel
theorem dX4_init_96 : decode cX4_init 96 = .ok (.iconst 0, 1) := by decide +kernel
theorem dX4_init_97 : decode cX4_init 97 = .ok (.istore_n 1, 1) := by decide +kernel
theorem dX4_init_98 : decode cX4_init 98 = .ok (.iload_n 1, 1) := by decide +kernel
theorem dX4_init_99 : decode cX4_init 99 = .ok (.bipush 12, 2) := by decide +kernel
theorem dX4_init_101 : decode cX4_init 101 = .ok (.if_icmp .ge 22, 3) := by decide +kernel
theorem dX4_init_104 : decode cX4_init 104 = .ok (.aload_n 0, 1) := by decide +kernel
theorem dX4_init_105 : decode cX4_init 105 = .ok (.getfield 32, 3) := by decide +kernel
theorem dX4_init_108 : decode cX4_init 108 = .ok (.iload_n 1, 1) := by decide +kernel
theorem dX4_init_109 : decode cX4_init 109 = .ok (.new 30, 3) := by decide +kernel
theorem dX4_init_112 : decode cX4_init 112 = .ok (.dup, 1) := by decide +kernel
theorem dX4_init_113 : decode cX4_init 113 = .ok (.invokespecial 36, 3) := by decide +kernel
theorem dX4_init_116 : decode cX4_init 116 = .ok (.aastore, 1) := by decide +kernel
theorem dX4_init_117 : decode cX4_init 117 = .ok (.iinc 1 1, 3) := by decide +kernel
theorem dX4_init_120 : decode cX4_init 120 = .ok (.goto (-22), 3) := by decide +kernel
theorem dX4_init_123 : decode cX4_init 123 = .ok (.aload_n 0, 1) := by decide +kernel
theorem dX4_init_124 : decode cX4_init 124 = .ok (.bipush 10, 2) := by decide +kernel
theorem dX4_init_126 : decode cX4_init 126 = .ok (.newarray .int, 2) := by decide +kernel
theorem dX4_init_128 : decode cX4_init 128 = .ok (.putfield 37, 3) := by decide +kernel
theorem dX4_init_131 : decode cX4_init 131 = .ok (.aload_n 0, 1) := by decide +kernel
theorem dX4_init_132 : decode cX4_init 132 = .ok (.bipush 10, 2) := by decide +kernel
theorem dX4_init_134 : decode cX4_init 134 = .ok (.newarray .int, 2) := by decide +kernel
theorem dX4_init_136 : decode cX4_init 136 = .ok (.putfield 41, 3) := by decide +kernel
theorem dX4_init_139 : decode cX4_init 139 = .ok (.return_, 1) := by decide +kernel
theorem dX4_unit_0 : decode cX4_unit 0 = .ok (.aload_n 0, 1) := by decide +kernel
theorem dX4_unit_1 : decode cX4_unit 1 = .ok (.getfield 10, 3) := by decide +kernel
theorem dX4_unit_4 : decode cX4_unit 4 = .ok (.getfield 44, 3) := by decide +kernel
theorem dX4_unit_7 : decode cX4_unit 7 = .ok (.bipush 50, 2) := by decide +kernel
theorem dX4_unit_9 : decode cX4_unit 9 = .ok (.if_icmp .lt 13, 3) := by decide +kernel
theorem dX4_unit_12 : decode cX4_unit 12 = .ok (.new 48, 3) := by decide +kernel
theorem dX4_unit_15 : decode cX4_unit 15 = .ok (.dup, 1) := by decide +kernel
theorem dX4_unit_16 : decode cX4_unit 16 = .ok (.ldc 50, 2) := by decide +kernel
theorem dX4_unit_18 : decode cX4_unit 18 = .ok (.invokespecial 52, 3) := by decide +kernel
theorem dX4_unit_21 : decode cX4_unit 21 = .ok (.athrow, 1) := by decide +kernel
theorem dX4_unit_22 : decode cX4_unit 22 = .ok (.iload_n 1, 1) := by decide +kernel
theorem dX4_unit_23 : decode cX4_unit 23 = .ok (.bipush 33, 2) := by decide +kernel
theorem dX4_unit_25 : decode cX4_unit 25 = .ok (.if_icmp .lt 9, 3) := by decide +kernel
theorem dX4_unit_28 : decode cX4_unit 28 = .ok (.iload_n 1, 1) := by decide +kernel
theorem dX4_unit_29 : decode cX4_unit 29 = .ok (.bipush 126, 2) := by decide +kernel
theorem dX4_unit_31 : decode cX4_unit 31 = .ok (.if_icmp .le 13, 3) := by decide +kernel
theorem dX4_unit_34 : decode cX4_unit 34 = .ok (.new 55, 3) := by decide +kernel
theorem dX4_unit_37 : decode cX4_unit 37 = .ok (.dup, 1) := by decide +kernel
theorem dX4_unit_38 : decode cX4_unit 38 = .ok (.ldc 57, 2) := by decide +kernel
theorem dX4_unit_40 : decode cX4_unit 40 = .ok (.invokespecial 59, 3) := by decide +kernel
theorem dX4_unit_43 : decode cX4_unit 43 = .ok (.athrow, 1) := by decide +kernel
theorem dX4_unit_44 : decode cX4_unit 44 = .ok (.aload_n 0, 1) := by decide +kernel
theorem dX4_unit_45 : decode cX4_unit 45 = .ok (.getfield 10, 3) := by decide +kernel
theorem dX4_unit_48 : decode cX4_unit 48 = .ok (.getfield 60, 3) := by decide +kernel
theorem dX4_unit_51 : decode cX4_unit 51 = .ok (.aload_n 0, 1) := by decide +kernel
theorem dX4_unit_52 : decode cX4_unit 52 = .ok (.getfield 10, 3) := by decide +kernel
theorem dX4_unit_55 : decode cX4_unit 55 = .ok (.getfield 44, 3) := by decide +kernel
theorem dX4_unit_58 : decode cX4_unit 58 = .ok (.iload_n 1, 1) := by decide +kernel
theorem dX4_unit_59 : decode cX4_unit 59 = .ok (.iastore, 1) := by decide +kernel
theorem dX4_unit_60 : decode cX4_unit 60 = .ok (.aload_n 0, 1) := by decide +kernel
theorem dX4_unit_61 : decode cX4_unit 61 = .ok (.getfield 10, 3) := by decide +kernel
theorem dX4_unit_64 : decode cX4_unit 64 = .ok (.dup, 1) := by decide +kernel
theorem dX4_unit_65 : decode cX4_unit 65 = .ok (.getfield 44, 3) := by decide +kernel
theorem dX4_unit_68 : decode cX4_unit 68 = .ok (.iconst 1, 1) := by decide +kernel
theorem dX4_unit_69 : decode cX4_unit 69 = .ok (.iadd, 1) := by decide +kernel
theorem dX4_unit_70 : decode cX4_unit 70 = .ok (.putfield 44, 3) := by decide +kernel
theorem dX4_unit_73 : decode cX4_unit 73 = .ok (.aload_n 0, 1) := by decide +kernel
theorem dX4_unit_74 : decode cX4_unit 74 = .ok (.getfield 10, 3) := by decide +kernel
theorem dX4_unit_77 : decode cX4_unit 77 = .ok (.getfield 44, 3) := by decide +kernel
theorem dX4_unit_80 : decode cX4_unit 80 = .ok (.ireturn, 1) := by decide +kernel
theorem dX4_read_0 : decode cX4_read 0 = .ok (.aload_n 0, 1) := by decide +kernel
theorem dX4_read_1 : decode cX4_read 1 = .ok (.getfield 63, 3) := by decide +kernel
theorem dX4_read_4 : decode cX4_read 4 = .ok (.bipush 12, 2) := by decide +kernel
theorem dX4_read_6 : decode cX4_read 6 = .ok (.if_icmp .lt 13, 3) := by decide +kernel
theorem dX4_read_9 : decode cX4_read 9 = .ok (.new 48, 3) := by decide +kernel
theorem dX4_read_12 : decode cX4_read 12 = .ok (.dup, 1) := by decide +kernel
theorem dX4_read_13 : decode cX4_read 13 = .ok (.ldc 66, 2) := by decide +kernel
theorem dX4_read_15 : decode cX4_read 15 = .ok (.invokespecial 52, 3) := by decide +kernel
theorem dX4_read_18 : decode cX4_read 18 = .ok (.athrow, 1) := by decide +kernel
theorem dX4_read_19 : decode cX4_read 19 = .ok (.aload_n 0, 1) := by decide +kernel
theorem dX4_read_20 : decode cX4_read 20 = .ok (.getfield 18, 3) := by decide +kernel
theorem dX4_read_23 : decode cX4_read 23 = .ok (.aload_n 0, 1) := by decide +kernel
theorem dX4_read_24 : decode cX4_read 24 = .ok (.getfield 63, 3) := by decide +kernel
theorem dX4_read_27 : decode cX4_read 27 = .ok (.aaload, 1) := by decide +kernel
theorem dX4_read_28 : decode cX4_read 28 = .ok (.astore_n 1, 1) := by decide +kernel
theorem dX4_read_29 : decode cX4_read 29 = .ok (.aload_n 1, 1) := by decide +kernel
theorem dX4_read_30 : decode cX4_read 30 = .ok (.invokevirtual 68, 3) := by decide +kernel
theorem dX4_read_33 : decode cX4_read 33 = .ok (.aload_n 0, 1) := by decide +kernel
theorem dX4_read_34 : decode cX4_read 34 = .ok (.getfield 10, 3) := by decide +kernel
theorem dX4_read_37 : decode cX4_read 37 = .ok (.aload_n 1, 1) := by decide +kernel
theorem dX4_read_38 : decode cX4_read 38 = .ok (.invokevirtual 71, 3) := by decide +kernel
theorem dX4_read_41 : decode cX4_read 41 = .ok (.istore_n 2, 1) := by decide +kernel
theorem dX4_read_42 : decode cX4_read 42 = .ok (.aload_n 0, 1) := by decide +kernel
theorem dX4_read_43 : decode cX4_read 43 = .ok (.getfield 10, 3) := by decide +kernel
theorem dX4_read_46 : decode cX4_read 46 = .ok (.iconst 0, 1) := by decide +kernel
theorem dX4_read_47 : decode cX4_read 47 = .ok (.putfield 44, 3) := by decide +kernel
theorem dX4_read_50 : decode cX4_read 50 = .ok (.iload_n 2, 1) := by decide +kernel
theorem dX4_read_51 : decode cX4_read 51 = .ok (.ifCond .ne 13, 3) := by decide +kernel
theorem dX4_read_54 : decode cX4_read 54 = .ok (.iconst (-1), 1) := by decide +kernel
theorem dX4_read_55 : decode cX4_read 55 = .ok (.aload_n 0, 1) := by decide +kernel
theorem dX4_read_56 : decode cX4_read 56 = .ok (.getfield 10, 3) := by decide +kernel
theorem dX4_read_59 : decode cX4_read 59 = .ok (.getfield 75, 3) := by decide +kernel
theorem dX4_read_62 : decode cX4_read 62 = .ok (.isub, 1) := by decide +kernel
theorem dX4_read_63 : decode cX4_read 63 = .ok (.ireturn, 1) := by decide +kernel
theorem dX4_read_64 : decode cX4_read 64 = .ok (.aload_n 0, 1) := by decide +kernel
theorem dX4_read_65 : decode cX4_read 65 = .ok (.dup, 1) := by decide +kernel
theorem dX4_read_66 : decode cX4_read 66 = .ok (.getfield 63, 3) := by decide +kernel
theorem dX4_read_69 : decode cX4_read 69 = .ok (.iconst 1, 1) := by decide +kernel
theorem dX4_read_70 : decode cX4_read 70 = .ok (.iadd, 1) := by decide +kernel
theorem dX4_read_71 : decode cX4_read 71 = .ok (.putfield 63, 3) := by decide +kernel
theorem dX4_read_74 : decode cX4_read 74 = .ok (.aload_n 0, 1) := by decide +kernel
theorem dX4_read_75 : decode cX4_read 75 = .ok (.getfield 63, 3) := by decide +kernel
theorem dX4_read_78 : decode cX4_read 78 = .ok (.iconst 1, 1) := by decide +kernel
theorem dX4_read_79 : decode cX4_read 79 = .ok (.isub, 1) := by decide +kernel
theorem dX4_read_80 : decode cX4_read 80 = .ok (.ireturn, 1) := by decide +kernel
theorem dX4_uses_0 : decode cX4_uses 0 = .ok (.aload_n 0, 1) := by decide +kernel
theorem dX4_uses_1 : decode cX4_uses 1 = .ok (.iload_n 1, 1) := by decide +kernel
theorem dX4_uses_2 : decode cX4_uses 2 = .ok (.invokevirtual 78, 3) := by decide +kernel
theorem dX4_uses_5 : decode cX4_uses 5 = .ok (.astore_n 3, 1) := by decide +kernel
theorem dX4_uses_6 : decode cX4_uses 6 = .ok (.iload_n 2, 1) := by decide +kernel
theorem dX4_uses_7 : decode cX4_uses 7 = .ok (.bipush 12, 2) := by decide +kernel
theorem dX4_uses_9 : decode cX4_uses 9 = .ok (.invokestatic 82, 3) := by decide +kernel
theorem dX4_uses_12 : decode cX4_uses 12 = .ok (.aload_n 3, 1) := by decide +kernel
theorem dX4_uses_13 : decode cX4_uses 13 = .ok (.getfield 86, 3) := by decide +kernel
theorem dX4_uses_16 : decode cX4_uses 16 = .ok (.iload_n 2, 1) := by decide +kernel
theorem dX4_uses_17 : decode cX4_uses 17 = .ok (.iaload, 1) := by decide +kernel
theorem dX4_uses_18 : decode cX4_uses 18 = .ok (.ireturn, 1) := by decide +kernel
theorem dX4_object_0 : decode cX4_object 0 = .ok (.aload_n 0, 1) := by decide +kernel
theorem dX4_object_1 : decode cX4_object 1 = .ok (.getfield 89, 3) := by decide +kernel
theorem dX4_object_4 : decode cX4_object 4 = .ok (.bipush 10, 2) := by decide +kernel
theorem dX4_object_6 : decode cX4_object 6 = .ok (.if_icmp .lt 13, 3) := by decide +kernel
theorem dX4_object_9 : decode cX4_object 9 = .ok (.new 48, 3) := by decide +kernel
theorem dX4_object_12 : decode cX4_object 12 = .ok (.dup, 1) := by decide +kernel
theorem dX4_object_13 : decode cX4_object 13 = .ok (.ldc 92, 2) := by decide +kernel
theorem dX4_object_15 : decode cX4_object 15 = .ok (.invokespecial 52, 3) := by decide +kernel
theorem dX4_object_18 : decode cX4_object 18 = .ok (.athrow, 1) := by decide +kernel
theorem dX4_object_19 : decode cX4_object 19 = .ok (.aload_n 0, 1) := by decide +kernel
theorem dX4_object_20 : decode cX4_object 20 = .ok (.dup, 1) := by decide +kernel
theorem dX4_object_21 : decode cX4_object 21 = .ok (.getfield 89, 3) := by decide +kernel
theorem dX4_object_24 : decode cX4_object 24 = .ok (.iconst 1, 1) := by decide +kernel
theorem dX4_object_25 : decode cX4_object 25 = .ok (.iadd, 1) := by decide +kernel
theorem dX4_object_26 : decode cX4_object 26 = .ok (.putfield 89, 3) := by decide +kernel
theorem dX4_object_29 : decode cX4_object 29 = .ok (.aload_n 0, 1) := by decide +kernel
theorem dX4_object_30 : decode cX4_object 30 = .ok (.getfield 89, 3) := by decide +kernel
theorem dX4_object_33 : decode cX4_object 33 = .ok (.iconst 1, 1) := by decide +kernel
theorem dX4_object_34 : decode cX4_object 34 = .ok (.isub, 1) := by decide +kernel
theorem dX4_object_35 : decode cX4_object 35 = .ok (.ireturn, 1) := by decide +kernel
theorem dX4_part_0 : decode cX4_part 0 = .ok (.aload_n 0, 1) := by decide +kernel
theorem dX4_part_1 : decode cX4_part 1 = .ok (.iload_n 1, 1) := by decide +kernel
theorem dX4_part_2 : decode cX4_part 2 = .ok (.invokevirtual 94, 3) := by decide +kernel
theorem dX4_part_5 : decode cX4_part 5 = .ok (.astore_n 3, 1) := by decide +kernel
theorem dX4_part_6 : decode cX4_part 6 = .ok (.iload_n 2, 1) := by decide +kernel
theorem dX4_part_7 : decode cX4_part 7 = .ok (.bipush 10, 2) := by decide +kernel
theorem dX4_part_9 : decode cX4_part 9 = .ok (.invokestatic 82, 3) := by decide +kernel
theorem dX4_part_12 : decode cX4_part 12 = .ok (.aload_n 3, 1) := by decide +kernel
theorem dX4_part_13 : decode cX4_part 13 = .ok (.getfield 98, 3) := by decide +kernel
theorem dX4_part_16 : decode cX4_part 16 = .ok (.bipush 8, 2) := by decide +kernel
theorem dX4_part_18 : decode cX4_part 18 = .ok (.if_icmp .lt 13, 3) := by decide +kernel
theorem dX4_part_21 : decode cX4_part 21 = .ok (.new 48, 3) := by decide +kernel
theorem dX4_part_24 : decode cX4_part 24 = .ok (.dup, 1) := by decide +kernel
theorem dX4_part_25 : decode cX4_part 25 = .ok (.ldc 101, 2) := by decide +kernel
theorem dX4_part_27 : decode cX4_part 27 = .ok (.invokespecial 52, 3) := by decide +kernel
theorem dX4_part_30 : decode cX4_part 30 = .ok (.athrow, 1) := by decide +kernel
theorem dX4_part_31 : decode cX4_part 31 = .ok (.aload_n 3, 1) := by decide +kernel
theorem dX4_part_32 : decode cX4_part 32 = .ok (.iload_n 2, 1) := by decide +kernel
theorem dX4_part_33 : decode cX4_part 33 = .ok (.invokevirtual 103, 3) := by decide +kernel
theorem dX4_part_36 : decode cX4_part 36 = .ok (.ireturn, 1) := by decide +kernel
theorem dX4_right_0 : decode cX4_right 0 = .ok (.iload_n 1, 1) := by decide +kernel
theorem dX4_right_1 : decode cX4_right 1 = .ok (.bipush 8, 2) := by decide +kernel
theorem dX4_right_3 : decode cX4_right 3 = .ok (.invokestatic 82, 3) := by decide +kernel
theorem dX4_right_6 : decode cX4_right 6 = .ok (.aload_n 0, 1) := by decide +kernel
theorem dX4_right_7 : decode cX4_right 7 = .ok (.iload_n 2, 1) := by decide +kernel
theorem dX4_right_8 : decode cX4_right 8 = .ok (.invokevirtual 78, 3) := by decide +kernel
theorem dX4_right_11 : decode cX4_right 11 = .ok (.astore 4, 2) := by decide +kernel
theorem dX4_right_13 : decode cX4_right 13 = .ok (.aload 4, 2) := by decide +kernel
theorem dX4_right_15 : decode cX4_right 15 = .ok (.getfield 107, 3) := by decide +kernel
theorem dX4_right_18 : decode cX4_right 18 = .ok (.iload_n 1, 1) := by decide +kernel
theorem dX4_right_19 : decode cX4_right 19 = .ok (.invokestatic 110, 3) := by decide +kernel
theorem dX4_right_22 : decode cX4_right 22 = .ok (.istore 5, 2) := by decide +kernel
theorem dX4_right_24 : decode cX4_right 24 = .ok (.aload 4, 2) := by decide +kernel
theorem dX4_right_26 : decode cX4_right 26 = .ok (.aload 4, 2) := by decide +kernel
theorem dX4_right_28 : decode cX4_right 28 = .ok (.getfield 107, 3) := by decide +kernel
theorem dX4_right_31 : decode cX4_right 31 = .ok (.iload_n 1, 1) := by decide +kernel
theorem dX4_right_32 : decode cX4_right 32 = .ok (.iload_n 3, 1) := by decide +kernel
theorem dX4_right_33 : decode cX4_right 33 = .ok (.invokestatic 114, 3) := by decide +kernel
theorem dX4_right_36 : decode cX4_right 36 = .ok (.putfield 107, 3) := by decide +kernel
theorem dX4_right_39 : decode cX4_right 39 = .ok (.iload 5, 2) := by decide +kernel
theorem dX4_right_41 : decode cX4_right 41 = .ok (.iload_n 3, 1) := by decide +kernel
theorem dX4_right_42 : decode cX4_right 42 = .ok (.if_icmp .eq 7, 3) := by decide +kernel
theorem dX4_right_45 : decode cX4_right 45 = .ok (.iconst 1, 1) := by decide +kernel
theorem dX4_right_46 : decode cX4_right 46 = .ok (.goto 4, 3) := by decide +kernel
theorem dX4_right_49 : decode cX4_right 49 = .ok (.iconst 0, 1) := by decide +kernel
theorem dX4_right_50 : decode cX4_right 50 = .ok (.ireturn, 1) := by decide +kernel
theorem dX4_trial_0 : decode cX4_trial 0 = .ok (.aload_n 0, 1) := by decide +kernel
theorem dX4_trial_1 : decode cX4_trial 1 = .ok (.iload_n 1, 1) := by decide +kernel
theorem dX4_trial_2 : decode cX4_trial 2 = .ok (.invokevirtual 78, 3) := by decide +kernel
theorem dX4_trial_5 : decode cX4_trial 5 = .ok (.astore 4, 2) := by decide +kernel
theorem dX4_trial_7 : decode cX4_trial 7 = .ok (.iload_n 2, 1) := by decide +kernel
theorem dX4_trial_8 : decode cX4_trial 8 = .ok (.bipush 10, 2) := by decide +kernel
theorem dX4_trial_10 : decode cX4_trial 10 = .ok (.invokestatic 82, 3) := by decide +kernel
theorem dX4_trial_13 : decode cX4_trial 13 = .ok (.aload 4, 2) := by decide +kernel
theorem dX4_trial_15 : decode cX4_trial 15 = .ok (.getfield 118, 3) := by decide +kernel
theorem dX4_trial_18 : decode cX4_trial 18 = .ok (.iload_n 2, 1) := by decide +kernel
theorem dX4_trial_19 : decode cX4_trial 19 = .ok (.invokestatic 110, 3) := by decide +kernel
theorem dX4_trial_22 : decode cX4_trial 22 = .ok (.istore 5, 2) := by decide +kernel
theorem dX4_trial_24 : decode cX4_trial 24 = .ok (.aload 4, 2) := by decide +kernel
theorem dX4_trial_26 : decode cX4_trial 26 = .ok (.aload 4, 2) := by decide +kernel
theorem dX4_trial_28 : decode cX4_trial 28 = .ok (.getfield 118, 3) := by decide +kernel
theorem dX4_trial_31 : decode cX4_trial 31 = .ok (.iload_n 2, 1) := by decide +kernel
theorem dX4_trial_32 : decode cX4_trial 32 = .ok (.iload_n 3, 1) := by decide +kernel
theorem dX4_trial_33 : decode cX4_trial 33 = .ok (.invokestatic 114, 3) := by decide +kernel
theorem dX4_trial_36 : decode cX4_trial 36 = .ok (.putfield 118, 3) := by decide +kernel
theorem dX4_trial_39 : decode cX4_trial 39 = .ok (.iload 5, 2) := by decide +kernel
theorem dX4_trial_41 : decode cX4_trial 41 = .ok (.ireturn, 1) := by decide +kernel
theorem dX4_reason_0 : decode cX4_reason 0 = .ok (.aload_n 0, 1) := by decide +kernel
theorem dX4_reason_1 : decode cX4_reason 1 = .ok (.iload_n 1, 1) := by decide +kernel
theorem dX4_reason_2 : decode cX4_reason 2 = .ok (.invokevirtual 94, 3) := by decide +kernel
theorem dX4_reason_5 : decode cX4_reason 5 = .ok (.astore 5, 2) := by decide +kernel
theorem dX4_reason_7 : decode cX4_reason 7 = .ok (.aload_n 0, 1) := by decide +kernel
theorem dX4_reason_8 : decode cX4_reason 8 = .ok (.iload_n 2, 1) := by decide +kernel
theorem dX4_reason_9 : decode cX4_reason 9 = .ok (.invokevirtual 78, 3) := by decide +kernel
theorem dX4_reason_12 : decode cX4_reason 12 = .ok (.astore 6, 2) := by decide +kernel
theorem dX4_reason_14 : decode cX4_reason 14 = .ok (.iload_n 3, 1) := by decide +kernel
theorem dX4_reason_15 : decode cX4_reason 15 = .ok (.bipush 8, 2) := by decide +kernel
theorem dX4_reason_17 : decode cX4_reason 17 = .ok (.invokestatic 82, 3) := by decide +kernel
theorem dX4_reason_20 : decode cX4_reason 20 = .ok (.iload 4, 2) := by decide +kernel
theorem dX4_reason_22 : decode cX4_reason 22 = .ok (.iconst 0, 1) := by decide +kernel
theorem dX4_reason_23 : decode cX4_reason 23 = .ok (.invokestatic 121, 3) := by decide +kernel
theorem dX4_reason_26 : decode cX4_reason 26 = .ok (.aload_n 0, 1) := by decide +kernel
theorem dX4_reason_27 : decode cX4_reason 27 = .ok (.aload 5, 2) := by decide +kernel
theorem dX4_reason_29 : decode cX4_reason 29 = .ok (.aload 6, 2) := by decide +kernel
theorem dX4_reason_31 : decode cX4_reason 31 = .ok (.iload_n 3, 1) := by decide +kernel
theorem dX4_reason_32 : decode cX4_reason 32 = .ok (.iload 4, 2) := by decide +kernel
theorem dX4_reason_34 : decode cX4_reason 34 = .ok (.invokevirtual 124, 3) := by decide +kernel
theorem dX4_reason_37 : decode cX4_reason 37 = .ok (.ireturn, 1) := by decide +kernel
theorem dX4_done_0 : decode cX4_done 0 = .ok (.aload_n 0, 1) := by decide +kernel
theorem dX4_done_1 : decode cX4_done 1 = .ok (.iload_n 1, 1) := by decide +kernel
theorem dX4_done_2 : decode cX4_done 2 = .ok (.invokevirtual 94, 3) := by decide +kernel
theorem dX4_done_5 : decode cX4_done 5 = .ok (.astore 6, 2) := by decide +kernel
theorem dX4_done_7 : decode cX4_done 7 = .ok (.aload_n 0, 1) := by decide +kernel
theorem dX4_done_8 : decode cX4_done 8 = .ok (.iload_n 2, 1) := by decide +kernel
theorem dX4_done_9 : decode cX4_done 9 = .ok (.invokevirtual 78, 3) := by decide +kernel
theorem dX4_done_12 : decode cX4_done 12 = .ok (.astore 7, 2) := by decide +kernel
theorem dX4_done_14 : decode cX4_done 14 = .ok (.iload_n 3, 1) := by decide +kernel
theorem dX4_done_15 : decode cX4_done 15 = .ok (.bipush 8, 2) := by decide +kernel
theorem dX4_done_17 : decode cX4_done 17 = .ok (.invokestatic 82, 3) := by decide +kernel
theorem dX4_done_20 : decode cX4_done 20 = .ok (.iload 4, 2) := by decide +kernel
theorem dX4_done_22 : decode cX4_done 22 = .ok (.bipush 8, 2) := by decide +kernel
theorem dX4_done_24 : decode cX4_done 24 = .ok (.invokestatic 82, 3) := by decide +kernel
theorem dX4_done_27 : decode cX4_done 27 = .ok (.aload 6, 2) := by decide +kernel
theorem dX4_done_29 : decode cX4_done 29 = .ok (.getfield 128, 3) := by decide +kernel
theorem dX4_done_32 : decode cX4_done 32 = .ok (.bipush 30, 2) := by decide +kernel
theorem dX4_done_34 : decode cX4_done 34 = .ok (.if_icmp .lt 13, 3) := by decide +kernel
theorem dX4_done_37 : decode cX4_done 37 = .ok (.new 48, 3) := by decide +kernel
theorem dX4_done_40 : decode cX4_done 40 = .ok (.dup, 1) := by decide +kernel
theorem dX4_done_41 : decode cX4_done 41 = .ok (.ldc 131, 2) := by decide +kernel
theorem dX4_done_43 : decode cX4_done 43 = .ok (.invokespecial 52, 3) := by decide +kernel
theorem dX4_done_46 : decode cX4_done 46 = .ok (.athrow, 1) := by decide +kernel
theorem dX4_done_47 : decode cX4_done 47 = .ok (.iload 5, 2) := by decide +kernel
theorem dX4_done_49 : decode cX4_done 49 = .ok (.aload 6, 2) := by decide +kernel
theorem dX4_done_51 : decode cX4_done 51 = .ok (.getfield 133, 3) := by decide +kernel
theorem dX4_done_54 : decode cX4_done 54 = .ok (.invokestatic 121, 3) := by decide +kernel
theorem dX4_done_57 : decode cX4_done 57 = .ok (.aload_n 0, 1) := by decide +kernel
theorem dX4_done_58 : decode cX4_done 58 = .ok (.aload 6, 2) := by decide +kernel
theorem dX4_done_60 : decode cX4_done 60 = .ok (.aload 7, 2) := by decide +kernel
theorem dX4_done_62 : decode cX4_done 62 = .ok (.iload_n 3, 1) := by decide +kernel
theorem dX4_done_63 : decode cX4_done 63 = .ok (.iload 5, 2) := by decide +kernel
theorem dX4_done_65 : decode cX4_done 65 = .ok (.invokevirtual 124, 3) := by decide +kernel
theorem dX4_done_68 : decode cX4_done 68 = .ok (.istore 8, 2) := by decide +kernel
theorem dX4_done_70 : decode cX4_done 70 = .ok (.iload 8, 2) := by decide +kernel
theorem dX4_done_72 : decode cX4_done 72 = .ok (.ifCond .eq 6, 3) := by decide +kernel
theorem dX4_done_75 : decode cX4_done 75 = .ok (.iload 8, 2) := by decide +kernel
theorem dX4_done_77 : decode cX4_done 77 = .ok (.ireturn, 1) := by decide +kernel
theorem dX4_done_78 : decode cX4_done 78 = .ok (.aload 7, 2) := by decide +kernel
theorem dX4_done_80 : decode cX4_done 80 = .ok (.getfield 136, 3) := by decide +kernel
theorem dX4_done_83 : decode cX4_done 83 = .ok (.ifCond .eq 26, 3) := by decide +kernel
theorem dX4_done_86 : decode cX4_done 86 = .ok (.iload 4, 2) := by decide +kernel
theorem dX4_done_88 : decode cX4_done 88 = .ok (.iload_n 3, 1) := by decide +kernel
theorem dX4_done_89 : decode cX4_done 89 = .ok (.if_icmp .eq 16, 3) := by decide +kernel
theorem dX4_done_92 : decode cX4_done 92 = .ok (.aload 7, 2) := by decide +kernel
theorem dX4_done_94 : decode cX4_done 94 = .ok (.getfield 107, 3) := by decide +kernel
theorem dX4_done_97 : decode cX4_done 97 = .ok (.iload 4, 2) := by decide +kernel
theorem dX4_done_99 : decode cX4_done 99 = .ok (.invokestatic 110, 3) := by decide +kernel
theorem dX4_done_102 : decode cX4_done 102 = .ok (.ifCond .ne 7, 3) := by decide +kernel
theorem dX4_done_105 : decode cX4_done 105 = .ok (.sipush 700, 3) := by decide +kernel
theorem dX4_done_108 : decode cX4_done 108 = .ok (.ireturn, 1) := by decide +kernel
theorem dX4_done_109 : decode cX4_done 109 = .ok (.aload_n 0, 1) := by decide +kernel
theorem dX4_done_110 : decode cX4_done 110 = .ok (.aload 7, 2) := by decide +kernel
theorem dX4_done_112 : decode cX4_done 112 = .ok (.invokevirtual 140, 3) := by decide +kernel
theorem dX4_done_115 : decode cX4_done 115 = .ok (.aload 6, 2) := by decide +kernel
theorem dX4_done_117 : decode cX4_done 117 = .ok (.iload_n 2, 1) := by decide +kernel
theorem dX4_done_118 : decode cX4_done 118 = .ok (.iload 5, 2) := by decide +kernel
theorem dX4_done_120 : decode cX4_done 120 = .ok (.iload_n 3, 1) := by decide +kernel
theorem dX4_done_121 : decode cX4_done 121 = .ok (.aload 7, 2) := by decide +kernel
theorem dX4_done_123 : decode cX4_done 123 = .ok (.getfield 136, 3) := by decide +kernel
theorem dX4_done_126 : decode cX4_done 126 = .ok (.ifCond .eq 8, 3) := by decide +kernel
theorem dX4_done_129 : decode cX4_done 129 = .ok (.iload 4, 2) := by decide +kernel
theorem dX4_done_131 : decode cX4_done 131 = .ok (.goto 4, 3) := by decide +kernel
theorem dX4_done_134 : decode cX4_done 134 = .ok (.iconst (-1), 1) := by decide +kernel
theorem dX4_done_135 : decode cX4_done 135 = .ok (.invokevirtual 144, 3) := by decide +kernel
theorem dX4_done_138 : decode cX4_done 138 = .ok (.iconst 0, 1) := by decide +kernel
theorem dX4_done_139 : decode cX4_done 139 = .ok (.ireturn, 1) := by decide +kernel
theorem dX4_row_0 : decode cX4_row 0 = .ok (.aload_n 0, 1) := by decide +kernel
theorem dX4_row_1 : decode cX4_row 1 = .ok (.iload_n 1, 1) := by decide +kernel
theorem dX4_row_2 : decode cX4_row 2 = .ok (.invokevirtual 94, 3) := by decide +kernel
theorem dX4_row_5 : decode cX4_row 5 = .ok (.astore 4, 2) := by decide +kernel
theorem dX4_row_7 : decode cX4_row 7 = .ok (.iload_n 3, 1) := by decide +kernel
theorem dX4_row_8 : decode cX4_row 8 = .ok (.iconst 4, 1) := by decide +kernel
theorem dX4_row_9 : decode cX4_row 9 = .ok (.invokestatic 82, 3) := by decide +kernel
theorem dX4_row_12 : decode cX4_row 12 = .ok (.iload_n 2, 1) := by decide +kernel
theorem dX4_row_13 : decode cX4_row 13 = .ok (.iconst (-1), 1) := by decide +kernel
theorem dX4_row_14 : decode cX4_row 14 = .ok (.if_icmp .ne 9, 3) := by decide +kernel
theorem dX4_row_17 : decode cX4_row 17 = .ok (.aload 4, 2) := by decide +kernel
theorem dX4_row_19 : decode cX4_row 19 = .ok (.getfield 128, 3) := by decide +kernel
theorem dX4_row_22 : decode cX4_row 22 = .ok (.ireturn, 1) := by decide +kernel
theorem dX4_row_23 : decode cX4_row 23 = .ok (.iload_n 2, 1) := by decide +kernel
theorem dX4_row_24 : decode cX4_row 24 = .ok (.aload 4, 2) := by decide +kernel
theorem dX4_row_26 : decode cX4_row 26 = .ok (.getfield 128, 3) := by decide +kernel
theorem dX4_row_29 : decode cX4_row 29 = .ok (.invokestatic 82, 3) := by decide +kernel
theorem dX4_row_32 : decode cX4_row 32 = .ok (.aload 4, 2) := by decide +kernel
theorem dX4_row_34 : decode cX4_row 34 = .ok (.getfield 148, 3) := by decide +kernel
theorem dX4_row_37 : decode cX4_row 37 = .ok (.iload_n 2, 1) := by decide +kernel
theorem dX4_row_38 : decode cX4_row 38 = .ok (.iconst 4, 1) := by decide +kernel
theorem dX4_row_39 : decode cX4_row 39 = .ok (.imul, 1) := by decide +kernel
theorem dX4_row_40 : decode cX4_row 40 = .ok (.iload_n 3, 1) := by decide +kernel
theorem dX4_row_41 : decode cX4_row 41 = .ok (.iadd, 1) := by decide +kernel
theorem dX4_row_42 : decode cX4_row 42 = .ok (.iaload, 1) := by decide +kernel
theorem dX4_row_43 : decode cX4_row 43 = .ok (.ireturn, 1) := by decide +kernel
theorem dX4_stock_0 : decode cX4_stock 0 = .ok (.aload_n 0, 1) := by decide +kernel
theorem dX4_stock_1 : decode cX4_stock 1 = .ok (.iload_n 1, 1) := by decide +kernel
theorem dX4_stock_2 : decode cX4_stock 2 = .ok (.invokevirtual 151, 3) := by decide +kernel
theorem dX4_stock_5 : decode cX4_stock 5 = .ok (.astore_n 3, 1) := by decide +kernel
theorem dX4_stock_6 : decode cX4_stock 6 = .ok (.iload_n 2, 1) := by decide +kernel
theorem dX4_stock_7 : decode cX4_stock 7 = .ok (.ldc 155, 2) := by decide +kernel
theorem dX4_stock_9 : decode cX4_stock 9 = .ok (.if_icmp .lt 9, 3) := by decide +kernel
theorem dX4_stock_12 : decode cX4_stock 12 = .ok (.iload_n 2, 1) := by decide +kernel
theorem dX4_stock_13 : decode cX4_stock 13 = .ok (.ldc 156, 2) := by decide +kernel
theorem dX4_stock_15 : decode cX4_stock 15 = .ok (.if_icmp .le 13, 3) := by decide +kernel
theorem dX4_stock_18 : decode cX4_stock 18 = .ok (.new 55, 3) := by decide +kernel
theorem dX4_stock_21 : decode cX4_stock 21 = .ok (.dup, 1) := by decide +kernel
theorem dX4_stock_22 : decode cX4_stock 22 = .ok (.ldc 157, 2) := by decide +kernel
theorem dX4_stock_24 : decode cX4_stock 24 = .ok (.invokespecial 59, 3) := by decide +kernel
theorem dX4_stock_27 : decode cX4_stock 27 = .ok (.athrow, 1) := by decide +kernel
theorem dX4_stock_28 : decode cX4_stock 28 = .ok (.aload_n 3, 1) := by decide +kernel
theorem dX4_stock_29 : decode cX4_stock 29 = .ok (.getfield 159, 3) := by decide +kernel
theorem dX4_stock_32 : decode cX4_stock 32 = .ok (.iload_n 2, 1) := by decide +kernel
theorem dX4_stock_33 : decode cX4_stock 33 = .ok (.iadd, 1) := by decide +kernel
theorem dX4_stock_34 : decode cX4_stock 34 = .ok (.istore 4, 2) := by decide +kernel
theorem dX4_stock_36 : decode cX4_stock 36 = .ok (.iload 4, 2) := by decide +kernel
theorem dX4_stock_38 : decode cX4_stock 38 = .ok (.ifCond .lt 10, 3) := by decide +kernel
theorem dX4_stock_41 : decode cX4_stock 41 = .ok (.iload 4, 2) := by decide +kernel
theorem dX4_stock_43 : decode cX4_stock 43 = .ok (.ldc 156, 2) := by decide +kernel
theorem dX4_stock_45 : decode cX4_stock 45 = .ok (.if_icmp .le 5, 3) := by decide +kernel
theorem dX4_stock_48 : decode cX4_stock 48 = .ok (.iconst (-1), 1) := by decide +kernel
theorem dX4_stock_49 : decode cX4_stock 49 = .ok (.ireturn, 1) := by decide +kernel
theorem dX4_stock_50 : decode cX4_stock 50 = .ok (.aload_n 3, 1) := by decide +kernel
theorem dX4_stock_51 : decode cX4_stock 51 = .ok (.iload_n 2, 1) := by decide +kernel
theorem dX4_stock_52 : decode cX4_stock 52 = .ok (.invokevirtual 162, 3) := by decide +kernel
theorem dX4_stock_55 : decode cX4_stock 55 = .ok (.iload 4, 2) := by decide +kernel
theorem dX4_stock_57 : decode cX4_stock 57 = .ok (.ireturn, 1) := by decide +kernel
theorem dX4_about_0 : decode cX4_about 0 = .ok (.aload_n 0, 1) := by decide +kernel
theorem dX4_about_1 : decode cX4_about 1 = .ok (.iload_n 1, 1) := by decide +kernel
theorem dX4_about_2 : decode cX4_about 2 = .ok (.invokevirtual 151, 3) := by decide +kernel
theorem dX4_about_5 : decode cX4_about 5 = .ok (.astore_n 3, 1) := by decide +kernel
theorem dX4_about_6 : decode cX4_about 6 = .ok (.iload_n 2, 1) := by decide +kernel
theorem dX4_about_7 : decode cX4_about 7 = .ok (.tableswitch 51 0 3 #[29, 35, 40, 45], 29) := by decide +kernel
theorem dX4_about_36 : decode cX4_about 36 = .ok (.aload_n 3, 1) := by decide +kernel
theorem dX4_about_37 : decode cX4_about 37 = .ok (.getfield 159, 3) := by decide +kernel
theorem dX4_about_40 : decode cX4_about 40 = .ok (.i2l, 1) := by decide +kernel
theorem dX4_about_41 : decode cX4_about 41 = .ok (.lreturn, 1) := by decide +kernel
theorem dX4_about_42 : decode cX4_about 42 = .ok (.aload_n 3, 1) := by decide +kernel
theorem dX4_about_43 : decode cX4_about 43 = .ok (.getfield 166, 3) := by decide +kernel
theorem dX4_about_46 : decode cX4_about 46 = .ok (.lreturn, 1) := by decide +kernel
theorem dX4_about_47 : decode cX4_about 47 = .ok (.aload_n 3, 1) := by decide +kernel
theorem dX4_about_48 : decode cX4_about 48 = .ok (.getfield 170, 3) := by decide +kernel
theorem dX4_about_51 : decode cX4_about 51 = .ok (.lreturn, 1) := by decide +kernel
theorem dX4_about_52 : decode cX4_about 52 = .ok (.aload_n 3, 1) := by decide +kernel
theorem dX4_about_53 : decode cX4_about 53 = .ok (.getfield 173, 3) := by decide +kernel
theorem dX4_about_56 : decode cX4_about 56 = .ok (.i2l, 1) := by decide +kernel
theorem dX4_about_57 : decode cX4_about 57 = .ok (.lreturn, 1) := by decide +kernel
theorem dX4_about_58 : decode cX4_about 58 = .ok (.new 176, 3) := by decide +kernel
theorem dX4_about_61 : decode cX4_about 61 = .ok (.dup, 1) := by decide +kernel
theorem dX4_about_62 : decode cX4_about 62 = .ok (.ldc 178, 2) := by decide +kernel
theorem dX4_about_64 : decode cX4_about 64 = .ok (.invokespecial 180, 3) := by decide +kernel
theorem dX4_about_67 : decode cX4_about 67 = .ok (.athrow, 1) := by decide +kernel
theorem dX4_apart_0 : decode cX4_apart 0 = .ok (.aload_n 0, 1) := by decide +kernel
theorem dX4_apart_1 : decode cX4_apart 1 = .ok (.iload_n 1, 1) := by decide +kernel
theorem dX4_apart_2 : decode cX4_apart 2 = .ok (.invokevirtual 151, 3) := by decide +kernel
theorem dX4_apart_5 : decode cX4_apart 5 = .ok (.astore_n 3, 1) := by decide +kernel
theorem dX4_apart_6 : decode cX4_apart 6 = .ok (.aload_n 0, 1) := by decide +kernel
theorem dX4_apart_7 : decode cX4_apart 7 = .ok (.iload_n 2, 1) := by decide +kernel
theorem dX4_apart_8 : decode cX4_apart 8 = .ok (.invokevirtual 151, 3) := by decide +kernel
theorem dX4_apart_11 : decode cX4_apart 11 = .ok (.astore 4, 2) := by decide +kernel
theorem dX4_apart_13 : decode cX4_apart 13 = .ok (.iload_n 1, 1) := by decide +kernel
theorem dX4_apart_14 : decode cX4_apart 14 = .ok (.iload_n 2, 1) := by decide +kernel
theorem dX4_apart_15 : decode cX4_apart 15 = .ok (.if_icmp .eq 23, 3) := by decide +kernel
theorem dX4_apart_18 : decode cX4_apart 18 = .ok (.aload_n 3, 1) := by decide +kernel
theorem dX4_apart_19 : decode cX4_apart 19 = .ok (.getfield 173, 3) := by decide +kernel
theorem dX4_apart_22 : decode cX4_apart 22 = .ok (.iconst (-1), 1) := by decide +kernel
theorem dX4_apart_23 : decode cX4_apart 23 = .ok (.if_icmp .eq 17, 3) := by decide +kernel
theorem dX4_apart_26 : decode cX4_apart 26 = .ok (.aload_n 3, 1) := by decide +kernel
theorem dX4_apart_27 : decode cX4_apart 27 = .ok (.getfield 173, 3) := by decide +kernel
theorem dX4_apart_30 : decode cX4_apart 30 = .ok (.aload 4, 2) := by decide +kernel
theorem dX4_apart_32 : decode cX4_apart 32 = .ok (.getfield 173, 3) := by decide +kernel
theorem dX4_apart_35 : decode cX4_apart 35 = .ok (.if_icmp .ne 5, 3) := by decide +kernel
theorem dX4_apart_38 : decode cX4_apart 38 = .ok (.iconst 0, 1) := by decide +kernel
theorem dX4_apart_39 : decode cX4_apart 39 = .ok (.ireturn, 1) := by decide +kernel
theorem dX4_apart_40 : decode cX4_apart 40 = .ok (.aload_n 3, 1) := by decide +kernel
theorem dX4_apart_41 : decode cX4_apart 41 = .ok (.aload_n 3, 1) := by decide +kernel
theorem dX4_apart_42 : decode cX4_apart 42 = .ok (.getfield 181, 3) := by decide +kernel
theorem dX4_apart_45 : decode cX4_apart 45 = .ok (.iload_n 2, 1) := by decide +kernel
theorem dX4_apart_46 : decode cX4_apart 46 = .ok (.iconst 1, 1) := by decide +kernel
theorem dX4_apart_47 : decode cX4_apart 47 = .ok (.invokestatic 114, 3) := by decide +kernel
theorem dX4_apart_50 : decode cX4_apart 50 = .ok (.putfield 181, 3) := by decide +kernel
theorem dX4_apart_53 : decode cX4_apart 53 = .ok (.aload 4, 2) := by decide +kernel
theorem dX4_apart_55 : decode cX4_apart 55 = .ok (.aload 4, 2) := by decide +kernel
theorem dX4_apart_57 : decode cX4_apart 57 = .ok (.getfield 181, 3) := by decide +kernel
theorem dX4_apart_60 : decode cX4_apart 60 = .ok (.iload_n 1, 1) := by decide +kernel
theorem dX4_apart_61 : decode cX4_apart 61 = .ok (.iconst 1, 1) := by decide +kernel
theorem dX4_apart_62 : decode cX4_apart 62 = .ok (.invokestatic 114, 3) := by decide +kernel
theorem dX4_apart_65 : decode cX4_apart 65 = .ok (.putfield 181, 3) := by decide +kernel
theorem dX4_apart_68 : decode cX4_apart 68 = .ok (.iconst 1, 1) := by decide +kernel
theorem dX4_apart_69 : decode cX4_apart 69 = .ok (.ireturn, 1) := by decide +kernel
theorem dX4_put_0 : decode cX4_put 0 = .ok (.aload_n 0, 1) := by decide +kernel
theorem dX4_put_1 : decode cX4_put 1 = .ok (.iload_n 1, 1) := by decide +kernel
theorem dX4_put_2 : decode cX4_put 2 = .ok (.invokevirtual 151, 3) := by decide +kernel
theorem dX4_put_5 : decode cX4_put 5 = .ok (.astore_n 3, 1) := by decide +kernel
theorem dX4_put_6 : decode cX4_put 6 = .ok (.iload_n 2, 1) := by decide +kernel
theorem dX4_put_7 : decode cX4_put 7 = .ok (.iconst (-1), 1) := by decide +kernel
theorem dX4_put_8 : decode cX4_put 8 = .ok (.if_icmp .eq 35, 3) := by decide +kernel
theorem dX4_put_11 : decode cX4_put 11 = .ok (.iload_n 2, 1) := by decide +kernel
theorem dX4_put_12 : decode cX4_put 12 = .ok (.bipush 6, 2) := by decide +kernel
theorem dX4_put_14 : decode cX4_put 14 = .ok (.invokestatic 82, 3) := by decide +kernel
theorem dX4_put_17 : decode cX4_put 17 = .ok (.aload_n 3, 1) := by decide +kernel
theorem dX4_put_18 : decode cX4_put 18 = .ok (.getfield 181, 3) := by decide +kernel
theorem dX4_put_21 : decode cX4_put 21 = .ok (.aload_n 0, 1) := by decide +kernel
theorem dX4_put_22 : decode cX4_put 22 = .ok (.iload_n 2, 1) := by decide +kernel
theorem dX4_put_23 : decode cX4_put 23 = .ok (.invokevirtual 184, 3) := by decide +kernel
theorem dX4_put_26 : decode cX4_put 26 = .ok (.iand, 1) := by decide +kernel
theorem dX4_put_27 : decode cX4_put 27 = .ok (.invokestatic 187, 3) := by decide +kernel
theorem dX4_put_30 : decode cX4_put 30 = .ok (.istore 4, 2) := by decide +kernel
theorem dX4_put_32 : decode cX4_put 32 = .ok (.iload 4, 2) := by decide +kernel
theorem dX4_put_34 : decode cX4_put 34 = .ok (.iconst (-1), 1) := by decide +kernel
theorem dX4_put_35 : decode cX4_put 35 = .ok (.if_icmp .eq 8, 3) := by decide +kernel
theorem dX4_put_38 : decode cX4_put 38 = .ok (.iconst 1, 1) := by decide +kernel
theorem dX4_put_39 : decode cX4_put 39 = .ok (.iload 4, 2) := by decide +kernel
theorem dX4_put_41 : decode cX4_put 41 = .ok (.iadd, 1) := by decide +kernel
theorem dX4_put_42 : decode cX4_put 42 = .ok (.ireturn, 1) := by decide +kernel
theorem dX4_put_43 : decode cX4_put 43 = .ok (.aload_n 3, 1) := by decide +kernel
theorem dX4_put_44 : decode cX4_put 44 = .ok (.iload_n 2, 1) := by decide +kernel
theorem dX4_put_45 : decode cX4_put 45 = .ok (.putfield 173, 3) := by decide +kernel
theorem dX4_put_48 : decode cX4_put 48 = .ok (.iconst 0, 1) := by decide +kernel
theorem dX4_put_49 : decode cX4_put 49 = .ok (.ireturn, 1) := by decide +kernel
theorem dX4_plan_0 : decode cX4_plan 0 = .ok (.aload_n 0, 1) := by decide +kernel
theorem dX4_plan_1 : decode cX4_plan 1 = .ok (.iload_n 1, 1) := by decide +kernel
theorem dX4_plan_2 : decode cX4_plan 2 = .ok (.invokevirtual 94, 3) := by decide +kernel
theorem dX4_plan_5 : decode cX4_plan 5 = .ok (.astore_n 3, 1) := by decide +kernel
theorem dX4_plan_6 : decode cX4_plan 6 = .ok (.iload_n 2, 1) := by decide +kernel
theorem dX4_plan_7 : decode cX4_plan 7 = .ok (.aload_n 0, 1) := by decide +kernel
theorem dX4_plan_8 : decode cX4_plan 8 = .ok (.getfield 63, 3) := by decide +kernel
theorem dX4_plan_11 : decode cX4_plan 11 = .ok (.iushr, 1) := by decide +kernel
theorem dX4_plan_12 : decode cX4_plan 12 = .ok (.ifCond .eq 13, 3) := by decide +kernel
theorem dX4_plan_15 : decode cX4_plan 15 = .ok (.new 176, 3) := by decide +kernel
theorem dX4_plan_18 : decode cX4_plan 18 = .ok (.dup, 1) := by decide +kernel
theorem dX4_plan_19 : decode cX4_plan 19 = .ok (.ldc 190, 2) := by decide +kernel
theorem dX4_plan_21 : decode cX4_plan 21 = .ok (.invokespecial 180, 3) := by decide +kernel
theorem dX4_plan_24 : decode cX4_plan 24 = .ok (.athrow, 1) := by decide +kernel
theorem dX4_plan_25 : decode cX4_plan 25 = .ok (.aload_n 0, 1) := by decide +kernel
theorem dX4_plan_26 : decode cX4_plan 26 = .ok (.iload_n 2, 1) := by decide +kernel
theorem dX4_plan_27 : decode cX4_plan 27 = .ok (.invokevirtual 192, 3) := by decide +kernel
theorem dX4_plan_30 : decode cX4_plan 30 = .ok (.aload_n 3, 1) := by decide +kernel
theorem dX4_plan_31 : decode cX4_plan 31 = .ok (.getfield 195, 3) := by decide +kernel
theorem dX4_plan_34 : decode cX4_plan 34 = .ok (.iconst (-1), 1) := by decide +kernel
theorem dX4_plan_35 : decode cX4_plan 35 = .ok (.ixor, 1) := by decide +kernel
theorem dX4_plan_36 : decode cX4_plan 36 = .ok (.iand, 1) := by decide +kernel
theorem dX4_plan_37 : decode cX4_plan 37 = .ok (.istore 4, 2) := by decide +kernel
theorem dX4_plan_39 : decode cX4_plan 39 = .ok (.iload 4, 2) := by decide +kernel
theorem dX4_plan_41 : decode cX4_plan 41 = .ok (.invokestatic 198, 3) := by decide +kernel
theorem dX4_plan_44 : decode cX4_plan 44 = .ok (.istore 5, 2) := by decide +kernel
theorem dX4_plan_46 : decode cX4_plan 46 = .ok (.iload 5, 2) := by decide +kernel
theorem dX4_plan_48 : decode cX4_plan 48 = .ok (.bipush 10, 2) := by decide +kernel
theorem dX4_plan_50 : decode cX4_plan 50 = .ok (.if_icmp .le 6, 3) := by decide +kernel
theorem dX4_plan_53 : decode cX4_plan 53 = .ok (.bipush (-2), 2) := by decide +kernel
theorem dX4_plan_55 : decode cX4_plan 55 = .ok (.ireturn, 1) := by decide +kernel
theorem dX4_plan_56 : decode cX4_plan 56 = .ok (.aload_n 0, 1) := by decide +kernel
theorem dX4_plan_57 : decode cX4_plan 57 = .ok (.aload_n 3, 1) := by decide +kernel
theorem dX4_plan_58 : decode cX4_plan 58 = .ok (.iload 4, 2) := by decide +kernel
theorem dX4_plan_60 : decode cX4_plan 60 = .ok (.invokevirtual 203, 3) := by decide +kernel
theorem dX4_plan_63 : decode cX4_plan 63 = .ok (.ifCond .eq 14, 3) := by decide +kernel
theorem dX4_plan_66 : decode cX4_plan 66 = .ok (.aload_n 0, 1) := by decide +kernel
theorem dX4_plan_67 : decode cX4_plan 67 = .ok (.iload 4, 2) := by decide +kernel
theorem dX4_plan_69 : decode cX4_plan 69 = .ok (.iload 5, 2) := by decide +kernel
theorem dX4_plan_71 : decode cX4_plan 71 = .ok (.invokevirtual 207, 3) := by decide +kernel
theorem dX4_plan_74 : decode cX4_plan 74 = .ok (.ifCond .ne 5, 3) := by decide +kernel
theorem dX4_plan_77 : decode cX4_plan 77 = .ok (.iconst (-1), 1) := by decide +kernel
theorem dX4_plan_78 : decode cX4_plan 78 = .ok (.ireturn, 1) := by decide +kernel
theorem dX4_plan_79 : decode cX4_plan 79 = .ok (.aload_n 0, 1) := by decide +kernel
theorem dX4_plan_80 : decode cX4_plan 80 = .ok (.getfield 41, 3) := by decide +kernel
theorem dX4_plan_83 : decode cX4_plan 83 = .ok (.iconst 0, 1) := by decide +kernel
theorem dX4_plan_84 : decode cX4_plan 84 = .ok (.aload_n 0, 1) := by decide +kernel
theorem dX4_plan_85 : decode cX4_plan 85 = .ok (.getfield 37, 3) := by decide +kernel
theorem dX4_plan_88 : decode cX4_plan 88 = .ok (.iconst 0, 1) := by decide +kernel
theorem dX4_plan_89 : decode cX4_plan 89 = .ok (.iload 5, 2) := by decide +kernel
theorem dX4_plan_91 : decode cX4_plan 91 = .ok (.invokestatic 210, 3) := by decide +kernel
theorem dX4_plan_94 : decode cX4_plan 94 = .ok (.aload_n 0, 1) := by decide +kernel
theorem dX4_plan_95 : decode cX4_plan 95 = .ok (.iload 5, 2) := by decide +kernel
theorem dX4_plan_97 : decode cX4_plan 97 = .ok (.putfield 216, 3) := by decide +kernel
theorem dX4_plan_100 : decode cX4_plan 100 = .ok (.iload 5, 2) := by decide +kernel
theorem dX4_plan_102 : decode cX4_plan 102 = .ok (.ireturn, 1) := by decide +kernel
theorem dX4_step_0 : decode cX4_step 0 = .ok (.iload_n 1, 1) := by decide +kernel
theorem dX4_step_1 : decode cX4_step 1 = .ok (.aload_n 0, 1) := by decide +kernel
theorem dX4_step_2 : decode cX4_step 2 = .ok (.getfield 216, 3) := by decide +kernel
theorem dX4_step_5 : decode cX4_step 5 = .ok (.invokestatic 82, 3) := by decide +kernel
theorem dX4_step_8 : decode cX4_step 8 = .ok (.aload_n 0, 1) := by decide +kernel
theorem dX4_step_9 : decode cX4_step 9 = .ok (.getfield 37, 3) := by decide +kernel
theorem dX4_step_12 : decode cX4_step 12 = .ok (.iload_n 1, 1) := by decide +kernel
theorem dX4_step_13 : decode cX4_step 13 = .ok (.iaload, 1) := by decide +kernel
theorem dX4_step_14 : decode cX4_step 14 = .ok (.ireturn, 1) := by decide +kernel
theorem dX4_count_0 : decode cX4_count 0 = .ok (.iload_n 1, 1) := by decide +kernel
theorem dX4_count_1 : decode cX4_count 1 = .ok (.tableswitch 63 0 4 #[35, 43, 48, 53, 58], 35) := by decide +kernel
theorem dX4_count_36 : decode cX4_count 36 = .ok (.aload_n 0, 1) := by decide +kernel
theorem dX4_count_37 : decode cX4_count 37 = .ok (.getfield 10, 3) := by decide +kernel
theorem dX4_count_40 : decode cX4_count 40 = .ok (.getfield 44, 3) := by decide +kernel
theorem dX4_count_43 : decode cX4_count 43 = .ok (.ireturn, 1) := by decide +kernel
theorem dX4_count_44 : decode cX4_count 44 = .ok (.aload_n 0, 1) := by decide +kernel
theorem dX4_count_45 : decode cX4_count 45 = .ok (.getfield 63, 3) := by decide +kernel
theorem dX4_count_48 : decode cX4_count 48 = .ok (.ireturn, 1) := by decide +kernel
theorem dX4_count_49 : decode cX4_count 49 = .ok (.aload_n 0, 1) := by decide +kernel
theorem dX4_count_50 : decode cX4_count 50 = .ok (.getfield 89, 3) := by decide +kernel
theorem dX4_count_53 : decode cX4_count 53 = .ok (.ireturn, 1) := by decide +kernel
theorem dX4_count_54 : decode cX4_count 54 = .ok (.aload_n 0, 1) := by decide +kernel
theorem dX4_count_55 : decode cX4_count 55 = .ok (.invokevirtual 219, 3) := by decide +kernel
theorem dX4_count_58 : decode cX4_count 58 = .ok (.ireturn, 1) := by decide +kernel
theorem dX4_count_59 : decode cX4_count 59 = .ok (.aload_n 0, 1) := by decide +kernel
theorem dX4_count_60 : decode cX4_count 60 = .ok (.getfield 216, 3) := by decide +kernel
theorem dX4_count_63 : decode cX4_count 63 = .ok (.ireturn, 1) := by decide +kernel
theorem dX4_count_64 : decode cX4_count 64 = .ok (.new 176, 3) := by decide +kernel
theorem dX4_count_67 : decode cX4_count 67 = .ok (.dup, 1) := by decide +kernel
theorem dX4_count_68 : decode cX4_count 68 = .ok (.ldc 178, 2) := by decide +kernel
theorem dX4_count_70 : decode cX4_count 70 = .ok (.invokespecial 180, 3) := by decide +kernel
theorem dX4_count_73 : decode cX4_count 73 = .ok (.athrow, 1) := by decide +kernel
theorem dX4_checkPlace_0 : decode cX4_checkPlace 0 = .ok (.iload_n 0, 1) := by decide +kernel
theorem dX4_checkPlace_1 : decode cX4_checkPlace 1 = .ok (.ifCond .lt 8, 3) := by decide +kernel
theorem dX4_checkPlace_4 : decode cX4_checkPlace 4 = .ok (.iload_n 0, 1) := by decide +kernel
theorem dX4_checkPlace_5 : decode cX4_checkPlace 5 = .ok (.iload_n 1, 1) := by decide +kernel
theorem dX4_checkPlace_6 : decode cX4_checkPlace 6 = .ok (.if_icmp .lt 13, 3) := by decide +kernel
theorem dX4_checkPlace_9 : decode cX4_checkPlace 9 = .ok (.new 176, 3) := by decide +kernel
theorem dX4_checkPlace_12 : decode cX4_checkPlace 12 = .ok (.dup, 1) := by decide +kernel
theorem dX4_checkPlace_13 : decode cX4_checkPlace 13 = .ok (.ldc 223, 2) := by decide +kernel
theorem dX4_checkPlace_15 : decode cX4_checkPlace 15 = .ok (.invokespecial 180, 3) := by decide +kernel
theorem dX4_checkPlace_18 : decode cX4_checkPlace 18 = .ok (.athrow, 1) := by decide +kernel
theorem dX4_checkPlace_19 : decode cX4_checkPlace 19 = .ok (.return_, 1) := by decide +kernel
theorem dX4_checkHour_0 : decode cX4_checkHour 0 = .ok (.iload_n 0, 1) := by decide +kernel
theorem dX4_checkHour_1 : decode cX4_checkHour 1 = .ok (.iload_n 1, 1) := by decide +kernel
theorem dX4_checkHour_2 : decode cX4_checkHour 2 = .ok (.if_icmp .lt 9, 3) := by decide +kernel
theorem dX4_checkHour_5 : decode cX4_checkHour 5 = .ok (.iload_n 0, 1) := by decide +kernel
theorem dX4_checkHour_6 : decode cX4_checkHour 6 = .ok (.ldc 156, 2) := by decide +kernel
theorem dX4_checkHour_8 : decode cX4_checkHour 8 = .ok (.if_icmp .le 13, 3) := by decide +kernel
theorem dX4_checkHour_11 : decode cX4_checkHour 11 = .ok (.new 55, 3) := by decide +kernel
theorem dX4_checkHour_14 : decode cX4_checkHour 14 = .ok (.dup, 1) := by decide +kernel
theorem dX4_checkHour_15 : decode cX4_checkHour 15 = .ok (.ldc 225, 2) := by decide +kernel
theorem dX4_checkHour_17 : decode cX4_checkHour 17 = .ok (.invokespecial 59, 3) := by decide +kernel
theorem dX4_checkHour_20 : decode cX4_checkHour 20 = .ok (.athrow, 1) := by decide +kernel
theorem dX4_checkHour_21 : decode cX4_checkHour 21 = .ok (.return_, 1) := by decide +kernel
theorem dX4_methodAt_0 : decode cX4_methodAt 0 = .ok (.iload_n 1, 1) := by decide +kernel
theorem dX4_methodAt_1 : decode cX4_methodAt 1 = .ok (.aload_n 0, 1) := by decide +kernel
theorem dX4_methodAt_2 : decode cX4_methodAt 2 = .ok (.getfield 63, 3) := by decide +kernel
theorem dX4_methodAt_5 : decode cX4_methodAt 5 = .ok (.invokestatic 82, 3) := by decide +kernel
theorem dX4_methodAt_8 : decode cX4_methodAt 8 = .ok (.aload_n 0, 1) := by decide +kernel
theorem dX4_methodAt_9 : decode cX4_methodAt 9 = .ok (.getfield 18, 3) := by decide +kernel
theorem dX4_methodAt_12 : decode cX4_methodAt 12 = .ok (.iload_n 1, 1) := by decide +kernel
theorem dX4_methodAt_13 : decode cX4_methodAt 13 = .ok (.aaload, 1) := by decide +kernel
theorem dX4_methodAt_14 : decode cX4_methodAt 14 = .ok (.areturn, 1) := by decide +kernel
theorem dX4_pieceAt_0 : decode cX4_pieceAt 0 = .ok (.iload_n 1, 1) := by decide +kernel
theorem dX4_pieceAt_1 : decode cX4_pieceAt 1 = .ok (.aload_n 0, 1) := by decide +kernel
theorem dX4_pieceAt_2 : decode cX4_pieceAt 2 = .ok (.getfield 89, 3) := by decide +kernel
theorem dX4_pieceAt_5 : decode cX4_pieceAt 5 = .ok (.invokestatic 82, 3) := by decide +kernel
theorem dX4_pieceAt_8 : decode cX4_pieceAt 8 = .ok (.aload_n 0, 1) := by decide +kernel
theorem dX4_pieceAt_9 : decode cX4_pieceAt 9 = .ok (.getfield 25, 3) := by decide +kernel
theorem dX4_pieceAt_12 : decode cX4_pieceAt 12 = .ok (.iload_n 1, 1) := by decide +kernel
theorem dX4_pieceAt_13 : decode cX4_pieceAt 13 = .ok (.aaload, 1) := by decide +kernel
theorem dX4_pieceAt_14 : decode cX4_pieceAt 14 = .ok (.areturn, 1) := by decide +kernel
theorem dX4_goodAt_0 : decode cX4_goodAt 0 = .ok (.iload_n 1, 1) := by decide +kernel
theorem dX4_goodAt_1 : decode cX4_goodAt 1 = .ok (.bipush 12, 2) := by decide +kernel
theorem dX4_goodAt_3 : decode cX4_goodAt 3 = .ok (.invokestatic 82, 3) := by decide +kernel
theorem dX4_goodAt_6 : decode cX4_goodAt 6 = .ok (.aload_n 0, 1) := by decide +kernel
theorem dX4_goodAt_7 : decode cX4_goodAt 7 = .ok (.getfield 32, 3) := by decide +kernel
theorem dX4_goodAt_10 : decode cX4_goodAt 10 = .ok (.iload_n 1, 1) := by decide +kernel
theorem dX4_goodAt_11 : decode cX4_goodAt 11 = .ok (.aaload, 1) := by decide +kernel
theorem dX4_goodAt_12 : decode cX4_goodAt 12 = .ok (.areturn, 1) := by decide +kernel
theorem dX4_has_0 : decode cX4_has 0 = .ok (.iload_n 0, 1) := by decide +kernel
theorem dX4_has_1 : decode cX4_has 1 = .ok (.iload_n 1, 1) := by decide +kernel
theorem dX4_has_2 : decode cX4_has 2 = .ok (.iushr, 1) := by decide +kernel
theorem dX4_has_3 : decode cX4_has 3 = .ok (.iconst 1, 1) := by decide +kernel
theorem dX4_has_4 : decode cX4_has 4 = .ok (.iand, 1) := by decide +kernel
theorem dX4_has_5 : decode cX4_has 5 = .ok (.iconst 1, 1) := by decide +kernel
theorem dX4_has_6 : decode cX4_has 6 = .ok (.if_icmp .ne 7, 3) := by decide +kernel
theorem dX4_has_9 : decode cX4_has 9 = .ok (.iconst 1, 1) := by decide +kernel
theorem dX4_has_10 : decode cX4_has 10 = .ok (.goto 4, 3) := by decide +kernel
theorem dX4_has_13 : decode cX4_has 13 = .ok (.iconst 0, 1) := by decide +kernel
theorem dX4_has_14 : decode cX4_has 14 = .ok (.ireturn, 1) := by decide +kernel
theorem dX4_with_0 : decode cX4_with 0 = .ok (.iload_n 2, 1) := by decide +kernel
theorem dX4_with_1 : decode cX4_with 1 = .ok (.ifCond .eq 11, 3) := by decide +kernel
theorem dX4_with_4 : decode cX4_with 4 = .ok (.iload_n 0, 1) := by decide +kernel
theorem dX4_with_5 : decode cX4_with 5 = .ok (.iconst 1, 1) := by decide +kernel
theorem dX4_with_6 : decode cX4_with 6 = .ok (.iload_n 1, 1) := by decide +kernel
theorem dX4_with_7 : decode cX4_with 7 = .ok (.ishl, 1) := by decide +kernel
theorem dX4_with_8 : decode cX4_with 8 = .ok (.ior, 1) := by decide +kernel
theorem dX4_with_9 : decode cX4_with 9 = .ok (.goto 10, 3) := by decide +kernel
theorem dX4_with_12 : decode cX4_with 12 = .ok (.iload_n 0, 1) := by decide +kernel
theorem dX4_with_13 : decode cX4_with 13 = .ok (.iconst 1, 1) := by decide +kernel
theorem dX4_with_14 : decode cX4_with 14 = .ok (.iload_n 1, 1) := by decide +kernel
theorem dX4_with_15 : decode cX4_with 15 = .ok (.ishl, 1) := by decide +kernel
theorem dX4_with_16 : decode cX4_with 16 = .ok (.iconst (-1), 1) := by decide +kernel
theorem dX4_with_17 : decode cX4_with 17 = .ok (.ixor, 1) := by decide +kernel
theorem dX4_with_18 : decode cX4_with 18 = .ok (.iand, 1) := by decide +kernel
theorem dX4_with_19 : decode cX4_with 19 = .ok (.ireturn, 1) := by decide +kernel
theorem dX4_lowest_0 : decode cX4_lowest 0 = .ok (.iconst 0, 1) := by decide +kernel
theorem dX4_lowest_1 : decode cX4_lowest 1 = .ok (.istore_n 1, 1) := by decide +kernel
theorem dX4_lowest_2 : decode cX4_lowest 2 = .ok (.iload_n 1, 1) := by decide +kernel
theorem dX4_lowest_3 : decode cX4_lowest 3 = .ok (.bipush 12, 2) := by decide +kernel
theorem dX4_lowest_5 : decode cX4_lowest 5 = .ok (.if_icmp .ge 19, 3) := by decide +kernel
theorem dX4_lowest_8 : decode cX4_lowest 8 = .ok (.iload_n 0, 1) := by decide +kernel
theorem dX4_lowest_9 : decode cX4_lowest 9 = .ok (.iload_n 1, 1) := by decide +kernel
theorem dX4_lowest_10 : decode cX4_lowest 10 = .ok (.invokestatic 110, 3) := by decide +kernel
theorem dX4_lowest_13 : decode cX4_lowest 13 = .ok (.ifCond .eq 5, 3) := by decide +kernel
theorem dX4_lowest_16 : decode cX4_lowest 16 = .ok (.iload_n 1, 1) := by decide +kernel
theorem dX4_lowest_17 : decode cX4_lowest 17 = .ok (.ireturn, 1) := by decide +kernel
theorem dX4_lowest_18 : decode cX4_lowest 18 = .ok (.iinc 1 1, 3) := by decide +kernel
theorem dX4_lowest_21 : decode cX4_lowest 21 = .ok (.goto (-19), 3) := by decide +kernel
theorem dX4_lowest_24 : decode cX4_lowest 24 = .ok (.iconst (-1), 1) := by decide +kernel
theorem dX4_lowest_25 : decode cX4_lowest 25 = .ok (.ireturn, 1) := by decide +kernel
theorem dX4_reasonAgainst_0 : decode cX4_reasonAgainst 0 = .ok (.aload_n 1, 1) := by decide +kernel
theorem dX4_reasonAgainst_1 : decode cX4_reasonAgainst 1 = .ok (.aload_n 2, 1) := by decide +kernel
theorem dX4_reasonAgainst_2 : decode cX4_reasonAgainst 2 = .ok (.getfield 227, 3) := by decide +kernel
theorem dX4_reasonAgainst_5 : decode cX4_reasonAgainst 5 = .ok (.invokevirtual 230, 3) := by decide +kernel
theorem dX4_reasonAgainst_8 : decode cX4_reasonAgainst 8 = .ok (.istore 5, 2) := by decide +kernel
theorem dX4_reasonAgainst_10 : decode cX4_reasonAgainst 10 = .ok (.iload 5, 2) := by decide +kernel
theorem dX4_reasonAgainst_12 : decode cX4_reasonAgainst 12 = .ok (.iconst (-1), 1) := by decide +kernel
theorem dX4_reasonAgainst_13 : decode cX4_reasonAgainst 13 = .ok (.if_icmp .eq 9, 3) := by decide +kernel
theorem dX4_reasonAgainst_16 : decode cX4_reasonAgainst 16 = .ok (.bipush 100, 2) := by decide +kernel
theorem dX4_reasonAgainst_18 : decode cX4_reasonAgainst 18 = .ok (.iload 5, 2) := by decide +kernel
theorem dX4_reasonAgainst_20 : decode cX4_reasonAgainst 20 = .ok (.iadd, 1) := by decide +kernel
theorem dX4_reasonAgainst_21 : decode cX4_reasonAgainst 21 = .ok (.ireturn, 1) := by decide +kernel
theorem dX4_reasonAgainst_22 : decode cX4_reasonAgainst 22 = .ok (.aload_n 2, 1) := by decide +kernel
theorem dX4_reasonAgainst_23 : decode cX4_reasonAgainst 23 = .ok (.getfield 233, 3) := by decide +kernel
theorem dX4_reasonAgainst_26 : decode cX4_reasonAgainst 26 = .ok (.aload_n 1, 1) := by decide +kernel
theorem dX4_reasonAgainst_27 : decode cX4_reasonAgainst 27 = .ok (.getfield 195, 3) := by decide +kernel
theorem dX4_reasonAgainst_30 : decode cX4_reasonAgainst 30 = .ok (.iand, 1) := by decide +kernel
theorem dX4_reasonAgainst_31 : decode cX4_reasonAgainst 31 = .ok (.invokestatic 187, 3) := by decide +kernel
theorem dX4_reasonAgainst_34 : decode cX4_reasonAgainst 34 = .ok (.istore 6, 2) := by decide +kernel
theorem dX4_reasonAgainst_36 : decode cX4_reasonAgainst 36 = .ok (.iload 6, 2) := by decide +kernel
theorem dX4_reasonAgainst_38 : decode cX4_reasonAgainst 38 = .ok (.iconst (-1), 1) := by decide +kernel
theorem dX4_reasonAgainst_39 : decode cX4_reasonAgainst 39 = .ok (.if_icmp .eq 10, 3) := by decide +kernel
theorem dX4_reasonAgainst_42 : decode cX4_reasonAgainst 42 = .ok (.sipush 200, 3) := by decide +kernel
theorem dX4_reasonAgainst_45 : decode cX4_reasonAgainst 45 = .ok (.iload 6, 2) := by decide +kernel
theorem dX4_reasonAgainst_47 : decode cX4_reasonAgainst 47 = .ok (.iadd, 1) := by decide +kernel
theorem dX4_reasonAgainst_48 : decode cX4_reasonAgainst 48 = .ok (.ireturn, 1) := by decide +kernel
theorem dX4_reasonAgainst_49 : decode cX4_reasonAgainst 49 = .ok (.aload_n 1, 1) := by decide +kernel
theorem dX4_reasonAgainst_50 : decode cX4_reasonAgainst 50 = .ok (.aload_n 2, 1) := by decide +kernel
theorem dX4_reasonAgainst_51 : decode cX4_reasonAgainst 51 = .ok (.iload 4, 2) := by decide +kernel
theorem dX4_reasonAgainst_53 : decode cX4_reasonAgainst 53 = .ok (.invokestatic 236, 3) := by decide +kernel
theorem dX4_reasonAgainst_56 : decode cX4_reasonAgainst 56 = .ok (.istore 7, 2) := by decide +kernel
theorem dX4_reasonAgainst_58 : decode cX4_reasonAgainst 58 = .ok (.iload 7, 2) := by decide +kernel
theorem dX4_reasonAgainst_60 : decode cX4_reasonAgainst 60 = .ok (.iconst (-1), 1) := by decide +kernel
theorem dX4_reasonAgainst_61 : decode cX4_reasonAgainst 61 = .ok (.if_icmp .eq 10, 3) := by decide +kernel
theorem dX4_reasonAgainst_64 : decode cX4_reasonAgainst 64 = .ok (.sipush 300, 3) := by decide +kernel
theorem dX4_reasonAgainst_67 : decode cX4_reasonAgainst 67 = .ok (.iload 7, 2) := by decide +kernel
theorem dX4_reasonAgainst_69 : decode cX4_reasonAgainst 69 = .ok (.iadd, 1) := by decide +kernel
theorem dX4_reasonAgainst_70 : decode cX4_reasonAgainst 70 = .ok (.ireturn, 1) := by decide +kernel
theorem dX4_reasonAgainst_71 : decode cX4_reasonAgainst 71 = .ok (.aload_n 2, 1) := by decide +kernel
theorem dX4_reasonAgainst_72 : decode cX4_reasonAgainst 72 = .ok (.getfield 240, 3) := by decide +kernel
theorem dX4_reasonAgainst_75 : decode cX4_reasonAgainst 75 = .ok (.ifCond .eq 20, 3) := by decide +kernel
theorem dX4_reasonAgainst_78 : decode cX4_reasonAgainst 78 = .ok (.aload_n 1, 1) := by decide +kernel
theorem dX4_reasonAgainst_79 : decode cX4_reasonAgainst 79 = .ok (.getfield 243, 3) := by decide +kernel
theorem dX4_reasonAgainst_82 : decode cX4_reasonAgainst 82 = .ok (.aload_n 2, 1) := by decide +kernel
theorem dX4_reasonAgainst_83 : decode cX4_reasonAgainst 83 = .ok (.getfield 118, 3) := by decide +kernel
theorem dX4_reasonAgainst_86 : decode cX4_reasonAgainst 86 = .ok (.iconst (-1), 1) := by decide +kernel
theorem dX4_reasonAgainst_87 : decode cX4_reasonAgainst 87 = .ok (.ixor, 1) := by decide +kernel
theorem dX4_reasonAgainst_88 : decode cX4_reasonAgainst 88 = .ok (.iand, 1) := by decide +kernel
theorem dX4_reasonAgainst_89 : decode cX4_reasonAgainst 89 = .ok (.invokestatic 187, 3) := by decide +kernel
theorem dX4_reasonAgainst_92 : decode cX4_reasonAgainst 92 = .ok (.goto 4, 3) := by decide +kernel
theorem dX4_reasonAgainst_95 : decode cX4_reasonAgainst 95 = .ok (.iconst (-1), 1) := by decide +kernel
theorem dX4_reasonAgainst_96 : decode cX4_reasonAgainst 96 = .ok (.istore 8, 2) := by decide +kernel
theorem dX4_reasonAgainst_98 : decode cX4_reasonAgainst 98 = .ok (.iload 8, 2) := by decide +kernel
theorem dX4_reasonAgainst_100 : decode cX4_reasonAgainst 100 = .ok (.iconst (-1), 1) := by decide +kernel
theorem dX4_reasonAgainst_101 : decode cX4_reasonAgainst 101 = .ok (.if_icmp .eq 10, 3) := by decide +kernel
theorem dX4_reasonAgainst_104 : decode cX4_reasonAgainst 104 = .ok (.sipush 400, 3) := by decide +kernel
theorem dX4_reasonAgainst_107 : decode cX4_reasonAgainst 107 = .ok (.iload 8, 2) := by decide +kernel
theorem dX4_reasonAgainst_109 : decode cX4_reasonAgainst 109 = .ok (.iadd, 1) := by decide +kernel
theorem dX4_reasonAgainst_110 : decode cX4_reasonAgainst 110 = .ok (.ireturn, 1) := by decide +kernel
theorem dX4_reasonAgainst_111 : decode cX4_reasonAgainst 111 = .ok (.aload_n 0, 1) := by decide +kernel
theorem dX4_reasonAgainst_112 : decode cX4_reasonAgainst 112 = .ok (.aload_n 2, 1) := by decide +kernel
theorem dX4_reasonAgainst_113 : decode cX4_reasonAgainst 113 = .ok (.invokevirtual 246, 3) := by decide +kernel
theorem dX4_reasonAgainst_116 : decode cX4_reasonAgainst 116 = .ok (.istore 9, 2) := by decide +kernel
theorem dX4_reasonAgainst_118 : decode cX4_reasonAgainst 118 = .ok (.iload 9, 2) := by decide +kernel
theorem dX4_reasonAgainst_120 : decode cX4_reasonAgainst 120 = .ok (.iconst (-1), 1) := by decide +kernel
theorem dX4_reasonAgainst_121 : decode cX4_reasonAgainst 121 = .ok (.if_icmp .eq 10, 3) := by decide +kernel
theorem dX4_reasonAgainst_124 : decode cX4_reasonAgainst 124 = .ok (.sipush 500, 3) := by decide +kernel
theorem dX4_reasonAgainst_127 : decode cX4_reasonAgainst 127 = .ok (.iload 9, 2) := by decide +kernel
theorem dX4_reasonAgainst_129 : decode cX4_reasonAgainst 129 = .ok (.iadd, 1) := by decide +kernel
theorem dX4_reasonAgainst_130 : decode cX4_reasonAgainst 130 = .ok (.ireturn, 1) := by decide +kernel
theorem dX4_reasonAgainst_131 : decode cX4_reasonAgainst 131 = .ok (.aload_n 2, 1) := by decide +kernel
theorem dX4_reasonAgainst_132 : decode cX4_reasonAgainst 132 = .ok (.getfield 107, 3) := by decide +kernel
theorem dX4_reasonAgainst_135 : decode cX4_reasonAgainst 135 = .ok (.iload_n 3, 1) := by decide +kernel
theorem dX4_reasonAgainst_136 : decode cX4_reasonAgainst 136 = .ok (.invokestatic 110, 3) := by decide +kernel
theorem dX4_reasonAgainst_139 : decode cX4_reasonAgainst 139 = .ok (.ifCond .eq 7, 3) := by decide +kernel
theorem dX4_reasonAgainst_142 : decode cX4_reasonAgainst 142 = .ok (.iconst 0, 1) := by decide +kernel
theorem dX4_reasonAgainst_143 : decode cX4_reasonAgainst 143 = .ok (.goto 6, 3) := by decide +kernel
theorem dX4_reasonAgainst_146 : decode cX4_reasonAgainst 146 = .ok (.sipush 600, 3) := by decide +kernel
theorem dX4_reasonAgainst_149 : decode cX4_reasonAgainst 149 = .ok (.ireturn, 1) := by decide +kernel
theorem dX4_lowestNotLongEnoughAgo_0 : decode cX4_lowestNotLongEnoughAgo 0 = .ok (.iconst 0, 1) := by decide +kernel
theorem dX4_lowestNotLongEnoughAgo_1 : decode cX4_lowestNotLongEnoughAgo 1 = .ok (.istore_n 3, 1) := by decide +kernel
theorem dX4_lowestNotLongEnoughAgo_2 : decode cX4_lowestNotLongEnoughAgo 2 = .ok (.iload_n 3, 1) := by decide +kernel
theorem dX4_lowestNotLongEnoughAgo_3 : decode cX4_lowestNotLongEnoughAgo 3 = .ok (.bipush 12, 2) := by decide +kernel
theorem dX4_lowestNotLongEnoughAgo_5 : decode cX4_lowestNotLongEnoughAgo 5 = .ok (.if_icmp .ge 50, 3) := by decide +kernel
theorem dX4_lowestNotLongEnoughAgo_8 : decode cX4_lowestNotLongEnoughAgo 8 = .ok (.aload_n 1, 1) := by decide +kernel
theorem dX4_lowestNotLongEnoughAgo_9 : decode cX4_lowestNotLongEnoughAgo 9 = .ok (.getfield 250, 3) := by decide +kernel
theorem dX4_lowestNotLongEnoughAgo_12 : decode cX4_lowestNotLongEnoughAgo 12 = .ok (.iload_n 3, 1) := by decide +kernel
theorem dX4_lowestNotLongEnoughAgo_13 : decode cX4_lowestNotLongEnoughAgo 13 = .ok (.invokestatic 110, 3) := by decide +kernel
theorem dX4_lowestNotLongEnoughAgo_16 : decode cX4_lowestNotLongEnoughAgo 16 = .ok (.ifCond .eq 33, 3) := by decide +kernel
theorem dX4_lowestNotLongEnoughAgo_19 : decode cX4_lowestNotLongEnoughAgo 19 = .ok (.aload_n 0, 1) := by decide +kernel
theorem dX4_lowestNotLongEnoughAgo_20 : decode cX4_lowestNotLongEnoughAgo 20 = .ok (.getfield 195, 3) := by decide +kernel
theorem dX4_lowestNotLongEnoughAgo_23 : decode cX4_lowestNotLongEnoughAgo 23 = .ok (.iload_n 3, 1) := by decide +kernel
theorem dX4_lowestNotLongEnoughAgo_24 : decode cX4_lowestNotLongEnoughAgo 24 = .ok (.invokestatic 110, 3) := by decide +kernel
theorem dX4_lowestNotLongEnoughAgo_27 : decode cX4_lowestNotLongEnoughAgo 27 = .ok (.ifCond .eq 20, 3) := by decide +kernel
theorem dX4_lowestNotLongEnoughAgo_30 : decode cX4_lowestNotLongEnoughAgo 30 = .ok (.iload_n 2, 1) := by decide +kernel
theorem dX4_lowestNotLongEnoughAgo_31 : decode cX4_lowestNotLongEnoughAgo 31 = .ok (.aload_n 0, 1) := by decide +kernel
theorem dX4_lowestNotLongEnoughAgo_32 : decode cX4_lowestNotLongEnoughAgo 32 = .ok (.getfield 253, 3) := by decide +kernel
theorem dX4_lowestNotLongEnoughAgo_35 : decode cX4_lowestNotLongEnoughAgo 35 = .ok (.iload_n 3, 1) := by decide +kernel
theorem dX4_lowestNotLongEnoughAgo_36 : decode cX4_lowestNotLongEnoughAgo 36 = .ok (.iaload, 1) := by decide +kernel
theorem dX4_lowestNotLongEnoughAgo_37 : decode cX4_lowestNotLongEnoughAgo 37 = .ok (.isub, 1) := by decide +kernel
theorem dX4_lowestNotLongEnoughAgo_38 : decode cX4_lowestNotLongEnoughAgo 38 = .ok (.aload_n 1, 1) := by decide +kernel
theorem dX4_lowestNotLongEnoughAgo_39 : decode cX4_lowestNotLongEnoughAgo 39 = .ok (.getfield 256, 3) := by decide +kernel
theorem dX4_lowestNotLongEnoughAgo_42 : decode cX4_lowestNotLongEnoughAgo 42 = .ok (.iload_n 3, 1) := by decide +kernel
theorem dX4_lowestNotLongEnoughAgo_43 : decode cX4_lowestNotLongEnoughAgo 43 = .ok (.iaload, 1) := by decide +kernel
theorem dX4_lowestNotLongEnoughAgo_44 : decode cX4_lowestNotLongEnoughAgo 44 = .ok (.if_icmp .ge 5, 3) := by decide +kernel
theorem dX4_lowestNotLongEnoughAgo_47 : decode cX4_lowestNotLongEnoughAgo 47 = .ok (.iload_n 3, 1) := by decide +kernel
theorem dX4_lowestNotLongEnoughAgo_48 : decode cX4_lowestNotLongEnoughAgo 48 = .ok (.ireturn, 1) := by decide +kernel
theorem dX4_lowestNotLongEnoughAgo_49 : decode cX4_lowestNotLongEnoughAgo 49 = .ok (.iinc 3 1, 3) := by decide +kernel
theorem dX4_lowestNotLongEnoughAgo_52 : decode cX4_lowestNotLongEnoughAgo 52 = .ok (.goto (-50), 3) := by decide +kernel
theorem dX4_lowestNotLongEnoughAgo_55 : decode cX4_lowestNotLongEnoughAgo 55 = .ok (.iconst (-1), 1) := by decide +kernel
theorem dX4_lowestNotLongEnoughAgo_56 : decode cX4_lowestNotLongEnoughAgo 56 = .ok (.ireturn, 1) := by decide +kernel
theorem dX4_lowestLacking_0 : decode cX4_lowestLacking 0 = .ok (.iconst 0, 1) := by decide +kernel
theorem dX4_lowestLacking_1 : decode cX4_lowestLacking 1 = .ok (.istore_n 2, 1) := by decide +kernel
theorem dX4_lowestLacking_2 : decode cX4_lowestLacking 2 = .ok (.iload_n 2, 1) := by decide +kernel
theorem dX4_lowestLacking_3 : decode cX4_lowestLacking 3 = .ok (.bipush 12, 2) := by decide +kernel
theorem dX4_lowestLacking_5 : decode cX4_lowestLacking 5 = .ok (.if_icmp .ge 29, 3) := by decide +kernel
theorem dX4_lowestLacking_8 : decode cX4_lowestLacking 8 = .ok (.aload_n 0, 1) := by decide +kernel
theorem dX4_lowestLacking_9 : decode cX4_lowestLacking 9 = .ok (.getfield 32, 3) := by decide +kernel
theorem dX4_lowestLacking_12 : decode cX4_lowestLacking 12 = .ok (.iload_n 2, 1) := by decide +kernel
theorem dX4_lowestLacking_13 : decode cX4_lowestLacking 13 = .ok (.aaload, 1) := by decide +kernel
theorem dX4_lowestLacking_14 : decode cX4_lowestLacking 14 = .ok (.getfield 159, 3) := by decide +kernel
theorem dX4_lowestLacking_17 : decode cX4_lowestLacking 17 = .ok (.aload_n 1, 1) := by decide +kernel
theorem dX4_lowestLacking_18 : decode cX4_lowestLacking 18 = .ok (.getfield 86, 3) := by decide +kernel
theorem dX4_lowestLacking_21 : decode cX4_lowestLacking 21 = .ok (.iload_n 2, 1) := by decide +kernel
theorem dX4_lowestLacking_22 : decode cX4_lowestLacking 22 = .ok (.iaload, 1) := by decide +kernel
theorem dX4_lowestLacking_23 : decode cX4_lowestLacking 23 = .ok (.if_icmp .ge 5, 3) := by decide +kernel
theorem dX4_lowestLacking_26 : decode cX4_lowestLacking 26 = .ok (.iload_n 2, 1) := by decide +kernel
theorem dX4_lowestLacking_27 : decode cX4_lowestLacking 27 = .ok (.ireturn, 1) := by decide +kernel
theorem dX4_lowestLacking_28 : decode cX4_lowestLacking 28 = .ok (.iinc 2 1, 3) := by decide +kernel
theorem dX4_lowestLacking_31 : decode cX4_lowestLacking 31 = .ok (.goto (-29), 3) := by decide +kernel
theorem dX4_lowestLacking_34 : decode cX4_lowestLacking 34 = .ok (.iconst (-1), 1) := by decide +kernel
theorem dX4_lowestLacking_35 : decode cX4_lowestLacking 35 = .ok (.ireturn, 1) := by decide +kernel
theorem dX4_takeWhatGoes_0 : decode cX4_takeWhatGoes 0 = .ok (.iconst 0, 1) := by decide +kernel
theorem dX4_takeWhatGoes_1 : decode cX4_takeWhatGoes 1 = .ok (.istore_n 2, 1) := by decide +kernel
theorem dX4_takeWhatGoes_2 : decode cX4_takeWhatGoes 2 = .ok (.iload_n 2, 1) := by decide +kernel
theorem dX4_takeWhatGoes_3 : decode cX4_takeWhatGoes 3 = .ok (.bipush 12, 2) := by decide +kernel
theorem dX4_takeWhatGoes_5 : decode cX4_takeWhatGoes 5 = .ok (.if_icmp .ge 25, 3) := by decide +kernel
theorem dX4_takeWhatGoes_8 : decode cX4_takeWhatGoes 8 = .ok (.aload_n 0, 1) := by decide +kernel
theorem dX4_takeWhatGoes_9 : decode cX4_takeWhatGoes 9 = .ok (.getfield 32, 3) := by decide +kernel
theorem dX4_takeWhatGoes_12 : decode cX4_takeWhatGoes 12 = .ok (.iload_n 2, 1) := by decide +kernel
theorem dX4_takeWhatGoes_13 : decode cX4_takeWhatGoes 13 = .ok (.aaload, 1) := by decide +kernel
theorem dX4_takeWhatGoes_14 : decode cX4_takeWhatGoes 14 = .ok (.aload_n 1, 1) := by decide +kernel
theorem dX4_takeWhatGoes_15 : decode cX4_takeWhatGoes 15 = .ok (.getfield 86, 3) := by decide +kernel
theorem dX4_takeWhatGoes_18 : decode cX4_takeWhatGoes 18 = .ok (.iload_n 2, 1) := by decide +kernel
theorem dX4_takeWhatGoes_19 : decode cX4_takeWhatGoes 19 = .ok (.iaload, 1) := by decide +kernel
theorem dX4_takeWhatGoes_20 : decode cX4_takeWhatGoes 20 = .ok (.ineg, 1) := by decide +kernel
theorem dX4_takeWhatGoes_21 : decode cX4_takeWhatGoes 21 = .ok (.invokevirtual 162, 3) := by decide +kernel
theorem dX4_takeWhatGoes_24 : decode cX4_takeWhatGoes 24 = .ok (.iinc 2 1, 3) := by decide +kernel
theorem dX4_takeWhatGoes_27 : decode cX4_takeWhatGoes 27 = .ok (.goto (-25), 3) := by decide +kernel
theorem dX4_takeWhatGoes_30 : decode cX4_takeWhatGoes 30 = .ok (.return_, 1) := by decide +kernel
theorem dX4_goodsOn_0 : decode cX4_goodsOn 0 = .ok (.iconst 0, 1) := by decide +kernel
theorem dX4_goodsOn_1 : decode cX4_goodsOn 1 = .ok (.istore_n 2, 1) := by decide +kernel
theorem dX4_goodsOn_2 : decode cX4_goodsOn 2 = .ok (.iconst 0, 1) := by decide +kernel
theorem dX4_goodsOn_3 : decode cX4_goodsOn 3 = .ok (.istore_n 3, 1) := by decide +kernel
theorem dX4_goodsOn_4 : decode cX4_goodsOn 4 = .ok (.iload_n 3, 1) := by decide +kernel
theorem dX4_goodsOn_5 : decode cX4_goodsOn 5 = .ok (.bipush 12, 2) := by decide +kernel
theorem dX4_goodsOn_7 : decode cX4_goodsOn 7 = .ok (.if_icmp .ge 33, 3) := by decide +kernel
theorem dX4_goodsOn_10 : decode cX4_goodsOn 10 = .ok (.iload_n 2, 1) := by decide +kernel
theorem dX4_goodsOn_11 : decode cX4_goodsOn 11 = .ok (.iload_n 3, 1) := by decide +kernel
theorem dX4_goodsOn_12 : decode cX4_goodsOn 12 = .ok (.aload_n 0, 1) := by decide +kernel
theorem dX4_goodsOn_13 : decode cX4_goodsOn 13 = .ok (.getfield 32, 3) := by decide +kernel
theorem dX4_goodsOn_16 : decode cX4_goodsOn 16 = .ok (.iload_n 3, 1) := by decide +kernel
theorem dX4_goodsOn_17 : decode cX4_goodsOn 17 = .ok (.aaload, 1) := by decide +kernel
theorem dX4_goodsOn_18 : decode cX4_goodsOn 18 = .ok (.getfield 173, 3) := by decide +kernel
theorem dX4_goodsOn_21 : decode cX4_goodsOn 21 = .ok (.iload_n 1, 1) := by decide +kernel
theorem dX4_goodsOn_22 : decode cX4_goodsOn 22 = .ok (.if_icmp .ne 7, 3) := by decide +kernel
theorem dX4_goodsOn_25 : decode cX4_goodsOn 25 = .ok (.iconst 1, 1) := by decide +kernel
theorem dX4_goodsOn_26 : decode cX4_goodsOn 26 = .ok (.goto 4, 3) := by decide +kernel
theorem dX4_goodsOn_29 : decode cX4_goodsOn 29 = .ok (.iconst 0, 1) := by decide +kernel
theorem dX4_goodsOn_30 : decode cX4_goodsOn 30 = .ok (.invokestatic 114, 3) := by decide +kernel
theorem dX4_goodsOn_33 : decode cX4_goodsOn 33 = .ok (.istore_n 2, 1) := by decide +kernel
theorem dX4_goodsOn_34 : decode cX4_goodsOn 34 = .ok (.iinc 3 1, 3) := by decide +kernel
theorem dX4_goodsOn_37 : decode cX4_goodsOn 37 = .ok (.goto (-33), 3) := by decide +kernel
theorem dX4_goodsOn_40 : decode cX4_goodsOn 40 = .ok (.iload_n 2, 1) := by decide +kernel
theorem dX4_goodsOn_41 : decode cX4_goodsOn 41 = .ok (.ireturn, 1) := by decide +kernel
theorem dX4_rowsOfAll_0 : decode cX4_rowsOfAll 0 = .ok (.iconst 0, 1) := by decide +kernel
theorem dX4_rowsOfAll_1 : decode cX4_rowsOfAll 1 = .ok (.istore_n 1, 1) := by decide +kernel
theorem dX4_rowsOfAll_2 : decode cX4_rowsOfAll 2 = .ok (.iconst 0, 1) := by decide +kernel
theorem dX4_rowsOfAll_3 : decode cX4_rowsOfAll 3 = .ok (.istore_n 2, 1) := by decide +kernel
theorem dX4_rowsOfAll_4 : decode cX4_rowsOfAll 4 = .ok (.iload_n 2, 1) := by decide +kernel
theorem dX4_rowsOfAll_5 : decode cX4_rowsOfAll 5 = .ok (.aload_n 0, 1) := by decide +kernel
theorem dX4_rowsOfAll_6 : decode cX4_rowsOfAll 6 = .ok (.getfield 89, 3) := by decide +kernel
theorem dX4_rowsOfAll_9 : decode cX4_rowsOfAll 9 = .ok (.if_icmp .ge 21, 3) := by decide +kernel
theorem dX4_rowsOfAll_12 : decode cX4_rowsOfAll 12 = .ok (.iload_n 1, 1) := by decide +kernel
theorem dX4_rowsOfAll_13 : decode cX4_rowsOfAll 13 = .ok (.aload_n 0, 1) := by decide +kernel
theorem dX4_rowsOfAll_14 : decode cX4_rowsOfAll 14 = .ok (.getfield 25, 3) := by decide +kernel
theorem dX4_rowsOfAll_17 : decode cX4_rowsOfAll 17 = .ok (.iload_n 2, 1) := by decide +kernel
theorem dX4_rowsOfAll_18 : decode cX4_rowsOfAll 18 = .ok (.aaload, 1) := by decide +kernel
theorem dX4_rowsOfAll_19 : decode cX4_rowsOfAll 19 = .ok (.getfield 128, 3) := by decide +kernel
theorem dX4_rowsOfAll_22 : decode cX4_rowsOfAll 22 = .ok (.iadd, 1) := by decide +kernel
theorem dX4_rowsOfAll_23 : decode cX4_rowsOfAll 23 = .ok (.istore_n 1, 1) := by decide +kernel
theorem dX4_rowsOfAll_24 : decode cX4_rowsOfAll 24 = .ok (.iinc 2 1, 3) := by decide +kernel
theorem dX4_rowsOfAll_27 : decode cX4_rowsOfAll 27 = .ok (.goto (-23), 3) := by decide +kernel
theorem dX4_rowsOfAll_30 : decode cX4_rowsOfAll 30 = .ok (.iload_n 1, 1) := by decide +kernel
theorem dX4_rowsOfAll_31 : decode cX4_rowsOfAll 31 = .ok (.ireturn, 1) := by decide +kernel
theorem dX4_withAllAhead_0 : decode cX4_withAllAhead 0 = .ok (.iload_n 1, 1) := by decide +kernel
theorem dX4_withAllAhead_1 : decode cX4_withAllAhead 1 = .ok (.istore_n 2, 1) := by decide +kernel
theorem dX4_withAllAhead_2 : decode cX4_withAllAhead 2 = .ok (.iconst 0, 1) := by decide +kernel
theorem dX4_withAllAhead_3 : decode cX4_withAllAhead 3 = .ok (.istore_n 3, 1) := by decide +kernel
theorem dX4_withAllAhead_4 : decode cX4_withAllAhead 4 = .ok (.iload_n 3, 1) := by decide +kernel
theorem dX4_withAllAhead_5 : decode cX4_withAllAhead 5 = .ok (.bipush 12, 2) := by decide +kernel
theorem dX4_withAllAhead_7 : decode cX4_withAllAhead 7 = .ok (.if_icmp .ge 49, 3) := by decide +kernel
theorem dX4_withAllAhead_10 : decode cX4_withAllAhead 10 = .ok (.iconst 0, 1) := by decide +kernel
theorem dX4_withAllAhead_11 : decode cX4_withAllAhead 11 = .ok (.istore 4, 2) := by decide +kernel
theorem dX4_withAllAhead_13 : decode cX4_withAllAhead 13 = .ok (.iload 4, 2) := by decide +kernel
theorem dX4_withAllAhead_15 : decode cX4_withAllAhead 15 = .ok (.aload_n 0, 1) := by decide +kernel
theorem dX4_withAllAhead_16 : decode cX4_withAllAhead 16 = .ok (.getfield 63, 3) := by decide +kernel
theorem dX4_withAllAhead_19 : decode cX4_withAllAhead 19 = .ok (.if_icmp .ge 31, 3) := by decide +kernel
theorem dX4_withAllAhead_22 : decode cX4_withAllAhead 22 = .ok (.iload_n 2, 1) := by decide +kernel
theorem dX4_withAllAhead_23 : decode cX4_withAllAhead 23 = .ok (.iload 4, 2) := by decide +kernel
theorem dX4_withAllAhead_25 : decode cX4_withAllAhead 25 = .ok (.invokestatic 110, 3) := by decide +kernel
theorem dX4_withAllAhead_28 : decode cX4_withAllAhead 28 = .ok (.ifCond .eq 16, 3) := by decide +kernel
theorem dX4_withAllAhead_31 : decode cX4_withAllAhead 31 = .ok (.iload_n 2, 1) := by decide +kernel
theorem dX4_withAllAhead_32 : decode cX4_withAllAhead 32 = .ok (.aload_n 0, 1) := by decide +kernel
theorem dX4_withAllAhead_33 : decode cX4_withAllAhead 33 = .ok (.getfield 18, 3) := by decide +kernel
theorem dX4_withAllAhead_36 : decode cX4_withAllAhead 36 = .ok (.iload 4, 2) := by decide +kernel
theorem dX4_withAllAhead_38 : decode cX4_withAllAhead 38 = .ok (.aaload, 1) := by decide +kernel
theorem dX4_withAllAhead_39 : decode cX4_withAllAhead 39 = .ok (.getfield 250, 3) := by decide +kernel
theorem dX4_withAllAhead_42 : decode cX4_withAllAhead 42 = .ok (.ior, 1) := by decide +kernel
theorem dX4_withAllAhead_43 : decode cX4_withAllAhead 43 = .ok (.istore_n 2, 1) := by decide +kernel
theorem dX4_withAllAhead_44 : decode cX4_withAllAhead 44 = .ok (.iinc 4 1, 3) := by decide +kernel
theorem dX4_withAllAhead_47 : decode cX4_withAllAhead 47 = .ok (.goto (-34), 3) := by decide +kernel
theorem dX4_withAllAhead_50 : decode cX4_withAllAhead 50 = .ok (.iinc 3 1, 3) := by decide +kernel
theorem dX4_withAllAhead_53 : decode cX4_withAllAhead 53 = .ok (.goto (-49), 3) := by decide +kernel
theorem dX4_withAllAhead_56 : decode cX4_withAllAhead 56 = .ok (.iload_n 2, 1) := by decide +kernel
theorem dX4_withAllAhead_57 : decode cX4_withAllAhead 57 = .ok (.ireturn, 1) := by decide +kernel
theorem dX4_eachMayBeDone_0 : decode cX4_eachMayBeDone 0 = .ok (.iconst 0, 1) := by decide +kernel
theorem dX4_eachMayBeDone_1 : decode cX4_eachMayBeDone 1 = .ok (.istore_n 3, 1) := by decide +kernel
theorem dX4_eachMayBeDone_2 : decode cX4_eachMayBeDone 2 = .ok (.iload_n 3, 1) := by decide +kernel
theorem dX4_eachMayBeDone_3 : decode cX4_eachMayBeDone 3 = .ok (.bipush 12, 2) := by decide +kernel
theorem dX4_eachMayBeDone_5 : decode cX4_eachMayBeDone 5 = .ok (.if_icmp .ge 28, 3) := by decide +kernel
theorem dX4_eachMayBeDone_8 : decode cX4_eachMayBeDone 8 = .ok (.iload_n 2, 1) := by decide +kernel
theorem dX4_eachMayBeDone_9 : decode cX4_eachMayBeDone 9 = .ok (.iload_n 3, 1) := by decide +kernel
theorem dX4_eachMayBeDone_10 : decode cX4_eachMayBeDone 10 = .ok (.invokestatic 110, 3) := by decide +kernel
theorem dX4_eachMayBeDone_13 : decode cX4_eachMayBeDone 13 = .ok (.ifCond .eq 14, 3) := by decide +kernel
theorem dX4_eachMayBeDone_16 : decode cX4_eachMayBeDone 16 = .ok (.aload_n 0, 1) := by decide +kernel
theorem dX4_eachMayBeDone_17 : decode cX4_eachMayBeDone 17 = .ok (.aload_n 1, 1) := by decide +kernel
theorem dX4_eachMayBeDone_18 : decode cX4_eachMayBeDone 18 = .ok (.iload_n 3, 1) := by decide +kernel
theorem dX4_eachMayBeDone_19 : decode cX4_eachMayBeDone 19 = .ok (.invokevirtual 259, 3) := by decide +kernel
theorem dX4_eachMayBeDone_22 : decode cX4_eachMayBeDone 22 = .ok (.ifCond .ne 5, 3) := by decide +kernel
theorem dX4_eachMayBeDone_25 : decode cX4_eachMayBeDone 25 = .ok (.iconst 0, 1) := by decide +kernel
theorem dX4_eachMayBeDone_26 : decode cX4_eachMayBeDone 26 = .ok (.ireturn, 1) := by decide +kernel
theorem dX4_eachMayBeDone_27 : decode cX4_eachMayBeDone 27 = .ok (.iinc 3 1, 3) := by decide +kernel
theorem dX4_eachMayBeDone_30 : decode cX4_eachMayBeDone 30 = .ok (.goto (-28), 3) := by decide +kernel
theorem dX4_eachMayBeDone_33 : decode cX4_eachMayBeDone 33 = .ok (.iconst 1, 1) := by decide +kernel
theorem dX4_eachMayBeDone_34 : decode cX4_eachMayBeDone 34 = .ok (.ireturn, 1) := by decide +kernel
theorem dX4_mayBeDone_0 : decode cX4_mayBeDone 0 = .ok (.iload_n 2, 1) := by decide +kernel
theorem dX4_mayBeDone_1 : decode cX4_mayBeDone 1 = .ok (.aload_n 0, 1) := by decide +kernel
theorem dX4_mayBeDone_2 : decode cX4_mayBeDone 2 = .ok (.getfield 63, 3) := by decide +kernel
theorem dX4_mayBeDone_5 : decode cX4_mayBeDone 5 = .ok (.if_icmp .ge 41, 3) := by decide +kernel
theorem dX4_mayBeDone_8 : decode cX4_mayBeDone 8 = .ok (.aload_n 0, 1) := by decide +kernel
theorem dX4_mayBeDone_9 : decode cX4_mayBeDone 9 = .ok (.getfield 18, 3) := by decide +kernel
theorem dX4_mayBeDone_12 : decode cX4_mayBeDone 12 = .ok (.iload_n 2, 1) := by decide +kernel
theorem dX4_mayBeDone_13 : decode cX4_mayBeDone 13 = .ok (.aaload, 1) := by decide +kernel
theorem dX4_mayBeDone_14 : decode cX4_mayBeDone 14 = .ok (.getfield 227, 3) := by decide +kernel
theorem dX4_mayBeDone_17 : decode cX4_mayBeDone 17 = .ok (.aload_n 1, 1) := by decide +kernel
theorem dX4_mayBeDone_18 : decode cX4_mayBeDone 18 = .ok (.getfield 243, 3) := by decide +kernel
theorem dX4_mayBeDone_21 : decode cX4_mayBeDone 21 = .ok (.iand, 1) := by decide +kernel
theorem dX4_mayBeDone_22 : decode cX4_mayBeDone 22 = .ok (.ifCond .ne 24, 3) := by decide +kernel
theorem dX4_mayBeDone_25 : decode cX4_mayBeDone 25 = .ok (.aload_n 0, 1) := by decide +kernel
theorem dX4_mayBeDone_26 : decode cX4_mayBeDone 26 = .ok (.getfield 18, 3) := by decide +kernel
theorem dX4_mayBeDone_29 : decode cX4_mayBeDone 29 = .ok (.iload_n 2, 1) := by decide +kernel
theorem dX4_mayBeDone_30 : decode cX4_mayBeDone 30 = .ok (.aaload, 1) := by decide +kernel
theorem dX4_mayBeDone_31 : decode cX4_mayBeDone 31 = .ok (.getfield 233, 3) := by decide +kernel
theorem dX4_mayBeDone_34 : decode cX4_mayBeDone 34 = .ok (.aload_n 1, 1) := by decide +kernel
theorem dX4_mayBeDone_35 : decode cX4_mayBeDone 35 = .ok (.getfield 195, 3) := by decide +kernel
theorem dX4_mayBeDone_38 : decode cX4_mayBeDone 38 = .ok (.iand, 1) := by decide +kernel
theorem dX4_mayBeDone_39 : decode cX4_mayBeDone 39 = .ok (.ifCond .ne 7, 3) := by decide +kernel
theorem dX4_mayBeDone_42 : decode cX4_mayBeDone 42 = .ok (.iconst 1, 1) := by decide +kernel
theorem dX4_mayBeDone_43 : decode cX4_mayBeDone 43 = .ok (.goto 4, 3) := by decide +kernel
theorem dX4_mayBeDone_46 : decode cX4_mayBeDone 46 = .ok (.iconst 0, 1) := by decide +kernel
theorem dX4_mayBeDone_47 : decode cX4_mayBeDone 47 = .ok (.ireturn, 1) := by decide +kernel
theorem dX4_putInOrder_0 : decode cX4_putInOrder 0 = .ok (.iload_n 1, 1) := by decide +kernel
theorem dX4_putInOrder_1 : decode cX4_putInOrder 1 = .ok (.istore_n 3, 1) := by decide +kernel
theorem dX4_putInOrder_2 : decode cX4_putInOrder 2 = .ok (.iconst 0, 1) := by decide +kernel
theorem dX4_putInOrder_3 : decode cX4_putInOrder 3 = .ok (.istore 4, 2) := by decide +kernel
theorem dX4_putInOrder_5 : decode cX4_putInOrder 5 = .ok (.iload 4, 2) := by decide +kernel
theorem dX4_putInOrder_7 : decode cX4_putInOrder 7 = .ok (.iload_n 2, 1) := by decide +kernel
theorem dX4_putInOrder_8 : decode cX4_putInOrder 8 = .ok (.if_icmp .ge 48, 3) := by decide +kernel
theorem dX4_putInOrder_11 : decode cX4_putInOrder 11 = .ok (.iload 4, 2) := by decide +kernel
theorem dX4_putInOrder_13 : decode cX4_putInOrder 13 = .ok (.bipush 10, 2) := by decide +kernel
theorem dX4_putInOrder_15 : decode cX4_putInOrder 15 = .ok (.if_icmp .ge 41, 3) := by decide +kernel
theorem dX4_putInOrder_18 : decode cX4_putInOrder 18 = .ok (.aload_n 0, 1) := by decide +kernel
theorem dX4_putInOrder_19 : decode cX4_putInOrder 19 = .ok (.iload_n 3, 1) := by decide +kernel
theorem dX4_putInOrder_20 : decode cX4_putInOrder 20 = .ok (.invokevirtual 262, 3) := by decide +kernel
theorem dX4_putInOrder_23 : decode cX4_putInOrder 23 = .ok (.istore 5, 2) := by decide +kernel
theorem dX4_putInOrder_25 : decode cX4_putInOrder 25 = .ok (.iload 5, 2) := by decide +kernel
theorem dX4_putInOrder_27 : decode cX4_putInOrder 27 = .ok (.iconst (-1), 1) := by decide +kernel
theorem dX4_putInOrder_28 : decode cX4_putInOrder 28 = .ok (.if_icmp .ne 5, 3) := by decide +kernel
theorem dX4_putInOrder_31 : decode cX4_putInOrder 31 = .ok (.iconst 0, 1) := by decide +kernel
theorem dX4_putInOrder_32 : decode cX4_putInOrder 32 = .ok (.ireturn, 1) := by decide +kernel
theorem dX4_putInOrder_33 : decode cX4_putInOrder 33 = .ok (.aload_n 0, 1) := by decide +kernel
theorem dX4_putInOrder_34 : decode cX4_putInOrder 34 = .ok (.getfield 41, 3) := by decide +kernel
theorem dX4_putInOrder_37 : decode cX4_putInOrder 37 = .ok (.iload 4, 2) := by decide +kernel
theorem dX4_putInOrder_39 : decode cX4_putInOrder 39 = .ok (.iload 5, 2) := by decide +kernel
theorem dX4_putInOrder_41 : decode cX4_putInOrder 41 = .ok (.iastore, 1) := by decide +kernel
theorem dX4_putInOrder_42 : decode cX4_putInOrder 42 = .ok (.iload_n 3, 1) := by decide +kernel
theorem dX4_putInOrder_43 : decode cX4_putInOrder 43 = .ok (.iload 5, 2) := by decide +kernel
theorem dX4_putInOrder_45 : decode cX4_putInOrder 45 = .ok (.iconst 0, 1) := by decide +kernel
theorem dX4_putInOrder_46 : decode cX4_putInOrder 46 = .ok (.invokestatic 114, 3) := by decide +kernel
theorem dX4_putInOrder_49 : decode cX4_putInOrder 49 = .ok (.istore_n 3, 1) := by decide +kernel
theorem dX4_putInOrder_50 : decode cX4_putInOrder 50 = .ok (.iinc 4 1, 3) := by decide +kernel
theorem dX4_putInOrder_53 : decode cX4_putInOrder 53 = .ok (.goto (-48), 3) := by decide +kernel
theorem dX4_putInOrder_56 : decode cX4_putInOrder 56 = .ok (.iconst 1, 1) := by decide +kernel
theorem dX4_putInOrder_57 : decode cX4_putInOrder 57 = .ok (.ireturn, 1) := by decide +kernel
theorem dX4_lowestThatMayComeNext_0 : decode cX4_lowestThatMayComeNext 0 = .ok (.iconst 0, 1) := by decide +kernel
theorem dX4_lowestThatMayComeNext_1 : decode cX4_lowestThatMayComeNext 1 = .ok (.istore_n 2, 1) := by decide +kernel
theorem dX4_lowestThatMayComeNext_2 : decode cX4_lowestThatMayComeNext 2 = .ok (.iload_n 2, 1) := by decide +kernel
theorem dX4_lowestThatMayComeNext_3 : decode cX4_lowestThatMayComeNext 3 = .ok (.aload_n 0, 1) := by decide +kernel
theorem dX4_lowestThatMayComeNext_4 : decode cX4_lowestThatMayComeNext 4 = .ok (.getfield 63, 3) := by decide +kernel
theorem dX4_lowestThatMayComeNext_7 : decode cX4_lowestThatMayComeNext 7 = .ok (.if_icmp .ge 42, 3) := by decide +kernel
theorem dX4_lowestThatMayComeNext_10 : decode cX4_lowestThatMayComeNext 10 = .ok (.iload_n 1, 1) := by decide +kernel
theorem dX4_lowestThatMayComeNext_11 : decode cX4_lowestThatMayComeNext 11 = .ok (.iload_n 2, 1) := by decide +kernel
theorem dX4_lowestThatMayComeNext_12 : decode cX4_lowestThatMayComeNext 12 = .ok (.invokestatic 110, 3) := by decide +kernel
theorem dX4_lowestThatMayComeNext_15 : decode cX4_lowestThatMayComeNext 15 = .ok (.ifCond .eq 28, 3) := by decide +kernel
theorem dX4_lowestThatMayComeNext_18 : decode cX4_lowestThatMayComeNext 18 = .ok (.aload_n 0, 1) := by decide +kernel
theorem dX4_lowestThatMayComeNext_19 : decode cX4_lowestThatMayComeNext 19 = .ok (.getfield 18, 3) := by decide +kernel
theorem dX4_lowestThatMayComeNext_22 : decode cX4_lowestThatMayComeNext 22 = .ok (.iload_n 2, 1) := by decide +kernel
theorem dX4_lowestThatMayComeNext_23 : decode cX4_lowestThatMayComeNext 23 = .ok (.aaload, 1) := by decide +kernel
theorem dX4_lowestThatMayComeNext_24 : decode cX4_lowestThatMayComeNext 24 = .ok (.getfield 250, 3) := by decide +kernel
theorem dX4_lowestThatMayComeNext_27 : decode cX4_lowestThatMayComeNext 27 = .ok (.iload_n 1, 1) := by decide +kernel
theorem dX4_lowestThatMayComeNext_28 : decode cX4_lowestThatMayComeNext 28 = .ok (.iand, 1) := by decide +kernel
theorem dX4_lowestThatMayComeNext_29 : decode cX4_lowestThatMayComeNext 29 = .ok (.ifCond .ne 14, 3) := by decide +kernel
theorem dX4_lowestThatMayComeNext_32 : decode cX4_lowestThatMayComeNext 32 = .ok (.aload_n 0, 1) := by decide +kernel
theorem dX4_lowestThatMayComeNext_33 : decode cX4_lowestThatMayComeNext 33 = .ok (.iload_n 2, 1) := by decide +kernel
theorem dX4_lowestThatMayComeNext_34 : decode cX4_lowestThatMayComeNext 34 = .ok (.iload_n 1, 1) := by decide +kernel
theorem dX4_lowestThatMayComeNext_35 : decode cX4_lowestThatMayComeNext 35 = .ok (.invokevirtual 265, 3) := by decide +kernel
theorem dX4_lowestThatMayComeNext_38 : decode cX4_lowestThatMayComeNext 38 = .ok (.ifCond .ne 5, 3) := by decide +kernel
theorem dX4_lowestThatMayComeNext_41 : decode cX4_lowestThatMayComeNext 41 = .ok (.iload_n 2, 1) := by decide +kernel
theorem dX4_lowestThatMayComeNext_42 : decode cX4_lowestThatMayComeNext 42 = .ok (.ireturn, 1) := by decide +kernel
theorem dX4_lowestThatMayComeNext_43 : decode cX4_lowestThatMayComeNext 43 = .ok (.iinc 2 1, 3) := by decide +kernel
theorem dX4_lowestThatMayComeNext_46 : decode cX4_lowestThatMayComeNext 46 = .ok (.goto (-44), 3) := by decide +kernel
theorem dX4_lowestThatMayComeNext_49 : decode cX4_lowestThatMayComeNext 49 = .ok (.iconst (-1), 1) := by decide +kernel
theorem dX4_lowestThatMayComeNext_50 : decode cX4_lowestThatMayComeNext 50 = .ok (.ireturn, 1) := by decide +kernel
theorem dX4_hasToWait_0 : decode cX4_hasToWait 0 = .ok (.iconst 0, 1) := by decide +kernel
theorem dX4_hasToWait_1 : decode cX4_hasToWait 1 = .ok (.istore_n 3, 1) := by decide +kernel
theorem dX4_hasToWait_2 : decode cX4_hasToWait 2 = .ok (.iload_n 3, 1) := by decide +kernel
theorem dX4_hasToWait_3 : decode cX4_hasToWait 3 = .ok (.aload_n 0, 1) := by decide +kernel
theorem dX4_hasToWait_4 : decode cX4_hasToWait 4 = .ok (.getfield 63, 3) := by decide +kernel
theorem dX4_hasToWait_7 : decode cX4_hasToWait 7 = .ok (.if_icmp .ge 40, 3) := by decide +kernel
theorem dX4_hasToWait_10 : decode cX4_hasToWait 10 = .ok (.iload_n 3, 1) := by decide +kernel
theorem dX4_hasToWait_11 : decode cX4_hasToWait 11 = .ok (.iload_n 1, 1) := by decide +kernel
theorem dX4_hasToWait_12 : decode cX4_hasToWait 12 = .ok (.if_icmp .eq 29, 3) := by decide +kernel
theorem dX4_hasToWait_15 : decode cX4_hasToWait 15 = .ok (.iload_n 2, 1) := by decide +kernel
theorem dX4_hasToWait_16 : decode cX4_hasToWait 16 = .ok (.iload_n 3, 1) := by decide +kernel
theorem dX4_hasToWait_17 : decode cX4_hasToWait 17 = .ok (.invokestatic 110, 3) := by decide +kernel
theorem dX4_hasToWait_20 : decode cX4_hasToWait 20 = .ok (.ifCond .eq 21, 3) := by decide +kernel
theorem dX4_hasToWait_23 : decode cX4_hasToWait 23 = .ok (.aload_n 0, 1) := by decide +kernel
theorem dX4_hasToWait_24 : decode cX4_hasToWait 24 = .ok (.getfield 18, 3) := by decide +kernel
theorem dX4_hasToWait_27 : decode cX4_hasToWait 27 = .ok (.iload_n 3, 1) := by decide +kernel
theorem dX4_hasToWait_28 : decode cX4_hasToWait 28 = .ok (.aaload, 1) := by decide +kernel
theorem dX4_hasToWait_29 : decode cX4_hasToWait 29 = .ok (.getfield 233, 3) := by decide +kernel
theorem dX4_hasToWait_32 : decode cX4_hasToWait 32 = .ok (.iload_n 1, 1) := by decide +kernel
theorem dX4_hasToWait_33 : decode cX4_hasToWait 33 = .ok (.invokestatic 110, 3) := by decide +kernel
theorem dX4_hasToWait_36 : decode cX4_hasToWait 36 = .ok (.ifCond .eq 5, 3) := by decide +kernel
theorem dX4_hasToWait_39 : decode cX4_hasToWait 39 = .ok (.iconst 1, 1) := by decide +kernel
theorem dX4_hasToWait_40 : decode cX4_hasToWait 40 = .ok (.ireturn, 1) := by decide +kernel
theorem dX4_hasToWait_41 : decode cX4_hasToWait 41 = .ok (.iinc 3 1, 3) := by decide +kernel
theorem dX4_hasToWait_44 : decode cX4_hasToWait 44 = .ok (.goto (-42), 3) := by decide +kernel
theorem dX4_hasToWait_47 : decode cX4_hasToWait 47 = .ok (.iconst 0, 1) := by decide +kernel
theorem dX4_hasToWait_48 : decode cX4_hasToWait 48 = .ok (.ireturn, 1) := by decide +kernel
theorem dJ6_bitCount_0 : decode cJ6_bitCount 0 = .ok (.iload_n 0, 1) := by decide +kernel
theorem dJ6_bitCount_1 : decode cJ6_bitCount 1 = .ok (.iload_n 0, 1) := by decide +kernel
theorem dJ6_bitCount_2 : decode cJ6_bitCount 2 = .ok (.iconst 1, 1) := by decide +kernel
theorem dJ6_bitCount_3 : decode cJ6_bitCount 3 = .ok (.iushr, 1) := by decide +kernel
theorem dJ6_bitCount_4 : decode cJ6_bitCount 4 = .ok (.ldc_w 265, 3) := by decide +kernel
theorem dJ6_bitCount_7 : decode cJ6_bitCount 7 = .ok (.iand, 1) := by decide +kernel
theorem dJ6_bitCount_8 : decode cJ6_bitCount 8 = .ok (.isub, 1) := by decide +kernel
theorem dJ6_bitCount_9 : decode cJ6_bitCount 9 = .ok (.istore_n 0, 1) := by decide +kernel
theorem dJ6_bitCount_10 : decode cJ6_bitCount 10 = .ok (.iload_n 0, 1) := by decide +kernel
theorem dJ6_bitCount_11 : decode cJ6_bitCount 11 = .ok (.ldc_w 266, 3) := by decide +kernel
theorem dJ6_bitCount_14 : decode cJ6_bitCount 14 = .ok (.iand, 1) := by decide +kernel
theorem dJ6_bitCount_15 : decode cJ6_bitCount 15 = .ok (.iload_n 0, 1) := by decide +kernel
theorem dJ6_bitCount_16 : decode cJ6_bitCount 16 = .ok (.iconst 2, 1) := by decide +kernel
theorem dJ6_bitCount_17 : decode cJ6_bitCount 17 = .ok (.iushr, 1) := by decide +kernel
theorem dJ6_bitCount_18 : decode cJ6_bitCount 18 = .ok (.ldc_w 266, 3) := by decide +kernel
theorem dJ6_bitCount_21 : decode cJ6_bitCount 21 = .ok (.iand, 1) := by decide +kernel
theorem dJ6_bitCount_22 : decode cJ6_bitCount 22 = .ok (.iadd, 1) := by decide +kernel
theorem dJ6_bitCount_23 : decode cJ6_bitCount 23 = .ok (.istore_n 0, 1) := by decide +kernel
theorem dJ6_bitCount_24 : decode cJ6_bitCount 24 = .ok (.iload_n 0, 1) := by decide +kernel
theorem dJ6_bitCount_25 : decode cJ6_bitCount 25 = .ok (.iload_n 0, 1) := by decide +kernel
theorem dJ6_bitCount_26 : decode cJ6_bitCount 26 = .ok (.iconst 4, 1) := by decide +kernel
theorem dJ6_bitCount_27 : decode cJ6_bitCount 27 = .ok (.iushr, 1) := by decide +kernel
theorem dJ6_bitCount_28 : decode cJ6_bitCount 28 = .ok (.iadd, 1) := by decide +kernel
theorem dJ6_bitCount_29 : decode cJ6_bitCount 29 = .ok (.ldc_w 267, 3) := by decide +kernel
theorem dJ6_bitCount_32 : decode cJ6_bitCount 32 = .ok (.iand, 1) := by decide +kernel
theorem dJ6_bitCount_33 : decode cJ6_bitCount 33 = .ok (.istore_n 0, 1) := by decide +kernel
theorem dJ6_bitCount_34 : decode cJ6_bitCount 34 = .ok (.iload_n 0, 1) := by decide +kernel
theorem dJ6_bitCount_35 : decode cJ6_bitCount 35 = .ok (.iload_n 0, 1) := by decide +kernel
theorem dJ6_bitCount_36 : decode cJ6_bitCount 36 = .ok (.bipush 8, 2) := by decide +kernel
theorem dJ6_bitCount_38 : decode cJ6_bitCount 38 = .ok (.iushr, 1) := by decide +kernel
theorem dJ6_bitCount_39 : decode cJ6_bitCount 39 = .ok (.iadd, 1) := by decide +kernel
theorem dJ6_bitCount_40 : decode cJ6_bitCount 40 = .ok (.istore_n 0, 1) := by decide +kernel
theorem dJ6_bitCount_41 : decode cJ6_bitCount 41 = .ok (.iload_n 0, 1) := by decide +kernel
theorem dJ6_bitCount_42 : decode cJ6_bitCount 42 = .ok (.iload_n 0, 1) := by decide +kernel
theorem dJ6_bitCount_43 : decode cJ6_bitCount 43 = .ok (.bipush 16, 2) := by decide +kernel
theorem dJ6_bitCount_45 : decode cJ6_bitCount 45 = .ok (.iushr, 1) := by decide +kernel
theorem dJ6_bitCount_46 : decode cJ6_bitCount 46 = .ok (.iadd, 1) := by decide +kernel
theorem dJ6_bitCount_47 : decode cJ6_bitCount 47 = .ok (.istore_n 0, 1) := by decide +kernel
theorem dJ6_bitCount_48 : decode cJ6_bitCount 48 = .ok (.iload_n 0, 1) := by decide +kernel
theorem dJ6_bitCount_49 : decode cJ6_bitCount 49 = .ok (.bipush 63, 2) := by decide +kernel
theorem dJ6_bitCount_51 : decode cJ6_bitCount 51 = .ok (.iand, 1) := by decide +kernel
theorem dJ6_bitCount_52 : decode cJ6_bitCount 52 = .ok (.ireturn, 1) := by decide +kernel
end
section
set_option maxHeartbeats 4000000 in
set_option maxRecDepth 100000 in
theorem k_has (l : Launch) (p0 : Int32) (p1 : Int32) : Met l yX4_has wsX4_has { frames := 0, cells := 0, slots := 0, locals := 0 } (fun v _ => v = ([.int p0, .int p1] : List Value).toArray) (vp_Si (fun r => r = (M_has p0 p1))) 0 0 (fun _ => False) := by
  refine Met.ofW (cc := cX4_has) (maxL := 2) (ret := (some .boolean)) (by decide) rfl ?_
  intro p e s m args below meth c s₁ B hml hv
  obtain rfl := hv
  have hx := B.exec
  have hb := B.bytes
  have hr := B.returns
  have hts := atoms_spec (ws := wsX4_has) B.pre
  have hown : s.vm.findClass RX4 = some m.cls := findClass_of_methodNamed B.named
  have hlocks := B.notSynchronized
  have hl := lv_entry ([.int p0, .int p1]) (n := 2) (Nat.le_of_ble_eq_true rfl)
  rw [lg_entry_eq]
  generalize (lg_sl ([.int p0, .int p1]) ++ List.replicate (2 - (lg_sl ([.int p0, .int p1])).length) Slot.unset).toArray = ls at hl ⊢
  have hl : lv_has ls 2 [(0, .int p0), (1, .int p1)] := hl
  have CF : CallFix p m c cX4_has 2 s ([.int p0, .int p1] : List Value).toArray wsX4_has RX4 := ⟨hx, hb, hml, hown, hts⟩
  have ht : ∀ w ∈ T0, w.before ([.int p0, .int p1] : List Value).toArray s = true := fun w h => hts w (List.mem_cons_of_mem _ h)
  generalize hT : M_has p0 p1 = T
  rw [M_has] at hT
  refine lv_iload_n hx hb dX4_has_0 rfl (lv_at hl 0 rfl) ?_
  refine lv_iload_n hx hb dX4_has_1 rfl (lv_at hl 1 rfl) ?_
  refine lv_iushr hx hb dX4_has_2 rfl ?_
  refine lv_iconst (v := 1) hx hb dX4_has_3 (by decide) ?_
  refine lv_iand hx hb dX4_has_4 ?_
  refine lv_iconst (v := 1) hx hb dX4_has_5 (by decide) ?_
  refine lv_icmp_ne (tgt := 13) hx hb dX4_has_6 (by decide) (fun c1 => ?_) (fun c1 => ?_)
  · rw [if_neg c1] at hT
    refine lv_iconst (v := 0) hx hb dX4_has_13 (by decide) ?_
    exact W.zret (v := 0) hx hb hr rfl (fun t ht hW => ⟨0, rfl, hT, ht⟩) t_nil dX4_has_14
  · rw [if_pos c1] at hT
    refine lv_iconst (v := 1) hx hb dX4_has_9 (by decide) ?_
    refine lv_goto (tgt := 14) hx hb dX4_has_10 (by decide) ?_
    exact W.zret (v := 1) hx hb hr rfl (fun t ht hW => ⟨1, rfl, hT, ht⟩) t_nil dX4_has_14
set_option maxHeartbeats 4000000 in
set_option maxRecDepth 100000 in
theorem k_with (l : Launch) (p0 : Int32) (p1 : Int32) (p2 : Int32) : Met l yX4_with wsX4_with { frames := 0, cells := 0, slots := 0, locals := 0 } (fun v _ => v = ([.int p0, .int p1, .int p2] : List Value).toArray) (vp_Si (fun r => r = (M_with p0 p1 p2))) 0 0 (fun _ => False) := by
  refine Met.ofW (cc := cX4_with) (maxL := 3) (ret := (some .int)) (by decide) rfl ?_
  intro p e s m args below meth c s₁ B hml hv
  obtain rfl := hv
  have hx := B.exec
  have hb := B.bytes
  have hr := B.returns
  have hts := atoms_spec (ws := wsX4_with) B.pre
  have hown : s.vm.findClass RX4 = some m.cls := findClass_of_methodNamed B.named
  have hlocks := B.notSynchronized
  have hl := lv_entry ([.int p0, .int p1, .int p2]) (n := 3) (Nat.le_of_ble_eq_true rfl)
  rw [lg_entry_eq]
  generalize (lg_sl ([.int p0, .int p1, .int p2]) ++ List.replicate (3 - (lg_sl ([.int p0, .int p1, .int p2])).length) Slot.unset).toArray = ls at hl ⊢
  have hl : lv_has ls 3 [(0, .int p0), (1, .int p1), (2, .int p2)] := hl
  have CF : CallFix p m c cX4_with 3 s ([.int p0, .int p1, .int p2] : List Value).toArray wsX4_with RX4 := ⟨hx, hb, hml, hown, hts⟩
  have ht : ∀ w ∈ T0, w.before ([.int p0, .int p1, .int p2] : List Value).toArray s = true := fun w h => hts w (List.mem_cons_of_mem _ h)
  generalize hT : M_with p0 p1 p2 = T
  rw [M_with] at hT
  refine lv_iload_n hx hb dX4_with_0 rfl (lv_at hl 2 rfl) ?_
  refine lv_if_eq (tgt := 12) hx hb dX4_with_1 (by decide) (fun c1 => ?_) (fun c1 => ?_)
  · rw [if_pos c1] at hT
    refine lv_iload_n hx hb dX4_with_12 rfl (lv_at hl 0 rfl) ?_
    refine lv_iconst (v := 1) hx hb dX4_with_13 (by decide) ?_
    refine lv_iload_n hx hb dX4_with_14 rfl (lv_at hl 1 rfl) ?_
    refine lv_ishl hx hb dX4_with_15 ?_
    refine lv_iconst (v := (-1)) hx hb dX4_with_16 (by decide) ?_
    refine lv_ixor hx hb dX4_with_17 ?_
    refine lv_iand hx hb dX4_with_18 ?_
    exact W.iret (v := p0 &&& (((1 : Int32) <<< (p1 &&& 31)) ^^^ (-1))) hx hb hr (fun t ht hW => ⟨p0 &&& (((1 : Int32) <<< (p1 &&& 31)) ^^^ (-1)), rfl, hT, ht⟩) t_nil dX4_with_19
  · rw [if_neg c1] at hT
    refine lv_iload_n hx hb dX4_with_4 rfl (lv_at hl 0 rfl) ?_
    refine lv_iconst (v := 1) hx hb dX4_with_5 (by decide) ?_
    refine lv_iload_n hx hb dX4_with_6 rfl (lv_at hl 1 rfl) ?_
    refine lv_ishl hx hb dX4_with_7 ?_
    refine lv_ior hx hb dX4_with_8 ?_
    refine lv_goto (tgt := 19) hx hb dX4_with_9 (by decide) ?_
    exact W.iret (v := p0 ||| ((1 : Int32) <<< (p1 &&& 31))) hx hb hr (fun t ht hW => ⟨p0 ||| ((1 : Int32) <<< (p1 &&& 31)), rfl, hT, ht⟩) t_nil dX4_with_19
set_option maxHeartbeats 4000000 in
set_option maxRecDepth 100000 in
theorem k_lowest (l : Launch) (p0 : Int32) : Met l yX4_lowest wsX4_lowest { frames := 1, cells := 0, slots := 0, locals := 21 } (fun v _ => v = ([.int p0] : List Value).toArray) (vp_Si (fun r => r = (M_lowest p0))) 0 0 (fun _ => False) := by
  refine Met.ofW (cc := cX4_lowest) (maxL := 2) (ret := (some .int)) (by decide) rfl ?_
  intro p e s m args below meth c s₁ B hml hv
  obtain rfl := hv
  have hx := B.exec
  have hb := B.bytes
  have hr := B.returns
  have hts := atoms_spec (ws := wsX4_lowest) B.pre
  have hown : s.vm.findClass RX4 = some m.cls := findClass_of_methodNamed B.named
  have hlocks := B.notSynchronized
  have hl := lv_entry ([.int p0]) (n := 2) (Nat.le_of_ble_eq_true rfl)
  rw [lg_entry_eq]
  generalize (lg_sl ([.int p0]) ++ List.replicate (2 - (lg_sl ([.int p0])).length) Slot.unset).toArray = ls at hl ⊢
  have hl : lv_has ls 2 [(0, .int p0)] := hl
  have CF : CallFix p m c cX4_lowest 2 s ([.int p0] : List Value).toArray wsX4_lowest RX4 := ⟨hx, hb, hml, hown, hts⟩
  have ht : ∀ w ∈ T0, w.before ([.int p0] : List Value).toArray s = true := fun w h => hts w (List.mem_cons_of_mem _ h)
  generalize hT : M_lowest p0 = T
  refine namedQ (fun Q eQ => ?_)
  have L_2 : ∀ (n i102 : Nat) (ls : Array Slot), i102 ≤ 12 → 13 ≤ i102 + n → lv_has ls 2 [(0, .int p0), (1, .int (nI i102))] → M_lowest_h2 n i102 p0 = T → W p l e (headSpec wsX4_lowest { frames := 1, cells := 0, slots := 0, locals := 21 }).room s m ([.int p0] : List Value).toArray below meth c s.heap [] 0 0 Q (F0 m 2 ls []) := by
    intro n
    induction n with
    | zero =>
      intro i102 ls h_le h_fu hl hT
      exact absurd h_fu (by omega)
    | succ n ih =>
      intro i102 ls h_le h_fu hl hT
      rw [M_lowest_h2] at hT
      refine lv_iload_n hx hb dX4_lowest_2 rfl (lv_at hl 1 rfl) ?_
      refine lv_bipush (v := 12) hx hb dX4_lowest_3 (by decide) ?_
      refine lv_icmp_ge (tgt := 24) hx hb dX4_lowest_5 (by decide) (fun c1 => ?_) (fun c1 => ?_)
      · rw [if_pos c1] at hT
        refine lv_iconst (v := (-1)) hx hb dX4_lowest_24 (by decide) ?_
        rw [eQ]
        exact W.iret (v := (-1)) hx hb hr (fun t ht hW => ⟨(-1), rfl, hT, ht⟩) t_nil dX4_lowest_25
      · rw [if_neg c1] at hT
        have h_lt := lp_lt (N := 12) (by decide) (by decide) h_le c1
        refine lv_iload_n hx hb dX4_lowest_8 rfl (lv_at hl 0 rfl) ?_
        refine lv_iload_n hx hb dX4_lowest_9 rfl (lv_at hl 1 rfl) ?_
        refine vp_callSi (W.runS (As := [.int p0, .int (nI i102)]) (rest := []) CF (k_has l p0 (nI i102)) ⟨callB_of 2 hts (gT mw_402) rfl rfl rfl (ht _ mw_1) (ht _ mw_400) (by decide +kernel) ⟨Nat.le_of_ble_eq_true rfl, Nat.le_of_ble_eq_true rfl⟩, (ht _ mw_401)⟩ preEq rfl rfl hl.1 rfl (lv_room (Nat.le_of_ble_eq_true rfl)) dX4_lowest_10 ⟨Nat.le_of_ble_eq_true rfl, Nat.le_of_ble_eq_true rfl⟩) (fun r2 h_r2 => ?_)
        obtain rfl := h_r2
        refine lv_if_eq (tgt := 18) hx hb dX4_lowest_13 (by decide) (fun c3 => ?_) (fun c3 => ?_)
        · rw [if_pos c3] at hT
          refine lv_iinc (v := nI (i102 + 1)) (lv' := [(1, .int (nI (i102 + 1))), (0, .int p0)]) hx hb dX4_lowest_18 hl (k := 1) rfl (nI_1 i102) (by decide) rfl (fun ls hl => ?_)
          refine lv_goto (tgt := 2) hx hb dX4_lowest_21 (by decide) ?_
          exact ih  (i102 + 1) ls h_lt (by omega) (lv_sub hl [1, 0] rfl) hT
        · rw [if_neg c3] at hT
          refine lv_iload_n hx hb dX4_lowest_16 rfl (lv_at hl 1 rfl) ?_
          rw [eQ]
          exact W.iret (v := nI i102) hx hb hr (fun t ht hW => ⟨nI i102, rfl, hT, ht⟩) t_nil dX4_lowest_17
  rw [M_lowest] at hT
  refine lv_iconst (v := 0) hx hb dX4_lowest_0 (by decide) ?_
  refine lv_istore_n (lv' := [(1, .int 0), (0, .int p0)]) hx hb dX4_lowest_1 rfl hl (by decide) rfl (fun ls hl => ?_)
  exact L_2 13 0 ls (Nat.zero_le _) (by decide) (lv_sub hl [1, 0] rfl) hT
set_option maxHeartbeats 4000000 in
set_option maxRecDepth 100000 in
theorem k_isDigit (l : Launch) (p0 : Int32) : Met l yX2_isDigit wsX2_isDigit { frames := 0, cells := 0, slots := 0, locals := 0 } (fun v _ => v = ([.int p0] : List Value).toArray) (vp_Si (fun r => r = (M_isDigit p0))) 0 0 (fun _ => False) := by
  refine Met.ofW (cc := cX2_isDigit) (maxL := 1) (ret := (some .boolean)) (by decide) rfl ?_
  intro p e s m args below meth c s₁ B hml hv
  obtain rfl := hv
  have hx := B.exec
  have hb := B.bytes
  have hr := B.returns
  have hts := atoms_spec (ws := wsX2_isDigit) B.pre
  have hown : s.vm.findClass RX2 = some m.cls := findClass_of_methodNamed B.named
  have hlocks := B.notSynchronized
  have hl := lv_entry ([.int p0]) (n := 1) (Nat.le_of_ble_eq_true rfl)
  rw [lg_entry_eq]
  generalize (lg_sl ([.int p0]) ++ List.replicate (1 - (lg_sl ([.int p0])).length) Slot.unset).toArray = ls at hl ⊢
  have hl : lv_has ls 1 [(0, .int p0)] := hl
  have CF : CallFix p m c cX2_isDigit 1 s ([.int p0] : List Value).toArray wsX2_isDigit RX2 := ⟨hx, hb, hml, hown, hts⟩
  have ht : ∀ w ∈ T0, w.before ([.int p0] : List Value).toArray s = true := fun w h => hts w (List.mem_cons_of_mem _ h)
  generalize hT : M_isDigit p0 = T
  rw [M_isDigit] at hT
  refine lv_iload_n hx hb dX2_isDigit_0 rfl (lv_at hl 0 rfl) ?_
  refine lv_bipush (v := 48) hx hb dX2_isDigit_1 (by decide) ?_
  refine lv_icmp_lt (tgt := 16) hx hb dX2_isDigit_3 (by decide) (fun c1 => ?_) (fun c1 => ?_)
  · rw [if_pos c1] at hT
    refine lv_iconst (v := 0) hx hb dX2_isDigit_16 (by decide) ?_
    exact W.zret (v := 0) hx hb hr rfl (fun t ht hW => ⟨0, rfl, hT, ht⟩) t_nil dX2_isDigit_17
  · rw [if_neg c1] at hT
    refine lv_iload_n hx hb dX2_isDigit_6 rfl (lv_at hl 0 rfl) ?_
    refine lv_bipush (v := 57) hx hb dX2_isDigit_7 (by decide) ?_
    refine lv_icmp_gt (tgt := 16) hx hb dX2_isDigit_9 (by decide) (fun c2 => ?_) (fun c2 => ?_)
    · rw [if_pos c2] at hT
      refine lv_iconst (v := 0) hx hb dX2_isDigit_16 (by decide) ?_
      exact W.zret (v := 0) hx hb hr rfl (fun t ht hW => ⟨0, rfl, hT, ht⟩) t_nil dX2_isDigit_17
    · rw [if_neg c2] at hT
      refine lv_iconst (v := 1) hx hb dX2_isDigit_12 (by decide) ?_
      refine lv_goto (tgt := 17) hx hb dX2_isDigit_13 (by decide) ?_
      exact W.zret (v := 1) hx hb hr rfl (fun t ht hW => ⟨1, rfl, hT, ht⟩) t_nil dX2_isDigit_17
set_option maxHeartbeats 4000000 in
set_option maxRecDepth 100000 in
theorem k_checkPlace (l : Launch) (hl9 : l.stackTraces = false) (D : va_G) (ad : Nat → Nat) (kk : Nat → ClassId) (sz : Nat) (σ : St) (p0 : Int32) (p1 : Int32) : vx_Met l yX4_checkPlace wsX4_checkPlace { frames := 6, cells := 1, slots := 6, locals := 90 } (va_Pc [.int p0, .int p1] (PB D ad kk sz σ)) (va_Qv (fun u => .ok () = M_checkPlace σ p0 p1 ∧ u = σ) (QB D ad kk sz) (aL 96 ad sz)) (XB (M_checkPlace σ p0 p1) D ad kk sz σ) 1 6 (aL 96 ad sz) := by
  refine vx_ofW (cc := cX4_checkPlace) (maxL := 2) (ret := none) (by decide) rfl ?_
  intro p e s m args below meth c s₁ B hml hEx hv
  obtain ⟨rfl, hsz, hP, hK, hD0, hE⟩ := hv
  have hx := B.exec
  have hb := B.bytes
  have hr := B.returns
  have hts := atoms_spec (ws := wsX4_checkPlace) B.pre
  have hown : s.vm.findClass RX4 = some m.cls := findClass_of_methodNamed B.named
  have hlocks := B.notSynchronized
  subst hsz
  have hD : va_D (aL 96 ad s.heap.size) (wB ad kk σ) := aL_D hD0
  have hS : va_S (aL 96 ad s.heap.size) s.heap s.heap [] := va_S.rf
  have hl := lv_entry ([.int p0, .int p1]) (n := 2) (Nat.le_of_ble_eq_true rfl)
  rw [lg_entry_eq]
  generalize (lg_sl ([.int p0, .int p1]) ++ List.replicate (2 - (lg_sl ([.int p0, .int p1])).length) Slot.unset).toArray = ls at hl ⊢
  have hl : lv_has ls 2 [(0, .int p0), (1, .int p1)] := hl
  have CF : CallFix p m c cX4_checkPlace 2 s ([.int p0, .int p1] : List Value).toArray wsX4_checkPlace RX4 := ⟨hx, hb, hml, hown, hts⟩
  have ht : ∀ w ∈ T0, w.before ([.int p0, .int p1] : List Value).toArray s = true := fun w h => hts w (List.mem_cons_of_mem _ h)
  generalize hT : M_checkPlace σ p0 p1 = T
  rw [M_checkPlace] at hT
  refine lv_iload_n hx hb dX4_checkPlace_0 rfl (lv_at hl 0 rfl) ?_
  refine lv_if_lt (tgt := 9) hx hb dX4_checkPlace_1 (by decide) (fun c1 => ?_) (fun c1 => ?_)
  · rw [if_pos c1] at hT
    exact vx_throwS (own := RX4) (cls := "java/lang/IndexOutOfBoundsException") (names := th_n) hx hb hl9 hown thf_IndexOutOfBoundsException thf_n (ht _ mw_352) (ht _ mw_13) (hE.str (own := RX4) (k := 223) (tx := "no such place") (by decide +kernel)).choose_spec (vx_hat (B := th_B "java/lang/IndexOutOfBoundsException") (fun w hw => ht w (thw_IndexOutOfBoundsException w hw)) thb_IndexOutOfBoundsException (hE.th (by decide +kernel))) (thg_IndexOutOfBoundsException _) hE.1 hE.2.1 hS (hl.1.trans hml.symm) dX4_checkPlace_9 dX4_checkPlace_12 dX4_checkPlace_13 dX4_checkPlace_15 dX4_checkPlace_18 (fun x hx => (hEx x hx).elim) (Nat.le_of_ble_eq_true rfl) (Nat.le_of_ble_eq_true rfl) (Nat.le_of_ble_eq_true rfl) (Nat.le_of_ble_eq_true rfl) hlocks (fun t ha hsz hk => xB_end hT hK hP hD hS ha hsz hk) hS.2.2 (by decide) (by decide)
  · rw [if_neg c1] at hT
    refine lv_iload_n hx hb dX4_checkPlace_4 rfl (lv_at hl 0 rfl) ?_
    refine lv_iload_n hx hb dX4_checkPlace_5 rfl (lv_at hl 1 rfl) ?_
    refine lv_icmp_lt (tgt := 19) hx hb dX4_checkPlace_6 (by decide) (fun c2 => ?_) (fun c2 => ?_)
    · rw [if_pos c2] at hT
      refine W.widen (k := 1) (n := 6) (by decide) (by decide) ?_
      exact vx_ret (W.vret hx hb hr (fun t ht hW => ⟨⟨σ, rfl, ⟨hT, rfl⟩, by rw [ht]; exact hP, va_K.moved hW.alike hK, hD⟩, hS.F ht⟩) hS.2.2 dX4_checkPlace_19)
    · rw [if_neg c2] at hT
      exact vx_throwS (own := RX4) (cls := "java/lang/IndexOutOfBoundsException") (names := th_n) hx hb hl9 hown thf_IndexOutOfBoundsException thf_n (ht _ mw_352) (ht _ mw_13) (hE.str (own := RX4) (k := 223) (tx := "no such place") (by decide +kernel)).choose_spec (vx_hat (B := th_B "java/lang/IndexOutOfBoundsException") (fun w hw => ht w (thw_IndexOutOfBoundsException w hw)) thb_IndexOutOfBoundsException (hE.th (by decide +kernel))) (thg_IndexOutOfBoundsException _) hE.1 hE.2.1 hS (hl.1.trans hml.symm) dX4_checkPlace_9 dX4_checkPlace_12 dX4_checkPlace_13 dX4_checkPlace_15 dX4_checkPlace_18 (fun x hx => (hEx x hx).elim) (Nat.le_of_ble_eq_true rfl) (Nat.le_of_ble_eq_true rfl) (Nat.le_of_ble_eq_true rfl) (Nat.le_of_ble_eq_true rfl) hlocks (fun t ha hsz hk => xB_end hT hK hP hD hS ha hsz hk) hS.2.2 (by decide) (by decide)
set_option maxHeartbeats 4000000 in
set_option maxRecDepth 100000 in
theorem k_checkHour (l : Launch) (hl9 : l.stackTraces = false) (D : va_G) (ad : Nat → Nat) (kk : Nat → ClassId) (sz : Nat) (σ : St) (p0 : Int32) (p1 : Int32) : vx_Met l yX4_checkHour wsX4_checkHour { frames := 6, cells := 1, slots := 6, locals := 90 } (va_Pc [.int p0, .int p1] (PB D ad kk sz σ)) (va_Qv (fun u => .ok () = M_checkHour σ p0 p1 ∧ u = σ) (QB D ad kk sz) (aL 96 ad sz)) (XB (M_checkHour σ p0 p1) D ad kk sz σ) 1 6 (aL 96 ad sz) := by
  refine vx_ofW (cc := cX4_checkHour) (maxL := 2) (ret := none) (by decide) rfl ?_
  intro p e s m args below meth c s₁ B hml hEx hv
  obtain ⟨rfl, hsz, hP, hK, hD0, hE⟩ := hv
  have hx := B.exec
  have hb := B.bytes
  have hr := B.returns
  have hts := atoms_spec (ws := wsX4_checkHour) B.pre
  have hown : s.vm.findClass RX4 = some m.cls := findClass_of_methodNamed B.named
  have hlocks := B.notSynchronized
  subst hsz
  have hD : va_D (aL 96 ad s.heap.size) (wB ad kk σ) := aL_D hD0
  have hS : va_S (aL 96 ad s.heap.size) s.heap s.heap [] := va_S.rf
  have hl := lv_entry ([.int p0, .int p1]) (n := 2) (Nat.le_of_ble_eq_true rfl)
  rw [lg_entry_eq]
  generalize (lg_sl ([.int p0, .int p1]) ++ List.replicate (2 - (lg_sl ([.int p0, .int p1])).length) Slot.unset).toArray = ls at hl ⊢
  have hl : lv_has ls 2 [(0, .int p0), (1, .int p1)] := hl
  have CF : CallFix p m c cX4_checkHour 2 s ([.int p0, .int p1] : List Value).toArray wsX4_checkHour RX4 := ⟨hx, hb, hml, hown, hts⟩
  have ht : ∀ w ∈ T0, w.before ([.int p0, .int p1] : List Value).toArray s = true := fun w h => hts w (List.mem_cons_of_mem _ h)
  generalize hT : M_checkHour σ p0 p1 = T
  rw [M_checkHour] at hT
  refine lv_iload_n hx hb dX4_checkHour_0 rfl (lv_at hl 0 rfl) ?_
  refine lv_iload_n hx hb dX4_checkHour_1 rfl (lv_at hl 1 rfl) ?_
  refine lv_icmp_lt (tgt := 11) hx hb dX4_checkHour_2 (by decide) (fun c1 => ?_) (fun c1 => ?_)
  · rw [if_pos c1] at hT
    exact vx_throwS (own := RX4) (cls := "java/lang/IllegalArgumentException") (names := th_n) hx hb hl9 hown thf_IllegalArgumentException thf_n (ht _ mw_264) (ht _ mw_11) (hE.str (own := RX4) (k := 225) (tx := "hour") (by decide +kernel)).choose_spec (vx_hat (B := th_B "java/lang/IllegalArgumentException") (fun w hw => ht w (thw_IllegalArgumentException w hw)) thb_IllegalArgumentException (hE.th (by decide +kernel))) (thg_IllegalArgumentException _) hE.1 hE.2.1 hS (hl.1.trans hml.symm) dX4_checkHour_11 dX4_checkHour_14 dX4_checkHour_15 dX4_checkHour_17 dX4_checkHour_20 (fun x hx => (hEx x hx).elim) (Nat.le_of_ble_eq_true rfl) (Nat.le_of_ble_eq_true rfl) (Nat.le_of_ble_eq_true rfl) (Nat.le_of_ble_eq_true rfl) hlocks (fun t ha hsz hk => xB_end hT hK hP hD hS ha hsz hk) hS.2.2 (by decide) (by decide)
  · rw [if_neg c1] at hT
    refine lv_iload_n hx hb dX4_checkHour_5 rfl (lv_at hl 0 rfl) ?_
    refine lv_ldc (v := 1000000) hx hb hown (ht _ mw_421) dX4_checkHour_6 ?_
    refine lv_icmp_le (tgt := 21) hx hb dX4_checkHour_8 (by decide) (fun c2 => ?_) (fun c2 => ?_)
    · rw [if_pos c2] at hT
      refine W.widen (k := 1) (n := 6) (by decide) (by decide) ?_
      exact vx_ret (W.vret hx hb hr (fun t ht hW => ⟨⟨σ, rfl, ⟨hT, rfl⟩, by rw [ht]; exact hP, va_K.moved hW.alike hK, hD⟩, hS.F ht⟩) hS.2.2 dX4_checkHour_21)
    · rw [if_neg c2] at hT
      exact vx_throwS (own := RX4) (cls := "java/lang/IllegalArgumentException") (names := th_n) hx hb hl9 hown thf_IllegalArgumentException thf_n (ht _ mw_264) (ht _ mw_11) (hE.str (own := RX4) (k := 225) (tx := "hour") (by decide +kernel)).choose_spec (vx_hat (B := th_B "java/lang/IllegalArgumentException") (fun w hw => ht w (thw_IllegalArgumentException w hw)) thb_IllegalArgumentException (hE.th (by decide +kernel))) (thg_IllegalArgumentException _) hE.1 hE.2.1 hS (hl.1.trans hml.symm) dX4_checkHour_11 dX4_checkHour_14 dX4_checkHour_15 dX4_checkHour_17 dX4_checkHour_20 (fun x hx => (hEx x hx).elim) (Nat.le_of_ble_eq_true rfl) (Nat.le_of_ble_eq_true rfl) (Nat.le_of_ble_eq_true rfl) (Nat.le_of_ble_eq_true rfl) hlocks (fun t ha hsz hk => xB_end hT hK hP hD hS ha hsz hk) hS.2.2 (by decide) (by decide)
set_option maxHeartbeats 4000000 in
set_option maxRecDepth 100000 in
theorem k_methodAt (l : Launch) (hl9 : l.stackTraces = false) (D : va_G) (ad : Nat → Nat) (kk : Nat → ClassId) (sz : Nat) (σ : St) (p1 : Int32) (hI : IB σ) : vx_Met l yX4_methodAt wsX4_methodAt { frames := 7, cells := 1, slots := 6, locals := 111 } (va_Pc [.ref (ad 0), .int p1] (PB D ad kk sz σ)) (va_Qq (fun r u => ∃ i, r = some (ad (pMe i)) ∧ .ok i = M_methodAt σ p1 ∧ u = σ) (QB D ad kk sz) (aL 96 ad sz)) (XB (M_methodAt σ p1) D ad kk sz σ) 1 6 (aL 96 ad sz) := by
  refine vx_ofW (cc := cX4_methodAt) (maxL := 2) (ret := (some (.object "MaterialBars$Method"))) (by decide) rfl ?_
  intro p e s m args below meth c s₁ B hml hEx hv
  obtain ⟨rfl, hsz, hP, hK, hD0, hE⟩ := hv
  have hx := B.exec
  have hb := B.bytes
  have hr := B.returns
  have hts := atoms_spec (ws := wsX4_methodAt) B.pre
  have hown : s.vm.findClass RX4 = some m.cls := findClass_of_methodNamed B.named
  have hlocks := B.notSynchronized
  subst hsz
  have hD : va_D (aL 96 ad s.heap.size) (wB ad kk σ) := aL_D hD0
  have hS : va_S (aL 96 ad s.heap.size) s.heap s.heap [] := va_S.rf
  have hl := lv_entry ([.ref (ad 0), .int p1]) (n := 2) (Nat.le_of_ble_eq_true rfl)
  rw [lg_entry_eq]
  generalize (lg_sl ([.ref (ad 0), .int p1]) ++ List.replicate (2 - (lg_sl ([.ref (ad 0), .int p1])).length) Slot.unset).toArray = ls at hl ⊢
  have hl : lv_has ls 2 [(0, .ref (ad 0)), (1, .int p1)] := hl
  have CF : CallFix p m c cX4_methodAt 2 s ([.ref (ad 0), .int p1] : List Value).toArray wsX4_methodAt RX4 := ⟨hx, hb, hml, hown, hts⟩
  have ht : ∀ w ∈ T0, w.before ([.ref (ad 0), .int p1] : List Value).toArray s = true := fun w h => hts w (List.mem_cons_of_mem _ h)
  generalize hT : M_methodAt σ p1 = T
  rw [M_methodAt] at hT
  refine lv_iload_n hx hb dX4_methodAt_0 rfl (lv_at hl 1 rfl) ?_
  refine lv_aload_n hx hb dX4_methodAt_1 rfl (lv_at hl 0 rfl) ?_
  refine va_get (D := D) (ci := 4) (v := .int (gF σ 0 6)) (C := RX4) (T := TX4) (N := 9) hx hb ht inX4 hown hK hP 0 g_MB rfl 6 (by decide) (ht _ mw_165) (fun _ h9 => h9) rfl dX4_methodAt_2 ?_
  refine kX_v (vx_runS (As := [.int p1, .int (gF σ 0 6)]) (rest := []) CF (k_checkPlace l hl9 D ad kk _ σ p1 (gF σ 0 6)) ⟨callB_of 2 hts (gT mw_351) rfl rfl rfl (ht _ mw_1) (ht _ mw_349) (by decide +kernel) ⟨Nat.le_of_ble_eq_true rfl, Nat.le_of_ble_eq_true rfl⟩, (ht _ mw_350)⟩ (preS_B hK hP hD hE hS) rfl rfl hl.1 rfl (lv_room (Nat.le_of_ble_eq_true rfl)) dX4_methodAt_5 ⟨Nat.le_of_ble_eq_true rfl, Nat.le_of_ble_eq_true rfl⟩) hS hEx hlocks (by decide) (by decide) (fun E h => by rw [← h, xb_er] at hT; exact hT) (fun u9 H locs hw hP hD hS => ?_)
  obtain ⟨h_r1, e9⟩ := hw
  rw [e9] at hP hD
  rw [← h_r1, xb_ok] at hT
  have hk := h_r1
  refine lv_aload_n hx hb dX4_methodAt_8 rfl (lv_at hl 0 rfl) ?_
  refine va_get (D := D) (ci := 4) (v := .ref (ad 3)) (C := RX4) (T := TX4) (N := 9) hx hb ht inX4 hown hK hP 0 g_MB rfl 1 (by decide) (ht _ mw_160) (fun _ h9 => h9) rfl dX4_methodAt_9 ?_
  refine lv_iload_n hx hb dX4_methodAt_12 rfl (lv_at hl 1 rfl) ?_
  refine va_aldq (i := p1) hx hb hK hP 3 1 g_methods rfl (vin_chk hk hI.mc) dX4_methodAt_13 ?_
  refine W.eq (g2 := F0 m 14 ls (.ref (ad (pMe p1.toNatClampNeg)) :: [])) rfl ?_
  exact vx_ret (W.aret (v := .ref (ad (pMe p1.toNatClampNeg))) hx hb hr (Or.inl ⟨_, rfl⟩) (Or.inr ⟨_, rfl⟩) (fun t ht hW => ⟨⟨some (ad (pMe p1.toNatClampNeg)), σ, rfl, ⟨p1.toNatClampNeg, rfl, hT, rfl⟩, by rw [ht]; exact hP, va_K.moved hW.alike hK, hD⟩, hS.F ht⟩) hS.2.2 dX4_methodAt_14)
set_option maxHeartbeats 4000000 in
set_option maxRecDepth 100000 in
theorem k_pieceAt (l : Launch) (hl9 : l.stackTraces = false) (D : va_G) (ad : Nat → Nat) (kk : Nat → ClassId) (sz : Nat) (σ : St) (p1 : Int32) (hI : IB σ) : vx_Met l yX4_pieceAt wsX4_pieceAt { frames := 7, cells := 1, slots := 6, locals := 111 } (va_Pc [.ref (ad 0), .int p1] (PB D ad kk sz σ)) (va_Qq (fun r u => ∃ i, r = some (ad (pPi i)) ∧ .ok i = M_pieceAt σ p1 ∧ u = σ) (QB D ad kk sz) (aL 96 ad sz)) (XB (M_pieceAt σ p1) D ad kk sz σ) 1 6 (aL 96 ad sz) := by
  refine vx_ofW (cc := cX4_pieceAt) (maxL := 2) (ret := (some (.object "MaterialBars$Piece"))) (by decide) rfl ?_
  intro p e s m args below meth c s₁ B hml hEx hv
  obtain ⟨rfl, hsz, hP, hK, hD0, hE⟩ := hv
  have hx := B.exec
  have hb := B.bytes
  have hr := B.returns
  have hts := atoms_spec (ws := wsX4_pieceAt) B.pre
  have hown : s.vm.findClass RX4 = some m.cls := findClass_of_methodNamed B.named
  have hlocks := B.notSynchronized
  subst hsz
  have hD : va_D (aL 96 ad s.heap.size) (wB ad kk σ) := aL_D hD0
  have hS : va_S (aL 96 ad s.heap.size) s.heap s.heap [] := va_S.rf
  have hl := lv_entry ([.ref (ad 0), .int p1]) (n := 2) (Nat.le_of_ble_eq_true rfl)
  rw [lg_entry_eq]
  generalize (lg_sl ([.ref (ad 0), .int p1]) ++ List.replicate (2 - (lg_sl ([.ref (ad 0), .int p1])).length) Slot.unset).toArray = ls at hl ⊢
  have hl : lv_has ls 2 [(0, .ref (ad 0)), (1, .int p1)] := hl
  have CF : CallFix p m c cX4_pieceAt 2 s ([.ref (ad 0), .int p1] : List Value).toArray wsX4_pieceAt RX4 := ⟨hx, hb, hml, hown, hts⟩
  have ht : ∀ w ∈ T0, w.before ([.ref (ad 0), .int p1] : List Value).toArray s = true := fun w h => hts w (List.mem_cons_of_mem _ h)
  generalize hT : M_pieceAt σ p1 = T
  rw [M_pieceAt] at hT
  refine lv_iload_n hx hb dX4_pieceAt_0 rfl (lv_at hl 1 rfl) ?_
  refine lv_aload_n hx hb dX4_pieceAt_1 rfl (lv_at hl 0 rfl) ?_
  refine va_get (D := D) (ci := 4) (v := .int (gF σ 0 7)) (C := RX4) (T := TX4) (N := 9) hx hb ht inX4 hown hK hP 0 g_MB rfl 7 (by decide) (ht _ mw_166) (fun _ h9 => h9) rfl dX4_pieceAt_2 ?_
  refine kX_v (vx_runS (As := [.int p1, .int (gF σ 0 7)]) (rest := []) CF (k_checkPlace l hl9 D ad kk _ σ p1 (gF σ 0 7)) ⟨callB_of 2 hts (gT mw_351) rfl rfl rfl (ht _ mw_1) (ht _ mw_349) (by decide +kernel) ⟨Nat.le_of_ble_eq_true rfl, Nat.le_of_ble_eq_true rfl⟩, (ht _ mw_350)⟩ (preS_B hK hP hD hE hS) rfl rfl hl.1 rfl (lv_room (Nat.le_of_ble_eq_true rfl)) dX4_pieceAt_5 ⟨Nat.le_of_ble_eq_true rfl, Nat.le_of_ble_eq_true rfl⟩) hS hEx hlocks (by decide) (by decide) (fun E h => by rw [← h, xb_er] at hT; exact hT) (fun u9 H locs hw hP hD hS => ?_)
  obtain ⟨h_r1, e9⟩ := hw
  rw [e9] at hP hD
  rw [← h_r1, xb_ok] at hT
  have hk := h_r1
  refine lv_aload_n hx hb dX4_pieceAt_8 rfl (lv_at hl 0 rfl) ?_
  refine va_get (D := D) (ci := 4) (v := .ref (ad 40)) (C := RX4) (T := TX4) (N := 9) hx hb ht inX4 hown hK hP 0 g_MB rfl 2 (by decide) (ht _ mw_161) (fun _ h9 => h9) rfl dX4_pieceAt_9 ?_
  refine lv_iload_n hx hb dX4_pieceAt_12 rfl (lv_at hl 1 rfl) ?_
  refine va_aldq (i := p1) hx hb hK hP 40 2 g_pieces rfl (vin_chk hk hI.pc) dX4_pieceAt_13 ?_
  refine W.eq (g2 := F0 m 14 ls (.ref (ad (pPi p1.toNatClampNeg)) :: [])) rfl ?_
  exact vx_ret (W.aret (v := .ref (ad (pPi p1.toNatClampNeg))) hx hb hr (Or.inl ⟨_, rfl⟩) (Or.inr ⟨_, rfl⟩) (fun t ht hW => ⟨⟨some (ad (pPi p1.toNatClampNeg)), σ, rfl, ⟨p1.toNatClampNeg, rfl, hT, rfl⟩, by rw [ht]; exact hP, va_K.moved hW.alike hK, hD⟩, hS.F ht⟩) hS.2.2 dX4_pieceAt_14)
set_option maxHeartbeats 4000000 in
set_option maxRecDepth 100000 in
theorem k_goodAt (l : Launch) (hl9 : l.stackTraces = false) (D : va_G) (ad : Nat → Nat) (kk : Nat → ClassId) (sz : Nat) (σ : St) (p1 : Int32) : vx_Met l yX4_goodAt wsX4_goodAt { frames := 7, cells := 1, slots := 6, locals := 111 } (va_Pc [.ref (ad 0), .int p1] (PB D ad kk sz σ)) (va_Qq (fun r u => ∃ i, r = some (ad (pGo i)) ∧ .ok i = M_goodAt σ p1 ∧ u = σ) (QB D ad kk sz) (aL 96 ad sz)) (XB (M_goodAt σ p1) D ad kk sz σ) 1 6 (aL 96 ad sz) := by
  refine vx_ofW (cc := cX4_goodAt) (maxL := 2) (ret := (some (.object "MaterialBars$Good"))) (by decide) rfl ?_
  intro p e s m args below meth c s₁ B hml hEx hv
  obtain ⟨rfl, hsz, hP, hK, hD0, hE⟩ := hv
  have hx := B.exec
  have hb := B.bytes
  have hr := B.returns
  have hts := atoms_spec (ws := wsX4_goodAt) B.pre
  have hown : s.vm.findClass RX4 = some m.cls := findClass_of_methodNamed B.named
  have hlocks := B.notSynchronized
  subst hsz
  have hD : va_D (aL 96 ad s.heap.size) (wB ad kk σ) := aL_D hD0
  have hS : va_S (aL 96 ad s.heap.size) s.heap s.heap [] := va_S.rf
  have hl := lv_entry ([.ref (ad 0), .int p1]) (n := 2) (Nat.le_of_ble_eq_true rfl)
  rw [lg_entry_eq]
  generalize (lg_sl ([.ref (ad 0), .int p1]) ++ List.replicate (2 - (lg_sl ([.ref (ad 0), .int p1])).length) Slot.unset).toArray = ls at hl ⊢
  have hl : lv_has ls 2 [(0, .ref (ad 0)), (1, .int p1)] := hl
  have CF : CallFix p m c cX4_goodAt 2 s ([.ref (ad 0), .int p1] : List Value).toArray wsX4_goodAt RX4 := ⟨hx, hb, hml, hown, hts⟩
  have ht : ∀ w ∈ T0, w.before ([.ref (ad 0), .int p1] : List Value).toArray s = true := fun w h => hts w (List.mem_cons_of_mem _ h)
  generalize hT : M_goodAt σ p1 = T
  rw [M_goodAt] at hT
  refine lv_iload_n hx hb dX4_goodAt_0 rfl (lv_at hl 1 rfl) ?_
  refine lv_bipush (v := 12) hx hb dX4_goodAt_1 (by decide) ?_
  refine kX_v (vx_runS (As := [.int p1, .int 12]) (rest := []) CF (k_checkPlace l hl9 D ad kk _ σ p1 12) ⟨callB_of 2 hts (gT mw_351) rfl rfl rfl (ht _ mw_1) (ht _ mw_349) (by decide +kernel) ⟨Nat.le_of_ble_eq_true rfl, Nat.le_of_ble_eq_true rfl⟩, (ht _ mw_350)⟩ (preS_B hK hP hD hE hS) rfl rfl hl.1 rfl (lv_room (Nat.le_of_ble_eq_true rfl)) dX4_goodAt_3 ⟨Nat.le_of_ble_eq_true rfl, Nat.le_of_ble_eq_true rfl⟩) hS hEx hlocks (by decide) (by decide) (fun E h => by rw [← h, xb_er] at hT; exact hT) (fun u9 H locs hw hP hD hS => ?_)
  obtain ⟨h_r1, e9⟩ := hw
  rw [e9] at hP hD
  rw [← h_r1, xb_ok] at hT
  have hk := h_r1
  refine lv_aload_n hx hb dX4_goodAt_6 rfl (lv_at hl 0 rfl) ?_
  refine va_get (D := D) (ci := 4) (v := .ref (ad 81)) (C := RX4) (T := TX4) (N := 9) hx hb ht inX4 hown hK hP 0 g_MB rfl 3 (by decide) (ht _ mw_162) (fun _ h9 => h9) rfl dX4_goodAt_7 ?_
  refine lv_iload_n hx hb dX4_goodAt_10 rfl (lv_at hl 1 rfl) ?_
  refine va_aldq (i := p1) hx hb hK hP 81 3 g_goods rfl (vin_chk (N := 12) hk (by decide)) dX4_goodAt_11 ?_
  refine W.eq (g2 := F0 m 12 ls (.ref (ad (pGo p1.toNatClampNeg)) :: [])) rfl ?_
  exact vx_ret (W.aret (v := .ref (ad (pGo p1.toNatClampNeg))) hx hb hr (Or.inl ⟨_, rfl⟩) (Or.inr ⟨_, rfl⟩) (fun t ht hW => ⟨⟨some (ad (pGo p1.toNatClampNeg)), σ, rfl, ⟨p1.toNatClampNeg, rfl, hT, rfl⟩, by rw [ht]; exact hP, va_K.moved hW.alike hK, hD⟩, hS.F ht⟩) hS.2.2 dX4_goodAt_12)
set_option maxHeartbeats 4000000 in
set_option maxRecDepth 100000 in
theorem k_changeBy (l : Launch) (D : va_G) (ad : Nat → Nat) (kk : Nat → ClassId) (sz : Nat) (σ : St) (i0 : Nat) (p1 : Int32) (h0 : i0 < 12) : Met l yX0_changeBy wsX0_changeBy { frames := 0, cells := 0, slots := 0, locals := 0 } (va_Pc [.ref (ad (pGo i0)), .int p1] (PB D ad kk sz σ)) (va_Qv (fun u => u = M_changeBy σ i0 p1) (QB D ad kk sz) (aL 96 ad sz)) 0 0 (aL 96 ad sz) := by
  refine Met.ofW (cc := cX0_changeBy) (maxL := 2) (ret := none) (by decide) rfl ?_
  intro p e s m args below meth c s₁ B hml hv
  obtain ⟨rfl, hsz, hP, hK, hD0, hE⟩ := hv
  have hx := B.exec
  have hb := B.bytes
  have hr := B.returns
  have hts := atoms_spec (ws := wsX0_changeBy) B.pre
  have hown : s.vm.findClass RX0 = some m.cls := findClass_of_methodNamed B.named
  have hlocks := B.notSynchronized
  subst hsz
  have hD : va_D (aL 96 ad s.heap.size) (wB ad kk σ) := aL_D hD0
  have hS : va_S (aL 96 ad s.heap.size) s.heap s.heap [] := va_S.rf
  have hl := lv_entry ([.ref (ad (pGo i0)), .int p1]) (n := 2) (Nat.le_of_ble_eq_true rfl)
  rw [lg_entry_eq]
  generalize (lg_sl ([.ref (ad (pGo i0)), .int p1]) ++ List.replicate (2 - (lg_sl ([.ref (ad (pGo i0)), .int p1])).length) Slot.unset).toArray = ls at hl ⊢
  have hl : lv_has ls 2 [(0, .ref (ad (pGo i0))), (1, .int p1)] := hl
  have CF : CallFix p m c cX0_changeBy 2 s ([.ref (ad (pGo i0)), .int p1] : List Value).toArray wsX0_changeBy RX0 := ⟨hx, hb, hml, hown, hts⟩
  have ht : ∀ w ∈ T0, w.before ([.ref (ad (pGo i0)), .int p1] : List Value).toArray s = true := fun w h => hts w (List.mem_cons_of_mem _ h)
  generalize hT : M_changeBy σ i0 p1 = T
  rw [M_changeBy] at hT
  refine lv_aload_n hx hb dX0_changeBy_0 rfl (lv_at hl 0 rfl) ?_
  refine lv_dup hx hb dX0_changeBy_1 rfl ?_
  refine va_get (D := D) (ci := 0) (v := .int (gF σ (pGo i0) 0)) (C := RX0) (T := TX0) (N := 5) hx hb ht inX0 hown hK hP (pGo i0) (g_Go h0) rfl 0 (by decide) (ht _ mw_139) (fun _ h9 => h9) rfl dX0_changeBy_2 ?_
  refine lv_iload_n hx hb dX0_changeBy_5 rfl (lv_at hl 1 rfl) ?_
  refine lv_iadd hx hb dX0_changeBy_6 ?_
  refine va_put (D := D) (ci := 0) (v := .int ((gF σ (pGo i0) 0) + p1)) (ty := .int) (C := RX0) (T := TX0) (N := 5) hx hb ht inX0 tyX0 tyX0_ok nmX0 hown hK hP hD hS (pGo i0) (g_Go h0) rfl 0 (by decide) (ht _ mw_139) (fun _ h9 => h9) rfl (by decide +kernel) rfl rfl (Nat.le_of_ble_eq_true rfl) dX0_changeBy_7 (fun H locs hP hD hS => ?_)
  rw [s_Go_0 h0] at hP hD
  refine lv_iload_n hx hb dX0_changeBy_10 rfl (lv_at hl 1 rfl) ?_
  refine lv_if_le (tgt := 28) hx hb dX0_changeBy_11 (by decide) (fun c1 => ?_) (fun c1 => ?_)
  · rw [if_pos c1] at hT
    refine lv_aload_n hx hb dX0_changeBy_28 rfl (lv_at hl 0 rfl) ?_
    refine lv_dup hx hb dX0_changeBy_29 rfl ?_
    refine va_get (D := D) (ci := 0) (v := .long (gL (sF σ (pGo i0) 0 ((gF σ (pGo i0) 0) + p1)) (pGo i0) 2)) (C := RX0) (T := TX0) (N := 5) hx hb ht inX0 hown hK hP (pGo i0) (g_Go h0) rfl 2 (by decide) (ht _ mw_143) (fun _ h9 => h9) rfl dX0_changeBy_30 ?_
    refine lv_iload_n hx hb dX0_changeBy_33 rfl (lv_at hl 1 rfl) ?_
    refine lv_i2l hx hb dX0_changeBy_34 rfl ?_
    refine lv_lsub hx hb dX0_changeBy_35 ?_
    refine va_put (D := D) (ci := 0) (v := .long ((gL (sF σ (pGo i0) 0 ((gF σ (pGo i0) 0) + p1)) (pGo i0) 2) - p1.toInt64)) (ty := .long) (C := RX0) (T := TX0) (N := 5) hx hb ht inX0 tyX0 tyX0_ok nmX0 hown hK hP hD hS (pGo i0) (g_Go h0) rfl 2 (by decide) (ht _ mw_143) (fun _ h9 => h9) rfl (by decide +kernel) rfl rfl (Nat.le_of_ble_eq_true rfl) dX0_changeBy_36 (fun H locs hP hD hS => ?_)
    rw [s_Go_2 h0] at hP hD
    exact W.vret hx hb hr (fun t ht hW => ⟨⟨(sL (sF σ (pGo i0) 0 ((gF σ (pGo i0) 0) + p1)) (pGo i0) 2 ((gL (sF σ (pGo i0) 0 ((gF σ (pGo i0) 0) + p1)) (pGo i0) 2) - p1.toInt64)), rfl, hT, by rw [ht]; exact hP, va_K.moved hW.alike hK, hD⟩, hS.F ht⟩) hS.2.2 dX0_changeBy_39
  · rw [if_neg c1] at hT
    refine lv_aload_n hx hb dX0_changeBy_14 rfl (lv_at hl 0 rfl) ?_
    refine lv_dup hx hb dX0_changeBy_15 rfl ?_
    refine va_get (D := D) (ci := 0) (v := .long (gL (sF σ (pGo i0) 0 ((gF σ (pGo i0) 0) + p1)) (pGo i0) 1)) (C := RX0) (T := TX0) (N := 5) hx hb ht inX0 hown hK hP (pGo i0) (g_Go h0) rfl 1 (by decide) (ht _ mw_141) (fun _ h9 => h9) rfl dX0_changeBy_16 ?_
    refine lv_iload_n hx hb dX0_changeBy_19 rfl (lv_at hl 1 rfl) ?_
    refine lv_i2l hx hb dX0_changeBy_20 rfl ?_
    refine lv_ladd hx hb dX0_changeBy_21 ?_
    refine va_put (D := D) (ci := 0) (v := .long ((gL (sF σ (pGo i0) 0 ((gF σ (pGo i0) 0) + p1)) (pGo i0) 1) + p1.toInt64)) (ty := .long) (C := RX0) (T := TX0) (N := 5) hx hb ht inX0 tyX0 tyX0_ok nmX0 hown hK hP hD hS (pGo i0) (g_Go h0) rfl 1 (by decide) (ht _ mw_141) (fun _ h9 => h9) rfl (by decide +kernel) rfl rfl (Nat.le_of_ble_eq_true rfl) dX0_changeBy_22 (fun H locs hP hD hS => ?_)
    rw [s_Go_1 h0] at hP hD
    refine lv_goto (tgt := 39) hx hb dX0_changeBy_25 (by decide) ?_
    exact W.vret hx hb hr (fun t ht hW => ⟨⟨(sL (sF σ (pGo i0) 0 ((gF σ (pGo i0) 0) + p1)) (pGo i0) 1 ((gL (sF σ (pGo i0) 0 ((gF σ (pGo i0) 0) + p1)) (pGo i0) 1) + p1.toInt64)), rfl, hT, by rw [ht]; exact hP, va_K.moved hW.alike hK, hD⟩, hS.F ht⟩) hS.2.2 dX0_changeBy_39
set_option maxHeartbeats 4000000 in
set_option maxRecDepth 100000 in
theorem k_clear (l : Launch) (D : va_G) (ad : Nat → Nat) (kk : Nat → ClassId) (sz : Nat) (σ : St) (i0 : Nat) (h0 : i0 < 12) : Met l yX1_clear wsX1_clear { frames := 0, cells := 0, slots := 0, locals := 0 } (va_Pc [.ref (ad (pMe i0))] (PB D ad kk sz σ)) (va_Qv (fun u => u = M_clear σ i0) (QB D ad kk sz) (aL 96 ad sz)) 0 0 (aL 96 ad sz) := by
  refine Met.ofW (cc := cX1_clear) (maxL := 2) (ret := none) (by decide) rfl ?_
  intro p e s m args below meth c s₁ B hml hv
  obtain ⟨rfl, hsz, hP, hK, hD0, hE⟩ := hv
  have hx := B.exec
  have hb := B.bytes
  have hr := B.returns
  have hts := atoms_spec (ws := wsX1_clear) B.pre
  have hown : s.vm.findClass RX1 = some m.cls := findClass_of_methodNamed B.named
  have hlocks := B.notSynchronized
  subst hsz
  have hD : va_D (aL 96 ad s.heap.size) (wB ad kk σ) := aL_D hD0
  have hS : va_S (aL 96 ad s.heap.size) s.heap s.heap [] := va_S.rf
  have hl := lv_entry ([.ref (ad (pMe i0))]) (n := 2) (Nat.le_of_ble_eq_true rfl)
  rw [lg_entry_eq]
  generalize (lg_sl ([.ref (ad (pMe i0))]) ++ List.replicate (2 - (lg_sl ([.ref (ad (pMe i0))])).length) Slot.unset).toArray = ls at hl ⊢
  have hl : lv_has ls 2 [(0, .ref (ad (pMe i0)))] := hl
  have CF : CallFix p m c cX1_clear 2 s ([.ref (ad (pMe i0))] : List Value).toArray wsX1_clear RX1 := ⟨hx, hb, hml, hown, hts⟩
  have ht : ∀ w ∈ T0, w.before ([.ref (ad (pMe i0))] : List Value).toArray s = true := fun w h => hts w (List.mem_cons_of_mem _ h)
  generalize hT : M_clear σ i0 = T
  refine namedQ (fun Q eQ => ?_)
  have L_23 : ∀ (n i123 : Nat) (τ23 : St) (H : Heap) (locs : List Loc) (ls : Array Slot), i123 ≤ 12 → 13 ≤ i123 + n → va_P D vwCl (wB ad kk τ23) H → va_D (aL 96 ad s.heap.size) (wB ad kk τ23) → va_S (aL 96 ad s.heap.size) s.heap H locs → lv_has ls 2 [(0, .ref (ad (pMe i0))), (1, .int (nI i123))] → M_clear_h23 n i123 τ23 i0 = T → W p l e (headSpec wsX1_clear { frames := 0, cells := 0, slots := 0, locals := 0 }).room s m ([.ref (ad (pMe i0))] : List Value).toArray below meth c H locs 0 0 Q (F0 m 23 ls []) := by
    intro n
    induction n with
    | zero =>
      intro i123 τ23 H locs ls h_le h_fu hP hD hS hl hT
      exact absurd h_fu (by omega)
    | succ n ih =>
      intro i123 τ23 H locs ls h_le h_fu hP hD hS hl hT
      rw [M_clear_h23] at hT
      refine lv_iload_n hx hb dX1_clear_23 rfl (lv_at hl 1 rfl) ?_
      refine lv_bipush (v := 12) hx hb dX1_clear_24 (by decide) ?_
      refine lv_icmp_ge (tgt := 42) hx hb dX1_clear_26 (by decide) (fun c2 => ?_) (fun c2 => ?_)
      · rw [if_pos c2] at hT
        refine lv_aload_n hx hb dX1_clear_42 rfl (lv_at hl 0 rfl) ?_
        refine lv_iconst (v := 0) hx hb dX1_clear_43 (by decide) ?_
        refine va_put (D := D) (ci := 1) (v := .int 0) (ty := .int) (C := RX1) (T := TX1) (N := 9) hx hb ht inX1 tyX1 tyX1_ok nmX1 hown hK hP hD hS (pMe i0) (g_Me h0) rfl 2 (by decide) (ht _ mw_57) (fun _ h9 => h9) rfl (by decide +kernel) rfl rfl (Nat.le_of_ble_eq_true rfl) dX1_clear_44 (fun H locs hP hD hS => ?_)
        rw [s_Me_2 h0] at hP hD
        refine lv_aload_n hx hb dX1_clear_47 rfl (lv_at hl 0 rfl) ?_
        refine lv_iconst (v := 0) hx hb dX1_clear_48 (by decide) ?_
        refine va_put (D := D) (ci := 1) (v := .int 0) (ty := .int) (C := RX1) (T := TX1) (N := 9) hx hb ht inX1 tyX1 tyX1_ok nmX1 hown hK hP hD hS (pMe i0) (g_Me h0) rfl 3 (by decide) (ht _ mw_60) (fun _ h9 => h9) rfl (by decide +kernel) rfl rfl (Nat.le_of_ble_eq_true rfl) dX1_clear_49 (fun H locs hP hD hS => ?_)
        rw [s_Me_3 h0] at hP hD
        refine lv_aload_n hx hb dX1_clear_52 rfl (lv_at hl 0 rfl) ?_
        refine lv_iconst (v := 0) hx hb dX1_clear_53 (by decide) ?_
        refine va_put (D := D) (ci := 1) (v := .int 0) (ty := .int) (C := RX1) (T := TX1) (N := 9) hx hb ht inX1 tyX1 tyX1_ok nmX1 hown hK hP hD hS (pMe i0) (g_Me h0) rfl 4 (by decide) (ht _ mw_63) (fun _ h9 => h9) rfl (by decide +kernel) rfl rfl (Nat.le_of_ble_eq_true rfl) dX1_clear_54 (fun H locs hP hD hS => ?_)
        rw [s_Me_4 h0] at hP hD
        refine lv_aload_n hx hb dX1_clear_57 rfl (lv_at hl 0 rfl) ?_
        refine lv_iconst (v := 0) hx hb dX1_clear_58 (by decide) ?_
        refine va_put (D := D) (ci := 1) (v := .int 0) (ty := .boolean) (C := RX1) (T := TX1) (N := 9) hx hb ht inX1 tyX1 tyX1_ok nmX1 hown hK hP hD hS (pMe i0) (g_Me h0) rfl 5 (by decide) (ht _ mw_66) (fun _ h9 => h9) rfl (by decide +kernel) rfl rfl (Nat.le_of_ble_eq_true rfl) dX1_clear_59 (fun H locs hP hD hS => ?_)
        rw [s_Me_5 h0] at hP hD
        refine lv_aload_n hx hb dX1_clear_62 rfl (lv_at hl 0 rfl) ?_
        refine lv_iconst (v := 0) hx hb dX1_clear_63 (by decide) ?_
        refine va_put (D := D) (ci := 1) (v := .int 0) (ty := .boolean) (C := RX1) (T := TX1) (N := 9) hx hb ht inX1 tyX1 tyX1_ok nmX1 hown hK hP hD hS (pMe i0) (g_Me h0) rfl 6 (by decide) (ht _ mw_69) (fun _ h9 => h9) rfl (by decide +kernel) rfl rfl (Nat.le_of_ble_eq_true rfl) dX1_clear_64 (fun H locs hP hD hS => ?_)
        rw [s_Me_6 h0] at hP hD
        rw [eQ]
        exact W.vret hx hb hr (fun t ht hW => ⟨⟨(sF (sF (sF (sF (sF τ23 (pMe i0) 2 0) (pMe i0) 3 0) (pMe i0) 4 0) (pMe i0) 5 0) (pMe i0) 6 0), rfl, hT, by rw [ht]; exact hP, va_K.moved hW.alike hK, hD⟩, hS.F ht⟩) hS.2.2 dX1_clear_67
      · rw [if_neg c2] at hT
        have h_lt := lp_lt (N := 12) (by decide) (by decide) h_le c2
        refine lv_aload_n hx hb dX1_clear_29 rfl (lv_at hl 0 rfl) ?_
        refine va_get (D := D) (ci := 1) (v := .ref (ad (pMe i0 + 2))) (C := RX1) (T := TX1) (N := 9) hx hb ht inX1 hown hK hP (pMe i0) (g_Me h0) rfl 1 (by decide) (ht _ mw_54) (fun _ h9 => h9) rfl dX1_clear_30 ?_
        refine lv_iload_n hx hb dX1_clear_33 rfl (lv_at hl 1 rfl) ?_
        refine lv_iconst (v := 0) hx hb dX1_clear_34 (by decide) ?_
        refine va_iast (i := nI i123) (x := 0) hx hb hK hP hD hS (pMe i0 + 2) 0 (g_Mh h0) rfl (vp_in_nI h_lt (by decide)) dX1_clear_35 (fun H locs hP hD hS => ?_)
        rw [nI_clamp (n := i123) (by omega)] at hP hD
        rw [s_Mh h0] at hP hD
        refine lv_iinc (v := nI (i123 + 1)) (lv' := [(1, .int (nI (i123 + 1))), (0, .ref (ad (pMe i0)))]) hx hb dX1_clear_36 hl (k := 1) rfl (nI_1 i123) (by decide) rfl (fun ls hl => ?_)
        refine lv_goto (tgt := 23) hx hb dX1_clear_39 (by decide) ?_
        exact ih  (i123 + 1) (sA τ23 (pMe i0 + 2) i123 0) _ _ ls h_lt (by omega) hP hD hS (lv_sub hl [1, 0] rfl) hT
  have L_2 : ∀ (n i102 : Nat) (τ2 : St) (H : Heap) (locs : List Loc) (ls : Array Slot), i102 ≤ 12 → 13 ≤ i102 + n → va_P D vwCl (wB ad kk τ2) H → va_D (aL 96 ad s.heap.size) (wB ad kk τ2) → va_S (aL 96 ad s.heap.size) s.heap H locs → lv_has ls 2 [(0, .ref (ad (pMe i0))), (1, .int (nI i102))] → M_clear_h2 n i102 τ2 i0 = T → W p l e (headSpec wsX1_clear { frames := 0, cells := 0, slots := 0, locals := 0 }).room s m ([.ref (ad (pMe i0))] : List Value).toArray below meth c H locs 0 0 Q (F0 m 2 ls []) := by
    intro n
    induction n with
    | zero =>
      intro i102 τ2 H locs ls h_le h_fu hP hD hS hl hT
      exact absurd h_fu (by omega)
    | succ n ih =>
      intro i102 τ2 H locs ls h_le h_fu hP hD hS hl hT
      rw [M_clear_h2] at hT
      refine lv_iload_n hx hb dX1_clear_2 rfl (lv_at hl 1 rfl) ?_
      refine lv_bipush (v := 12) hx hb dX1_clear_3 (by decide) ?_
      refine lv_icmp_ge (tgt := 21) hx hb dX1_clear_5 (by decide) (fun c1 => ?_) (fun c1 => ?_)
      · rw [if_pos c1] at hT
        refine lv_iconst (v := 0) hx hb dX1_clear_21 (by decide) ?_
        refine lv_istore_n (lv' := [(1, .int 0), (0, .ref (ad (pMe i0)))]) hx hb dX1_clear_22 rfl hl (by decide) rfl (fun ls hl => ?_)
        exact L_23 13 0 τ2 _ _ ls (Nat.zero_le _) (by decide) hP hD hS (lv_sub hl [1, 0] rfl) hT
      · rw [if_neg c1] at hT
        have h_lt := lp_lt (N := 12) (by decide) (by decide) h_le c1
        refine lv_aload_n hx hb dX1_clear_8 rfl (lv_at hl 0 rfl) ?_
        refine va_get (D := D) (ci := 1) (v := .ref (ad (pMe i0 + 1))) (C := RX1) (T := TX1) (N := 9) hx hb ht inX1 hown hK hP (pMe i0) (g_Me h0) rfl 0 (by decide) (ht _ mw_51) (fun _ h9 => h9) rfl dX1_clear_9 ?_
        refine lv_iload_n hx hb dX1_clear_12 rfl (lv_at hl 1 rfl) ?_
        refine lv_iconst (v := 0) hx hb dX1_clear_13 (by decide) ?_
        refine va_iast (i := nI i102) (x := 0) hx hb hK hP hD hS (pMe i0 + 1) 0 (g_Ma h0) rfl (vp_in_nI h_lt (by decide)) dX1_clear_14 (fun H locs hP hD hS => ?_)
        rw [nI_clamp (n := i102) (by omega)] at hP hD
        rw [s_Ma h0] at hP hD
        refine lv_iinc (v := nI (i102 + 1)) (lv' := [(1, .int (nI (i102 + 1))), (0, .ref (ad (pMe i0)))]) hx hb dX1_clear_15 hl (k := 1) rfl (nI_1 i102) (by decide) rfl (fun ls hl => ?_)
        refine lv_goto (tgt := 2) hx hb dX1_clear_18 (by decide) ?_
        exact ih  (i102 + 1) (sA τ2 (pMe i0 + 1) i102 0) _ _ ls h_lt (by omega) hP hD hS (lv_sub hl [1, 0] rfl) hT
  rw [M_clear] at hT
  refine lv_iconst (v := 0) hx hb dX1_clear_0 (by decide) ?_
  refine lv_istore_n (lv' := [(1, .int 0), (0, .ref (ad (pMe i0)))]) hx hb dX1_clear_1 rfl hl (by decide) rfl (fun ls hl => ?_)
  exact L_2 13 0 σ _ _ ls (Nat.zero_le _) (by decide) hP hD hS (lv_sub hl [1, 0] rfl) hT
set_option maxHeartbeats 4000000 in
set_option maxRecDepth 100000 in
theorem k_addPart (l : Launch) (D : va_G) (ad : Nat → Nat) (kk : Nat → ClassId) (sz : Nat) (σ : St) (i0 : Nat) (p1 : Int32) (h0 : i0 < 10) (hp : vp_in (gF σ (pPi i0) 3) 8) : Met l yX3_addPart wsX3_addPart { frames := 1, cells := 0, slots := 0, locals := 22 } (va_Pc [.ref (ad (pPi i0)), .int p1] (PB D ad kk sz σ)) (va_Qi (fun r u => (r, u) = M_addPart σ i0 p1) (QB D ad kk sz) (aL 96 ad sz)) 0 0 (aL 96 ad sz) := by
  refine Met.ofW (cc := cX3_addPart) (maxL := 2) (ret := (some .int)) (by decide) rfl ?_
  intro p e s m args below meth c s₁ B hml hv
  obtain ⟨rfl, hsz, hP, hK, hD0, hE⟩ := hv
  have hx := B.exec
  have hb := B.bytes
  have hr := B.returns
  have hts := atoms_spec (ws := wsX3_addPart) B.pre
  have hown : s.vm.findClass RX3 = some m.cls := findClass_of_methodNamed B.named
  have hlocks := B.notSynchronized
  subst hsz
  have hD : va_D (aL 96 ad s.heap.size) (wB ad kk σ) := aL_D hD0
  have hS : va_S (aL 96 ad s.heap.size) s.heap s.heap [] := va_S.rf
  have hl := lv_entry ([.ref (ad (pPi i0)), .int p1]) (n := 2) (Nat.le_of_ble_eq_true rfl)
  rw [lg_entry_eq]
  generalize (lg_sl ([.ref (ad (pPi i0)), .int p1]) ++ List.replicate (2 - (lg_sl ([.ref (ad (pPi i0)), .int p1])).length) Slot.unset).toArray = ls at hl ⊢
  have hl : lv_has ls 2 [(0, .ref (ad (pPi i0))), (1, .int p1)] := hl
  have CF : CallFix p m c cX3_addPart 2 s ([.ref (ad (pPi i0)), .int p1] : List Value).toArray wsX3_addPart RX3 := ⟨hx, hb, hml, hown, hts⟩
  have ht : ∀ w ∈ T0, w.before ([.ref (ad (pPi i0)), .int p1] : List Value).toArray s = true := fun w h => hts w (List.mem_cons_of_mem _ h)
  generalize hT : M_addPart σ i0 p1 = T
  rw [M_addPart] at hT
  refine lv_aload_n hx hb dX3_addPart_0 rfl (lv_at hl 0 rfl) ?_
  refine va_get (D := D) (ci := 3) (v := .ref (ad (pPi i0 + 1))) (C := RX3) (T := TX3) (N := 8) hx hb ht inX3 hown hK hP (pPi i0) (g_Pi h0) rfl 0 (by decide) (ht _ mw_100) (fun _ h9 => h9) rfl dX3_addPart_1 ?_
  refine lv_aload_n hx hb dX3_addPart_4 rfl (lv_at hl 0 rfl) ?_
  refine va_get (D := D) (ci := 3) (v := .int (gF σ (pPi i0) 3)) (C := RX3) (T := TX3) (N := 8) hx hb ht inX3 hown hK hP (pPi i0) (g_Pi h0) rfl 3 (by decide) (ht _ mw_105) (fun _ h9 => h9) rfl dX3_addPart_5 ?_
  refine lv_iload_n hx hb dX3_addPart_8 rfl (lv_at hl 1 rfl) ?_
  refine va_iast (i := gF σ (pPi i0) 3) (x := p1) hx hb hK hP hD hS (pPi i0 + 1) 0 (g_Pp h0) rfl hp dX3_addPart_9 (fun H locs hP hD hS => ?_)
  rw [s_Pp h0] at hP hD
  refine lv_aload_n hx hb dX3_addPart_10 rfl (lv_at hl 0 rfl) ?_
  refine lv_dup hx hb dX3_addPart_11 rfl ?_
  refine va_get (D := D) (ci := 3) (v := .int (gF (sA σ (pPi i0 + 1) (gF σ (pPi i0) 3).toNatClampNeg p1) (pPi i0) 3)) (C := RX3) (T := TX3) (N := 8) hx hb ht inX3 hown hK hP (pPi i0) (g_Pi h0) rfl 3 (by decide) (ht _ mw_105) (fun _ h9 => h9) rfl dX3_addPart_12 ?_
  refine lv_iconst (v := 1) hx hb dX3_addPart_15 (by decide) ?_
  refine lv_iadd hx hb dX3_addPart_16 ?_
  refine va_put (D := D) (ci := 3) (v := .int ((gF (sA σ (pPi i0 + 1) (gF σ (pPi i0) 3).toNatClampNeg p1) (pPi i0) 3) + 1)) (ty := .int) (C := RX3) (T := TX3) (N := 8) hx hb ht inX3 tyX3 tyX3_ok nmX3 hown hK hP hD hS (pPi i0) (g_Pi h0) rfl 3 (by decide) (ht _ mw_105) (fun _ h9 => h9) rfl (by decide +kernel) rfl rfl (Nat.le_of_ble_eq_true rfl) dX3_addPart_17 (fun H locs hP hD hS => ?_)
  rw [s_Pi_3 h0] at hP hD
  refine lv_aload_n hx hb dX3_addPart_20 rfl (lv_at hl 0 rfl) ?_
  refine lv_aload_n hx hb dX3_addPart_21 rfl (lv_at hl 0 rfl) ?_
  refine va_get (D := D) (ci := 3) (v := .int (gF (sF (sA σ (pPi i0 + 1) (gF σ (pPi i0) 3).toNatClampNeg p1) (pPi i0) 3 ((gF (sA σ (pPi i0 + 1) (gF σ (pPi i0) 3).toNatClampNeg p1) (pPi i0) 3) + 1)) (pPi i0) 5)) (C := RX3) (T := TX3) (N := 8) hx hb ht inX3 hown hK hP (pPi i0) (g_Pi h0) rfl 5 (by decide) (ht _ mw_109) (fun _ h9 => h9) rfl dX3_addPart_22 ?_
  refine lv_iload_n hx hb dX3_addPart_25 rfl (lv_at hl 1 rfl) ?_
  refine lv_iconst (v := 1) hx hb dX3_addPart_26 (by decide) ?_
  refine vp_callSi ((va_runSN (As := [.int (gF (sF (sA σ (pPi i0 + 1) (gF σ (pPi i0) 3).toNatClampNeg p1) (pPi i0) 3 ((gF (sA σ (pPi i0 + 1) (gF σ (pPi i0) 3).toNatClampNeg p1) (pPi i0) 3) + 1)) (pPi i0) 5), .int p1, .int 1]) (rest := [.ref (ad (pPi i0))]) CF (k_with l (gF (sF (sA σ (pPi i0 + 1) (gF σ (pPi i0) 3).toNatClampNeg p1) (pPi i0) 3 ((gF (sA σ (pPi i0 + 1) (gF σ (pPi i0) 3).toNatClampNeg p1) (pPi i0) 3) + 1)) (pPi i0) 5) p1 1) ⟨va_cnB (host := "MaterialBars") 3 hts (gT mw_325) rfl rfl rfl (hE.nest (own := RX3) (k := 28) (y := yX4_with) (host := "MaterialBars") (by decide +kernel)) (ht _ mw_1) (by decide +kernel) ⟨Nat.le_of_ble_eq_true rfl, Nat.le_of_ble_eq_true rfl⟩, (ht _ mw_324), trivial⟩ preEq rfl rfl hl.1 rfl (lv_room (Nat.le_of_ble_eq_true rfl)) dX3_addPart_27 ⟨Nat.le_of_ble_eq_true rfl, Nat.le_of_ble_eq_true rfl⟩).run) (fun r1 h_r1 => ?_)
  obtain rfl := h_r1
  refine va_put (D := D) (ci := 3) (v := .int (M_with (gF (sF (sA σ (pPi i0 + 1) (gF σ (pPi i0) 3).toNatClampNeg p1) (pPi i0) 3 ((gF (sA σ (pPi i0 + 1) (gF σ (pPi i0) 3).toNatClampNeg p1) (pPi i0) 3) + 1)) (pPi i0) 5) p1 1)) (ty := .int) (C := RX3) (T := TX3) (N := 8) hx hb ht inX3 tyX3 tyX3_ok nmX3 hown hK hP hD hS (pPi i0) (g_Pi h0) rfl 5 (by decide) (ht _ mw_109) (fun _ h9 => h9) rfl (by decide +kernel) rfl rfl (Nat.le_of_ble_eq_true rfl) dX3_addPart_30 (fun H locs hP hD hS => ?_)
  rw [s_Pi_5 h0] at hP hD
  refine lv_aload_n hx hb dX3_addPart_33 rfl (lv_at hl 0 rfl) ?_
  refine va_get (D := D) (ci := 3) (v := .int (gF (sF (sF (sA σ (pPi i0 + 1) (gF σ (pPi i0) 3).toNatClampNeg p1) (pPi i0) 3 ((gF (sA σ (pPi i0 + 1) (gF σ (pPi i0) 3).toNatClampNeg p1) (pPi i0) 3) + 1)) (pPi i0) 5 (M_with (gF (sF (sA σ (pPi i0 + 1) (gF σ (pPi i0) 3).toNatClampNeg p1) (pPi i0) 3 ((gF (sA σ (pPi i0 + 1) (gF σ (pPi i0) 3).toNatClampNeg p1) (pPi i0) 3) + 1)) (pPi i0) 5) p1 1)) (pPi i0) 3)) (C := RX3) (T := TX3) (N := 8) hx hb ht inX3 hown hK hP (pPi i0) (g_Pi h0) rfl 3 (by decide) (ht _ mw_105) (fun _ h9 => h9) rfl dX3_addPart_34 ?_
  refine lv_iconst (v := 1) hx hb dX3_addPart_37 (by decide) ?_
  refine lv_isub hx hb dX3_addPart_38 ?_
  exact W.iret (v := (gF (sF (sF (sA σ (pPi i0 + 1) (gF σ (pPi i0) 3).toNatClampNeg p1) (pPi i0) 3 ((gF (sA σ (pPi i0 + 1) (gF σ (pPi i0) 3).toNatClampNeg p1) (pPi i0) 3) + 1)) (pPi i0) 5 (M_with (gF (sF (sA σ (pPi i0 + 1) (gF σ (pPi i0) 3).toNatClampNeg p1) (pPi i0) 3 ((gF (sA σ (pPi i0 + 1) (gF σ (pPi i0) 3).toNatClampNeg p1) (pPi i0) 3) + 1)) (pPi i0) 5) p1 1)) (pPi i0) 3) - 1) hx hb hr (fun t ht hW => ⟨⟨(gF (sF (sF (sA σ (pPi i0 + 1) (gF σ (pPi i0) 3).toNatClampNeg p1) (pPi i0) 3 ((gF (sA σ (pPi i0 + 1) (gF σ (pPi i0) 3).toNatClampNeg p1) (pPi i0) 3) + 1)) (pPi i0) 5 (M_with (gF (sF (sA σ (pPi i0 + 1) (gF σ (pPi i0) 3).toNatClampNeg p1) (pPi i0) 3 ((gF (sA σ (pPi i0 + 1) (gF σ (pPi i0) 3).toNatClampNeg p1) (pPi i0) 3) + 1)) (pPi i0) 5) p1 1)) (pPi i0) 3) - 1, (sF (sF (sA σ (pPi i0 + 1) (gF σ (pPi i0) 3).toNatClampNeg p1) (pPi i0) 3 ((gF (sA σ (pPi i0 + 1) (gF σ (pPi i0) 3).toNatClampNeg p1) (pPi i0) 3) + 1)) (pPi i0) 5 (M_with (gF (sF (sA σ (pPi i0 + 1) (gF σ (pPi i0) 3).toNatClampNeg p1) (pPi i0) 3 ((gF (sA σ (pPi i0 + 1) (gF σ (pPi i0) 3).toNatClampNeg p1) (pPi i0) 3) + 1)) (pPi i0) 5) p1 1)), rfl, hT, by rw [ht]; exact hP, va_K.moved hW.alike hK, hD⟩, hS.F ht⟩) hS.2.2 dX3_addPart_39
set_option maxHeartbeats 4000000 in
set_option maxRecDepth 100000 in
theorem k_firstPartOf (l : Launch) (D : va_G) (ad : Nat → Nat) (kk : Nat → ClassId) (sz : Nat) (σ : St) (i0 : Nat) (p1 : Int32) (h0 : i0 < 10) (hp : (gF σ (pPi i0) 3).toInt ≤ 8) : Met l yX3_firstPartOf wsX3_firstPartOf { frames := 1, cells := 0, slots := 0, locals := 21 } (va_Pc [.ref (ad (pPi i0)), .int p1] (PB D ad kk sz σ)) (va_Qi (fun r u => r = M_firstPartOf σ i0 p1 ∧ u = σ) (QB D ad kk sz) (aL 96 ad sz)) 0 0 (aL 96 ad sz) := by
  refine Met.ofW (cc := cX3_firstPartOf) (maxL := 3) (ret := (some .int)) (by decide) rfl ?_
  intro p e s m args below meth c s₁ B hml hv
  obtain ⟨rfl, hsz, hP, hK, hD0, hE⟩ := hv
  have hx := B.exec
  have hb := B.bytes
  have hr := B.returns
  have hts := atoms_spec (ws := wsX3_firstPartOf) B.pre
  have hown : s.vm.findClass RX3 = some m.cls := findClass_of_methodNamed B.named
  have hlocks := B.notSynchronized
  subst hsz
  have hD : va_D (aL 96 ad s.heap.size) (wB ad kk σ) := aL_D hD0
  have hS : va_S (aL 96 ad s.heap.size) s.heap s.heap [] := va_S.rf
  have hl := lv_entry ([.ref (ad (pPi i0)), .int p1]) (n := 3) (Nat.le_of_ble_eq_true rfl)
  rw [lg_entry_eq]
  generalize (lg_sl ([.ref (ad (pPi i0)), .int p1]) ++ List.replicate (3 - (lg_sl ([.ref (ad (pPi i0)), .int p1])).length) Slot.unset).toArray = ls at hl ⊢
  have hl : lv_has ls 3 [(0, .ref (ad (pPi i0))), (1, .int p1)] := hl
  have CF : CallFix p m c cX3_firstPartOf 3 s ([.ref (ad (pPi i0)), .int p1] : List Value).toArray wsX3_firstPartOf RX3 := ⟨hx, hb, hml, hown, hts⟩
  have ht : ∀ w ∈ T0, w.before ([.ref (ad (pPi i0)), .int p1] : List Value).toArray s = true := fun w h => hts w (List.mem_cons_of_mem _ h)
  generalize hT : M_firstPartOf σ i0 p1 = T
  refine namedQ (fun Q eQ => ?_)
  have L_2 : ∀ (n i102 : Nat) (H : Heap) (locs : List Loc) (ls : Array Slot), i102 ≤ 8 → 9 ≤ i102 + n → va_P D vwCl (wB ad kk σ) H → va_D (aL 96 ad s.heap.size) (wB ad kk σ) → va_S (aL 96 ad s.heap.size) s.heap H locs → lv_has ls 3 [(0, .ref (ad (pPi i0))), (1, .int p1), (2, .int (nI i102))] → M_firstPartOf_h2 n i102 σ i0 p1 = T → W p l e (headSpec wsX3_firstPartOf { frames := 1, cells := 0, slots := 0, locals := 21 }).room s m ([.ref (ad (pPi i0)), .int p1] : List Value).toArray below meth c H locs 0 0 Q (F0 m 2 ls []) := by
    intro n
    induction n with
    | zero =>
      intro i102 H locs ls h_le h_fu hP hD hS hl hT
      exact absurd h_fu (by omega)
    | succ n ih =>
      intro i102 H locs ls h_le h_fu hP hD hS hl hT
      rw [M_firstPartOf_h2] at hT
      refine lv_iload_n hx hb dX3_firstPartOf_2 rfl (lv_at hl 2 rfl) ?_
      refine lv_aload_n hx hb dX3_firstPartOf_3 rfl (lv_at hl 0 rfl) ?_
      refine va_get (D := D) (ci := 3) (v := .int (gF σ (pPi i0) 3)) (C := RX3) (T := TX3) (N := 8) hx hb ht inX3 hown hK hP (pPi i0) (g_Pi h0) rfl 3 (by decide) (ht _ mw_105) (fun _ h9 => h9) rfl dX3_firstPartOf_4 ?_
      refine lv_icmp_ge (tgt := 31) hx hb dX3_firstPartOf_7 (by decide) (fun c1 => ?_) (fun c1 => ?_)
      · rw [if_pos c1] at hT
        refine lv_iconst (v := (-1)) hx hb dX3_firstPartOf_31 (by decide) ?_
        rw [eQ]
        exact W.iret (v := (-1)) hx hb hr (fun t ht hW => ⟨⟨(-1), σ, rfl, ⟨hT, rfl⟩, by rw [ht]; exact hP, va_K.moved hW.alike hK, hD⟩, hS.F ht⟩) hS.2.2 dX3_firstPartOf_32
      · rw [if_neg c1] at hT
        have h_lt := lp_lt (N := 8) (by decide) hp h_le c1
        refine lv_iload_n hx hb dX3_firstPartOf_10 rfl (lv_at hl 1 rfl) ?_
        refine lv_aload_n hx hb dX3_firstPartOf_11 rfl (lv_at hl 0 rfl) ?_
        refine va_get (D := D) (ci := 3) (v := .ref (ad (pPi i0 + 1))) (C := RX3) (T := TX3) (N := 8) hx hb ht inX3 hown hK hP (pPi i0) (g_Pi h0) rfl 0 (by decide) (ht _ mw_100) (fun _ h9 => h9) rfl dX3_firstPartOf_12 ?_
        refine lv_iload_n hx hb dX3_firstPartOf_15 rfl (lv_at hl 2 rfl) ?_
        refine va_iald (i := nI i102) hx hb hK hP (pPi i0 + 1) 0 (g_Pp h0) rfl (vp_in_nI h_lt (by decide)) dX3_firstPartOf_16 ?_
        rw [nI_clamp (n := i102) (by omega)]
        refine vp_callSi ((va_runSN (As := [.int p1, .int (gA σ (pPi i0 + 1) i102)]) (rest := []) CF (k_has l p1 (gA σ (pPi i0 + 1) i102)) ⟨va_cnB (host := "MaterialBars") 2 hts (gT mw_402) rfl rfl rfl (hE.nest (own := RX3) (k := 32) (y := yX4_has) (host := "MaterialBars") (by decide +kernel)) (ht _ mw_1) (by decide +kernel) ⟨Nat.le_of_ble_eq_true rfl, Nat.le_of_ble_eq_true rfl⟩, (ht _ mw_401), trivial⟩ preEq rfl rfl hl.1 rfl (lv_room (Nat.le_of_ble_eq_true rfl)) dX3_firstPartOf_17 ⟨Nat.le_of_ble_eq_true rfl, Nat.le_of_ble_eq_true rfl⟩).run) (fun r2 h_r2 => ?_)
        obtain rfl := h_r2
        refine lv_if_eq (tgt := 25) hx hb dX3_firstPartOf_20 (by decide) (fun c3 => ?_) (fun c3 => ?_)
        · rw [if_pos c3] at hT
          refine lv_iinc (v := nI (i102 + 1)) (lv' := [(2, .int (nI (i102 + 1))), (0, .ref (ad (pPi i0))), (1, .int p1)]) hx hb dX3_firstPartOf_25 hl (k := 2) rfl (nI_1 i102) (by decide) rfl (fun ls hl => ?_)
          refine lv_goto (tgt := 2) hx hb dX3_firstPartOf_28 (by decide) ?_
          exact ih  (i102 + 1) _ _ ls h_lt (by omega) hP hD hS (lv_sub hl [1, 2, 0] rfl) hT
        · rw [if_neg c3] at hT
          refine lv_iload_n hx hb dX3_firstPartOf_23 rfl (lv_at hl 2 rfl) ?_
          rw [eQ]
          exact W.iret (v := nI i102) hx hb hr (fun t ht hW => ⟨⟨nI i102, σ, rfl, ⟨hT, rfl⟩, by rw [ht]; exact hP, va_K.moved hW.alike hK, hD⟩, hS.F ht⟩) hS.2.2 dX3_firstPartOf_24
  rw [M_firstPartOf] at hT
  refine lv_iconst (v := 0) hx hb dX3_firstPartOf_0 (by decide) ?_
  refine lv_istore_n (lv' := [(2, .int 0), (0, .ref (ad (pPi i0))), (1, .int p1)]) hx hb dX3_firstPartOf_1 rfl hl (by decide) rfl (fun ls hl => ?_)
  exact L_2 9 0 _ _ ls (Nat.zero_le _) (by decide) hP hD hS (lv_sub hl [1, 2, 0] rfl) hT
set_option maxHeartbeats 4000000 in
set_option maxRecDepth 100000 in
theorem k_addRow (l : Launch) (D : va_G) (ad : Nat → Nat) (kk : Nat → ClassId) (sz : Nat) (σ : St) (i0 : Nat) (p1 : Int32) (p2 : Int32) (p3 : Int32) (p4 : Int32) (h0 : i0 < 10) (hp : vp_in (gF σ (pPi i0) 4) 30) (hm : vp_in p1 12) : Met l yX3_addRow wsX3_addRow { frames := 1, cells := 0, slots := 0, locals := 22 } (va_Pc [.ref (ad (pPi i0)), .int p1, .int p2, .int p3, .int p4] (PB D ad kk sz σ)) (va_Qv (fun u => u = M_addRow σ i0 p1 p2 p3 p4) (QB D ad kk sz) (aL 96 ad sz)) 0 0 (aL 96 ad sz) := by
  refine Met.ofW (cc := cX3_addRow) (maxL := 6) (ret := none) (by decide) rfl ?_
  intro p e s m args below meth c s₁ B hml hv
  obtain ⟨rfl, hsz, hP, hK, hD0, hE⟩ := hv
  have hx := B.exec
  have hb := B.bytes
  have hr := B.returns
  have hts := atoms_spec (ws := wsX3_addRow) B.pre
  have hown : s.vm.findClass RX3 = some m.cls := findClass_of_methodNamed B.named
  have hlocks := B.notSynchronized
  subst hsz
  have hD : va_D (aL 96 ad s.heap.size) (wB ad kk σ) := aL_D hD0
  have hS : va_S (aL 96 ad s.heap.size) s.heap s.heap [] := va_S.rf
  have hl := lv_entry ([.ref (ad (pPi i0)), .int p1, .int p2, .int p3, .int p4]) (n := 6) (Nat.le_of_ble_eq_true rfl)
  rw [lg_entry_eq]
  generalize (lg_sl ([.ref (ad (pPi i0)), .int p1, .int p2, .int p3, .int p4]) ++ List.replicate (6 - (lg_sl ([.ref (ad (pPi i0)), .int p1, .int p2, .int p3, .int p4])).length) Slot.unset).toArray = ls at hl ⊢
  have hl : lv_has ls 6 [(0, .ref (ad (pPi i0))), (1, .int p1), (2, .int p2), (3, .int p3), (4, .int p4)] := hl
  have CF : CallFix p m c cX3_addRow 6 s ([.ref (ad (pPi i0)), .int p1, .int p2, .int p3, .int p4] : List Value).toArray wsX3_addRow RX3 := ⟨hx, hb, hml, hown, hts⟩
  have ht : ∀ w ∈ T0, w.before ([.ref (ad (pPi i0)), .int p1, .int p2, .int p3, .int p4] : List Value).toArray s = true := fun w h => hts w (List.mem_cons_of_mem _ h)
  generalize hT : M_addRow σ i0 p1 p2 p3 p4 = T
  rw [M_addRow] at hT
  refine lv_aload_n hx hb dX3_addRow_0 rfl (lv_at hl 0 rfl) ?_
  refine va_get (D := D) (ci := 3) (v := .int (gF σ (pPi i0) 4)) (C := RX3) (T := TX3) (N := 8) hx hb ht inX3 hown hK hP (pPi i0) (g_Pi h0) rfl 4 (by decide) (ht _ mw_107) (fun _ h9 => h9) rfl dX3_addRow_1 ?_
  refine lv_iconst (v := 4) hx hb dX3_addRow_4 (by decide) ?_
  refine lv_imul hx hb dX3_addRow_5 ?_
  refine lv_istore (lv' := [(5, .int ((gF σ (pPi i0) 4) * 4)), (0, .ref (ad (pPi i0))), (1, .int p1), (2, .int p2), (3, .int p3), (4, .int p4)]) hx hb dX3_addRow_6 hl (by decide) rfl (fun ls hl => ?_)
  refine lv_aload_n hx hb dX3_addRow_8 rfl (lv_at hl 1 rfl) ?_
  refine va_get (D := D) (ci := 3) (v := .ref (ad (pPi i0 + 2))) (C := RX3) (T := TX3) (N := 8) hx hb ht inX3 hown hK hP (pPi i0) (g_Pi h0) rfl 1 (by decide) (ht _ mw_101) (fun _ h9 => h9) rfl dX3_addRow_9 ?_
  refine lv_iload hx hb dX3_addRow_12 (lv_at hl 0 rfl) ?_
  refine lv_iload_n hx hb dX3_addRow_14 rfl (lv_at hl 2 rfl) ?_
  refine va_iast (i := (gF σ (pPi i0) 4) * 4) (x := p1) hx hb hK hP hD hS (pPi i0 + 2) 0 (g_Pr h0) rfl (row_in0 hp) dX3_addRow_15 (fun H locs hP hD hS => ?_)
  rw [s_Pr h0] at hP hD
  refine lv_aload_n hx hb dX3_addRow_16 rfl (lv_at hl 1 rfl) ?_
  refine va_get (D := D) (ci := 3) (v := .ref (ad (pPi i0 + 2))) (C := RX3) (T := TX3) (N := 8) hx hb ht inX3 hown hK hP (pPi i0) (g_Pi h0) rfl 1 (by decide) (ht _ mw_101) (fun _ h9 => h9) rfl dX3_addRow_17 ?_
  refine lv_iload hx hb dX3_addRow_20 (lv_at hl 0 rfl) ?_
  refine lv_iconst (v := 1) hx hb dX3_addRow_22 (by decide) ?_
  refine lv_iadd hx hb dX3_addRow_23 ?_
  refine lv_iload_n hx hb dX3_addRow_24 rfl (lv_at hl 3 rfl) ?_
  refine va_iast (i := ((gF σ (pPi i0) 4) * 4) + 1) (x := p2) hx hb hK hP hD hS (pPi i0 + 2) 0 (g_Pr h0) rfl (row_in1 hp) dX3_addRow_25 (fun H locs hP hD hS => ?_)
  rw [s_Pr h0] at hP hD
  refine lv_aload_n hx hb dX3_addRow_26 rfl (lv_at hl 1 rfl) ?_
  refine va_get (D := D) (ci := 3) (v := .ref (ad (pPi i0 + 2))) (C := RX3) (T := TX3) (N := 8) hx hb ht inX3 hown hK hP (pPi i0) (g_Pi h0) rfl 1 (by decide) (ht _ mw_101) (fun _ h9 => h9) rfl dX3_addRow_27 ?_
  refine lv_iload hx hb dX3_addRow_30 (lv_at hl 0 rfl) ?_
  refine lv_iconst (v := 2) hx hb dX3_addRow_32 (by decide) ?_
  refine lv_iadd hx hb dX3_addRow_33 ?_
  refine lv_iload_n hx hb dX3_addRow_34 rfl (lv_at hl 4 rfl) ?_
  refine va_iast (i := ((gF σ (pPi i0) 4) * 4) + 2) (x := p3) hx hb hK hP hD hS (pPi i0 + 2) 0 (g_Pr h0) rfl (row_in2 hp) dX3_addRow_35 (fun H locs hP hD hS => ?_)
  rw [s_Pr h0] at hP hD
  refine lv_aload_n hx hb dX3_addRow_36 rfl (lv_at hl 1 rfl) ?_
  refine va_get (D := D) (ci := 3) (v := .ref (ad (pPi i0 + 2))) (C := RX3) (T := TX3) (N := 8) hx hb ht inX3 hown hK hP (pPi i0) (g_Pi h0) rfl 1 (by decide) (ht _ mw_101) (fun _ h9 => h9) rfl dX3_addRow_37 ?_
  refine lv_iload hx hb dX3_addRow_40 (lv_at hl 0 rfl) ?_
  refine lv_iconst (v := 3) hx hb dX3_addRow_42 (by decide) ?_
  refine lv_iadd hx hb dX3_addRow_43 ?_
  refine lv_iload hx hb dX3_addRow_44 (lv_at hl 5 rfl) ?_
  refine va_iast (i := ((gF σ (pPi i0) 4) * 4) + 3) (x := p4) hx hb hK hP hD hS (pPi i0 + 2) 0 (g_Pr h0) rfl (row_in3 hp) dX3_addRow_46 (fun H locs hP hD hS => ?_)
  rw [s_Pr h0] at hP hD
  refine lv_aload_n hx hb dX3_addRow_47 rfl (lv_at hl 1 rfl) ?_
  refine lv_dup hx hb dX3_addRow_48 rfl ?_
  refine va_get (D := D) (ci := 3) (v := .int (gF (sA (sA (sA (sA σ (pPi i0 + 2) ((gF σ (pPi i0) 4) * 4).toNatClampNeg p1) (pPi i0 + 2) (((gF σ (pPi i0) 4) * 4) + 1).toNatClampNeg p2) (pPi i0 + 2) (((gF σ (pPi i0) 4) * 4) + 2).toNatClampNeg p3) (pPi i0 + 2) (((gF σ (pPi i0) 4) * 4) + 3).toNatClampNeg p4) (pPi i0) 4)) (C := RX3) (T := TX3) (N := 8) hx hb ht inX3 hown hK hP (pPi i0) (g_Pi h0) rfl 4 (by decide) (ht _ mw_107) (fun _ h9 => h9) rfl dX3_addRow_49 ?_
  refine lv_iconst (v := 1) hx hb dX3_addRow_52 (by decide) ?_
  refine lv_iadd hx hb dX3_addRow_53 ?_
  refine va_put (D := D) (ci := 3) (v := .int ((gF (sA (sA (sA (sA σ (pPi i0 + 2) ((gF σ (pPi i0) 4) * 4).toNatClampNeg p1) (pPi i0 + 2) (((gF σ (pPi i0) 4) * 4) + 1).toNatClampNeg p2) (pPi i0 + 2) (((gF σ (pPi i0) 4) * 4) + 2).toNatClampNeg p3) (pPi i0 + 2) (((gF σ (pPi i0) 4) * 4) + 3).toNatClampNeg p4) (pPi i0) 4) + 1)) (ty := .int) (C := RX3) (T := TX3) (N := 8) hx hb ht inX3 tyX3 tyX3_ok nmX3 hown hK hP hD hS (pPi i0) (g_Pi h0) rfl 4 (by decide) (ht _ mw_107) (fun _ h9 => h9) rfl (by decide +kernel) rfl rfl (Nat.le_of_ble_eq_true rfl) dX3_addRow_54 (fun H locs hP hD hS => ?_)
  rw [s_Pi_4 h0] at hP hD
  refine lv_aload_n hx hb dX3_addRow_57 rfl (lv_at hl 1 rfl) ?_
  refine va_get (D := D) (ci := 3) (v := .ref (ad (pPi i0 + 3))) (C := RX3) (T := TX3) (N := 8) hx hb ht inX3 hown hK hP (pPi i0) (g_Pi h0) rfl 2 (by decide) (ht _ mw_103) (fun _ h9 => h9) rfl dX3_addRow_58 ?_
  refine lv_iload_n hx hb dX3_addRow_61 rfl (lv_at hl 2 rfl) ?_
  refine lv_iload_n hx hb dX3_addRow_62 rfl (lv_at hl 3 rfl) ?_
  refine va_iast (i := p1) (x := p2) hx hb hK hP hD hS (pPi i0 + 3) 0 (g_Pl h0) rfl hm dX3_addRow_63 (fun H locs hP hD hS => ?_)
  rw [s_Pl h0] at hP hD
  refine lv_aload_n hx hb dX3_addRow_64 rfl (lv_at hl 1 rfl) ?_
  refine lv_iload_n hx hb dX3_addRow_65 rfl (lv_at hl 3 rfl) ?_
  refine va_put (D := D) (ci := 3) (v := .int p2) (ty := .int) (C := RX3) (T := TX3) (N := 8) hx hb ht inX3 tyX3 tyX3_ok nmX3 hown hK hP hD hS (pPi i0) (g_Pi h0) rfl 7 (by decide) (ht _ mw_113) (fun _ h9 => h9) rfl (by decide +kernel) rfl rfl (Nat.le_of_ble_eq_true rfl) dX3_addRow_66 (fun H locs hP hD hS => ?_)
  rw [s_Pi_7 h0] at hP hD
  refine lv_aload_n hx hb dX3_addRow_69 rfl (lv_at hl 1 rfl) ?_
  refine lv_aload_n hx hb dX3_addRow_70 rfl (lv_at hl 1 rfl) ?_
  refine va_get (D := D) (ci := 3) (v := .int (gF (sF (sA (sF (sA (sA (sA (sA σ (pPi i0 + 2) ((gF σ (pPi i0) 4) * 4).toNatClampNeg p1) (pPi i0 + 2) (((gF σ (pPi i0) 4) * 4) + 1).toNatClampNeg p2) (pPi i0 + 2) (((gF σ (pPi i0) 4) * 4) + 2).toNatClampNeg p3) (pPi i0 + 2) (((gF σ (pPi i0) 4) * 4) + 3).toNatClampNeg p4) (pPi i0) 4 ((gF (sA (sA (sA (sA σ (pPi i0 + 2) ((gF σ (pPi i0) 4) * 4).toNatClampNeg p1) (pPi i0 + 2) (((gF σ (pPi i0) 4) * 4) + 1).toNatClampNeg p2) (pPi i0 + 2) (((gF σ (pPi i0) 4) * 4) + 2).toNatClampNeg p3) (pPi i0 + 2) (((gF σ (pPi i0) 4) * 4) + 3).toNatClampNeg p4) (pPi i0) 4) + 1)) (pPi i0 + 3) p1.toNatClampNeg p2) (pPi i0) 7 p2) (pPi i0) 6)) (C := RX3) (T := TX3) (N := 8) hx hb ht inX3 hown hK hP (pPi i0) (g_Pi h0) rfl 6 (by decide) (ht _ mw_111) (fun _ h9 => h9) rfl dX3_addRow_71 ?_
  refine lv_iload_n hx hb dX3_addRow_74 rfl (lv_at hl 2 rfl) ?_
  refine lv_iconst (v := 1) hx hb dX3_addRow_75 (by decide) ?_
  refine vp_callSi ((va_runSN (As := [.int (gF (sF (sA (sF (sA (sA (sA (sA σ (pPi i0 + 2) ((gF σ (pPi i0) 4) * 4).toNatClampNeg p1) (pPi i0 + 2) (((gF σ (pPi i0) 4) * 4) + 1).toNatClampNeg p2) (pPi i0 + 2) (((gF σ (pPi i0) 4) * 4) + 2).toNatClampNeg p3) (pPi i0 + 2) (((gF σ (pPi i0) 4) * 4) + 3).toNatClampNeg p4) (pPi i0) 4 ((gF (sA (sA (sA (sA σ (pPi i0 + 2) ((gF σ (pPi i0) 4) * 4).toNatClampNeg p1) (pPi i0 + 2) (((gF σ (pPi i0) 4) * 4) + 1).toNatClampNeg p2) (pPi i0 + 2) (((gF σ (pPi i0) 4) * 4) + 2).toNatClampNeg p3) (pPi i0 + 2) (((gF σ (pPi i0) 4) * 4) + 3).toNatClampNeg p4) (pPi i0) 4) + 1)) (pPi i0 + 3) p1.toNatClampNeg p2) (pPi i0) 7 p2) (pPi i0) 6), .int p1, .int 1]) (rest := [.ref (ad (pPi i0))]) CF (k_with l (gF (sF (sA (sF (sA (sA (sA (sA σ (pPi i0 + 2) ((gF σ (pPi i0) 4) * 4).toNatClampNeg p1) (pPi i0 + 2) (((gF σ (pPi i0) 4) * 4) + 1).toNatClampNeg p2) (pPi i0 + 2) (((gF σ (pPi i0) 4) * 4) + 2).toNatClampNeg p3) (pPi i0 + 2) (((gF σ (pPi i0) 4) * 4) + 3).toNatClampNeg p4) (pPi i0) 4 ((gF (sA (sA (sA (sA σ (pPi i0 + 2) ((gF σ (pPi i0) 4) * 4).toNatClampNeg p1) (pPi i0 + 2) (((gF σ (pPi i0) 4) * 4) + 1).toNatClampNeg p2) (pPi i0 + 2) (((gF σ (pPi i0) 4) * 4) + 2).toNatClampNeg p3) (pPi i0 + 2) (((gF σ (pPi i0) 4) * 4) + 3).toNatClampNeg p4) (pPi i0) 4) + 1)) (pPi i0 + 3) p1.toNatClampNeg p2) (pPi i0) 7 p2) (pPi i0) 6) p1 1) ⟨va_cnB (host := "MaterialBars") 3 hts (gT mw_325) rfl rfl rfl (hE.nest (own := RX3) (k := 28) (y := yX4_with) (host := "MaterialBars") (by decide +kernel)) (ht _ mw_1) (by decide +kernel) ⟨Nat.le_of_ble_eq_true rfl, Nat.le_of_ble_eq_true rfl⟩, (ht _ mw_324), trivial⟩ preEq rfl rfl hl.1 rfl (lv_room (Nat.le_of_ble_eq_true rfl)) dX3_addRow_76 ⟨Nat.le_of_ble_eq_true rfl, Nat.le_of_ble_eq_true rfl⟩).run) (fun r1 h_r1 => ?_)
  obtain rfl := h_r1
  refine va_put (D := D) (ci := 3) (v := .int (M_with (gF (sF (sA (sF (sA (sA (sA (sA σ (pPi i0 + 2) ((gF σ (pPi i0) 4) * 4).toNatClampNeg p1) (pPi i0 + 2) (((gF σ (pPi i0) 4) * 4) + 1).toNatClampNeg p2) (pPi i0 + 2) (((gF σ (pPi i0) 4) * 4) + 2).toNatClampNeg p3) (pPi i0 + 2) (((gF σ (pPi i0) 4) * 4) + 3).toNatClampNeg p4) (pPi i0) 4 ((gF (sA (sA (sA (sA σ (pPi i0 + 2) ((gF σ (pPi i0) 4) * 4).toNatClampNeg p1) (pPi i0 + 2) (((gF σ (pPi i0) 4) * 4) + 1).toNatClampNeg p2) (pPi i0 + 2) (((gF σ (pPi i0) 4) * 4) + 2).toNatClampNeg p3) (pPi i0 + 2) (((gF σ (pPi i0) 4) * 4) + 3).toNatClampNeg p4) (pPi i0) 4) + 1)) (pPi i0 + 3) p1.toNatClampNeg p2) (pPi i0) 7 p2) (pPi i0) 6) p1 1)) (ty := .int) (C := RX3) (T := TX3) (N := 8) hx hb ht inX3 tyX3 tyX3_ok nmX3 hown hK hP hD hS (pPi i0) (g_Pi h0) rfl 6 (by decide) (ht _ mw_111) (fun _ h9 => h9) rfl (by decide +kernel) rfl rfl (Nat.le_of_ble_eq_true rfl) dX3_addRow_79 (fun H locs hP hD hS => ?_)
  rw [s_Pi_6 h0] at hP hD
  exact W.vret hx hb hr (fun t ht hW => ⟨⟨(sF (sF (sA (sF (sA (sA (sA (sA σ (pPi i0 + 2) ((gF σ (pPi i0) 4) * 4).toNatClampNeg p1) (pPi i0 + 2) (((gF σ (pPi i0) 4) * 4) + 1).toNatClampNeg p2) (pPi i0 + 2) (((gF σ (pPi i0) 4) * 4) + 2).toNatClampNeg p3) (pPi i0 + 2) (((gF σ (pPi i0) 4) * 4) + 3).toNatClampNeg p4) (pPi i0) 4 ((gF (sA (sA (sA (sA σ (pPi i0 + 2) ((gF σ (pPi i0) 4) * 4).toNatClampNeg p1) (pPi i0 + 2) (((gF σ (pPi i0) 4) * 4) + 1).toNatClampNeg p2) (pPi i0 + 2) (((gF σ (pPi i0) 4) * 4) + 2).toNatClampNeg p3) (pPi i0 + 2) (((gF σ (pPi i0) 4) * 4) + 3).toNatClampNeg p4) (pPi i0) 4) + 1)) (pPi i0 + 3) p1.toNatClampNeg p2) (pPi i0) 7 p2) (pPi i0) 6 (M_with (gF (sF (sA (sF (sA (sA (sA (sA σ (pPi i0 + 2) ((gF σ (pPi i0) 4) * 4).toNatClampNeg p1) (pPi i0 + 2) (((gF σ (pPi i0) 4) * 4) + 1).toNatClampNeg p2) (pPi i0 + 2) (((gF σ (pPi i0) 4) * 4) + 2).toNatClampNeg p3) (pPi i0 + 2) (((gF σ (pPi i0) 4) * 4) + 3).toNatClampNeg p4) (pPi i0) 4 ((gF (sA (sA (sA (sA σ (pPi i0 + 2) ((gF σ (pPi i0) 4) * 4).toNatClampNeg p1) (pPi i0 + 2) (((gF σ (pPi i0) 4) * 4) + 1).toNatClampNeg p2) (pPi i0 + 2) (((gF σ (pPi i0) 4) * 4) + 2).toNatClampNeg p3) (pPi i0 + 2) (((gF σ (pPi i0) 4) * 4) + 3).toNatClampNeg p4) (pPi i0) 4) + 1)) (pPi i0 + 3) p1.toNatClampNeg p2) (pPi i0) 7 p2) (pPi i0) 6) p1 1)), rfl, hT, by rw [ht]; exact hP, va_K.moved hW.alike hK, hD⟩, hS.F ht⟩) hS.2.2 dX3_addRow_82
end
section
set_option maxHeartbeats 4000000 in
set_option maxRecDepth 100000 in
theorem k_signHere (l : Launch) (D : va_G) (ad : Nat → Nat) (kk : Nat → ClassId) (sz : Nat) (σ : St) (hIc : IP σ) : Met l yX2_signHere wsX2_signHere { frames := 0, cells := 0, slots := 0, locals := 0 } (va_Pc [.ref (ad 1)] (PB D ad kk sz σ)) (va_Qi (fun r u => r = M_signHere σ ∧ u = σ) (QB D ad kk sz) (aL 96 ad sz)) 0 0 (aL 96 ad sz) := by
  refine Met.ofW (cc := cX2_signHere) (maxL := 1) (ret := (some .int)) (by decide) rfl ?_
  intro p e s m args below meth c s₁ B hml hv
  obtain ⟨rfl, hsz, hP, hK, hD0, hE⟩ := hv
  have hx := B.exec
  have hb := B.bytes
  have hr := B.returns
  have hts := atoms_spec (ws := wsX2_signHere) B.pre
  have hown : s.vm.findClass RX2 = some m.cls := findClass_of_methodNamed B.named
  have hlocks := B.notSynchronized
  subst hsz
  have hD : va_D (aL 96 ad s.heap.size) (wB ad kk σ) := aL_D hD0
  have hS : va_S (aL 96 ad s.heap.size) s.heap s.heap [] := va_S.rf
  have hl := lv_entry ([.ref (ad 1)]) (n := 1) (Nat.le_of_ble_eq_true rfl)
  rw [lg_entry_eq]
  generalize (lg_sl ([.ref (ad 1)]) ++ List.replicate (1 - (lg_sl ([.ref (ad 1)])).length) Slot.unset).toArray = ls at hl ⊢
  have hl : lv_has ls 1 [(0, .ref (ad 1))] := hl
  have CF : CallFix p m c cX2_signHere 1 s ([.ref (ad 1)] : List Value).toArray wsX2_signHere RX2 := ⟨hx, hb, hml, hown, hts⟩
  have ht : ∀ w ∈ T0, w.before ([.ref (ad 1)] : List Value).toArray s = true := fun w h => hts w (List.mem_cons_of_mem _ h)
  generalize hT : M_signHere σ = T
  rw [M_signHere] at hT
  refine lv_aload_n hx hb dX2_signHere_0 rfl (lv_at hl 0 rfl) ?_
  refine va_get (D := D) (ci := 2) (v := .int (gF σ 1 2)) (C := RX2) (T := TX2) (N := 3) hx hb ht inX2 hown hK hP 1 g_Pad rfl 2 (by decide) (ht _ mw_34) (fun _ h9 => h9) rfl dX2_signHere_1 ?_
  refine lv_aload_n hx hb dX2_signHere_4 rfl (lv_at hl 0 rfl) ?_
  refine va_get (D := D) (ci := 2) (v := .int (gF σ 1 1)) (C := RX2) (T := TX2) (N := 3) hx hb ht inX2 hown hK hP 1 g_Pad rfl 1 (by decide) (ht _ mw_33) (fun _ h9 => h9) rfl dX2_signHere_5 ?_
  refine lv_icmp_ge (tgt := 23) hx hb dX2_signHere_8 (by decide) (fun c1 => ?_) (fun c1 => ?_)
  · rw [if_pos c1] at hT
    refine lv_iconst (v := (-1)) hx hb dX2_signHere_23 (by decide) ?_
    exact W.iret (v := (-1)) hx hb hr (fun t ht hW => ⟨⟨(-1), σ, rfl, ⟨hT, rfl⟩, by rw [ht]; exact hP, va_K.moved hW.alike hK, hD⟩, hS.F ht⟩) hS.2.2 dX2_signHere_24
  · rw [if_neg c1] at hT
    have hlt := c1
    refine lv_aload_n hx hb dX2_signHere_11 rfl (lv_at hl 0 rfl) ?_
    refine va_get (D := D) (ci := 2) (v := .ref (ad 2)) (C := RX2) (T := TX2) (N := 3) hx hb ht inX2 hown hK hP 1 g_Pad rfl 0 (by decide) (ht _ mw_30) (fun _ h9 => h9) rfl dX2_signHere_12 ?_
    refine lv_aload_n hx hb dX2_signHere_15 rfl (lv_at hl 0 rfl) ?_
    refine va_get (D := D) (ci := 2) (v := .int (gF σ 1 2)) (C := RX2) (T := TX2) (N := 3) hx hb ht inX2 hown hK hP 1 g_Pad rfl 2 (by decide) (ht _ mw_34) (fun _ h9 => h9) rfl dX2_signHere_16 ?_
    refine va_iald (i := gF σ 1 2) hx hb hK hP 2 0 g_signs rfl (IP.at_in hIc hlt) dX2_signHere_19 ?_
    refine lv_goto (tgt := 24) hx hb dX2_signHere_20 (by decide) ?_
    exact W.iret (v := gA σ 2 (gF σ 1 2).toNatClampNeg) hx hb hr (fun t ht hW => ⟨⟨gA σ 2 (gF σ 1 2).toNatClampNeg, σ, rfl, ⟨hT, rfl⟩, by rw [ht]; exact hP, va_K.moved hW.alike hK, hD⟩, hS.F ht⟩) hS.2.2 dX2_signHere_24
set_option maxHeartbeats 4000000 in
set_option maxRecDepth 100000 in
theorem k_take (l : Launch) (D : va_G) (ad : Nat → Nat) (kk : Nat → ClassId) (sz : Nat) (σ : St) (p1 : Int32) (hIc : IP σ) : Met l yX2_take wsX2_take { frames := 1, cells := 0, slots := 0, locals := 20 } (va_Pc [.ref (ad 1), .int p1] (PB D ad kk sz σ)) (va_Qi (fun r u => (r, u) = M_take σ p1) (QB D ad kk sz) (aL 96 ad sz)) 0 0 (aL 96 ad sz) := by
  refine Met.ofW (cc := cX2_take) (maxL := 2) (ret := (some .boolean)) (by decide) rfl ?_
  intro p e s m args below meth c s₁ B hml hv
  obtain ⟨rfl, hsz, hP, hK, hD0, hE⟩ := hv
  have hx := B.exec
  have hb := B.bytes
  have hr := B.returns
  have hts := atoms_spec (ws := wsX2_take) B.pre
  have hown : s.vm.findClass RX2 = some m.cls := findClass_of_methodNamed B.named
  have hlocks := B.notSynchronized
  subst hsz
  have hD : va_D (aL 96 ad s.heap.size) (wB ad kk σ) := aL_D hD0
  have hS : va_S (aL 96 ad s.heap.size) s.heap s.heap [] := va_S.rf
  have hl := lv_entry ([.ref (ad 1), .int p1]) (n := 2) (Nat.le_of_ble_eq_true rfl)
  rw [lg_entry_eq]
  generalize (lg_sl ([.ref (ad 1), .int p1]) ++ List.replicate (2 - (lg_sl ([.ref (ad 1), .int p1])).length) Slot.unset).toArray = ls at hl ⊢
  have hl : lv_has ls 2 [(0, .ref (ad 1)), (1, .int p1)] := hl
  have CF : CallFix p m c cX2_take 2 s ([.ref (ad 1), .int p1] : List Value).toArray wsX2_take RX2 := ⟨hx, hb, hml, hown, hts⟩
  have ht : ∀ w ∈ T0, w.before ([.ref (ad 1), .int p1] : List Value).toArray s = true := fun w h => hts w (List.mem_cons_of_mem _ h)
  generalize hT : M_take σ p1 = T
  rw [M_take] at hT
  refine lv_aload_n hx hb dX2_take_0 rfl (lv_at hl 0 rfl) ?_
  refine kB_i (va_runV (As := []) (rest := []) CF (k_signHere l D ad kk _ σ hIc) ⟨callB_of 0 hts (gT mw_303) rfl rfl rfl (ht _ mw_2) (ht _ mw_300) (by decide +kernel) ⟨Nat.le_of_ble_eq_true rfl, Nat.le_of_ble_eq_true rfl⟩, (ht _ mw_302), (ht _ ms_2)⟩ (preV_B hK hP hD hE hS (ci := 2) rfl rfl g_Pad) rfl rfl hl.1 rfl (lv_room (Nat.le_of_ble_eq_true rfl)) dX2_take_1 ⟨Nat.le_of_ble_eq_true rfl, Nat.le_of_ble_eq_true rfl⟩) hS (fun r1 u9 H locs hw hP hD hS => ?_)
  obtain ⟨rfl, e9⟩ := hw
  rw [e9] at hP hD
  refine lv_iload_n hx hb dX2_take_4 rfl (lv_at hl 1 rfl) ?_
  refine lv_icmp_eq (tgt := 10) hx hb dX2_take_5 (by decide) (fun c2 => ?_) (fun c2 => ?_)
  · rw [if_pos c2] at hT
    refine lv_aload_n hx hb dX2_take_10 rfl (lv_at hl 0 rfl) ?_
    refine lv_dup hx hb dX2_take_11 rfl ?_
    refine va_get (D := D) (ci := 2) (v := .int (gF σ 1 2)) (C := RX2) (T := TX2) (N := 3) hx hb ht inX2 hown hK hP 1 g_Pad rfl 2 (by decide) (ht _ mw_34) (fun _ h9 => h9) rfl dX2_take_12 ?_
    refine lv_iconst (v := 1) hx hb dX2_take_15 (by decide) ?_
    refine lv_iadd hx hb dX2_take_16 ?_
    refine va_put (D := D) (ci := 2) (v := .int ((gF σ 1 2) + 1)) (ty := .int) (C := RX2) (T := TX2) (N := 3) hx hb ht inX2 tyX2 tyX2_ok nmX2 hown hK hP hD hS 1 g_Pad rfl 2 (by decide) (ht _ mw_34) (fun _ h9 => h9) rfl (by decide +kernel) rfl rfl (Nat.le_of_ble_eq_true rfl) dX2_take_17 (fun H locs hP hD hS => ?_)
    rw [s_Pad_2] at hP hD
    refine lv_iconst (v := 1) hx hb dX2_take_20 (by decide) ?_
    exact W.zret (v := 1) hx hb hr rfl (fun t ht hW => ⟨⟨1, (sF σ 1 2 ((gF σ 1 2) + 1)), rfl, hT, by rw [ht]; exact hP, va_K.moved hW.alike hK, hD⟩, hS.F ht⟩) hS.2.2 dX2_take_21
  · rw [if_neg c2] at hT
    refine lv_iconst (v := 0) hx hb dX2_take_8 (by decide) ?_
    exact W.zret (v := 0) hx hb hr rfl (fun t ht hW => ⟨⟨0, σ, rfl, hT, by rw [ht]; exact hP, va_K.moved hW.alike hK, hD⟩, hS.F ht⟩) hS.2.2 dX2_take_9
set_option maxHeartbeats 4000000 in
set_option maxRecDepth 100000 in
theorem k_readNumber (l : Launch) (D : va_G) (ad : Nat → Nat) (kk : Nat → ClassId) (sz : Nat) (σ : St) (p1 : Int32) (p2 : Int32) (hIc : IP σ) : Met l yX2_readNumber wsX2_readNumber { frames := 1, cells := 0, slots := 0, locals := 20 } (va_Pc [.ref (ad 1), .int p1, .int p2] (PB D ad kk sz σ)) (va_Qi (fun r u => (r, u) = M_readNumber σ p1 p2) (QB D ad kk sz) (aL 96 ad sz)) 0 0 (aL 96 ad sz) := by
  refine Met.ofW (cc := cX2_readNumber) (maxL := 6) (ret := (some .int)) (by decide) rfl ?_
  intro p e s m args below meth c s₁ B hml hv
  obtain ⟨rfl, hsz, hP, hK, hD0, hE⟩ := hv
  have hx := B.exec
  have hb := B.bytes
  have hr := B.returns
  have hts := atoms_spec (ws := wsX2_readNumber) B.pre
  have hown : s.vm.findClass RX2 = some m.cls := findClass_of_methodNamed B.named
  have hlocks := B.notSynchronized
  subst hsz
  have hD : va_D (aL 96 ad s.heap.size) (wB ad kk σ) := aL_D hD0
  have hS : va_S (aL 96 ad s.heap.size) s.heap s.heap [] := va_S.rf
  have hl := lv_entry ([.ref (ad 1), .int p1, .int p2]) (n := 6) (Nat.le_of_ble_eq_true rfl)
  rw [lg_entry_eq]
  generalize (lg_sl ([.ref (ad 1), .int p1, .int p2]) ++ List.replicate (6 - (lg_sl ([.ref (ad 1), .int p1, .int p2])).length) Slot.unset).toArray = ls at hl ⊢
  have hl : lv_has ls 6 [(0, .ref (ad 1)), (1, .int p1), (2, .int p2)] := hl
  have CF : CallFix p m c cX2_readNumber 6 s ([.ref (ad 1), .int p1, .int p2] : List Value).toArray wsX2_readNumber RX2 := ⟨hx, hb, hml, hown, hts⟩
  have ht : ∀ w ∈ T0, w.before ([.ref (ad 1), .int p1, .int p2] : List Value).toArray s = true := fun w h => hts w (List.mem_cons_of_mem _ h)
  generalize hT : M_readNumber σ p1 p2 = T
  refine namedQ (fun Q eQ => ?_)
  have L_5 : ∀ (n i105 : Nat) (x5_3 : Int32) (τ5 : St) (H : Heap) (locs : List Loc) (ls : Array Slot), i105 ≤ 4 → 5 ≤ i105 + n → IP τ5 → va_P D vwCl (wB ad kk τ5) H → va_D (aL 96 ad s.heap.size) (wB ad kk τ5) → va_S (aL 96 ad s.heap.size) s.heap H locs → lv_has ls 6 [(0, .ref (ad 1)), (1, .int p1), (2, .int p2), (3, .int x5_3), (4, .int (nI i105))] → M_readNumber_h5 n i105 x5_3 τ5 p1 p2 = T → W p l e (headSpec wsX2_readNumber { frames := 1, cells := 0, slots := 0, locals := 20 }).room s m ([.ref (ad 1), .int p1, .int p2] : List Value).toArray below meth c H locs 0 0 Q (F0 m 5 ls []) := by
    intro n
    induction n with
    | zero =>
      intro i105 x5_3 τ5 H locs ls h_le h_fu hv0 hP hD hS hl hT
      exact absurd h_fu (by omega)
    | succ n ih =>
      intro i105 x5_3 τ5 H locs ls h_le h_fu hv0 hP hD hS hl hT
      rw [M_readNumber_h5] at hT
      refine lv_iload hx hb dX2_readNumber_5 (lv_at hl 4 rfl) ?_
      refine lv_iconst (v := 4) hx hb dX2_readNumber_7 (by decide) ?_
      refine lv_icmp_ge (tgt := 75) hx hb dX2_readNumber_8 (by decide) (fun c1 => ?_) (fun c1 => ?_)
      · rw [if_pos c1] at hT
        refine lv_iload hx hb dX2_readNumber_75 (lv_at hl 4 rfl) ?_
        refine lv_if_eq (tgt := 85) hx hb dX2_readNumber_77 (by decide) (fun c2 => ?_) (fun c2 => ?_)
        · rw [if_pos c2] at hT
          refine lv_iconst (v := (-1)) hx hb dX2_readNumber_85 (by decide) ?_
          refine lv_goto (tgt := 90) hx hb dX2_readNumber_86 (by decide) ?_
          rw [eQ]
          exact W.iret (v := (-1)) hx hb hr (fun t ht hW => ⟨⟨(-1), τ5, rfl, hT, by rw [ht]; exact hP, va_K.moved hW.alike hK, hD⟩, hS.F ht⟩) hS.2.2 dX2_readNumber_90
        · rw [if_neg c2] at hT
          refine lv_iload_n hx hb dX2_readNumber_80 rfl (lv_at hl 3 rfl) ?_
          refine lv_iload_n hx hb dX2_readNumber_81 rfl (lv_at hl 1 rfl) ?_
          refine lv_icmp_ge (tgt := 89) hx hb dX2_readNumber_82 (by decide) (fun c3 => ?_) (fun c3 => ?_)
          · rw [if_pos c3] at hT
            refine lv_iload_n hx hb dX2_readNumber_89 rfl (lv_at hl 3 rfl) ?_
            rw [eQ]
            exact W.iret (v := x5_3) hx hb hr (fun t ht hW => ⟨⟨x5_3, τ5, rfl, hT, by rw [ht]; exact hP, va_K.moved hW.alike hK, hD⟩, hS.F ht⟩) hS.2.2 dX2_readNumber_90
          · rw [if_neg c3] at hT
            refine lv_iconst (v := (-1)) hx hb dX2_readNumber_85 (by decide) ?_
            refine lv_goto (tgt := 90) hx hb dX2_readNumber_86 (by decide) ?_
            rw [eQ]
            exact W.iret (v := (-1)) hx hb hr (fun t ht hW => ⟨⟨(-1), τ5, rfl, hT, by rw [ht]; exact hP, va_K.moved hW.alike hK, hD⟩, hS.F ht⟩) hS.2.2 dX2_readNumber_90
      · rw [if_neg c1] at hT
        have h_lt := lp_lt (N := 4) (by decide) (by decide) h_le c1
        refine lv_aload_n hx hb dX2_readNumber_11 rfl (lv_at hl 0 rfl) ?_
        refine kB_i (va_runV (As := []) (rest := []) CF (k_signHere l D ad kk _ τ5 hv0) ⟨callB_of 0 hts (gT mw_303) rfl rfl rfl (ht _ mw_2) (ht _ mw_300) (by decide +kernel) ⟨Nat.le_of_ble_eq_true rfl, Nat.le_of_ble_eq_true rfl⟩, (ht _ mw_302), (ht _ ms_2)⟩ (preV_B hK hP hD hE hS (ci := 2) rfl rfl g_Pad) rfl rfl hl.1 rfl (lv_room (Nat.le_of_ble_eq_true rfl)) dX2_readNumber_12 ⟨Nat.le_of_ble_eq_true rfl, Nat.le_of_ble_eq_true rfl⟩) hS (fun r4 u9 H locs hw hP hD hS => ?_)
        obtain ⟨rfl, e9⟩ := hw
        rw [e9] at hP hD
        refine vp_callSi (W.runS (As := [.int (M_signHere τ5)]) (rest := []) CF (k_isDigit l (M_signHere τ5)) ⟨callB_of 1 hts (gT mw_318) rfl rfl rfl (ht _ mw_2) (ht _ mw_316) (by decide +kernel) ⟨Nat.le_of_ble_eq_true rfl, Nat.le_of_ble_eq_true rfl⟩, (ht _ mw_317)⟩ preEq rfl rfl hl.1 rfl (lv_room (Nat.le_of_ble_eq_true rfl)) dX2_readNumber_15 ⟨Nat.le_of_ble_eq_true rfl, Nat.le_of_ble_eq_true rfl⟩) (fun r5 h_r5 => ?_)
        obtain rfl := h_r5
        refine lv_if_eq (tgt := 75) hx hb dX2_readNumber_18 (by decide) (fun c6 => ?_) (fun c6 => ?_)
        · rw [if_pos c6] at hT
          refine lv_iload hx hb dX2_readNumber_75 (lv_at hl 4 rfl) ?_
          refine lv_if_eq (tgt := 85) hx hb dX2_readNumber_77 (by decide) (fun c7 => ?_) (fun c7 => ?_)
          · rw [if_pos c7] at hT
            refine lv_iconst (v := (-1)) hx hb dX2_readNumber_85 (by decide) ?_
            refine lv_goto (tgt := 90) hx hb dX2_readNumber_86 (by decide) ?_
            rw [eQ]
            exact W.iret (v := (-1)) hx hb hr (fun t ht hW => ⟨⟨(-1), τ5, rfl, hT, by rw [ht]; exact hP, va_K.moved hW.alike hK, hD⟩, hS.F ht⟩) hS.2.2 dX2_readNumber_90
          · rw [if_neg c7] at hT
            refine lv_iload_n hx hb dX2_readNumber_80 rfl (lv_at hl 3 rfl) ?_
            refine lv_iload_n hx hb dX2_readNumber_81 rfl (lv_at hl 1 rfl) ?_
            refine lv_icmp_ge (tgt := 89) hx hb dX2_readNumber_82 (by decide) (fun c8 => ?_) (fun c8 => ?_)
            · rw [if_pos c8] at hT
              refine lv_iload_n hx hb dX2_readNumber_89 rfl (lv_at hl 3 rfl) ?_
              rw [eQ]
              exact W.iret (v := x5_3) hx hb hr (fun t ht hW => ⟨⟨x5_3, τ5, rfl, hT, by rw [ht]; exact hP, va_K.moved hW.alike hK, hD⟩, hS.F ht⟩) hS.2.2 dX2_readNumber_90
            · rw [if_neg c8] at hT
              refine lv_iconst (v := (-1)) hx hb dX2_readNumber_85 (by decide) ?_
              refine lv_goto (tgt := 90) hx hb dX2_readNumber_86 (by decide) ?_
              rw [eQ]
              exact W.iret (v := (-1)) hx hb hr (fun t ht hW => ⟨⟨(-1), τ5, rfl, hT, by rw [ht]; exact hP, va_K.moved hW.alike hK, hD⟩, hS.F ht⟩) hS.2.2 dX2_readNumber_90
        · rw [if_neg c6] at hT
          have hdg := c6
          refine lv_iload_n hx hb dX2_readNumber_21 rfl (lv_at hl 3 rfl) ?_
          refine lv_bipush (v := 10) hx hb dX2_readNumber_22 (by decide) ?_
          refine lv_imul hx hb dX2_readNumber_24 ?_
          refine lv_aload_n hx hb dX2_readNumber_25 rfl (lv_at hl 0 rfl) ?_
          refine kB_i (va_runV (As := []) (rest := [.int (x5_3 * 10)]) CF (k_signHere l D ad kk _ τ5 hv0) ⟨callB_of 0 hts (gT mw_303) rfl rfl rfl (ht _ mw_2) (ht _ mw_300) (by decide +kernel) ⟨Nat.le_of_ble_eq_true rfl, Nat.le_of_ble_eq_true rfl⟩, (ht _ mw_302), (ht _ ms_2)⟩ (preV_B hK hP hD hE hS (ci := 2) rfl rfl g_Pad) rfl rfl hl.1 rfl (lv_room (Nat.le_of_ble_eq_true rfl)) dX2_readNumber_26 ⟨Nat.le_of_ble_eq_true rfl, Nat.le_of_ble_eq_true rfl⟩) hS (fun r9 u9 H locs hw hP hD hS => ?_)
          obtain ⟨rfl, e9⟩ := hw
          rw [e9] at hP hD
          refine lv_bipush (v := 48) hx hb dX2_readNumber_29 (by decide) ?_
          refine lv_isub hx hb dX2_readNumber_31 ?_
          refine lv_iadd hx hb dX2_readNumber_32 ?_
          refine lv_istore (lv' := [(5, .int ((x5_3 * 10) + ((M_signHere τ5) - 48))), (0, .ref (ad 1)), (1, .int p1), (2, .int p2), (3, .int x5_3), (4, .int (nI i105))]) hx hb dX2_readNumber_33 hl (by decide) rfl (fun ls hl => ?_)
          refine lv_iload hx hb dX2_readNumber_35 (lv_at hl 0 rfl) ?_
          refine lv_iload_n hx hb dX2_readNumber_37 rfl (lv_at hl 3 rfl) ?_
          refine lv_icmp_gt (tgt := 75) hx hb dX2_readNumber_38 (by decide) (fun c10 => ?_) (fun c10 => ?_)
          · rw [if_pos c10] at hT
            refine lv_iload hx hb dX2_readNumber_75 (lv_at hl 5 rfl) ?_
            refine lv_if_eq (tgt := 85) hx hb dX2_readNumber_77 (by decide) (fun c11 => ?_) (fun c11 => ?_)
            · rw [if_pos c11] at hT
              refine lv_iconst (v := (-1)) hx hb dX2_readNumber_85 (by decide) ?_
              refine lv_goto (tgt := 90) hx hb dX2_readNumber_86 (by decide) ?_
              rw [eQ]
              exact W.iret (v := (-1)) hx hb hr (fun t ht hW => ⟨⟨(-1), τ5, rfl, hT, by rw [ht]; exact hP, va_K.moved hW.alike hK, hD⟩, hS.F ht⟩) hS.2.2 dX2_readNumber_90
            · rw [if_neg c11] at hT
              refine lv_iload_n hx hb dX2_readNumber_80 rfl (lv_at hl 4 rfl) ?_
              refine lv_iload_n hx hb dX2_readNumber_81 rfl (lv_at hl 2 rfl) ?_
              refine lv_icmp_ge (tgt := 89) hx hb dX2_readNumber_82 (by decide) (fun c12 => ?_) (fun c12 => ?_)
              · rw [if_pos c12] at hT
                refine lv_iload_n hx hb dX2_readNumber_89 rfl (lv_at hl 4 rfl) ?_
                rw [eQ]
                exact W.iret (v := x5_3) hx hb hr (fun t ht hW => ⟨⟨x5_3, τ5, rfl, hT, by rw [ht]; exact hP, va_K.moved hW.alike hK, hD⟩, hS.F ht⟩) hS.2.2 dX2_readNumber_90
              · rw [if_neg c12] at hT
                refine lv_iconst (v := (-1)) hx hb dX2_readNumber_85 (by decide) ?_
                refine lv_goto (tgt := 90) hx hb dX2_readNumber_86 (by decide) ?_
                rw [eQ]
                exact W.iret (v := (-1)) hx hb hr (fun t ht hW => ⟨⟨(-1), τ5, rfl, hT, by rw [ht]; exact hP, va_K.moved hW.alike hK, hD⟩, hS.F ht⟩) hS.2.2 dX2_readNumber_90
          · rw [if_neg c10] at hT
            refine lv_iload hx hb dX2_readNumber_41 (lv_at hl 5 rfl) ?_
            refine lv_iconst (v := 3) hx hb dX2_readNumber_43 (by decide) ?_
            refine lv_icmp_ne (tgt := 56) hx hb dX2_readNumber_44 (by decide) (fun c13 => ?_) (fun c13 => ?_)
            · rw [if_neg c13] at hT
              refine lv_iload hx hb dX2_readNumber_56 (lv_at hl 0 rfl) ?_
              refine lv_istore_n (lv' := [(3, .int ((x5_3 * 10) + ((M_signHere τ5) - 48))), (5, .int ((x5_3 * 10) + ((M_signHere τ5) - 48))), (0, .ref (ad 1)), (1, .int p1), (2, .int p2), (4, .int (nI i105))]) hx hb dX2_readNumber_58 rfl hl (by decide) rfl (fun ls hl => ?_)
              refine lv_iinc (v := nI (i105 + 1)) (lv' := [(4, .int (nI (i105 + 1))), (3, .int ((x5_3 * 10) + ((M_signHere τ5) - 48))), (5, .int ((x5_3 * 10) + ((M_signHere τ5) - 48))), (0, .ref (ad 1)), (1, .int p1), (2, .int p2)]) hx hb dX2_readNumber_59 hl (k := 5) rfl (nI_1 i105) (by decide) rfl (fun ls hl => ?_)
              refine lv_aload_n hx hb dX2_readNumber_62 rfl (lv_at hl 3 rfl) ?_
              refine lv_dup hx hb dX2_readNumber_63 rfl ?_
              refine va_get (D := D) (ci := 2) (v := .int (gF τ5 1 2)) (C := RX2) (T := TX2) (N := 3) hx hb ht inX2 hown hK hP 1 g_Pad rfl 2 (by decide) (ht _ mw_34) (fun _ h9 => h9) rfl dX2_readNumber_64 ?_
              refine lv_iconst (v := 1) hx hb dX2_readNumber_67 (by decide) ?_
              refine lv_iadd hx hb dX2_readNumber_68 ?_
              refine va_put (D := D) (ci := 2) (v := .int ((gF τ5 1 2) + 1)) (ty := .int) (C := RX2) (T := TX2) (N := 3) hx hb ht inX2 tyX2 tyX2_ok nmX2 hown hK hP hD hS 1 g_Pad rfl 2 (by decide) (ht _ mw_34) (fun _ h9 => h9) rfl (by decide +kernel) rfl rfl (Nat.le_of_ble_eq_true rfl) dX2_readNumber_69 (fun H locs hP hD hS => ?_)
              rw [s_Pad_2] at hP hD
              refine lv_goto (tgt := 5) hx hb dX2_readNumber_72 (by decide) ?_
              exact ih  (i105 + 1) ((x5_3 * 10) + ((M_signHere τ5) - 48)) (sF τ5 1 2 ((gF τ5 1 2) + 1)) _ _ ls h_lt (by omega) (IP.step hv0 hdg) hP hD hS (lv_sub hl [3, 4, 5, 1, 0] rfl) hT
            · rw [if_pos c13] at hT
              refine lv_iload hx hb dX2_readNumber_47 (lv_at hl 0 rfl) ?_
              refine lv_iload_n hx hb dX2_readNumber_49 rfl (lv_at hl 2 rfl) ?_
              refine lv_icmp_ge (tgt := 56) hx hb dX2_readNumber_50 (by decide) (fun c14 => ?_) (fun c14 => ?_)
              · rw [if_pos c14] at hT
                refine lv_iload hx hb dX2_readNumber_56 (lv_at hl 0 rfl) ?_
                refine lv_istore_n (lv' := [(3, .int ((x5_3 * 10) + ((M_signHere τ5) - 48))), (5, .int ((x5_3 * 10) + ((M_signHere τ5) - 48))), (0, .ref (ad 1)), (1, .int p1), (2, .int p2), (4, .int (nI i105))]) hx hb dX2_readNumber_58 rfl hl (by decide) rfl (fun ls hl => ?_)
                refine lv_iinc (v := nI (i105 + 1)) (lv' := [(4, .int (nI (i105 + 1))), (3, .int ((x5_3 * 10) + ((M_signHere τ5) - 48))), (5, .int ((x5_3 * 10) + ((M_signHere τ5) - 48))), (0, .ref (ad 1)), (1, .int p1), (2, .int p2)]) hx hb dX2_readNumber_59 hl (k := 5) rfl (nI_1 i105) (by decide) rfl (fun ls hl => ?_)
                refine lv_aload_n hx hb dX2_readNumber_62 rfl (lv_at hl 3 rfl) ?_
                refine lv_dup hx hb dX2_readNumber_63 rfl ?_
                refine va_get (D := D) (ci := 2) (v := .int (gF τ5 1 2)) (C := RX2) (T := TX2) (N := 3) hx hb ht inX2 hown hK hP 1 g_Pad rfl 2 (by decide) (ht _ mw_34) (fun _ h9 => h9) rfl dX2_readNumber_64 ?_
                refine lv_iconst (v := 1) hx hb dX2_readNumber_67 (by decide) ?_
                refine lv_iadd hx hb dX2_readNumber_68 ?_
                refine va_put (D := D) (ci := 2) (v := .int ((gF τ5 1 2) + 1)) (ty := .int) (C := RX2) (T := TX2) (N := 3) hx hb ht inX2 tyX2 tyX2_ok nmX2 hown hK hP hD hS 1 g_Pad rfl 2 (by decide) (ht _ mw_34) (fun _ h9 => h9) rfl (by decide +kernel) rfl rfl (Nat.le_of_ble_eq_true rfl) dX2_readNumber_69 (fun H locs hP hD hS => ?_)
                rw [s_Pad_2] at hP hD
                refine lv_goto (tgt := 5) hx hb dX2_readNumber_72 (by decide) ?_
                exact ih  (i105 + 1) ((x5_3 * 10) + ((M_signHere τ5) - 48)) (sF τ5 1 2 ((gF τ5 1 2) + 1)) _ _ ls h_lt (by omega) (IP.step hv0 hdg) hP hD hS (lv_sub hl [3, 4, 5, 1, 0] rfl) hT
              · rw [if_neg c14] at hT
                refine lv_goto (tgt := 75) hx hb dX2_readNumber_53 (by decide) ?_
                refine lv_iload hx hb dX2_readNumber_75 (lv_at hl 5 rfl) ?_
                refine lv_if_eq (tgt := 85) hx hb dX2_readNumber_77 (by decide) (fun c15 => ?_) (fun c15 => ?_)
                · rw [if_pos c15] at hT
                  refine lv_iconst (v := (-1)) hx hb dX2_readNumber_85 (by decide) ?_
                  refine lv_goto (tgt := 90) hx hb dX2_readNumber_86 (by decide) ?_
                  rw [eQ]
                  exact W.iret (v := (-1)) hx hb hr (fun t ht hW => ⟨⟨(-1), τ5, rfl, hT, by rw [ht]; exact hP, va_K.moved hW.alike hK, hD⟩, hS.F ht⟩) hS.2.2 dX2_readNumber_90
                · rw [if_neg c15] at hT
                  refine lv_iload_n hx hb dX2_readNumber_80 rfl (lv_at hl 4 rfl) ?_
                  refine lv_iload_n hx hb dX2_readNumber_81 rfl (lv_at hl 2 rfl) ?_
                  refine lv_icmp_ge (tgt := 89) hx hb dX2_readNumber_82 (by decide) (fun c16 => ?_) (fun c16 => ?_)
                  · rw [if_pos c16] at hT
                    refine lv_iload_n hx hb dX2_readNumber_89 rfl (lv_at hl 4 rfl) ?_
                    rw [eQ]
                    exact W.iret (v := x5_3) hx hb hr (fun t ht hW => ⟨⟨x5_3, τ5, rfl, hT, by rw [ht]; exact hP, va_K.moved hW.alike hK, hD⟩, hS.F ht⟩) hS.2.2 dX2_readNumber_90
                  · rw [if_neg c16] at hT
                    refine lv_iconst (v := (-1)) hx hb dX2_readNumber_85 (by decide) ?_
                    refine lv_goto (tgt := 90) hx hb dX2_readNumber_86 (by decide) ?_
                    rw [eQ]
                    exact W.iret (v := (-1)) hx hb hr (fun t ht hW => ⟨⟨(-1), τ5, rfl, hT, by rw [ht]; exact hP, va_K.moved hW.alike hK, hD⟩, hS.F ht⟩) hS.2.2 dX2_readNumber_90
  rw [M_readNumber] at hT
  refine lv_iconst (v := 0) hx hb dX2_readNumber_0 (by decide) ?_
  refine lv_istore_n (lv' := [(3, .int 0), (0, .ref (ad 1)), (1, .int p1), (2, .int p2)]) hx hb dX2_readNumber_1 rfl hl (by decide) rfl (fun ls hl => ?_)
  refine lv_iconst (v := 0) hx hb dX2_readNumber_2 (by decide) ?_
  refine lv_istore (lv' := [(4, .int 0), (3, .int 0), (0, .ref (ad 1)), (1, .int p1), (2, .int p2)]) hx hb dX2_readNumber_3 hl (by decide) rfl (fun ls hl => ?_)
  exact L_5 5 0 0 σ _ _ ls (Nat.zero_le _) (by decide) hIc hP hD hS (lv_sub hl [2, 3, 4, 1, 0] rfl) hT
set_option maxHeartbeats 4000000 in
set_option maxRecDepth 100000 in
theorem k_readUse (l : Launch) (D : va_G) (ad : Nat → Nat) (kk : Nat → ClassId) (sz : Nat) (σ : St) (i1 : Nat) (h1 : i1 < 12) (hIc : IP σ) : Met l yX2_readUse wsX2_readUse { frames := 2, cells := 0, slots := 0, locals := 45 } (va_Pc [.ref (ad 1), .ref (ad (pMe i1))] (PB D ad kk sz σ)) (va_Qi (fun r u => (r, u) = M_readUse σ i1) (QB D ad kk sz) (aL 96 ad sz)) 0 0 (aL 96 ad sz) := by
  refine Met.ofW (cc := cX2_readUse) (maxL := 4) (ret := (some .boolean)) (by decide) rfl ?_
  intro p e s m args below meth c s₁ B hml hv
  obtain ⟨rfl, hsz, hP, hK, hD0, hE⟩ := hv
  have hx := B.exec
  have hb := B.bytes
  have hr := B.returns
  have hts := atoms_spec (ws := wsX2_readUse) B.pre
  have hown : s.vm.findClass RX2 = some m.cls := findClass_of_methodNamed B.named
  have hlocks := B.notSynchronized
  subst hsz
  have hD : va_D (aL 96 ad s.heap.size) (wB ad kk σ) := aL_D hD0
  have hS : va_S (aL 96 ad s.heap.size) s.heap s.heap [] := va_S.rf
  have hl := lv_entry ([.ref (ad 1), .ref (ad (pMe i1))]) (n := 4) (Nat.le_of_ble_eq_true rfl)
  rw [lg_entry_eq]
  generalize (lg_sl ([.ref (ad 1), .ref (ad (pMe i1))]) ++ List.replicate (4 - (lg_sl ([.ref (ad 1), .ref (ad (pMe i1))])).length) Slot.unset).toArray = ls at hl ⊢
  have hl : lv_has ls 4 [(0, .ref (ad 1)), (1, .ref (ad (pMe i1)))] := hl
  have CF : CallFix p m c cX2_readUse 4 s ([.ref (ad 1), .ref (ad (pMe i1))] : List Value).toArray wsX2_readUse RX2 := ⟨hx, hb, hml, hown, hts⟩
  have ht : ∀ w ∈ T0, w.before ([.ref (ad 1), .ref (ad (pMe i1))] : List Value).toArray s = true := fun w h => hts w (List.mem_cons_of_mem _ h)
  generalize hT : M_readUse σ i1 = T
  rw [M_readUse] at hT
  refine lv_aload_n hx hb dX2_readUse_0 rfl (lv_at hl 0 rfl) ?_
  refine lv_iconst (v := 0) hx hb dX2_readUse_1 (by decide) ?_
  refine lv_bipush (v := 11) hx hb dX2_readUse_2 (by decide) ?_
  refine kB_i (va_runV (As := [.int 0, .int 11]) (rest := []) CF (k_readNumber l D ad kk _ σ 0 11 hIc) ⟨callB_of 2 hts (gT mw_315) rfl rfl rfl (ht _ mw_2) (ht _ mw_312) (by decide +kernel) ⟨Nat.le_of_ble_eq_true rfl, Nat.le_of_ble_eq_true rfl⟩, (ht _ mw_314), (ht _ ms_5)⟩ (preV_B hK hP hD hE hS (ci := 2) rfl rfl g_Pad) rfl rfl hl.1 rfl (lv_room (Nat.le_of_ble_eq_true rfl)) dX2_readUse_4 ⟨Nat.le_of_ble_eq_true rfl, Nat.le_of_ble_eq_true rfl⟩) hS (fun r1 σ2 H locs hw hP hD hS => ?_)
  rw [← hw, pb_mk] at hT
  have h_r1 := hw
  have hn := num_in (N := 12) hIc h_r1 (by decide) (by decide) (by decide)
  have hIc := IP.num hIc h_r1
  refine lv_istore_n (lv' := [(2, .int r1), (0, .ref (ad 1)), (1, .ref (ad (pMe i1)))]) hx hb dX2_readUse_7 rfl hl (by decide) rfl (fun ls hl => ?_)
  refine lv_iload_n hx hb dX2_readUse_8 rfl (lv_at hl 0 rfl) ?_
  refine lv_iconst (v := (-1)) hx hb dX2_readUse_9 (by decide) ?_
  refine lv_icmp_eq (tgt := 22) hx hb dX2_readUse_10 (by decide) (fun c3 => ?_) (fun c3 => ?_)
  · rw [if_pos c3] at hT
    refine lv_iconst (v := 0) hx hb dX2_readUse_22 (by decide) ?_
    exact W.zret (v := 0) hx hb hr rfl (fun t ht hW => ⟨⟨0, σ2, rfl, hT, by rw [ht]; exact hP, va_K.moved hW.alike hK, hD⟩, hS.F ht⟩) hS.2.2 dX2_readUse_23
  · rw [if_neg c3] at hT
    have hne := c3
    refine lv_aload_n hx hb dX2_readUse_13 rfl (lv_at hl 1 rfl) ?_
    refine lv_bipush (v := 42) hx hb dX2_readUse_14 (by decide) ?_
    refine kB_i (va_runV (As := [.int 42]) (rest := []) CF (k_take l D ad kk _ σ2 42 hIc) ⟨callB_of 1 hts (gT mw_299) rfl rfl rfl (ht _ mw_2) (ht _ mw_296) (by decide +kernel) ⟨Nat.le_of_ble_eq_true rfl, Nat.le_of_ble_eq_true rfl⟩, (ht _ mw_298), (ht _ ms_1)⟩ (preV_B hK hP hD hE hS (ci := 2) rfl rfl g_Pad) rfl rfl hl.1 rfl (lv_room (Nat.le_of_ble_eq_true rfl)) dX2_readUse_16 ⟨Nat.le_of_ble_eq_true rfl, Nat.le_of_ble_eq_true rfl⟩) hS (fun r4 σ5 H locs hw hP hD hS => ?_)
    rw [← hw, pb_mk] at hT
    have h_r4 := hw
    have hIc := IP.take hIc h_r4
    refine lv_if_ne (tgt := 24) hx hb dX2_readUse_19 (by decide) (fun c6 => ?_) (fun c6 => ?_)
    · rw [if_neg c6] at hT
      refine lv_aload_n hx hb dX2_readUse_24 rfl (lv_at hl 1 rfl) ?_
      refine lv_iconst (v := 1) hx hb dX2_readUse_25 (by decide) ?_
      refine lv_sipush (v := 9999) hx hb dX2_readUse_26 (by decide) ?_
      refine kB_i (va_runV (As := [.int 1, .int 9999]) (rest := []) CF (k_readNumber l D ad kk _ σ5 1 9999 hIc) ⟨callB_of 2 hts (gT mw_315) rfl rfl rfl (ht _ mw_2) (ht _ mw_312) (by decide +kernel) ⟨Nat.le_of_ble_eq_true rfl, Nat.le_of_ble_eq_true rfl⟩, (ht _ mw_314), (ht _ ms_5)⟩ (preV_B hK hP hD hE hS (ci := 2) rfl rfl g_Pad) rfl rfl hl.1 rfl (lv_room (Nat.le_of_ble_eq_true rfl)) dX2_readUse_29 ⟨Nat.le_of_ble_eq_true rfl, Nat.le_of_ble_eq_true rfl⟩) hS (fun r7 σ8 H locs hw hP hD hS => ?_)
      rw [← hw, pb_mk] at hT
      have h_r7 := hw
      refine lv_istore_n (lv' := [(3, .int r7), (2, .int r1), (0, .ref (ad 1)), (1, .ref (ad (pMe i1)))]) hx hb dX2_readUse_32 rfl hl (by decide) rfl (fun ls hl => ?_)
      refine lv_iload_n hx hb dX2_readUse_33 rfl (lv_at hl 0 rfl) ?_
      refine lv_iconst (v := (-1)) hx hb dX2_readUse_34 (by decide) ?_
      refine lv_icmp_ne (tgt := 40) hx hb dX2_readUse_35 (by decide) (fun c9 => ?_) (fun c9 => ?_)
      · rw [if_neg c9] at hT
        refine lv_aload_n hx hb dX2_readUse_40 rfl (lv_at hl 3 rfl) ?_
        refine va_get (D := D) (ci := 1) (v := .ref (ad (pMe i1 + 1))) (C := RX1) (T := TX1) (N := 9) hx hb ht inX1 hown hK hP (pMe i1) (g_Me h1) rfl 0 (by decide) (ht _ mw_53) (fun _ h9 => h9) rfl dX2_readUse_41 ?_
        refine lv_iload_n hx hb dX2_readUse_44 rfl (lv_at hl 1 rfl) ?_
        refine lv_dup2_11 hx hb dX2_readUse_45 rfl rfl ?_
        refine va_iald (i := r1) hx hb hK hP (pMe i1 + 1) 0 (g_Ma h1) rfl (hn hne) dX2_readUse_46 ?_
        refine lv_iload_n hx hb dX2_readUse_47 rfl (lv_at hl 0 rfl) ?_
        refine lv_iadd hx hb dX2_readUse_48 ?_
        refine va_iast (i := r1) (x := (gA σ8 (pMe i1 + 1) r1.toNatClampNeg) + r7) hx hb hK hP hD hS (pMe i1 + 1) 0 (g_Ma h1) rfl (hn hne) dX2_readUse_49 (fun H locs hP hD hS => ?_)
        rw [s_Ma h1] at hP hD
        refine lv_iconst (v := 1) hx hb dX2_readUse_50 (by decide) ?_
        exact W.zret (v := 1) hx hb hr rfl (fun t ht hW => ⟨⟨1, (sA σ8 (pMe i1 + 1) r1.toNatClampNeg ((gA σ8 (pMe i1 + 1) r1.toNatClampNeg) + r7)), rfl, hT, by rw [ht]; exact hP, va_K.moved hW.alike hK, hD⟩, hS.F ht⟩) hS.2.2 dX2_readUse_51
      · rw [if_pos c9] at hT
        refine lv_iconst (v := 0) hx hb dX2_readUse_38 (by decide) ?_
        exact W.zret (v := 0) hx hb hr rfl (fun t ht hW => ⟨⟨0, σ8, rfl, hT, by rw [ht]; exact hP, va_K.moved hW.alike hK, hD⟩, hS.F ht⟩) hS.2.2 dX2_readUse_39
    · rw [if_pos c6] at hT
      refine lv_iconst (v := 0) hx hb dX2_readUse_22 (by decide) ?_
      exact W.zret (v := 0) hx hb hr rfl (fun t ht hW => ⟨⟨0, σ5, rfl, hT, by rw [ht]; exact hP, va_K.moved hW.alike hK, hD⟩, hS.F ht⟩) hS.2.2 dX2_readUse_23
set_option maxHeartbeats 4000000 in
set_option maxRecDepth 100000 in
theorem k_readBar (l : Launch) (D : va_G) (ad : Nat → Nat) (kk : Nat → ClassId) (sz : Nat) (σ : St) (i1 : Nat) (h1 : i1 < 12) (hIc : IP σ) : Met l yX2_readBar wsX2_readBar { frames := 2, cells := 0, slots := 0, locals := 45 } (va_Pc [.ref (ad 1), .ref (ad (pMe i1))] (PB D ad kk sz σ)) (va_Qi (fun r u => (r, u) = M_readBar σ i1) (QB D ad kk sz) (aL 96 ad sz)) 0 0 (aL 96 ad sz) := by
  refine Met.ofW (cc := cX2_readBar) (maxL := 3) (ret := (some .boolean)) (by decide) rfl ?_
  intro p e s m args below meth c s₁ B hml hv
  obtain ⟨rfl, hsz, hP, hK, hD0, hE⟩ := hv
  have hx := B.exec
  have hb := B.bytes
  have hr := B.returns
  have hts := atoms_spec (ws := wsX2_readBar) B.pre
  have hown : s.vm.findClass RX2 = some m.cls := findClass_of_methodNamed B.named
  have hlocks := B.notSynchronized
  subst hsz
  have hD : va_D (aL 96 ad s.heap.size) (wB ad kk σ) := aL_D hD0
  have hS : va_S (aL 96 ad s.heap.size) s.heap s.heap [] := va_S.rf
  have hl := lv_entry ([.ref (ad 1), .ref (ad (pMe i1))]) (n := 3) (Nat.le_of_ble_eq_true rfl)
  rw [lg_entry_eq]
  generalize (lg_sl ([.ref (ad 1), .ref (ad (pMe i1))]) ++ List.replicate (3 - (lg_sl ([.ref (ad 1), .ref (ad (pMe i1))])).length) Slot.unset).toArray = ls at hl ⊢
  have hl : lv_has ls 3 [(0, .ref (ad 1)), (1, .ref (ad (pMe i1)))] := hl
  have CF : CallFix p m c cX2_readBar 3 s ([.ref (ad 1), .ref (ad (pMe i1))] : List Value).toArray wsX2_readBar RX2 := ⟨hx, hb, hml, hown, hts⟩
  have ht : ∀ w ∈ T0, w.before ([.ref (ad 1), .ref (ad (pMe i1))] : List Value).toArray s = true := fun w h => hts w (List.mem_cons_of_mem _ h)
  generalize hT : M_readBar σ i1 = T
  rw [M_readBar] at hT
  refine lv_aload_n hx hb dX2_readBar_0 rfl (lv_at hl 0 rfl) ?_
  refine lv_iconst (v := 0) hx hb dX2_readBar_1 (by decide) ?_
  refine lv_bipush (v := 9) hx hb dX2_readBar_2 (by decide) ?_
  refine kB_i (va_runV (As := [.int 0, .int 9]) (rest := []) CF (k_readNumber l D ad kk _ σ 0 9 hIc) ⟨callB_of 2 hts (gT mw_315) rfl rfl rfl (ht _ mw_2) (ht _ mw_312) (by decide +kernel) ⟨Nat.le_of_ble_eq_true rfl, Nat.le_of_ble_eq_true rfl⟩, (ht _ mw_314), (ht _ ms_5)⟩ (preV_B hK hP hD hE hS (ci := 2) rfl rfl g_Pad) rfl rfl hl.1 rfl (lv_room (Nat.le_of_ble_eq_true rfl)) dX2_readBar_4 ⟨Nat.le_of_ble_eq_true rfl, Nat.le_of_ble_eq_true rfl⟩) hS (fun r1 σ2 H locs hw hP hD hS => ?_)
  rw [← hw, pb_mk] at hT
  have h_r1 := hw
  refine lv_istore_n (lv' := [(2, .int r1), (0, .ref (ad 1)), (1, .ref (ad (pMe i1)))]) hx hb dX2_readBar_7 rfl hl (by decide) rfl (fun ls hl => ?_)
  refine lv_iload_n hx hb dX2_readBar_8 rfl (lv_at hl 0 rfl) ?_
  refine lv_iconst (v := (-1)) hx hb dX2_readBar_9 (by decide) ?_
  refine lv_icmp_ne (tgt := 15) hx hb dX2_readBar_10 (by decide) (fun c3 => ?_) (fun c3 => ?_)
  · rw [if_neg c3] at hT
    refine lv_aload_n hx hb dX2_readBar_15 rfl (lv_at hl 2 rfl) ?_
    refine lv_aload_n hx hb dX2_readBar_16 rfl (lv_at hl 2 rfl) ?_
    refine va_get (D := D) (ci := 1) (v := .int (gF σ2 (pMe i1) 2)) (C := RX1) (T := TX1) (N := 9) hx hb ht inX1 hown hK hP (pMe i1) (g_Me h1) rfl 2 (by decide) (ht _ mw_58) (fun _ h9 => h9) rfl dX2_readBar_17 ?_
    refine lv_iload_n hx hb dX2_readBar_20 rfl (lv_at hl 0 rfl) ?_
    refine lv_iconst (v := 1) hx hb dX2_readBar_21 (by decide) ?_
    refine vp_callSi ((va_runSN (As := [.int (gF σ2 (pMe i1) 2), .int r1, .int 1]) (rest := [.ref (ad (pMe i1))]) CF (k_with l (gF σ2 (pMe i1) 2) r1 1) ⟨va_cnB (host := "MaterialBars") 3 hts (gT mw_325) rfl rfl rfl (hE.nest (own := RX2) (k := 61) (y := yX4_with) (host := "MaterialBars") (by decide +kernel)) (ht _ mw_1) (by decide +kernel) ⟨Nat.le_of_ble_eq_true rfl, Nat.le_of_ble_eq_true rfl⟩, (ht _ mw_324), trivial⟩ preEq rfl rfl hl.1 rfl (lv_room (Nat.le_of_ble_eq_true rfl)) dX2_readBar_22 ⟨Nat.le_of_ble_eq_true rfl, Nat.le_of_ble_eq_true rfl⟩).run) (fun r4 h_r4 => ?_)
    obtain rfl := h_r4
    refine va_put (D := D) (ci := 1) (v := .int (M_with (gF σ2 (pMe i1) 2) r1 1)) (ty := .int) (C := RX1) (T := TX1) (N := 9) hx hb ht inX1 tyX1 tyX1_ok nmX1 hown hK hP hD hS (pMe i1) (g_Me h1) rfl 2 (by decide) (ht _ mw_58) (fun _ h9 => h9) rfl (by decide +kernel) rfl rfl (Nat.le_of_ble_eq_true rfl) dX2_readBar_25 (fun H locs hP hD hS => ?_)
    rw [s_Me_2 h1] at hP hD
    refine lv_iconst (v := 1) hx hb dX2_readBar_28 (by decide) ?_
    exact W.zret (v := 1) hx hb hr rfl (fun t ht hW => ⟨⟨1, (sF σ2 (pMe i1) 2 (M_with (gF σ2 (pMe i1) 2) r1 1)), rfl, hT, by rw [ht]; exact hP, va_K.moved hW.alike hK, hD⟩, hS.F ht⟩) hS.2.2 dX2_readBar_29
  · rw [if_pos c3] at hT
    refine lv_iconst (v := 0) hx hb dX2_readBar_13 (by decide) ?_
    exact W.zret (v := 0) hx hb hr rfl (fun t ht hW => ⟨⟨0, σ2, rfl, hT, by rw [ht]; exact hP, va_K.moved hW.alike hK, hD⟩, hS.F ht⟩) hS.2.2 dX2_readBar_14
set_option maxHeartbeats 4000000 in
set_option maxRecDepth 100000 in
theorem k_readNotBehind (l : Launch) (D : va_G) (ad : Nat → Nat) (kk : Nat → ClassId) (sz : Nat) (σ : St) (i1 : Nat) (h1 : i1 < 12) (hIc : IP σ) : Met l yX2_readNotBehind wsX2_readNotBehind { frames := 2, cells := 0, slots := 0, locals := 45 } (va_Pc [.ref (ad 1), .ref (ad (pMe i1))] (PB D ad kk sz σ)) (va_Qi (fun r u => (r, u) = M_readNotBehind σ i1) (QB D ad kk sz) (aL 96 ad sz)) 0 0 (aL 96 ad sz) := by
  refine Met.ofW (cc := cX2_readNotBehind) (maxL := 3) (ret := (some .boolean)) (by decide) rfl ?_
  intro p e s m args below meth c s₁ B hml hv
  obtain ⟨rfl, hsz, hP, hK, hD0, hE⟩ := hv
  have hx := B.exec
  have hb := B.bytes
  have hr := B.returns
  have hts := atoms_spec (ws := wsX2_readNotBehind) B.pre
  have hown : s.vm.findClass RX2 = some m.cls := findClass_of_methodNamed B.named
  have hlocks := B.notSynchronized
  subst hsz
  have hD : va_D (aL 96 ad s.heap.size) (wB ad kk σ) := aL_D hD0
  have hS : va_S (aL 96 ad s.heap.size) s.heap s.heap [] := va_S.rf
  have hl := lv_entry ([.ref (ad 1), .ref (ad (pMe i1))]) (n := 3) (Nat.le_of_ble_eq_true rfl)
  rw [lg_entry_eq]
  generalize (lg_sl ([.ref (ad 1), .ref (ad (pMe i1))]) ++ List.replicate (3 - (lg_sl ([.ref (ad 1), .ref (ad (pMe i1))])).length) Slot.unset).toArray = ls at hl ⊢
  have hl : lv_has ls 3 [(0, .ref (ad 1)), (1, .ref (ad (pMe i1)))] := hl
  have CF : CallFix p m c cX2_readNotBehind 3 s ([.ref (ad 1), .ref (ad (pMe i1))] : List Value).toArray wsX2_readNotBehind RX2 := ⟨hx, hb, hml, hown, hts⟩
  have ht : ∀ w ∈ T0, w.before ([.ref (ad 1), .ref (ad (pMe i1))] : List Value).toArray s = true := fun w h => hts w (List.mem_cons_of_mem _ h)
  generalize hT : M_readNotBehind σ i1 = T
  rw [M_readNotBehind] at hT
  refine lv_aload_n hx hb dX2_readNotBehind_0 rfl (lv_at hl 0 rfl) ?_
  refine lv_iconst (v := 0) hx hb dX2_readNotBehind_1 (by decide) ?_
  refine lv_bipush (v := 11) hx hb dX2_readNotBehind_2 (by decide) ?_
  refine kB_i (va_runV (As := [.int 0, .int 11]) (rest := []) CF (k_readNumber l D ad kk _ σ 0 11 hIc) ⟨callB_of 2 hts (gT mw_315) rfl rfl rfl (ht _ mw_2) (ht _ mw_312) (by decide +kernel) ⟨Nat.le_of_ble_eq_true rfl, Nat.le_of_ble_eq_true rfl⟩, (ht _ mw_314), (ht _ ms_5)⟩ (preV_B hK hP hD hE hS (ci := 2) rfl rfl g_Pad) rfl rfl hl.1 rfl (lv_room (Nat.le_of_ble_eq_true rfl)) dX2_readNotBehind_4 ⟨Nat.le_of_ble_eq_true rfl, Nat.le_of_ble_eq_true rfl⟩) hS (fun r1 σ2 H locs hw hP hD hS => ?_)
  rw [← hw, pb_mk] at hT
  have h_r1 := hw
  refine lv_istore_n (lv' := [(2, .int r1), (0, .ref (ad 1)), (1, .ref (ad (pMe i1)))]) hx hb dX2_readNotBehind_7 rfl hl (by decide) rfl (fun ls hl => ?_)
  refine lv_iload_n hx hb dX2_readNotBehind_8 rfl (lv_at hl 0 rfl) ?_
  refine lv_iconst (v := (-1)) hx hb dX2_readNotBehind_9 (by decide) ?_
  refine lv_icmp_ne (tgt := 15) hx hb dX2_readNotBehind_10 (by decide) (fun c3 => ?_) (fun c3 => ?_)
  · rw [if_neg c3] at hT
    refine lv_aload_n hx hb dX2_readNotBehind_15 rfl (lv_at hl 2 rfl) ?_
    refine lv_aload_n hx hb dX2_readNotBehind_16 rfl (lv_at hl 2 rfl) ?_
    refine va_get (D := D) (ci := 1) (v := .int (gF σ2 (pMe i1) 3)) (C := RX1) (T := TX1) (N := 9) hx hb ht inX1 hown hK hP (pMe i1) (g_Me h1) rfl 3 (by decide) (ht _ mw_61) (fun _ h9 => h9) rfl dX2_readNotBehind_17 ?_
    refine lv_iload_n hx hb dX2_readNotBehind_20 rfl (lv_at hl 0 rfl) ?_
    refine lv_iconst (v := 1) hx hb dX2_readNotBehind_21 (by decide) ?_
    refine vp_callSi ((va_runSN (As := [.int (gF σ2 (pMe i1) 3), .int r1, .int 1]) (rest := [.ref (ad (pMe i1))]) CF (k_with l (gF σ2 (pMe i1) 3) r1 1) ⟨va_cnB (host := "MaterialBars") 3 hts (gT mw_325) rfl rfl rfl (hE.nest (own := RX2) (k := 61) (y := yX4_with) (host := "MaterialBars") (by decide +kernel)) (ht _ mw_1) (by decide +kernel) ⟨Nat.le_of_ble_eq_true rfl, Nat.le_of_ble_eq_true rfl⟩, (ht _ mw_324), trivial⟩ preEq rfl rfl hl.1 rfl (lv_room (Nat.le_of_ble_eq_true rfl)) dX2_readNotBehind_22 ⟨Nat.le_of_ble_eq_true rfl, Nat.le_of_ble_eq_true rfl⟩).run) (fun r4 h_r4 => ?_)
    obtain rfl := h_r4
    refine va_put (D := D) (ci := 1) (v := .int (M_with (gF σ2 (pMe i1) 3) r1 1)) (ty := .int) (C := RX1) (T := TX1) (N := 9) hx hb ht inX1 tyX1 tyX1_ok nmX1 hown hK hP hD hS (pMe i1) (g_Me h1) rfl 3 (by decide) (ht _ mw_61) (fun _ h9 => h9) rfl (by decide +kernel) rfl rfl (Nat.le_of_ble_eq_true rfl) dX2_readNotBehind_25 (fun H locs hP hD hS => ?_)
    rw [s_Me_3 h1] at hP hD
    refine lv_iconst (v := 1) hx hb dX2_readNotBehind_28 (by decide) ?_
    exact W.zret (v := 1) hx hb hr rfl (fun t ht hW => ⟨⟨1, (sF σ2 (pMe i1) 3 (M_with (gF σ2 (pMe i1) 3) r1 1)), rfl, hT, by rw [ht]; exact hP, va_K.moved hW.alike hK, hD⟩, hS.F ht⟩) hS.2.2 dX2_readNotBehind_29
  · rw [if_pos c3] at hT
    refine lv_iconst (v := 0) hx hb dX2_readNotBehind_13 (by decide) ?_
    exact W.zret (v := 0) hx hb hr rfl (fun t ht hW => ⟨⟨0, σ2, rfl, hT, by rw [ht]; exact hP, va_K.moved hW.alike hK, hD⟩, hS.F ht⟩) hS.2.2 dX2_readNotBehind_14
set_option maxHeartbeats 4000000 in
set_option maxRecDepth 100000 in
theorem k_readAfter (l : Launch) (D : va_G) (ad : Nat → Nat) (kk : Nat → ClassId) (sz : Nat) (σ : St) (i1 : Nat) (h1 : i1 < 12) (hIc : IP σ) : Met l yX2_readAfter wsX2_readAfter { frames := 2, cells := 0, slots := 0, locals := 45 } (va_Pc [.ref (ad 1), .ref (ad (pMe i1))] (PB D ad kk sz σ)) (va_Qi (fun r u => (r, u) = M_readAfter σ i1) (QB D ad kk sz) (aL 96 ad sz)) 0 0 (aL 96 ad sz) := by
  refine Met.ofW (cc := cX2_readAfter) (maxL := 4) (ret := (some .boolean)) (by decide) rfl ?_
  intro p e s m args below meth c s₁ B hml hv
  obtain ⟨rfl, hsz, hP, hK, hD0, hE⟩ := hv
  have hx := B.exec
  have hb := B.bytes
  have hr := B.returns
  have hts := atoms_spec (ws := wsX2_readAfter) B.pre
  have hown : s.vm.findClass RX2 = some m.cls := findClass_of_methodNamed B.named
  have hlocks := B.notSynchronized
  subst hsz
  have hD : va_D (aL 96 ad s.heap.size) (wB ad kk σ) := aL_D hD0
  have hS : va_S (aL 96 ad s.heap.size) s.heap s.heap [] := va_S.rf
  have hl := lv_entry ([.ref (ad 1), .ref (ad (pMe i1))]) (n := 4) (Nat.le_of_ble_eq_true rfl)
  rw [lg_entry_eq]
  generalize (lg_sl ([.ref (ad 1), .ref (ad (pMe i1))]) ++ List.replicate (4 - (lg_sl ([.ref (ad 1), .ref (ad (pMe i1))])).length) Slot.unset).toArray = ls at hl ⊢
  have hl : lv_has ls 4 [(0, .ref (ad 1)), (1, .ref (ad (pMe i1)))] := hl
  have CF : CallFix p m c cX2_readAfter 4 s ([.ref (ad 1), .ref (ad (pMe i1))] : List Value).toArray wsX2_readAfter RX2 := ⟨hx, hb, hml, hown, hts⟩
  have ht : ∀ w ∈ T0, w.before ([.ref (ad 1), .ref (ad (pMe i1))] : List Value).toArray s = true := fun w h => hts w (List.mem_cons_of_mem _ h)
  generalize hT : M_readAfter σ i1 = T
  rw [M_readAfter] at hT
  refine lv_aload_n hx hb dX2_readAfter_0 rfl (lv_at hl 0 rfl) ?_
  refine lv_iconst (v := 0) hx hb dX2_readAfter_1 (by decide) ?_
  refine lv_bipush (v := 11) hx hb dX2_readAfter_2 (by decide) ?_
  refine kB_i (va_runV (As := [.int 0, .int 11]) (rest := []) CF (k_readNumber l D ad kk _ σ 0 11 hIc) ⟨callB_of 2 hts (gT mw_315) rfl rfl rfl (ht _ mw_2) (ht _ mw_312) (by decide +kernel) ⟨Nat.le_of_ble_eq_true rfl, Nat.le_of_ble_eq_true rfl⟩, (ht _ mw_314), (ht _ ms_5)⟩ (preV_B hK hP hD hE hS (ci := 2) rfl rfl g_Pad) rfl rfl hl.1 rfl (lv_room (Nat.le_of_ble_eq_true rfl)) dX2_readAfter_4 ⟨Nat.le_of_ble_eq_true rfl, Nat.le_of_ble_eq_true rfl⟩) hS (fun r1 σ2 H locs hw hP hD hS => ?_)
  rw [← hw, pb_mk] at hT
  have h_r1 := hw
  have hn := num_in (N := 12) hIc h_r1 (by decide) (by decide) (by decide)
  have hIc := IP.num hIc h_r1
  refine lv_istore_n (lv' := [(2, .int r1), (0, .ref (ad 1)), (1, .ref (ad (pMe i1)))]) hx hb dX2_readAfter_7 rfl hl (by decide) rfl (fun ls hl => ?_)
  refine lv_iload_n hx hb dX2_readAfter_8 rfl (lv_at hl 0 rfl) ?_
  refine lv_iconst (v := (-1)) hx hb dX2_readAfter_9 (by decide) ?_
  refine lv_icmp_eq (tgt := 22) hx hb dX2_readAfter_10 (by decide) (fun c3 => ?_) (fun c3 => ?_)
  · rw [if_pos c3] at hT
    refine lv_iconst (v := 0) hx hb dX2_readAfter_22 (by decide) ?_
    exact W.zret (v := 0) hx hb hr rfl (fun t ht hW => ⟨⟨0, σ2, rfl, hT, by rw [ht]; exact hP, va_K.moved hW.alike hK, hD⟩, hS.F ht⟩) hS.2.2 dX2_readAfter_23
  · rw [if_neg c3] at hT
    have hne := c3
    refine lv_aload_n hx hb dX2_readAfter_13 rfl (lv_at hl 1 rfl) ?_
    refine lv_bipush (v := 58) hx hb dX2_readAfter_14 (by decide) ?_
    refine kB_i (va_runV (As := [.int 58]) (rest := []) CF (k_take l D ad kk _ σ2 58 hIc) ⟨callB_of 1 hts (gT mw_299) rfl rfl rfl (ht _ mw_2) (ht _ mw_296) (by decide +kernel) ⟨Nat.le_of_ble_eq_true rfl, Nat.le_of_ble_eq_true rfl⟩, (ht _ mw_298), (ht _ ms_1)⟩ (preV_B hK hP hD hE hS (ci := 2) rfl rfl g_Pad) rfl rfl hl.1 rfl (lv_room (Nat.le_of_ble_eq_true rfl)) dX2_readAfter_16 ⟨Nat.le_of_ble_eq_true rfl, Nat.le_of_ble_eq_true rfl⟩) hS (fun r4 σ5 H locs hw hP hD hS => ?_)
    rw [← hw, pb_mk] at hT
    have h_r4 := hw
    have hIc := IP.take hIc h_r4
    refine lv_if_ne (tgt := 24) hx hb dX2_readAfter_19 (by decide) (fun c6 => ?_) (fun c6 => ?_)
    · rw [if_neg c6] at hT
      refine lv_aload_n hx hb dX2_readAfter_24 rfl (lv_at hl 1 rfl) ?_
      refine lv_iconst (v := 0) hx hb dX2_readAfter_25 (by decide) ?_
      refine lv_sipush (v := 9999) hx hb dX2_readAfter_26 (by decide) ?_
      refine kB_i (va_runV (As := [.int 0, .int 9999]) (rest := []) CF (k_readNumber l D ad kk _ σ5 0 9999 hIc) ⟨callB_of 2 hts (gT mw_315) rfl rfl rfl (ht _ mw_2) (ht _ mw_312) (by decide +kernel) ⟨Nat.le_of_ble_eq_true rfl, Nat.le_of_ble_eq_true rfl⟩, (ht _ mw_314), (ht _ ms_5)⟩ (preV_B hK hP hD hE hS (ci := 2) rfl rfl g_Pad) rfl rfl hl.1 rfl (lv_room (Nat.le_of_ble_eq_true rfl)) dX2_readAfter_29 ⟨Nat.le_of_ble_eq_true rfl, Nat.le_of_ble_eq_true rfl⟩) hS (fun r7 σ8 H locs hw hP hD hS => ?_)
      rw [← hw, pb_mk] at hT
      have h_r7 := hw
      refine lv_istore_n (lv' := [(3, .int r7), (2, .int r1), (0, .ref (ad 1)), (1, .ref (ad (pMe i1)))]) hx hb dX2_readAfter_32 rfl hl (by decide) rfl (fun ls hl => ?_)
      refine lv_iload_n hx hb dX2_readAfter_33 rfl (lv_at hl 0 rfl) ?_
      refine lv_iconst (v := (-1)) hx hb dX2_readAfter_34 (by decide) ?_
      refine lv_icmp_ne (tgt := 40) hx hb dX2_readAfter_35 (by decide) (fun c9 => ?_) (fun c9 => ?_)
      · rw [if_neg c9] at hT
        refine lv_aload_n hx hb dX2_readAfter_40 rfl (lv_at hl 3 rfl) ?_
        refine lv_aload_n hx hb dX2_readAfter_41 rfl (lv_at hl 3 rfl) ?_
        refine va_get (D := D) (ci := 1) (v := .int (gF σ8 (pMe i1) 4)) (C := RX1) (T := TX1) (N := 9) hx hb ht inX1 hown hK hP (pMe i1) (g_Me h1) rfl 4 (by decide) (ht _ mw_64) (fun _ h9 => h9) rfl dX2_readAfter_42 ?_
        refine lv_iload_n hx hb dX2_readAfter_45 rfl (lv_at hl 1 rfl) ?_
        refine lv_iconst (v := 1) hx hb dX2_readAfter_46 (by decide) ?_
        refine vp_callSi ((va_runSN (As := [.int (gF σ8 (pMe i1) 4), .int r1, .int 1]) (rest := [.ref (ad (pMe i1))]) CF (k_with l (gF σ8 (pMe i1) 4) r1 1) ⟨va_cnB (host := "MaterialBars") 3 hts (gT mw_325) rfl rfl rfl (hE.nest (own := RX2) (k := 61) (y := yX4_with) (host := "MaterialBars") (by decide +kernel)) (ht _ mw_1) (by decide +kernel) ⟨Nat.le_of_ble_eq_true rfl, Nat.le_of_ble_eq_true rfl⟩, (ht _ mw_324), trivial⟩ preEq rfl rfl hl.1 rfl (lv_room (Nat.le_of_ble_eq_true rfl)) dX2_readAfter_47 ⟨Nat.le_of_ble_eq_true rfl, Nat.le_of_ble_eq_true rfl⟩).run) (fun r10 h_r10 => ?_)
        obtain rfl := h_r10
        refine va_put (D := D) (ci := 1) (v := .int (M_with (gF σ8 (pMe i1) 4) r1 1)) (ty := .int) (C := RX1) (T := TX1) (N := 9) hx hb ht inX1 tyX1 tyX1_ok nmX1 hown hK hP hD hS (pMe i1) (g_Me h1) rfl 4 (by decide) (ht _ mw_64) (fun _ h9 => h9) rfl (by decide +kernel) rfl rfl (Nat.le_of_ble_eq_true rfl) dX2_readAfter_50 (fun H locs hP hD hS => ?_)
        rw [s_Me_4 h1] at hP hD
        refine lv_aload_n hx hb dX2_readAfter_53 rfl (lv_at hl 3 rfl) ?_
        refine va_get (D := D) (ci := 1) (v := .ref (ad (pMe i1 + 2))) (C := RX1) (T := TX1) (N := 9) hx hb ht inX1 hown hK hP (pMe i1) (g_Me h1) rfl 1 (by decide) (ht _ mw_55) (fun _ h9 => h9) rfl dX2_readAfter_54 ?_
        refine lv_iload_n hx hb dX2_readAfter_57 rfl (lv_at hl 1 rfl) ?_
        refine lv_aload_n hx hb dX2_readAfter_58 rfl (lv_at hl 3 rfl) ?_
        refine va_get (D := D) (ci := 1) (v := .ref (ad (pMe i1 + 2))) (C := RX1) (T := TX1) (N := 9) hx hb ht inX1 hown hK hP (pMe i1) (g_Me h1) rfl 1 (by decide) (ht _ mw_55) (fun _ h9 => h9) rfl dX2_readAfter_59 ?_
        refine lv_iload_n hx hb dX2_readAfter_62 rfl (lv_at hl 1 rfl) ?_
        refine va_iald (i := r1) hx hb hK hP (pMe i1 + 2) 0 (g_Mh h1) rfl (hn hne) dX2_readAfter_63 ?_
        refine lv_iload_n hx hb dX2_readAfter_64 rfl (lv_at hl 0 rfl) ?_
        refine va_mmax hx hb (hml.trans hl.1.symm) hown (ht _ mw_334) (ht _ mw_335) (ht _ mw_12) (ht _ mw_336) (Nat.le_of_ble_eq_true rfl) (Nat.le_of_ble_eq_true rfl) (Nat.le_of_ble_eq_true rfl) (Nat.le_of_ble_eq_true rfl) dX2_readAfter_65 ?_
        refine va_iast (i := r1) (x := if (gA (sF σ8 (pMe i1) 4 (M_with (gF σ8 (pMe i1) 4) r1 1)) (pMe i1 + 2) r1.toNatClampNeg) < r7 then r7 else (gA (sF σ8 (pMe i1) 4 (M_with (gF σ8 (pMe i1) 4) r1 1)) (pMe i1 + 2) r1.toNatClampNeg)) hx hb hK hP hD hS (pMe i1 + 2) 0 (g_Mh h1) rfl (hn hne) dX2_readAfter_68 (fun H locs hP hD hS => ?_)
        rw [s_Mh h1] at hP hD
        refine lv_iconst (v := 1) hx hb dX2_readAfter_69 (by decide) ?_
        exact W.zret (v := 1) hx hb hr rfl (fun t ht hW => ⟨⟨1, (sA (sF σ8 (pMe i1) 4 (M_with (gF σ8 (pMe i1) 4) r1 1)) (pMe i1 + 2) r1.toNatClampNeg (if (gA (sF σ8 (pMe i1) 4 (M_with (gF σ8 (pMe i1) 4) r1 1)) (pMe i1 + 2) r1.toNatClampNeg) < r7 then r7 else (gA (sF σ8 (pMe i1) 4 (M_with (gF σ8 (pMe i1) 4) r1 1)) (pMe i1 + 2) r1.toNatClampNeg))), rfl, hT, by rw [ht]; exact hP, va_K.moved hW.alike hK, hD⟩, hS.F ht⟩) hS.2.2 dX2_readAfter_70
      · rw [if_pos c9] at hT
        refine lv_iconst (v := 0) hx hb dX2_readAfter_38 (by decide) ?_
        exact W.zret (v := 0) hx hb hr rfl (fun t ht hW => ⟨⟨0, σ8, rfl, hT, by rw [ht]; exact hP, va_K.moved hW.alike hK, hD⟩, hS.F ht⟩) hS.2.2 dX2_readAfter_39
    · rw [if_pos c6] at hT
      refine lv_iconst (v := 0) hx hb dX2_readAfter_22 (by decide) ?_
      exact W.zret (v := 0) hx hb hr rfl (fun t ht hW => ⟨⟨0, σ5, rfl, hT, by rw [ht]; exact hP, va_K.moved hW.alike hK, hD⟩, hS.F ht⟩) hS.2.2 dX2_readAfter_23
set_option maxHeartbeats 4000000 in
set_option maxRecDepth 100000 in
theorem k_readClause (l : Launch) (D : va_G) (ad : Nat → Nat) (kk : Nat → ClassId) (sz : Nat) (σ : St) (i1 : Nat) (h1 : i1 < 12) (hIc : IP σ) : Met l yX2_readClause wsX2_readClause { frames := 3, cells := 0, slots := 0, locals := 68 } (va_Pc [.ref (ad 1), .ref (ad (pMe i1))] (PB D ad kk sz σ)) (va_Qi (fun r u => (r, u) = M_readClause σ i1) (QB D ad kk sz) (aL 96 ad sz)) 0 0 (aL 96 ad sz) := by
  refine Met.ofW (cc := cX2_readClause) (maxL := 2) (ret := (some .boolean)) (by decide) rfl ?_
  intro p e s m args below meth c s₁ B hml hv
  obtain ⟨rfl, hsz, hP, hK, hD0, hE⟩ := hv
  have hx := B.exec
  have hb := B.bytes
  have hr := B.returns
  have hts := atoms_spec (ws := wsX2_readClause) B.pre
  have hown : s.vm.findClass RX2 = some m.cls := findClass_of_methodNamed B.named
  have hlocks := B.notSynchronized
  subst hsz
  have hD : va_D (aL 96 ad s.heap.size) (wB ad kk σ) := aL_D hD0
  have hS : va_S (aL 96 ad s.heap.size) s.heap s.heap [] := va_S.rf
  have hl := lv_entry ([.ref (ad 1), .ref (ad (pMe i1))]) (n := 2) (Nat.le_of_ble_eq_true rfl)
  rw [lg_entry_eq]
  generalize (lg_sl ([.ref (ad 1), .ref (ad (pMe i1))]) ++ List.replicate (2 - (lg_sl ([.ref (ad 1), .ref (ad (pMe i1))])).length) Slot.unset).toArray = ls at hl ⊢
  have hl : lv_has ls 2 [(0, .ref (ad 1)), (1, .ref (ad (pMe i1)))] := hl
  have CF : CallFix p m c cX2_readClause 2 s ([.ref (ad 1), .ref (ad (pMe i1))] : List Value).toArray wsX2_readClause RX2 := ⟨hx, hb, hml, hown, hts⟩
  have ht : ∀ w ∈ T0, w.before ([.ref (ad 1), .ref (ad (pMe i1))] : List Value).toArray s = true := fun w h => hts w (List.mem_cons_of_mem _ h)
  generalize hT : M_readClause σ i1 = T
  rw [M_readClause] at hT
  refine lv_aload_n hx hb dX2_readClause_0 rfl (lv_at hl 0 rfl) ?_
  refine lv_bipush (v := 117) hx hb dX2_readClause_1 (by decide) ?_
  refine kB_i (va_runV (As := [.int 117]) (rest := []) CF (k_take l D ad kk _ σ 117 hIc) ⟨callB_of 1 hts (gT mw_299) rfl rfl rfl (ht _ mw_2) (ht _ mw_296) (by decide +kernel) ⟨Nat.le_of_ble_eq_true rfl, Nat.le_of_ble_eq_true rfl⟩, (ht _ mw_298), (ht _ ms_1)⟩ (preV_B hK hP hD hE hS (ci := 2) rfl rfl g_Pad) rfl rfl hl.1 rfl (lv_room (Nat.le_of_ble_eq_true rfl)) dX2_readClause_3 ⟨Nat.le_of_ble_eq_true rfl, Nat.le_of_ble_eq_true rfl⟩) hS (fun r1 σ2 H locs hw hP hD hS => ?_)
  rw [← hw, pb_mk] at hT
  have h_r1 := hw
  have hIc := IP.take hIc h_r1
  refine lv_if_eq (tgt := 15) hx hb dX2_readClause_6 (by decide) (fun c3 => ?_) (fun c3 => ?_)
  · rw [if_pos c3] at hT
    refine lv_aload_n hx hb dX2_readClause_15 rfl (lv_at hl 0 rfl) ?_
    refine lv_bipush (v := 98) hx hb dX2_readClause_16 (by decide) ?_
    refine kB_i (va_runV (As := [.int 98]) (rest := []) CF (k_take l D ad kk _ σ2 98 hIc) ⟨callB_of 1 hts (gT mw_299) rfl rfl rfl (ht _ mw_2) (ht _ mw_296) (by decide +kernel) ⟨Nat.le_of_ble_eq_true rfl, Nat.le_of_ble_eq_true rfl⟩, (ht _ mw_298), (ht _ ms_1)⟩ (preV_B hK hP hD hE hS (ci := 2) rfl rfl g_Pad) rfl rfl hl.1 rfl (lv_room (Nat.le_of_ble_eq_true rfl)) dX2_readClause_18 ⟨Nat.le_of_ble_eq_true rfl, Nat.le_of_ble_eq_true rfl⟩) hS (fun r4 σ5 H locs hw hP hD hS => ?_)
    rw [← hw, pb_mk] at hT
    have h_r4 := hw
    have hIc := IP.take hIc h_r4
    refine lv_if_eq (tgt := 30) hx hb dX2_readClause_21 (by decide) (fun c6 => ?_) (fun c6 => ?_)
    · rw [if_pos c6] at hT
      refine lv_aload_n hx hb dX2_readClause_30 rfl (lv_at hl 0 rfl) ?_
      refine lv_bipush (v := 120) hx hb dX2_readClause_31 (by decide) ?_
      refine kB_i (va_runV (As := [.int 120]) (rest := []) CF (k_take l D ad kk _ σ5 120 hIc) ⟨callB_of 1 hts (gT mw_299) rfl rfl rfl (ht _ mw_2) (ht _ mw_296) (by decide +kernel) ⟨Nat.le_of_ble_eq_true rfl, Nat.le_of_ble_eq_true rfl⟩, (ht _ mw_298), (ht _ ms_1)⟩ (preV_B hK hP hD hE hS (ci := 2) rfl rfl g_Pad) rfl rfl hl.1 rfl (lv_room (Nat.le_of_ble_eq_true rfl)) dX2_readClause_33 ⟨Nat.le_of_ble_eq_true rfl, Nat.le_of_ble_eq_true rfl⟩) hS (fun r7 σ8 H locs hw hP hD hS => ?_)
      rw [← hw, pb_mk] at hT
      have h_r7 := hw
      have hIc := IP.take hIc h_r7
      refine lv_if_eq (tgt := 45) hx hb dX2_readClause_36 (by decide) (fun c9 => ?_) (fun c9 => ?_)
      · rw [if_pos c9] at hT
        refine lv_aload_n hx hb dX2_readClause_45 rfl (lv_at hl 0 rfl) ?_
        refine lv_bipush (v := 97) hx hb dX2_readClause_46 (by decide) ?_
        refine kB_i (va_runV (As := [.int 97]) (rest := []) CF (k_take l D ad kk _ σ8 97 hIc) ⟨callB_of 1 hts (gT mw_299) rfl rfl rfl (ht _ mw_2) (ht _ mw_296) (by decide +kernel) ⟨Nat.le_of_ble_eq_true rfl, Nat.le_of_ble_eq_true rfl⟩, (ht _ mw_298), (ht _ ms_1)⟩ (preV_B hK hP hD hE hS (ci := 2) rfl rfl g_Pad) rfl rfl hl.1 rfl (lv_room (Nat.le_of_ble_eq_true rfl)) dX2_readClause_48 ⟨Nat.le_of_ble_eq_true rfl, Nat.le_of_ble_eq_true rfl⟩) hS (fun r10 σ11 H locs hw hP hD hS => ?_)
        rw [← hw, pb_mk] at hT
        have h_r10 := hw
        have hIc := IP.take hIc h_r10
        refine lv_if_eq (tgt := 60) hx hb dX2_readClause_51 (by decide) (fun c12 => ?_) (fun c12 => ?_)
        · rw [if_pos c12] at hT
          refine lv_aload_n hx hb dX2_readClause_60 rfl (lv_at hl 0 rfl) ?_
          refine lv_bipush (v := 116) hx hb dX2_readClause_61 (by decide) ?_
          refine kB_i (va_runV (As := [.int 116]) (rest := []) CF (k_take l D ad kk _ σ11 116 hIc) ⟨callB_of 1 hts (gT mw_299) rfl rfl rfl (ht _ mw_2) (ht _ mw_296) (by decide +kernel) ⟨Nat.le_of_ble_eq_true rfl, Nat.le_of_ble_eq_true rfl⟩, (ht _ mw_298), (ht _ ms_1)⟩ (preV_B hK hP hD hE hS (ci := 2) rfl rfl g_Pad) rfl rfl hl.1 rfl (lv_room (Nat.le_of_ble_eq_true rfl)) dX2_readClause_63 ⟨Nat.le_of_ble_eq_true rfl, Nat.le_of_ble_eq_true rfl⟩) hS (fun r13 σ14 H locs hw hP hD hS => ?_)
          rw [← hw, pb_mk] at hT
          have h_r13 := hw
          have hIc := IP.take hIc h_r13
          refine lv_if_eq (tgt := 76) hx hb dX2_readClause_66 (by decide) (fun c15 => ?_) (fun c15 => ?_)
          · rw [if_pos c15] at hT
            refine lv_aload_n hx hb dX2_readClause_76 rfl (lv_at hl 0 rfl) ?_
            refine lv_bipush (v := 105) hx hb dX2_readClause_77 (by decide) ?_
            refine kB_i (va_runV (As := [.int 105]) (rest := []) CF (k_take l D ad kk _ σ14 105 hIc) ⟨callB_of 1 hts (gT mw_299) rfl rfl rfl (ht _ mw_2) (ht _ mw_296) (by decide +kernel) ⟨Nat.le_of_ble_eq_true rfl, Nat.le_of_ble_eq_true rfl⟩, (ht _ mw_298), (ht _ ms_1)⟩ (preV_B hK hP hD hE hS (ci := 2) rfl rfl g_Pad) rfl rfl hl.1 rfl (lv_room (Nat.le_of_ble_eq_true rfl)) dX2_readClause_79 ⟨Nat.le_of_ble_eq_true rfl, Nat.le_of_ble_eq_true rfl⟩) hS (fun r16 σ17 H locs hw hP hD hS => ?_)
            rw [← hw, pb_mk] at hT
            have h_r16 := hw
            have hIc := IP.take hIc h_r16
            refine lv_if_eq (tgt := 92) hx hb dX2_readClause_82 (by decide) (fun c18 => ?_) (fun c18 => ?_)
            · rw [if_pos c18] at hT
              refine lv_iconst (v := 0) hx hb dX2_readClause_92 (by decide) ?_
              exact W.zret (v := 0) hx hb hr rfl (fun t ht hW => ⟨⟨0, σ17, rfl, hT, by rw [ht]; exact hP, va_K.moved hW.alike hK, hD⟩, hS.F ht⟩) hS.2.2 dX2_readClause_93
            · rw [if_neg c18] at hT
              refine lv_aload_n hx hb dX2_readClause_85 rfl (lv_at hl 1 rfl) ?_
              refine lv_iconst (v := 1) hx hb dX2_readClause_86 (by decide) ?_
              refine va_put (D := D) (ci := 1) (v := .int 1) (ty := .boolean) (C := RX1) (T := TX1) (N := 9) hx hb ht inX1 tyX1 tyX1_ok nmX1 hown hK hP hD hS (pMe i1) (g_Me h1) rfl 6 (by decide) (ht _ mw_70) (fun _ h9 => h9) rfl (by decide +kernel) rfl rfl (Nat.le_of_ble_eq_true rfl) dX2_readClause_87 (fun H locs hP hD hS => ?_)
              rw [s_Me_6 h1] at hP hD
              refine lv_iconst (v := 1) hx hb dX2_readClause_90 (by decide) ?_
              exact W.zret (v := 1) hx hb hr rfl (fun t ht hW => ⟨⟨1, (sF σ17 (pMe i1) 6 1), rfl, hT, by rw [ht]; exact hP, va_K.moved hW.alike hK, hD⟩, hS.F ht⟩) hS.2.2 dX2_readClause_91
          · rw [if_neg c15] at hT
            refine lv_aload_n hx hb dX2_readClause_69 rfl (lv_at hl 1 rfl) ?_
            refine lv_iconst (v := 1) hx hb dX2_readClause_70 (by decide) ?_
            refine va_put (D := D) (ci := 1) (v := .int 1) (ty := .boolean) (C := RX1) (T := TX1) (N := 9) hx hb ht inX1 tyX1 tyX1_ok nmX1 hown hK hP hD hS (pMe i1) (g_Me h1) rfl 5 (by decide) (ht _ mw_67) (fun _ h9 => h9) rfl (by decide +kernel) rfl rfl (Nat.le_of_ble_eq_true rfl) dX2_readClause_71 (fun H locs hP hD hS => ?_)
            rw [s_Me_5 h1] at hP hD
            refine lv_iconst (v := 1) hx hb dX2_readClause_74 (by decide) ?_
            exact W.zret (v := 1) hx hb hr rfl (fun t ht hW => ⟨⟨1, (sF σ14 (pMe i1) 5 1), rfl, hT, by rw [ht]; exact hP, va_K.moved hW.alike hK, hD⟩, hS.F ht⟩) hS.2.2 dX2_readClause_75
        · rw [if_neg c12] at hT
          refine lv_aload_n hx hb dX2_readClause_54 rfl (lv_at hl 0 rfl) ?_
          refine lv_aload_n hx hb dX2_readClause_55 rfl (lv_at hl 1 rfl) ?_
          refine kB_i (va_runV (As := [.ref (ad (pMe i1))]) (rest := []) CF (k_readAfter l D ad kk _ σ11 i1 h1 hIc) ⟨callB_of 1 hts (gT mw_333) rfl rfl rfl (ht _ mw_2) (ht _ mw_330) (by decide +kernel) ⟨Nat.le_of_ble_eq_true rfl, Nat.le_of_ble_eq_true rfl⟩, (ht _ mw_332), (ht _ ms_8)⟩ (preV_B hK hP hD hE hS (ci := 2) rfl rfl g_Pad) rfl rfl hl.1 rfl (lv_room (Nat.le_of_ble_eq_true rfl)) dX2_readClause_56 ⟨Nat.le_of_ble_eq_true rfl, Nat.le_of_ble_eq_true rfl⟩) hS (fun r19 σ20 H locs hw hP hD hS => ?_)
          rw [← hw, pb_mk] at hT
          have h_r19 := hw
          have h01 := (IP.after hIc h_r19).2
          exact W.zret (v := r19) hx hb hr (nb01 h01) (fun t ht hW => ⟨⟨r19, σ20, rfl, hT, by rw [ht]; exact hP, va_K.moved hW.alike hK, hD⟩, hS.F ht⟩) hS.2.2 dX2_readClause_59
      · rw [if_neg c9] at hT
        refine lv_aload_n hx hb dX2_readClause_39 rfl (lv_at hl 0 rfl) ?_
        refine lv_aload_n hx hb dX2_readClause_40 rfl (lv_at hl 1 rfl) ?_
        refine kB_i (va_runV (As := [.ref (ad (pMe i1))]) (rest := []) CF (k_readNotBehind l D ad kk _ σ8 i1 h1 hIc) ⟨callB_of 1 hts (gT mw_329) rfl rfl rfl (ht _ mw_2) (ht _ mw_326) (by decide +kernel) ⟨Nat.le_of_ble_eq_true rfl, Nat.le_of_ble_eq_true rfl⟩, (ht _ mw_328), (ht _ ms_7)⟩ (preV_B hK hP hD hE hS (ci := 2) rfl rfl g_Pad) rfl rfl hl.1 rfl (lv_room (Nat.le_of_ble_eq_true rfl)) dX2_readClause_41 ⟨Nat.le_of_ble_eq_true rfl, Nat.le_of_ble_eq_true rfl⟩) hS (fun r21 σ22 H locs hw hP hD hS => ?_)
        rw [← hw, pb_mk] at hT
        have h_r21 := hw
        have h01 := (IP.notBehind hIc h_r21).2
        exact W.zret (v := r21) hx hb hr (nb01 h01) (fun t ht hW => ⟨⟨r21, σ22, rfl, hT, by rw [ht]; exact hP, va_K.moved hW.alike hK, hD⟩, hS.F ht⟩) hS.2.2 dX2_readClause_44
    · rw [if_neg c6] at hT
      refine lv_aload_n hx hb dX2_readClause_24 rfl (lv_at hl 0 rfl) ?_
      refine lv_aload_n hx hb dX2_readClause_25 rfl (lv_at hl 1 rfl) ?_
      refine kB_i (va_runV (As := [.ref (ad (pMe i1))]) (rest := []) CF (k_readBar l D ad kk _ σ5 i1 h1 hIc) ⟨callB_of 1 hts (gT mw_322) rfl rfl rfl (ht _ mw_2) (ht _ mw_319) (by decide +kernel) ⟨Nat.le_of_ble_eq_true rfl, Nat.le_of_ble_eq_true rfl⟩, (ht _ mw_321), (ht _ ms_6)⟩ (preV_B hK hP hD hE hS (ci := 2) rfl rfl g_Pad) rfl rfl hl.1 rfl (lv_room (Nat.le_of_ble_eq_true rfl)) dX2_readClause_26 ⟨Nat.le_of_ble_eq_true rfl, Nat.le_of_ble_eq_true rfl⟩) hS (fun r23 σ24 H locs hw hP hD hS => ?_)
      rw [← hw, pb_mk] at hT
      have h_r23 := hw
      have h01 := (IP.bar hIc h_r23).2
      exact W.zret (v := r23) hx hb hr (nb01 h01) (fun t ht hW => ⟨⟨r23, σ24, rfl, hT, by rw [ht]; exact hP, va_K.moved hW.alike hK, hD⟩, hS.F ht⟩) hS.2.2 dX2_readClause_29
  · rw [if_neg c3] at hT
    refine lv_aload_n hx hb dX2_readClause_9 rfl (lv_at hl 0 rfl) ?_
    refine lv_aload_n hx hb dX2_readClause_10 rfl (lv_at hl 1 rfl) ?_
    refine kB_i (va_runV (As := [.ref (ad (pMe i1))]) (rest := []) CF (k_readUse l D ad kk _ σ2 i1 h1 hIc) ⟨callB_of 1 hts (gT mw_311) rfl rfl rfl (ht _ mw_2) (ht _ mw_308) (by decide +kernel) ⟨Nat.le_of_ble_eq_true rfl, Nat.le_of_ble_eq_true rfl⟩, (ht _ mw_310), (ht _ ms_4)⟩ (preV_B hK hP hD hE hS (ci := 2) rfl rfl g_Pad) rfl rfl hl.1 rfl (lv_room (Nat.le_of_ble_eq_true rfl)) dX2_readClause_11 ⟨Nat.le_of_ble_eq_true rfl, Nat.le_of_ble_eq_true rfl⟩) hS (fun r25 σ26 H locs hw hP hD hS => ?_)
    rw [← hw, pb_mk] at hT
    have h_r25 := hw
    have h01 := (IP.use hIc h_r25).2
    exact W.zret (v := r25) hx hb hr (nb01 h01) (fun t ht hW => ⟨⟨r25, σ26, rfl, hT, by rw [ht]; exact hP, va_K.moved hW.alike hK, hD⟩, hS.F ht⟩) hS.2.2 dX2_readClause_14
set_option maxHeartbeats 4000000 in
set_option maxRecDepth 100000 in
theorem k_readText (l : Launch) (D : va_G) (ad : Nat → Nat) (kk : Nat → ClassId) (sz : Nat) (σ : St) (i1 : Nat) (h1 : i1 < 12) (hIc : IP σ) : Met l yX2_readText wsX2_readText { frames := 4, cells := 0, slots := 0, locals := 89 } (va_Pc [.ref (ad 1), .ref (ad (pMe i1))] (PB D ad kk sz σ)) (va_Qi (fun r u => (r, u) = M_readText σ i1) (QB D ad kk sz) (aL 96 ad sz)) 0 0 (aL 96 ad sz) := by
  refine Met.ofW (cc := cX2_readText) (maxL := 3) (ret := (some .boolean)) (by decide) rfl ?_
  intro p e s m args below meth c s₁ B hml hv
  obtain ⟨rfl, hsz, hP, hK, hD0, hE⟩ := hv
  have hx := B.exec
  have hb := B.bytes
  have hr := B.returns
  have hts := atoms_spec (ws := wsX2_readText) B.pre
  have hown : s.vm.findClass RX2 = some m.cls := findClass_of_methodNamed B.named
  have hlocks := B.notSynchronized
  subst hsz
  have hD : va_D (aL 96 ad s.heap.size) (wB ad kk σ) := aL_D hD0
  have hS : va_S (aL 96 ad s.heap.size) s.heap s.heap [] := va_S.rf
  have hl := lv_entry ([.ref (ad 1), .ref (ad (pMe i1))]) (n := 3) (Nat.le_of_ble_eq_true rfl)
  rw [lg_entry_eq]
  generalize (lg_sl ([.ref (ad 1), .ref (ad (pMe i1))]) ++ List.replicate (3 - (lg_sl ([.ref (ad 1), .ref (ad (pMe i1))])).length) Slot.unset).toArray = ls at hl ⊢
  have hl : lv_has ls 3 [(0, .ref (ad 1)), (1, .ref (ad (pMe i1)))] := hl
  have CF : CallFix p m c cX2_readText 3 s ([.ref (ad 1), .ref (ad (pMe i1))] : List Value).toArray wsX2_readText RX2 := ⟨hx, hb, hml, hown, hts⟩
  have ht : ∀ w ∈ T0, w.before ([.ref (ad 1), .ref (ad (pMe i1))] : List Value).toArray s = true := fun w h => hts w (List.mem_cons_of_mem _ h)
  generalize hT : M_readText σ i1 = T
  refine namedQ (fun Q eQ => ?_)
  have L_16 : ∀ (n i116 : Nat) (τ16 : St) (H : Heap) (locs : List Loc) (ls : Array Slot), i116 ≤ 10 → 11 ≤ i116 + n → IP τ16 → va_P D vwCl (wB ad kk τ16) H → va_D (aL 96 ad s.heap.size) (wB ad kk τ16) → va_S (aL 96 ad s.heap.size) s.heap H locs → lv_has ls 3 [(0, .ref (ad 1)), (1, .ref (ad (pMe i1))), (2, .int (nI i116))] → M_readText_h16 n i116 τ16 i1 = T → W p l e (headSpec wsX2_readText { frames := 4, cells := 0, slots := 0, locals := 89 }).room s m ([.ref (ad 1), .ref (ad (pMe i1))] : List Value).toArray below meth c H locs 0 0 Q (F0 m 16 ls []) := by
    intro n
    induction n with
    | zero =>
      intro i116 τ16 H locs ls h_le h_fu hv0 hP hD hS hl hT
      exact absurd h_fu (by omega)
    | succ n ih =>
      intro i116 τ16 H locs ls h_le h_fu hv0 hP hD hS hl hT
      rw [M_readText_h16] at hT
      have hIc := hv0
      refine lv_iload_n hx hb dX2_readText_16 rfl (lv_at hl 2 rfl) ?_
      refine lv_bipush (v := 10) hx hb dX2_readText_17 (by decide) ?_
      refine lv_icmp_ge (tgt := 66) hx hb dX2_readText_19 (by decide) (fun c2 => ?_) (fun c2 => ?_)
      · rw [if_pos c2] at hT
        refine lv_iconst (v := 0) hx hb dX2_readText_66 (by decide) ?_
        rw [eQ]
        exact W.zret (v := 0) hx hb hr rfl (fun t ht hW => ⟨⟨0, τ16, rfl, hT, by rw [ht]; exact hP, va_K.moved hW.alike hK, hD⟩, hS.F ht⟩) hS.2.2 dX2_readText_67
      · rw [if_neg c2] at hT
        have h_lt := lp_lt (N := 10) (by decide) (by decide) h_le c2
        refine lv_iload_n hx hb dX2_readText_22 rfl (lv_at hl 2 rfl) ?_
        refine lv_if_le (tgt := 37) hx hb dX2_readText_23 (by decide) (fun c3 => ?_) (fun c3 => ?_)
        · rw [if_pos c3] at hT
          refine lv_aload_n hx hb dX2_readText_37 rfl (lv_at hl 0 rfl) ?_
          refine lv_aload_n hx hb dX2_readText_38 rfl (lv_at hl 1 rfl) ?_
          refine kB_i (va_runV (As := [.ref (ad (pMe i1))]) (rest := []) CF (k_readClause l D ad kk _ τ16 i1 h1 hIc) ⟨callB_of 1 hts (gT mw_307) rfl rfl rfl (ht _ mw_2) (ht _ mw_304) (by decide +kernel) ⟨Nat.le_of_ble_eq_true rfl, Nat.le_of_ble_eq_true rfl⟩, (ht _ mw_306), (ht _ ms_3)⟩ (preV_B hK hP hD hE hS (ci := 2) rfl rfl g_Pad) rfl rfl hl.1 rfl (lv_room (Nat.le_of_ble_eq_true rfl)) dX2_readText_39 ⟨Nat.le_of_ble_eq_true rfl, Nat.le_of_ble_eq_true rfl⟩) hS (fun r4 σ5 H locs hw hP hD hS => ?_)
          rw [← hw, pb_mk] at hT
          have h_r4 := hw
          have hIc := (IP.clause hIc h_r4).1
          refine lv_if_ne (tgt := 47) hx hb dX2_readText_42 (by decide) (fun c6 => ?_) (fun c6 => ?_)
          · rw [if_neg c6] at hT
            refine lv_aload_n hx hb dX2_readText_47 rfl (lv_at hl 0 rfl) ?_
            refine va_get (D := D) (ci := 2) (v := .int (gF σ5 1 2)) (C := RX2) (T := TX2) (N := 3) hx hb ht inX2 hown hK hP 1 g_Pad rfl 2 (by decide) (ht _ mw_34) (fun _ h9 => h9) rfl dX2_readText_48 ?_
            refine lv_aload_n hx hb dX2_readText_51 rfl (lv_at hl 0 rfl) ?_
            refine va_get (D := D) (ci := 2) (v := .int (gF σ5 1 1)) (C := RX2) (T := TX2) (N := 3) hx hb ht inX2 hown hK hP 1 g_Pad rfl 1 (by decide) (ht _ mw_33) (fun _ h9 => h9) rfl dX2_readText_52 ?_
            refine lv_icmp_lt (tgt := 60) hx hb dX2_readText_55 (by decide) (fun c7 => ?_) (fun c7 => ?_)
            · rw [if_pos c7] at hT
              refine lv_iinc (v := nI (i116 + 1)) (lv' := [(2, .int (nI (i116 + 1))), (0, .ref (ad 1)), (1, .ref (ad (pMe i1)))]) hx hb dX2_readText_60 hl (k := 2) rfl (nI_1 i116) (by decide) rfl (fun ls hl => ?_)
              refine lv_goto (tgt := 16) hx hb dX2_readText_63 (by decide) ?_
              exact ih  (i116 + 1) σ5 _ _ ls h_lt (by omega) hIc hP hD hS (lv_sub hl [1, 2, 0] rfl) hT
            · rw [if_neg c7] at hT
              refine lv_iconst (v := 1) hx hb dX2_readText_58 (by decide) ?_
              rw [eQ]
              exact W.zret (v := 1) hx hb hr rfl (fun t ht hW => ⟨⟨1, σ5, rfl, hT, by rw [ht]; exact hP, va_K.moved hW.alike hK, hD⟩, hS.F ht⟩) hS.2.2 dX2_readText_59
          · rw [if_pos c6] at hT
            refine lv_iconst (v := 0) hx hb dX2_readText_45 (by decide) ?_
            rw [eQ]
            exact W.zret (v := 0) hx hb hr rfl (fun t ht hW => ⟨⟨0, σ5, rfl, hT, by rw [ht]; exact hP, va_K.moved hW.alike hK, hD⟩, hS.F ht⟩) hS.2.2 dX2_readText_46
        · rw [if_neg c3] at hT
          refine lv_aload_n hx hb dX2_readText_26 rfl (lv_at hl 0 rfl) ?_
          refine lv_bipush (v := 44) hx hb dX2_readText_27 (by decide) ?_
          refine kB_i (va_runV (As := [.int 44]) (rest := []) CF (k_take l D ad kk _ τ16 44 hIc) ⟨callB_of 1 hts (gT mw_299) rfl rfl rfl (ht _ mw_2) (ht _ mw_296) (by decide +kernel) ⟨Nat.le_of_ble_eq_true rfl, Nat.le_of_ble_eq_true rfl⟩, (ht _ mw_298), (ht _ ms_1)⟩ (preV_B hK hP hD hE hS (ci := 2) rfl rfl g_Pad) rfl rfl hl.1 rfl (lv_room (Nat.le_of_ble_eq_true rfl)) dX2_readText_29 ⟨Nat.le_of_ble_eq_true rfl, Nat.le_of_ble_eq_true rfl⟩) hS (fun r8 σ9 H locs hw hP hD hS => ?_)
          rw [← hw, pb_mk] at hT
          have h_r8 := hw
          have hIc := IP.take hIc h_r8
          refine lv_if_ne (tgt := 37) hx hb dX2_readText_32 (by decide) (fun c10 => ?_) (fun c10 => ?_)
          · rw [if_neg c10] at hT
            refine lv_aload_n hx hb dX2_readText_37 rfl (lv_at hl 0 rfl) ?_
            refine lv_aload_n hx hb dX2_readText_38 rfl (lv_at hl 1 rfl) ?_
            refine kB_i (va_runV (As := [.ref (ad (pMe i1))]) (rest := []) CF (k_readClause l D ad kk _ σ9 i1 h1 hIc) ⟨callB_of 1 hts (gT mw_307) rfl rfl rfl (ht _ mw_2) (ht _ mw_304) (by decide +kernel) ⟨Nat.le_of_ble_eq_true rfl, Nat.le_of_ble_eq_true rfl⟩, (ht _ mw_306), (ht _ ms_3)⟩ (preV_B hK hP hD hE hS (ci := 2) rfl rfl g_Pad) rfl rfl hl.1 rfl (lv_room (Nat.le_of_ble_eq_true rfl)) dX2_readText_39 ⟨Nat.le_of_ble_eq_true rfl, Nat.le_of_ble_eq_true rfl⟩) hS (fun r11 σ12 H locs hw hP hD hS => ?_)
            rw [← hw, pb_mk] at hT
            have h_r11 := hw
            have hIc := (IP.clause hIc h_r11).1
            refine lv_if_ne (tgt := 47) hx hb dX2_readText_42 (by decide) (fun c13 => ?_) (fun c13 => ?_)
            · rw [if_neg c13] at hT
              refine lv_aload_n hx hb dX2_readText_47 rfl (lv_at hl 0 rfl) ?_
              refine va_get (D := D) (ci := 2) (v := .int (gF σ12 1 2)) (C := RX2) (T := TX2) (N := 3) hx hb ht inX2 hown hK hP 1 g_Pad rfl 2 (by decide) (ht _ mw_34) (fun _ h9 => h9) rfl dX2_readText_48 ?_
              refine lv_aload_n hx hb dX2_readText_51 rfl (lv_at hl 0 rfl) ?_
              refine va_get (D := D) (ci := 2) (v := .int (gF σ12 1 1)) (C := RX2) (T := TX2) (N := 3) hx hb ht inX2 hown hK hP 1 g_Pad rfl 1 (by decide) (ht _ mw_33) (fun _ h9 => h9) rfl dX2_readText_52 ?_
              refine lv_icmp_lt (tgt := 60) hx hb dX2_readText_55 (by decide) (fun c14 => ?_) (fun c14 => ?_)
              · rw [if_pos c14] at hT
                refine lv_iinc (v := nI (i116 + 1)) (lv' := [(2, .int (nI (i116 + 1))), (0, .ref (ad 1)), (1, .ref (ad (pMe i1)))]) hx hb dX2_readText_60 hl (k := 2) rfl (nI_1 i116) (by decide) rfl (fun ls hl => ?_)
                refine lv_goto (tgt := 16) hx hb dX2_readText_63 (by decide) ?_
                exact ih  (i116 + 1) σ12 _ _ ls h_lt (by omega) hIc hP hD hS (lv_sub hl [1, 2, 0] rfl) hT
              · rw [if_neg c14] at hT
                refine lv_iconst (v := 1) hx hb dX2_readText_58 (by decide) ?_
                rw [eQ]
                exact W.zret (v := 1) hx hb hr rfl (fun t ht hW => ⟨⟨1, σ12, rfl, hT, by rw [ht]; exact hP, va_K.moved hW.alike hK, hD⟩, hS.F ht⟩) hS.2.2 dX2_readText_59
            · rw [if_pos c13] at hT
              refine lv_iconst (v := 0) hx hb dX2_readText_45 (by decide) ?_
              rw [eQ]
              exact W.zret (v := 0) hx hb hr rfl (fun t ht hW => ⟨⟨0, σ12, rfl, hT, by rw [ht]; exact hP, va_K.moved hW.alike hK, hD⟩, hS.F ht⟩) hS.2.2 dX2_readText_46
          · rw [if_pos c10] at hT
            refine lv_iconst (v := 0) hx hb dX2_readText_35 (by decide) ?_
            rw [eQ]
            exact W.zret (v := 0) hx hb hr rfl (fun t ht hW => ⟨⟨0, σ9, rfl, hT, by rw [ht]; exact hP, va_K.moved hW.alike hK, hD⟩, hS.F ht⟩) hS.2.2 dX2_readText_36
  rw [M_readText] at hT
  refine lv_aload_n hx hb dX2_readText_0 rfl (lv_at hl 0 rfl) ?_
  refine lv_iconst (v := 0) hx hb dX2_readText_1 (by decide) ?_
  refine va_put (D := D) (ci := 2) (v := .int 0) (ty := .int) (C := RX2) (T := TX2) (N := 3) hx hb ht inX2 tyX2 tyX2_ok nmX2 hown hK hP hD hS 1 g_Pad rfl 2 (by decide) (ht _ mw_34) (fun _ h9 => h9) rfl (by decide +kernel) rfl rfl (Nat.le_of_ble_eq_true rfl) dX2_readText_2 (fun H locs hP hD hS => ?_)
  rw [s_Pad_2] at hP hD
  refine lv_aload_n hx hb dX2_readText_5 rfl (lv_at hl 0 rfl) ?_
  refine va_get (D := D) (ci := 2) (v := .int (gF (sF σ 1 2 0) 1 1)) (C := RX2) (T := TX2) (N := 3) hx hb ht inX2 hown hK hP 1 g_Pad rfl 1 (by decide) (ht _ mw_33) (fun _ h9 => h9) rfl dX2_readText_6 ?_
  refine lv_if_ne (tgt := 14) hx hb dX2_readText_9 (by decide) (fun c1 => ?_) (fun c1 => ?_)
  · rw [if_neg c1] at hT
    refine lv_iconst (v := 0) hx hb dX2_readText_14 (by decide) ?_
    refine lv_istore_n (lv' := [(2, .int 0), (0, .ref (ad 1)), (1, .ref (ad (pMe i1)))]) hx hb dX2_readText_15 rfl hl (by decide) rfl (fun ls hl => ?_)
    exact L_16 11 0 (sF σ 1 2 0) _ _ ls (Nat.zero_le _) (by decide) (IP.zero hIc) hP hD hS (lv_sub hl [1, 2, 0] rfl) hT
  · rw [if_pos c1] at hT
    refine lv_iconst (v := 1) hx hb dX2_readText_12 (by decide) ?_
    rw [eQ]
    exact W.zret (v := 1) hx hb hr rfl (fun t ht hW => ⟨⟨1, (sF σ 1 2 0), rfl, hT, by rw [ht]; exact hP, va_K.moved hW.alike hK, hD⟩, hS.F ht⟩) hS.2.2 dX2_readText_13
end
section
set_option maxHeartbeats 4000000 in
set_option maxRecDepth 100000 in
theorem k_lowestNotLongEnoughAgo (l : Launch) (D : va_G) (ad : Nat → Nat) (kk : Nat → ClassId) (sz : Nat) (σ : St) (i0 : Nat) (i1 : Nat) (p2 : Int32) (h0 : i0 < 10) (h1 : i1 < 12) : Met l yX4_lowestNotLongEnoughAgo wsX4_lowestNotLongEnoughAgo { frames := 1, cells := 0, slots := 0, locals := 21 } (va_Pc [.ref (ad (pPi i0)), .ref (ad (pMe i1)), .int p2] (PB D ad kk sz σ)) (va_Qi (fun r u => r = M_lowestNotLongEnoughAgo σ i0 i1 p2 ∧ u = σ) (QB D ad kk sz) (aL 96 ad sz)) 0 0 (aL 96 ad sz) := by
  refine Met.ofW (cc := cX4_lowestNotLongEnoughAgo) (maxL := 4) (ret := (some .int)) (by decide) rfl ?_
  intro p e s m args below meth c s₁ B hml hv
  obtain ⟨rfl, hsz, hP, hK, hD0, hE⟩ := hv
  have hx := B.exec
  have hb := B.bytes
  have hr := B.returns
  have hts := atoms_spec (ws := wsX4_lowestNotLongEnoughAgo) B.pre
  have hown : s.vm.findClass RX4 = some m.cls := findClass_of_methodNamed B.named
  have hlocks := B.notSynchronized
  subst hsz
  have hD : va_D (aL 96 ad s.heap.size) (wB ad kk σ) := aL_D hD0
  have hS : va_S (aL 96 ad s.heap.size) s.heap s.heap [] := va_S.rf
  have hl := lv_entry ([.ref (ad (pPi i0)), .ref (ad (pMe i1)), .int p2]) (n := 4) (Nat.le_of_ble_eq_true rfl)
  rw [lg_entry_eq]
  generalize (lg_sl ([.ref (ad (pPi i0)), .ref (ad (pMe i1)), .int p2]) ++ List.replicate (4 - (lg_sl ([.ref (ad (pPi i0)), .ref (ad (pMe i1)), .int p2])).length) Slot.unset).toArray = ls at hl ⊢
  have hl : lv_has ls 4 [(0, .ref (ad (pPi i0))), (1, .ref (ad (pMe i1))), (2, .int p2)] := hl
  have CF : CallFix p m c cX4_lowestNotLongEnoughAgo 4 s ([.ref (ad (pPi i0)), .ref (ad (pMe i1)), .int p2] : List Value).toArray wsX4_lowestNotLongEnoughAgo RX4 := ⟨hx, hb, hml, hown, hts⟩
  have ht : ∀ w ∈ T0, w.before ([.ref (ad (pPi i0)), .ref (ad (pMe i1)), .int p2] : List Value).toArray s = true := fun w h => hts w (List.mem_cons_of_mem _ h)
  generalize hT : M_lowestNotLongEnoughAgo σ i0 i1 p2 = T
  refine namedQ (fun Q eQ => ?_)
  have L_2 : ∀ (n i102 : Nat) (H : Heap) (locs : List Loc) (ls : Array Slot), i102 ≤ 12 → 13 ≤ i102 + n → va_P D vwCl (wB ad kk σ) H → va_D (aL 96 ad s.heap.size) (wB ad kk σ) → va_S (aL 96 ad s.heap.size) s.heap H locs → lv_has ls 4 [(0, .ref (ad (pPi i0))), (1, .ref (ad (pMe i1))), (2, .int p2), (3, .int (nI i102))] → M_lowestNotLongEnoughAgo_h2 n i102 σ i1 i0 p2 = T → W p l e (headSpec wsX4_lowestNotLongEnoughAgo { frames := 1, cells := 0, slots := 0, locals := 21 }).room s m ([.ref (ad (pPi i0)), .ref (ad (pMe i1)), .int p2] : List Value).toArray below meth c H locs 0 0 Q (F0 m 2 ls []) := by
    intro n
    induction n with
    | zero =>
      intro i102 H locs ls h_le h_fu hP hD hS hl hT
      exact absurd h_fu (by omega)
    | succ n ih =>
      intro i102 H locs ls h_le h_fu hP hD hS hl hT
      rw [M_lowestNotLongEnoughAgo_h2] at hT
      refine lv_iload_n hx hb dX4_lowestNotLongEnoughAgo_2 rfl (lv_at hl 3 rfl) ?_
      refine lv_bipush (v := 12) hx hb dX4_lowestNotLongEnoughAgo_3 (by decide) ?_
      refine lv_icmp_ge (tgt := 55) hx hb dX4_lowestNotLongEnoughAgo_5 (by decide) (fun c1 => ?_) (fun c1 => ?_)
      · rw [if_pos c1] at hT
        refine lv_iconst (v := (-1)) hx hb dX4_lowestNotLongEnoughAgo_55 (by decide) ?_
        rw [eQ]
        exact W.iret (v := (-1)) hx hb hr (fun t ht hW => ⟨⟨(-1), σ, rfl, ⟨hT, rfl⟩, by rw [ht]; exact hP, va_K.moved hW.alike hK, hD⟩, hS.F ht⟩) hS.2.2 dX4_lowestNotLongEnoughAgo_56
      · rw [if_neg c1] at hT
        have h_lt := lp_lt (N := 12) (by decide) (by decide) h_le c1
        refine lv_aload_n hx hb dX4_lowestNotLongEnoughAgo_8 rfl (lv_at hl 1 rfl) ?_
        refine va_get (D := D) (ci := 1) (v := .int (gF σ (pMe i1) 4)) (C := RX1) (T := TX1) (N := 9) hx hb ht inX1 hown hK hP (pMe i1) (g_Me h1) rfl 4 (by decide) (ht _ mw_65) (fun _ h9 => h9) rfl dX4_lowestNotLongEnoughAgo_9 ?_
        refine lv_iload_n hx hb dX4_lowestNotLongEnoughAgo_12 rfl (lv_at hl 3 rfl) ?_
        refine vp_callSi (W.runS (As := [.int (gF σ (pMe i1) 4), .int (nI i102)]) (rest := []) CF (k_has l (gF σ (pMe i1) 4) (nI i102)) ⟨callB_of 2 hts (gT mw_402) rfl rfl rfl (ht _ mw_1) (ht _ mw_400) (by decide +kernel) ⟨Nat.le_of_ble_eq_true rfl, Nat.le_of_ble_eq_true rfl⟩, (ht _ mw_401)⟩ preEq rfl rfl hl.1 rfl (lv_room (Nat.le_of_ble_eq_true rfl)) dX4_lowestNotLongEnoughAgo_13 ⟨Nat.le_of_ble_eq_true rfl, Nat.le_of_ble_eq_true rfl⟩) (fun r2 h_r2 => ?_)
        obtain rfl := h_r2
        refine lv_if_eq (tgt := 49) hx hb dX4_lowestNotLongEnoughAgo_16 (by decide) (fun c3 => ?_) (fun c3 => ?_)
        · rw [if_pos c3] at hT
          refine lv_iinc (v := nI (i102 + 1)) (lv' := [(3, .int (nI (i102 + 1))), (0, .ref (ad (pPi i0))), (1, .ref (ad (pMe i1))), (2, .int p2)]) hx hb dX4_lowestNotLongEnoughAgo_49 hl (k := 3) rfl (nI_1 i102) (by decide) rfl (fun ls hl => ?_)
          refine lv_goto (tgt := 2) hx hb dX4_lowestNotLongEnoughAgo_52 (by decide) ?_
          exact ih  (i102 + 1) _ _ ls h_lt (by omega) hP hD hS (lv_sub hl [1, 2, 3, 0] rfl) hT
        · rw [if_neg c3] at hT
          refine lv_aload_n hx hb dX4_lowestNotLongEnoughAgo_19 rfl (lv_at hl 0 rfl) ?_
          refine va_get (D := D) (ci := 3) (v := .int (gF σ (pPi i0) 6)) (C := RX3) (T := TX3) (N := 8) hx hb ht inX3 hown hK hP (pPi i0) (g_Pi h0) rfl 6 (by decide) (ht _ mw_112) (fun _ h9 => h9) rfl dX4_lowestNotLongEnoughAgo_20 ?_
          refine lv_iload_n hx hb dX4_lowestNotLongEnoughAgo_23 rfl (lv_at hl 3 rfl) ?_
          refine vp_callSi (W.runS (As := [.int (gF σ (pPi i0) 6), .int (nI i102)]) (rest := []) CF (k_has l (gF σ (pPi i0) 6) (nI i102)) ⟨callB_of 2 hts (gT mw_402) rfl rfl rfl (ht _ mw_1) (ht _ mw_400) (by decide +kernel) ⟨Nat.le_of_ble_eq_true rfl, Nat.le_of_ble_eq_true rfl⟩, (ht _ mw_401)⟩ preEq rfl rfl hl.1 rfl (lv_room (Nat.le_of_ble_eq_true rfl)) dX4_lowestNotLongEnoughAgo_24 ⟨Nat.le_of_ble_eq_true rfl, Nat.le_of_ble_eq_true rfl⟩) (fun r4 h_r4 => ?_)
          obtain rfl := h_r4
          refine lv_if_eq (tgt := 47) hx hb dX4_lowestNotLongEnoughAgo_27 (by decide) (fun c5 => ?_) (fun c5 => ?_)
          · rw [if_pos c5] at hT
            refine lv_iload_n hx hb dX4_lowestNotLongEnoughAgo_47 rfl (lv_at hl 3 rfl) ?_
            rw [eQ]
            exact W.iret (v := nI i102) hx hb hr (fun t ht hW => ⟨⟨nI i102, σ, rfl, ⟨hT, rfl⟩, by rw [ht]; exact hP, va_K.moved hW.alike hK, hD⟩, hS.F ht⟩) hS.2.2 dX4_lowestNotLongEnoughAgo_48
          · rw [if_neg c5] at hT
            refine lv_iload_n hx hb dX4_lowestNotLongEnoughAgo_30 rfl (lv_at hl 2 rfl) ?_
            refine lv_aload_n hx hb dX4_lowestNotLongEnoughAgo_31 rfl (lv_at hl 0 rfl) ?_
            refine va_get (D := D) (ci := 3) (v := .ref (ad (pPi i0 + 3))) (C := RX3) (T := TX3) (N := 8) hx hb ht inX3 hown hK hP (pPi i0) (g_Pi h0) rfl 2 (by decide) (ht _ mw_104) (fun _ h9 => h9) rfl dX4_lowestNotLongEnoughAgo_32 ?_
            refine lv_iload_n hx hb dX4_lowestNotLongEnoughAgo_35 rfl (lv_at hl 3 rfl) ?_
            refine va_iald (i := nI i102) hx hb hK hP (pPi i0 + 3) 0 (g_Pl h0) rfl (vp_in_nI h_lt (by decide)) dX4_lowestNotLongEnoughAgo_36 ?_
            rw [nI_clamp (n := i102) (by omega)]
            refine lv_isub hx hb dX4_lowestNotLongEnoughAgo_37 ?_
            refine lv_aload_n hx hb dX4_lowestNotLongEnoughAgo_38 rfl (lv_at hl 1 rfl) ?_
            refine va_get (D := D) (ci := 1) (v := .ref (ad (pMe i1 + 2))) (C := RX1) (T := TX1) (N := 9) hx hb ht inX1 hown hK hP (pMe i1) (g_Me h1) rfl 1 (by decide) (ht _ mw_56) (fun _ h9 => h9) rfl dX4_lowestNotLongEnoughAgo_39 ?_
            refine lv_iload_n hx hb dX4_lowestNotLongEnoughAgo_42 rfl (lv_at hl 3 rfl) ?_
            refine va_iald (i := nI i102) hx hb hK hP (pMe i1 + 2) 0 (g_Mh h1) rfl (vp_in_nI h_lt (by decide)) dX4_lowestNotLongEnoughAgo_43 ?_
            rw [nI_clamp (n := i102) (by omega)]
            refine lv_icmp_ge (tgt := 49) hx hb dX4_lowestNotLongEnoughAgo_44 (by decide) (fun c6 => ?_) (fun c6 => ?_)
            · rw [if_pos c6] at hT
              refine lv_iinc (v := nI (i102 + 1)) (lv' := [(3, .int (nI (i102 + 1))), (0, .ref (ad (pPi i0))), (1, .ref (ad (pMe i1))), (2, .int p2)]) hx hb dX4_lowestNotLongEnoughAgo_49 hl (k := 3) rfl (nI_1 i102) (by decide) rfl (fun ls hl => ?_)
              refine lv_goto (tgt := 2) hx hb dX4_lowestNotLongEnoughAgo_52 (by decide) ?_
              exact ih  (i102 + 1) _ _ ls h_lt (by omega) hP hD hS (lv_sub hl [1, 2, 3, 0] rfl) hT
            · rw [if_neg c6] at hT
              refine lv_iload_n hx hb dX4_lowestNotLongEnoughAgo_47 rfl (lv_at hl 3 rfl) ?_
              rw [eQ]
              exact W.iret (v := nI i102) hx hb hr (fun t ht hW => ⟨⟨nI i102, σ, rfl, ⟨hT, rfl⟩, by rw [ht]; exact hP, va_K.moved hW.alike hK, hD⟩, hS.F ht⟩) hS.2.2 dX4_lowestNotLongEnoughAgo_48
  rw [M_lowestNotLongEnoughAgo] at hT
  refine lv_iconst (v := 0) hx hb dX4_lowestNotLongEnoughAgo_0 (by decide) ?_
  refine lv_istore_n (lv' := [(3, .int 0), (0, .ref (ad (pPi i0))), (1, .ref (ad (pMe i1))), (2, .int p2)]) hx hb dX4_lowestNotLongEnoughAgo_1 rfl hl (by decide) rfl (fun ls hl => ?_)
  exact L_2 13 0 _ _ ls (Nat.zero_le _) (by decide) hP hD hS (lv_sub hl [1, 2, 3, 0] rfl) hT
set_option maxHeartbeats 4000000 in
set_option maxRecDepth 100000 in
theorem k_lowestLacking (l : Launch) (D : va_G) (ad : Nat → Nat) (kk : Nat → ClassId) (sz : Nat) (σ : St) (i1 : Nat) (h1 : i1 < 12) : Met l yX4_lowestLacking wsX4_lowestLacking { frames := 0, cells := 0, slots := 0, locals := 0 } (va_Pc [.ref (ad 0), .ref (ad (pMe i1))] (PB D ad kk sz σ)) (va_Qi (fun r u => r = M_lowestLacking σ i1 ∧ u = σ) (QB D ad kk sz) (aL 96 ad sz)) 0 0 (aL 96 ad sz) := by
  refine Met.ofW (cc := cX4_lowestLacking) (maxL := 3) (ret := (some .int)) (by decide) rfl ?_
  intro p e s m args below meth c s₁ B hml hv
  obtain ⟨rfl, hsz, hP, hK, hD0, hE⟩ := hv
  have hx := B.exec
  have hb := B.bytes
  have hr := B.returns
  have hts := atoms_spec (ws := wsX4_lowestLacking) B.pre
  have hown : s.vm.findClass RX4 = some m.cls := findClass_of_methodNamed B.named
  have hlocks := B.notSynchronized
  subst hsz
  have hD : va_D (aL 96 ad s.heap.size) (wB ad kk σ) := aL_D hD0
  have hS : va_S (aL 96 ad s.heap.size) s.heap s.heap [] := va_S.rf
  have hl := lv_entry ([.ref (ad 0), .ref (ad (pMe i1))]) (n := 3) (Nat.le_of_ble_eq_true rfl)
  rw [lg_entry_eq]
  generalize (lg_sl ([.ref (ad 0), .ref (ad (pMe i1))]) ++ List.replicate (3 - (lg_sl ([.ref (ad 0), .ref (ad (pMe i1))])).length) Slot.unset).toArray = ls at hl ⊢
  have hl : lv_has ls 3 [(0, .ref (ad 0)), (1, .ref (ad (pMe i1)))] := hl
  have CF : CallFix p m c cX4_lowestLacking 3 s ([.ref (ad 0), .ref (ad (pMe i1))] : List Value).toArray wsX4_lowestLacking RX4 := ⟨hx, hb, hml, hown, hts⟩
  have ht : ∀ w ∈ T0, w.before ([.ref (ad 0), .ref (ad (pMe i1))] : List Value).toArray s = true := fun w h => hts w (List.mem_cons_of_mem _ h)
  generalize hT : M_lowestLacking σ i1 = T
  refine namedQ (fun Q eQ => ?_)
  have L_2 : ∀ (n i102 : Nat) (H : Heap) (locs : List Loc) (ls : Array Slot), i102 ≤ 12 → 13 ≤ i102 + n → va_P D vwCl (wB ad kk σ) H → va_D (aL 96 ad s.heap.size) (wB ad kk σ) → va_S (aL 96 ad s.heap.size) s.heap H locs → lv_has ls 3 [(0, .ref (ad 0)), (1, .ref (ad (pMe i1))), (2, .int (nI i102))] → M_lowestLacking_h2 n i102 σ i1 = T → W p l e (headSpec wsX4_lowestLacking { frames := 0, cells := 0, slots := 0, locals := 0 }).room s m ([.ref (ad 0), .ref (ad (pMe i1))] : List Value).toArray below meth c H locs 0 0 Q (F0 m 2 ls []) := by
    intro n
    induction n with
    | zero =>
      intro i102 H locs ls h_le h_fu hP hD hS hl hT
      exact absurd h_fu (by omega)
    | succ n ih =>
      intro i102 H locs ls h_le h_fu hP hD hS hl hT
      rw [M_lowestLacking_h2] at hT
      refine lv_iload_n hx hb dX4_lowestLacking_2 rfl (lv_at hl 2 rfl) ?_
      refine lv_bipush (v := 12) hx hb dX4_lowestLacking_3 (by decide) ?_
      refine lv_icmp_ge (tgt := 34) hx hb dX4_lowestLacking_5 (by decide) (fun c1 => ?_) (fun c1 => ?_)
      · rw [if_pos c1] at hT
        refine lv_iconst (v := (-1)) hx hb dX4_lowestLacking_34 (by decide) ?_
        rw [eQ]
        exact W.iret (v := (-1)) hx hb hr (fun t ht hW => ⟨⟨(-1), σ, rfl, ⟨hT, rfl⟩, by rw [ht]; exact hP, va_K.moved hW.alike hK, hD⟩, hS.F ht⟩) hS.2.2 dX4_lowestLacking_35
      · rw [if_neg c1] at hT
        have h_lt := lp_lt (N := 12) (by decide) (by decide) h_le c1
        refine lv_aload_n hx hb dX4_lowestLacking_8 rfl (lv_at hl 0 rfl) ?_
        refine va_get (D := D) (ci := 4) (v := .ref (ad 81)) (C := RX4) (T := TX4) (N := 9) hx hb ht inX4 hown hK hP 0 g_MB rfl 3 (by decide) (ht _ mw_162) (fun _ h9 => h9) rfl dX4_lowestLacking_9 ?_
        refine lv_iload_n hx hb dX4_lowestLacking_12 rfl (lv_at hl 2 rfl) ?_
        refine va_aldq (i := nI i102) hx hb hK hP 81 3 g_goods rfl (vp_in_nI h_lt (by decide)) dX4_lowestLacking_13 ?_
        rw [nI_clamp (n := i102) (by omega)]
        refine W.eq (g2 := F0 m 14 ls (.ref (ad (pGo i102)) :: [])) rfl ?_
        refine va_get (D := D) (ci := 0) (v := .int (gF σ (pGo i102) 0)) (C := RX0) (T := TX0) (N := 5) hx hb ht inX0 hown hK hP (pGo i102) (g_Go h_lt) rfl 0 (by decide) (ht _ mw_140) (fun _ h9 => h9) rfl dX4_lowestLacking_14 ?_
        refine lv_aload_n hx hb dX4_lowestLacking_17 rfl (lv_at hl 1 rfl) ?_
        refine va_get (D := D) (ci := 1) (v := .ref (ad (pMe i1 + 1))) (C := RX1) (T := TX1) (N := 9) hx hb ht inX1 hown hK hP (pMe i1) (g_Me h1) rfl 0 (by decide) (ht _ mw_52) (fun _ h9 => h9) rfl dX4_lowestLacking_18 ?_
        refine lv_iload_n hx hb dX4_lowestLacking_21 rfl (lv_at hl 2 rfl) ?_
        refine va_iald (i := nI i102) hx hb hK hP (pMe i1 + 1) 0 (g_Ma h1) rfl (vp_in_nI h_lt (by decide)) dX4_lowestLacking_22 ?_
        rw [nI_clamp (n := i102) (by omega)]
        refine lv_icmp_ge (tgt := 28) hx hb dX4_lowestLacking_23 (by decide) (fun c2 => ?_) (fun c2 => ?_)
        · rw [if_pos c2] at hT
          refine lv_iinc (v := nI (i102 + 1)) (lv' := [(2, .int (nI (i102 + 1))), (0, .ref (ad 0)), (1, .ref (ad (pMe i1)))]) hx hb dX4_lowestLacking_28 hl (k := 2) rfl (nI_1 i102) (by decide) rfl (fun ls hl => ?_)
          refine lv_goto (tgt := 2) hx hb dX4_lowestLacking_31 (by decide) ?_
          exact ih  (i102 + 1) _ _ ls h_lt (by omega) hP hD hS (lv_sub hl [1, 2, 0] rfl) hT
        · rw [if_neg c2] at hT
          refine lv_iload_n hx hb dX4_lowestLacking_26 rfl (lv_at hl 2 rfl) ?_
          rw [eQ]
          exact W.iret (v := nI i102) hx hb hr (fun t ht hW => ⟨⟨nI i102, σ, rfl, ⟨hT, rfl⟩, by rw [ht]; exact hP, va_K.moved hW.alike hK, hD⟩, hS.F ht⟩) hS.2.2 dX4_lowestLacking_27
  rw [M_lowestLacking] at hT
  refine lv_iconst (v := 0) hx hb dX4_lowestLacking_0 (by decide) ?_
  refine lv_istore_n (lv' := [(2, .int 0), (0, .ref (ad 0)), (1, .ref (ad (pMe i1)))]) hx hb dX4_lowestLacking_1 rfl hl (by decide) rfl (fun ls hl => ?_)
  exact L_2 13 0 _ _ ls (Nat.zero_le _) (by decide) hP hD hS (lv_sub hl [1, 2, 0] rfl) hT
set_option maxHeartbeats 4000000 in
set_option maxRecDepth 100000 in
theorem k_reasonAgainst (l : Launch) (D : va_G) (ad : Nat → Nat) (kk : Nat → ClassId) (sz : Nat) (σ : St) (i1 : Nat) (i2 : Nat) (p3 : Int32) (p4 : Int32) (h1 : i1 < 10) (h2 : i2 < 12) (hp : (gF σ (pPi i1) 3).toInt ≤ 8) : Met l yX4_reasonAgainst wsX4_reasonAgainst { frames := 2, cells := 0, slots := 0, locals := 44 } (va_Pc [.ref (ad 0), .ref (ad (pPi i1)), .ref (ad (pMe i2)), .int p3, .int p4] (PB D ad kk sz σ)) (va_Qi (fun r u => r = M_reasonAgainst σ i1 i2 p3 p4 ∧ u = σ) (QB D ad kk sz) (aL 96 ad sz)) 0 0 (aL 96 ad sz) := by
  refine Met.ofW (cc := cX4_reasonAgainst) (maxL := 10) (ret := (some .int)) (by decide) rfl ?_
  intro p e s m args below meth c s₁ B hml hv
  obtain ⟨rfl, hsz, hP, hK, hD0, hE⟩ := hv
  have hx := B.exec
  have hb := B.bytes
  have hr := B.returns
  have hts := atoms_spec (ws := wsX4_reasonAgainst) B.pre
  have hown : s.vm.findClass RX4 = some m.cls := findClass_of_methodNamed B.named
  have hlocks := B.notSynchronized
  subst hsz
  have hD : va_D (aL 96 ad s.heap.size) (wB ad kk σ) := aL_D hD0
  have hS : va_S (aL 96 ad s.heap.size) s.heap s.heap [] := va_S.rf
  have hl := lv_entry ([.ref (ad 0), .ref (ad (pPi i1)), .ref (ad (pMe i2)), .int p3, .int p4]) (n := 10) (Nat.le_of_ble_eq_true rfl)
  rw [lg_entry_eq]
  generalize (lg_sl ([.ref (ad 0), .ref (ad (pPi i1)), .ref (ad (pMe i2)), .int p3, .int p4]) ++ List.replicate (10 - (lg_sl ([.ref (ad 0), .ref (ad (pPi i1)), .ref (ad (pMe i2)), .int p3, .int p4])).length) Slot.unset).toArray = ls at hl ⊢
  have hl : lv_has ls 10 [(0, .ref (ad 0)), (1, .ref (ad (pPi i1))), (2, .ref (ad (pMe i2))), (3, .int p3), (4, .int p4)] := hl
  have CF : CallFix p m c cX4_reasonAgainst 10 s ([.ref (ad 0), .ref (ad (pPi i1)), .ref (ad (pMe i2)), .int p3, .int p4] : List Value).toArray wsX4_reasonAgainst RX4 := ⟨hx, hb, hml, hown, hts⟩
  have ht : ∀ w ∈ T0, w.before ([.ref (ad 0), .ref (ad (pPi i1)), .ref (ad (pMe i2)), .int p3, .int p4] : List Value).toArray s = true := fun w h => hts w (List.mem_cons_of_mem _ h)
  generalize hT : M_reasonAgainst σ i1 i2 p3 p4 = T
  rw [M_reasonAgainst] at hT
  refine lv_aload_n hx hb dX4_reasonAgainst_0 rfl (lv_at hl 1 rfl) ?_
  refine lv_aload_n hx hb dX4_reasonAgainst_1 rfl (lv_at hl 2 rfl) ?_
  refine va_get (D := D) (ci := 1) (v := .int (gF σ (pMe i2) 2)) (C := RX1) (T := TX1) (N := 9) hx hb ht inX1 hown hK hP (pMe i2) (g_Me h2) rfl 2 (by decide) (ht _ mw_59) (fun _ h9 => h9) rfl dX4_reasonAgainst_2 ?_
  refine kB_i (va_runV (As := [.int (gF σ (pMe i2) 2)]) (rest := []) CF (k_firstPartOf l D ad kk _ σ i1 (gF σ (pMe i2) 2) h1 hp) ⟨callB_of 1 hts (gT mw_430) rfl rfl rfl (ht _ mw_4) (ht _ mw_427) (by decide +kernel) ⟨Nat.le_of_ble_eq_true rfl, Nat.le_of_ble_eq_true rfl⟩, (ht _ mw_428), (ht _ mw_429)⟩ (preV_B hK hP hD hE hS (ci := 3) rfl rfl (g_Pi h1)) rfl rfl hl.1 rfl (lv_room (Nat.le_of_ble_eq_true rfl)) dX4_reasonAgainst_5 ⟨Nat.le_of_ble_eq_true rfl, Nat.le_of_ble_eq_true rfl⟩) hS (fun r1 u9 H locs hw hP hD hS => ?_)
  obtain ⟨rfl, e9⟩ := hw
  rw [e9] at hP hD
  refine lv_istore (lv' := [(5, .int (M_firstPartOf σ i1 (gF σ (pMe i2) 2))), (0, .ref (ad 0)), (1, .ref (ad (pPi i1))), (2, .ref (ad (pMe i2))), (3, .int p3), (4, .int p4)]) hx hb dX4_reasonAgainst_8 hl (by decide) rfl (fun ls hl => ?_)
  refine lv_iload hx hb dX4_reasonAgainst_10 (lv_at hl 0 rfl) ?_
  refine lv_iconst (v := (-1)) hx hb dX4_reasonAgainst_12 (by decide) ?_
  refine lv_icmp_eq (tgt := 22) hx hb dX4_reasonAgainst_13 (by decide) (fun c2 => ?_) (fun c2 => ?_)
  · rw [if_pos c2] at hT
    refine lv_aload_n hx hb dX4_reasonAgainst_22 rfl (lv_at hl 3 rfl) ?_
    refine va_get (D := D) (ci := 1) (v := .int (gF σ (pMe i2) 3)) (C := RX1) (T := TX1) (N := 9) hx hb ht inX1 hown hK hP (pMe i2) (g_Me h2) rfl 3 (by decide) (ht _ mw_62) (fun _ h9 => h9) rfl dX4_reasonAgainst_23 ?_
    refine lv_aload_n hx hb dX4_reasonAgainst_26 rfl (lv_at hl 2 rfl) ?_
    refine va_get (D := D) (ci := 3) (v := .int (gF σ (pPi i1) 6)) (C := RX3) (T := TX3) (N := 8) hx hb ht inX3 hown hK hP (pPi i1) (g_Pi h1) rfl 6 (by decide) (ht _ mw_112) (fun _ h9 => h9) rfl dX4_reasonAgainst_27 ?_
    refine lv_iand hx hb dX4_reasonAgainst_30 ?_
    refine vp_callSi (W.runS (As := [.int ((gF σ (pMe i2) 3) &&& (gF σ (pPi i1) 6))]) (rest := []) CF (k_lowest l ((gF σ (pMe i2) 3) &&& (gF σ (pPi i1) 6))) ⟨callB_of 1 hts (gT mw_434) rfl rfl rfl (ht _ mw_1) (ht _ mw_432) (by decide +kernel) ⟨Nat.le_of_ble_eq_true rfl, Nat.le_of_ble_eq_true rfl⟩, (ht _ mw_433)⟩ preEq rfl rfl hl.1 rfl (lv_room (Nat.le_of_ble_eq_true rfl)) dX4_reasonAgainst_31 ⟨Nat.le_of_ble_eq_true rfl, Nat.le_of_ble_eq_true rfl⟩) (fun r3 h_r3 => ?_)
    obtain rfl := h_r3
    refine lv_istore (lv' := [(6, .int (M_lowest ((gF σ (pMe i2) 3) &&& (gF σ (pPi i1) 6)))), (5, .int (M_firstPartOf σ i1 (gF σ (pMe i2) 2))), (0, .ref (ad 0)), (1, .ref (ad (pPi i1))), (2, .ref (ad (pMe i2))), (3, .int p3), (4, .int p4)]) hx hb dX4_reasonAgainst_34 hl (by decide) rfl (fun ls hl => ?_)
    refine lv_iload hx hb dX4_reasonAgainst_36 (lv_at hl 0 rfl) ?_
    refine lv_iconst (v := (-1)) hx hb dX4_reasonAgainst_38 (by decide) ?_
    refine lv_icmp_eq (tgt := 49) hx hb dX4_reasonAgainst_39 (by decide) (fun c4 => ?_) (fun c4 => ?_)
    · rw [if_pos c4] at hT
      refine lv_aload_n hx hb dX4_reasonAgainst_49 rfl (lv_at hl 3 rfl) ?_
      refine lv_aload_n hx hb dX4_reasonAgainst_50 rfl (lv_at hl 4 rfl) ?_
      refine lv_iload hx hb dX4_reasonAgainst_51 (lv_at hl 6 rfl) ?_
      refine kB_i (va_runS (As := [.ref (ad (pPi i1)), .ref (ad (pMe i2)), .int p4]) (rest := []) CF (k_lowestNotLongEnoughAgo l D ad kk _ σ i1 i2 p4 h1 h2) ⟨callB_of 3 hts (gT mw_437) rfl rfl rfl (ht _ mw_1) (ht _ mw_435) (by decide +kernel) ⟨Nat.le_of_ble_eq_true rfl, Nat.le_of_ble_eq_true rfl⟩, (ht _ mw_436)⟩ (preS_B hK hP hD hE hS) rfl rfl hl.1 rfl (lv_room (Nat.le_of_ble_eq_true rfl)) dX4_reasonAgainst_53 ⟨Nat.le_of_ble_eq_true rfl, Nat.le_of_ble_eq_true rfl⟩) hS (fun r5 u9 H locs hw hP hD hS => ?_)
      obtain ⟨rfl, e9⟩ := hw
      rw [e9] at hP hD
      refine lv_istore (lv' := [(7, .int (M_lowestNotLongEnoughAgo σ i1 i2 p4)), (6, .int (M_lowest ((gF σ (pMe i2) 3) &&& (gF σ (pPi i1) 6)))), (5, .int (M_firstPartOf σ i1 (gF σ (pMe i2) 2))), (0, .ref (ad 0)), (1, .ref (ad (pPi i1))), (2, .ref (ad (pMe i2))), (3, .int p3), (4, .int p4)]) hx hb dX4_reasonAgainst_56 hl (by decide) rfl (fun ls hl => ?_)
      refine lv_iload hx hb dX4_reasonAgainst_58 (lv_at hl 0 rfl) ?_
      refine lv_iconst (v := (-1)) hx hb dX4_reasonAgainst_60 (by decide) ?_
      refine lv_icmp_eq (tgt := 71) hx hb dX4_reasonAgainst_61 (by decide) (fun c6 => ?_) (fun c6 => ?_)
      · rw [if_pos c6] at hT
        refine lv_aload_n hx hb dX4_reasonAgainst_71 rfl (lv_at hl 5 rfl) ?_
        refine va_get (D := D) (ci := 1) (v := .int (gF σ (pMe i2) 5)) (C := RX1) (T := TX1) (N := 9) hx hb ht inX1 hown hK hP (pMe i2) (g_Me h2) rfl 5 (by decide) (ht _ mw_68) (fun _ h9 => h9) rfl dX4_reasonAgainst_72 ?_
        refine lv_if_eq (tgt := 95) hx hb dX4_reasonAgainst_75 (by decide) (fun c7 => ?_) (fun c7 => ?_)
        · rw [if_pos c7] at hT
          refine lv_iconst (v := (-1)) hx hb dX4_reasonAgainst_95 (by decide) ?_
          refine lv_istore (lv' := [(8, .int (-1)), (7, .int (M_lowestNotLongEnoughAgo σ i1 i2 p4)), (6, .int (M_lowest ((gF σ (pMe i2) 3) &&& (gF σ (pPi i1) 6)))), (5, .int (M_firstPartOf σ i1 (gF σ (pMe i2) 2))), (0, .ref (ad 0)), (1, .ref (ad (pPi i1))), (2, .ref (ad (pMe i2))), (3, .int p3), (4, .int p4)]) hx hb dX4_reasonAgainst_96 hl (by decide) rfl (fun ls hl => ?_)
          refine lv_iload hx hb dX4_reasonAgainst_98 (lv_at hl 0 rfl) ?_
          refine lv_iconst (v := (-1)) hx hb dX4_reasonAgainst_100 (by decide) ?_
          refine lv_icmp_eq (tgt := 111) hx hb dX4_reasonAgainst_101 (by decide) (fun c8 => ?_) (fun c8 => ?_)
          · rw [if_pos c8] at hT
            refine lv_aload_n hx hb dX4_reasonAgainst_111 rfl (lv_at hl 4 rfl) ?_
            refine lv_aload_n hx hb dX4_reasonAgainst_112 rfl (lv_at hl 6 rfl) ?_
            refine kB_i (va_runV (As := [.ref (ad (pMe i2))]) (rest := []) CF (k_lowestLacking l D ad kk _ σ i2 h2) ⟨callB_of 1 hts (gT mw_441) rfl rfl rfl (ht _ mw_1) (ht _ mw_438) (by decide +kernel) ⟨Nat.le_of_ble_eq_true rfl, Nat.le_of_ble_eq_true rfl⟩, (ht _ mw_440), (ht _ ms_12)⟩ (preV_B hK hP hD hE hS (ci := 4) rfl rfl g_MB) rfl rfl hl.1 rfl (lv_room (Nat.le_of_ble_eq_true rfl)) dX4_reasonAgainst_113 ⟨Nat.le_of_ble_eq_true rfl, Nat.le_of_ble_eq_true rfl⟩) hS (fun r9 u9 H locs hw hP hD hS => ?_)
            obtain ⟨rfl, e9⟩ := hw
            rw [e9] at hP hD
            refine lv_istore (lv' := [(9, .int (M_lowestLacking σ i2)), (8, .int (-1)), (7, .int (M_lowestNotLongEnoughAgo σ i1 i2 p4)), (6, .int (M_lowest ((gF σ (pMe i2) 3) &&& (gF σ (pPi i1) 6)))), (5, .int (M_firstPartOf σ i1 (gF σ (pMe i2) 2))), (0, .ref (ad 0)), (1, .ref (ad (pPi i1))), (2, .ref (ad (pMe i2))), (3, .int p3), (4, .int p4)]) hx hb dX4_reasonAgainst_116 hl (by decide) rfl (fun ls hl => ?_)
            refine lv_iload hx hb dX4_reasonAgainst_118 (lv_at hl 0 rfl) ?_
            refine lv_iconst (v := (-1)) hx hb dX4_reasonAgainst_120 (by decide) ?_
            refine lv_icmp_eq (tgt := 131) hx hb dX4_reasonAgainst_121 (by decide) (fun c10 => ?_) (fun c10 => ?_)
            · rw [if_pos c10] at hT
              refine lv_aload_n hx hb dX4_reasonAgainst_131 rfl (lv_at hl 7 rfl) ?_
              refine va_get (D := D) (ci := 1) (v := .int (gF σ (pMe i2) 7)) (C := RX1) (T := TX1) (N := 9) hx hb ht inX1 hown hK hP (pMe i2) (g_Me h2) rfl 7 (by decide) (ht _ mw_72) (fun _ h9 => h9) rfl dX4_reasonAgainst_132 ?_
              refine lv_iload_n hx hb dX4_reasonAgainst_135 rfl (lv_at hl 8 rfl) ?_
              refine vp_callSi (W.runS (As := [.int (gF σ (pMe i2) 7), .int p3]) (rest := []) CF (k_has l (gF σ (pMe i2) 7) p3) ⟨callB_of 2 hts (gT mw_402) rfl rfl rfl (ht _ mw_1) (ht _ mw_400) (by decide +kernel) ⟨Nat.le_of_ble_eq_true rfl, Nat.le_of_ble_eq_true rfl⟩, (ht _ mw_401)⟩ preEq rfl rfl hl.1 rfl (lv_room (Nat.le_of_ble_eq_true rfl)) dX4_reasonAgainst_136 ⟨Nat.le_of_ble_eq_true rfl, Nat.le_of_ble_eq_true rfl⟩) (fun r11 h_r11 => ?_)
              obtain rfl := h_r11
              refine lv_if_eq (tgt := 146) hx hb dX4_reasonAgainst_139 (by decide) (fun c12 => ?_) (fun c12 => ?_)
              · rw [if_pos c12] at hT
                refine lv_sipush (v := 600) hx hb dX4_reasonAgainst_146 (by decide) ?_
                exact W.iret (v := 600) hx hb hr (fun t ht hW => ⟨⟨600, σ, rfl, ⟨hT, rfl⟩, by rw [ht]; exact hP, va_K.moved hW.alike hK, hD⟩, hS.F ht⟩) hS.2.2 dX4_reasonAgainst_149
              · rw [if_neg c12] at hT
                refine lv_iconst (v := 0) hx hb dX4_reasonAgainst_142 (by decide) ?_
                refine lv_goto (tgt := 149) hx hb dX4_reasonAgainst_143 (by decide) ?_
                exact W.iret (v := 0) hx hb hr (fun t ht hW => ⟨⟨0, σ, rfl, ⟨hT, rfl⟩, by rw [ht]; exact hP, va_K.moved hW.alike hK, hD⟩, hS.F ht⟩) hS.2.2 dX4_reasonAgainst_149
            · rw [if_neg c10] at hT
              refine lv_sipush (v := 500) hx hb dX4_reasonAgainst_124 (by decide) ?_
              refine lv_iload hx hb dX4_reasonAgainst_127 (lv_at hl 0 rfl) ?_
              refine lv_iadd hx hb dX4_reasonAgainst_129 ?_
              exact W.iret (v := 500 + (M_lowestLacking σ i2)) hx hb hr (fun t ht hW => ⟨⟨500 + (M_lowestLacking σ i2), σ, rfl, ⟨hT, rfl⟩, by rw [ht]; exact hP, va_K.moved hW.alike hK, hD⟩, hS.F ht⟩) hS.2.2 dX4_reasonAgainst_130
          · rw [if_neg c8] at hT
            refine lv_sipush (v := 400) hx hb dX4_reasonAgainst_104 (by decide) ?_
            refine lv_iload hx hb dX4_reasonAgainst_107 (lv_at hl 0 rfl) ?_
            refine lv_iadd hx hb dX4_reasonAgainst_109 ?_
            exact W.iret (v := 400 + (-1)) hx hb hr (fun t ht hW => ⟨⟨400 + (-1), σ, rfl, ⟨hT, rfl⟩, by rw [ht]; exact hP, va_K.moved hW.alike hK, hD⟩, hS.F ht⟩) hS.2.2 dX4_reasonAgainst_110
        · rw [if_neg c7] at hT
          refine lv_aload_n hx hb dX4_reasonAgainst_78 rfl (lv_at hl 4 rfl) ?_
          refine va_get (D := D) (ci := 3) (v := .int (gF σ (pPi i1) 5)) (C := RX3) (T := TX3) (N := 8) hx hb ht inX3 hown hK hP (pPi i1) (g_Pi h1) rfl 5 (by decide) (ht _ mw_110) (fun _ h9 => h9) rfl dX4_reasonAgainst_79 ?_
          refine lv_aload_n hx hb dX4_reasonAgainst_82 rfl (lv_at hl 5 rfl) ?_
          refine va_get (D := D) (ci := 1) (v := .int (gF σ (pMe i2) 8)) (C := RX1) (T := TX1) (N := 9) hx hb ht inX1 hown hK hP (pMe i2) (g_Me h2) rfl 8 (by decide) (ht _ mw_73) (fun _ h9 => h9) rfl dX4_reasonAgainst_83 ?_
          refine lv_iconst (v := (-1)) hx hb dX4_reasonAgainst_86 (by decide) ?_
          refine lv_ixor hx hb dX4_reasonAgainst_87 ?_
          refine lv_iand hx hb dX4_reasonAgainst_88 ?_
          refine vp_callSi (W.runS (As := [.int ((gF σ (pPi i1) 5) &&& ((gF σ (pMe i2) 8) ^^^ (-1)))]) (rest := []) CF (k_lowest l ((gF σ (pPi i1) 5) &&& ((gF σ (pMe i2) 8) ^^^ (-1)))) ⟨callB_of 1 hts (gT mw_434) rfl rfl rfl (ht _ mw_1) (ht _ mw_432) (by decide +kernel) ⟨Nat.le_of_ble_eq_true rfl, Nat.le_of_ble_eq_true rfl⟩, (ht _ mw_433)⟩ preEq rfl rfl hl.1 rfl (lv_room (Nat.le_of_ble_eq_true rfl)) dX4_reasonAgainst_89 ⟨Nat.le_of_ble_eq_true rfl, Nat.le_of_ble_eq_true rfl⟩) (fun r13 h_r13 => ?_)
          obtain rfl := h_r13
          refine lv_goto (tgt := 96) hx hb dX4_reasonAgainst_92 (by decide) ?_
          refine lv_istore (lv' := [(8, .int (M_lowest ((gF σ (pPi i1) 5) &&& ((gF σ (pMe i2) 8) ^^^ (-1))))), (7, .int (M_lowestNotLongEnoughAgo σ i1 i2 p4)), (6, .int (M_lowest ((gF σ (pMe i2) 3) &&& (gF σ (pPi i1) 6)))), (5, .int (M_firstPartOf σ i1 (gF σ (pMe i2) 2))), (0, .ref (ad 0)), (1, .ref (ad (pPi i1))), (2, .ref (ad (pMe i2))), (3, .int p3), (4, .int p4)]) hx hb dX4_reasonAgainst_96 hl (by decide) rfl (fun ls hl => ?_)
          refine lv_iload hx hb dX4_reasonAgainst_98 (lv_at hl 0 rfl) ?_
          refine lv_iconst (v := (-1)) hx hb dX4_reasonAgainst_100 (by decide) ?_
          refine lv_icmp_eq (tgt := 111) hx hb dX4_reasonAgainst_101 (by decide) (fun c14 => ?_) (fun c14 => ?_)
          · rw [if_pos c14] at hT
            refine lv_aload_n hx hb dX4_reasonAgainst_111 rfl (lv_at hl 4 rfl) ?_
            refine lv_aload_n hx hb dX4_reasonAgainst_112 rfl (lv_at hl 6 rfl) ?_
            refine kB_i (va_runV (As := [.ref (ad (pMe i2))]) (rest := []) CF (k_lowestLacking l D ad kk _ σ i2 h2) ⟨callB_of 1 hts (gT mw_441) rfl rfl rfl (ht _ mw_1) (ht _ mw_438) (by decide +kernel) ⟨Nat.le_of_ble_eq_true rfl, Nat.le_of_ble_eq_true rfl⟩, (ht _ mw_440), (ht _ ms_12)⟩ (preV_B hK hP hD hE hS (ci := 4) rfl rfl g_MB) rfl rfl hl.1 rfl (lv_room (Nat.le_of_ble_eq_true rfl)) dX4_reasonAgainst_113 ⟨Nat.le_of_ble_eq_true rfl, Nat.le_of_ble_eq_true rfl⟩) hS (fun r15 u9 H locs hw hP hD hS => ?_)
            obtain ⟨rfl, e9⟩ := hw
            rw [e9] at hP hD
            refine lv_istore (lv' := [(9, .int (M_lowestLacking σ i2)), (8, .int (M_lowest ((gF σ (pPi i1) 5) &&& ((gF σ (pMe i2) 8) ^^^ (-1))))), (7, .int (M_lowestNotLongEnoughAgo σ i1 i2 p4)), (6, .int (M_lowest ((gF σ (pMe i2) 3) &&& (gF σ (pPi i1) 6)))), (5, .int (M_firstPartOf σ i1 (gF σ (pMe i2) 2))), (0, .ref (ad 0)), (1, .ref (ad (pPi i1))), (2, .ref (ad (pMe i2))), (3, .int p3), (4, .int p4)]) hx hb dX4_reasonAgainst_116 hl (by decide) rfl (fun ls hl => ?_)
            refine lv_iload hx hb dX4_reasonAgainst_118 (lv_at hl 0 rfl) ?_
            refine lv_iconst (v := (-1)) hx hb dX4_reasonAgainst_120 (by decide) ?_
            refine lv_icmp_eq (tgt := 131) hx hb dX4_reasonAgainst_121 (by decide) (fun c16 => ?_) (fun c16 => ?_)
            · rw [if_pos c16] at hT
              refine lv_aload_n hx hb dX4_reasonAgainst_131 rfl (lv_at hl 7 rfl) ?_
              refine va_get (D := D) (ci := 1) (v := .int (gF σ (pMe i2) 7)) (C := RX1) (T := TX1) (N := 9) hx hb ht inX1 hown hK hP (pMe i2) (g_Me h2) rfl 7 (by decide) (ht _ mw_72) (fun _ h9 => h9) rfl dX4_reasonAgainst_132 ?_
              refine lv_iload_n hx hb dX4_reasonAgainst_135 rfl (lv_at hl 8 rfl) ?_
              refine vp_callSi (W.runS (As := [.int (gF σ (pMe i2) 7), .int p3]) (rest := []) CF (k_has l (gF σ (pMe i2) 7) p3) ⟨callB_of 2 hts (gT mw_402) rfl rfl rfl (ht _ mw_1) (ht _ mw_400) (by decide +kernel) ⟨Nat.le_of_ble_eq_true rfl, Nat.le_of_ble_eq_true rfl⟩, (ht _ mw_401)⟩ preEq rfl rfl hl.1 rfl (lv_room (Nat.le_of_ble_eq_true rfl)) dX4_reasonAgainst_136 ⟨Nat.le_of_ble_eq_true rfl, Nat.le_of_ble_eq_true rfl⟩) (fun r17 h_r17 => ?_)
              obtain rfl := h_r17
              refine lv_if_eq (tgt := 146) hx hb dX4_reasonAgainst_139 (by decide) (fun c18 => ?_) (fun c18 => ?_)
              · rw [if_pos c18] at hT
                refine lv_sipush (v := 600) hx hb dX4_reasonAgainst_146 (by decide) ?_
                exact W.iret (v := 600) hx hb hr (fun t ht hW => ⟨⟨600, σ, rfl, ⟨hT, rfl⟩, by rw [ht]; exact hP, va_K.moved hW.alike hK, hD⟩, hS.F ht⟩) hS.2.2 dX4_reasonAgainst_149
              · rw [if_neg c18] at hT
                refine lv_iconst (v := 0) hx hb dX4_reasonAgainst_142 (by decide) ?_
                refine lv_goto (tgt := 149) hx hb dX4_reasonAgainst_143 (by decide) ?_
                exact W.iret (v := 0) hx hb hr (fun t ht hW => ⟨⟨0, σ, rfl, ⟨hT, rfl⟩, by rw [ht]; exact hP, va_K.moved hW.alike hK, hD⟩, hS.F ht⟩) hS.2.2 dX4_reasonAgainst_149
            · rw [if_neg c16] at hT
              refine lv_sipush (v := 500) hx hb dX4_reasonAgainst_124 (by decide) ?_
              refine lv_iload hx hb dX4_reasonAgainst_127 (lv_at hl 0 rfl) ?_
              refine lv_iadd hx hb dX4_reasonAgainst_129 ?_
              exact W.iret (v := 500 + (M_lowestLacking σ i2)) hx hb hr (fun t ht hW => ⟨⟨500 + (M_lowestLacking σ i2), σ, rfl, ⟨hT, rfl⟩, by rw [ht]; exact hP, va_K.moved hW.alike hK, hD⟩, hS.F ht⟩) hS.2.2 dX4_reasonAgainst_130
          · rw [if_neg c14] at hT
            refine lv_sipush (v := 400) hx hb dX4_reasonAgainst_104 (by decide) ?_
            refine lv_iload hx hb dX4_reasonAgainst_107 (lv_at hl 0 rfl) ?_
            refine lv_iadd hx hb dX4_reasonAgainst_109 ?_
            exact W.iret (v := 400 + (M_lowest ((gF σ (pPi i1) 5) &&& ((gF σ (pMe i2) 8) ^^^ (-1))))) hx hb hr (fun t ht hW => ⟨⟨400 + (M_lowest ((gF σ (pPi i1) 5) &&& ((gF σ (pMe i2) 8) ^^^ (-1)))), σ, rfl, ⟨hT, rfl⟩, by rw [ht]; exact hP, va_K.moved hW.alike hK, hD⟩, hS.F ht⟩) hS.2.2 dX4_reasonAgainst_110
      · rw [if_neg c6] at hT
        refine lv_sipush (v := 300) hx hb dX4_reasonAgainst_64 (by decide) ?_
        refine lv_iload hx hb dX4_reasonAgainst_67 (lv_at hl 0 rfl) ?_
        refine lv_iadd hx hb dX4_reasonAgainst_69 ?_
        exact W.iret (v := 300 + (M_lowestNotLongEnoughAgo σ i1 i2 p4)) hx hb hr (fun t ht hW => ⟨⟨300 + (M_lowestNotLongEnoughAgo σ i1 i2 p4), σ, rfl, ⟨hT, rfl⟩, by rw [ht]; exact hP, va_K.moved hW.alike hK, hD⟩, hS.F ht⟩) hS.2.2 dX4_reasonAgainst_70
    · rw [if_neg c4] at hT
      refine lv_sipush (v := 200) hx hb dX4_reasonAgainst_42 (by decide) ?_
      refine lv_iload hx hb dX4_reasonAgainst_45 (lv_at hl 0 rfl) ?_
      refine lv_iadd hx hb dX4_reasonAgainst_47 ?_
      exact W.iret (v := 200 + (M_lowest ((gF σ (pMe i2) 3) &&& (gF σ (pPi i1) 6)))) hx hb hr (fun t ht hW => ⟨⟨200 + (M_lowest ((gF σ (pMe i2) 3) &&& (gF σ (pPi i1) 6))), σ, rfl, ⟨hT, rfl⟩, by rw [ht]; exact hP, va_K.moved hW.alike hK, hD⟩, hS.F ht⟩) hS.2.2 dX4_reasonAgainst_48
  · rw [if_neg c2] at hT
    refine lv_bipush (v := 100) hx hb dX4_reasonAgainst_16 (by decide) ?_
    refine lv_iload hx hb dX4_reasonAgainst_18 (lv_at hl 0 rfl) ?_
    refine lv_iadd hx hb dX4_reasonAgainst_20 ?_
    exact W.iret (v := 100 + (M_firstPartOf σ i1 (gF σ (pMe i2) 2))) hx hb hr (fun t ht hW => ⟨⟨100 + (M_firstPartOf σ i1 (gF σ (pMe i2) 2)), σ, rfl, ⟨hT, rfl⟩, by rw [ht]; exact hP, va_K.moved hW.alike hK, hD⟩, hS.F ht⟩) hS.2.2 dX4_reasonAgainst_21
set_option maxHeartbeats 4000000 in
set_option maxRecDepth 100000 in
theorem k_takeWhatGoes (l : Launch) (D : va_G) (ad : Nat → Nat) (kk : Nat → ClassId) (sz : Nat) (σ : St) (i1 : Nat) (h1 : i1 < 12) : Met l yX4_takeWhatGoes wsX4_takeWhatGoes { frames := 1, cells := 0, slots := 0, locals := 21 } (va_Pc [.ref (ad 0), .ref (ad (pMe i1))] (PB D ad kk sz σ)) (va_Qv (fun u => u = M_takeWhatGoes σ i1) (QB D ad kk sz) (aL 96 ad sz)) 0 0 (aL 96 ad sz) := by
  refine Met.ofW (cc := cX4_takeWhatGoes) (maxL := 3) (ret := none) (by decide) rfl ?_
  intro p e s m args below meth c s₁ B hml hv
  obtain ⟨rfl, hsz, hP, hK, hD0, hE⟩ := hv
  have hx := B.exec
  have hb := B.bytes
  have hr := B.returns
  have hts := atoms_spec (ws := wsX4_takeWhatGoes) B.pre
  have hown : s.vm.findClass RX4 = some m.cls := findClass_of_methodNamed B.named
  have hlocks := B.notSynchronized
  subst hsz
  have hD : va_D (aL 96 ad s.heap.size) (wB ad kk σ) := aL_D hD0
  have hS : va_S (aL 96 ad s.heap.size) s.heap s.heap [] := va_S.rf
  have hl := lv_entry ([.ref (ad 0), .ref (ad (pMe i1))]) (n := 3) (Nat.le_of_ble_eq_true rfl)
  rw [lg_entry_eq]
  generalize (lg_sl ([.ref (ad 0), .ref (ad (pMe i1))]) ++ List.replicate (3 - (lg_sl ([.ref (ad 0), .ref (ad (pMe i1))])).length) Slot.unset).toArray = ls at hl ⊢
  have hl : lv_has ls 3 [(0, .ref (ad 0)), (1, .ref (ad (pMe i1)))] := hl
  have CF : CallFix p m c cX4_takeWhatGoes 3 s ([.ref (ad 0), .ref (ad (pMe i1))] : List Value).toArray wsX4_takeWhatGoes RX4 := ⟨hx, hb, hml, hown, hts⟩
  have ht : ∀ w ∈ T0, w.before ([.ref (ad 0), .ref (ad (pMe i1))] : List Value).toArray s = true := fun w h => hts w (List.mem_cons_of_mem _ h)
  generalize hT : M_takeWhatGoes σ i1 = T
  refine namedQ (fun Q eQ => ?_)
  have L_2 : ∀ (n i102 : Nat) (τ2 : St) (H : Heap) (locs : List Loc) (ls : Array Slot), i102 ≤ 12 → 13 ≤ i102 + n → va_P D vwCl (wB ad kk τ2) H → va_D (aL 96 ad s.heap.size) (wB ad kk τ2) → va_S (aL 96 ad s.heap.size) s.heap H locs → lv_has ls 3 [(0, .ref (ad 0)), (1, .ref (ad (pMe i1))), (2, .int (nI i102))] → M_takeWhatGoes_h2 n i102 τ2 i1 = T → W p l e (headSpec wsX4_takeWhatGoes { frames := 1, cells := 0, slots := 0, locals := 21 }).room s m ([.ref (ad 0), .ref (ad (pMe i1))] : List Value).toArray below meth c H locs 0 0 Q (F0 m 2 ls []) := by
    intro n
    induction n with
    | zero =>
      intro i102 τ2 H locs ls h_le h_fu hP hD hS hl hT
      exact absurd h_fu (by omega)
    | succ n ih =>
      intro i102 τ2 H locs ls h_le h_fu hP hD hS hl hT
      rw [M_takeWhatGoes_h2] at hT
      refine lv_iload_n hx hb dX4_takeWhatGoes_2 rfl (lv_at hl 2 rfl) ?_
      refine lv_bipush (v := 12) hx hb dX4_takeWhatGoes_3 (by decide) ?_
      refine lv_icmp_ge (tgt := 30) hx hb dX4_takeWhatGoes_5 (by decide) (fun c1 => ?_) (fun c1 => ?_)
      · rw [if_pos c1] at hT
        rw [eQ]
        exact W.vret hx hb hr (fun t ht hW => ⟨⟨τ2, rfl, hT, by rw [ht]; exact hP, va_K.moved hW.alike hK, hD⟩, hS.F ht⟩) hS.2.2 dX4_takeWhatGoes_30
      · rw [if_neg c1] at hT
        have h_lt := lp_lt (N := 12) (by decide) (by decide) h_le c1
        refine lv_aload_n hx hb dX4_takeWhatGoes_8 rfl (lv_at hl 0 rfl) ?_
        refine va_get (D := D) (ci := 4) (v := .ref (ad 81)) (C := RX4) (T := TX4) (N := 9) hx hb ht inX4 hown hK hP 0 g_MB rfl 3 (by decide) (ht _ mw_162) (fun _ h9 => h9) rfl dX4_takeWhatGoes_9 ?_
        refine lv_iload_n hx hb dX4_takeWhatGoes_12 rfl (lv_at hl 2 rfl) ?_
        refine va_aldq (i := nI i102) hx hb hK hP 81 3 g_goods rfl (vp_in_nI h_lt (by decide)) dX4_takeWhatGoes_13 ?_
        rw [nI_clamp (n := i102) (by omega)]
        refine W.eq (g2 := F0 m 14 ls (.ref (ad (pGo i102)) :: [])) rfl ?_
        refine lv_aload_n hx hb dX4_takeWhatGoes_14 rfl (lv_at hl 1 rfl) ?_
        refine va_get (D := D) (ci := 1) (v := .ref (ad (pMe i1 + 1))) (C := RX1) (T := TX1) (N := 9) hx hb ht inX1 hown hK hP (pMe i1) (g_Me h1) rfl 0 (by decide) (ht _ mw_52) (fun _ h9 => h9) rfl dX4_takeWhatGoes_15 ?_
        refine lv_iload_n hx hb dX4_takeWhatGoes_18 rfl (lv_at hl 2 rfl) ?_
        refine va_iald (i := nI i102) hx hb hK hP (pMe i1 + 1) 0 (g_Ma h1) rfl (vp_in_nI h_lt (by decide)) dX4_takeWhatGoes_19 ?_
        rw [nI_clamp (n := i102) (by omega)]
        refine lv_ineg hx hb dX4_takeWhatGoes_20 ?_
        refine kB_v (va_runV (As := [.int (-(gA τ2 (pMe i1 + 1) i102))]) (rest := []) CF (k_changeBy l D ad kk _ τ2 i102 (-(gA τ2 (pMe i1 + 1) i102)) h_lt) ⟨callB_of 1 hts (gT mw_457) rfl rfl rfl (ht _ mw_5) (ht _ mw_454) (by decide +kernel) ⟨Nat.le_of_ble_eq_true rfl, Nat.le_of_ble_eq_true rfl⟩, (ht _ mw_455), (ht _ mw_456)⟩ (preV_B hK hP hD hE hS (ci := 0) rfl rfl (g_Go h_lt)) rfl rfl hl.1 rfl (lv_room (Nat.le_of_ble_eq_true rfl)) dX4_takeWhatGoes_21 ⟨Nat.le_of_ble_eq_true rfl, Nat.le_of_ble_eq_true rfl⟩) hS (fun σ3 H locs hw hP hD hS => ?_)
        rw [← hw, vb_eq] at hT
        have h_r2 := hw
        refine lv_iinc (v := nI (i102 + 1)) (lv' := [(2, .int (nI (i102 + 1))), (0, .ref (ad 0)), (1, .ref (ad (pMe i1)))]) hx hb dX4_takeWhatGoes_24 hl (k := 2) rfl (nI_1 i102) (by decide) rfl (fun ls hl => ?_)
        refine lv_goto (tgt := 2) hx hb dX4_takeWhatGoes_27 (by decide) ?_
        exact ih  (i102 + 1) σ3 _ _ ls h_lt (by omega) hP hD hS (lv_sub hl [1, 2, 0] rfl) hT
  rw [M_takeWhatGoes] at hT
  refine lv_iconst (v := 0) hx hb dX4_takeWhatGoes_0 (by decide) ?_
  refine lv_istore_n (lv' := [(2, .int 0), (0, .ref (ad 0)), (1, .ref (ad (pMe i1)))]) hx hb dX4_takeWhatGoes_1 rfl hl (by decide) rfl (fun ls hl => ?_)
  exact L_2 13 0 σ _ _ ls (Nat.zero_le _) (by decide) hP hD hS (lv_sub hl [1, 2, 0] rfl) hT
set_option maxHeartbeats 4000000 in
set_option maxRecDepth 100000 in
theorem k_goodsOn (l : Launch) (D : va_G) (ad : Nat → Nat) (kk : Nat → ClassId) (sz : Nat) (σ : St) (p1 : Int32) : Met l yX4_goodsOn wsX4_goodsOn { frames := 1, cells := 0, slots := 0, locals := 22 } (va_Pc [.ref (ad 0), .int p1] (PB D ad kk sz σ)) (va_Qi (fun r u => r = M_goodsOn σ p1 ∧ u = σ) (QB D ad kk sz) (aL 96 ad sz)) 0 0 (aL 96 ad sz) := by
  refine Met.ofW (cc := cX4_goodsOn) (maxL := 4) (ret := (some .int)) (by decide) rfl ?_
  intro p e s m args below meth c s₁ B hml hv
  obtain ⟨rfl, hsz, hP, hK, hD0, hE⟩ := hv
  have hx := B.exec
  have hb := B.bytes
  have hr := B.returns
  have hts := atoms_spec (ws := wsX4_goodsOn) B.pre
  have hown : s.vm.findClass RX4 = some m.cls := findClass_of_methodNamed B.named
  have hlocks := B.notSynchronized
  subst hsz
  have hD : va_D (aL 96 ad s.heap.size) (wB ad kk σ) := aL_D hD0
  have hS : va_S (aL 96 ad s.heap.size) s.heap s.heap [] := va_S.rf
  have hl := lv_entry ([.ref (ad 0), .int p1]) (n := 4) (Nat.le_of_ble_eq_true rfl)
  rw [lg_entry_eq]
  generalize (lg_sl ([.ref (ad 0), .int p1]) ++ List.replicate (4 - (lg_sl ([.ref (ad 0), .int p1])).length) Slot.unset).toArray = ls at hl ⊢
  have hl : lv_has ls 4 [(0, .ref (ad 0)), (1, .int p1)] := hl
  have CF : CallFix p m c cX4_goodsOn 4 s ([.ref (ad 0), .int p1] : List Value).toArray wsX4_goodsOn RX4 := ⟨hx, hb, hml, hown, hts⟩
  have ht : ∀ w ∈ T0, w.before ([.ref (ad 0), .int p1] : List Value).toArray s = true := fun w h => hts w (List.mem_cons_of_mem _ h)
  generalize hT : M_goodsOn σ p1 = T
  refine namedQ (fun Q eQ => ?_)
  have L_4 : ∀ (n i104 : Nat) (x4_2 : Int32) (H : Heap) (locs : List Loc) (ls : Array Slot), i104 ≤ 12 → 13 ≤ i104 + n → va_P D vwCl (wB ad kk σ) H → va_D (aL 96 ad s.heap.size) (wB ad kk σ) → va_S (aL 96 ad s.heap.size) s.heap H locs → lv_has ls 4 [(0, .ref (ad 0)), (1, .int p1), (2, .int x4_2), (3, .int (nI i104))] → M_goodsOn_h4 n i104 x4_2 σ p1 = T → W p l e (headSpec wsX4_goodsOn { frames := 1, cells := 0, slots := 0, locals := 22 }).room s m ([.ref (ad 0), .int p1] : List Value).toArray below meth c H locs 0 0 Q (F0 m 4 ls []) := by
    intro n
    induction n with
    | zero =>
      intro i104 x4_2 H locs ls h_le h_fu hP hD hS hl hT
      exact absurd h_fu (by omega)
    | succ n ih =>
      intro i104 x4_2 H locs ls h_le h_fu hP hD hS hl hT
      rw [M_goodsOn_h4] at hT
      refine lv_iload_n hx hb dX4_goodsOn_4 rfl (lv_at hl 3 rfl) ?_
      refine lv_bipush (v := 12) hx hb dX4_goodsOn_5 (by decide) ?_
      refine lv_icmp_ge (tgt := 40) hx hb dX4_goodsOn_7 (by decide) (fun c1 => ?_) (fun c1 => ?_)
      · rw [if_pos c1] at hT
        refine lv_iload_n hx hb dX4_goodsOn_40 rfl (lv_at hl 2 rfl) ?_
        rw [eQ]
        exact W.iret (v := x4_2) hx hb hr (fun t ht hW => ⟨⟨x4_2, σ, rfl, ⟨hT, rfl⟩, by rw [ht]; exact hP, va_K.moved hW.alike hK, hD⟩, hS.F ht⟩) hS.2.2 dX4_goodsOn_41
      · rw [if_neg c1] at hT
        have h_lt := lp_lt (N := 12) (by decide) (by decide) h_le c1
        refine lv_iload_n hx hb dX4_goodsOn_10 rfl (lv_at hl 2 rfl) ?_
        refine lv_iload_n hx hb dX4_goodsOn_11 rfl (lv_at hl 3 rfl) ?_
        refine lv_aload_n hx hb dX4_goodsOn_12 rfl (lv_at hl 0 rfl) ?_
        refine va_get (D := D) (ci := 4) (v := .ref (ad 81)) (C := RX4) (T := TX4) (N := 9) hx hb ht inX4 hown hK hP 0 g_MB rfl 3 (by decide) (ht _ mw_162) (fun _ h9 => h9) rfl dX4_goodsOn_13 ?_
        refine lv_iload_n hx hb dX4_goodsOn_16 rfl (lv_at hl 3 rfl) ?_
        refine va_aldq (i := nI i104) hx hb hK hP 81 3 g_goods rfl (vp_in_nI h_lt (by decide)) dX4_goodsOn_17 ?_
        rw [nI_clamp (n := i104) (by omega)]
        refine W.eq (g2 := F0 m 18 ls (.ref (ad (pGo i104)) :: .int (nI i104) :: .int x4_2 :: [])) rfl ?_
        refine va_get (D := D) (ci := 0) (v := .int (gF σ (pGo i104) 3)) (C := RX0) (T := TX0) (N := 5) hx hb ht inX0 hown hK hP (pGo i104) (g_Go h_lt) rfl 3 (by decide) (ht _ mw_146) (fun _ h9 => h9) rfl dX4_goodsOn_18 ?_
        refine lv_iload_n hx hb dX4_goodsOn_21 rfl (lv_at hl 1 rfl) ?_
        refine lv_icmp_ne (tgt := 29) hx hb dX4_goodsOn_22 (by decide) (fun c2 => ?_) (fun c2 => ?_)
        · rw [if_neg c2] at hT
          refine lv_iconst (v := 0) hx hb dX4_goodsOn_29 (by decide) ?_
          refine vp_callSi (W.runS (As := [.int x4_2, .int (nI i104), .int 0]) (rest := []) CF (k_with l x4_2 (nI i104) 0) ⟨callB_of 3 hts (gT mw_325) rfl rfl rfl (ht _ mw_1) (ht _ mw_403) (by decide +kernel) ⟨Nat.le_of_ble_eq_true rfl, Nat.le_of_ble_eq_true rfl⟩, (ht _ mw_324)⟩ preEq rfl rfl hl.1 rfl (lv_room (Nat.le_of_ble_eq_true rfl)) dX4_goodsOn_30 ⟨Nat.le_of_ble_eq_true rfl, Nat.le_of_ble_eq_true rfl⟩) (fun r3 h_r3 => ?_)
          obtain rfl := h_r3
          refine lv_istore_n (lv' := [(2, .int (M_with x4_2 (nI i104) 0)), (0, .ref (ad 0)), (1, .int p1), (3, .int (nI i104))]) hx hb dX4_goodsOn_33 rfl hl (by decide) rfl (fun ls hl => ?_)
          refine lv_iinc (v := nI (i104 + 1)) (lv' := [(3, .int (nI (i104 + 1))), (2, .int (M_with x4_2 (nI i104) 0)), (0, .ref (ad 0)), (1, .int p1)]) hx hb dX4_goodsOn_34 hl (k := 3) rfl (nI_1 i104) (by decide) rfl (fun ls hl => ?_)
          refine lv_goto (tgt := 4) hx hb dX4_goodsOn_37 (by decide) ?_
          exact ih  (i104 + 1) (M_with x4_2 (nI i104) 0) _ _ ls h_lt (by omega) hP hD hS (lv_sub hl [2, 3, 1, 0] rfl) hT
        · rw [if_pos c2] at hT
          refine lv_iconst (v := 1) hx hb dX4_goodsOn_25 (by decide) ?_
          refine lv_goto (tgt := 30) hx hb dX4_goodsOn_26 (by decide) ?_
          refine vp_callSi (W.runS (As := [.int x4_2, .int (nI i104), .int 1]) (rest := []) CF (k_with l x4_2 (nI i104) 1) ⟨callB_of 3 hts (gT mw_325) rfl rfl rfl (ht _ mw_1) (ht _ mw_403) (by decide +kernel) ⟨Nat.le_of_ble_eq_true rfl, Nat.le_of_ble_eq_true rfl⟩, (ht _ mw_324)⟩ preEq rfl rfl hl.1 rfl (lv_room (Nat.le_of_ble_eq_true rfl)) dX4_goodsOn_30 ⟨Nat.le_of_ble_eq_true rfl, Nat.le_of_ble_eq_true rfl⟩) (fun r4 h_r4 => ?_)
          obtain rfl := h_r4
          refine lv_istore_n (lv' := [(2, .int (M_with x4_2 (nI i104) 1)), (0, .ref (ad 0)), (1, .int p1), (3, .int (nI i104))]) hx hb dX4_goodsOn_33 rfl hl (by decide) rfl (fun ls hl => ?_)
          refine lv_iinc (v := nI (i104 + 1)) (lv' := [(3, .int (nI (i104 + 1))), (2, .int (M_with x4_2 (nI i104) 1)), (0, .ref (ad 0)), (1, .int p1)]) hx hb dX4_goodsOn_34 hl (k := 3) rfl (nI_1 i104) (by decide) rfl (fun ls hl => ?_)
          refine lv_goto (tgt := 4) hx hb dX4_goodsOn_37 (by decide) ?_
          exact ih  (i104 + 1) (M_with x4_2 (nI i104) 1) _ _ ls h_lt (by omega) hP hD hS (lv_sub hl [2, 3, 1, 0] rfl) hT
  rw [M_goodsOn] at hT
  refine lv_iconst (v := 0) hx hb dX4_goodsOn_0 (by decide) ?_
  refine lv_istore_n (lv' := [(2, .int 0), (0, .ref (ad 0)), (1, .int p1)]) hx hb dX4_goodsOn_1 rfl hl (by decide) rfl (fun ls hl => ?_)
  refine lv_iconst (v := 0) hx hb dX4_goodsOn_2 (by decide) ?_
  refine lv_istore_n (lv' := [(3, .int 0), (2, .int 0), (0, .ref (ad 0)), (1, .int p1)]) hx hb dX4_goodsOn_3 rfl hl (by decide) rfl (fun ls hl => ?_)
  exact L_4 13 0 0 _ _ ls (Nat.zero_le _) (by decide) hP hD hS (lv_sub hl [2, 3, 1, 0] rfl) hT
set_option maxHeartbeats 4000000 in
set_option maxRecDepth 100000 in
theorem k_rowsOfAll (l : Launch) (D : va_G) (ad : Nat → Nat) (kk : Nat → ClassId) (sz : Nat) (σ : St) (hI : IB σ) : Met l yX4_rowsOfAll wsX4_rowsOfAll { frames := 0, cells := 0, slots := 0, locals := 0 } (va_Pc [.ref (ad 0)] (PB D ad kk sz σ)) (va_Qi (fun r u => r = M_rowsOfAll σ ∧ u = σ) (QB D ad kk sz) (aL 96 ad sz)) 0 0 (aL 96 ad sz) := by
  refine Met.ofW (cc := cX4_rowsOfAll) (maxL := 3) (ret := (some .int)) (by decide) rfl ?_
  intro p e s m args below meth c s₁ B hml hv
  obtain ⟨rfl, hsz, hP, hK, hD0, hE⟩ := hv
  have hx := B.exec
  have hb := B.bytes
  have hr := B.returns
  have hts := atoms_spec (ws := wsX4_rowsOfAll) B.pre
  have hown : s.vm.findClass RX4 = some m.cls := findClass_of_methodNamed B.named
  have hlocks := B.notSynchronized
  subst hsz
  have hD : va_D (aL 96 ad s.heap.size) (wB ad kk σ) := aL_D hD0
  have hS : va_S (aL 96 ad s.heap.size) s.heap s.heap [] := va_S.rf
  have hl := lv_entry ([.ref (ad 0)]) (n := 3) (Nat.le_of_ble_eq_true rfl)
  rw [lg_entry_eq]
  generalize (lg_sl ([.ref (ad 0)]) ++ List.replicate (3 - (lg_sl ([.ref (ad 0)])).length) Slot.unset).toArray = ls at hl ⊢
  have hl : lv_has ls 3 [(0, .ref (ad 0))] := hl
  have CF : CallFix p m c cX4_rowsOfAll 3 s ([.ref (ad 0)] : List Value).toArray wsX4_rowsOfAll RX4 := ⟨hx, hb, hml, hown, hts⟩
  have ht : ∀ w ∈ T0, w.before ([.ref (ad 0)] : List Value).toArray s = true := fun w h => hts w (List.mem_cons_of_mem _ h)
  generalize hT : M_rowsOfAll σ = T
  refine namedQ (fun Q eQ => ?_)
  have L_4 : ∀ (n i104 : Nat) (x4_1 : Int32) (H : Heap) (locs : List Loc) (ls : Array Slot), i104 ≤ 10 → 11 ≤ i104 + n → va_P D vwCl (wB ad kk σ) H → va_D (aL 96 ad s.heap.size) (wB ad kk σ) → va_S (aL 96 ad s.heap.size) s.heap H locs → lv_has ls 3 [(0, .ref (ad 0)), (1, .int x4_1), (2, .int (nI i104))] → M_rowsOfAll_h4 n i104 x4_1 σ = T → W p l e (headSpec wsX4_rowsOfAll { frames := 0, cells := 0, slots := 0, locals := 0 }).room s m ([.ref (ad 0)] : List Value).toArray below meth c H locs 0 0 Q (F0 m 4 ls []) := by
    intro n
    induction n with
    | zero =>
      intro i104 x4_1 H locs ls h_le h_fu hP hD hS hl hT
      exact absurd h_fu (by omega)
    | succ n ih =>
      intro i104 x4_1 H locs ls h_le h_fu hP hD hS hl hT
      rw [M_rowsOfAll_h4] at hT
      refine lv_iload_n hx hb dX4_rowsOfAll_4 rfl (lv_at hl 2 rfl) ?_
      refine lv_aload_n hx hb dX4_rowsOfAll_5 rfl (lv_at hl 0 rfl) ?_
      refine va_get (D := D) (ci := 4) (v := .int (gF σ 0 7)) (C := RX4) (T := TX4) (N := 9) hx hb ht inX4 hown hK hP 0 g_MB rfl 7 (by decide) (ht _ mw_166) (fun _ h9 => h9) rfl dX4_rowsOfAll_6 ?_
      refine lv_icmp_ge (tgt := 30) hx hb dX4_rowsOfAll_9 (by decide) (fun c1 => ?_) (fun c1 => ?_)
      · rw [if_pos c1] at hT
        refine lv_iload_n hx hb dX4_rowsOfAll_30 rfl (lv_at hl 1 rfl) ?_
        rw [eQ]
        exact W.iret (v := x4_1) hx hb hr (fun t ht hW => ⟨⟨x4_1, σ, rfl, ⟨hT, rfl⟩, by rw [ht]; exact hP, va_K.moved hW.alike hK, hD⟩, hS.F ht⟩) hS.2.2 dX4_rowsOfAll_31
      · rw [if_neg c1] at hT
        have h_lt := lp_lt (N := 10) (by decide) hI.pc h_le c1
        refine lv_iload_n hx hb dX4_rowsOfAll_12 rfl (lv_at hl 1 rfl) ?_
        refine lv_aload_n hx hb dX4_rowsOfAll_13 rfl (lv_at hl 0 rfl) ?_
        refine va_get (D := D) (ci := 4) (v := .ref (ad 40)) (C := RX4) (T := TX4) (N := 9) hx hb ht inX4 hown hK hP 0 g_MB rfl 2 (by decide) (ht _ mw_161) (fun _ h9 => h9) rfl dX4_rowsOfAll_14 ?_
        refine lv_iload_n hx hb dX4_rowsOfAll_17 rfl (lv_at hl 2 rfl) ?_
        refine va_aldq (i := nI i104) hx hb hK hP 40 2 g_pieces rfl (vp_in_nI h_lt (by decide)) dX4_rowsOfAll_18 ?_
        rw [nI_clamp (n := i104) (by omega)]
        refine W.eq (g2 := F0 m 19 ls (.ref (ad (pPi i104)) :: .int x4_1 :: [])) rfl ?_
        refine va_get (D := D) (ci := 3) (v := .int (gF σ (pPi i104) 4)) (C := RX3) (T := TX3) (N := 8) hx hb ht inX3 hown hK hP (pPi i104) (g_Pi h_lt) rfl 4 (by decide) (ht _ mw_108) (fun _ h9 => h9) rfl dX4_rowsOfAll_19 ?_
        refine lv_iadd hx hb dX4_rowsOfAll_22 ?_
        refine lv_istore_n (lv' := [(1, .int (x4_1 + (gF σ (pPi i104) 4))), (0, .ref (ad 0)), (2, .int (nI i104))]) hx hb dX4_rowsOfAll_23 rfl hl (by decide) rfl (fun ls hl => ?_)
        refine lv_iinc (v := nI (i104 + 1)) (lv' := [(2, .int (nI (i104 + 1))), (1, .int (x4_1 + (gF σ (pPi i104) 4))), (0, .ref (ad 0))]) hx hb dX4_rowsOfAll_24 hl (k := 2) rfl (nI_1 i104) (by decide) rfl (fun ls hl => ?_)
        refine lv_goto (tgt := 4) hx hb dX4_rowsOfAll_27 (by decide) ?_
        exact ih  (i104 + 1) (x4_1 + (gF σ (pPi i104) 4)) _ _ ls h_lt (by omega) hP hD hS (lv_sub hl [2, 1, 0] rfl) hT
  rw [M_rowsOfAll] at hT
  refine lv_iconst (v := 0) hx hb dX4_rowsOfAll_0 (by decide) ?_
  refine lv_istore_n (lv' := [(1, .int 0), (0, .ref (ad 0))]) hx hb dX4_rowsOfAll_1 rfl hl (by decide) rfl (fun ls hl => ?_)
  refine lv_iconst (v := 0) hx hb dX4_rowsOfAll_2 (by decide) ?_
  refine lv_istore_n (lv' := [(2, .int 0), (1, .int 0), (0, .ref (ad 0))]) hx hb dX4_rowsOfAll_3 rfl hl (by decide) rfl (fun ls hl => ?_)
  exact L_4 11 0 0 _ _ ls (Nat.zero_le _) (by decide) hP hD hS (lv_sub hl [2, 1, 0] rfl) hT
set_option maxHeartbeats 4000000 in
set_option maxRecDepth 100000 in
theorem k_withAllAhead (l : Launch) (D : va_G) (ad : Nat → Nat) (kk : Nat → ClassId) (sz : Nat) (σ : St) (p1 : Int32) (hI : IB σ) : Met l yX4_withAllAhead wsX4_withAllAhead { frames := 1, cells := 0, slots := 0, locals := 21 } (va_Pc [.ref (ad 0), .int p1] (PB D ad kk sz σ)) (va_Qi (fun r u => r = M_withAllAhead σ p1 ∧ u = σ) (QB D ad kk sz) (aL 96 ad sz)) 0 0 (aL 96 ad sz) := by
  refine Met.ofW (cc := cX4_withAllAhead) (maxL := 5) (ret := (some .int)) (by decide) rfl ?_
  intro p e s m args below meth c s₁ B hml hv
  obtain ⟨rfl, hsz, hP, hK, hD0, hE⟩ := hv
  have hx := B.exec
  have hb := B.bytes
  have hr := B.returns
  have hts := atoms_spec (ws := wsX4_withAllAhead) B.pre
  have hown : s.vm.findClass RX4 = some m.cls := findClass_of_methodNamed B.named
  have hlocks := B.notSynchronized
  subst hsz
  have hD : va_D (aL 96 ad s.heap.size) (wB ad kk σ) := aL_D hD0
  have hS : va_S (aL 96 ad s.heap.size) s.heap s.heap [] := va_S.rf
  have hl := lv_entry ([.ref (ad 0), .int p1]) (n := 5) (Nat.le_of_ble_eq_true rfl)
  rw [lg_entry_eq]
  generalize (lg_sl ([.ref (ad 0), .int p1]) ++ List.replicate (5 - (lg_sl ([.ref (ad 0), .int p1])).length) Slot.unset).toArray = ls at hl ⊢
  have hl : lv_has ls 5 [(0, .ref (ad 0)), (1, .int p1)] := hl
  have CF : CallFix p m c cX4_withAllAhead 5 s ([.ref (ad 0), .int p1] : List Value).toArray wsX4_withAllAhead RX4 := ⟨hx, hb, hml, hown, hts⟩
  have ht : ∀ w ∈ T0, w.before ([.ref (ad 0), .int p1] : List Value).toArray s = true := fun w h => hts w (List.mem_cons_of_mem _ h)
  generalize hT : M_withAllAhead σ p1 = T
  refine namedQ (fun Q eQ => ?_)
  have I_13 : ∀ (n i113 : Nat) (z13_3 : Int32) (x13_2 : Int32) (H : Heap) (locs : List Loc) (ls : Array Slot) (V : Int32), i113 ≤ 12 → 13 ≤ i113 + n → va_P D vwCl (wB ad kk σ) H → va_D (aL 96 ad s.heap.size) (wB ad kk σ) → va_S (aL 96 ad s.heap.size) s.heap H locs → lv_has ls 5 [(0, .ref (ad 0)), (1, .int p1), (2, .int x13_2), (3, .int z13_3), (4, .int (nI i113))] → M_withAllAhead_h13 n i113 x13_2 σ = V → (∀ (x13_2 : Int32) (H : Heap) (locs : List Loc) (ls : Array Slot), x13_2 = V → va_P D vwCl (wB ad kk σ) H → va_D (aL 96 ad s.heap.size) (wB ad kk σ) → va_S (aL 96 ad s.heap.size) s.heap H locs → lv_has ls 5 [(0, .ref (ad 0)), (1, .int p1), (2, .int x13_2), (3, .int z13_3)] → W p l e (headSpec wsX4_withAllAhead { frames := 1, cells := 0, slots := 0, locals := 21 }).room s m ([.ref (ad 0), .int p1] : List Value).toArray below meth c H locs 0 0 Q (F0 m 50 ls [])) → W p l e (headSpec wsX4_withAllAhead { frames := 1, cells := 0, slots := 0, locals := 21 }).room s m ([.ref (ad 0), .int p1] : List Value).toArray below meth c H locs 0 0 Q (F0 m 13 ls []) := by
    intro n
    induction n with
    | zero =>
      intro i113 z13_3 x13_2 H locs ls V h_le h_fu hP hD hS hl hT K
      exact absurd h_fu (by omega)
    | succ n ih =>
      intro i113 z13_3 x13_2 H locs ls V h_le h_fu hP hD hS hl hT K
      rw [M_withAllAhead_h13] at hT
      refine lv_iload hx hb dX4_withAllAhead_13 (lv_at hl 4 rfl) ?_
      refine lv_aload_n hx hb dX4_withAllAhead_15 rfl (lv_at hl 0 rfl) ?_
      refine va_get (D := D) (ci := 4) (v := .int (gF σ 0 6)) (C := RX4) (T := TX4) (N := 9) hx hb ht inX4 hown hK hP 0 g_MB rfl 6 (by decide) (ht _ mw_165) (fun _ h9 => h9) rfl dX4_withAllAhead_16 ?_
      refine lv_icmp_ge (tgt := 50) hx hb dX4_withAllAhead_19 (by decide) (fun c2 => ?_) (fun c2 => ?_)
      · rw [if_pos c2] at hT
        exact K x13_2 H locs ls hT hP hD hS (lv_sub hl [0, 1, 2, 3] rfl)
      · rw [if_neg c2] at hT
        have h_lt := lp_lt (N := 12) (by decide) hI.mc h_le c2
        refine lv_iload_n hx hb dX4_withAllAhead_22 rfl (lv_at hl 2 rfl) ?_
        refine lv_iload hx hb dX4_withAllAhead_23 (lv_at hl 4 rfl) ?_
        refine vp_callSi (W.runS (As := [.int x13_2, .int (nI i113)]) (rest := []) CF (k_has l x13_2 (nI i113)) ⟨callB_of 2 hts (gT mw_402) rfl rfl rfl (ht _ mw_1) (ht _ mw_400) (by decide +kernel) ⟨Nat.le_of_ble_eq_true rfl, Nat.le_of_ble_eq_true rfl⟩, (ht _ mw_401)⟩ preEq rfl rfl hl.1 rfl (lv_room (Nat.le_of_ble_eq_true rfl)) dX4_withAllAhead_25 ⟨Nat.le_of_ble_eq_true rfl, Nat.le_of_ble_eq_true rfl⟩) (fun r3 h_r3 => ?_)
        obtain rfl := h_r3
        refine lv_if_eq (tgt := 44) hx hb dX4_withAllAhead_28 (by decide) (fun c4 => ?_) (fun c4 => ?_)
        · rw [if_pos c4] at hT
          refine lv_iinc (v := nI (i113 + 1)) (lv' := [(4, .int (nI (i113 + 1))), (0, .ref (ad 0)), (1, .int p1), (2, .int x13_2), (3, .int z13_3)]) hx hb dX4_withAllAhead_44 hl (k := 4) rfl (nI_1 i113) (by decide) rfl (fun ls hl => ?_)
          refine lv_goto (tgt := 13) hx hb dX4_withAllAhead_47 (by decide) ?_
          exact ih  (i113 + 1) z13_3 x13_2 _ _ ls V h_lt (by omega) hP hD hS (lv_sub hl [1, 2, 3, 4, 0] rfl) hT K
        · rw [if_neg c4] at hT
          refine lv_iload_n hx hb dX4_withAllAhead_31 rfl (lv_at hl 2 rfl) ?_
          refine lv_aload_n hx hb dX4_withAllAhead_32 rfl (lv_at hl 0 rfl) ?_
          refine va_get (D := D) (ci := 4) (v := .ref (ad 3)) (C := RX4) (T := TX4) (N := 9) hx hb ht inX4 hown hK hP 0 g_MB rfl 1 (by decide) (ht _ mw_160) (fun _ h9 => h9) rfl dX4_withAllAhead_33 ?_
          refine lv_iload hx hb dX4_withAllAhead_36 (lv_at hl 4 rfl) ?_
          refine va_aldq (i := nI i113) hx hb hK hP 3 1 g_methods rfl (vp_in_nI h_lt (by decide)) dX4_withAllAhead_38 ?_
          rw [nI_clamp (n := i113) (by omega)]
          refine W.eq (g2 := F0 m 39 ls (.ref (ad (pMe i113)) :: .int x13_2 :: [])) rfl ?_
          refine va_get (D := D) (ci := 1) (v := .int (gF σ (pMe i113) 4)) (C := RX1) (T := TX1) (N := 9) hx hb ht inX1 hown hK hP (pMe i113) (g_Me h_lt) rfl 4 (by decide) (ht _ mw_65) (fun _ h9 => h9) rfl dX4_withAllAhead_39 ?_
          refine lv_ior hx hb dX4_withAllAhead_42 ?_
          refine lv_istore_n (lv' := [(2, .int (x13_2 ||| (gF σ (pMe i113) 4))), (0, .ref (ad 0)), (1, .int p1), (3, .int z13_3), (4, .int (nI i113))]) hx hb dX4_withAllAhead_43 rfl hl (by decide) rfl (fun ls hl => ?_)
          refine lv_iinc (v := nI (i113 + 1)) (lv' := [(4, .int (nI (i113 + 1))), (2, .int (x13_2 ||| (gF σ (pMe i113) 4))), (0, .ref (ad 0)), (1, .int p1), (3, .int z13_3)]) hx hb dX4_withAllAhead_44 hl (k := 4) rfl (nI_1 i113) (by decide) rfl (fun ls hl => ?_)
          refine lv_goto (tgt := 13) hx hb dX4_withAllAhead_47 (by decide) ?_
          exact ih  (i113 + 1) z13_3 (x13_2 ||| (gF σ (pMe i113) 4)) _ _ ls V h_lt (by omega) hP hD hS (lv_sub hl [2, 3, 1, 4, 0] rfl) hT K
  have L_4 : ∀ (n i104 : Nat) (x4_2 : Int32) (H : Heap) (locs : List Loc) (ls : Array Slot), i104 ≤ 12 → 13 ≤ i104 + n → va_P D vwCl (wB ad kk σ) H → va_D (aL 96 ad s.heap.size) (wB ad kk σ) → va_S (aL 96 ad s.heap.size) s.heap H locs → lv_has ls 5 [(0, .ref (ad 0)), (1, .int p1), (2, .int x4_2), (3, .int (nI i104))] → M_withAllAhead_h4 n i104 x4_2 σ = T → W p l e (headSpec wsX4_withAllAhead { frames := 1, cells := 0, slots := 0, locals := 21 }).room s m ([.ref (ad 0), .int p1] : List Value).toArray below meth c H locs 0 0 Q (F0 m 4 ls []) := by
    intro n
    induction n with
    | zero =>
      intro i104 x4_2 H locs ls h_le h_fu hP hD hS hl hT
      exact absurd h_fu (by omega)
    | succ n ih =>
      intro i104 x4_2 H locs ls h_le h_fu hP hD hS hl hT
      rw [M_withAllAhead_h4] at hT
      refine lv_iload_n hx hb dX4_withAllAhead_4 rfl (lv_at hl 3 rfl) ?_
      refine lv_bipush (v := 12) hx hb dX4_withAllAhead_5 (by decide) ?_
      refine lv_icmp_ge (tgt := 56) hx hb dX4_withAllAhead_7 (by decide) (fun c1 => ?_) (fun c1 => ?_)
      · rw [if_pos c1] at hT
        refine lv_iload_n hx hb dX4_withAllAhead_56 rfl (lv_at hl 2 rfl) ?_
        rw [eQ]
        exact W.iret (v := x4_2) hx hb hr (fun t ht hW => ⟨⟨x4_2, σ, rfl, ⟨hT, rfl⟩, by rw [ht]; exact hP, va_K.moved hW.alike hK, hD⟩, hS.F ht⟩) hS.2.2 dX4_withAllAhead_57
      · rw [if_neg c1] at hT
        have h_lt := lp_lt (N := 12) (by decide) (by decide) h_le c1
        refine lv_iconst (v := 0) hx hb dX4_withAllAhead_10 (by decide) ?_
        refine lv_istore (lv' := [(4, .int 0), (0, .ref (ad 0)), (1, .int p1), (2, .int x4_2), (3, .int (nI i104))]) hx hb dX4_withAllAhead_11 hl (by decide) rfl (fun ls hl => ?_)
        refine I_13 13 0 (nI i104) x4_2 _ _ ls _ (Nat.zero_le _) (by decide) hP hD hS (lv_sub hl [1, 2, 3, 4, 0] rfl) rfl (fun y2 H locs ls hTi hP hD hS hl => ?_)
        rw [← hTi, vb_eq] at hT
        refine lv_iinc (v := nI (i104 + 1)) (lv' := [(3, .int (nI (i104 + 1))), (0, .ref (ad 0)), (1, .int p1), (2, .int y2)]) hx hb dX4_withAllAhead_50 hl (k := 3) rfl (nI_1 i104) (by decide) rfl (fun ls hl => ?_)
        refine lv_goto (tgt := 4) hx hb dX4_withAllAhead_53 (by decide) ?_
        exact ih  (i104 + 1) y2 _ _ ls h_lt (by omega) hP hD hS (lv_sub hl [1, 2, 3, 0] rfl) hT
  rw [M_withAllAhead] at hT
  refine lv_iload_n hx hb dX4_withAllAhead_0 rfl (lv_at hl 1 rfl) ?_
  refine lv_istore_n (lv' := [(2, .int p1), (0, .ref (ad 0)), (1, .int p1)]) hx hb dX4_withAllAhead_1 rfl hl (by decide) rfl (fun ls hl => ?_)
  refine lv_iconst (v := 0) hx hb dX4_withAllAhead_2 (by decide) ?_
  refine lv_istore_n (lv' := [(3, .int 0), (2, .int p1), (0, .ref (ad 0)), (1, .int p1)]) hx hb dX4_withAllAhead_3 rfl hl (by decide) rfl (fun ls hl => ?_)
  exact L_4 13 0 p1 _ _ ls (Nat.zero_le _) (by decide) hP hD hS (lv_sub hl [2, 3, 1, 0] rfl) hT
set_option maxHeartbeats 4000000 in
set_option maxRecDepth 100000 in
theorem k_mayBeDone (l : Launch) (D : va_G) (ad : Nat → Nat) (kk : Nat → ClassId) (sz : Nat) (σ : St) (i1 : Nat) (p2 : Int32) (h1 : i1 < 10) (hI : IB σ) (hm : 0 ≤ p2.toInt) : Met l yX4_mayBeDone wsX4_mayBeDone { frames := 0, cells := 0, slots := 0, locals := 0 } (va_Pc [.ref (ad 0), .ref (ad (pPi i1)), .int p2] (PB D ad kk sz σ)) (va_Qi (fun r u => r = M_mayBeDone σ i1 p2 ∧ u = σ) (QB D ad kk sz) (aL 96 ad sz)) 0 0 (aL 96 ad sz) := by
  refine Met.ofW (cc := cX4_mayBeDone) (maxL := 3) (ret := (some .boolean)) (by decide) rfl ?_
  intro p e s m args below meth c s₁ B hml hv
  obtain ⟨rfl, hsz, hP, hK, hD0, hE⟩ := hv
  have hx := B.exec
  have hb := B.bytes
  have hr := B.returns
  have hts := atoms_spec (ws := wsX4_mayBeDone) B.pre
  have hown : s.vm.findClass RX4 = some m.cls := findClass_of_methodNamed B.named
  have hlocks := B.notSynchronized
  subst hsz
  have hD : va_D (aL 96 ad s.heap.size) (wB ad kk σ) := aL_D hD0
  have hS : va_S (aL 96 ad s.heap.size) s.heap s.heap [] := va_S.rf
  have hl := lv_entry ([.ref (ad 0), .ref (ad (pPi i1)), .int p2]) (n := 3) (Nat.le_of_ble_eq_true rfl)
  rw [lg_entry_eq]
  generalize (lg_sl ([.ref (ad 0), .ref (ad (pPi i1)), .int p2]) ++ List.replicate (3 - (lg_sl ([.ref (ad 0), .ref (ad (pPi i1)), .int p2])).length) Slot.unset).toArray = ls at hl ⊢
  have hl : lv_has ls 3 [(0, .ref (ad 0)), (1, .ref (ad (pPi i1))), (2, .int p2)] := hl
  have CF : CallFix p m c cX4_mayBeDone 3 s ([.ref (ad 0), .ref (ad (pPi i1)), .int p2] : List Value).toArray wsX4_mayBeDone RX4 := ⟨hx, hb, hml, hown, hts⟩
  have ht : ∀ w ∈ T0, w.before ([.ref (ad 0), .ref (ad (pPi i1)), .int p2] : List Value).toArray s = true := fun w h => hts w (List.mem_cons_of_mem _ h)
  generalize hT : M_mayBeDone σ i1 p2 = T
  rw [M_mayBeDone] at hT
  refine lv_iload_n hx hb dX4_mayBeDone_0 rfl (lv_at hl 2 rfl) ?_
  refine lv_aload_n hx hb dX4_mayBeDone_1 rfl (lv_at hl 0 rfl) ?_
  refine va_get (D := D) (ci := 4) (v := .int (gF σ 0 6)) (C := RX4) (T := TX4) (N := 9) hx hb ht inX4 hown hK hP 0 g_MB rfl 6 (by decide) (ht _ mw_165) (fun _ h9 => h9) rfl dX4_mayBeDone_2 ?_
  refine lv_icmp_ge (tgt := 46) hx hb dX4_mayBeDone_5 (by decide) (fun c1 => ?_) (fun c1 => ?_)
  · rw [if_pos c1] at hT
    refine lv_iconst (v := 0) hx hb dX4_mayBeDone_46 (by decide) ?_
    exact W.zret (v := 0) hx hb hr rfl (fun t ht hW => ⟨⟨0, σ, rfl, ⟨hT, rfl⟩, by rw [ht]; exact hP, va_K.moved hW.alike hK, hD⟩, hS.F ht⟩) hS.2.2 dX4_mayBeDone_47
  · rw [if_neg c1] at hT
    have hlt := c1
    refine lv_aload_n hx hb dX4_mayBeDone_8 rfl (lv_at hl 0 rfl) ?_
    refine va_get (D := D) (ci := 4) (v := .ref (ad 3)) (C := RX4) (T := TX4) (N := 9) hx hb ht inX4 hown hK hP 0 g_MB rfl 1 (by decide) (ht _ mw_160) (fun _ h9 => h9) rfl dX4_mayBeDone_9 ?_
    refine lv_iload_n hx hb dX4_mayBeDone_12 rfl (lv_at hl 2 rfl) ?_
    refine va_aldq (i := p2) hx hb hK hP 3 1 g_methods rfl (mbd_in hI hm hlt) dX4_mayBeDone_13 ?_
    refine W.eq (g2 := F0 m 14 ls (.ref (ad (pMe p2.toNatClampNeg)) :: [])) rfl ?_
    refine va_get (D := D) (ci := 1) (v := .int (gF σ (pMe p2.toNatClampNeg) 2)) (C := RX1) (T := TX1) (N := 9) hx hb ht inX1 hown hK hP (pMe p2.toNatClampNeg) (g_Me (vin_lt (mbd_in hI hm hlt))) rfl 2 (by decide) (ht _ mw_59) (fun _ h9 => h9) rfl dX4_mayBeDone_14 ?_
    refine lv_aload_n hx hb dX4_mayBeDone_17 rfl (lv_at hl 1 rfl) ?_
    refine va_get (D := D) (ci := 3) (v := .int (gF σ (pPi i1) 5)) (C := RX3) (T := TX3) (N := 8) hx hb ht inX3 hown hK hP (pPi i1) (g_Pi h1) rfl 5 (by decide) (ht _ mw_110) (fun _ h9 => h9) rfl dX4_mayBeDone_18 ?_
    refine lv_iand hx hb dX4_mayBeDone_21 ?_
    refine lv_if_ne (tgt := 46) hx hb dX4_mayBeDone_22 (by decide) (fun c2 => ?_) (fun c2 => ?_)
    · rw [if_neg c2] at hT
      refine lv_iconst (v := 0) hx hb dX4_mayBeDone_46 (by decide) ?_
      exact W.zret (v := 0) hx hb hr rfl (fun t ht hW => ⟨⟨0, σ, rfl, ⟨hT, rfl⟩, by rw [ht]; exact hP, va_K.moved hW.alike hK, hD⟩, hS.F ht⟩) hS.2.2 dX4_mayBeDone_47
    · rw [if_pos c2] at hT
      refine lv_aload_n hx hb dX4_mayBeDone_25 rfl (lv_at hl 0 rfl) ?_
      refine va_get (D := D) (ci := 4) (v := .ref (ad 3)) (C := RX4) (T := TX4) (N := 9) hx hb ht inX4 hown hK hP 0 g_MB rfl 1 (by decide) (ht _ mw_160) (fun _ h9 => h9) rfl dX4_mayBeDone_26 ?_
      refine lv_iload_n hx hb dX4_mayBeDone_29 rfl (lv_at hl 2 rfl) ?_
      refine va_aldq (i := p2) hx hb hK hP 3 1 g_methods rfl (mbd_in hI hm hlt) dX4_mayBeDone_30 ?_
      refine W.eq (g2 := F0 m 31 ls (.ref (ad (pMe p2.toNatClampNeg)) :: [])) rfl ?_
      refine va_get (D := D) (ci := 1) (v := .int (gF σ (pMe p2.toNatClampNeg) 3)) (C := RX1) (T := TX1) (N := 9) hx hb ht inX1 hown hK hP (pMe p2.toNatClampNeg) (g_Me (vin_lt (mbd_in hI hm hlt))) rfl 3 (by decide) (ht _ mw_62) (fun _ h9 => h9) rfl dX4_mayBeDone_31 ?_
      refine lv_aload_n hx hb dX4_mayBeDone_34 rfl (lv_at hl 1 rfl) ?_
      refine va_get (D := D) (ci := 3) (v := .int (gF σ (pPi i1) 6)) (C := RX3) (T := TX3) (N := 8) hx hb ht inX3 hown hK hP (pPi i1) (g_Pi h1) rfl 6 (by decide) (ht _ mw_112) (fun _ h9 => h9) rfl dX4_mayBeDone_35 ?_
      refine lv_iand hx hb dX4_mayBeDone_38 ?_
      refine lv_if_ne (tgt := 46) hx hb dX4_mayBeDone_39 (by decide) (fun c3 => ?_) (fun c3 => ?_)
      · rw [if_neg c3] at hT
        refine lv_iconst (v := 0) hx hb dX4_mayBeDone_46 (by decide) ?_
        exact W.zret (v := 0) hx hb hr rfl (fun t ht hW => ⟨⟨0, σ, rfl, ⟨hT, rfl⟩, by rw [ht]; exact hP, va_K.moved hW.alike hK, hD⟩, hS.F ht⟩) hS.2.2 dX4_mayBeDone_47
      · rw [if_pos c3] at hT
        refine lv_iconst (v := 1) hx hb dX4_mayBeDone_42 (by decide) ?_
        refine lv_goto (tgt := 47) hx hb dX4_mayBeDone_43 (by decide) ?_
        exact W.zret (v := 1) hx hb hr rfl (fun t ht hW => ⟨⟨1, σ, rfl, ⟨hT, rfl⟩, by rw [ht]; exact hP, va_K.moved hW.alike hK, hD⟩, hS.F ht⟩) hS.2.2 dX4_mayBeDone_47
set_option maxHeartbeats 4000000 in
set_option maxRecDepth 100000 in
theorem k_eachMayBeDone (l : Launch) (D : va_G) (ad : Nat → Nat) (kk : Nat → ClassId) (sz : Nat) (σ : St) (i1 : Nat) (p2 : Int32) (h1 : i1 < 10) (hI : IB σ) : Met l yX4_eachMayBeDone wsX4_eachMayBeDone { frames := 1, cells := 0, slots := 0, locals := 22 } (va_Pc [.ref (ad 0), .ref (ad (pPi i1)), .int p2] (PB D ad kk sz σ)) (va_Qi (fun r u => r = M_eachMayBeDone σ i1 p2 ∧ u = σ) (QB D ad kk sz) (aL 96 ad sz)) 0 0 (aL 96 ad sz) := by
  refine Met.ofW (cc := cX4_eachMayBeDone) (maxL := 4) (ret := (some .boolean)) (by decide) rfl ?_
  intro p e s m args below meth c s₁ B hml hv
  obtain ⟨rfl, hsz, hP, hK, hD0, hE⟩ := hv
  have hx := B.exec
  have hb := B.bytes
  have hr := B.returns
  have hts := atoms_spec (ws := wsX4_eachMayBeDone) B.pre
  have hown : s.vm.findClass RX4 = some m.cls := findClass_of_methodNamed B.named
  have hlocks := B.notSynchronized
  subst hsz
  have hD : va_D (aL 96 ad s.heap.size) (wB ad kk σ) := aL_D hD0
  have hS : va_S (aL 96 ad s.heap.size) s.heap s.heap [] := va_S.rf
  have hl := lv_entry ([.ref (ad 0), .ref (ad (pPi i1)), .int p2]) (n := 4) (Nat.le_of_ble_eq_true rfl)
  rw [lg_entry_eq]
  generalize (lg_sl ([.ref (ad 0), .ref (ad (pPi i1)), .int p2]) ++ List.replicate (4 - (lg_sl ([.ref (ad 0), .ref (ad (pPi i1)), .int p2])).length) Slot.unset).toArray = ls at hl ⊢
  have hl : lv_has ls 4 [(0, .ref (ad 0)), (1, .ref (ad (pPi i1))), (2, .int p2)] := hl
  have CF : CallFix p m c cX4_eachMayBeDone 4 s ([.ref (ad 0), .ref (ad (pPi i1)), .int p2] : List Value).toArray wsX4_eachMayBeDone RX4 := ⟨hx, hb, hml, hown, hts⟩
  have ht : ∀ w ∈ T0, w.before ([.ref (ad 0), .ref (ad (pPi i1)), .int p2] : List Value).toArray s = true := fun w h => hts w (List.mem_cons_of_mem _ h)
  generalize hT : M_eachMayBeDone σ i1 p2 = T
  refine namedQ (fun Q eQ => ?_)
  have L_2 : ∀ (n i102 : Nat) (H : Heap) (locs : List Loc) (ls : Array Slot), i102 ≤ 12 → 13 ≤ i102 + n → va_P D vwCl (wB ad kk σ) H → va_D (aL 96 ad s.heap.size) (wB ad kk σ) → va_S (aL 96 ad s.heap.size) s.heap H locs → lv_has ls 4 [(0, .ref (ad 0)), (1, .ref (ad (pPi i1))), (2, .int p2), (3, .int (nI i102))] → M_eachMayBeDone_h2 n i102 p2 σ i1 = T → W p l e (headSpec wsX4_eachMayBeDone { frames := 1, cells := 0, slots := 0, locals := 22 }).room s m ([.ref (ad 0), .ref (ad (pPi i1)), .int p2] : List Value).toArray below meth c H locs 0 0 Q (F0 m 2 ls []) := by
    intro n
    induction n with
    | zero =>
      intro i102 H locs ls h_le h_fu hP hD hS hl hT
      exact absurd h_fu (by omega)
    | succ n ih =>
      intro i102 H locs ls h_le h_fu hP hD hS hl hT
      rw [M_eachMayBeDone_h2] at hT
      refine lv_iload_n hx hb dX4_eachMayBeDone_2 rfl (lv_at hl 3 rfl) ?_
      refine lv_bipush (v := 12) hx hb dX4_eachMayBeDone_3 (by decide) ?_
      refine lv_icmp_ge (tgt := 33) hx hb dX4_eachMayBeDone_5 (by decide) (fun c1 => ?_) (fun c1 => ?_)
      · rw [if_pos c1] at hT
        refine lv_iconst (v := 1) hx hb dX4_eachMayBeDone_33 (by decide) ?_
        rw [eQ]
        exact W.zret (v := 1) hx hb hr rfl (fun t ht hW => ⟨⟨1, σ, rfl, ⟨hT, rfl⟩, by rw [ht]; exact hP, va_K.moved hW.alike hK, hD⟩, hS.F ht⟩) hS.2.2 dX4_eachMayBeDone_34
      · rw [if_neg c1] at hT
        have h_lt := lp_lt (N := 12) (by decide) (by decide) h_le c1
        refine lv_iload_n hx hb dX4_eachMayBeDone_8 rfl (lv_at hl 2 rfl) ?_
        refine lv_iload_n hx hb dX4_eachMayBeDone_9 rfl (lv_at hl 3 rfl) ?_
        refine vp_callSi (W.runS (As := [.int p2, .int (nI i102)]) (rest := []) CF (k_has l p2 (nI i102)) ⟨callB_of 2 hts (gT mw_402) rfl rfl rfl (ht _ mw_1) (ht _ mw_400) (by decide +kernel) ⟨Nat.le_of_ble_eq_true rfl, Nat.le_of_ble_eq_true rfl⟩, (ht _ mw_401)⟩ preEq rfl rfl hl.1 rfl (lv_room (Nat.le_of_ble_eq_true rfl)) dX4_eachMayBeDone_10 ⟨Nat.le_of_ble_eq_true rfl, Nat.le_of_ble_eq_true rfl⟩) (fun r2 h_r2 => ?_)
        obtain rfl := h_r2
        refine lv_if_eq (tgt := 27) hx hb dX4_eachMayBeDone_13 (by decide) (fun c3 => ?_) (fun c3 => ?_)
        · rw [if_pos c3] at hT
          refine lv_iinc (v := nI (i102 + 1)) (lv' := [(3, .int (nI (i102 + 1))), (0, .ref (ad 0)), (1, .ref (ad (pPi i1))), (2, .int p2)]) hx hb dX4_eachMayBeDone_27 hl (k := 3) rfl (nI_1 i102) (by decide) rfl (fun ls hl => ?_)
          refine lv_goto (tgt := 2) hx hb dX4_eachMayBeDone_30 (by decide) ?_
          exact ih  (i102 + 1) _ _ ls h_lt (by omega) hP hD hS (lv_sub hl [1, 2, 3, 0] rfl) hT
        · rw [if_neg c3] at hT
          refine lv_aload_n hx hb dX4_eachMayBeDone_16 rfl (lv_at hl 0 rfl) ?_
          refine lv_aload_n hx hb dX4_eachMayBeDone_17 rfl (lv_at hl 1 rfl) ?_
          refine lv_iload_n hx hb dX4_eachMayBeDone_18 rfl (lv_at hl 3 rfl) ?_
          refine kB_i (va_runV (As := [.ref (ad (pPi i1)), .int (nI i102)]) (rest := []) CF (k_mayBeDone l D ad kk _ σ i1 (nI i102) h1 hI (nI_nn h_le (by decide))) ⟨callB_of 2 hts (gT mw_533) rfl rfl rfl (ht _ mw_1) (ht _ mw_530) (by decide +kernel) ⟨Nat.le_of_ble_eq_true rfl, Nat.le_of_ble_eq_true rfl⟩, (ht _ mw_532), (ht _ ms_18)⟩ (preV_B hK hP hD hE hS (ci := 4) rfl rfl g_MB) rfl rfl hl.1 rfl (lv_room (Nat.le_of_ble_eq_true rfl)) dX4_eachMayBeDone_19 ⟨Nat.le_of_ble_eq_true rfl, Nat.le_of_ble_eq_true rfl⟩) hS (fun r4 u9 H locs hw hP hD hS => ?_)
          obtain ⟨rfl, e9⟩ := hw
          rw [e9] at hP hD
          refine lv_if_ne (tgt := 27) hx hb dX4_eachMayBeDone_22 (by decide) (fun c5 => ?_) (fun c5 => ?_)
          · rw [if_neg c5] at hT
            refine lv_iinc (v := nI (i102 + 1)) (lv' := [(3, .int (nI (i102 + 1))), (0, .ref (ad 0)), (1, .ref (ad (pPi i1))), (2, .int p2)]) hx hb dX4_eachMayBeDone_27 hl (k := 3) rfl (nI_1 i102) (by decide) rfl (fun ls hl => ?_)
            refine lv_goto (tgt := 2) hx hb dX4_eachMayBeDone_30 (by decide) ?_
            exact ih  (i102 + 1) _ _ ls h_lt (by omega) hP hD hS (lv_sub hl [1, 2, 3, 0] rfl) hT
          · rw [if_pos c5] at hT
            refine lv_iconst (v := 0) hx hb dX4_eachMayBeDone_25 (by decide) ?_
            rw [eQ]
            exact W.zret (v := 0) hx hb hr rfl (fun t ht hW => ⟨⟨0, σ, rfl, ⟨hT, rfl⟩, by rw [ht]; exact hP, va_K.moved hW.alike hK, hD⟩, hS.F ht⟩) hS.2.2 dX4_eachMayBeDone_26
  rw [M_eachMayBeDone] at hT
  refine lv_iconst (v := 0) hx hb dX4_eachMayBeDone_0 (by decide) ?_
  refine lv_istore_n (lv' := [(3, .int 0), (0, .ref (ad 0)), (1, .ref (ad (pPi i1))), (2, .int p2)]) hx hb dX4_eachMayBeDone_1 rfl hl (by decide) rfl (fun ls hl => ?_)
  exact L_2 13 0 _ _ ls (Nat.zero_le _) (by decide) hP hD hS (lv_sub hl [1, 2, 3, 0] rfl) hT
set_option maxHeartbeats 4000000 in
set_option maxRecDepth 100000 in
theorem k_hasToWait (l : Launch) (D : va_G) (ad : Nat → Nat) (kk : Nat → ClassId) (sz : Nat) (σ : St) (p1 : Int32) (p2 : Int32) (hI : IB σ) : Met l yX4_hasToWait wsX4_hasToWait { frames := 1, cells := 0, slots := 0, locals := 21 } (va_Pc [.ref (ad 0), .int p1, .int p2] (PB D ad kk sz σ)) (va_Qi (fun r u => r = M_hasToWait σ p1 p2 ∧ u = σ) (QB D ad kk sz) (aL 96 ad sz)) 0 0 (aL 96 ad sz) := by
  refine Met.ofW (cc := cX4_hasToWait) (maxL := 4) (ret := (some .boolean)) (by decide) rfl ?_
  intro p e s m args below meth c s₁ B hml hv
  obtain ⟨rfl, hsz, hP, hK, hD0, hE⟩ := hv
  have hx := B.exec
  have hb := B.bytes
  have hr := B.returns
  have hts := atoms_spec (ws := wsX4_hasToWait) B.pre
  have hown : s.vm.findClass RX4 = some m.cls := findClass_of_methodNamed B.named
  have hlocks := B.notSynchronized
  subst hsz
  have hD : va_D (aL 96 ad s.heap.size) (wB ad kk σ) := aL_D hD0
  have hS : va_S (aL 96 ad s.heap.size) s.heap s.heap [] := va_S.rf
  have hl := lv_entry ([.ref (ad 0), .int p1, .int p2]) (n := 4) (Nat.le_of_ble_eq_true rfl)
  rw [lg_entry_eq]
  generalize (lg_sl ([.ref (ad 0), .int p1, .int p2]) ++ List.replicate (4 - (lg_sl ([.ref (ad 0), .int p1, .int p2])).length) Slot.unset).toArray = ls at hl ⊢
  have hl : lv_has ls 4 [(0, .ref (ad 0)), (1, .int p1), (2, .int p2)] := hl
  have CF : CallFix p m c cX4_hasToWait 4 s ([.ref (ad 0), .int p1, .int p2] : List Value).toArray wsX4_hasToWait RX4 := ⟨hx, hb, hml, hown, hts⟩
  have ht : ∀ w ∈ T0, w.before ([.ref (ad 0), .int p1, .int p2] : List Value).toArray s = true := fun w h => hts w (List.mem_cons_of_mem _ h)
  generalize hT : M_hasToWait σ p1 p2 = T
  refine namedQ (fun Q eQ => ?_)
  have L_2 : ∀ (n i102 : Nat) (H : Heap) (locs : List Loc) (ls : Array Slot), i102 ≤ 12 → 13 ≤ i102 + n → va_P D vwCl (wB ad kk σ) H → va_D (aL 96 ad s.heap.size) (wB ad kk σ) → va_S (aL 96 ad s.heap.size) s.heap H locs → lv_has ls 4 [(0, .ref (ad 0)), (1, .int p1), (2, .int p2), (3, .int (nI i102))] → M_hasToWait_h2 n i102 σ p1 p2 = T → W p l e (headSpec wsX4_hasToWait { frames := 1, cells := 0, slots := 0, locals := 21 }).room s m ([.ref (ad 0), .int p1, .int p2] : List Value).toArray below meth c H locs 0 0 Q (F0 m 2 ls []) := by
    intro n
    induction n with
    | zero =>
      intro i102 H locs ls h_le h_fu hP hD hS hl hT
      exact absurd h_fu (by omega)
    | succ n ih =>
      intro i102 H locs ls h_le h_fu hP hD hS hl hT
      rw [M_hasToWait_h2] at hT
      refine lv_iload_n hx hb dX4_hasToWait_2 rfl (lv_at hl 3 rfl) ?_
      refine lv_aload_n hx hb dX4_hasToWait_3 rfl (lv_at hl 0 rfl) ?_
      refine va_get (D := D) (ci := 4) (v := .int (gF σ 0 6)) (C := RX4) (T := TX4) (N := 9) hx hb ht inX4 hown hK hP 0 g_MB rfl 6 (by decide) (ht _ mw_165) (fun _ h9 => h9) rfl dX4_hasToWait_4 ?_
      refine lv_icmp_ge (tgt := 47) hx hb dX4_hasToWait_7 (by decide) (fun c1 => ?_) (fun c1 => ?_)
      · rw [if_pos c1] at hT
        refine lv_iconst (v := 0) hx hb dX4_hasToWait_47 (by decide) ?_
        rw [eQ]
        exact W.zret (v := 0) hx hb hr rfl (fun t ht hW => ⟨⟨0, σ, rfl, ⟨hT, rfl⟩, by rw [ht]; exact hP, va_K.moved hW.alike hK, hD⟩, hS.F ht⟩) hS.2.2 dX4_hasToWait_48
      · rw [if_neg c1] at hT
        have h_lt := lp_lt (N := 12) (by decide) hI.mc h_le c1
        refine lv_iload_n hx hb dX4_hasToWait_10 rfl (lv_at hl 3 rfl) ?_
        refine lv_iload_n hx hb dX4_hasToWait_11 rfl (lv_at hl 1 rfl) ?_
        refine lv_icmp_eq (tgt := 41) hx hb dX4_hasToWait_12 (by decide) (fun c2 => ?_) (fun c2 => ?_)
        · rw [if_pos c2] at hT
          refine lv_iinc (v := nI (i102 + 1)) (lv' := [(3, .int (nI (i102 + 1))), (0, .ref (ad 0)), (1, .int p1), (2, .int p2)]) hx hb dX4_hasToWait_41 hl (k := 3) rfl (nI_1 i102) (by decide) rfl (fun ls hl => ?_)
          refine lv_goto (tgt := 2) hx hb dX4_hasToWait_44 (by decide) ?_
          exact ih  (i102 + 1) _ _ ls h_lt (by omega) hP hD hS (lv_sub hl [1, 2, 3, 0] rfl) hT
        · rw [if_neg c2] at hT
          refine lv_iload_n hx hb dX4_hasToWait_15 rfl (lv_at hl 2 rfl) ?_
          refine lv_iload_n hx hb dX4_hasToWait_16 rfl (lv_at hl 3 rfl) ?_
          refine vp_callSi (W.runS (As := [.int p2, .int (nI i102)]) (rest := []) CF (k_has l p2 (nI i102)) ⟨callB_of 2 hts (gT mw_402) rfl rfl rfl (ht _ mw_1) (ht _ mw_400) (by decide +kernel) ⟨Nat.le_of_ble_eq_true rfl, Nat.le_of_ble_eq_true rfl⟩, (ht _ mw_401)⟩ preEq rfl rfl hl.1 rfl (lv_room (Nat.le_of_ble_eq_true rfl)) dX4_hasToWait_17 ⟨Nat.le_of_ble_eq_true rfl, Nat.le_of_ble_eq_true rfl⟩) (fun r3 h_r3 => ?_)
          obtain rfl := h_r3
          refine lv_if_eq (tgt := 41) hx hb dX4_hasToWait_20 (by decide) (fun c4 => ?_) (fun c4 => ?_)
          · rw [if_pos c4] at hT
            refine lv_iinc (v := nI (i102 + 1)) (lv' := [(3, .int (nI (i102 + 1))), (0, .ref (ad 0)), (1, .int p1), (2, .int p2)]) hx hb dX4_hasToWait_41 hl (k := 3) rfl (nI_1 i102) (by decide) rfl (fun ls hl => ?_)
            refine lv_goto (tgt := 2) hx hb dX4_hasToWait_44 (by decide) ?_
            exact ih  (i102 + 1) _ _ ls h_lt (by omega) hP hD hS (lv_sub hl [1, 2, 3, 0] rfl) hT
          · rw [if_neg c4] at hT
            refine lv_aload_n hx hb dX4_hasToWait_23 rfl (lv_at hl 0 rfl) ?_
            refine va_get (D := D) (ci := 4) (v := .ref (ad 3)) (C := RX4) (T := TX4) (N := 9) hx hb ht inX4 hown hK hP 0 g_MB rfl 1 (by decide) (ht _ mw_160) (fun _ h9 => h9) rfl dX4_hasToWait_24 ?_
            refine lv_iload_n hx hb dX4_hasToWait_27 rfl (lv_at hl 3 rfl) ?_
            refine va_aldq (i := nI i102) hx hb hK hP 3 1 g_methods rfl (vp_in_nI h_lt (by decide)) dX4_hasToWait_28 ?_
            rw [nI_clamp (n := i102) (by omega)]
            refine W.eq (g2 := F0 m 29 ls (.ref (ad (pMe i102)) :: [])) rfl ?_
            refine va_get (D := D) (ci := 1) (v := .int (gF σ (pMe i102) 3)) (C := RX1) (T := TX1) (N := 9) hx hb ht inX1 hown hK hP (pMe i102) (g_Me h_lt) rfl 3 (by decide) (ht _ mw_62) (fun _ h9 => h9) rfl dX4_hasToWait_29 ?_
            refine lv_iload_n hx hb dX4_hasToWait_32 rfl (lv_at hl 1 rfl) ?_
            refine vp_callSi (W.runS (As := [.int (gF σ (pMe i102) 3), .int p1]) (rest := []) CF (k_has l (gF σ (pMe i102) 3) p1) ⟨callB_of 2 hts (gT mw_402) rfl rfl rfl (ht _ mw_1) (ht _ mw_400) (by decide +kernel) ⟨Nat.le_of_ble_eq_true rfl, Nat.le_of_ble_eq_true rfl⟩, (ht _ mw_401)⟩ preEq rfl rfl hl.1 rfl (lv_room (Nat.le_of_ble_eq_true rfl)) dX4_hasToWait_33 ⟨Nat.le_of_ble_eq_true rfl, Nat.le_of_ble_eq_true rfl⟩) (fun r5 h_r5 => ?_)
            obtain rfl := h_r5
            refine lv_if_eq (tgt := 41) hx hb dX4_hasToWait_36 (by decide) (fun c6 => ?_) (fun c6 => ?_)
            · rw [if_pos c6] at hT
              refine lv_iinc (v := nI (i102 + 1)) (lv' := [(3, .int (nI (i102 + 1))), (0, .ref (ad 0)), (1, .int p1), (2, .int p2)]) hx hb dX4_hasToWait_41 hl (k := 3) rfl (nI_1 i102) (by decide) rfl (fun ls hl => ?_)
              refine lv_goto (tgt := 2) hx hb dX4_hasToWait_44 (by decide) ?_
              exact ih  (i102 + 1) _ _ ls h_lt (by omega) hP hD hS (lv_sub hl [1, 2, 3, 0] rfl) hT
            · rw [if_neg c6] at hT
              refine lv_iconst (v := 1) hx hb dX4_hasToWait_39 (by decide) ?_
              rw [eQ]
              exact W.zret (v := 1) hx hb hr rfl (fun t ht hW => ⟨⟨1, σ, rfl, ⟨hT, rfl⟩, by rw [ht]; exact hP, va_K.moved hW.alike hK, hD⟩, hS.F ht⟩) hS.2.2 dX4_hasToWait_40
  rw [M_hasToWait] at hT
  refine lv_iconst (v := 0) hx hb dX4_hasToWait_0 (by decide) ?_
  refine lv_istore_n (lv' := [(3, .int 0), (0, .ref (ad 0)), (1, .int p1), (2, .int p2)]) hx hb dX4_hasToWait_1 rfl hl (by decide) rfl (fun ls hl => ?_)
  exact L_2 13 0 _ _ ls (Nat.zero_le _) (by decide) hP hD hS (lv_sub hl [1, 2, 3, 0] rfl) hT
set_option maxHeartbeats 4000000 in
set_option maxRecDepth 100000 in
theorem k_lowestThatMayComeNext (l : Launch) (D : va_G) (ad : Nat → Nat) (kk : Nat → ClassId) (sz : Nat) (σ : St) (p1 : Int32) (hI : IB σ) : Met l yX4_lowestThatMayComeNext wsX4_lowestThatMayComeNext { frames := 2, cells := 0, slots := 0, locals := 44 } (va_Pc [.ref (ad 0), .int p1] (PB D ad kk sz σ)) (va_Qi (fun r u => r = M_lowestThatMayComeNext σ p1 ∧ u = σ) (QB D ad kk sz) (aL 96 ad sz)) 0 0 (aL 96 ad sz) := by
  refine Met.ofW (cc := cX4_lowestThatMayComeNext) (maxL := 3) (ret := (some .int)) (by decide) rfl ?_
  intro p e s m args below meth c s₁ B hml hv
  obtain ⟨rfl, hsz, hP, hK, hD0, hE⟩ := hv
  have hx := B.exec
  have hb := B.bytes
  have hr := B.returns
  have hts := atoms_spec (ws := wsX4_lowestThatMayComeNext) B.pre
  have hown : s.vm.findClass RX4 = some m.cls := findClass_of_methodNamed B.named
  have hlocks := B.notSynchronized
  subst hsz
  have hD : va_D (aL 96 ad s.heap.size) (wB ad kk σ) := aL_D hD0
  have hS : va_S (aL 96 ad s.heap.size) s.heap s.heap [] := va_S.rf
  have hl := lv_entry ([.ref (ad 0), .int p1]) (n := 3) (Nat.le_of_ble_eq_true rfl)
  rw [lg_entry_eq]
  generalize (lg_sl ([.ref (ad 0), .int p1]) ++ List.replicate (3 - (lg_sl ([.ref (ad 0), .int p1])).length) Slot.unset).toArray = ls at hl ⊢
  have hl : lv_has ls 3 [(0, .ref (ad 0)), (1, .int p1)] := hl
  have CF : CallFix p m c cX4_lowestThatMayComeNext 3 s ([.ref (ad 0), .int p1] : List Value).toArray wsX4_lowestThatMayComeNext RX4 := ⟨hx, hb, hml, hown, hts⟩
  have ht : ∀ w ∈ T0, w.before ([.ref (ad 0), .int p1] : List Value).toArray s = true := fun w h => hts w (List.mem_cons_of_mem _ h)
  generalize hT : M_lowestThatMayComeNext σ p1 = T
  refine namedQ (fun Q eQ => ?_)
  have L_2 : ∀ (n i102 : Nat) (H : Heap) (locs : List Loc) (ls : Array Slot), i102 ≤ 12 → 13 ≤ i102 + n → va_P D vwCl (wB ad kk σ) H → va_D (aL 96 ad s.heap.size) (wB ad kk σ) → va_S (aL 96 ad s.heap.size) s.heap H locs → lv_has ls 3 [(0, .ref (ad 0)), (1, .int p1), (2, .int (nI i102))] → M_lowestThatMayComeNext_h2 n i102 σ p1 = T → W p l e (headSpec wsX4_lowestThatMayComeNext { frames := 2, cells := 0, slots := 0, locals := 44 }).room s m ([.ref (ad 0), .int p1] : List Value).toArray below meth c H locs 0 0 Q (F0 m 2 ls []) := by
    intro n
    induction n with
    | zero =>
      intro i102 H locs ls h_le h_fu hP hD hS hl hT
      exact absurd h_fu (by omega)
    | succ n ih =>
      intro i102 H locs ls h_le h_fu hP hD hS hl hT
      rw [M_lowestThatMayComeNext_h2] at hT
      refine lv_iload_n hx hb dX4_lowestThatMayComeNext_2 rfl (lv_at hl 2 rfl) ?_
      refine lv_aload_n hx hb dX4_lowestThatMayComeNext_3 rfl (lv_at hl 0 rfl) ?_
      refine va_get (D := D) (ci := 4) (v := .int (gF σ 0 6)) (C := RX4) (T := TX4) (N := 9) hx hb ht inX4 hown hK hP 0 g_MB rfl 6 (by decide) (ht _ mw_165) (fun _ h9 => h9) rfl dX4_lowestThatMayComeNext_4 ?_
      refine lv_icmp_ge (tgt := 49) hx hb dX4_lowestThatMayComeNext_7 (by decide) (fun c1 => ?_) (fun c1 => ?_)
      · rw [if_pos c1] at hT
        refine lv_iconst (v := (-1)) hx hb dX4_lowestThatMayComeNext_49 (by decide) ?_
        rw [eQ]
        exact W.iret (v := (-1)) hx hb hr (fun t ht hW => ⟨⟨(-1), σ, rfl, ⟨hT, rfl⟩, by rw [ht]; exact hP, va_K.moved hW.alike hK, hD⟩, hS.F ht⟩) hS.2.2 dX4_lowestThatMayComeNext_50
      · rw [if_neg c1] at hT
        have h_lt := lp_lt (N := 12) (by decide) hI.mc h_le c1
        refine lv_iload_n hx hb dX4_lowestThatMayComeNext_10 rfl (lv_at hl 1 rfl) ?_
        refine lv_iload_n hx hb dX4_lowestThatMayComeNext_11 rfl (lv_at hl 2 rfl) ?_
        refine vp_callSi (W.runS (As := [.int p1, .int (nI i102)]) (rest := []) CF (k_has l p1 (nI i102)) ⟨callB_of 2 hts (gT mw_402) rfl rfl rfl (ht _ mw_1) (ht _ mw_400) (by decide +kernel) ⟨Nat.le_of_ble_eq_true rfl, Nat.le_of_ble_eq_true rfl⟩, (ht _ mw_401)⟩ preEq rfl rfl hl.1 rfl (lv_room (Nat.le_of_ble_eq_true rfl)) dX4_lowestThatMayComeNext_12 ⟨Nat.le_of_ble_eq_true rfl, Nat.le_of_ble_eq_true rfl⟩) (fun r2 h_r2 => ?_)
        obtain rfl := h_r2
        refine lv_if_eq (tgt := 43) hx hb dX4_lowestThatMayComeNext_15 (by decide) (fun c3 => ?_) (fun c3 => ?_)
        · rw [if_pos c3] at hT
          refine lv_iinc (v := nI (i102 + 1)) (lv' := [(2, .int (nI (i102 + 1))), (0, .ref (ad 0)), (1, .int p1)]) hx hb dX4_lowestThatMayComeNext_43 hl (k := 2) rfl (nI_1 i102) (by decide) rfl (fun ls hl => ?_)
          refine lv_goto (tgt := 2) hx hb dX4_lowestThatMayComeNext_46 (by decide) ?_
          exact ih  (i102 + 1) _ _ ls h_lt (by omega) hP hD hS (lv_sub hl [1, 2, 0] rfl) hT
        · rw [if_neg c3] at hT
          refine lv_aload_n hx hb dX4_lowestThatMayComeNext_18 rfl (lv_at hl 0 rfl) ?_
          refine va_get (D := D) (ci := 4) (v := .ref (ad 3)) (C := RX4) (T := TX4) (N := 9) hx hb ht inX4 hown hK hP 0 g_MB rfl 1 (by decide) (ht _ mw_160) (fun _ h9 => h9) rfl dX4_lowestThatMayComeNext_19 ?_
          refine lv_iload_n hx hb dX4_lowestThatMayComeNext_22 rfl (lv_at hl 2 rfl) ?_
          refine va_aldq (i := nI i102) hx hb hK hP 3 1 g_methods rfl (vp_in_nI h_lt (by decide)) dX4_lowestThatMayComeNext_23 ?_
          rw [nI_clamp (n := i102) (by omega)]
          refine W.eq (g2 := F0 m 24 ls (.ref (ad (pMe i102)) :: [])) rfl ?_
          refine va_get (D := D) (ci := 1) (v := .int (gF σ (pMe i102) 4)) (C := RX1) (T := TX1) (N := 9) hx hb ht inX1 hown hK hP (pMe i102) (g_Me h_lt) rfl 4 (by decide) (ht _ mw_65) (fun _ h9 => h9) rfl dX4_lowestThatMayComeNext_24 ?_
          refine lv_iload_n hx hb dX4_lowestThatMayComeNext_27 rfl (lv_at hl 1 rfl) ?_
          refine lv_iand hx hb dX4_lowestThatMayComeNext_28 ?_
          refine lv_if_ne (tgt := 43) hx hb dX4_lowestThatMayComeNext_29 (by decide) (fun c4 => ?_) (fun c4 => ?_)
          · rw [if_neg c4] at hT
            refine lv_iinc (v := nI (i102 + 1)) (lv' := [(2, .int (nI (i102 + 1))), (0, .ref (ad 0)), (1, .int p1)]) hx hb dX4_lowestThatMayComeNext_43 hl (k := 2) rfl (nI_1 i102) (by decide) rfl (fun ls hl => ?_)
            refine lv_goto (tgt := 2) hx hb dX4_lowestThatMayComeNext_46 (by decide) ?_
            exact ih  (i102 + 1) _ _ ls h_lt (by omega) hP hD hS (lv_sub hl [1, 2, 0] rfl) hT
          · rw [if_pos c4] at hT
            refine lv_aload_n hx hb dX4_lowestThatMayComeNext_32 rfl (lv_at hl 0 rfl) ?_
            refine lv_iload_n hx hb dX4_lowestThatMayComeNext_33 rfl (lv_at hl 2 rfl) ?_
            refine lv_iload_n hx hb dX4_lowestThatMayComeNext_34 rfl (lv_at hl 1 rfl) ?_
            refine kB_i (va_runV (As := [.int (nI i102), .int p1]) (rest := []) CF (k_hasToWait l D ad kk _ σ (nI i102) p1 hI) ⟨callB_of 2 hts (gT mw_545) rfl rfl rfl (ht _ mw_1) (ht _ mw_542) (by decide +kernel) ⟨Nat.le_of_ble_eq_true rfl, Nat.le_of_ble_eq_true rfl⟩, (ht _ mw_544), (ht _ ms_21)⟩ (preV_B hK hP hD hE hS (ci := 4) rfl rfl g_MB) rfl rfl hl.1 rfl (lv_room (Nat.le_of_ble_eq_true rfl)) dX4_lowestThatMayComeNext_35 ⟨Nat.le_of_ble_eq_true rfl, Nat.le_of_ble_eq_true rfl⟩) hS (fun r5 u9 H locs hw hP hD hS => ?_)
            obtain ⟨rfl, e9⟩ := hw
            rw [e9] at hP hD
            refine lv_if_ne (tgt := 43) hx hb dX4_lowestThatMayComeNext_38 (by decide) (fun c6 => ?_) (fun c6 => ?_)
            · rw [if_neg c6] at hT
              refine lv_iinc (v := nI (i102 + 1)) (lv' := [(2, .int (nI (i102 + 1))), (0, .ref (ad 0)), (1, .int p1)]) hx hb dX4_lowestThatMayComeNext_43 hl (k := 2) rfl (nI_1 i102) (by decide) rfl (fun ls hl => ?_)
              refine lv_goto (tgt := 2) hx hb dX4_lowestThatMayComeNext_46 (by decide) ?_
              exact ih  (i102 + 1) _ _ ls h_lt (by omega) hP hD hS (lv_sub hl [1, 2, 0] rfl) hT
            · rw [if_pos c6] at hT
              refine lv_iload_n hx hb dX4_lowestThatMayComeNext_41 rfl (lv_at hl 2 rfl) ?_
              rw [eQ]
              exact W.iret (v := nI i102) hx hb hr (fun t ht hW => ⟨⟨nI i102, σ, rfl, ⟨hT, rfl⟩, by rw [ht]; exact hP, va_K.moved hW.alike hK, hD⟩, hS.F ht⟩) hS.2.2 dX4_lowestThatMayComeNext_42
  rw [M_lowestThatMayComeNext] at hT
  refine lv_iconst (v := 0) hx hb dX4_lowestThatMayComeNext_0 (by decide) ?_
  refine lv_istore_n (lv' := [(2, .int 0), (0, .ref (ad 0)), (1, .int p1)]) hx hb dX4_lowestThatMayComeNext_1 rfl hl (by decide) rfl (fun ls hl => ?_)
  exact L_2 13 0 _ _ ls (Nat.zero_le _) (by decide) hP hD hS (lv_sub hl [1, 2, 0] rfl) hT
set_option maxHeartbeats 4000000 in
set_option maxRecDepth 100000 in
theorem k_putInOrder (l : Launch) (D : va_G) (ad : Nat → Nat) (kk : Nat → ClassId) (sz : Nat) (σ : St) (p1 : Int32) (p2 : Int32) (hI : IB σ) : Met l yX4_putInOrder wsX4_putInOrder { frames := 3, cells := 0, slots := 0, locals := 66 } (va_Pc [.ref (ad 0), .int p1, .int p2] (PB D ad kk sz σ)) (va_Qi (fun r u => (r, u) = M_putInOrder σ p1 p2) (QB D ad kk sz) (aL 96 ad sz)) 0 0 (aL 96 ad sz) := by
  refine Met.ofW (cc := cX4_putInOrder) (maxL := 6) (ret := (some .boolean)) (by decide) rfl ?_
  intro p e s m args below meth c s₁ B hml hv
  obtain ⟨rfl, hsz, hP, hK, hD0, hE⟩ := hv
  have hx := B.exec
  have hb := B.bytes
  have hr := B.returns
  have hts := atoms_spec (ws := wsX4_putInOrder) B.pre
  have hown : s.vm.findClass RX4 = some m.cls := findClass_of_methodNamed B.named
  have hlocks := B.notSynchronized
  subst hsz
  have hD : va_D (aL 96 ad s.heap.size) (wB ad kk σ) := aL_D hD0
  have hS : va_S (aL 96 ad s.heap.size) s.heap s.heap [] := va_S.rf
  have hl := lv_entry ([.ref (ad 0), .int p1, .int p2]) (n := 6) (Nat.le_of_ble_eq_true rfl)
  rw [lg_entry_eq]
  generalize (lg_sl ([.ref (ad 0), .int p1, .int p2]) ++ List.replicate (6 - (lg_sl ([.ref (ad 0), .int p1, .int p2])).length) Slot.unset).toArray = ls at hl ⊢
  have hl : lv_has ls 6 [(0, .ref (ad 0)), (1, .int p1), (2, .int p2)] := hl
  have CF : CallFix p m c cX4_putInOrder 6 s ([.ref (ad 0), .int p1, .int p2] : List Value).toArray wsX4_putInOrder RX4 := ⟨hx, hb, hml, hown, hts⟩
  have ht : ∀ w ∈ T0, w.before ([.ref (ad 0), .int p1, .int p2] : List Value).toArray s = true := fun w h => hts w (List.mem_cons_of_mem _ h)
  generalize hT : M_putInOrder σ p1 p2 = T
  refine namedQ (fun Q eQ => ?_)
  have L_5 : ∀ (n i105 : Nat) (x5_3 : Int32) (τ5 : St) (H : Heap) (locs : List Loc) (ls : Array Slot), i105 ≤ 10 → 11 ≤ i105 + n → IB τ5 → va_P D vwCl (wB ad kk τ5) H → va_D (aL 96 ad s.heap.size) (wB ad kk τ5) → va_S (aL 96 ad s.heap.size) s.heap H locs → lv_has ls 6 [(0, .ref (ad 0)), (1, .int p1), (2, .int p2), (3, .int x5_3), (4, .int (nI i105))] → M_putInOrder_h5 n i105 x5_3 τ5 p2 = T → W p l e (headSpec wsX4_putInOrder { frames := 3, cells := 0, slots := 0, locals := 66 }).room s m ([.ref (ad 0), .int p1, .int p2] : List Value).toArray below meth c H locs 0 0 Q (F0 m 5 ls []) := by
    intro n
    induction n with
    | zero =>
      intro i105 x5_3 τ5 H locs ls h_le h_fu hv0 hP hD hS hl hT
      exact absurd h_fu (by omega)
    | succ n ih =>
      intro i105 x5_3 τ5 H locs ls h_le h_fu hv0 hP hD hS hl hT
      rw [M_putInOrder_h5] at hT
      refine lv_iload hx hb dX4_putInOrder_5 (lv_at hl 4 rfl) ?_
      refine lv_iload_n hx hb dX4_putInOrder_7 rfl (lv_at hl 2 rfl) ?_
      refine lv_icmp_ge (tgt := 56) hx hb dX4_putInOrder_8 (by decide) (fun c1 => ?_) (fun c1 => ?_)
      · rw [if_pos c1] at hT
        refine lv_iconst (v := 1) hx hb dX4_putInOrder_56 (by decide) ?_
        rw [eQ]
        exact W.zret (v := 1) hx hb hr rfl (fun t ht hW => ⟨⟨1, τ5, rfl, hT, by rw [ht]; exact hP, va_K.moved hW.alike hK, hD⟩, hS.F ht⟩) hS.2.2 dX4_putInOrder_57
      · rw [if_neg c1] at hT
        refine lv_iload hx hb dX4_putInOrder_11 (lv_at hl 4 rfl) ?_
        refine lv_bipush (v := 10) hx hb dX4_putInOrder_13 (by decide) ?_
        refine lv_icmp_ge (tgt := 56) hx hb dX4_putInOrder_15 (by decide) (fun c2 => ?_) (fun c2 => ?_)
        · rw [if_pos c2] at hT
          refine lv_iconst (v := 1) hx hb dX4_putInOrder_56 (by decide) ?_
          rw [eQ]
          exact W.zret (v := 1) hx hb hr rfl (fun t ht hW => ⟨⟨1, τ5, rfl, hT, by rw [ht]; exact hP, va_K.moved hW.alike hK, hD⟩, hS.F ht⟩) hS.2.2 dX4_putInOrder_57
        · rw [if_neg c2] at hT
          have h_lt := lp_lt (N := 10) (by decide) (by decide) h_le c2
          refine lv_aload_n hx hb dX4_putInOrder_18 rfl (lv_at hl 0 rfl) ?_
          refine lv_iload_n hx hb dX4_putInOrder_19 rfl (lv_at hl 3 rfl) ?_
          refine kB_i (va_runV (As := [.int x5_3]) (rest := []) CF (k_lowestThatMayComeNext l D ad kk _ τ5 x5_3 hv0) ⟨callB_of 1 hts (gT mw_541) rfl rfl rfl (ht _ mw_1) (ht _ mw_538) (by decide +kernel) ⟨Nat.le_of_ble_eq_true rfl, Nat.le_of_ble_eq_true rfl⟩, (ht _ mw_540), (ht _ ms_20)⟩ (preV_B hK hP hD hE hS (ci := 4) rfl rfl g_MB) rfl rfl hl.1 rfl (lv_room (Nat.le_of_ble_eq_true rfl)) dX4_putInOrder_20 ⟨Nat.le_of_ble_eq_true rfl, Nat.le_of_ble_eq_true rfl⟩) hS (fun r3 u9 H locs hw hP hD hS => ?_)
          obtain ⟨rfl, e9⟩ := hw
          rw [e9] at hP hD
          refine lv_istore (lv' := [(5, .int (M_lowestThatMayComeNext τ5 x5_3)), (0, .ref (ad 0)), (1, .int p1), (2, .int p2), (3, .int x5_3), (4, .int (nI i105))]) hx hb dX4_putInOrder_23 hl (by decide) rfl (fun ls hl => ?_)
          refine lv_iload hx hb dX4_putInOrder_25 (lv_at hl 0 rfl) ?_
          refine lv_iconst (v := (-1)) hx hb dX4_putInOrder_27 (by decide) ?_
          refine lv_icmp_ne (tgt := 33) hx hb dX4_putInOrder_28 (by decide) (fun c4 => ?_) (fun c4 => ?_)
          · rw [if_neg c4] at hT
            refine lv_aload_n hx hb dX4_putInOrder_33 rfl (lv_at hl 1 rfl) ?_
            refine va_get (D := D) (ci := 4) (v := .ref (ad 95)) (C := RX4) (T := TX4) (N := 9) hx hb ht inX4 hown hK hP 0 g_MB rfl 5 (by decide) (ht _ mw_164) (fun _ h9 => h9) rfl dX4_putInOrder_34 ?_
            refine lv_iload hx hb dX4_putInOrder_37 (lv_at hl 5 rfl) ?_
            refine lv_iload hx hb dX4_putInOrder_39 (lv_at hl 0 rfl) ?_
            refine va_iast (i := nI i105) (x := M_lowestThatMayComeNext τ5 x5_3) hx hb hK hP hD hS 95 0 g_draft rfl (vp_in_nI h_lt (by decide)) dX4_putInOrder_41 (fun H locs hP hD hS => ?_)
            rw [nI_clamp (n := i105) (by omega)] at hP hD
            rw [s_draft] at hP hD
            refine lv_iload_n hx hb dX4_putInOrder_42 rfl (lv_at hl 4 rfl) ?_
            refine lv_iload hx hb dX4_putInOrder_43 (lv_at hl 0 rfl) ?_
            refine lv_iconst (v := 0) hx hb dX4_putInOrder_45 (by decide) ?_
            refine vp_callSi (W.runS (As := [.int x5_3, .int (M_lowestThatMayComeNext τ5 x5_3), .int 0]) (rest := []) CF (k_with l x5_3 (M_lowestThatMayComeNext τ5 x5_3) 0) ⟨callB_of 3 hts (gT mw_325) rfl rfl rfl (ht _ mw_1) (ht _ mw_403) (by decide +kernel) ⟨Nat.le_of_ble_eq_true rfl, Nat.le_of_ble_eq_true rfl⟩, (ht _ mw_324)⟩ preEq rfl rfl hl.1 rfl (lv_room (Nat.le_of_ble_eq_true rfl)) dX4_putInOrder_46 ⟨Nat.le_of_ble_eq_true rfl, Nat.le_of_ble_eq_true rfl⟩) (fun r5 h_r5 => ?_)
            obtain rfl := h_r5
            refine lv_istore_n (lv' := [(3, .int (M_with x5_3 (M_lowestThatMayComeNext τ5 x5_3) 0)), (5, .int (M_lowestThatMayComeNext τ5 x5_3)), (0, .ref (ad 0)), (1, .int p1), (2, .int p2), (4, .int (nI i105))]) hx hb dX4_putInOrder_49 rfl hl (by decide) rfl (fun ls hl => ?_)
            refine lv_iinc (v := nI (i105 + 1)) (lv' := [(4, .int (nI (i105 + 1))), (3, .int (M_with x5_3 (M_lowestThatMayComeNext τ5 x5_3) 0)), (5, .int (M_lowestThatMayComeNext τ5 x5_3)), (0, .ref (ad 0)), (1, .int p1), (2, .int p2)]) hx hb dX4_putInOrder_50 hl (k := 5) rfl (nI_1 i105) (by decide) rfl (fun ls hl => ?_)
            refine lv_goto (tgt := 5) hx hb dX4_putInOrder_53 (by decide) ?_
            exact ih  (i105 + 1) (M_with x5_3 (M_lowestThatMayComeNext τ5 x5_3) 0) (sA τ5 95 i105 (M_lowestThatMayComeNext τ5 x5_3)) _ _ ls h_lt (by omega) (IB.kA hv0) hP hD hS (lv_sub hl [3, 4, 5, 1, 0] rfl) hT
          · rw [if_pos c4] at hT
            refine lv_iconst (v := 0) hx hb dX4_putInOrder_31 (by decide) ?_
            rw [eQ]
            exact W.zret (v := 0) hx hb hr rfl (fun t ht hW => ⟨⟨0, τ5, rfl, hT, by rw [ht]; exact hP, va_K.moved hW.alike hK, hD⟩, hS.F ht⟩) hS.2.2 dX4_putInOrder_32
  rw [M_putInOrder] at hT
  refine lv_iload_n hx hb dX4_putInOrder_0 rfl (lv_at hl 1 rfl) ?_
  refine lv_istore_n (lv' := [(3, .int p1), (0, .ref (ad 0)), (1, .int p1), (2, .int p2)]) hx hb dX4_putInOrder_1 rfl hl (by decide) rfl (fun ls hl => ?_)
  refine lv_iconst (v := 0) hx hb dX4_putInOrder_2 (by decide) ?_
  refine lv_istore (lv' := [(4, .int 0), (3, .int p1), (0, .ref (ad 0)), (1, .int p1), (2, .int p2)]) hx hb dX4_putInOrder_3 hl (by decide) rfl (fun ls hl => ?_)
  exact L_5 11 0 p1 σ _ _ ls (Nat.zero_le _) (by decide) hI hP hD hS (lv_sub hl [2, 3, 4, 1, 0] rfl) hT
set_option maxHeartbeats 4000000 in
set_option maxRecDepth 100000 in
theorem k_bitCount (l : Launch) (p0 : Int32) : Met l yJ6_bitCount wsJ6_bitCount { frames := 0, cells := 0, slots := 0, locals := 0 } (fun v _ => v = ([.int p0] : List Value).toArray) (vp_Si (fun r => r = (M_bitCount p0))) 0 0 (fun _ => False) := by
  refine Met.ofW (cc := cJ6_bitCount) (maxL := 1) (ret := (some .int)) (by decide) rfl ?_
  intro p e s m args below meth c s₁ B hml hv
  obtain rfl := hv
  have hx := B.exec
  have hb := B.bytes
  have hr := B.returns
  have hts := atoms_spec (ws := wsJ6_bitCount) B.pre
  have hown : s.vm.findClass RJ6 = some m.cls := findClass_of_methodNamed B.named
  have hlocks := B.notSynchronized
  have hl := lv_entry ([.int p0]) (n := 1) (Nat.le_of_ble_eq_true rfl)
  rw [lg_entry_eq]
  generalize (lg_sl ([.int p0]) ++ List.replicate (1 - (lg_sl ([.int p0])).length) Slot.unset).toArray = ls at hl ⊢
  have hl : lv_has ls 1 [(0, .int p0)] := hl
  have CF : CallFix p m c cJ6_bitCount 1 s ([.int p0] : List Value).toArray wsJ6_bitCount RJ6 := ⟨hx, hb, hml, hown, hts⟩
  have ht : ∀ w ∈ T0, w.before ([.int p0] : List Value).toArray s = true := fun w h => hts w (List.mem_cons_of_mem _ h)
  generalize hT : M_bitCount p0 = T
  rw [M_bitCount] at hT
  refine lv_iload_n hx hb dJ6_bitCount_0 rfl (lv_at hl 0 rfl) ?_
  refine lv_iload_n hx hb dJ6_bitCount_1 rfl (lv_at hl 0 rfl) ?_
  refine lv_iconst (v := 1) hx hb dJ6_bitCount_2 (by decide) ?_
  refine lv_iushr hx hb dJ6_bitCount_3 rfl ?_
  refine lv_ldcw (v := 1431655765) hx hb hown (ht _ mw_523) dJ6_bitCount_4 ?_
  refine lv_iand hx hb dJ6_bitCount_7 ?_
  refine lv_isub hx hb dJ6_bitCount_8 ?_
  refine lv_topi (fun y1 e_y1 => ?_)
  rw [← e_y1, vb_eq] at hT
  refine lv_istore_n (lv' := [(0, .int y1)]) hx hb dJ6_bitCount_9 rfl hl (by decide) rfl (fun ls hl => ?_)
  refine lv_iload_n hx hb dJ6_bitCount_10 rfl (lv_at hl 0 rfl) ?_
  refine lv_ldcw (v := 858993459) hx hb hown (ht _ mw_524) dJ6_bitCount_11 ?_
  refine lv_iand hx hb dJ6_bitCount_14 ?_
  refine lv_iload_n hx hb dJ6_bitCount_15 rfl (lv_at hl 0 rfl) ?_
  refine lv_iconst (v := 2) hx hb dJ6_bitCount_16 (by decide) ?_
  refine lv_iushr hx hb dJ6_bitCount_17 rfl ?_
  refine lv_ldcw (v := 858993459) hx hb hown (ht _ mw_524) dJ6_bitCount_18 ?_
  refine lv_iand hx hb dJ6_bitCount_21 ?_
  refine lv_iadd hx hb dJ6_bitCount_22 ?_
  refine lv_topi (fun y2 e_y2 => ?_)
  rw [← e_y2, vb_eq] at hT
  refine lv_istore_n (lv' := [(0, .int y2)]) hx hb dJ6_bitCount_23 rfl hl (by decide) rfl (fun ls hl => ?_)
  refine lv_iload_n hx hb dJ6_bitCount_24 rfl (lv_at hl 0 rfl) ?_
  refine lv_iload_n hx hb dJ6_bitCount_25 rfl (lv_at hl 0 rfl) ?_
  refine lv_iconst (v := 4) hx hb dJ6_bitCount_26 (by decide) ?_
  refine lv_iushr hx hb dJ6_bitCount_27 rfl ?_
  refine lv_iadd hx hb dJ6_bitCount_28 ?_
  refine lv_ldcw (v := 252645135) hx hb hown (ht _ mw_525) dJ6_bitCount_29 ?_
  refine lv_iand hx hb dJ6_bitCount_32 ?_
  refine lv_topi (fun y3 e_y3 => ?_)
  rw [← e_y3, vb_eq] at hT
  refine lv_istore_n (lv' := [(0, .int y3)]) hx hb dJ6_bitCount_33 rfl hl (by decide) rfl (fun ls hl => ?_)
  refine lv_iload_n hx hb dJ6_bitCount_34 rfl (lv_at hl 0 rfl) ?_
  refine lv_iload_n hx hb dJ6_bitCount_35 rfl (lv_at hl 0 rfl) ?_
  refine lv_bipush (v := 8) hx hb dJ6_bitCount_36 (by decide) ?_
  refine lv_iushr hx hb dJ6_bitCount_38 rfl ?_
  refine lv_iadd hx hb dJ6_bitCount_39 ?_
  refine lv_topi (fun y4 e_y4 => ?_)
  rw [← e_y4, vb_eq] at hT
  refine lv_istore_n (lv' := [(0, .int y4)]) hx hb dJ6_bitCount_40 rfl hl (by decide) rfl (fun ls hl => ?_)
  refine lv_iload_n hx hb dJ6_bitCount_41 rfl (lv_at hl 0 rfl) ?_
  refine lv_iload_n hx hb dJ6_bitCount_42 rfl (lv_at hl 0 rfl) ?_
  refine lv_bipush (v := 16) hx hb dJ6_bitCount_43 (by decide) ?_
  refine lv_iushr hx hb dJ6_bitCount_45 rfl ?_
  refine lv_iadd hx hb dJ6_bitCount_46 ?_
  refine lv_topi (fun y5 e_y5 => ?_)
  rw [← e_y5, vb_eq] at hT
  refine lv_istore_n (lv' := [(0, .int y5)]) hx hb dJ6_bitCount_47 rfl hl (by decide) rfl (fun ls hl => ?_)
  refine lv_iload_n hx hb dJ6_bitCount_48 rfl (lv_at hl 0 rfl) ?_
  refine lv_bipush (v := 63) hx hb dJ6_bitCount_49 (by decide) ?_
  refine lv_iand hx hb dJ6_bitCount_51 ?_
  exact W.iret (v := y5 &&& 63) hx hb hr (fun t ht hW => ⟨y5 &&& 63, rfl, hT, ht⟩) t_nil dJ6_bitCount_52
end
section
set_option maxHeartbeats 4000000 in
set_option maxRecDepth 100000 in
theorem k_unit (l : Launch) (hl9 : l.stackTraces = false) (D : va_G) (ad : Nat → Nat) (kk : Nat → ClassId) (sz : Nat) (σ : St) (p1 : Int32) (hI : IB σ) : vx_Met l yX4_unit wsX4_unit { frames := 6, cells := 1, slots := 6, locals := 90 } (va_Pc [.ref (ad 0), .int p1] (PB D ad kk sz σ)) (va_Qi (fun r u => .ok (r, u) = M_unit σ p1) (QB D ad kk sz) (aL 96 ad sz)) (XB (M_unit σ p1) D ad kk sz σ) 1 6 (aL 96 ad sz) := by
  refine vx_ofW (cc := cX4_unit) (maxL := 2) (ret := (some .int)) (by decide) rfl ?_
  intro p e s m args below meth c s₁ B hml hEx hv
  obtain ⟨rfl, hsz, hP, hK, hD0, hE⟩ := hv
  have hx := B.exec
  have hb := B.bytes
  have hr := B.returns
  have hts := atoms_spec (ws := wsX4_unit) B.pre
  have hown : s.vm.findClass RX4 = some m.cls := findClass_of_methodNamed B.named
  have hlocks := B.notSynchronized
  subst hsz
  have hD : va_D (aL 96 ad s.heap.size) (wB ad kk σ) := aL_D hD0
  have hS : va_S (aL 96 ad s.heap.size) s.heap s.heap [] := va_S.rf
  have hl := lv_entry ([.ref (ad 0), .int p1]) (n := 2) (Nat.le_of_ble_eq_true rfl)
  rw [lg_entry_eq]
  generalize (lg_sl ([.ref (ad 0), .int p1]) ++ List.replicate (2 - (lg_sl ([.ref (ad 0), .int p1])).length) Slot.unset).toArray = ls at hl ⊢
  have hl : lv_has ls 2 [(0, .ref (ad 0)), (1, .int p1)] := hl
  have CF : CallFix p m c cX4_unit 2 s ([.ref (ad 0), .int p1] : List Value).toArray wsX4_unit RX4 := ⟨hx, hb, hml, hown, hts⟩
  have ht : ∀ w ∈ T0, w.before ([.ref (ad 0), .int p1] : List Value).toArray s = true := fun w h => hts w (List.mem_cons_of_mem _ h)
  generalize hT : M_unit σ p1 = T
  rw [M_unit] at hT
  refine lv_aload_n hx hb dX4_unit_0 rfl (lv_at hl 0 rfl) ?_
  refine va_get (D := D) (ci := 4) (v := .ref (ad 1)) (C := RX4) (T := TX4) (N := 9) hx hb ht inX4 hown hK hP 0 g_MB rfl 0 (by decide) (ht _ mw_159) (fun _ h9 => h9) rfl dX4_unit_1 ?_
  refine va_get (D := D) (ci := 2) (v := .int (gF σ 1 1)) (C := RX2) (T := TX2) (N := 3) hx hb ht inX2 hown hK hP 1 g_Pad rfl 1 (by decide) (ht _ mw_32) (fun _ h9 => h9) rfl dX4_unit_4 ?_
  refine lv_bipush (v := 50) hx hb dX4_unit_7 (by decide) ?_
  refine lv_icmp_lt (tgt := 22) hx hb dX4_unit_9 (by decide) (fun c1 => ?_) (fun c1 => ?_)
  · rw [if_pos c1] at hT
    have hlt := c1
    refine lv_iload_n hx hb dX4_unit_22 rfl (lv_at hl 1 rfl) ?_
    refine lv_bipush (v := 33) hx hb dX4_unit_23 (by decide) ?_
    refine lv_icmp_lt (tgt := 34) hx hb dX4_unit_25 (by decide) (fun c2 => ?_) (fun c2 => ?_)
    · rw [if_pos c2] at hT
      exact vx_throwS (own := RX4) (cls := "java/lang/IllegalArgumentException") (names := th_n) hx hb hl9 hown thf_IllegalArgumentException thf_n (ht _ mw_264) (ht _ mw_11) (hE.str (own := RX4) (k := 57) (tx := "no sign") (by decide +kernel)).choose_spec (vx_hat (B := th_B "java/lang/IllegalArgumentException") (fun w hw => ht w (thw_IllegalArgumentException w hw)) thb_IllegalArgumentException (hE.th (by decide +kernel))) (thg_IllegalArgumentException _) hE.1 hE.2.1 hS (hl.1.trans hml.symm) dX4_unit_34 dX4_unit_37 dX4_unit_38 dX4_unit_40 dX4_unit_43 (fun x hx => (hEx x hx).elim) (Nat.le_of_ble_eq_true rfl) (Nat.le_of_ble_eq_true rfl) (Nat.le_of_ble_eq_true rfl) (Nat.le_of_ble_eq_true rfl) hlocks (fun t ha hsz hk => xB_end hT hK hP hD hS ha hsz hk) hS.2.2 (by decide) (by decide)
    · rw [if_neg c2] at hT
      refine lv_iload_n hx hb dX4_unit_28 rfl (lv_at hl 1 rfl) ?_
      refine lv_bipush (v := 126) hx hb dX4_unit_29 (by decide) ?_
      refine lv_icmp_le (tgt := 44) hx hb dX4_unit_31 (by decide) (fun c3 => ?_) (fun c3 => ?_)
      · rw [if_pos c3] at hT
        refine lv_aload_n hx hb dX4_unit_44 rfl (lv_at hl 0 rfl) ?_
        refine va_get (D := D) (ci := 4) (v := .ref (ad 1)) (C := RX4) (T := TX4) (N := 9) hx hb ht inX4 hown hK hP 0 g_MB rfl 0 (by decide) (ht _ mw_159) (fun _ h9 => h9) rfl dX4_unit_45 ?_
        refine va_get (D := D) (ci := 2) (v := .ref (ad 2)) (C := RX2) (T := TX2) (N := 3) hx hb ht inX2 hown hK hP 1 g_Pad rfl 0 (by decide) (ht _ mw_31) (fun _ h9 => h9) rfl dX4_unit_48 ?_
        refine lv_aload_n hx hb dX4_unit_51 rfl (lv_at hl 0 rfl) ?_
        refine va_get (D := D) (ci := 4) (v := .ref (ad 1)) (C := RX4) (T := TX4) (N := 9) hx hb ht inX4 hown hK hP 0 g_MB rfl 0 (by decide) (ht _ mw_159) (fun _ h9 => h9) rfl dX4_unit_52 ?_
        refine va_get (D := D) (ci := 2) (v := .int (gF σ 1 1)) (C := RX2) (T := TX2) (N := 3) hx hb ht inX2 hown hK hP 1 g_Pad rfl 1 (by decide) (ht _ mw_32) (fun _ h9 => h9) rfl dX4_unit_55 ?_
        refine lv_iload_n hx hb dX4_unit_58 rfl (lv_at hl 1 rfl) ?_
        refine va_iast (i := gF σ 1 1) (x := p1) hx hb hK hP hD hS 2 0 g_signs rfl (IB.len_in hI hlt) dX4_unit_59 (fun H locs hP hD hS => ?_)
        rw [s_signs] at hP hD
        refine lv_aload_n hx hb dX4_unit_60 rfl (lv_at hl 0 rfl) ?_
        refine va_get (D := D) (ci := 4) (v := .ref (ad 1)) (C := RX4) (T := TX4) (N := 9) hx hb ht inX4 hown hK hP 0 g_MB rfl 0 (by decide) (ht _ mw_159) (fun _ h9 => h9) rfl dX4_unit_61 ?_
        refine lv_dup hx hb dX4_unit_64 rfl ?_
        refine va_get (D := D) (ci := 2) (v := .int (gF (sA σ 2 (gF σ 1 1).toNatClampNeg p1) 1 1)) (C := RX2) (T := TX2) (N := 3) hx hb ht inX2 hown hK hP 1 g_Pad rfl 1 (by decide) (ht _ mw_32) (fun _ h9 => h9) rfl dX4_unit_65 ?_
        refine lv_iconst (v := 1) hx hb dX4_unit_68 (by decide) ?_
        refine lv_iadd hx hb dX4_unit_69 ?_
        refine va_put (D := D) (ci := 2) (v := .int ((gF (sA σ 2 (gF σ 1 1).toNatClampNeg p1) 1 1) + 1)) (ty := .int) (C := RX2) (T := TX2) (N := 3) hx hb ht inX2 tyX2 tyX2_ok nmX2 hown hK hP hD hS 1 g_Pad rfl 1 (by decide) (ht _ mw_32) (fun _ h9 => h9) rfl (by decide +kernel) rfl rfl (Nat.le_of_ble_eq_true rfl) dX4_unit_70 (fun H locs hP hD hS => ?_)
        rw [s_Pad_1] at hP hD
        refine lv_aload_n hx hb dX4_unit_73 rfl (lv_at hl 0 rfl) ?_
        refine va_get (D := D) (ci := 4) (v := .ref (ad 1)) (C := RX4) (T := TX4) (N := 9) hx hb ht inX4 hown hK hP 0 g_MB rfl 0 (by decide) (ht _ mw_159) (fun _ h9 => h9) rfl dX4_unit_74 ?_
        refine va_get (D := D) (ci := 2) (v := .int (gF (sF (sA σ 2 (gF σ 1 1).toNatClampNeg p1) 1 1 ((gF (sA σ 2 (gF σ 1 1).toNatClampNeg p1) 1 1) + 1)) 1 1)) (C := RX2) (T := TX2) (N := 3) hx hb ht inX2 hown hK hP 1 g_Pad rfl 1 (by decide) (ht _ mw_32) (fun _ h9 => h9) rfl dX4_unit_77 ?_
        refine W.widen (k := 1) (n := 6) (by decide) (by decide) ?_
        exact vx_ret (W.iret (v := gF (sF (sA σ 2 (gF σ 1 1).toNatClampNeg p1) 1 1 ((gF (sA σ 2 (gF σ 1 1).toNatClampNeg p1) 1 1) + 1)) 1 1) hx hb hr (fun t ht hW => ⟨⟨gF (sF (sA σ 2 (gF σ 1 1).toNatClampNeg p1) 1 1 ((gF (sA σ 2 (gF σ 1 1).toNatClampNeg p1) 1 1) + 1)) 1 1, (sF (sA σ 2 (gF σ 1 1).toNatClampNeg p1) 1 1 ((gF (sA σ 2 (gF σ 1 1).toNatClampNeg p1) 1 1) + 1)), rfl, hT, by rw [ht]; exact hP, va_K.moved hW.alike hK, hD⟩, hS.F ht⟩) hS.2.2 dX4_unit_80)
      · rw [if_neg c3] at hT
        exact vx_throwS (own := RX4) (cls := "java/lang/IllegalArgumentException") (names := th_n) hx hb hl9 hown thf_IllegalArgumentException thf_n (ht _ mw_264) (ht _ mw_11) (hE.str (own := RX4) (k := 57) (tx := "no sign") (by decide +kernel)).choose_spec (vx_hat (B := th_B "java/lang/IllegalArgumentException") (fun w hw => ht w (thw_IllegalArgumentException w hw)) thb_IllegalArgumentException (hE.th (by decide +kernel))) (thg_IllegalArgumentException _) hE.1 hE.2.1 hS (hl.1.trans hml.symm) dX4_unit_34 dX4_unit_37 dX4_unit_38 dX4_unit_40 dX4_unit_43 (fun x hx => (hEx x hx).elim) (Nat.le_of_ble_eq_true rfl) (Nat.le_of_ble_eq_true rfl) (Nat.le_of_ble_eq_true rfl) (Nat.le_of_ble_eq_true rfl) hlocks (fun t ha hsz hk => xB_end hT hK hP hD hS ha hsz hk) hS.2.2 (by decide) (by decide)
  · rw [if_neg c1] at hT
    exact vx_throwS (own := RX4) (cls := "java/lang/IllegalStateException") (names := th_n) hx hb hl9 hown thf_IllegalStateException thf_n (ht _ mw_196) (ht _ mw_10) (hE.str (own := RX4) (k := 50) (tx := "the pad is full") (by decide +kernel)).choose_spec (vx_hat (B := th_B "java/lang/IllegalStateException") (fun w hw => ht w (thw_IllegalStateException w hw)) thb_IllegalStateException (hE.th (by decide +kernel))) (thg_IllegalStateException _) hE.1 hE.2.1 hS (hl.1.trans hml.symm) dX4_unit_12 dX4_unit_15 dX4_unit_16 dX4_unit_18 dX4_unit_21 (fun x hx => (hEx x hx).elim) (Nat.le_of_ble_eq_true rfl) (Nat.le_of_ble_eq_true rfl) (Nat.le_of_ble_eq_true rfl) (Nat.le_of_ble_eq_true rfl) hlocks (fun t ha hsz hk => xB_end hT hK hP hD hS ha hsz hk) hS.2.2 (by decide) (by decide)
set_option maxHeartbeats 4000000 in
set_option maxRecDepth 100000 in
theorem k_read (l : Launch) (hl9 : l.stackTraces = false) (D : va_G) (ad : Nat → Nat) (kk : Nat → ClassId) (sz : Nat) (σ : St) (hI : IB σ) : vx_Met l yX4_read wsX4_read { frames := 6, cells := 1, slots := 6, locals := 111 } (va_Pc [.ref (ad 0)] (PB D ad kk sz σ)) (va_Qi (fun r u => .ok (r, u) = M_read σ) (QB D ad kk sz) (aL 96 ad sz)) (XB (M_read σ) D ad kk sz σ) 1 6 (aL 96 ad sz) := by
  refine vx_ofW (cc := cX4_read) (maxL := 3) (ret := (some .int)) (by decide) rfl ?_
  intro p e s m args below meth c s₁ B hml hEx hv
  obtain ⟨rfl, hsz, hP, hK, hD0, hE⟩ := hv
  have hx := B.exec
  have hb := B.bytes
  have hr := B.returns
  have hts := atoms_spec (ws := wsX4_read) B.pre
  have hown : s.vm.findClass RX4 = some m.cls := findClass_of_methodNamed B.named
  have hlocks := B.notSynchronized
  subst hsz
  have hD : va_D (aL 96 ad s.heap.size) (wB ad kk σ) := aL_D hD0
  have hS : va_S (aL 96 ad s.heap.size) s.heap s.heap [] := va_S.rf
  have hl := lv_entry ([.ref (ad 0)]) (n := 3) (Nat.le_of_ble_eq_true rfl)
  rw [lg_entry_eq]
  generalize (lg_sl ([.ref (ad 0)]) ++ List.replicate (3 - (lg_sl ([.ref (ad 0)])).length) Slot.unset).toArray = ls at hl ⊢
  have hl : lv_has ls 3 [(0, .ref (ad 0))] := hl
  have CF : CallFix p m c cX4_read 3 s ([.ref (ad 0)] : List Value).toArray wsX4_read RX4 := ⟨hx, hb, hml, hown, hts⟩
  have ht : ∀ w ∈ T0, w.before ([.ref (ad 0)] : List Value).toArray s = true := fun w h => hts w (List.mem_cons_of_mem _ h)
  generalize hT : M_read σ = T
  rw [M_read] at hT
  refine lv_aload_n hx hb dX4_read_0 rfl (lv_at hl 0 rfl) ?_
  refine va_get (D := D) (ci := 4) (v := .int (gF σ 0 6)) (C := RX4) (T := TX4) (N := 9) hx hb ht inX4 hown hK hP 0 g_MB rfl 6 (by decide) (ht _ mw_165) (fun _ h9 => h9) rfl dX4_read_1 ?_
  refine lv_bipush (v := 12) hx hb dX4_read_4 (by decide) ?_
  refine lv_icmp_lt (tgt := 19) hx hb dX4_read_6 (by decide) (fun c1 => ?_) (fun c1 => ?_)
  · rw [if_pos c1] at hT
    have hlt := c1
    refine lv_aload_n hx hb dX4_read_19 rfl (lv_at hl 0 rfl) ?_
    refine va_get (D := D) (ci := 4) (v := .ref (ad 3)) (C := RX4) (T := TX4) (N := 9) hx hb ht inX4 hown hK hP 0 g_MB rfl 1 (by decide) (ht _ mw_160) (fun _ h9 => h9) rfl dX4_read_20 ?_
    refine lv_aload_n hx hb dX4_read_23 rfl (lv_at hl 0 rfl) ?_
    refine va_get (D := D) (ci := 4) (v := .int (gF σ 0 6)) (C := RX4) (T := TX4) (N := 9) hx hb ht inX4 hown hK hP 0 g_MB rfl 6 (by decide) (ht _ mw_165) (fun _ h9 => h9) rfl dX4_read_24 ?_
    refine va_aldq (i := gF σ 0 6) hx hb hK hP 3 1 g_methods rfl (IB.mc_in hI hlt) dX4_read_27 ?_
    refine W.eq (g2 := F0 m 28 ls (.ref (ad (pMe ((gF σ 0 6).toNatClampNeg))) :: [])) rfl ?_
    refine lv_astore_n (lv' := [(1, .ref (ad (pMe ((gF σ 0 6).toNatClampNeg)))), (0, .ref (ad 0))]) hx hb dX4_read_28 rfl hl (by decide) rfl (fun ls hl => ?_)
    refine lv_aload_n hx hb dX4_read_29 rfl (lv_at hl 0 rfl) ?_
    refine kB_v (va_runV (As := []) (rest := []) CF (k_clear l D ad kk _ σ ((gF σ 0 6).toNatClampNeg) (vin_lt (IB.mc_in hI hlt))) ⟨callB_of 0 hts (gT mw_291) rfl rfl rfl (ht _ mw_3) (ht _ mw_288) (by decide +kernel) ⟨Nat.le_of_ble_eq_true rfl, Nat.le_of_ble_eq_true rfl⟩, (ht _ mw_289), (ht _ mw_290)⟩ (preV_B hK hP hD hE hS (ci := 1) rfl rfl (g_Me (vin_lt (IB.mc_in hI hlt)))) rfl rfl hl.1 rfl (lv_room (Nat.le_of_ble_eq_true rfl)) dX4_read_30 ⟨Nat.le_of_ble_eq_true rfl, Nat.le_of_ble_eq_true rfl⟩) hS (fun σ3 H locs hw hP hD hS => ?_)
    rw [← hw, vb_eq] at hT
    have h_r2 := hw
    have hIc := IP.clear hI.ip h_r2
    refine lv_aload_n hx hb dX4_read_33 rfl (lv_at hl 1 rfl) ?_
    refine va_get (D := D) (ci := 4) (v := .ref (ad 1)) (C := RX4) (T := TX4) (N := 9) hx hb ht inX4 hown hK hP 0 g_MB rfl 0 (by decide) (ht _ mw_159) (fun _ h9 => h9) rfl dX4_read_34 ?_
    refine lv_aload_n hx hb dX4_read_37 rfl (lv_at hl 0 rfl) ?_
    refine kB_i (va_runV (As := [.ref (ad (pMe ((gF σ 0 6).toNatClampNeg)))]) (rest := []) CF (k_readText l D ad kk _ σ3 ((gF σ 0 6).toNatClampNeg) (vin_lt (IB.mc_in hI hlt)) hIc) ⟨callB_of 1 hts (gT mw_295) rfl rfl rfl (ht _ mw_2) (ht _ mw_292) (by decide +kernel) ⟨Nat.le_of_ble_eq_true rfl, Nat.le_of_ble_eq_true rfl⟩, (ht _ mw_293), (ht _ mw_294)⟩ (preV_B hK hP hD hE hS (ci := 2) rfl rfl g_Pad) rfl rfl hl.1 rfl (lv_room (Nat.le_of_ble_eq_true rfl)) dX4_read_38 ⟨Nat.le_of_ble_eq_true rfl, Nat.le_of_ble_eq_true rfl⟩) hS (fun r4 σ5 H locs hw hP hD hS => ?_)
    rw [← hw, pb_mk] at hT
    have h_r4 := hw
    refine lv_istore_n (lv' := [(2, .int r4), (1, .ref (ad (pMe ((gF σ 0 6).toNatClampNeg)))), (0, .ref (ad 0))]) hx hb dX4_read_41 rfl hl (by decide) rfl (fun ls hl => ?_)
    refine lv_aload_n hx hb dX4_read_42 rfl (lv_at hl 2 rfl) ?_
    refine va_get (D := D) (ci := 4) (v := .ref (ad 1)) (C := RX4) (T := TX4) (N := 9) hx hb ht inX4 hown hK hP 0 g_MB rfl 0 (by decide) (ht _ mw_159) (fun _ h9 => h9) rfl dX4_read_43 ?_
    refine lv_iconst (v := 0) hx hb dX4_read_46 (by decide) ?_
    refine va_put (D := D) (ci := 2) (v := .int 0) (ty := .int) (C := RX2) (T := TX2) (N := 3) hx hb ht inX2 tyX2 tyX2_ok nmX2 hown hK hP hD hS 1 g_Pad rfl 1 (by decide) (ht _ mw_32) (fun _ h9 => h9) rfl (by decide +kernel) rfl rfl (Nat.le_of_ble_eq_true rfl) dX4_read_47 (fun H locs hP hD hS => ?_)
    rw [s_Pad_1] at hP hD
    refine lv_iload_n hx hb dX4_read_50 rfl (lv_at hl 0 rfl) ?_
    refine lv_if_ne (tgt := 64) hx hb dX4_read_51 (by decide) (fun c6 => ?_) (fun c6 => ?_)
    · rw [if_neg c6] at hT
      refine lv_aload_n hx hb dX4_read_64 rfl (lv_at hl 2 rfl) ?_
      refine lv_dup hx hb dX4_read_65 rfl ?_
      refine va_get (D := D) (ci := 4) (v := .int (gF (sF σ5 1 1 0) 0 6)) (C := RX4) (T := TX4) (N := 9) hx hb ht inX4 hown hK hP 0 g_MB rfl 6 (by decide) (ht _ mw_165) (fun _ h9 => h9) rfl dX4_read_66 ?_
      refine lv_iconst (v := 1) hx hb dX4_read_69 (by decide) ?_
      refine lv_iadd hx hb dX4_read_70 ?_
      refine va_put (D := D) (ci := 4) (v := .int ((gF (sF σ5 1 1 0) 0 6) + 1)) (ty := .int) (C := RX4) (T := TX4) (N := 9) hx hb ht inX4 tyX4 tyX4_ok nmX4 hown hK hP hD hS 0 g_MB rfl 6 (by decide) (ht _ mw_165) (fun _ h9 => h9) rfl (by decide +kernel) rfl rfl (Nat.le_of_ble_eq_true rfl) dX4_read_71 (fun H locs hP hD hS => ?_)
      rw [s_MB_6] at hP hD
      refine lv_aload_n hx hb dX4_read_74 rfl (lv_at hl 2 rfl) ?_
      refine va_get (D := D) (ci := 4) (v := .int (gF (sF (sF σ5 1 1 0) 0 6 ((gF (sF σ5 1 1 0) 0 6) + 1)) 0 6)) (C := RX4) (T := TX4) (N := 9) hx hb ht inX4 hown hK hP 0 g_MB rfl 6 (by decide) (ht _ mw_165) (fun _ h9 => h9) rfl dX4_read_75 ?_
      refine lv_iconst (v := 1) hx hb dX4_read_78 (by decide) ?_
      refine lv_isub hx hb dX4_read_79 ?_
      refine W.widen (k := 1) (n := 6) (by decide) (by decide) ?_
      exact vx_ret (W.iret (v := (gF (sF (sF σ5 1 1 0) 0 6 ((gF (sF σ5 1 1 0) 0 6) + 1)) 0 6) - 1) hx hb hr (fun t ht hW => ⟨⟨(gF (sF (sF σ5 1 1 0) 0 6 ((gF (sF σ5 1 1 0) 0 6) + 1)) 0 6) - 1, (sF (sF σ5 1 1 0) 0 6 ((gF (sF σ5 1 1 0) 0 6) + 1)), rfl, hT, by rw [ht]; exact hP, va_K.moved hW.alike hK, hD⟩, hS.F ht⟩) hS.2.2 dX4_read_80)
    · rw [if_pos c6] at hT
      refine lv_iconst (v := (-1)) hx hb dX4_read_54 (by decide) ?_
      refine lv_aload_n hx hb dX4_read_55 rfl (lv_at hl 2 rfl) ?_
      refine va_get (D := D) (ci := 4) (v := .ref (ad 1)) (C := RX4) (T := TX4) (N := 9) hx hb ht inX4 hown hK hP 0 g_MB rfl 0 (by decide) (ht _ mw_159) (fun _ h9 => h9) rfl dX4_read_56 ?_
      refine va_get (D := D) (ci := 2) (v := .int (gF (sF σ5 1 1 0) 1 2)) (C := RX2) (T := TX2) (N := 3) hx hb ht inX2 hown hK hP 1 g_Pad rfl 2 (by decide) (ht _ mw_35) (fun _ h9 => h9) rfl dX4_read_59 ?_
      refine lv_isub hx hb dX4_read_62 ?_
      refine W.widen (k := 1) (n := 6) (by decide) (by decide) ?_
      exact vx_ret (W.iret (v := (-1) - (gF (sF σ5 1 1 0) 1 2)) hx hb hr (fun t ht hW => ⟨⟨(-1) - (gF (sF σ5 1 1 0) 1 2), (sF σ5 1 1 0), rfl, hT, by rw [ht]; exact hP, va_K.moved hW.alike hK, hD⟩, hS.F ht⟩) hS.2.2 dX4_read_63)
  · rw [if_neg c1] at hT
    exact vx_throwS (own := RX4) (cls := "java/lang/IllegalStateException") (names := th_n) hx hb hl9 hown thf_IllegalStateException thf_n (ht _ mw_196) (ht _ mw_10) (hE.str (own := RX4) (k := 66) (tx := "there are twelve methods") (by decide +kernel)).choose_spec (vx_hat (B := th_B "java/lang/IllegalStateException") (fun w hw => ht w (thw_IllegalStateException w hw)) thb_IllegalStateException (hE.th (by decide +kernel))) (thg_IllegalStateException _) hE.1 hE.2.1 hS (hl.1.trans hml.symm) dX4_read_9 dX4_read_12 dX4_read_13 dX4_read_15 dX4_read_18 (fun x hx => (hEx x hx).elim) (Nat.le_of_ble_eq_true rfl) (Nat.le_of_ble_eq_true rfl) (Nat.le_of_ble_eq_true rfl) (Nat.le_of_ble_eq_true rfl) hlocks (fun t ha hsz hk => xB_end hT hK hP hD hS ha hsz hk) hS.2.2 (by decide) (by decide)
set_option maxHeartbeats 4000000 in
set_option maxRecDepth 100000 in
theorem k_uses (l : Launch) (hl9 : l.stackTraces = false) (D : va_G) (ad : Nat → Nat) (kk : Nat → ClassId) (sz : Nat) (σ : St) (p1 : Int32) (p2 : Int32) (hI : IB σ) : vx_Met l yX4_uses wsX4_uses { frames := 8, cells := 2, slots := 12, locals := 132 } (va_Pc [.ref (ad 0), .int p1, .int p2] (PB D ad kk sz σ)) (va_Qi (fun r u => .ok r = M_uses σ p1 p2 ∧ u = σ) (QB D ad kk sz) (aL 96 ad sz)) (XB (M_uses σ p1 p2) D ad kk sz σ) 2 12 (aL 96 ad sz) := by
  refine vx_ofW (cc := cX4_uses) (maxL := 4) (ret := (some .int)) (by decide) rfl ?_
  intro p e s m args below meth c s₁ B hml hEx hv
  obtain ⟨rfl, hsz, hP, hK, hD0, hE⟩ := hv
  have hx := B.exec
  have hb := B.bytes
  have hr := B.returns
  have hts := atoms_spec (ws := wsX4_uses) B.pre
  have hown : s.vm.findClass RX4 = some m.cls := findClass_of_methodNamed B.named
  have hlocks := B.notSynchronized
  subst hsz
  have hD : va_D (aL 96 ad s.heap.size) (wB ad kk σ) := aL_D hD0
  have hS : va_S (aL 96 ad s.heap.size) s.heap s.heap [] := va_S.rf
  have hl := lv_entry ([.ref (ad 0), .int p1, .int p2]) (n := 4) (Nat.le_of_ble_eq_true rfl)
  rw [lg_entry_eq]
  generalize (lg_sl ([.ref (ad 0), .int p1, .int p2]) ++ List.replicate (4 - (lg_sl ([.ref (ad 0), .int p1, .int p2])).length) Slot.unset).toArray = ls at hl ⊢
  have hl : lv_has ls 4 [(0, .ref (ad 0)), (1, .int p1), (2, .int p2)] := hl
  have CF : CallFix p m c cX4_uses 4 s ([.ref (ad 0), .int p1, .int p2] : List Value).toArray wsX4_uses RX4 := ⟨hx, hb, hml, hown, hts⟩
  have ht : ∀ w ∈ T0, w.before ([.ref (ad 0), .int p1, .int p2] : List Value).toArray s = true := fun w h => hts w (List.mem_cons_of_mem _ h)
  generalize hT : M_uses σ p1 p2 = T
  rw [M_uses] at hT
  refine lv_aload_n hx hb dX4_uses_0 rfl (lv_at hl 0 rfl) ?_
  refine lv_iload_n hx hb dX4_uses_1 rfl (lv_at hl 1 rfl) ?_
  refine kX_q (vx_runV (As := [.int p1]) (rest := []) CF (k_methodAt l hl9 D ad kk _ σ p1 hI) ⟨callB_of 1 hts (gT mw_348) rfl rfl rfl (ht _ mw_1) (ht _ mw_345) (by decide +kernel) ⟨Nat.le_of_ble_eq_true rfl, Nat.le_of_ble_eq_true rfl⟩, (ht _ mw_347), (ht _ ms_9)⟩ (preV_B hK hP hD hE hS (ci := 4) rfl rfl g_MB) rfl rfl hl.1 rfl (lv_room (Nat.le_of_ble_eq_true rfl)) dX4_uses_2 ⟨Nat.le_of_ble_eq_true rfl, Nat.le_of_ble_eq_true rfl⟩) hS hEx hlocks (by decide) (by decide) (fun E h => by rw [← h, xb_er] at hT; exact hT) (fun r1 u9 H locs hw hP hD hS => ?_)
  obtain ⟨r1, rfl, h_r1, e9⟩ := hw
  rw [e9] at hP hD
  have hi_r1 : r1 < 12 := (mAt_lt hI h_r1)
  refine W.eq (g2 := F0 m 5 ls (.ref (ad (pMe r1)) :: [])) rfl ?_
  rw [← h_r1, xb_ok] at hT
  refine lv_astore_n (lv' := [(3, .ref (ad (pMe r1))), (0, .ref (ad 0)), (1, .int p1), (2, .int p2)]) hx hb dX4_uses_5 rfl hl (by decide) rfl (fun ls hl => ?_)
  refine lv_iload_n hx hb dX4_uses_6 rfl (lv_at hl 3 rfl) ?_
  refine lv_bipush (v := 12) hx hb dX4_uses_7 (by decide) ?_
  refine kX_v (vx_runS (As := [.int p2, .int 12]) (rest := []) CF (k_checkPlace l hl9 D ad kk _ σ p2 12) ⟨callB_of 2 hts (gT mw_351) rfl rfl rfl (ht _ mw_1) (ht _ mw_349) (by decide +kernel) ⟨Nat.le_of_ble_eq_true rfl, Nat.le_of_ble_eq_true rfl⟩, (ht _ mw_350)⟩ (preS_B hK hP hD hE hS) rfl rfl hl.1 rfl (lv_room (Nat.le_of_ble_eq_true rfl)) dX4_uses_9 ⟨Nat.le_of_ble_eq_true rfl, Nat.le_of_ble_eq_true rfl⟩) hS hEx hlocks (by decide) (by decide) (fun E h => by rw [← h, xb_er] at hT; exact hT) (fun u9 H locs hw hP hD hS => ?_)
  obtain ⟨h_r2, e9⟩ := hw
  rw [e9] at hP hD
  rw [← h_r2, xb_ok] at hT
  have hk := h_r2
  refine lv_aload_n hx hb dX4_uses_12 rfl (lv_at hl 0 rfl) ?_
  refine va_get (D := D) (ci := 1) (v := .ref (ad (pMe r1 + 1))) (C := RX1) (T := TX1) (N := 9) hx hb ht inX1 hown hK hP (pMe r1) (g_Me hi_r1) rfl 0 (by decide) (ht _ mw_52) (fun _ h9 => h9) rfl dX4_uses_13 ?_
  refine lv_iload_n hx hb dX4_uses_16 rfl (lv_at hl 3 rfl) ?_
  refine va_iald (i := p2) hx hb hK hP (pMe r1 + 1) 0 (g_Ma hi_r1) rfl (vin_chk (N := 12) hk (by decide)) dX4_uses_17 ?_
  exact vx_ret (W.iret (v := gA σ (pMe r1 + 1) p2.toNatClampNeg) hx hb hr (fun t ht hW => ⟨⟨gA σ (pMe r1 + 1) p2.toNatClampNeg, σ, rfl, ⟨hT, rfl⟩, by rw [ht]; exact hP, va_K.moved hW.alike hK, hD⟩, hS.F ht⟩) hS.2.2 dX4_uses_18)
set_option maxHeartbeats 4000000 in
set_option maxRecDepth 100000 in
theorem k_object (l : Launch) (hl9 : l.stackTraces = false) (D : va_G) (ad : Nat → Nat) (kk : Nat → ClassId) (sz : Nat) (σ : St) : vx_Met l yX4_object wsX4_object { frames := 6, cells := 1, slots := 6, locals := 90 } (va_Pc [.ref (ad 0)] (PB D ad kk sz σ)) (va_Qi (fun r u => .ok (r, u) = M_object σ) (QB D ad kk sz) (aL 96 ad sz)) (XB (M_object σ) D ad kk sz σ) 1 6 (aL 96 ad sz) := by
  refine vx_ofW (cc := cX4_object) (maxL := 1) (ret := (some .int)) (by decide) rfl ?_
  intro p e s m args below meth c s₁ B hml hEx hv
  obtain ⟨rfl, hsz, hP, hK, hD0, hE⟩ := hv
  have hx := B.exec
  have hb := B.bytes
  have hr := B.returns
  have hts := atoms_spec (ws := wsX4_object) B.pre
  have hown : s.vm.findClass RX4 = some m.cls := findClass_of_methodNamed B.named
  have hlocks := B.notSynchronized
  subst hsz
  have hD : va_D (aL 96 ad s.heap.size) (wB ad kk σ) := aL_D hD0
  have hS : va_S (aL 96 ad s.heap.size) s.heap s.heap [] := va_S.rf
  have hl := lv_entry ([.ref (ad 0)]) (n := 1) (Nat.le_of_ble_eq_true rfl)
  rw [lg_entry_eq]
  generalize (lg_sl ([.ref (ad 0)]) ++ List.replicate (1 - (lg_sl ([.ref (ad 0)])).length) Slot.unset).toArray = ls at hl ⊢
  have hl : lv_has ls 1 [(0, .ref (ad 0))] := hl
  have CF : CallFix p m c cX4_object 1 s ([.ref (ad 0)] : List Value).toArray wsX4_object RX4 := ⟨hx, hb, hml, hown, hts⟩
  have ht : ∀ w ∈ T0, w.before ([.ref (ad 0)] : List Value).toArray s = true := fun w h => hts w (List.mem_cons_of_mem _ h)
  generalize hT : M_object σ = T
  rw [M_object] at hT
  refine lv_aload_n hx hb dX4_object_0 rfl (lv_at hl 0 rfl) ?_
  refine va_get (D := D) (ci := 4) (v := .int (gF σ 0 7)) (C := RX4) (T := TX4) (N := 9) hx hb ht inX4 hown hK hP 0 g_MB rfl 7 (by decide) (ht _ mw_166) (fun _ h9 => h9) rfl dX4_object_1 ?_
  refine lv_bipush (v := 10) hx hb dX4_object_4 (by decide) ?_
  refine lv_icmp_lt (tgt := 19) hx hb dX4_object_6 (by decide) (fun c1 => ?_) (fun c1 => ?_)
  · rw [if_pos c1] at hT
    refine lv_aload_n hx hb dX4_object_19 rfl (lv_at hl 0 rfl) ?_
    refine lv_dup hx hb dX4_object_20 rfl ?_
    refine va_get (D := D) (ci := 4) (v := .int (gF σ 0 7)) (C := RX4) (T := TX4) (N := 9) hx hb ht inX4 hown hK hP 0 g_MB rfl 7 (by decide) (ht _ mw_166) (fun _ h9 => h9) rfl dX4_object_21 ?_
    refine lv_iconst (v := 1) hx hb dX4_object_24 (by decide) ?_
    refine lv_iadd hx hb dX4_object_25 ?_
    refine va_put (D := D) (ci := 4) (v := .int ((gF σ 0 7) + 1)) (ty := .int) (C := RX4) (T := TX4) (N := 9) hx hb ht inX4 tyX4 tyX4_ok nmX4 hown hK hP hD hS 0 g_MB rfl 7 (by decide) (ht _ mw_166) (fun _ h9 => h9) rfl (by decide +kernel) rfl rfl (Nat.le_of_ble_eq_true rfl) dX4_object_26 (fun H locs hP hD hS => ?_)
    rw [s_MB_7] at hP hD
    refine lv_aload_n hx hb dX4_object_29 rfl (lv_at hl 0 rfl) ?_
    refine va_get (D := D) (ci := 4) (v := .int (gF (sF σ 0 7 ((gF σ 0 7) + 1)) 0 7)) (C := RX4) (T := TX4) (N := 9) hx hb ht inX4 hown hK hP 0 g_MB rfl 7 (by decide) (ht _ mw_166) (fun _ h9 => h9) rfl dX4_object_30 ?_
    refine lv_iconst (v := 1) hx hb dX4_object_33 (by decide) ?_
    refine lv_isub hx hb dX4_object_34 ?_
    refine W.widen (k := 1) (n := 6) (by decide) (by decide) ?_
    exact vx_ret (W.iret (v := (gF (sF σ 0 7 ((gF σ 0 7) + 1)) 0 7) - 1) hx hb hr (fun t ht hW => ⟨⟨(gF (sF σ 0 7 ((gF σ 0 7) + 1)) 0 7) - 1, (sF σ 0 7 ((gF σ 0 7) + 1)), rfl, hT, by rw [ht]; exact hP, va_K.moved hW.alike hK, hD⟩, hS.F ht⟩) hS.2.2 dX4_object_35)
  · rw [if_neg c1] at hT
    exact vx_throwS (own := RX4) (cls := "java/lang/IllegalStateException") (names := th_n) hx hb hl9 hown thf_IllegalStateException thf_n (ht _ mw_196) (ht _ mw_10) (hE.str (own := RX4) (k := 92) (tx := "there are ten objects") (by decide +kernel)).choose_spec (vx_hat (B := th_B "java/lang/IllegalStateException") (fun w hw => ht w (thw_IllegalStateException w hw)) thb_IllegalStateException (hE.th (by decide +kernel))) (thg_IllegalStateException _) hE.1 hE.2.1 hS (hl.1.trans hml.symm) dX4_object_9 dX4_object_12 dX4_object_13 dX4_object_15 dX4_object_18 (fun x hx => (hEx x hx).elim) (Nat.le_of_ble_eq_true rfl) (Nat.le_of_ble_eq_true rfl) (Nat.le_of_ble_eq_true rfl) (Nat.le_of_ble_eq_true rfl) hlocks (fun t ha hsz hk => xB_end hT hK hP hD hS ha hsz hk) hS.2.2 (by decide) (by decide)
set_option maxHeartbeats 4000000 in
set_option maxRecDepth 100000 in
theorem k_part (l : Launch) (hl9 : l.stackTraces = false) (D : va_G) (ad : Nat → Nat) (kk : Nat → ClassId) (sz : Nat) (σ : St) (p1 : Int32) (p2 : Int32) (hI : IB σ) : vx_Met l yX4_part wsX4_part { frames := 8, cells := 3, slots := 18, locals := 132 } (va_Pc [.ref (ad 0), .int p1, .int p2] (PB D ad kk sz σ)) (va_Qi (fun r u => .ok (r, u) = M_part σ p1 p2) (QB D ad kk sz) (aL 96 ad sz)) (XB (M_part σ p1 p2) D ad kk sz σ) 3 18 (aL 96 ad sz) := by
  refine vx_ofW (cc := cX4_part) (maxL := 4) (ret := (some .int)) (by decide) rfl ?_
  intro p e s m args below meth c s₁ B hml hEx hv
  obtain ⟨rfl, hsz, hP, hK, hD0, hE⟩ := hv
  have hx := B.exec
  have hb := B.bytes
  have hr := B.returns
  have hts := atoms_spec (ws := wsX4_part) B.pre
  have hown : s.vm.findClass RX4 = some m.cls := findClass_of_methodNamed B.named
  have hlocks := B.notSynchronized
  subst hsz
  have hD : va_D (aL 96 ad s.heap.size) (wB ad kk σ) := aL_D hD0
  have hS : va_S (aL 96 ad s.heap.size) s.heap s.heap [] := va_S.rf
  have hl := lv_entry ([.ref (ad 0), .int p1, .int p2]) (n := 4) (Nat.le_of_ble_eq_true rfl)
  rw [lg_entry_eq]
  generalize (lg_sl ([.ref (ad 0), .int p1, .int p2]) ++ List.replicate (4 - (lg_sl ([.ref (ad 0), .int p1, .int p2])).length) Slot.unset).toArray = ls at hl ⊢
  have hl : lv_has ls 4 [(0, .ref (ad 0)), (1, .int p1), (2, .int p2)] := hl
  have CF : CallFix p m c cX4_part 4 s ([.ref (ad 0), .int p1, .int p2] : List Value).toArray wsX4_part RX4 := ⟨hx, hb, hml, hown, hts⟩
  have ht : ∀ w ∈ T0, w.before ([.ref (ad 0), .int p1, .int p2] : List Value).toArray s = true := fun w h => hts w (List.mem_cons_of_mem _ h)
  generalize hT : M_part σ p1 p2 = T
  rw [M_part] at hT
  refine lv_aload_n hx hb dX4_part_0 rfl (lv_at hl 0 rfl) ?_
  refine lv_iload_n hx hb dX4_part_1 rfl (lv_at hl 1 rfl) ?_
  refine kX_q (vx_runV (As := [.int p1]) (rest := []) CF (k_pieceAt l hl9 D ad kk _ σ p1 hI) ⟨callB_of 1 hts (gT mw_386) rfl rfl rfl (ht _ mw_1) (ht _ mw_383) (by decide +kernel) ⟨Nat.le_of_ble_eq_true rfl, Nat.le_of_ble_eq_true rfl⟩, (ht _ mw_385), (ht _ ms_10)⟩ (preV_B hK hP hD hE hS (ci := 4) rfl rfl g_MB) rfl rfl hl.1 rfl (lv_room (Nat.le_of_ble_eq_true rfl)) dX4_part_2 ⟨Nat.le_of_ble_eq_true rfl, Nat.le_of_ble_eq_true rfl⟩) hS hEx hlocks (by decide) (by decide) (fun E h => by rw [← h, xb_er] at hT; exact hT) (fun r1 u9 H locs hw hP hD hS => ?_)
  obtain ⟨r1, rfl, h_r1, e9⟩ := hw
  rw [e9] at hP hD
  have hi_r1 : r1 < 10 := (pAt_lt hI h_r1)
  refine W.eq (g2 := F0 m 5 ls (.ref (ad (pPi r1)) :: [])) rfl ?_
  rw [← h_r1, xb_ok] at hT
  refine lv_astore_n (lv' := [(3, .ref (ad (pPi r1))), (0, .ref (ad 0)), (1, .int p1), (2, .int p2)]) hx hb dX4_part_5 rfl hl (by decide) rfl (fun ls hl => ?_)
  refine lv_iload_n hx hb dX4_part_6 rfl (lv_at hl 3 rfl) ?_
  refine lv_bipush (v := 10) hx hb dX4_part_7 (by decide) ?_
  refine kX_v (vx_runS (As := [.int p2, .int 10]) (rest := []) CF (k_checkPlace l hl9 D ad kk _ σ p2 10) ⟨callB_of 2 hts (gT mw_351) rfl rfl rfl (ht _ mw_1) (ht _ mw_349) (by decide +kernel) ⟨Nat.le_of_ble_eq_true rfl, Nat.le_of_ble_eq_true rfl⟩, (ht _ mw_350)⟩ (preS_B hK hP hD hE hS) rfl rfl hl.1 rfl (lv_room (Nat.le_of_ble_eq_true rfl)) dX4_part_9 ⟨Nat.le_of_ble_eq_true rfl, Nat.le_of_ble_eq_true rfl⟩) hS hEx hlocks (by decide) (by decide) (fun E h => by rw [← h, xb_er] at hT; exact hT) (fun u9 H locs hw hP hD hS => ?_)
  obtain ⟨h_r2, e9⟩ := hw
  rw [e9] at hP hD
  rw [← h_r2, xb_ok] at hT
  refine lv_aload_n hx hb dX4_part_12 rfl (lv_at hl 0 rfl) ?_
  refine va_get (D := D) (ci := 3) (v := .int (gF σ (pPi r1) 3)) (C := RX3) (T := TX3) (N := 8) hx hb ht inX3 hown hK hP (pPi r1) (g_Pi hi_r1) rfl 3 (by decide) (ht _ mw_106) (fun _ h9 => h9) rfl dX4_part_13 ?_
  refine lv_bipush (v := 8) hx hb dX4_part_16 (by decide) ?_
  refine lv_icmp_lt (tgt := 31) hx hb dX4_part_18 (by decide) (fun c3 => ?_) (fun c3 => ?_)
  · rw [if_pos c3] at hT
    have hlt := c3
    refine lv_aload_n hx hb dX4_part_31 rfl (lv_at hl 0 rfl) ?_
    refine lv_iload_n hx hb dX4_part_32 rfl (lv_at hl 3 rfl) ?_
    refine kB_i (va_runV (As := [.int p2]) (rest := []) CF (k_addPart l D ad kk _ σ r1 p2 hi_r1 (IB.part_in hI hi_r1 hlt)) ⟨callB_of 1 hts (gT mw_391) rfl rfl rfl (ht _ mw_4) (ht _ mw_388) (by decide +kernel) ⟨Nat.le_of_ble_eq_true rfl, Nat.le_of_ble_eq_true rfl⟩, (ht _ mw_389), (ht _ mw_390)⟩ (preV_B hK hP hD hE hS (ci := 3) rfl rfl (g_Pi hi_r1)) rfl rfl hl.1 rfl (lv_room (Nat.le_of_ble_eq_true rfl)) dX4_part_33 ⟨Nat.le_of_ble_eq_true rfl, Nat.le_of_ble_eq_true rfl⟩) hS (fun r4 σ5 H locs hw hP hD hS => ?_)
    rw [← hw, pb_mk] at hT
    have h_r4 := hw
    refine W.widen (k := 3) (n := 18) (by decide) (by decide) ?_
    exact vx_ret (W.iret (v := r4) hx hb hr (fun t ht hW => ⟨⟨r4, σ5, rfl, hT, by rw [ht]; exact hP, va_K.moved hW.alike hK, hD⟩, hS.F ht⟩) hS.2.2 dX4_part_36)
  · rw [if_neg c3] at hT
    exact vx_throwS (own := RX4) (cls := "java/lang/IllegalStateException") (names := th_n) hx hb hl9 hown thf_IllegalStateException thf_n (ht _ mw_196) (ht _ mw_10) (hE.str (own := RX4) (k := 101) (tx := "the object has eight parts") (by decide +kernel)).choose_spec (vx_hat (B := th_B "java/lang/IllegalStateException") (fun w hw => ht w (thw_IllegalStateException w hw)) thb_IllegalStateException (hE.th (by decide +kernel))) (thg_IllegalStateException _) hE.1 hE.2.1 hS (hl.1.trans hml.symm) dX4_part_21 dX4_part_24 dX4_part_25 dX4_part_27 dX4_part_30 (fun x hx => (hEx x hx).elim) (Nat.le_of_ble_eq_true rfl) (Nat.le_of_ble_eq_true rfl) (Nat.le_of_ble_eq_true rfl) (Nat.le_of_ble_eq_true rfl) hlocks (fun t ha hsz hk => xB_end hT hK hP hD hS ha hsz hk) hS.2.2 (by decide) (by decide)
set_option maxHeartbeats 4000000 in
set_option maxRecDepth 100000 in
theorem k_right (l : Launch) (hl9 : l.stackTraces = false) (D : va_G) (ad : Nat → Nat) (kk : Nat → ClassId) (sz : Nat) (σ : St) (p1 : Int32) (p2 : Int32) (p3 : Int32) (hI : IB σ) : vx_Met l yX4_right wsX4_right { frames := 8, cells := 2, slots := 12, locals := 132 } (va_Pc [.ref (ad 0), .int p1, .int p2, .int p3] (PB D ad kk sz σ)) (va_Qi (fun r u => .ok (r, u) = M_right σ p1 p2 p3) (QB D ad kk sz) (aL 96 ad sz)) (XB (M_right σ p1 p2 p3) D ad kk sz σ) 2 12 (aL 96 ad sz) := by
  refine vx_ofW (cc := cX4_right) (maxL := 6) (ret := (some .boolean)) (by decide) rfl ?_
  intro p e s m args below meth c s₁ B hml hEx hv
  obtain ⟨rfl, hsz, hP, hK, hD0, hE⟩ := hv
  have hx := B.exec
  have hb := B.bytes
  have hr := B.returns
  have hts := atoms_spec (ws := wsX4_right) B.pre
  have hown : s.vm.findClass RX4 = some m.cls := findClass_of_methodNamed B.named
  have hlocks := B.notSynchronized
  subst hsz
  have hD : va_D (aL 96 ad s.heap.size) (wB ad kk σ) := aL_D hD0
  have hS : va_S (aL 96 ad s.heap.size) s.heap s.heap [] := va_S.rf
  have hl := lv_entry ([.ref (ad 0), .int p1, .int p2, .int p3]) (n := 6) (Nat.le_of_ble_eq_true rfl)
  rw [lg_entry_eq]
  generalize (lg_sl ([.ref (ad 0), .int p1, .int p2, .int p3]) ++ List.replicate (6 - (lg_sl ([.ref (ad 0), .int p1, .int p2, .int p3])).length) Slot.unset).toArray = ls at hl ⊢
  have hl : lv_has ls 6 [(0, .ref (ad 0)), (1, .int p1), (2, .int p2), (3, .int p3)] := hl
  have CF : CallFix p m c cX4_right 6 s ([.ref (ad 0), .int p1, .int p2, .int p3] : List Value).toArray wsX4_right RX4 := ⟨hx, hb, hml, hown, hts⟩
  have ht : ∀ w ∈ T0, w.before ([.ref (ad 0), .int p1, .int p2, .int p3] : List Value).toArray s = true := fun w h => hts w (List.mem_cons_of_mem _ h)
  generalize hT : M_right σ p1 p2 p3 = T
  rw [M_right] at hT
  refine lv_iload_n hx hb dX4_right_0 rfl (lv_at hl 1 rfl) ?_
  refine lv_bipush (v := 8) hx hb dX4_right_1 (by decide) ?_
  refine kX_v (vx_runS (As := [.int p1, .int 8]) (rest := []) CF (k_checkPlace l hl9 D ad kk _ σ p1 8) ⟨callB_of 2 hts (gT mw_351) rfl rfl rfl (ht _ mw_1) (ht _ mw_349) (by decide +kernel) ⟨Nat.le_of_ble_eq_true rfl, Nat.le_of_ble_eq_true rfl⟩, (ht _ mw_350)⟩ (preS_B hK hP hD hE hS) rfl rfl hl.1 rfl (lv_room (Nat.le_of_ble_eq_true rfl)) dX4_right_3 ⟨Nat.le_of_ble_eq_true rfl, Nat.le_of_ble_eq_true rfl⟩) hS hEx hlocks (by decide) (by decide) (fun E h => by rw [← h, xb_er] at hT; exact hT) (fun u9 H locs hw hP hD hS => ?_)
  obtain ⟨h_r1, e9⟩ := hw
  rw [e9] at hP hD
  rw [← h_r1, xb_ok] at hT
  refine lv_aload_n hx hb dX4_right_6 rfl (lv_at hl 0 rfl) ?_
  refine lv_iload_n hx hb dX4_right_7 rfl (lv_at hl 2 rfl) ?_
  refine kX_q (vx_runV (As := [.int p2]) (rest := []) CF (k_methodAt l hl9 D ad kk _ σ p2 hI) ⟨callB_of 1 hts (gT mw_348) rfl rfl rfl (ht _ mw_1) (ht _ mw_345) (by decide +kernel) ⟨Nat.le_of_ble_eq_true rfl, Nat.le_of_ble_eq_true rfl⟩, (ht _ mw_347), (ht _ ms_9)⟩ (preV_B hK hP hD hE hS (ci := 4) rfl rfl g_MB) rfl rfl hl.1 rfl (lv_room (Nat.le_of_ble_eq_true rfl)) dX4_right_8 ⟨Nat.le_of_ble_eq_true rfl, Nat.le_of_ble_eq_true rfl⟩) hS hEx hlocks (by decide) (by decide) (fun E h => by rw [← h, xb_er] at hT; exact hT) (fun r2 u9 H locs hw hP hD hS => ?_)
  obtain ⟨r2, rfl, h_r2, e9⟩ := hw
  rw [e9] at hP hD
  have hi_r2 : r2 < 12 := (mAt_lt hI h_r2)
  refine W.eq (g2 := F0 m 11 ls (.ref (ad (pMe r2)) :: [])) rfl ?_
  rw [← h_r2, xb_ok] at hT
  refine lv_astore (lv' := [(4, .ref (ad (pMe r2))), (0, .ref (ad 0)), (1, .int p1), (2, .int p2), (3, .int p3)]) hx hb dX4_right_11 hl (by decide) rfl (fun ls hl => ?_)
  refine lv_aload hx hb dX4_right_13 (lv_at hl 0 rfl) ?_
  refine va_get (D := D) (ci := 1) (v := .int (gF σ (pMe r2) 7)) (C := RX1) (T := TX1) (N := 9) hx hb ht inX1 hown hK hP (pMe r2) (g_Me hi_r2) rfl 7 (by decide) (ht _ mw_72) (fun _ h9 => h9) rfl dX4_right_15 ?_
  refine lv_iload_n hx hb dX4_right_18 rfl (lv_at hl 2 rfl) ?_
  refine vp_callSi (W.runS (As := [.int (gF σ (pMe r2) 7), .int p1]) (rest := []) CF (k_has l (gF σ (pMe r2) 7) p1) ⟨callB_of 2 hts (gT mw_402) rfl rfl rfl (ht _ mw_1) (ht _ mw_400) (by decide +kernel) ⟨Nat.le_of_ble_eq_true rfl, Nat.le_of_ble_eq_true rfl⟩, (ht _ mw_401)⟩ preEq rfl rfl hl.1 rfl (lv_room (Nat.le_of_ble_eq_true rfl)) dX4_right_19 ⟨Nat.le_of_ble_eq_true rfl, Nat.le_of_ble_eq_true rfl⟩) (fun r3 h_r3 => ?_)
  obtain rfl := h_r3
  refine lv_istore (lv' := [(5, .int (M_has (gF σ (pMe r2) 7) p1)), (4, .ref (ad (pMe r2))), (0, .ref (ad 0)), (1, .int p1), (2, .int p2), (3, .int p3)]) hx hb dX4_right_22 hl (by decide) rfl (fun ls hl => ?_)
  refine lv_aload hx hb dX4_right_24 (lv_at hl 1 rfl) ?_
  refine lv_aload hx hb dX4_right_26 (lv_at hl 1 rfl) ?_
  refine va_get (D := D) (ci := 1) (v := .int (gF σ (pMe r2) 7)) (C := RX1) (T := TX1) (N := 9) hx hb ht inX1 hown hK hP (pMe r2) (g_Me hi_r2) rfl 7 (by decide) (ht _ mw_72) (fun _ h9 => h9) rfl dX4_right_28 ?_
  refine lv_iload_n hx hb dX4_right_31 rfl (lv_at hl 3 rfl) ?_
  refine lv_iload_n hx hb dX4_right_32 rfl (lv_at hl 5 rfl) ?_
  refine vp_callSi (W.runS (As := [.int (gF σ (pMe r2) 7), .int p1, .int p3]) (rest := [.ref (ad (pMe r2))]) CF (k_with l (gF σ (pMe r2) 7) p1 p3) ⟨callB_of 3 hts (gT mw_325) rfl rfl rfl (ht _ mw_1) (ht _ mw_403) (by decide +kernel) ⟨Nat.le_of_ble_eq_true rfl, Nat.le_of_ble_eq_true rfl⟩, (ht _ mw_324)⟩ preEq rfl rfl hl.1 rfl (lv_room (Nat.le_of_ble_eq_true rfl)) dX4_right_33 ⟨Nat.le_of_ble_eq_true rfl, Nat.le_of_ble_eq_true rfl⟩) (fun r4 h_r4 => ?_)
  obtain rfl := h_r4
  refine va_put (D := D) (ci := 1) (v := .int (M_with (gF σ (pMe r2) 7) p1 p3)) (ty := .int) (C := RX1) (T := TX1) (N := 9) hx hb ht inX1 tyX1 tyX1_ok nmX1 hown hK hP hD hS (pMe r2) (g_Me hi_r2) rfl 7 (by decide) (ht _ mw_72) (fun _ h9 => h9) rfl (by decide +kernel) rfl rfl (Nat.le_of_ble_eq_true rfl) dX4_right_36 (fun H locs hP hD hS => ?_)
  rw [s_Me_7 hi_r2] at hP hD
  refine lv_iload hx hb dX4_right_39 (lv_at hl 0 rfl) ?_
  refine lv_iload_n hx hb dX4_right_41 rfl (lv_at hl 5 rfl) ?_
  refine lv_icmp_eq (tgt := 49) hx hb dX4_right_42 (by decide) (fun c5 => ?_) (fun c5 => ?_)
  · rw [if_pos c5] at hT
    refine lv_iconst (v := 0) hx hb dX4_right_49 (by decide) ?_
    exact vx_ret (W.zret (v := 0) hx hb hr rfl (fun t ht hW => ⟨⟨0, (sF σ (pMe r2) 7 (M_with (gF σ (pMe r2) 7) p1 p3)), rfl, hT, by rw [ht]; exact hP, va_K.moved hW.alike hK, hD⟩, hS.F ht⟩) hS.2.2 dX4_right_50)
  · rw [if_neg c5] at hT
    refine lv_iconst (v := 1) hx hb dX4_right_45 (by decide) ?_
    refine lv_goto (tgt := 50) hx hb dX4_right_46 (by decide) ?_
    exact vx_ret (W.zret (v := 1) hx hb hr rfl (fun t ht hW => ⟨⟨1, (sF σ (pMe r2) 7 (M_with (gF σ (pMe r2) 7) p1 p3)), rfl, hT, by rw [ht]; exact hP, va_K.moved hW.alike hK, hD⟩, hS.F ht⟩) hS.2.2 dX4_right_50)
set_option maxHeartbeats 4000000 in
set_option maxRecDepth 100000 in
theorem k_trial (l : Launch) (hl9 : l.stackTraces = false) (D : va_G) (ad : Nat → Nat) (kk : Nat → ClassId) (sz : Nat) (σ : St) (p1 : Int32) (p2 : Int32) (p3 : Int32) (hI : IB σ) : vx_Met l yX4_trial wsX4_trial { frames := 8, cells := 2, slots := 12, locals := 132 } (va_Pc [.ref (ad 0), .int p1, .int p2, .int p3] (PB D ad kk sz σ)) (va_Qi (fun r u => .ok (r, u) = M_trial σ p1 p2 p3) (QB D ad kk sz) (aL 96 ad sz)) (XB (M_trial σ p1 p2 p3) D ad kk sz σ) 2 12 (aL 96 ad sz) := by
  refine vx_ofW (cc := cX4_trial) (maxL := 6) (ret := (some .boolean)) (by decide) rfl ?_
  intro p e s m args below meth c s₁ B hml hEx hv
  obtain ⟨rfl, hsz, hP, hK, hD0, hE⟩ := hv
  have hx := B.exec
  have hb := B.bytes
  have hr := B.returns
  have hts := atoms_spec (ws := wsX4_trial) B.pre
  have hown : s.vm.findClass RX4 = some m.cls := findClass_of_methodNamed B.named
  have hlocks := B.notSynchronized
  subst hsz
  have hD : va_D (aL 96 ad s.heap.size) (wB ad kk σ) := aL_D hD0
  have hS : va_S (aL 96 ad s.heap.size) s.heap s.heap [] := va_S.rf
  have hl := lv_entry ([.ref (ad 0), .int p1, .int p2, .int p3]) (n := 6) (Nat.le_of_ble_eq_true rfl)
  rw [lg_entry_eq]
  generalize (lg_sl ([.ref (ad 0), .int p1, .int p2, .int p3]) ++ List.replicate (6 - (lg_sl ([.ref (ad 0), .int p1, .int p2, .int p3])).length) Slot.unset).toArray = ls at hl ⊢
  have hl : lv_has ls 6 [(0, .ref (ad 0)), (1, .int p1), (2, .int p2), (3, .int p3)] := hl
  have CF : CallFix p m c cX4_trial 6 s ([.ref (ad 0), .int p1, .int p2, .int p3] : List Value).toArray wsX4_trial RX4 := ⟨hx, hb, hml, hown, hts⟩
  have ht : ∀ w ∈ T0, w.before ([.ref (ad 0), .int p1, .int p2, .int p3] : List Value).toArray s = true := fun w h => hts w (List.mem_cons_of_mem _ h)
  generalize hT : M_trial σ p1 p2 p3 = T
  rw [M_trial] at hT
  refine lv_aload_n hx hb dX4_trial_0 rfl (lv_at hl 0 rfl) ?_
  refine lv_iload_n hx hb dX4_trial_1 rfl (lv_at hl 1 rfl) ?_
  refine kX_q (vx_runV (As := [.int p1]) (rest := []) CF (k_methodAt l hl9 D ad kk _ σ p1 hI) ⟨callB_of 1 hts (gT mw_348) rfl rfl rfl (ht _ mw_1) (ht _ mw_345) (by decide +kernel) ⟨Nat.le_of_ble_eq_true rfl, Nat.le_of_ble_eq_true rfl⟩, (ht _ mw_347), (ht _ ms_9)⟩ (preV_B hK hP hD hE hS (ci := 4) rfl rfl g_MB) rfl rfl hl.1 rfl (lv_room (Nat.le_of_ble_eq_true rfl)) dX4_trial_2 ⟨Nat.le_of_ble_eq_true rfl, Nat.le_of_ble_eq_true rfl⟩) hS hEx hlocks (by decide) (by decide) (fun E h => by rw [← h, xb_er] at hT; exact hT) (fun r1 u9 H locs hw hP hD hS => ?_)
  obtain ⟨r1, rfl, h_r1, e9⟩ := hw
  rw [e9] at hP hD
  have hi_r1 : r1 < 12 := (mAt_lt hI h_r1)
  refine W.eq (g2 := F0 m 5 ls (.ref (ad (pMe r1)) :: [])) rfl ?_
  rw [← h_r1, xb_ok] at hT
  refine lv_astore (lv' := [(4, .ref (ad (pMe r1))), (0, .ref (ad 0)), (1, .int p1), (2, .int p2), (3, .int p3)]) hx hb dX4_trial_5 hl (by decide) rfl (fun ls hl => ?_)
  refine lv_iload_n hx hb dX4_trial_7 rfl (lv_at hl 3 rfl) ?_
  refine lv_bipush (v := 10) hx hb dX4_trial_8 (by decide) ?_
  refine kX_v (vx_runS (As := [.int p2, .int 10]) (rest := []) CF (k_checkPlace l hl9 D ad kk _ σ p2 10) ⟨callB_of 2 hts (gT mw_351) rfl rfl rfl (ht _ mw_1) (ht _ mw_349) (by decide +kernel) ⟨Nat.le_of_ble_eq_true rfl, Nat.le_of_ble_eq_true rfl⟩, (ht _ mw_350)⟩ (preS_B hK hP hD hE hS) rfl rfl hl.1 rfl (lv_room (Nat.le_of_ble_eq_true rfl)) dX4_trial_10 ⟨Nat.le_of_ble_eq_true rfl, Nat.le_of_ble_eq_true rfl⟩) hS hEx hlocks (by decide) (by decide) (fun E h => by rw [← h, xb_er] at hT; exact hT) (fun u9 H locs hw hP hD hS => ?_)
  obtain ⟨h_r2, e9⟩ := hw
  rw [e9] at hP hD
  rw [← h_r2, xb_ok] at hT
  refine lv_aload hx hb dX4_trial_13 (lv_at hl 0 rfl) ?_
  refine va_get (D := D) (ci := 1) (v := .int (gF σ (pMe r1) 8)) (C := RX1) (T := TX1) (N := 9) hx hb ht inX1 hown hK hP (pMe r1) (g_Me hi_r1) rfl 8 (by decide) (ht _ mw_73) (fun _ h9 => h9) rfl dX4_trial_15 ?_
  refine lv_iload_n hx hb dX4_trial_18 rfl (lv_at hl 3 rfl) ?_
  refine vp_callSi (W.runS (As := [.int (gF σ (pMe r1) 8), .int p2]) (rest := []) CF (k_has l (gF σ (pMe r1) 8) p2) ⟨callB_of 2 hts (gT mw_402) rfl rfl rfl (ht _ mw_1) (ht _ mw_400) (by decide +kernel) ⟨Nat.le_of_ble_eq_true rfl, Nat.le_of_ble_eq_true rfl⟩, (ht _ mw_401)⟩ preEq rfl rfl hl.1 rfl (lv_room (Nat.le_of_ble_eq_true rfl)) dX4_trial_19 ⟨Nat.le_of_ble_eq_true rfl, Nat.le_of_ble_eq_true rfl⟩) (fun r3 h_r3 => ?_)
  obtain rfl := h_r3
  refine lv_istore (lv' := [(5, .int (M_has (gF σ (pMe r1) 8) p2)), (4, .ref (ad (pMe r1))), (0, .ref (ad 0)), (1, .int p1), (2, .int p2), (3, .int p3)]) hx hb dX4_trial_22 hl (by decide) rfl (fun ls hl => ?_)
  refine lv_aload hx hb dX4_trial_24 (lv_at hl 1 rfl) ?_
  refine lv_aload hx hb dX4_trial_26 (lv_at hl 1 rfl) ?_
  refine va_get (D := D) (ci := 1) (v := .int (gF σ (pMe r1) 8)) (C := RX1) (T := TX1) (N := 9) hx hb ht inX1 hown hK hP (pMe r1) (g_Me hi_r1) rfl 8 (by decide) (ht _ mw_73) (fun _ h9 => h9) rfl dX4_trial_28 ?_
  refine lv_iload_n hx hb dX4_trial_31 rfl (lv_at hl 4 rfl) ?_
  refine lv_iload_n hx hb dX4_trial_32 rfl (lv_at hl 5 rfl) ?_
  refine vp_callSi (W.runS (As := [.int (gF σ (pMe r1) 8), .int p2, .int p3]) (rest := [.ref (ad (pMe r1))]) CF (k_with l (gF σ (pMe r1) 8) p2 p3) ⟨callB_of 3 hts (gT mw_325) rfl rfl rfl (ht _ mw_1) (ht _ mw_403) (by decide +kernel) ⟨Nat.le_of_ble_eq_true rfl, Nat.le_of_ble_eq_true rfl⟩, (ht _ mw_324)⟩ preEq rfl rfl hl.1 rfl (lv_room (Nat.le_of_ble_eq_true rfl)) dX4_trial_33 ⟨Nat.le_of_ble_eq_true rfl, Nat.le_of_ble_eq_true rfl⟩) (fun r4 h_r4 => ?_)
  obtain rfl := h_r4
  refine va_put (D := D) (ci := 1) (v := .int (M_with (gF σ (pMe r1) 8) p2 p3)) (ty := .int) (C := RX1) (T := TX1) (N := 9) hx hb ht inX1 tyX1 tyX1_ok nmX1 hown hK hP hD hS (pMe r1) (g_Me hi_r1) rfl 8 (by decide) (ht _ mw_73) (fun _ h9 => h9) rfl (by decide +kernel) rfl rfl (Nat.le_of_ble_eq_true rfl) dX4_trial_36 (fun H locs hP hD hS => ?_)
  rw [s_Me_8 hi_r1] at hP hD
  refine lv_iload hx hb dX4_trial_39 (lv_at hl 0 rfl) ?_
  exact vx_ret (W.zret (v := M_has (gF σ (pMe r1) 8) p2) hx hb hr (nb01 (has01 _ _)) (fun t ht hW => ⟨⟨M_has (gF σ (pMe r1) 8) p2, (sF σ (pMe r1) 8 (M_with (gF σ (pMe r1) 8) p2 p3)), rfl, hT, by rw [ht]; exact hP, va_K.moved hW.alike hK, hD⟩, hS.F ht⟩) hS.2.2 dX4_trial_41)
set_option maxHeartbeats 4000000 in
set_option maxRecDepth 100000 in
theorem k_reason (l : Launch) (hl9 : l.stackTraces = false) (D : va_G) (ad : Nat → Nat) (kk : Nat → ClassId) (sz : Nat) (σ : St) (p1 : Int32) (p2 : Int32) (p3 : Int32) (p4 : Int32) (hI : IB σ) : vx_Met l yX4_reason wsX4_reason { frames := 8, cells := 4, slots := 24, locals := 132 } (va_Pc [.ref (ad 0), .int p1, .int p2, .int p3, .int p4] (PB D ad kk sz σ)) (va_Qi (fun r u => .ok r = M_reason σ p1 p2 p3 p4 ∧ u = σ) (QB D ad kk sz) (aL 96 ad sz)) (XB (M_reason σ p1 p2 p3 p4) D ad kk sz σ) 4 24 (aL 96 ad sz) := by
  refine vx_ofW (cc := cX4_reason) (maxL := 7) (ret := (some .int)) (by decide) rfl ?_
  intro p e s m args below meth c s₁ B hml hEx hv
  obtain ⟨rfl, hsz, hP, hK, hD0, hE⟩ := hv
  have hx := B.exec
  have hb := B.bytes
  have hr := B.returns
  have hts := atoms_spec (ws := wsX4_reason) B.pre
  have hown : s.vm.findClass RX4 = some m.cls := findClass_of_methodNamed B.named
  have hlocks := B.notSynchronized
  subst hsz
  have hD : va_D (aL 96 ad s.heap.size) (wB ad kk σ) := aL_D hD0
  have hS : va_S (aL 96 ad s.heap.size) s.heap s.heap [] := va_S.rf
  have hl := lv_entry ([.ref (ad 0), .int p1, .int p2, .int p3, .int p4]) (n := 7) (Nat.le_of_ble_eq_true rfl)
  rw [lg_entry_eq]
  generalize (lg_sl ([.ref (ad 0), .int p1, .int p2, .int p3, .int p4]) ++ List.replicate (7 - (lg_sl ([.ref (ad 0), .int p1, .int p2, .int p3, .int p4])).length) Slot.unset).toArray = ls at hl ⊢
  have hl : lv_has ls 7 [(0, .ref (ad 0)), (1, .int p1), (2, .int p2), (3, .int p3), (4, .int p4)] := hl
  have CF : CallFix p m c cX4_reason 7 s ([.ref (ad 0), .int p1, .int p2, .int p3, .int p4] : List Value).toArray wsX4_reason RX4 := ⟨hx, hb, hml, hown, hts⟩
  have ht : ∀ w ∈ T0, w.before ([.ref (ad 0), .int p1, .int p2, .int p3, .int p4] : List Value).toArray s = true := fun w h => hts w (List.mem_cons_of_mem _ h)
  generalize hT : M_reason σ p1 p2 p3 p4 = T
  rw [M_reason] at hT
  refine lv_aload_n hx hb dX4_reason_0 rfl (lv_at hl 0 rfl) ?_
  refine lv_iload_n hx hb dX4_reason_1 rfl (lv_at hl 1 rfl) ?_
  refine kX_q (vx_runV (As := [.int p1]) (rest := []) CF (k_pieceAt l hl9 D ad kk _ σ p1 hI) ⟨callB_of 1 hts (gT mw_386) rfl rfl rfl (ht _ mw_1) (ht _ mw_383) (by decide +kernel) ⟨Nat.le_of_ble_eq_true rfl, Nat.le_of_ble_eq_true rfl⟩, (ht _ mw_385), (ht _ ms_10)⟩ (preV_B hK hP hD hE hS (ci := 4) rfl rfl g_MB) rfl rfl hl.1 rfl (lv_room (Nat.le_of_ble_eq_true rfl)) dX4_reason_2 ⟨Nat.le_of_ble_eq_true rfl, Nat.le_of_ble_eq_true rfl⟩) hS hEx hlocks (by decide) (by decide) (fun E h => by rw [← h, xb_er] at hT; exact hT) (fun r1 u9 H locs hw hP hD hS => ?_)
  obtain ⟨r1, rfl, h_r1, e9⟩ := hw
  rw [e9] at hP hD
  have hi_r1 : r1 < 10 := (pAt_lt hI h_r1)
  refine W.eq (g2 := F0 m 5 ls (.ref (ad (pPi r1)) :: [])) rfl ?_
  rw [← h_r1, xb_ok] at hT
  refine lv_astore (lv' := [(5, .ref (ad (pPi r1))), (0, .ref (ad 0)), (1, .int p1), (2, .int p2), (3, .int p3), (4, .int p4)]) hx hb dX4_reason_5 hl (by decide) rfl (fun ls hl => ?_)
  refine lv_aload_n hx hb dX4_reason_7 rfl (lv_at hl 1 rfl) ?_
  refine lv_iload_n hx hb dX4_reason_8 rfl (lv_at hl 3 rfl) ?_
  refine kX_q (vx_runV (As := [.int p2]) (rest := []) CF (k_methodAt l hl9 D ad kk _ σ p2 hI) ⟨callB_of 1 hts (gT mw_348) rfl rfl rfl (ht _ mw_1) (ht _ mw_345) (by decide +kernel) ⟨Nat.le_of_ble_eq_true rfl, Nat.le_of_ble_eq_true rfl⟩, (ht _ mw_347), (ht _ ms_9)⟩ (preV_B hK hP hD hE hS (ci := 4) rfl rfl g_MB) rfl rfl hl.1 rfl (lv_room (Nat.le_of_ble_eq_true rfl)) dX4_reason_9 ⟨Nat.le_of_ble_eq_true rfl, Nat.le_of_ble_eq_true rfl⟩) hS hEx hlocks (by decide) (by decide) (fun E h => by rw [← h, xb_er] at hT; exact hT) (fun r2 u9 H locs hw hP hD hS => ?_)
  obtain ⟨r2, rfl, h_r2, e9⟩ := hw
  rw [e9] at hP hD
  have hi_r2 : r2 < 12 := (mAt_lt hI h_r2)
  refine W.eq (g2 := F0 m 12 ls (.ref (ad (pMe r2)) :: [])) rfl ?_
  rw [← h_r2, xb_ok] at hT
  refine lv_astore (lv' := [(6, .ref (ad (pMe r2))), (5, .ref (ad (pPi r1))), (0, .ref (ad 0)), (1, .int p1), (2, .int p2), (3, .int p3), (4, .int p4)]) hx hb dX4_reason_12 hl (by decide) rfl (fun ls hl => ?_)
  refine lv_iload_n hx hb dX4_reason_14 rfl (lv_at hl 5 rfl) ?_
  refine lv_bipush (v := 8) hx hb dX4_reason_15 (by decide) ?_
  refine kX_v (vx_runS (As := [.int p3, .int 8]) (rest := []) CF (k_checkPlace l hl9 D ad kk _ σ p3 8) ⟨callB_of 2 hts (gT mw_351) rfl rfl rfl (ht _ mw_1) (ht _ mw_349) (by decide +kernel) ⟨Nat.le_of_ble_eq_true rfl, Nat.le_of_ble_eq_true rfl⟩, (ht _ mw_350)⟩ (preS_B hK hP hD hE hS) rfl rfl hl.1 rfl (lv_room (Nat.le_of_ble_eq_true rfl)) dX4_reason_17 ⟨Nat.le_of_ble_eq_true rfl, Nat.le_of_ble_eq_true rfl⟩) hS hEx hlocks (by decide) (by decide) (fun E h => by rw [← h, xb_er] at hT; exact hT) (fun u9 H locs hw hP hD hS => ?_)
  obtain ⟨h_r3, e9⟩ := hw
  rw [e9] at hP hD
  rw [← h_r3, xb_ok] at hT
  refine lv_iload hx hb dX4_reason_20 (lv_at hl 6 rfl) ?_
  refine lv_iconst (v := 0) hx hb dX4_reason_22 (by decide) ?_
  refine kX_v (vx_runS (As := [.int p4, .int 0]) (rest := []) CF (k_checkHour l hl9 D ad kk _ σ p4 0) ⟨callB_of 2 hts (gT mw_420) rfl rfl rfl (ht _ mw_1) (ht _ mw_418) (by decide +kernel) ⟨Nat.le_of_ble_eq_true rfl, Nat.le_of_ble_eq_true rfl⟩, (ht _ mw_419)⟩ (preS_B hK hP hD hE hS) rfl rfl hl.1 rfl (lv_room (Nat.le_of_ble_eq_true rfl)) dX4_reason_23 ⟨Nat.le_of_ble_eq_true rfl, Nat.le_of_ble_eq_true rfl⟩) hS hEx hlocks (by decide) (by decide) (fun E h => by rw [← h, xb_er] at hT; exact hT) (fun u9 H locs hw hP hD hS => ?_)
  obtain ⟨h_r4, e9⟩ := hw
  rw [e9] at hP hD
  rw [← h_r4, xb_ok] at hT
  refine lv_aload_n hx hb dX4_reason_26 rfl (lv_at hl 2 rfl) ?_
  refine lv_aload hx hb dX4_reason_27 (lv_at hl 1 rfl) ?_
  refine lv_aload hx hb dX4_reason_29 (lv_at hl 0 rfl) ?_
  refine lv_iload_n hx hb dX4_reason_31 rfl (lv_at hl 5 rfl) ?_
  refine lv_iload hx hb dX4_reason_32 (lv_at hl 6 rfl) ?_
  refine kB_i (va_runV (As := [.ref (ad (pPi r1)), .ref (ad (pMe r2)), .int p3, .int p4]) (rest := []) CF (k_reasonAgainst l D ad kk _ σ r1 r2 p3 p4 hi_r1 hi_r2 (hI.ptc hi_r1)) ⟨callB_of 4 hts (gT mw_426) rfl rfl rfl (ht _ mw_1) (ht _ mw_423) (by decide +kernel) ⟨Nat.le_of_ble_eq_true rfl, Nat.le_of_ble_eq_true rfl⟩, (ht _ mw_425), (ht _ ms_11)⟩ (preV_B hK hP hD hE hS (ci := 4) rfl rfl g_MB) rfl rfl hl.1 rfl (lv_room (Nat.le_of_ble_eq_true rfl)) dX4_reason_34 ⟨Nat.le_of_ble_eq_true rfl, Nat.le_of_ble_eq_true rfl⟩) hS (fun r5 u9 H locs hw hP hD hS => ?_)
  obtain ⟨rfl, e9⟩ := hw
  rw [e9] at hP hD
  exact vx_ret (W.iret (v := M_reasonAgainst σ r1 r2 p3 p4) hx hb hr (fun t ht hW => ⟨⟨M_reasonAgainst σ r1 r2 p3 p4, σ, rfl, ⟨hT, rfl⟩, by rw [ht]; exact hP, va_K.moved hW.alike hK, hD⟩, hS.F ht⟩) hS.2.2 dX4_reason_37)
end
section
set_option maxHeartbeats 4000000 in
set_option maxRecDepth 100000 in
theorem k_done (l : Launch) (hl9 : l.stackTraces = false) (D : va_G) (ad : Nat → Nat) (kk : Nat → ClassId) (sz : Nat) (σ : St) (p1 : Int32) (p2 : Int32) (p3 : Int32) (p4 : Int32) (p5 : Int32) (hI : IB σ) : vx_Met l yX4_done wsX4_done { frames := 8, cells := 6, slots := 36, locals := 132 } (va_Pc [.ref (ad 0), .int p1, .int p2, .int p3, .int p4, .int p5] (PB D ad kk sz σ)) (va_Qi (fun r u => .ok (r, u) = M_done σ p1 p2 p3 p4 p5) (QB D ad kk sz) (aL 96 ad sz)) (XB (M_done σ p1 p2 p3 p4 p5) D ad kk sz σ) 6 36 (aL 96 ad sz) := by
  refine vx_ofW (cc := cX4_done) (maxL := 9) (ret := (some .int)) (by decide) rfl ?_
  intro p e s m args below meth c s₁ B hml hEx hv
  obtain ⟨rfl, hsz, hP, hK, hD0, hE⟩ := hv
  have hx := B.exec
  have hb := B.bytes
  have hr := B.returns
  have hts := atoms_spec (ws := wsX4_done) B.pre
  have hown : s.vm.findClass RX4 = some m.cls := findClass_of_methodNamed B.named
  have hlocks := B.notSynchronized
  subst hsz
  have hD : va_D (aL 96 ad s.heap.size) (wB ad kk σ) := aL_D hD0
  have hS : va_S (aL 96 ad s.heap.size) s.heap s.heap [] := va_S.rf
  have hl := lv_entry ([.ref (ad 0), .int p1, .int p2, .int p3, .int p4, .int p5]) (n := 9) (Nat.le_of_ble_eq_true rfl)
  rw [lg_entry_eq]
  generalize (lg_sl ([.ref (ad 0), .int p1, .int p2, .int p3, .int p4, .int p5]) ++ List.replicate (9 - (lg_sl ([.ref (ad 0), .int p1, .int p2, .int p3, .int p4, .int p5])).length) Slot.unset).toArray = ls at hl ⊢
  have hl : lv_has ls 9 [(0, .ref (ad 0)), (1, .int p1), (2, .int p2), (3, .int p3), (4, .int p4), (5, .int p5)] := hl
  have CF : CallFix p m c cX4_done 9 s ([.ref (ad 0), .int p1, .int p2, .int p3, .int p4, .int p5] : List Value).toArray wsX4_done RX4 := ⟨hx, hb, hml, hown, hts⟩
  have ht : ∀ w ∈ T0, w.before ([.ref (ad 0), .int p1, .int p2, .int p3, .int p4, .int p5] : List Value).toArray s = true := fun w h => hts w (List.mem_cons_of_mem _ h)
  generalize hT : M_done σ p1 p2 p3 p4 p5 = T
  rw [M_done] at hT
  refine lv_aload_n hx hb dX4_done_0 rfl (lv_at hl 0 rfl) ?_
  refine lv_iload_n hx hb dX4_done_1 rfl (lv_at hl 1 rfl) ?_
  refine kX_q (vx_runV (As := [.int p1]) (rest := []) CF (k_pieceAt l hl9 D ad kk _ σ p1 hI) ⟨callB_of 1 hts (gT mw_386) rfl rfl rfl (ht _ mw_1) (ht _ mw_383) (by decide +kernel) ⟨Nat.le_of_ble_eq_true rfl, Nat.le_of_ble_eq_true rfl⟩, (ht _ mw_385), (ht _ ms_10)⟩ (preV_B hK hP hD hE hS (ci := 4) rfl rfl g_MB) rfl rfl hl.1 rfl (lv_room (Nat.le_of_ble_eq_true rfl)) dX4_done_2 ⟨Nat.le_of_ble_eq_true rfl, Nat.le_of_ble_eq_true rfl⟩) hS hEx hlocks (by decide) (by decide) (fun E h => by rw [← h, xb_er] at hT; exact hT) (fun r1 u9 H locs hw hP hD hS => ?_)
  obtain ⟨r1, rfl, h_r1, e9⟩ := hw
  rw [e9] at hP hD
  have hi_r1 : r1 < 10 := (pAt_lt hI h_r1)
  refine W.eq (g2 := F0 m 5 ls (.ref (ad (pPi r1)) :: [])) rfl ?_
  rw [← h_r1, xb_ok] at hT
  refine lv_astore (lv' := [(6, .ref (ad (pPi r1))), (0, .ref (ad 0)), (1, .int p1), (2, .int p2), (3, .int p3), (4, .int p4), (5, .int p5)]) hx hb dX4_done_5 hl (by decide) rfl (fun ls hl => ?_)
  refine lv_aload_n hx hb dX4_done_7 rfl (lv_at hl 1 rfl) ?_
  refine lv_iload_n hx hb dX4_done_8 rfl (lv_at hl 3 rfl) ?_
  refine kX_q (vx_runV (As := [.int p2]) (rest := []) CF (k_methodAt l hl9 D ad kk _ σ p2 hI) ⟨callB_of 1 hts (gT mw_348) rfl rfl rfl (ht _ mw_1) (ht _ mw_345) (by decide +kernel) ⟨Nat.le_of_ble_eq_true rfl, Nat.le_of_ble_eq_true rfl⟩, (ht _ mw_347), (ht _ ms_9)⟩ (preV_B hK hP hD hE hS (ci := 4) rfl rfl g_MB) rfl rfl hl.1 rfl (lv_room (Nat.le_of_ble_eq_true rfl)) dX4_done_9 ⟨Nat.le_of_ble_eq_true rfl, Nat.le_of_ble_eq_true rfl⟩) hS hEx hlocks (by decide) (by decide) (fun E h => by rw [← h, xb_er] at hT; exact hT) (fun r2 u9 H locs hw hP hD hS => ?_)
  obtain ⟨r2, rfl, h_r2, e9⟩ := hw
  rw [e9] at hP hD
  have hi_r2 : r2 < 12 := (mAt_lt hI h_r2)
  refine W.eq (g2 := F0 m 12 ls (.ref (ad (pMe r2)) :: [])) rfl ?_
  rw [← h_r2, xb_ok] at hT
  have hmA := h_r2
  refine lv_astore (lv' := [(7, .ref (ad (pMe r2))), (6, .ref (ad (pPi r1))), (0, .ref (ad 0)), (1, .int p1), (2, .int p2), (3, .int p3), (4, .int p4), (5, .int p5)]) hx hb dX4_done_12 hl (by decide) rfl (fun ls hl => ?_)
  refine lv_iload_n hx hb dX4_done_14 rfl (lv_at hl 5 rfl) ?_
  refine lv_bipush (v := 8) hx hb dX4_done_15 (by decide) ?_
  refine kX_v (vx_runS (As := [.int p3, .int 8]) (rest := []) CF (k_checkPlace l hl9 D ad kk _ σ p3 8) ⟨callB_of 2 hts (gT mw_351) rfl rfl rfl (ht _ mw_1) (ht _ mw_349) (by decide +kernel) ⟨Nat.le_of_ble_eq_true rfl, Nat.le_of_ble_eq_true rfl⟩, (ht _ mw_350)⟩ (preS_B hK hP hD hE hS) rfl rfl hl.1 rfl (lv_room (Nat.le_of_ble_eq_true rfl)) dX4_done_17 ⟨Nat.le_of_ble_eq_true rfl, Nat.le_of_ble_eq_true rfl⟩) hS hEx hlocks (by decide) (by decide) (fun E h => by rw [← h, xb_er] at hT; exact hT) (fun u9 H locs hw hP hD hS => ?_)
  obtain ⟨h_r3, e9⟩ := hw
  rw [e9] at hP hD
  rw [← h_r3, xb_ok] at hT
  refine lv_iload hx hb dX4_done_20 (lv_at hl 6 rfl) ?_
  refine lv_bipush (v := 8) hx hb dX4_done_22 (by decide) ?_
  refine kX_v (vx_runS (As := [.int p4, .int 8]) (rest := []) CF (k_checkPlace l hl9 D ad kk _ σ p4 8) ⟨callB_of 2 hts (gT mw_351) rfl rfl rfl (ht _ mw_1) (ht _ mw_349) (by decide +kernel) ⟨Nat.le_of_ble_eq_true rfl, Nat.le_of_ble_eq_true rfl⟩, (ht _ mw_350)⟩ (preS_B hK hP hD hE hS) rfl rfl hl.1 rfl (lv_room (Nat.le_of_ble_eq_true rfl)) dX4_done_24 ⟨Nat.le_of_ble_eq_true rfl, Nat.le_of_ble_eq_true rfl⟩) hS hEx hlocks (by decide) (by decide) (fun E h => by rw [← h, xb_er] at hT; exact hT) (fun u9 H locs hw hP hD hS => ?_)
  obtain ⟨h_r4, e9⟩ := hw
  rw [e9] at hP hD
  rw [← h_r4, xb_ok] at hT
  refine lv_aload hx hb dX4_done_27 (lv_at hl 1 rfl) ?_
  refine va_get (D := D) (ci := 3) (v := .int (gF σ (pPi r1) 4)) (C := RX3) (T := TX3) (N := 8) hx hb ht inX3 hown hK hP (pPi r1) (g_Pi hi_r1) rfl 4 (by decide) (ht _ mw_108) (fun _ h9 => h9) rfl dX4_done_29 ?_
  refine lv_bipush (v := 30) hx hb dX4_done_32 (by decide) ?_
  refine lv_icmp_lt (tgt := 47) hx hb dX4_done_34 (by decide) (fun c5 => ?_) (fun c5 => ?_)
  · rw [if_pos c5] at hT
    have hlt := c5
    refine lv_iload hx hb dX4_done_47 (lv_at hl 7 rfl) ?_
    refine lv_aload hx hb dX4_done_49 (lv_at hl 1 rfl) ?_
    refine va_get (D := D) (ci := 3) (v := .int (gF σ (pPi r1) 7)) (C := RX3) (T := TX3) (N := 8) hx hb ht inX3 hown hK hP (pPi r1) (g_Pi hi_r1) rfl 7 (by decide) (ht _ mw_114) (fun _ h9 => h9) rfl dX4_done_51 ?_
    refine kX_v (vx_runS (As := [.int p5, .int (gF σ (pPi r1) 7)]) (rest := []) CF (k_checkHour l hl9 D ad kk _ σ p5 (gF σ (pPi r1) 7)) ⟨callB_of 2 hts (gT mw_420) rfl rfl rfl (ht _ mw_1) (ht _ mw_418) (by decide +kernel) ⟨Nat.le_of_ble_eq_true rfl, Nat.le_of_ble_eq_true rfl⟩, (ht _ mw_419)⟩ (preS_B hK hP hD hE hS) rfl rfl hl.1 rfl (lv_room (Nat.le_of_ble_eq_true rfl)) dX4_done_54 ⟨Nat.le_of_ble_eq_true rfl, Nat.le_of_ble_eq_true rfl⟩) hS hEx hlocks (by decide) (by decide) (fun E h => by rw [← h, xb_er] at hT; exact hT) (fun u9 H locs hw hP hD hS => ?_)
    obtain ⟨h_r6, e9⟩ := hw
    rw [e9] at hP hD
    rw [← h_r6, xb_ok] at hT
    refine lv_aload_n hx hb dX4_done_57 rfl (lv_at hl 2 rfl) ?_
    refine lv_aload hx hb dX4_done_58 (lv_at hl 1 rfl) ?_
    refine lv_aload hx hb dX4_done_60 (lv_at hl 0 rfl) ?_
    refine lv_iload_n hx hb dX4_done_62 rfl (lv_at hl 5 rfl) ?_
    refine lv_iload hx hb dX4_done_63 (lv_at hl 7 rfl) ?_
    refine kB_i (va_runV (As := [.ref (ad (pPi r1)), .ref (ad (pMe r2)), .int p3, .int p5]) (rest := []) CF (k_reasonAgainst l D ad kk _ σ r1 r2 p3 p5 hi_r1 hi_r2 (hI.ptc hi_r1)) ⟨callB_of 4 hts (gT mw_426) rfl rfl rfl (ht _ mw_1) (ht _ mw_423) (by decide +kernel) ⟨Nat.le_of_ble_eq_true rfl, Nat.le_of_ble_eq_true rfl⟩, (ht _ mw_425), (ht _ ms_11)⟩ (preV_B hK hP hD hE hS (ci := 4) rfl rfl g_MB) rfl rfl hl.1 rfl (lv_room (Nat.le_of_ble_eq_true rfl)) dX4_done_65 ⟨Nat.le_of_ble_eq_true rfl, Nat.le_of_ble_eq_true rfl⟩) hS (fun r7 u9 H locs hw hP hD hS => ?_)
    obtain ⟨rfl, e9⟩ := hw
    rw [e9] at hP hD
    refine lv_istore (lv' := [(8, .int (M_reasonAgainst σ r1 r2 p3 p5)), (7, .ref (ad (pMe r2))), (6, .ref (ad (pPi r1))), (0, .ref (ad 0)), (1, .int p1), (2, .int p2), (3, .int p3), (4, .int p4), (5, .int p5)]) hx hb dX4_done_68 hl (by decide) rfl (fun ls hl => ?_)
    refine lv_iload hx hb dX4_done_70 (lv_at hl 0 rfl) ?_
    refine lv_if_eq (tgt := 78) hx hb dX4_done_72 (by decide) (fun c8 => ?_) (fun c8 => ?_)
    · rw [if_pos c8] at hT
      refine lv_aload hx hb dX4_done_78 (lv_at hl 1 rfl) ?_
      refine va_get (D := D) (ci := 1) (v := .int (gF σ (pMe r2) 6)) (C := RX1) (T := TX1) (N := 9) hx hb ht inX1 hown hK hP (pMe r2) (g_Me hi_r2) rfl 6 (by decide) (ht _ mw_71) (fun _ h9 => h9) rfl dX4_done_80 ?_
      refine lv_if_eq (tgt := 109) hx hb dX4_done_83 (by decide) (fun c9 => ?_) (fun c9 => ?_)
      · rw [if_pos c9] at hT
        refine lv_aload_n hx hb dX4_done_109 rfl (lv_at hl 3 rfl) ?_
        refine lv_aload hx hb dX4_done_110 (lv_at hl 1 rfl) ?_
        refine kB_v (va_runV (As := [.ref (ad (pMe r2))]) (rest := []) CF (k_takeWhatGoes l D ad kk _ σ r2 hi_r2) ⟨callB_of 1 hts (gT mw_453) rfl rfl rfl (ht _ mw_1) (ht _ mw_450) (by decide +kernel) ⟨Nat.le_of_ble_eq_true rfl, Nat.le_of_ble_eq_true rfl⟩, (ht _ mw_452), (ht _ ms_13)⟩ (preV_B hK hP hD hE hS (ci := 4) rfl rfl g_MB) rfl rfl hl.1 rfl (lv_room (Nat.le_of_ble_eq_true rfl)) dX4_done_112 ⟨Nat.le_of_ble_eq_true rfl, Nat.le_of_ble_eq_true rfl⟩) hS (fun σ11 H locs hw hP hD hS => ?_)
        rw [← hw, vb_eq] at hT
        have h_r10 := hw
        have hTk := h_r10
        refine lv_aload hx hb dX4_done_115 (lv_at hl 2 rfl) ?_
        refine lv_iload_n hx hb dX4_done_117 rfl (lv_at hl 5 rfl) ?_
        refine lv_iload hx hb dX4_done_118 (lv_at hl 8 rfl) ?_
        refine lv_iload_n hx hb dX4_done_120 rfl (lv_at hl 6 rfl) ?_
        refine lv_aload hx hb dX4_done_121 (lv_at hl 1 rfl) ?_
        refine va_get (D := D) (ci := 1) (v := .int (gF σ11 (pMe r2) 6)) (C := RX1) (T := TX1) (N := 9) hx hb ht inX1 hown hK hP (pMe r2) (g_Me hi_r2) rfl 6 (by decide) (ht _ mw_71) (fun _ h9 => h9) rfl dX4_done_123 ?_
        refine lv_if_eq (tgt := 134) hx hb dX4_done_126 (by decide) (fun c12 => ?_) (fun c12 => ?_)
        · rw [if_pos c12] at hT
          refine lv_iconst (v := (-1)) hx hb dX4_done_134 (by decide) ?_
          refine kB_v (va_runV (As := [.int p2, .int p5, .int p3, .int (-1)]) (rest := []) CF (k_addRow l D ad kk _ σ11 r1 p2 p5 p3 (-1) hi_r1 (IB.row_in hI hTk hi_r1 hlt) (vin_of_mAt hI hmA)) ⟨callB_of 4 hts (gT mw_461) rfl rfl rfl (ht _ mw_4) (ht _ mw_458) (by decide +kernel) ⟨Nat.le_of_ble_eq_true rfl, Nat.le_of_ble_eq_true rfl⟩, (ht _ mw_459), (ht _ mw_460)⟩ (preV_B hK hP hD hE hS (ci := 3) rfl rfl (g_Pi hi_r1)) rfl rfl hl.1 rfl (lv_room (Nat.le_of_ble_eq_true rfl)) dX4_done_135 ⟨Nat.le_of_ble_eq_true rfl, Nat.le_of_ble_eq_true rfl⟩) hS (fun σ14 H locs hw hP hD hS => ?_)
          rw [← hw, vb_eq] at hT
          have h_r13 := hw
          refine lv_iconst (v := 0) hx hb dX4_done_138 (by decide) ?_
          refine W.widen (k := 6) (n := 36) (by decide) (by decide) ?_
          exact vx_ret (W.iret (v := 0) hx hb hr (fun t ht hW => ⟨⟨0, σ14, rfl, hT, by rw [ht]; exact hP, va_K.moved hW.alike hK, hD⟩, hS.F ht⟩) hS.2.2 dX4_done_139)
        · rw [if_neg c12] at hT
          refine lv_iload hx hb dX4_done_129 (lv_at hl 7 rfl) ?_
          refine lv_goto (tgt := 135) hx hb dX4_done_131 (by decide) ?_
          refine kB_v (va_runV (As := [.int p2, .int p5, .int p3, .int p4]) (rest := []) CF (k_addRow l D ad kk _ σ11 r1 p2 p5 p3 p4 hi_r1 (IB.row_in hI hTk hi_r1 hlt) (vin_of_mAt hI hmA)) ⟨callB_of 4 hts (gT mw_461) rfl rfl rfl (ht _ mw_4) (ht _ mw_458) (by decide +kernel) ⟨Nat.le_of_ble_eq_true rfl, Nat.le_of_ble_eq_true rfl⟩, (ht _ mw_459), (ht _ mw_460)⟩ (preV_B hK hP hD hE hS (ci := 3) rfl rfl (g_Pi hi_r1)) rfl rfl hl.1 rfl (lv_room (Nat.le_of_ble_eq_true rfl)) dX4_done_135 ⟨Nat.le_of_ble_eq_true rfl, Nat.le_of_ble_eq_true rfl⟩) hS (fun σ16 H locs hw hP hD hS => ?_)
          rw [← hw, vb_eq] at hT
          have h_r15 := hw
          refine lv_iconst (v := 0) hx hb dX4_done_138 (by decide) ?_
          refine W.widen (k := 6) (n := 36) (by decide) (by decide) ?_
          exact vx_ret (W.iret (v := 0) hx hb hr (fun t ht hW => ⟨⟨0, σ16, rfl, hT, by rw [ht]; exact hP, va_K.moved hW.alike hK, hD⟩, hS.F ht⟩) hS.2.2 dX4_done_139)
      · rw [if_neg c9] at hT
        refine lv_iload hx hb dX4_done_86 (lv_at hl 7 rfl) ?_
        refine lv_iload_n hx hb dX4_done_88 rfl (lv_at hl 6 rfl) ?_
        refine lv_icmp_eq (tgt := 105) hx hb dX4_done_89 (by decide) (fun c17 => ?_) (fun c17 => ?_)
        · rw [if_pos c17] at hT
          refine lv_sipush (v := 700) hx hb dX4_done_105 (by decide) ?_
          refine W.widen (k := 6) (n := 36) (by decide) (by decide) ?_
          exact vx_ret (W.iret (v := 700) hx hb hr (fun t ht hW => ⟨⟨700, σ, rfl, hT, by rw [ht]; exact hP, va_K.moved hW.alike hK, hD⟩, hS.F ht⟩) hS.2.2 dX4_done_108)
        · rw [if_neg c17] at hT
          refine lv_aload hx hb dX4_done_92 (lv_at hl 1 rfl) ?_
          refine va_get (D := D) (ci := 1) (v := .int (gF σ (pMe r2) 7)) (C := RX1) (T := TX1) (N := 9) hx hb ht inX1 hown hK hP (pMe r2) (g_Me hi_r2) rfl 7 (by decide) (ht _ mw_72) (fun _ h9 => h9) rfl dX4_done_94 ?_
          refine lv_iload hx hb dX4_done_97 (lv_at hl 7 rfl) ?_
          refine vp_callSi (W.runS (As := [.int (gF σ (pMe r2) 7), .int p4]) (rest := []) CF (k_has l (gF σ (pMe r2) 7) p4) ⟨callB_of 2 hts (gT mw_402) rfl rfl rfl (ht _ mw_1) (ht _ mw_400) (by decide +kernel) ⟨Nat.le_of_ble_eq_true rfl, Nat.le_of_ble_eq_true rfl⟩, (ht _ mw_401)⟩ preEq rfl rfl hl.1 rfl (lv_room (Nat.le_of_ble_eq_true rfl)) dX4_done_99 ⟨Nat.le_of_ble_eq_true rfl, Nat.le_of_ble_eq_true rfl⟩) (fun r18 h_r18 => ?_)
          obtain rfl := h_r18
          refine lv_if_ne (tgt := 109) hx hb dX4_done_102 (by decide) (fun c19 => ?_) (fun c19 => ?_)
          · rw [if_neg c19] at hT
            refine lv_aload_n hx hb dX4_done_109 rfl (lv_at hl 3 rfl) ?_
            refine lv_aload hx hb dX4_done_110 (lv_at hl 1 rfl) ?_
            refine kB_v (va_runV (As := [.ref (ad (pMe r2))]) (rest := []) CF (k_takeWhatGoes l D ad kk _ σ r2 hi_r2) ⟨callB_of 1 hts (gT mw_453) rfl rfl rfl (ht _ mw_1) (ht _ mw_450) (by decide +kernel) ⟨Nat.le_of_ble_eq_true rfl, Nat.le_of_ble_eq_true rfl⟩, (ht _ mw_452), (ht _ ms_13)⟩ (preV_B hK hP hD hE hS (ci := 4) rfl rfl g_MB) rfl rfl hl.1 rfl (lv_room (Nat.le_of_ble_eq_true rfl)) dX4_done_112 ⟨Nat.le_of_ble_eq_true rfl, Nat.le_of_ble_eq_true rfl⟩) hS (fun σ21 H locs hw hP hD hS => ?_)
            rw [← hw, vb_eq] at hT
            have h_r20 := hw
            have hTk := h_r20
            refine lv_aload hx hb dX4_done_115 (lv_at hl 2 rfl) ?_
            refine lv_iload_n hx hb dX4_done_117 rfl (lv_at hl 5 rfl) ?_
            refine lv_iload hx hb dX4_done_118 (lv_at hl 8 rfl) ?_
            refine lv_iload_n hx hb dX4_done_120 rfl (lv_at hl 6 rfl) ?_
            refine lv_aload hx hb dX4_done_121 (lv_at hl 1 rfl) ?_
            refine va_get (D := D) (ci := 1) (v := .int (gF σ21 (pMe r2) 6)) (C := RX1) (T := TX1) (N := 9) hx hb ht inX1 hown hK hP (pMe r2) (g_Me hi_r2) rfl 6 (by decide) (ht _ mw_71) (fun _ h9 => h9) rfl dX4_done_123 ?_
            refine lv_if_eq (tgt := 134) hx hb dX4_done_126 (by decide) (fun c22 => ?_) (fun c22 => ?_)
            · rw [if_pos c22] at hT
              refine lv_iconst (v := (-1)) hx hb dX4_done_134 (by decide) ?_
              refine kB_v (va_runV (As := [.int p2, .int p5, .int p3, .int (-1)]) (rest := []) CF (k_addRow l D ad kk _ σ21 r1 p2 p5 p3 (-1) hi_r1 (IB.row_in hI hTk hi_r1 hlt) (vin_of_mAt hI hmA)) ⟨callB_of 4 hts (gT mw_461) rfl rfl rfl (ht _ mw_4) (ht _ mw_458) (by decide +kernel) ⟨Nat.le_of_ble_eq_true rfl, Nat.le_of_ble_eq_true rfl⟩, (ht _ mw_459), (ht _ mw_460)⟩ (preV_B hK hP hD hE hS (ci := 3) rfl rfl (g_Pi hi_r1)) rfl rfl hl.1 rfl (lv_room (Nat.le_of_ble_eq_true rfl)) dX4_done_135 ⟨Nat.le_of_ble_eq_true rfl, Nat.le_of_ble_eq_true rfl⟩) hS (fun σ24 H locs hw hP hD hS => ?_)
              rw [← hw, vb_eq] at hT
              have h_r23 := hw
              refine lv_iconst (v := 0) hx hb dX4_done_138 (by decide) ?_
              refine W.widen (k := 6) (n := 36) (by decide) (by decide) ?_
              exact vx_ret (W.iret (v := 0) hx hb hr (fun t ht hW => ⟨⟨0, σ24, rfl, hT, by rw [ht]; exact hP, va_K.moved hW.alike hK, hD⟩, hS.F ht⟩) hS.2.2 dX4_done_139)
            · rw [if_neg c22] at hT
              refine lv_iload hx hb dX4_done_129 (lv_at hl 7 rfl) ?_
              refine lv_goto (tgt := 135) hx hb dX4_done_131 (by decide) ?_
              refine kB_v (va_runV (As := [.int p2, .int p5, .int p3, .int p4]) (rest := []) CF (k_addRow l D ad kk _ σ21 r1 p2 p5 p3 p4 hi_r1 (IB.row_in hI hTk hi_r1 hlt) (vin_of_mAt hI hmA)) ⟨callB_of 4 hts (gT mw_461) rfl rfl rfl (ht _ mw_4) (ht _ mw_458) (by decide +kernel) ⟨Nat.le_of_ble_eq_true rfl, Nat.le_of_ble_eq_true rfl⟩, (ht _ mw_459), (ht _ mw_460)⟩ (preV_B hK hP hD hE hS (ci := 3) rfl rfl (g_Pi hi_r1)) rfl rfl hl.1 rfl (lv_room (Nat.le_of_ble_eq_true rfl)) dX4_done_135 ⟨Nat.le_of_ble_eq_true rfl, Nat.le_of_ble_eq_true rfl⟩) hS (fun σ26 H locs hw hP hD hS => ?_)
              rw [← hw, vb_eq] at hT
              have h_r25 := hw
              refine lv_iconst (v := 0) hx hb dX4_done_138 (by decide) ?_
              refine W.widen (k := 6) (n := 36) (by decide) (by decide) ?_
              exact vx_ret (W.iret (v := 0) hx hb hr (fun t ht hW => ⟨⟨0, σ26, rfl, hT, by rw [ht]; exact hP, va_K.moved hW.alike hK, hD⟩, hS.F ht⟩) hS.2.2 dX4_done_139)
          · rw [if_pos c19] at hT
            refine lv_sipush (v := 700) hx hb dX4_done_105 (by decide) ?_
            refine W.widen (k := 6) (n := 36) (by decide) (by decide) ?_
            exact vx_ret (W.iret (v := 700) hx hb hr (fun t ht hW => ⟨⟨700, σ, rfl, hT, by rw [ht]; exact hP, va_K.moved hW.alike hK, hD⟩, hS.F ht⟩) hS.2.2 dX4_done_108)
    · rw [if_neg c8] at hT
      refine lv_iload hx hb dX4_done_75 (lv_at hl 0 rfl) ?_
      refine W.widen (k := 6) (n := 36) (by decide) (by decide) ?_
      exact vx_ret (W.iret (v := M_reasonAgainst σ r1 r2 p3 p5) hx hb hr (fun t ht hW => ⟨⟨M_reasonAgainst σ r1 r2 p3 p5, σ, rfl, hT, by rw [ht]; exact hP, va_K.moved hW.alike hK, hD⟩, hS.F ht⟩) hS.2.2 dX4_done_77)
  · rw [if_neg c5] at hT
    exact vx_throwS (own := RX4) (cls := "java/lang/IllegalStateException") (names := th_n) hx hb hl9 hown thf_IllegalStateException thf_n (ht _ mw_196) (ht _ mw_10) (hE.str (own := RX4) (k := 131) (tx := "the object has 30 rows") (by decide +kernel)).choose_spec (vx_hat (B := th_B "java/lang/IllegalStateException") (fun w hw => ht w (thw_IllegalStateException w hw)) thb_IllegalStateException (hE.th (by decide +kernel))) (thg_IllegalStateException _) hE.1 hE.2.1 hS (hl.1.trans hml.symm) dX4_done_37 dX4_done_40 dX4_done_41 dX4_done_43 dX4_done_46 (fun x hx => (hEx x hx).elim) (Nat.le_of_ble_eq_true rfl) (Nat.le_of_ble_eq_true rfl) (Nat.le_of_ble_eq_true rfl) (Nat.le_of_ble_eq_true rfl) hlocks (fun t ha hsz hk => xB_end hT hK hP hD hS ha hsz hk) hS.2.2 (by decide) (by decide)
set_option maxHeartbeats 4000000 in
set_option maxRecDepth 100000 in
theorem k_row (l : Launch) (hl9 : l.stackTraces = false) (D : va_G) (ad : Nat → Nat) (kk : Nat → ClassId) (sz : Nat) (σ : St) (p1 : Int32) (p2 : Int32) (p3 : Int32) (hI : IB σ) : vx_Met l yX4_row wsX4_row { frames := 8, cells := 3, slots := 18, locals := 132 } (va_Pc [.ref (ad 0), .int p1, .int p2, .int p3] (PB D ad kk sz σ)) (va_Qi (fun r u => .ok r = M_row σ p1 p2 p3 ∧ u = σ) (QB D ad kk sz) (aL 96 ad sz)) (XB (M_row σ p1 p2 p3) D ad kk sz σ) 3 18 (aL 96 ad sz) := by
  refine vx_ofW (cc := cX4_row) (maxL := 5) (ret := (some .int)) (by decide) rfl ?_
  intro p e s m args below meth c s₁ B hml hEx hv
  obtain ⟨rfl, hsz, hP, hK, hD0, hE⟩ := hv
  have hx := B.exec
  have hb := B.bytes
  have hr := B.returns
  have hts := atoms_spec (ws := wsX4_row) B.pre
  have hown : s.vm.findClass RX4 = some m.cls := findClass_of_methodNamed B.named
  have hlocks := B.notSynchronized
  subst hsz
  have hD : va_D (aL 96 ad s.heap.size) (wB ad kk σ) := aL_D hD0
  have hS : va_S (aL 96 ad s.heap.size) s.heap s.heap [] := va_S.rf
  have hl := lv_entry ([.ref (ad 0), .int p1, .int p2, .int p3]) (n := 5) (Nat.le_of_ble_eq_true rfl)
  rw [lg_entry_eq]
  generalize (lg_sl ([.ref (ad 0), .int p1, .int p2, .int p3]) ++ List.replicate (5 - (lg_sl ([.ref (ad 0), .int p1, .int p2, .int p3])).length) Slot.unset).toArray = ls at hl ⊢
  have hl : lv_has ls 5 [(0, .ref (ad 0)), (1, .int p1), (2, .int p2), (3, .int p3)] := hl
  have CF : CallFix p m c cX4_row 5 s ([.ref (ad 0), .int p1, .int p2, .int p3] : List Value).toArray wsX4_row RX4 := ⟨hx, hb, hml, hown, hts⟩
  have ht : ∀ w ∈ T0, w.before ([.ref (ad 0), .int p1, .int p2, .int p3] : List Value).toArray s = true := fun w h => hts w (List.mem_cons_of_mem _ h)
  generalize hT : M_row σ p1 p2 p3 = T
  rw [M_row] at hT
  refine lv_aload_n hx hb dX4_row_0 rfl (lv_at hl 0 rfl) ?_
  refine lv_iload_n hx hb dX4_row_1 rfl (lv_at hl 1 rfl) ?_
  refine kX_q (vx_runV (As := [.int p1]) (rest := []) CF (k_pieceAt l hl9 D ad kk _ σ p1 hI) ⟨callB_of 1 hts (gT mw_386) rfl rfl rfl (ht _ mw_1) (ht _ mw_383) (by decide +kernel) ⟨Nat.le_of_ble_eq_true rfl, Nat.le_of_ble_eq_true rfl⟩, (ht _ mw_385), (ht _ ms_10)⟩ (preV_B hK hP hD hE hS (ci := 4) rfl rfl g_MB) rfl rfl hl.1 rfl (lv_room (Nat.le_of_ble_eq_true rfl)) dX4_row_2 ⟨Nat.le_of_ble_eq_true rfl, Nat.le_of_ble_eq_true rfl⟩) hS hEx hlocks (by decide) (by decide) (fun E h => by rw [← h, xb_er] at hT; exact hT) (fun r1 u9 H locs hw hP hD hS => ?_)
  obtain ⟨r1, rfl, h_r1, e9⟩ := hw
  rw [e9] at hP hD
  have hi_r1 : r1 < 10 := (pAt_lt hI h_r1)
  refine W.eq (g2 := F0 m 5 ls (.ref (ad (pPi r1)) :: [])) rfl ?_
  rw [← h_r1, xb_ok] at hT
  refine lv_astore (lv' := [(4, .ref (ad (pPi r1))), (0, .ref (ad 0)), (1, .int p1), (2, .int p2), (3, .int p3)]) hx hb dX4_row_5 hl (by decide) rfl (fun ls hl => ?_)
  refine lv_iload_n hx hb dX4_row_7 rfl (lv_at hl 4 rfl) ?_
  refine lv_iconst (v := 4) hx hb dX4_row_8 (by decide) ?_
  refine kX_v (vx_runS (As := [.int p3, .int 4]) (rest := []) CF (k_checkPlace l hl9 D ad kk _ σ p3 4) ⟨callB_of 2 hts (gT mw_351) rfl rfl rfl (ht _ mw_1) (ht _ mw_349) (by decide +kernel) ⟨Nat.le_of_ble_eq_true rfl, Nat.le_of_ble_eq_true rfl⟩, (ht _ mw_350)⟩ (preS_B hK hP hD hE hS) rfl rfl hl.1 rfl (lv_room (Nat.le_of_ble_eq_true rfl)) dX4_row_9 ⟨Nat.le_of_ble_eq_true rfl, Nat.le_of_ble_eq_true rfl⟩) hS hEx hlocks (by decide) (by decide) (fun E h => by rw [← h, xb_er] at hT; exact hT) (fun u9 H locs hw hP hD hS => ?_)
  obtain ⟨h_r2, e9⟩ := hw
  rw [e9] at hP hD
  rw [← h_r2, xb_ok] at hT
  have hk1 := h_r2
  refine lv_iload_n hx hb dX4_row_12 rfl (lv_at hl 3 rfl) ?_
  refine lv_iconst (v := (-1)) hx hb dX4_row_13 (by decide) ?_
  refine lv_icmp_ne (tgt := 23) hx hb dX4_row_14 (by decide) (fun c3 => ?_) (fun c3 => ?_)
  · rw [if_neg c3] at hT
    refine lv_iload_n hx hb dX4_row_23 rfl (lv_at hl 3 rfl) ?_
    refine lv_aload hx hb dX4_row_24 (lv_at hl 0 rfl) ?_
    refine va_get (D := D) (ci := 3) (v := .int (gF σ (pPi r1) 4)) (C := RX3) (T := TX3) (N := 8) hx hb ht inX3 hown hK hP (pPi r1) (g_Pi hi_r1) rfl 4 (by decide) (ht _ mw_108) (fun _ h9 => h9) rfl dX4_row_26 ?_
    refine kX_v (vx_runS (As := [.int p2, .int (gF σ (pPi r1) 4)]) (rest := []) CF (k_checkPlace l hl9 D ad kk _ σ p2 (gF σ (pPi r1) 4)) ⟨callB_of 2 hts (gT mw_351) rfl rfl rfl (ht _ mw_1) (ht _ mw_349) (by decide +kernel) ⟨Nat.le_of_ble_eq_true rfl, Nat.le_of_ble_eq_true rfl⟩, (ht _ mw_350)⟩ (preS_B hK hP hD hE hS) rfl rfl hl.1 rfl (lv_room (Nat.le_of_ble_eq_true rfl)) dX4_row_29 ⟨Nat.le_of_ble_eq_true rfl, Nat.le_of_ble_eq_true rfl⟩) hS hEx hlocks (by decide) (by decide) (fun E h => by rw [← h, xb_er] at hT; exact hT) (fun u9 H locs hw hP hD hS => ?_)
    obtain ⟨h_r4, e9⟩ := hw
    rw [e9] at hP hD
    rw [← h_r4, xb_ok] at hT
    have hk2 := h_r4
    refine lv_aload hx hb dX4_row_32 (lv_at hl 0 rfl) ?_
    refine va_get (D := D) (ci := 3) (v := .ref (ad (pPi r1 + 2))) (C := RX3) (T := TX3) (N := 8) hx hb ht inX3 hown hK hP (pPi r1) (g_Pi hi_r1) rfl 1 (by decide) (ht _ mw_102) (fun _ h9 => h9) rfl dX4_row_34 ?_
    refine lv_iload_n hx hb dX4_row_37 rfl (lv_at hl 3 rfl) ?_
    refine lv_iconst (v := 4) hx hb dX4_row_38 (by decide) ?_
    refine lv_imul hx hb dX4_row_39 ?_
    refine lv_iload_n hx hb dX4_row_40 rfl (lv_at hl 4 rfl) ?_
    refine lv_iadd hx hb dX4_row_41 ?_
    refine va_iald (i := (p2 * 4) + p3) hx hb hK hP (pPi r1 + 2) 0 (g_Pr hi_r1) rfl (row_at hk1 hk2 (hI.rc hi_r1)) dX4_row_42 ?_
    exact vx_ret (W.iret (v := gA σ (pPi r1 + 2) ((p2 * 4) + p3).toNatClampNeg) hx hb hr (fun t ht hW => ⟨⟨gA σ (pPi r1 + 2) ((p2 * 4) + p3).toNatClampNeg, σ, rfl, ⟨hT, rfl⟩, by rw [ht]; exact hP, va_K.moved hW.alike hK, hD⟩, hS.F ht⟩) hS.2.2 dX4_row_43)
  · rw [if_pos c3] at hT
    refine lv_aload hx hb dX4_row_17 (lv_at hl 0 rfl) ?_
    refine va_get (D := D) (ci := 3) (v := .int (gF σ (pPi r1) 4)) (C := RX3) (T := TX3) (N := 8) hx hb ht inX3 hown hK hP (pPi r1) (g_Pi hi_r1) rfl 4 (by decide) (ht _ mw_108) (fun _ h9 => h9) rfl dX4_row_19 ?_
    refine W.widen (k := 3) (n := 18) (by decide) (by decide) ?_
    exact vx_ret (W.iret (v := gF σ (pPi r1) 4) hx hb hr (fun t ht hW => ⟨⟨gF σ (pPi r1) 4, σ, rfl, ⟨hT, rfl⟩, by rw [ht]; exact hP, va_K.moved hW.alike hK, hD⟩, hS.F ht⟩) hS.2.2 dX4_row_22)
set_option maxHeartbeats 4000000 in
set_option maxRecDepth 100000 in
theorem k_stock (l : Launch) (hl9 : l.stackTraces = false) (D : va_G) (ad : Nat → Nat) (kk : Nat → ClassId) (sz : Nat) (σ : St) (p1 : Int32) (p2 : Int32) : vx_Met l yX4_stock wsX4_stock { frames := 8, cells := 2, slots := 12, locals := 132 } (va_Pc [.ref (ad 0), .int p1, .int p2] (PB D ad kk sz σ)) (va_Qi (fun r u => .ok (r, u) = M_stock σ p1 p2) (QB D ad kk sz) (aL 96 ad sz)) (XB (M_stock σ p1 p2) D ad kk sz σ) 2 12 (aL 96 ad sz) := by
  refine vx_ofW (cc := cX4_stock) (maxL := 5) (ret := (some .int)) (by decide) rfl ?_
  intro p e s m args below meth c s₁ B hml hEx hv
  obtain ⟨rfl, hsz, hP, hK, hD0, hE⟩ := hv
  have hx := B.exec
  have hb := B.bytes
  have hr := B.returns
  have hts := atoms_spec (ws := wsX4_stock) B.pre
  have hown : s.vm.findClass RX4 = some m.cls := findClass_of_methodNamed B.named
  have hlocks := B.notSynchronized
  subst hsz
  have hD : va_D (aL 96 ad s.heap.size) (wB ad kk σ) := aL_D hD0
  have hS : va_S (aL 96 ad s.heap.size) s.heap s.heap [] := va_S.rf
  have hl := lv_entry ([.ref (ad 0), .int p1, .int p2]) (n := 5) (Nat.le_of_ble_eq_true rfl)
  rw [lg_entry_eq]
  generalize (lg_sl ([.ref (ad 0), .int p1, .int p2]) ++ List.replicate (5 - (lg_sl ([.ref (ad 0), .int p1, .int p2])).length) Slot.unset).toArray = ls at hl ⊢
  have hl : lv_has ls 5 [(0, .ref (ad 0)), (1, .int p1), (2, .int p2)] := hl
  have CF : CallFix p m c cX4_stock 5 s ([.ref (ad 0), .int p1, .int p2] : List Value).toArray wsX4_stock RX4 := ⟨hx, hb, hml, hown, hts⟩
  have ht : ∀ w ∈ T0, w.before ([.ref (ad 0), .int p1, .int p2] : List Value).toArray s = true := fun w h => hts w (List.mem_cons_of_mem _ h)
  generalize hT : M_stock σ p1 p2 = T
  rw [M_stock] at hT
  refine lv_aload_n hx hb dX4_stock_0 rfl (lv_at hl 0 rfl) ?_
  refine lv_iload_n hx hb dX4_stock_1 rfl (lv_at hl 1 rfl) ?_
  refine kX_q (vx_runV (As := [.int p1]) (rest := []) CF (k_goodAt l hl9 D ad kk _ σ p1) ⟨callB_of 1 hts (gT mw_479) rfl rfl rfl (ht _ mw_1) (ht _ mw_476) (by decide +kernel) ⟨Nat.le_of_ble_eq_true rfl, Nat.le_of_ble_eq_true rfl⟩, (ht _ mw_478), (ht _ ms_14)⟩ (preV_B hK hP hD hE hS (ci := 4) rfl rfl g_MB) rfl rfl hl.1 rfl (lv_room (Nat.le_of_ble_eq_true rfl)) dX4_stock_2 ⟨Nat.le_of_ble_eq_true rfl, Nat.le_of_ble_eq_true rfl⟩) hS hEx hlocks (by decide) (by decide) (fun E h => by rw [← h, xb_er] at hT; exact hT) (fun r1 u9 H locs hw hP hD hS => ?_)
  obtain ⟨r1, rfl, h_r1, e9⟩ := hw
  rw [e9] at hP hD
  have hi_r1 : r1 < 12 := (gAt_lt h_r1)
  refine W.eq (g2 := F0 m 5 ls (.ref (ad (pGo r1)) :: [])) rfl ?_
  rw [← h_r1, xb_ok] at hT
  refine lv_astore_n (lv' := [(3, .ref (ad (pGo r1))), (0, .ref (ad 0)), (1, .int p1), (2, .int p2)]) hx hb dX4_stock_5 rfl hl (by decide) rfl (fun ls hl => ?_)
  refine lv_iload_n hx hb dX4_stock_6 rfl (lv_at hl 3 rfl) ?_
  refine lv_ldc (v := (-1000000)) hx hb hown (ht _ mw_480) dX4_stock_7 ?_
  refine lv_icmp_lt (tgt := 18) hx hb dX4_stock_9 (by decide) (fun c2 => ?_) (fun c2 => ?_)
  · rw [if_pos c2] at hT
    exact vx_throwS (own := RX4) (cls := "java/lang/IllegalArgumentException") (names := th_n) hx hb hl9 hown thf_IllegalArgumentException thf_n (ht _ mw_264) (ht _ mw_11) (hE.str (own := RX4) (k := 157) (tx := "change") (by decide +kernel)).choose_spec (vx_hat (B := th_B "java/lang/IllegalArgumentException") (fun w hw => ht w (thw_IllegalArgumentException w hw)) thb_IllegalArgumentException (hE.th (by decide +kernel))) (thg_IllegalArgumentException _) hE.1 hE.2.1 hS (hl.1.trans hml.symm) dX4_stock_18 dX4_stock_21 dX4_stock_22 dX4_stock_24 dX4_stock_27 (fun x hx => (hEx x hx).elim) (Nat.le_of_ble_eq_true rfl) (Nat.le_of_ble_eq_true rfl) (Nat.le_of_ble_eq_true rfl) (Nat.le_of_ble_eq_true rfl) hlocks (fun t ha hsz hk => xB_end hT hK hP hD hS ha hsz hk) hS.2.2 (by decide) (by decide)
  · rw [if_neg c2] at hT
    refine lv_iload_n hx hb dX4_stock_12 rfl (lv_at hl 3 rfl) ?_
    refine lv_ldc (v := 1000000) hx hb hown (ht _ mw_421) dX4_stock_13 ?_
    refine lv_icmp_le (tgt := 28) hx hb dX4_stock_15 (by decide) (fun c3 => ?_) (fun c3 => ?_)
    · rw [if_pos c3] at hT
      refine lv_aload_n hx hb dX4_stock_28 rfl (lv_at hl 0 rfl) ?_
      refine va_get (D := D) (ci := 0) (v := .int (gF σ (pGo r1) 0)) (C := RX0) (T := TX0) (N := 5) hx hb ht inX0 hown hK hP (pGo r1) (g_Go hi_r1) rfl 0 (by decide) (ht _ mw_140) (fun _ h9 => h9) rfl dX4_stock_29 ?_
      refine lv_iload_n hx hb dX4_stock_32 rfl (lv_at hl 3 rfl) ?_
      refine lv_iadd hx hb dX4_stock_33 ?_
      refine lv_istore (lv' := [(4, .int ((gF σ (pGo r1) 0) + p2)), (3, .ref (ad (pGo r1))), (0, .ref (ad 0)), (1, .int p1), (2, .int p2)]) hx hb dX4_stock_34 hl (by decide) rfl (fun ls hl => ?_)
      refine lv_iload hx hb dX4_stock_36 (lv_at hl 0 rfl) ?_
      refine lv_if_lt (tgt := 48) hx hb dX4_stock_38 (by decide) (fun c4 => ?_) (fun c4 => ?_)
      · rw [if_pos c4] at hT
        refine lv_iconst (v := (-1)) hx hb dX4_stock_48 (by decide) ?_
        refine W.widen (k := 2) (n := 12) (by decide) (by decide) ?_
        exact vx_ret (W.iret (v := (-1)) hx hb hr (fun t ht hW => ⟨⟨(-1), σ, rfl, hT, by rw [ht]; exact hP, va_K.moved hW.alike hK, hD⟩, hS.F ht⟩) hS.2.2 dX4_stock_49)
      · rw [if_neg c4] at hT
        refine lv_iload hx hb dX4_stock_41 (lv_at hl 0 rfl) ?_
        refine lv_ldc (v := 1000000) hx hb hown (ht _ mw_421) dX4_stock_43 ?_
        refine lv_icmp_le (tgt := 50) hx hb dX4_stock_45 (by decide) (fun c5 => ?_) (fun c5 => ?_)
        · rw [if_pos c5] at hT
          refine lv_aload_n hx hb dX4_stock_50 rfl (lv_at hl 1 rfl) ?_
          refine lv_iload_n hx hb dX4_stock_51 rfl (lv_at hl 4 rfl) ?_
          refine kB_v (va_runV (As := [.int p2]) (rest := []) CF (k_changeBy l D ad kk _ σ r1 p2 hi_r1) ⟨callB_of 1 hts (gT mw_457) rfl rfl rfl (ht _ mw_5) (ht _ mw_454) (by decide +kernel) ⟨Nat.le_of_ble_eq_true rfl, Nat.le_of_ble_eq_true rfl⟩, (ht _ mw_455), (ht _ mw_456)⟩ (preV_B hK hP hD hE hS (ci := 0) rfl rfl (g_Go hi_r1)) rfl rfl hl.1 rfl (lv_room (Nat.le_of_ble_eq_true rfl)) dX4_stock_52 ⟨Nat.le_of_ble_eq_true rfl, Nat.le_of_ble_eq_true rfl⟩) hS (fun σ7 H locs hw hP hD hS => ?_)
          rw [← hw, vb_eq] at hT
          have h_r6 := hw
          refine lv_iload hx hb dX4_stock_55 (lv_at hl 0 rfl) ?_
          refine W.widen (k := 2) (n := 12) (by decide) (by decide) ?_
          exact vx_ret (W.iret (v := (gF σ (pGo r1) 0) + p2) hx hb hr (fun t ht hW => ⟨⟨(gF σ (pGo r1) 0) + p2, σ7, rfl, hT, by rw [ht]; exact hP, va_K.moved hW.alike hK, hD⟩, hS.F ht⟩) hS.2.2 dX4_stock_57)
        · rw [if_neg c5] at hT
          refine lv_iconst (v := (-1)) hx hb dX4_stock_48 (by decide) ?_
          refine W.widen (k := 2) (n := 12) (by decide) (by decide) ?_
          exact vx_ret (W.iret (v := (-1)) hx hb hr (fun t ht hW => ⟨⟨(-1), σ, rfl, hT, by rw [ht]; exact hP, va_K.moved hW.alike hK, hD⟩, hS.F ht⟩) hS.2.2 dX4_stock_49)
    · rw [if_neg c3] at hT
      exact vx_throwS (own := RX4) (cls := "java/lang/IllegalArgumentException") (names := th_n) hx hb hl9 hown thf_IllegalArgumentException thf_n (ht _ mw_264) (ht _ mw_11) (hE.str (own := RX4) (k := 157) (tx := "change") (by decide +kernel)).choose_spec (vx_hat (B := th_B "java/lang/IllegalArgumentException") (fun w hw => ht w (thw_IllegalArgumentException w hw)) thb_IllegalArgumentException (hE.th (by decide +kernel))) (thg_IllegalArgumentException _) hE.1 hE.2.1 hS (hl.1.trans hml.symm) dX4_stock_18 dX4_stock_21 dX4_stock_22 dX4_stock_24 dX4_stock_27 (fun x hx => (hEx x hx).elim) (Nat.le_of_ble_eq_true rfl) (Nat.le_of_ble_eq_true rfl) (Nat.le_of_ble_eq_true rfl) (Nat.le_of_ble_eq_true rfl) hlocks (fun t ha hsz hk => xB_end hT hK hP hD hS ha hsz hk) hS.2.2 (by decide) (by decide)
set_option maxHeartbeats 4000000 in
set_option maxRecDepth 100000 in
theorem k_about (l : Launch) (hl9 : l.stackTraces = false) (D : va_G) (ad : Nat → Nat) (kk : Nat → ClassId) (sz : Nat) (σ : St) (p1 : Int32) (p2 : Int32) : vx_Met l yX4_about wsX4_about { frames := 8, cells := 2, slots := 12, locals := 132 } (va_Pc [.ref (ad 0), .int p1, .int p2] (PB D ad kk sz σ)) (va_Ql (fun r u => .ok r = M_about σ p1 p2 ∧ u = σ) (QB D ad kk sz) (aL 96 ad sz)) (XB (M_about σ p1 p2) D ad kk sz σ) 2 12 (aL 96 ad sz) := by
  refine vx_ofW (cc := cX4_about) (maxL := 4) (ret := (some .long)) (by decide) rfl ?_
  intro p e s m args below meth c s₁ B hml hEx hv
  obtain ⟨rfl, hsz, hP, hK, hD0, hE⟩ := hv
  have hx := B.exec
  have hb := B.bytes
  have hr := B.returns
  have hts := atoms_spec (ws := wsX4_about) B.pre
  have hown : s.vm.findClass RX4 = some m.cls := findClass_of_methodNamed B.named
  have hlocks := B.notSynchronized
  subst hsz
  have hD : va_D (aL 96 ad s.heap.size) (wB ad kk σ) := aL_D hD0
  have hS : va_S (aL 96 ad s.heap.size) s.heap s.heap [] := va_S.rf
  have hl := lv_entry ([.ref (ad 0), .int p1, .int p2]) (n := 4) (Nat.le_of_ble_eq_true rfl)
  rw [lg_entry_eq]
  generalize (lg_sl ([.ref (ad 0), .int p1, .int p2]) ++ List.replicate (4 - (lg_sl ([.ref (ad 0), .int p1, .int p2])).length) Slot.unset).toArray = ls at hl ⊢
  have hl : lv_has ls 4 [(0, .ref (ad 0)), (1, .int p1), (2, .int p2)] := hl
  have CF : CallFix p m c cX4_about 4 s ([.ref (ad 0), .int p1, .int p2] : List Value).toArray wsX4_about RX4 := ⟨hx, hb, hml, hown, hts⟩
  have ht : ∀ w ∈ T0, w.before ([.ref (ad 0), .int p1, .int p2] : List Value).toArray s = true := fun w h => hts w (List.mem_cons_of_mem _ h)
  generalize hT : M_about σ p1 p2 = T
  rw [M_about] at hT
  refine lv_aload_n hx hb dX4_about_0 rfl (lv_at hl 0 rfl) ?_
  refine lv_iload_n hx hb dX4_about_1 rfl (lv_at hl 1 rfl) ?_
  refine kX_q (vx_runV (As := [.int p1]) (rest := []) CF (k_goodAt l hl9 D ad kk _ σ p1) ⟨callB_of 1 hts (gT mw_479) rfl rfl rfl (ht _ mw_1) (ht _ mw_476) (by decide +kernel) ⟨Nat.le_of_ble_eq_true rfl, Nat.le_of_ble_eq_true rfl⟩, (ht _ mw_478), (ht _ ms_14)⟩ (preV_B hK hP hD hE hS (ci := 4) rfl rfl g_MB) rfl rfl hl.1 rfl (lv_room (Nat.le_of_ble_eq_true rfl)) dX4_about_2 ⟨Nat.le_of_ble_eq_true rfl, Nat.le_of_ble_eq_true rfl⟩) hS hEx hlocks (by decide) (by decide) (fun E h => by rw [← h, xb_er] at hT; exact hT) (fun r1 u9 H locs hw hP hD hS => ?_)
  obtain ⟨r1, rfl, h_r1, e9⟩ := hw
  rw [e9] at hP hD
  have hi_r1 : r1 < 12 := (gAt_lt h_r1)
  refine W.eq (g2 := F0 m 5 ls (.ref (ad (pGo r1)) :: [])) rfl ?_
  rw [← h_r1, xb_ok] at hT
  refine lv_astore_n (lv' := [(3, .ref (ad (pGo r1))), (0, .ref (ad 0)), (1, .int p1), (2, .int p2)]) hx hb dX4_about_5 rfl hl (by decide) rfl (fun ls hl => ?_)
  refine lv_iload_n hx hb dX4_about_6 rfl (lv_at hl 3 rfl) ?_
  by_cases c2_0 : p2 = 0
  · rw [if_pos c2_0] at hT
    refine lv_tableIn (tgt := 36) hx hb dX4_about_7 (by rw [c2_0]; decide) (by rw [c2_0]; decide) (by rw [c2_0]; rfl) (by decide) ?_
    refine lv_aload_n hx hb dX4_about_36 rfl (lv_at hl 0 rfl) ?_
    refine va_get (D := D) (ci := 0) (v := .int (gF σ (pGo r1) 0)) (C := RX0) (T := TX0) (N := 5) hx hb ht inX0 hown hK hP (pGo r1) (g_Go hi_r1) rfl 0 (by decide) (ht _ mw_140) (fun _ h9 => h9) rfl dX4_about_37 ?_
    refine lv_i2l hx hb dX4_about_40 rfl ?_
    refine W.widen (k := 2) (n := 12) (by decide) (by decide) ?_
    exact vx_ret (W.lret (v := (gF σ (pGo r1) 0).toInt64) hx hb hr (fun t ht hW => ⟨⟨(gF σ (pGo r1) 0).toInt64, σ, rfl, ⟨hT, rfl⟩, by rw [ht]; exact hP, va_K.moved hW.alike hK, hD⟩, hS.F ht⟩) hS.2.2 dX4_about_41)
  · rw [if_neg c2_0] at hT
    by_cases c2_1 : p2 = 1
    · rw [if_pos c2_1] at hT
      refine lv_tableIn (tgt := 42) hx hb dX4_about_7 (by rw [c2_1]; decide) (by rw [c2_1]; decide) (by rw [c2_1]; rfl) (by decide) ?_
      refine lv_aload_n hx hb dX4_about_42 rfl (lv_at hl 0 rfl) ?_
      refine va_get (D := D) (ci := 0) (v := .long (gL σ (pGo r1) 1)) (C := RX0) (T := TX0) (N := 5) hx hb ht inX0 hown hK hP (pGo r1) (g_Go hi_r1) rfl 1 (by decide) (ht _ mw_142) (fun _ h9 => h9) rfl dX4_about_43 ?_
      refine W.widen (k := 2) (n := 12) (by decide) (by decide) ?_
      exact vx_ret (W.lret (v := gL σ (pGo r1) 1) hx hb hr (fun t ht hW => ⟨⟨gL σ (pGo r1) 1, σ, rfl, ⟨hT, rfl⟩, by rw [ht]; exact hP, va_K.moved hW.alike hK, hD⟩, hS.F ht⟩) hS.2.2 dX4_about_46)
    · rw [if_neg c2_1] at hT
      by_cases c2_2 : p2 = 2
      · rw [if_pos c2_2] at hT
        refine lv_tableIn (tgt := 47) hx hb dX4_about_7 (by rw [c2_2]; decide) (by rw [c2_2]; decide) (by rw [c2_2]; rfl) (by decide) ?_
        refine lv_aload_n hx hb dX4_about_47 rfl (lv_at hl 0 rfl) ?_
        refine va_get (D := D) (ci := 0) (v := .long (gL σ (pGo r1) 2)) (C := RX0) (T := TX0) (N := 5) hx hb ht inX0 hown hK hP (pGo r1) (g_Go hi_r1) rfl 2 (by decide) (ht _ mw_144) (fun _ h9 => h9) rfl dX4_about_48 ?_
        refine W.widen (k := 2) (n := 12) (by decide) (by decide) ?_
        exact vx_ret (W.lret (v := gL σ (pGo r1) 2) hx hb hr (fun t ht hW => ⟨⟨gL σ (pGo r1) 2, σ, rfl, ⟨hT, rfl⟩, by rw [ht]; exact hP, va_K.moved hW.alike hK, hD⟩, hS.F ht⟩) hS.2.2 dX4_about_51)
      · rw [if_neg c2_2] at hT
        by_cases c2_3 : p2 = 3
        · rw [if_pos c2_3] at hT
          refine lv_tableIn (tgt := 52) hx hb dX4_about_7 (by rw [c2_3]; decide) (by rw [c2_3]; decide) (by rw [c2_3]; rfl) (by decide) ?_
          refine lv_aload_n hx hb dX4_about_52 rfl (lv_at hl 0 rfl) ?_
          refine va_get (D := D) (ci := 0) (v := .int (gF σ (pGo r1) 3)) (C := RX0) (T := TX0) (N := 5) hx hb ht inX0 hown hK hP (pGo r1) (g_Go hi_r1) rfl 3 (by decide) (ht _ mw_146) (fun _ h9 => h9) rfl dX4_about_53 ?_
          refine lv_i2l hx hb dX4_about_56 rfl ?_
          refine W.widen (k := 2) (n := 12) (by decide) (by decide) ?_
          exact vx_ret (W.lret (v := (gF σ (pGo r1) 3).toInt64) hx hb hr (fun t ht hW => ⟨⟨(gF σ (pGo r1) 3).toInt64, σ, rfl, ⟨hT, rfl⟩, by rw [ht]; exact hP, va_K.moved hW.alike hK, hD⟩, hS.F ht⟩) hS.2.2 dX4_about_57)
        · rw [if_neg c2_3] at hT
          refine lv_tableOut (tgt := 58) hx hb dX4_about_7 (sw_out4 c2_0 c2_1 c2_2 c2_3) (by decide) ?_
          exact vx_throwS (own := RX4) (cls := "java/lang/IndexOutOfBoundsException") (names := th_n) hx hb hl9 hown thf_IndexOutOfBoundsException thf_n (ht _ mw_352) (ht _ mw_13) (hE.str (own := RX4) (k := 178) (tx := "what") (by decide +kernel)).choose_spec (vx_hat (B := th_B "java/lang/IndexOutOfBoundsException") (fun w hw => ht w (thw_IndexOutOfBoundsException w hw)) thb_IndexOutOfBoundsException (hE.th (by decide +kernel))) (thg_IndexOutOfBoundsException _) hE.1 hE.2.1 hS (hl.1.trans hml.symm) dX4_about_58 dX4_about_61 dX4_about_62 dX4_about_64 dX4_about_67 (fun x hx => (hEx x hx).elim) (Nat.le_of_ble_eq_true rfl) (Nat.le_of_ble_eq_true rfl) (Nat.le_of_ble_eq_true rfl) (Nat.le_of_ble_eq_true rfl) hlocks (fun t ha hsz hk => xB_end hT hK hP hD hS ha hsz hk) hS.2.2 (by decide) (by decide)
set_option maxHeartbeats 4000000 in
set_option maxRecDepth 100000 in
theorem k_apart (l : Launch) (hl9 : l.stackTraces = false) (D : va_G) (ad : Nat → Nat) (kk : Nat → ClassId) (sz : Nat) (σ : St) (p1 : Int32) (p2 : Int32) : vx_Met l yX4_apart wsX4_apart { frames := 8, cells := 2, slots := 12, locals := 132 } (va_Pc [.ref (ad 0), .int p1, .int p2] (PB D ad kk sz σ)) (va_Qi (fun r u => .ok (r, u) = M_apart σ p1 p2) (QB D ad kk sz) (aL 96 ad sz)) (XB (M_apart σ p1 p2) D ad kk sz σ) 2 12 (aL 96 ad sz) := by
  refine vx_ofW (cc := cX4_apart) (maxL := 5) (ret := (some .boolean)) (by decide) rfl ?_
  intro p e s m args below meth c s₁ B hml hEx hv
  obtain ⟨rfl, hsz, hP, hK, hD0, hE⟩ := hv
  have hx := B.exec
  have hb := B.bytes
  have hr := B.returns
  have hts := atoms_spec (ws := wsX4_apart) B.pre
  have hown : s.vm.findClass RX4 = some m.cls := findClass_of_methodNamed B.named
  have hlocks := B.notSynchronized
  subst hsz
  have hD : va_D (aL 96 ad s.heap.size) (wB ad kk σ) := aL_D hD0
  have hS : va_S (aL 96 ad s.heap.size) s.heap s.heap [] := va_S.rf
  have hl := lv_entry ([.ref (ad 0), .int p1, .int p2]) (n := 5) (Nat.le_of_ble_eq_true rfl)
  rw [lg_entry_eq]
  generalize (lg_sl ([.ref (ad 0), .int p1, .int p2]) ++ List.replicate (5 - (lg_sl ([.ref (ad 0), .int p1, .int p2])).length) Slot.unset).toArray = ls at hl ⊢
  have hl : lv_has ls 5 [(0, .ref (ad 0)), (1, .int p1), (2, .int p2)] := hl
  have CF : CallFix p m c cX4_apart 5 s ([.ref (ad 0), .int p1, .int p2] : List Value).toArray wsX4_apart RX4 := ⟨hx, hb, hml, hown, hts⟩
  have ht : ∀ w ∈ T0, w.before ([.ref (ad 0), .int p1, .int p2] : List Value).toArray s = true := fun w h => hts w (List.mem_cons_of_mem _ h)
  generalize hT : M_apart σ p1 p2 = T
  rw [M_apart] at hT
  refine lv_aload_n hx hb dX4_apart_0 rfl (lv_at hl 0 rfl) ?_
  refine lv_iload_n hx hb dX4_apart_1 rfl (lv_at hl 1 rfl) ?_
  refine kX_q (vx_runV (As := [.int p1]) (rest := []) CF (k_goodAt l hl9 D ad kk _ σ p1) ⟨callB_of 1 hts (gT mw_479) rfl rfl rfl (ht _ mw_1) (ht _ mw_476) (by decide +kernel) ⟨Nat.le_of_ble_eq_true rfl, Nat.le_of_ble_eq_true rfl⟩, (ht _ mw_478), (ht _ ms_14)⟩ (preV_B hK hP hD hE hS (ci := 4) rfl rfl g_MB) rfl rfl hl.1 rfl (lv_room (Nat.le_of_ble_eq_true rfl)) dX4_apart_2 ⟨Nat.le_of_ble_eq_true rfl, Nat.le_of_ble_eq_true rfl⟩) hS hEx hlocks (by decide) (by decide) (fun E h => by rw [← h, xb_er] at hT; exact hT) (fun r1 u9 H locs hw hP hD hS => ?_)
  obtain ⟨r1, rfl, h_r1, e9⟩ := hw
  rw [e9] at hP hD
  have hi_r1 : r1 < 12 := (gAt_lt h_r1)
  refine W.eq (g2 := F0 m 5 ls (.ref (ad (pGo r1)) :: [])) rfl ?_
  rw [← h_r1, xb_ok] at hT
  refine lv_astore_n (lv' := [(3, .ref (ad (pGo r1))), (0, .ref (ad 0)), (1, .int p1), (2, .int p2)]) hx hb dX4_apart_5 rfl hl (by decide) rfl (fun ls hl => ?_)
  refine lv_aload_n hx hb dX4_apart_6 rfl (lv_at hl 1 rfl) ?_
  refine lv_iload_n hx hb dX4_apart_7 rfl (lv_at hl 3 rfl) ?_
  refine kX_q (vx_runV (As := [.int p2]) (rest := []) CF (k_goodAt l hl9 D ad kk _ σ p2) ⟨callB_of 1 hts (gT mw_479) rfl rfl rfl (ht _ mw_1) (ht _ mw_476) (by decide +kernel) ⟨Nat.le_of_ble_eq_true rfl, Nat.le_of_ble_eq_true rfl⟩, (ht _ mw_478), (ht _ ms_14)⟩ (preV_B hK hP hD hE hS (ci := 4) rfl rfl g_MB) rfl rfl hl.1 rfl (lv_room (Nat.le_of_ble_eq_true rfl)) dX4_apart_8 ⟨Nat.le_of_ble_eq_true rfl, Nat.le_of_ble_eq_true rfl⟩) hS hEx hlocks (by decide) (by decide) (fun E h => by rw [← h, xb_er] at hT; exact hT) (fun r2 u9 H locs hw hP hD hS => ?_)
  obtain ⟨r2, rfl, h_r2, e9⟩ := hw
  rw [e9] at hP hD
  have hi_r2 : r2 < 12 := (gAt_lt h_r2)
  refine W.eq (g2 := F0 m 11 ls (.ref (ad (pGo r2)) :: [])) rfl ?_
  rw [← h_r2, xb_ok] at hT
  refine lv_astore (lv' := [(4, .ref (ad (pGo r2))), (3, .ref (ad (pGo r1))), (0, .ref (ad 0)), (1, .int p1), (2, .int p2)]) hx hb dX4_apart_11 hl (by decide) rfl (fun ls hl => ?_)
  refine lv_iload_n hx hb dX4_apart_13 rfl (lv_at hl 3 rfl) ?_
  refine lv_iload_n hx hb dX4_apart_14 rfl (lv_at hl 4 rfl) ?_
  refine lv_icmp_eq (tgt := 38) hx hb dX4_apart_15 (by decide) (fun c3 => ?_) (fun c3 => ?_)
  · rw [if_pos c3] at hT
    refine lv_iconst (v := 0) hx hb dX4_apart_38 (by decide) ?_
    exact vx_ret (W.zret (v := 0) hx hb hr rfl (fun t ht hW => ⟨⟨0, σ, rfl, hT, by rw [ht]; exact hP, va_K.moved hW.alike hK, hD⟩, hS.F ht⟩) hS.2.2 dX4_apart_39)
  · rw [if_neg c3] at hT
    refine lv_aload_n hx hb dX4_apart_18 rfl (lv_at hl 1 rfl) ?_
    refine va_get (D := D) (ci := 0) (v := .int (gF σ (pGo r1) 3)) (C := RX0) (T := TX0) (N := 5) hx hb ht inX0 hown hK hP (pGo r1) (g_Go hi_r1) rfl 3 (by decide) (ht _ mw_146) (fun _ h9 => h9) rfl dX4_apart_19 ?_
    refine lv_iconst (v := (-1)) hx hb dX4_apart_22 (by decide) ?_
    refine lv_icmp_eq (tgt := 40) hx hb dX4_apart_23 (by decide) (fun c4 => ?_) (fun c4 => ?_)
    · rw [if_pos c4] at hT
      refine lv_aload_n hx hb dX4_apart_40 rfl (lv_at hl 1 rfl) ?_
      refine lv_aload_n hx hb dX4_apart_41 rfl (lv_at hl 1 rfl) ?_
      refine va_get (D := D) (ci := 0) (v := .int (gF σ (pGo r1) 4)) (C := RX0) (T := TX0) (N := 5) hx hb ht inX0 hown hK hP (pGo r1) (g_Go hi_r1) rfl 4 (by decide) (ht _ mw_147) (fun _ h9 => h9) rfl dX4_apart_42 ?_
      refine lv_iload_n hx hb dX4_apart_45 rfl (lv_at hl 4 rfl) ?_
      refine lv_iconst (v := 1) hx hb dX4_apart_46 (by decide) ?_
      refine vp_callSi (W.runS (As := [.int (gF σ (pGo r1) 4), .int p2, .int 1]) (rest := [.ref (ad (pGo r1))]) CF (k_with l (gF σ (pGo r1) 4) p2 1) ⟨callB_of 3 hts (gT mw_325) rfl rfl rfl (ht _ mw_1) (ht _ mw_403) (by decide +kernel) ⟨Nat.le_of_ble_eq_true rfl, Nat.le_of_ble_eq_true rfl⟩, (ht _ mw_324)⟩ preEq rfl rfl hl.1 rfl (lv_room (Nat.le_of_ble_eq_true rfl)) dX4_apart_47 ⟨Nat.le_of_ble_eq_true rfl, Nat.le_of_ble_eq_true rfl⟩) (fun r5 h_r5 => ?_)
      obtain rfl := h_r5
      refine va_put (D := D) (ci := 0) (v := .int (M_with (gF σ (pGo r1) 4) p2 1)) (ty := .int) (C := RX0) (T := TX0) (N := 5) hx hb ht inX0 tyX0 tyX0_ok nmX0 hown hK hP hD hS (pGo r1) (g_Go hi_r1) rfl 4 (by decide) (ht _ mw_147) (fun _ h9 => h9) rfl (by decide +kernel) rfl rfl (Nat.le_of_ble_eq_true rfl) dX4_apart_50 (fun H locs hP hD hS => ?_)
      rw [s_Go_4 hi_r1] at hP hD
      refine lv_aload hx hb dX4_apart_53 (lv_at hl 0 rfl) ?_
      refine lv_aload hx hb dX4_apart_55 (lv_at hl 0 rfl) ?_
      refine va_get (D := D) (ci := 0) (v := .int (gF (sF σ (pGo r1) 4 (M_with (gF σ (pGo r1) 4) p2 1)) (pGo r2) 4)) (C := RX0) (T := TX0) (N := 5) hx hb ht inX0 hown hK hP (pGo r2) (g_Go hi_r2) rfl 4 (by decide) (ht _ mw_147) (fun _ h9 => h9) rfl dX4_apart_57 ?_
      refine lv_iload_n hx hb dX4_apart_60 rfl (lv_at hl 3 rfl) ?_
      refine lv_iconst (v := 1) hx hb dX4_apart_61 (by decide) ?_
      refine vp_callSi (W.runS (As := [.int (gF (sF σ (pGo r1) 4 (M_with (gF σ (pGo r1) 4) p2 1)) (pGo r2) 4), .int p1, .int 1]) (rest := [.ref (ad (pGo r2))]) CF (k_with l (gF (sF σ (pGo r1) 4 (M_with (gF σ (pGo r1) 4) p2 1)) (pGo r2) 4) p1 1) ⟨callB_of 3 hts (gT mw_325) rfl rfl rfl (ht _ mw_1) (ht _ mw_403) (by decide +kernel) ⟨Nat.le_of_ble_eq_true rfl, Nat.le_of_ble_eq_true rfl⟩, (ht _ mw_324)⟩ preEq rfl rfl hl.1 rfl (lv_room (Nat.le_of_ble_eq_true rfl)) dX4_apart_62 ⟨Nat.le_of_ble_eq_true rfl, Nat.le_of_ble_eq_true rfl⟩) (fun r6 h_r6 => ?_)
      obtain rfl := h_r6
      refine va_put (D := D) (ci := 0) (v := .int (M_with (gF (sF σ (pGo r1) 4 (M_with (gF σ (pGo r1) 4) p2 1)) (pGo r2) 4) p1 1)) (ty := .int) (C := RX0) (T := TX0) (N := 5) hx hb ht inX0 tyX0 tyX0_ok nmX0 hown hK hP hD hS (pGo r2) (g_Go hi_r2) rfl 4 (by decide) (ht _ mw_147) (fun _ h9 => h9) rfl (by decide +kernel) rfl rfl (Nat.le_of_ble_eq_true rfl) dX4_apart_65 (fun H locs hP hD hS => ?_)
      rw [s_Go_4 hi_r2] at hP hD
      refine lv_iconst (v := 1) hx hb dX4_apart_68 (by decide) ?_
      exact vx_ret (W.zret (v := 1) hx hb hr rfl (fun t ht hW => ⟨⟨1, (sF (sF σ (pGo r1) 4 (M_with (gF σ (pGo r1) 4) p2 1)) (pGo r2) 4 (M_with (gF (sF σ (pGo r1) 4 (M_with (gF σ (pGo r1) 4) p2 1)) (pGo r2) 4) p1 1)), rfl, hT, by rw [ht]; exact hP, va_K.moved hW.alike hK, hD⟩, hS.F ht⟩) hS.2.2 dX4_apart_69)
    · rw [if_neg c4] at hT
      refine lv_aload_n hx hb dX4_apart_26 rfl (lv_at hl 1 rfl) ?_
      refine va_get (D := D) (ci := 0) (v := .int (gF σ (pGo r1) 3)) (C := RX0) (T := TX0) (N := 5) hx hb ht inX0 hown hK hP (pGo r1) (g_Go hi_r1) rfl 3 (by decide) (ht _ mw_146) (fun _ h9 => h9) rfl dX4_apart_27 ?_
      refine lv_aload hx hb dX4_apart_30 (lv_at hl 0 rfl) ?_
      refine va_get (D := D) (ci := 0) (v := .int (gF σ (pGo r2) 3)) (C := RX0) (T := TX0) (N := 5) hx hb ht inX0 hown hK hP (pGo r2) (g_Go hi_r2) rfl 3 (by decide) (ht _ mw_146) (fun _ h9 => h9) rfl dX4_apart_32 ?_
      refine lv_icmp_ne (tgt := 40) hx hb dX4_apart_35 (by decide) (fun c7 => ?_) (fun c7 => ?_)
      · rw [if_neg c7] at hT
        refine lv_aload_n hx hb dX4_apart_40 rfl (lv_at hl 1 rfl) ?_
        refine lv_aload_n hx hb dX4_apart_41 rfl (lv_at hl 1 rfl) ?_
        refine va_get (D := D) (ci := 0) (v := .int (gF σ (pGo r1) 4)) (C := RX0) (T := TX0) (N := 5) hx hb ht inX0 hown hK hP (pGo r1) (g_Go hi_r1) rfl 4 (by decide) (ht _ mw_147) (fun _ h9 => h9) rfl dX4_apart_42 ?_
        refine lv_iload_n hx hb dX4_apart_45 rfl (lv_at hl 4 rfl) ?_
        refine lv_iconst (v := 1) hx hb dX4_apart_46 (by decide) ?_
        refine vp_callSi (W.runS (As := [.int (gF σ (pGo r1) 4), .int p2, .int 1]) (rest := [.ref (ad (pGo r1))]) CF (k_with l (gF σ (pGo r1) 4) p2 1) ⟨callB_of 3 hts (gT mw_325) rfl rfl rfl (ht _ mw_1) (ht _ mw_403) (by decide +kernel) ⟨Nat.le_of_ble_eq_true rfl, Nat.le_of_ble_eq_true rfl⟩, (ht _ mw_324)⟩ preEq rfl rfl hl.1 rfl (lv_room (Nat.le_of_ble_eq_true rfl)) dX4_apart_47 ⟨Nat.le_of_ble_eq_true rfl, Nat.le_of_ble_eq_true rfl⟩) (fun r8 h_r8 => ?_)
        obtain rfl := h_r8
        refine va_put (D := D) (ci := 0) (v := .int (M_with (gF σ (pGo r1) 4) p2 1)) (ty := .int) (C := RX0) (T := TX0) (N := 5) hx hb ht inX0 tyX0 tyX0_ok nmX0 hown hK hP hD hS (pGo r1) (g_Go hi_r1) rfl 4 (by decide) (ht _ mw_147) (fun _ h9 => h9) rfl (by decide +kernel) rfl rfl (Nat.le_of_ble_eq_true rfl) dX4_apart_50 (fun H locs hP hD hS => ?_)
        rw [s_Go_4 hi_r1] at hP hD
        refine lv_aload hx hb dX4_apart_53 (lv_at hl 0 rfl) ?_
        refine lv_aload hx hb dX4_apart_55 (lv_at hl 0 rfl) ?_
        refine va_get (D := D) (ci := 0) (v := .int (gF (sF σ (pGo r1) 4 (M_with (gF σ (pGo r1) 4) p2 1)) (pGo r2) 4)) (C := RX0) (T := TX0) (N := 5) hx hb ht inX0 hown hK hP (pGo r2) (g_Go hi_r2) rfl 4 (by decide) (ht _ mw_147) (fun _ h9 => h9) rfl dX4_apart_57 ?_
        refine lv_iload_n hx hb dX4_apart_60 rfl (lv_at hl 3 rfl) ?_
        refine lv_iconst (v := 1) hx hb dX4_apart_61 (by decide) ?_
        refine vp_callSi (W.runS (As := [.int (gF (sF σ (pGo r1) 4 (M_with (gF σ (pGo r1) 4) p2 1)) (pGo r2) 4), .int p1, .int 1]) (rest := [.ref (ad (pGo r2))]) CF (k_with l (gF (sF σ (pGo r1) 4 (M_with (gF σ (pGo r1) 4) p2 1)) (pGo r2) 4) p1 1) ⟨callB_of 3 hts (gT mw_325) rfl rfl rfl (ht _ mw_1) (ht _ mw_403) (by decide +kernel) ⟨Nat.le_of_ble_eq_true rfl, Nat.le_of_ble_eq_true rfl⟩, (ht _ mw_324)⟩ preEq rfl rfl hl.1 rfl (lv_room (Nat.le_of_ble_eq_true rfl)) dX4_apart_62 ⟨Nat.le_of_ble_eq_true rfl, Nat.le_of_ble_eq_true rfl⟩) (fun r9 h_r9 => ?_)
        obtain rfl := h_r9
        refine va_put (D := D) (ci := 0) (v := .int (M_with (gF (sF σ (pGo r1) 4 (M_with (gF σ (pGo r1) 4) p2 1)) (pGo r2) 4) p1 1)) (ty := .int) (C := RX0) (T := TX0) (N := 5) hx hb ht inX0 tyX0 tyX0_ok nmX0 hown hK hP hD hS (pGo r2) (g_Go hi_r2) rfl 4 (by decide) (ht _ mw_147) (fun _ h9 => h9) rfl (by decide +kernel) rfl rfl (Nat.le_of_ble_eq_true rfl) dX4_apart_65 (fun H locs hP hD hS => ?_)
        rw [s_Go_4 hi_r2] at hP hD
        refine lv_iconst (v := 1) hx hb dX4_apart_68 (by decide) ?_
        exact vx_ret (W.zret (v := 1) hx hb hr rfl (fun t ht hW => ⟨⟨1, (sF (sF σ (pGo r1) 4 (M_with (gF σ (pGo r1) 4) p2 1)) (pGo r2) 4 (M_with (gF (sF σ (pGo r1) 4 (M_with (gF σ (pGo r1) 4) p2 1)) (pGo r2) 4) p1 1)), rfl, hT, by rw [ht]; exact hP, va_K.moved hW.alike hK, hD⟩, hS.F ht⟩) hS.2.2 dX4_apart_69)
      · rw [if_pos c7] at hT
        refine lv_iconst (v := 0) hx hb dX4_apart_38 (by decide) ?_
        exact vx_ret (W.zret (v := 0) hx hb hr rfl (fun t ht hW => ⟨⟨0, σ, rfl, hT, by rw [ht]; exact hP, va_K.moved hW.alike hK, hD⟩, hS.F ht⟩) hS.2.2 dX4_apart_39)
set_option maxHeartbeats 4000000 in
set_option maxRecDepth 100000 in
theorem k_put (l : Launch) (hl9 : l.stackTraces = false) (D : va_G) (ad : Nat → Nat) (kk : Nat → ClassId) (sz : Nat) (σ : St) (p1 : Int32) (p2 : Int32) : vx_Met l yX4_put wsX4_put { frames := 8, cells := 2, slots := 12, locals := 132 } (va_Pc [.ref (ad 0), .int p1, .int p2] (PB D ad kk sz σ)) (va_Qi (fun r u => .ok (r, u) = M_put σ p1 p2) (QB D ad kk sz) (aL 96 ad sz)) (XB (M_put σ p1 p2) D ad kk sz σ) 2 12 (aL 96 ad sz) := by
  refine vx_ofW (cc := cX4_put) (maxL := 5) (ret := (some .int)) (by decide) rfl ?_
  intro p e s m args below meth c s₁ B hml hEx hv
  obtain ⟨rfl, hsz, hP, hK, hD0, hE⟩ := hv
  have hx := B.exec
  have hb := B.bytes
  have hr := B.returns
  have hts := atoms_spec (ws := wsX4_put) B.pre
  have hown : s.vm.findClass RX4 = some m.cls := findClass_of_methodNamed B.named
  have hlocks := B.notSynchronized
  subst hsz
  have hD : va_D (aL 96 ad s.heap.size) (wB ad kk σ) := aL_D hD0
  have hS : va_S (aL 96 ad s.heap.size) s.heap s.heap [] := va_S.rf
  have hl := lv_entry ([.ref (ad 0), .int p1, .int p2]) (n := 5) (Nat.le_of_ble_eq_true rfl)
  rw [lg_entry_eq]
  generalize (lg_sl ([.ref (ad 0), .int p1, .int p2]) ++ List.replicate (5 - (lg_sl ([.ref (ad 0), .int p1, .int p2])).length) Slot.unset).toArray = ls at hl ⊢
  have hl : lv_has ls 5 [(0, .ref (ad 0)), (1, .int p1), (2, .int p2)] := hl
  have CF : CallFix p m c cX4_put 5 s ([.ref (ad 0), .int p1, .int p2] : List Value).toArray wsX4_put RX4 := ⟨hx, hb, hml, hown, hts⟩
  have ht : ∀ w ∈ T0, w.before ([.ref (ad 0), .int p1, .int p2] : List Value).toArray s = true := fun w h => hts w (List.mem_cons_of_mem _ h)
  generalize hT : M_put σ p1 p2 = T
  rw [M_put] at hT
  refine lv_aload_n hx hb dX4_put_0 rfl (lv_at hl 0 rfl) ?_
  refine lv_iload_n hx hb dX4_put_1 rfl (lv_at hl 1 rfl) ?_
  refine kX_q (vx_runV (As := [.int p1]) (rest := []) CF (k_goodAt l hl9 D ad kk _ σ p1) ⟨callB_of 1 hts (gT mw_479) rfl rfl rfl (ht _ mw_1) (ht _ mw_476) (by decide +kernel) ⟨Nat.le_of_ble_eq_true rfl, Nat.le_of_ble_eq_true rfl⟩, (ht _ mw_478), (ht _ ms_14)⟩ (preV_B hK hP hD hE hS (ci := 4) rfl rfl g_MB) rfl rfl hl.1 rfl (lv_room (Nat.le_of_ble_eq_true rfl)) dX4_put_2 ⟨Nat.le_of_ble_eq_true rfl, Nat.le_of_ble_eq_true rfl⟩) hS hEx hlocks (by decide) (by decide) (fun E h => by rw [← h, xb_er] at hT; exact hT) (fun r1 u9 H locs hw hP hD hS => ?_)
  obtain ⟨r1, rfl, h_r1, e9⟩ := hw
  rw [e9] at hP hD
  have hi_r1 : r1 < 12 := (gAt_lt h_r1)
  refine W.eq (g2 := F0 m 5 ls (.ref (ad (pGo r1)) :: [])) rfl ?_
  rw [← h_r1, xb_ok] at hT
  refine lv_astore_n (lv' := [(3, .ref (ad (pGo r1))), (0, .ref (ad 0)), (1, .int p1), (2, .int p2)]) hx hb dX4_put_5 rfl hl (by decide) rfl (fun ls hl => ?_)
  refine lv_iload_n hx hb dX4_put_6 rfl (lv_at hl 3 rfl) ?_
  refine lv_iconst (v := (-1)) hx hb dX4_put_7 (by decide) ?_
  refine lv_icmp_eq (tgt := 43) hx hb dX4_put_8 (by decide) (fun c2 => ?_) (fun c2 => ?_)
  · rw [if_pos c2] at hT
    refine lv_aload_n hx hb dX4_put_43 rfl (lv_at hl 0 rfl) ?_
    refine lv_iload_n hx hb dX4_put_44 rfl (lv_at hl 3 rfl) ?_
    refine va_put (D := D) (ci := 0) (v := .int p2) (ty := .int) (C := RX0) (T := TX0) (N := 5) hx hb ht inX0 tyX0 tyX0_ok nmX0 hown hK hP hD hS (pGo r1) (g_Go hi_r1) rfl 3 (by decide) (ht _ mw_146) (fun _ h9 => h9) rfl (by decide +kernel) rfl rfl (Nat.le_of_ble_eq_true rfl) dX4_put_45 (fun H locs hP hD hS => ?_)
    rw [s_Go_3 hi_r1] at hP hD
    refine lv_iconst (v := 0) hx hb dX4_put_48 (by decide) ?_
    refine W.widen (k := 2) (n := 12) (by decide) (by decide) ?_
    exact vx_ret (W.iret (v := 0) hx hb hr (fun t ht hW => ⟨⟨0, (sF σ (pGo r1) 3 p2), rfl, hT, by rw [ht]; exact hP, va_K.moved hW.alike hK, hD⟩, hS.F ht⟩) hS.2.2 dX4_put_49)
  · rw [if_neg c2] at hT
    refine lv_iload_n hx hb dX4_put_11 rfl (lv_at hl 3 rfl) ?_
    refine lv_bipush (v := 6) hx hb dX4_put_12 (by decide) ?_
    refine kX_v (vx_runS (As := [.int p2, .int 6]) (rest := []) CF (k_checkPlace l hl9 D ad kk _ σ p2 6) ⟨callB_of 2 hts (gT mw_351) rfl rfl rfl (ht _ mw_1) (ht _ mw_349) (by decide +kernel) ⟨Nat.le_of_ble_eq_true rfl, Nat.le_of_ble_eq_true rfl⟩, (ht _ mw_350)⟩ (preS_B hK hP hD hE hS) rfl rfl hl.1 rfl (lv_room (Nat.le_of_ble_eq_true rfl)) dX4_put_14 ⟨Nat.le_of_ble_eq_true rfl, Nat.le_of_ble_eq_true rfl⟩) hS hEx hlocks (by decide) (by decide) (fun E h => by rw [← h, xb_er] at hT; exact hT) (fun u9 H locs hw hP hD hS => ?_)
    obtain ⟨h_r3, e9⟩ := hw
    rw [e9] at hP hD
    rw [← h_r3, xb_ok] at hT
    refine lv_aload_n hx hb dX4_put_17 rfl (lv_at hl 0 rfl) ?_
    refine va_get (D := D) (ci := 0) (v := .int (gF σ (pGo r1) 4)) (C := RX0) (T := TX0) (N := 5) hx hb ht inX0 hown hK hP (pGo r1) (g_Go hi_r1) rfl 4 (by decide) (ht _ mw_147) (fun _ h9 => h9) rfl dX4_put_18 ?_
    refine lv_aload_n hx hb dX4_put_21 rfl (lv_at hl 1 rfl) ?_
    refine lv_iload_n hx hb dX4_put_22 rfl (lv_at hl 3 rfl) ?_
    refine kB_i (va_runV (As := [.int p2]) (rest := [.int (gF σ (pGo r1) 4)]) CF (k_goodsOn l D ad kk _ σ p2) ⟨callB_of 1 hts (gT mw_507) rfl rfl rfl (ht _ mw_1) (ht _ mw_504) (by decide +kernel) ⟨Nat.le_of_ble_eq_true rfl, Nat.le_of_ble_eq_true rfl⟩, (ht _ mw_506), (ht _ ms_15)⟩ (preV_B hK hP hD hE hS (ci := 4) rfl rfl g_MB) rfl rfl hl.1 rfl (lv_room (Nat.le_of_ble_eq_true rfl)) dX4_put_23 ⟨Nat.le_of_ble_eq_true rfl, Nat.le_of_ble_eq_true rfl⟩) hS (fun r4 u9 H locs hw hP hD hS => ?_)
    obtain ⟨rfl, e9⟩ := hw
    rw [e9] at hP hD
    refine lv_iand hx hb dX4_put_26 ?_
    refine vp_callSi (W.runS (As := [.int ((gF σ (pGo r1) 4) &&& (M_goodsOn σ p2))]) (rest := []) CF (k_lowest l ((gF σ (pGo r1) 4) &&& (M_goodsOn σ p2))) ⟨callB_of 1 hts (gT mw_434) rfl rfl rfl (ht _ mw_1) (ht _ mw_432) (by decide +kernel) ⟨Nat.le_of_ble_eq_true rfl, Nat.le_of_ble_eq_true rfl⟩, (ht _ mw_433)⟩ preEq rfl rfl hl.1 rfl (lv_room (Nat.le_of_ble_eq_true rfl)) dX4_put_27 ⟨Nat.le_of_ble_eq_true rfl, Nat.le_of_ble_eq_true rfl⟩) (fun r5 h_r5 => ?_)
    obtain rfl := h_r5
    refine lv_istore (lv' := [(4, .int (M_lowest ((gF σ (pGo r1) 4) &&& (M_goodsOn σ p2)))), (3, .ref (ad (pGo r1))), (0, .ref (ad 0)), (1, .int p1), (2, .int p2)]) hx hb dX4_put_30 hl (by decide) rfl (fun ls hl => ?_)
    refine lv_iload hx hb dX4_put_32 (lv_at hl 0 rfl) ?_
    refine lv_iconst (v := (-1)) hx hb dX4_put_34 (by decide) ?_
    refine lv_icmp_eq (tgt := 43) hx hb dX4_put_35 (by decide) (fun c6 => ?_) (fun c6 => ?_)
    · rw [if_pos c6] at hT
      refine lv_aload_n hx hb dX4_put_43 rfl (lv_at hl 1 rfl) ?_
      refine lv_iload_n hx hb dX4_put_44 rfl (lv_at hl 4 rfl) ?_
      refine va_put (D := D) (ci := 0) (v := .int p2) (ty := .int) (C := RX0) (T := TX0) (N := 5) hx hb ht inX0 tyX0 tyX0_ok nmX0 hown hK hP hD hS (pGo r1) (g_Go hi_r1) rfl 3 (by decide) (ht _ mw_146) (fun _ h9 => h9) rfl (by decide +kernel) rfl rfl (Nat.le_of_ble_eq_true rfl) dX4_put_45 (fun H locs hP hD hS => ?_)
      rw [s_Go_3 hi_r1] at hP hD
      refine lv_iconst (v := 0) hx hb dX4_put_48 (by decide) ?_
      exact vx_ret (W.iret (v := 0) hx hb hr (fun t ht hW => ⟨⟨0, (sF σ (pGo r1) 3 p2), rfl, hT, by rw [ht]; exact hP, va_K.moved hW.alike hK, hD⟩, hS.F ht⟩) hS.2.2 dX4_put_49)
    · rw [if_neg c6] at hT
      refine lv_iconst (v := 1) hx hb dX4_put_38 (by decide) ?_
      refine lv_iload hx hb dX4_put_39 (lv_at hl 0 rfl) ?_
      refine lv_iadd hx hb dX4_put_41 ?_
      exact vx_ret (W.iret (v := 1 + (M_lowest ((gF σ (pGo r1) 4) &&& (M_goodsOn σ p2)))) hx hb hr (fun t ht hW => ⟨⟨1 + (M_lowest ((gF σ (pGo r1) 4) &&& (M_goodsOn σ p2))), σ, rfl, hT, by rw [ht]; exact hP, va_K.moved hW.alike hK, hD⟩, hS.F ht⟩) hS.2.2 dX4_put_42)
set_option maxHeartbeats 4000000 in
set_option maxRecDepth 100000 in
theorem k_step (l : Launch) (hl9 : l.stackTraces = false) (D : va_G) (ad : Nat → Nat) (kk : Nat → ClassId) (sz : Nat) (σ : St) (p1 : Int32) (hI : IB σ) : vx_Met l yX4_step wsX4_step { frames := 7, cells := 1, slots := 6, locals := 111 } (va_Pc [.ref (ad 0), .int p1] (PB D ad kk sz σ)) (va_Qi (fun r u => .ok r = M_step σ p1 ∧ u = σ) (QB D ad kk sz) (aL 96 ad sz)) (XB (M_step σ p1) D ad kk sz σ) 1 6 (aL 96 ad sz) := by
  refine vx_ofW (cc := cX4_step) (maxL := 2) (ret := (some .int)) (by decide) rfl ?_
  intro p e s m args below meth c s₁ B hml hEx hv
  obtain ⟨rfl, hsz, hP, hK, hD0, hE⟩ := hv
  have hx := B.exec
  have hb := B.bytes
  have hr := B.returns
  have hts := atoms_spec (ws := wsX4_step) B.pre
  have hown : s.vm.findClass RX4 = some m.cls := findClass_of_methodNamed B.named
  have hlocks := B.notSynchronized
  subst hsz
  have hD : va_D (aL 96 ad s.heap.size) (wB ad kk σ) := aL_D hD0
  have hS : va_S (aL 96 ad s.heap.size) s.heap s.heap [] := va_S.rf
  have hl := lv_entry ([.ref (ad 0), .int p1]) (n := 2) (Nat.le_of_ble_eq_true rfl)
  rw [lg_entry_eq]
  generalize (lg_sl ([.ref (ad 0), .int p1]) ++ List.replicate (2 - (lg_sl ([.ref (ad 0), .int p1])).length) Slot.unset).toArray = ls at hl ⊢
  have hl : lv_has ls 2 [(0, .ref (ad 0)), (1, .int p1)] := hl
  have CF : CallFix p m c cX4_step 2 s ([.ref (ad 0), .int p1] : List Value).toArray wsX4_step RX4 := ⟨hx, hb, hml, hown, hts⟩
  have ht : ∀ w ∈ T0, w.before ([.ref (ad 0), .int p1] : List Value).toArray s = true := fun w h => hts w (List.mem_cons_of_mem _ h)
  generalize hT : M_step σ p1 = T
  rw [M_step] at hT
  refine lv_iload_n hx hb dX4_step_0 rfl (lv_at hl 1 rfl) ?_
  refine lv_aload_n hx hb dX4_step_1 rfl (lv_at hl 0 rfl) ?_
  refine va_get (D := D) (ci := 4) (v := .int (gF σ 0 8)) (C := RX4) (T := TX4) (N := 9) hx hb ht inX4 hown hK hP 0 g_MB rfl 8 (by decide) (ht _ mw_167) (fun _ h9 => h9) rfl dX4_step_2 ?_
  refine kX_v (vx_runS (As := [.int p1, .int (gF σ 0 8)]) (rest := []) CF (k_checkPlace l hl9 D ad kk _ σ p1 (gF σ 0 8)) ⟨callB_of 2 hts (gT mw_351) rfl rfl rfl (ht _ mw_1) (ht _ mw_349) (by decide +kernel) ⟨Nat.le_of_ble_eq_true rfl, Nat.le_of_ble_eq_true rfl⟩, (ht _ mw_350)⟩ (preS_B hK hP hD hE hS) rfl rfl hl.1 rfl (lv_room (Nat.le_of_ble_eq_true rfl)) dX4_step_5 ⟨Nat.le_of_ble_eq_true rfl, Nat.le_of_ble_eq_true rfl⟩) hS hEx hlocks (by decide) (by decide) (fun E h => by rw [← h, xb_er] at hT; exact hT) (fun u9 H locs hw hP hD hS => ?_)
  obtain ⟨h_r1, e9⟩ := hw
  rw [e9] at hP hD
  rw [← h_r1, xb_ok] at hT
  have hk := h_r1
  refine lv_aload_n hx hb dX4_step_8 rfl (lv_at hl 0 rfl) ?_
  refine va_get (D := D) (ci := 4) (v := .ref (ad 94)) (C := RX4) (T := TX4) (N := 9) hx hb ht inX4 hown hK hP 0 g_MB rfl 4 (by decide) (ht _ mw_163) (fun _ h9 => h9) rfl dX4_step_9 ?_
  refine lv_iload_n hx hb dX4_step_12 rfl (lv_at hl 1 rfl) ?_
  refine va_iald (i := p1) hx hb hK hP 94 0 g_planned rfl (vin_chk hk hI.pl) dX4_step_13 ?_
  exact vx_ret (W.iret (v := gA σ 94 p1.toNatClampNeg) hx hb hr (fun t ht hW => ⟨⟨gA σ 94 p1.toNatClampNeg, σ, rfl, ⟨hT, rfl⟩, by rw [ht]; exact hP, va_K.moved hW.alike hK, hD⟩, hS.F ht⟩) hS.2.2 dX4_step_14)
set_option maxHeartbeats 4000000 in
set_option maxRecDepth 100000 in
theorem k_count (l : Launch) (hl9 : l.stackTraces = false) (D : va_G) (ad : Nat → Nat) (kk : Nat → ClassId) (sz : Nat) (σ : St) (p1 : Int32) (hI : IB σ) : vx_Met l yX4_count wsX4_count { frames := 6, cells := 1, slots := 6, locals := 90 } (va_Pc [.ref (ad 0), .int p1] (PB D ad kk sz σ)) (va_Qi (fun r u => .ok r = M_count σ p1 ∧ u = σ) (QB D ad kk sz) (aL 96 ad sz)) (XB (M_count σ p1) D ad kk sz σ) 1 6 (aL 96 ad sz) := by
  refine vx_ofW (cc := cX4_count) (maxL := 2) (ret := (some .int)) (by decide) rfl ?_
  intro p e s m args below meth c s₁ B hml hEx hv
  obtain ⟨rfl, hsz, hP, hK, hD0, hE⟩ := hv
  have hx := B.exec
  have hb := B.bytes
  have hr := B.returns
  have hts := atoms_spec (ws := wsX4_count) B.pre
  have hown : s.vm.findClass RX4 = some m.cls := findClass_of_methodNamed B.named
  have hlocks := B.notSynchronized
  subst hsz
  have hD : va_D (aL 96 ad s.heap.size) (wB ad kk σ) := aL_D hD0
  have hS : va_S (aL 96 ad s.heap.size) s.heap s.heap [] := va_S.rf
  have hl := lv_entry ([.ref (ad 0), .int p1]) (n := 2) (Nat.le_of_ble_eq_true rfl)
  rw [lg_entry_eq]
  generalize (lg_sl ([.ref (ad 0), .int p1]) ++ List.replicate (2 - (lg_sl ([.ref (ad 0), .int p1])).length) Slot.unset).toArray = ls at hl ⊢
  have hl : lv_has ls 2 [(0, .ref (ad 0)), (1, .int p1)] := hl
  have CF : CallFix p m c cX4_count 2 s ([.ref (ad 0), .int p1] : List Value).toArray wsX4_count RX4 := ⟨hx, hb, hml, hown, hts⟩
  have ht : ∀ w ∈ T0, w.before ([.ref (ad 0), .int p1] : List Value).toArray s = true := fun w h => hts w (List.mem_cons_of_mem _ h)
  generalize hT : M_count σ p1 = T
  rw [M_count] at hT
  refine lv_iload_n hx hb dX4_count_0 rfl (lv_at hl 1 rfl) ?_
  by_cases c1_0 : p1 = 0
  · rw [if_pos c1_0] at hT
    refine lv_tableIn (tgt := 36) hx hb dX4_count_1 (by rw [c1_0]; decide) (by rw [c1_0]; decide) (by rw [c1_0]; rfl) (by decide) ?_
    refine lv_aload_n hx hb dX4_count_36 rfl (lv_at hl 0 rfl) ?_
    refine va_get (D := D) (ci := 4) (v := .ref (ad 1)) (C := RX4) (T := TX4) (N := 9) hx hb ht inX4 hown hK hP 0 g_MB rfl 0 (by decide) (ht _ mw_159) (fun _ h9 => h9) rfl dX4_count_37 ?_
    refine va_get (D := D) (ci := 2) (v := .int (gF σ 1 1)) (C := RX2) (T := TX2) (N := 3) hx hb ht inX2 hown hK hP 1 g_Pad rfl 1 (by decide) (ht _ mw_32) (fun _ h9 => h9) rfl dX4_count_40 ?_
    refine W.widen (k := 1) (n := 6) (by decide) (by decide) ?_
    exact vx_ret (W.iret (v := gF σ 1 1) hx hb hr (fun t ht hW => ⟨⟨gF σ 1 1, σ, rfl, ⟨hT, rfl⟩, by rw [ht]; exact hP, va_K.moved hW.alike hK, hD⟩, hS.F ht⟩) hS.2.2 dX4_count_43)
  · rw [if_neg c1_0] at hT
    by_cases c1_1 : p1 = 1
    · rw [if_pos c1_1] at hT
      refine lv_tableIn (tgt := 44) hx hb dX4_count_1 (by rw [c1_1]; decide) (by rw [c1_1]; decide) (by rw [c1_1]; rfl) (by decide) ?_
      refine lv_aload_n hx hb dX4_count_44 rfl (lv_at hl 0 rfl) ?_
      refine va_get (D := D) (ci := 4) (v := .int (gF σ 0 6)) (C := RX4) (T := TX4) (N := 9) hx hb ht inX4 hown hK hP 0 g_MB rfl 6 (by decide) (ht _ mw_165) (fun _ h9 => h9) rfl dX4_count_45 ?_
      refine W.widen (k := 1) (n := 6) (by decide) (by decide) ?_
      exact vx_ret (W.iret (v := gF σ 0 6) hx hb hr (fun t ht hW => ⟨⟨gF σ 0 6, σ, rfl, ⟨hT, rfl⟩, by rw [ht]; exact hP, va_K.moved hW.alike hK, hD⟩, hS.F ht⟩) hS.2.2 dX4_count_48)
    · rw [if_neg c1_1] at hT
      by_cases c1_2 : p1 = 2
      · rw [if_pos c1_2] at hT
        refine lv_tableIn (tgt := 49) hx hb dX4_count_1 (by rw [c1_2]; decide) (by rw [c1_2]; decide) (by rw [c1_2]; rfl) (by decide) ?_
        refine lv_aload_n hx hb dX4_count_49 rfl (lv_at hl 0 rfl) ?_
        refine va_get (D := D) (ci := 4) (v := .int (gF σ 0 7)) (C := RX4) (T := TX4) (N := 9) hx hb ht inX4 hown hK hP 0 g_MB rfl 7 (by decide) (ht _ mw_166) (fun _ h9 => h9) rfl dX4_count_50 ?_
        refine W.widen (k := 1) (n := 6) (by decide) (by decide) ?_
        exact vx_ret (W.iret (v := gF σ 0 7) hx hb hr (fun t ht hW => ⟨⟨gF σ 0 7, σ, rfl, ⟨hT, rfl⟩, by rw [ht]; exact hP, va_K.moved hW.alike hK, hD⟩, hS.F ht⟩) hS.2.2 dX4_count_53)
      · rw [if_neg c1_2] at hT
        by_cases c1_3 : p1 = 3
        · rw [if_pos c1_3] at hT
          refine lv_tableIn (tgt := 54) hx hb dX4_count_1 (by rw [c1_3]; decide) (by rw [c1_3]; decide) (by rw [c1_3]; rfl) (by decide) ?_
          refine lv_aload_n hx hb dX4_count_54 rfl (lv_at hl 0 rfl) ?_
          refine kB_i (va_runV (As := []) (rest := []) CF (k_rowsOfAll l D ad kk _ σ hI) ⟨callB_of 0 hts (gT mw_566) rfl rfl rfl (ht _ mw_1) (ht _ mw_563) (by decide +kernel) ⟨Nat.le_of_ble_eq_true rfl, Nat.le_of_ble_eq_true rfl⟩, (ht _ mw_565), (ht _ ms_22)⟩ (preV_B hK hP hD hE hS (ci := 4) rfl rfl g_MB) rfl rfl hl.1 rfl (lv_room (Nat.le_of_ble_eq_true rfl)) dX4_count_55 ⟨Nat.le_of_ble_eq_true rfl, Nat.le_of_ble_eq_true rfl⟩) hS (fun r2 u9 H locs hw hP hD hS => ?_)
          obtain ⟨rfl, e9⟩ := hw
          rw [e9] at hP hD
          refine W.widen (k := 1) (n := 6) (by decide) (by decide) ?_
          exact vx_ret (W.iret (v := M_rowsOfAll σ) hx hb hr (fun t ht hW => ⟨⟨M_rowsOfAll σ, σ, rfl, ⟨hT, rfl⟩, by rw [ht]; exact hP, va_K.moved hW.alike hK, hD⟩, hS.F ht⟩) hS.2.2 dX4_count_58)
        · rw [if_neg c1_3] at hT
          by_cases c1_4 : p1 = 4
          · rw [if_pos c1_4] at hT
            refine lv_tableIn (tgt := 59) hx hb dX4_count_1 (by rw [c1_4]; decide) (by rw [c1_4]; decide) (by rw [c1_4]; rfl) (by decide) ?_
            refine lv_aload_n hx hb dX4_count_59 rfl (lv_at hl 0 rfl) ?_
            refine va_get (D := D) (ci := 4) (v := .int (gF σ 0 8)) (C := RX4) (T := TX4) (N := 9) hx hb ht inX4 hown hK hP 0 g_MB rfl 8 (by decide) (ht _ mw_167) (fun _ h9 => h9) rfl dX4_count_60 ?_
            refine W.widen (k := 1) (n := 6) (by decide) (by decide) ?_
            exact vx_ret (W.iret (v := gF σ 0 8) hx hb hr (fun t ht hW => ⟨⟨gF σ 0 8, σ, rfl, ⟨hT, rfl⟩, by rw [ht]; exact hP, va_K.moved hW.alike hK, hD⟩, hS.F ht⟩) hS.2.2 dX4_count_63)
          · rw [if_neg c1_4] at hT
            refine lv_tableOut (tgt := 64) hx hb dX4_count_1 (sw_out5 c1_0 c1_1 c1_2 c1_3 c1_4) (by decide) ?_
            exact vx_throwS (own := RX4) (cls := "java/lang/IndexOutOfBoundsException") (names := th_n) hx hb hl9 hown thf_IndexOutOfBoundsException thf_n (ht _ mw_352) (ht _ mw_13) (hE.str (own := RX4) (k := 178) (tx := "what") (by decide +kernel)).choose_spec (vx_hat (B := th_B "java/lang/IndexOutOfBoundsException") (fun w hw => ht w (thw_IndexOutOfBoundsException w hw)) thb_IndexOutOfBoundsException (hE.th (by decide +kernel))) (thg_IndexOutOfBoundsException _) hE.1 hE.2.1 hS (hl.1.trans hml.symm) dX4_count_64 dX4_count_67 dX4_count_68 dX4_count_70 dX4_count_73 (fun x hx => (hEx x hx).elim) (Nat.le_of_ble_eq_true rfl) (Nat.le_of_ble_eq_true rfl) (Nat.le_of_ble_eq_true rfl) (Nat.le_of_ble_eq_true rfl) hlocks (fun t ha hsz hk => xB_end hT hK hP hD hS ha hsz hk) hS.2.2 (by decide) (by decide)
set_option maxHeartbeats 4000000 in
set_option maxRecDepth 100000 in
theorem k_plan (l : Launch) (hl9 : l.stackTraces = false) (D : va_G) (ad : Nat → Nat) (kk : Nat → ClassId) (sz : Nat) (σ : St) (p1 : Int32) (p2 : Int32) (hI : IB σ) : vx_Met l yX4_plan wsX4_plan { frames := 8, cells := 2, slots := 12, locals := 132 } (va_Pc [.ref (ad 0), .int p1, .int p2] (PB D ad kk sz σ)) (va_Qi (fun r u => .ok (r, u) = M_plan σ p1 p2) (QB D ad kk sz) (aL 96 ad sz)) (XB (M_plan σ p1 p2) D ad kk sz σ) 2 12 (aL 96 ad sz) := by
  refine vx_ofW (cc := cX4_plan) (maxL := 6) (ret := (some .int)) (by decide) rfl ?_
  intro p e s m args below meth c s₁ B hml hEx hv
  obtain ⟨rfl, hsz, hP, hK, hD0, hE⟩ := hv
  have hx := B.exec
  have hb := B.bytes
  have hr := B.returns
  have hts := atoms_spec (ws := wsX4_plan) B.pre
  have hown : s.vm.findClass RX4 = some m.cls := findClass_of_methodNamed B.named
  have hlocks := B.notSynchronized
  subst hsz
  have hD : va_D (aL 96 ad s.heap.size) (wB ad kk σ) := aL_D hD0
  have hS : va_S (aL 96 ad s.heap.size) s.heap s.heap [] := va_S.rf
  have hl := lv_entry ([.ref (ad 0), .int p1, .int p2]) (n := 6) (Nat.le_of_ble_eq_true rfl)
  rw [lg_entry_eq]
  generalize (lg_sl ([.ref (ad 0), .int p1, .int p2]) ++ List.replicate (6 - (lg_sl ([.ref (ad 0), .int p1, .int p2])).length) Slot.unset).toArray = ls at hl ⊢
  have hl : lv_has ls 6 [(0, .ref (ad 0)), (1, .int p1), (2, .int p2)] := hl
  have CF : CallFix p m c cX4_plan 6 s ([.ref (ad 0), .int p1, .int p2] : List Value).toArray wsX4_plan RX4 := ⟨hx, hb, hml, hown, hts⟩
  have ht : ∀ w ∈ T0, w.before ([.ref (ad 0), .int p1, .int p2] : List Value).toArray s = true := fun w h => hts w (List.mem_cons_of_mem _ h)
  generalize hT : M_plan σ p1 p2 = T
  rw [M_plan] at hT
  refine lv_aload_n hx hb dX4_plan_0 rfl (lv_at hl 0 rfl) ?_
  refine lv_iload_n hx hb dX4_plan_1 rfl (lv_at hl 1 rfl) ?_
  refine kX_q (vx_runV (As := [.int p1]) (rest := []) CF (k_pieceAt l hl9 D ad kk _ σ p1 hI) ⟨callB_of 1 hts (gT mw_386) rfl rfl rfl (ht _ mw_1) (ht _ mw_383) (by decide +kernel) ⟨Nat.le_of_ble_eq_true rfl, Nat.le_of_ble_eq_true rfl⟩, (ht _ mw_385), (ht _ ms_10)⟩ (preV_B hK hP hD hE hS (ci := 4) rfl rfl g_MB) rfl rfl hl.1 rfl (lv_room (Nat.le_of_ble_eq_true rfl)) dX4_plan_2 ⟨Nat.le_of_ble_eq_true rfl, Nat.le_of_ble_eq_true rfl⟩) hS hEx hlocks (by decide) (by decide) (fun E h => by rw [← h, xb_er] at hT; exact hT) (fun r1 u9 H locs hw hP hD hS => ?_)
  obtain ⟨r1, rfl, h_r1, e9⟩ := hw
  rw [e9] at hP hD
  have hi_r1 : r1 < 10 := (pAt_lt hI h_r1)
  refine W.eq (g2 := F0 m 5 ls (.ref (ad (pPi r1)) :: [])) rfl ?_
  rw [← h_r1, xb_ok] at hT
  refine lv_astore_n (lv' := [(3, .ref (ad (pPi r1))), (0, .ref (ad 0)), (1, .int p1), (2, .int p2)]) hx hb dX4_plan_5 rfl hl (by decide) rfl (fun ls hl => ?_)
  refine lv_iload_n hx hb dX4_plan_6 rfl (lv_at hl 3 rfl) ?_
  refine lv_aload_n hx hb dX4_plan_7 rfl (lv_at hl 1 rfl) ?_
  refine va_get (D := D) (ci := 4) (v := .int (gF σ 0 6)) (C := RX4) (T := TX4) (N := 9) hx hb ht inX4 hown hK hP 0 g_MB rfl 6 (by decide) (ht _ mw_165) (fun _ h9 => h9) rfl dX4_plan_8 ?_
  refine lv_iushr hx hb dX4_plan_11 rfl ?_
  refine lv_if_eq (tgt := 25) hx hb dX4_plan_12 (by decide) (fun c2 => ?_) (fun c2 => ?_)
  · rw [if_pos c2] at hT
    refine lv_aload_n hx hb dX4_plan_25 rfl (lv_at hl 1 rfl) ?_
    refine lv_iload_n hx hb dX4_plan_26 rfl (lv_at hl 3 rfl) ?_
    refine kB_i (va_runV (As := [.int p2]) (rest := []) CF (k_withAllAhead l D ad kk _ σ p2 hI) ⟨callB_of 1 hts (gT mw_519) rfl rfl rfl (ht _ mw_1) (ht _ mw_516) (by decide +kernel) ⟨Nat.le_of_ble_eq_true rfl, Nat.le_of_ble_eq_true rfl⟩, (ht _ mw_518), (ht _ ms_16)⟩ (preV_B hK hP hD hE hS (ci := 4) rfl rfl g_MB) rfl rfl hl.1 rfl (lv_room (Nat.le_of_ble_eq_true rfl)) dX4_plan_27 ⟨Nat.le_of_ble_eq_true rfl, Nat.le_of_ble_eq_true rfl⟩) hS (fun r3 u9 H locs hw hP hD hS => ?_)
    obtain ⟨rfl, e9⟩ := hw
    rw [e9] at hP hD
    refine lv_aload_n hx hb dX4_plan_30 rfl (lv_at hl 0 rfl) ?_
    refine va_get (D := D) (ci := 3) (v := .int (gF σ (pPi r1) 6)) (C := RX3) (T := TX3) (N := 8) hx hb ht inX3 hown hK hP (pPi r1) (g_Pi hi_r1) rfl 6 (by decide) (ht _ mw_112) (fun _ h9 => h9) rfl dX4_plan_31 ?_
    refine lv_iconst (v := (-1)) hx hb dX4_plan_34 (by decide) ?_
    refine lv_ixor hx hb dX4_plan_35 ?_
    refine lv_iand hx hb dX4_plan_36 ?_
    refine lv_istore (lv' := [(4, .int ((M_withAllAhead σ p2) &&& ((gF σ (pPi r1) 6) ^^^ (-1)))), (3, .ref (ad (pPi r1))), (0, .ref (ad 0)), (1, .int p1), (2, .int p2)]) hx hb dX4_plan_37 hl (by decide) rfl (fun ls hl => ?_)
    refine lv_iload hx hb dX4_plan_39 (lv_at hl 0 rfl) ?_
    refine vp_callSi (W.runS (As := [.int ((M_withAllAhead σ p2) &&& ((gF σ (pPi r1) 6) ^^^ (-1)))]) (rest := []) CF (k_bitCount l ((M_withAllAhead σ p2) &&& ((gF σ (pPi r1) 6) ^^^ (-1)))) ⟨callB_of 1 hts (gT mw_522) rfl rfl rfl (ht _ mw_14) (ht _ mw_520) (by decide +kernel) ⟨Nat.le_of_ble_eq_true rfl, Nat.le_of_ble_eq_true rfl⟩, (ht _ mw_521)⟩ preEq rfl rfl hl.1 rfl (lv_room (Nat.le_of_ble_eq_true rfl)) dX4_plan_41 ⟨Nat.le_of_ble_eq_true rfl, Nat.le_of_ble_eq_true rfl⟩) (fun r4 h_r4 => ?_)
    obtain rfl := h_r4
    refine lv_istore (lv' := [(5, .int (M_bitCount ((M_withAllAhead σ p2) &&& ((gF σ (pPi r1) 6) ^^^ (-1))))), (4, .int ((M_withAllAhead σ p2) &&& ((gF σ (pPi r1) 6) ^^^ (-1)))), (3, .ref (ad (pPi r1))), (0, .ref (ad 0)), (1, .int p1), (2, .int p2)]) hx hb dX4_plan_44 hl (by decide) rfl (fun ls hl => ?_)
    refine lv_iload hx hb dX4_plan_46 (lv_at hl 0 rfl) ?_
    refine lv_bipush (v := 10) hx hb dX4_plan_48 (by decide) ?_
    refine lv_icmp_le (tgt := 56) hx hb dX4_plan_50 (by decide) (fun c5 => ?_) (fun c5 => ?_)
    · rw [if_pos c5] at hT
      have hle := c5
      refine lv_aload_n hx hb dX4_plan_56 rfl (lv_at hl 3 rfl) ?_
      refine lv_aload_n hx hb dX4_plan_57 rfl (lv_at hl 2 rfl) ?_
      refine lv_iload hx hb dX4_plan_58 (lv_at hl 1 rfl) ?_
      refine kB_i (va_runV (As := [.ref (ad (pPi r1)), .int ((M_withAllAhead σ p2) &&& ((gF σ (pPi r1) 6) ^^^ (-1)))]) (rest := []) CF (k_eachMayBeDone l D ad kk _ σ r1 ((M_withAllAhead σ p2) &&& ((gF σ (pPi r1) 6) ^^^ (-1))) hi_r1 hI) ⟨callB_of 2 hts (gT mw_529) rfl rfl rfl (ht _ mw_1) (ht _ mw_526) (by decide +kernel) ⟨Nat.le_of_ble_eq_true rfl, Nat.le_of_ble_eq_true rfl⟩, (ht _ mw_528), (ht _ ms_17)⟩ (preV_B hK hP hD hE hS (ci := 4) rfl rfl g_MB) rfl rfl hl.1 rfl (lv_room (Nat.le_of_ble_eq_true rfl)) dX4_plan_60 ⟨Nat.le_of_ble_eq_true rfl, Nat.le_of_ble_eq_true rfl⟩) hS (fun r6 u9 H locs hw hP hD hS => ?_)
      obtain ⟨rfl, e9⟩ := hw
      rw [e9] at hP hD
      refine lv_if_eq (tgt := 77) hx hb dX4_plan_63 (by decide) (fun c7 => ?_) (fun c7 => ?_)
      · rw [if_pos c7] at hT
        refine lv_iconst (v := (-1)) hx hb dX4_plan_77 (by decide) ?_
        refine W.widen (k := 2) (n := 12) (by decide) (by decide) ?_
        exact vx_ret (W.iret (v := (-1)) hx hb hr (fun t ht hW => ⟨⟨(-1), σ, rfl, hT, by rw [ht]; exact hP, va_K.moved hW.alike hK, hD⟩, hS.F ht⟩) hS.2.2 dX4_plan_78)
      · rw [if_neg c7] at hT
        refine lv_aload_n hx hb dX4_plan_66 rfl (lv_at hl 3 rfl) ?_
        refine lv_iload hx hb dX4_plan_67 (lv_at hl 1 rfl) ?_
        refine lv_iload hx hb dX4_plan_69 (lv_at hl 0 rfl) ?_
        refine kB_i (va_runV (As := [.int ((M_withAllAhead σ p2) &&& ((gF σ (pPi r1) 6) ^^^ (-1))), .int (M_bitCount ((M_withAllAhead σ p2) &&& ((gF σ (pPi r1) 6) ^^^ (-1))))]) (rest := []) CF (k_putInOrder l D ad kk _ σ ((M_withAllAhead σ p2) &&& ((gF σ (pPi r1) 6) ^^^ (-1))) (M_bitCount ((M_withAllAhead σ p2) &&& ((gF σ (pPi r1) 6) ^^^ (-1)))) hI) ⟨callB_of 2 hts (gT mw_537) rfl rfl rfl (ht _ mw_1) (ht _ mw_534) (by decide +kernel) ⟨Nat.le_of_ble_eq_true rfl, Nat.le_of_ble_eq_true rfl⟩, (ht _ mw_536), (ht _ ms_19)⟩ (preV_B hK hP hD hE hS (ci := 4) rfl rfl g_MB) rfl rfl hl.1 rfl (lv_room (Nat.le_of_ble_eq_true rfl)) dX4_plan_71 ⟨Nat.le_of_ble_eq_true rfl, Nat.le_of_ble_eq_true rfl⟩) hS (fun r8 σ9 H locs hw hP hD hS => ?_)
        rw [← hw, pb_mk] at hT
        have h_r8 := hw
        refine lv_if_ne (tgt := 79) hx hb dX4_plan_74 (by decide) (fun c10 => ?_) (fun c10 => ?_)
        · rw [if_neg c10] at hT
          refine lv_aload_n hx hb dX4_plan_79 rfl (lv_at hl 3 rfl) ?_
          refine va_get (D := D) (ci := 4) (v := .ref (ad 95)) (C := RX4) (T := TX4) (N := 9) hx hb ht inX4 hown hK hP 0 g_MB rfl 5 (by decide) (ht _ mw_164) (fun _ h9 => h9) rfl dX4_plan_80 ?_
          refine lv_iconst (v := 0) hx hb dX4_plan_83 (by decide) ?_
          refine lv_aload_n hx hb dX4_plan_84 rfl (lv_at hl 3 rfl) ?_
          refine va_get (D := D) (ci := 4) (v := .ref (ad 94)) (C := RX4) (T := TX4) (N := 9) hx hb ht inX4 hown hK hP 0 g_MB rfl 4 (by decide) (ht _ mw_163) (fun _ h9 => h9) rfl dX4_plan_85 ?_
          refine lv_iconst (v := 0) hx hb dX4_plan_88 (by decide) ?_
          refine lv_iload hx hb dX4_plan_89 (lv_at hl 0 rfl) ?_
          refine va_copyi (sp := 0) (dp := 0) (n := M_bitCount ((M_withAllAhead σ p2) &&& ((gF σ (pPi r1) 6) ^^^ (-1)))) hx hb (hml.trans hl.1.symm) hown (ht _ mw_546) (ht _ mw_548) (ht _ mw_547) (ht _ mw_15) hK hP hD hS 95 94 0 0 g_draft g_planned rfl rfl rfl (by decide) (by decide) (bc_nn _) (bc_10 hle) (bc_10 hle) (fun i _ => rfl) (Nat.le_of_ble_eq_true rfl) (Nat.le_of_ble_eq_true rfl) dX4_plan_91 (fun H locs hP hD hS => ?_)
          rw [s_cp_draft_planned] at hP hD
          refine lv_aload_n hx hb dX4_plan_94 rfl (lv_at hl 3 rfl) ?_
          refine lv_iload hx hb dX4_plan_95 (lv_at hl 0 rfl) ?_
          refine va_put (D := D) (ci := 4) (v := .int (M_bitCount ((M_withAllAhead σ p2) &&& ((gF σ (pPi r1) 6) ^^^ (-1))))) (ty := .int) (C := RX4) (T := TX4) (N := 9) hx hb ht inX4 tyX4 tyX4_ok nmX4 hown hK hP hD hS 0 g_MB rfl 8 (by decide) (ht _ mw_167) (fun _ h9 => h9) rfl (by decide +kernel) rfl rfl (Nat.le_of_ble_eq_true rfl) dX4_plan_97 (fun H locs hP hD hS => ?_)
          rw [s_MB_8] at hP hD
          refine lv_iload hx hb dX4_plan_100 (lv_at hl 0 rfl) ?_
          refine W.widen (k := 2) (n := 12) (by decide) (by decide) ?_
          exact vx_ret (W.iret (v := M_bitCount ((M_withAllAhead σ p2) &&& ((gF σ (pPi r1) 6) ^^^ (-1)))) hx hb hr (fun t ht hW => ⟨⟨M_bitCount ((M_withAllAhead σ p2) &&& ((gF σ (pPi r1) 6) ^^^ (-1))), (sF (cpA σ9 95 94 (0 : Int32).toNatClampNeg (0 : Int32).toNatClampNeg (M_bitCount ((M_withAllAhead σ p2) &&& ((gF σ (pPi r1) 6) ^^^ (-1)))).toNatClampNeg) 0 8 (M_bitCount ((M_withAllAhead σ p2) &&& ((gF σ (pPi r1) 6) ^^^ (-1))))), rfl, hT, by rw [ht]; exact hP, va_K.moved hW.alike hK, hD⟩, hS.F ht⟩) hS.2.2 dX4_plan_102)
        · rw [if_pos c10] at hT
          refine lv_iconst (v := (-1)) hx hb dX4_plan_77 (by decide) ?_
          refine W.widen (k := 2) (n := 12) (by decide) (by decide) ?_
          exact vx_ret (W.iret (v := (-1)) hx hb hr (fun t ht hW => ⟨⟨(-1), σ9, rfl, hT, by rw [ht]; exact hP, va_K.moved hW.alike hK, hD⟩, hS.F ht⟩) hS.2.2 dX4_plan_78)
    · rw [if_neg c5] at hT
      refine lv_bipush (v := (-2)) hx hb dX4_plan_53 (by decide) ?_
      refine W.widen (k := 2) (n := 12) (by decide) (by decide) ?_
      exact vx_ret (W.iret (v := (-2)) hx hb hr (fun t ht hW => ⟨⟨(-2), σ, rfl, hT, by rw [ht]; exact hP, va_K.moved hW.alike hK, hD⟩, hS.F ht⟩) hS.2.2 dX4_plan_55)
  · rw [if_neg c2] at hT
    exact vx_throwS (own := RX4) (cls := "java/lang/IndexOutOfBoundsException") (names := th_n) hx hb hl9 hown thf_IndexOutOfBoundsException thf_n (ht _ mw_352) (ht _ mw_13) (hE.str (own := RX4) (k := 190) (tx := "set") (by decide +kernel)).choose_spec (vx_hat (B := th_B "java/lang/IndexOutOfBoundsException") (fun w hw => ht w (thw_IndexOutOfBoundsException w hw)) thb_IndexOutOfBoundsException (hE.th (by decide +kernel))) (thg_IndexOutOfBoundsException _) hE.1 hE.2.1 hS (hl.1.trans hml.symm) dX4_plan_15 dX4_plan_18 dX4_plan_19 dX4_plan_21 dX4_plan_24 (fun x hx => (hEx x hx).elim) (Nat.le_of_ble_eq_true rfl) (Nat.le_of_ble_eq_true rfl) (Nat.le_of_ble_eq_true rfl) (Nat.le_of_ble_eq_true rfl) hlocks (fun t ha hsz hk => xB_end hT hK hP hD hS ha hsz hk) hS.2.2 (by decide) (by decide)
end
