section
-- ===== PART A: goes FIRST, ahead of the names: the tables' words, and 'selects' of the private methods out of them =====
/-- a private method of a class that the tables say can be made, by its rows of tables_1 -/
def lw_okq (q : MethodName × Nat) : Prop := (q.1.cls ≠ "java/lang/invoke/MethodHandle" ∧ q.1.cls ≠ "java/lang/invoke/VarHandle") ∧ Cond.instantiable q.1.cls q.2 ∈ tables_1 ∧ Cond.privateMethod q.1 ∈ tables_1 ∧ Cond.instanceMethod q.1 ∈ tables_1
theorem lw_p0 : lw_okq (⟨"SlabKitchen", "gainsOf", "(LSlabKitchen$Kind;)I"⟩, 7) := ⟨⟨by decide +kernel, by decide +kernel⟩, List.mem_of_getElem? (i := 15) (by decide +kernel), List.mem_of_getElem? (i := 90) (by decide +kernel), List.mem_of_getElem? (i := 91) (by decide +kernel)⟩
theorem lw_p1 : lw_okq (⟨"SlabKitchen", "takenShelves", "()I"⟩, 7) := ⟨⟨by decide +kernel, by decide +kernel⟩, List.mem_of_getElem? (i := 15) (by decide +kernel), List.mem_of_getElem? (i := 110) (by decide +kernel), List.mem_of_getElem? (i := 111) (by decide +kernel)⟩
theorem lw_p2 : lw_okq (⟨"SlabKitchen", "freeShelves", "()I"⟩, 7) := ⟨⟨by decide +kernel, by decide +kernel⟩, List.mem_of_getElem? (i := 15) (by decide +kernel), List.mem_of_getElem? (i := 114) (by decide +kernel), List.mem_of_getElem? (i := 115) (by decide +kernel)⟩
theorem lw_p3 : lw_okq (⟨"SlabKitchen", "bowlsInAll", "()I"⟩, 7) := ⟨⟨by decide +kernel, by decide +kernel⟩, List.mem_of_getElem? (i := 15) (by decide +kernel), List.mem_of_getElem? (i := 118) (by decide +kernel), List.mem_of_getElem? (i := 119) (by decide +kernel)⟩
theorem lw_p4 : lw_okq (⟨"java/lang/Throwable", "fillInStackTrace", "(I)Ljava/lang/Throwable;"⟩, 6) := ⟨⟨by decide +kernel, by decide +kernel⟩, List.mem_of_getElem? (i := 172) (by decide +kernel), List.mem_of_getElem? (i := 170) (by decide +kernel), List.mem_of_getElem? (i := 171) (by decide +kernel)⟩
theorem lw_p5 : lw_okq (⟨"SlabKitchen", "spansUnderBowls", "()I"⟩, 7) := ⟨⟨by decide +kernel, by decide +kernel⟩, List.mem_of_getElem? (i := 15) (by decide +kernel), List.mem_of_getElem? (i := 202) (by decide +kernel), List.mem_of_getElem? (i := 203) (by decide +kernel)⟩
theorem lw_p6 : lw_okq (⟨"SlabKitchen", "spansOfNoPlace", "()I"⟩, 7) := ⟨⟨by decide +kernel, by decide +kernel⟩, List.mem_of_getElem? (i := 15) (by decide +kernel), List.mem_of_getElem? (i := 206) (by decide +kernel), List.mem_of_getElem? (i := 207) (by decide +kernel)⟩
theorem lw_p7 : lw_okq (⟨"SlabKitchen", "mixedWithKind", "(JLSlabKitchen$Kind;)J"⟩, 7) := ⟨⟨by decide +kernel, by decide +kernel⟩, List.mem_of_getElem? (i := 15) (by decide +kernel), List.mem_of_getElem? (i := 230) (by decide +kernel), List.mem_of_getElem? (i := 231) (by decide +kernel)⟩
theorem lw_p8 : lw_okq (⟨"SlabKitchen", "answerAbout", "(LSlabKitchen$Kind;I)I"⟩, 7) := ⟨⟨by decide +kernel, by decide +kernel⟩, List.mem_of_getElem? (i := 15) (by decide +kernel), List.mem_of_getElem? (i := 234) (by decide +kernel), List.mem_of_getElem? (i := 235) (by decide +kernel)⟩
theorem lw_p9 : lw_okq (⟨"SlabKitchen", "shelvesOf", "(LSlabKitchen$Kind;)I"⟩, 7) := ⟨⟨by decide +kernel, by decide +kernel⟩, List.mem_of_getElem? (i := 15) (by decide +kernel), List.mem_of_getElem? (i := 238) (by decide +kernel), List.mem_of_getElem? (i := 239) (by decide +kernel)⟩
theorem lw_p10 : lw_okq (⟨"SlabKitchen", "shelvesInState", "(LSlabKitchen$Kind;I)I"⟩, 7) := ⟨⟨by decide +kernel, by decide +kernel⟩, List.mem_of_getElem? (i := 15) (by decide +kernel), List.mem_of_getElem? (i := 242) (by decide +kernel), List.mem_of_getElem? (i := 243) (by decide +kernel)⟩
theorem lw_p11 : lw_okq (⟨"SlabKitchen", "bowlsOf", "(LSlabKitchen$Kind;)I"⟩, 7) := ⟨⟨by decide +kernel, by decide +kernel⟩, List.mem_of_getElem? (i := 15) (by decide +kernel), List.mem_of_getElem? (i := 246) (by decide +kernel), List.mem_of_getElem? (i := 247) (by decide +kernel)⟩
theorem lw_p12 : lw_okq (⟨"SlabKitchen", "nextSpot", "(LSlabKitchen$Kind;)I"⟩, 7) := ⟨⟨by decide +kernel, by decide +kernel⟩, List.mem_of_getElem? (i := 15) (by decide +kernel), List.mem_of_getElem? (i := 250) (by decide +kernel), List.mem_of_getElem? (i := 251) (by decide +kernel)⟩
theorem lw_p13 : lw_okq (⟨"SlabKitchen", "shelfToPut", "(LSlabKitchen$Kind;)LSlabKitchen$Shelf;"⟩, 7) := ⟨⟨by decide +kernel, by decide +kernel⟩, List.mem_of_getElem? (i := 15) (by decide +kernel), List.mem_of_getElem? (i := 254) (by decide +kernel), List.mem_of_getElem? (i := 255) (by decide +kernel)⟩
theorem lw_p14 : lw_okq (⟨"SlabKitchen", "inUseByWay", "(LSlabKitchen$Kind;)LSlabKitchen$Shelf;"⟩, 7) := ⟨⟨by decide +kernel, by decide +kernel⟩, List.mem_of_getElem? (i := 15) (by decide +kernel), List.mem_of_getElem? (i := 258) (by decide +kernel), List.mem_of_getElem? (i := 259) (by decide +kernel)⟩
theorem lw_p15 : lw_okq (⟨"SlabKitchen", "mostBowls", "(LSlabKitchen$Kind;LSlabKitchen$Shelf;)LSlabKitchen$Shelf;"⟩, 7) := ⟨⟨by decide +kernel, by decide +kernel⟩, List.mem_of_getElem? (i := 15) (by decide +kernel), List.mem_of_getElem? (i := 262) (by decide +kernel), List.mem_of_getElem? (i := 263) (by decide +kernel)⟩
def lw_privs_1 : List (MethodName × Nat) := [(⟨"SlabKitchen", "gainsOf", "(LSlabKitchen$Kind;)I"⟩, 7), (⟨"SlabKitchen", "takenShelves", "()I"⟩, 7), (⟨"SlabKitchen", "freeShelves", "()I"⟩, 7), (⟨"SlabKitchen", "bowlsInAll", "()I"⟩, 7), (⟨"java/lang/Throwable", "fillInStackTrace", "(I)Ljava/lang/Throwable;"⟩, 6), (⟨"SlabKitchen", "spansUnderBowls", "()I"⟩, 7), (⟨"SlabKitchen", "spansOfNoPlace", "()I"⟩, 7), (⟨"SlabKitchen", "mixedWithKind", "(JLSlabKitchen$Kind;)J"⟩, 7), (⟨"SlabKitchen", "answerAbout", "(LSlabKitchen$Kind;I)I"⟩, 7), (⟨"SlabKitchen", "shelvesOf", "(LSlabKitchen$Kind;)I"⟩, 7), (⟨"SlabKitchen", "shelvesInState", "(LSlabKitchen$Kind;I)I"⟩, 7), (⟨"SlabKitchen", "bowlsOf", "(LSlabKitchen$Kind;)I"⟩, 7), (⟨"SlabKitchen", "nextSpot", "(LSlabKitchen$Kind;)I"⟩, 7), (⟨"SlabKitchen", "shelfToPut", "(LSlabKitchen$Kind;)LSlabKitchen$Shelf;"⟩, 7), (⟨"SlabKitchen", "inUseByWay", "(LSlabKitchen$Kind;)LSlabKitchen$Shelf;"⟩, 7), (⟨"SlabKitchen", "mostBowls", "(LSlabKitchen$Kind;LSlabKitchen$Shelf;)LSlabKitchen$Shelf;"⟩, 7)]
theorem lw_r1 : ∀ q ∈ lw_privs_1, lw_okq q := List.forall_mem_cons.mpr ⟨lw_p0, List.forall_mem_cons.mpr ⟨lw_p1, List.forall_mem_cons.mpr ⟨lw_p2, List.forall_mem_cons.mpr ⟨lw_p3, List.forall_mem_cons.mpr ⟨lw_p4, List.forall_mem_cons.mpr ⟨lw_p5, List.forall_mem_cons.mpr ⟨lw_p6, List.forall_mem_cons.mpr ⟨lw_p7, List.forall_mem_cons.mpr ⟨lw_p8, List.forall_mem_cons.mpr ⟨lw_p9, List.forall_mem_cons.mpr ⟨lw_p10, List.forall_mem_cons.mpr ⟨lw_p11, List.forall_mem_cons.mpr ⟨lw_p12, List.forall_mem_cons.mpr ⟨lw_p13, List.forall_mem_cons.mpr ⟨lw_p14, List.forall_mem_cons.mpr ⟨lw_p15, fun _ h => absurd h List.not_mem_nil⟩⟩⟩⟩⟩⟩⟩⟩⟩⟩⟩⟩⟩⟩⟩⟩
theorem lw_p16 : lw_okq (⟨"SlabKitchen", "fewestBowls", "(LSlabKitchen$Kind;)LSlabKitchen$Shelf;"⟩, 7) := ⟨⟨by decide +kernel, by decide +kernel⟩, List.mem_of_getElem? (i := 15) (by decide +kernel), List.mem_of_getElem? (i := 266) (by decide +kernel), List.mem_of_getElem? (i := 267) (by decide +kernel)⟩
theorem lw_p17 : lw_okq (⟨"SlabKitchen", "firstInState", "(LSlabKitchen$Kind;I)LSlabKitchen$Shelf;"⟩, 7) := ⟨⟨by decide +kernel, by decide +kernel⟩, List.mem_of_getElem? (i := 15) (by decide +kernel), List.mem_of_getElem? (i := 270) (by decide +kernel), List.mem_of_getElem? (i := 271) (by decide +kernel)⟩
theorem lw_p18 : lw_okq (⟨"SlabKitchen", "firstFree", "()LSlabKitchen$Shelf;"⟩, 7) := ⟨⟨by decide +kernel, by decide +kernel⟩, List.mem_of_getElem? (i := 15) (by decide +kernel), List.mem_of_getElem? (i := 274) (by decide +kernel), List.mem_of_getElem? (i := 275) (by decide +kernel)⟩
theorem lw_p19 : lw_okq (⟨"SlabKitchen", "kindOf", "(I)LSlabKitchen$Kind;"⟩, 7) := ⟨⟨by decide +kernel, by decide +kernel⟩, List.mem_of_getElem? (i := 15) (by decide +kernel), List.mem_of_getElem? (i := 374) (by decide +kernel), List.mem_of_getElem? (i := 375) (by decide +kernel)⟩
theorem lw_p20 : lw_okq (⟨"SlabKitchen", "shelfAt", "(I)LSlabKitchen$Shelf;"⟩, 7) := ⟨⟨by decide +kernel, by decide +kernel⟩, List.mem_of_getElem? (i := 15) (by decide +kernel), List.mem_of_getElem? (i := 399) (by decide +kernel), List.mem_of_getElem? (i := 400) (by decide +kernel)⟩
theorem lw_p21 : lw_okq (⟨"SlabKitchen", "moveToPack", "(LSlabKitchen$Kind;)Z"⟩, 7) := ⟨⟨by decide +kernel, by decide +kernel⟩, List.mem_of_getElem? (i := 15) (by decide +kernel), List.mem_of_getElem? (i := 432) (by decide +kernel), List.mem_of_getElem? (i := 433) (by decide +kernel)⟩
theorem lw_p22 : lw_okq (⟨"SlabKitchen", "lastFewestBowls", "(LSlabKitchen$Kind;)LSlabKitchen$Shelf;"⟩, 7) := ⟨⟨by decide +kernel, by decide +kernel⟩, List.mem_of_getElem? (i := 15) (by decide +kernel), List.mem_of_getElem? (i := 436) (by decide +kernel), List.mem_of_getElem? (i := 437) (by decide +kernel)⟩
theorem lw_p23 : lw_okq (⟨"SlabKitchen", "gapsOf", "(LSlabKitchen$Kind;)I"⟩, 7) := ⟨⟨by decide +kernel, by decide +kernel⟩, List.mem_of_getElem? (i := 15) (by decide +kernel), List.mem_of_getElem? (i := 484) (by decide +kernel), List.mem_of_getElem? (i := 485) (by decide +kernel)⟩
theorem lw_p24 : lw_okq (⟨"SlabKitchenModel", "no", "(I)I"⟩, 14) := ⟨⟨by decide +kernel, by decide +kernel⟩, List.mem_of_getElem? (i := 503) (by decide +kernel), List.mem_of_getElem? (i := 564) (by decide +kernel), List.mem_of_getElem? (i := 565) (by decide +kernel)⟩
theorem lw_p25 : lw_okq (⟨"SlabKitchenModel", "isKind", "(I)Z"⟩, 14) := ⟨⟨by decide +kernel, by decide +kernel⟩, List.mem_of_getElem? (i := 503) (by decide +kernel), List.mem_of_getElem? (i := 576) (by decide +kernel), List.mem_of_getElem? (i := 577) (by decide +kernel)⟩
theorem lw_p26 : lw_okq (⟨"SlabKitchenModel", "shelfFor", "(I)I"⟩, 14) := ⟨⟨by decide +kernel, by decide +kernel⟩, List.mem_of_getElem? (i := 503) (by decide +kernel), List.mem_of_getElem? (i := 580) (by decide +kernel), List.mem_of_getElem? (i := 581) (by decide +kernel)⟩
theorem lw_p27 : lw_okq (⟨"SlabKitchenModel", "isUsed", "(II)Z"⟩, 14) := ⟨⟨by decide +kernel, by decide +kernel⟩, List.mem_of_getElem? (i := 503) (by decide +kernel), List.mem_of_getElem? (i := 584) (by decide +kernel), List.mem_of_getElem? (i := 585) (by decide +kernel)⟩
theorem lw_p28 : lw_okq (⟨"SlabKitchenModel", "isFull", "(I)Z"⟩, 14) := ⟨⟨by decide +kernel, by decide +kernel⟩, List.mem_of_getElem? (i := 503) (by decide +kernel), List.mem_of_getElem? (i := 588) (by decide +kernel), List.mem_of_getElem? (i := 589) (by decide +kernel)⟩
theorem lw_p29 : lw_okq (⟨"SlabKitchenModel", "many", "(I)I"⟩, 14) := ⟨⟨by decide +kernel, by decide +kernel⟩, List.mem_of_getElem? (i := 503) (by decide +kernel), List.mem_of_getElem? (i := 592) (by decide +kernel), List.mem_of_getElem? (i := 593) (by decide +kernel)⟩
theorem lw_p30 : lw_okq (⟨"SlabKitchenModel", "places", "(I)I"⟩, 14) := ⟨⟨by decide +kernel, by decide +kernel⟩, List.mem_of_getElem? (i := 503) (by decide +kernel), List.mem_of_getElem? (i := 602) (by decide +kernel), List.mem_of_getElem? (i := 603) (by decide +kernel)⟩
theorem lw_p31 : lw_okq (⟨"SlabKitchenModel", "isBetter", "(II)Z"⟩, 14) := ⟨⟨by decide +kernel, by decide +kernel⟩, List.mem_of_getElem? (i := 503) (by decide +kernel), List.mem_of_getElem? (i := 606) (by decide +kernel), List.mem_of_getElem? (i := 607) (by decide +kernel)⟩
def lw_privs_2 : List (MethodName × Nat) := [(⟨"SlabKitchen", "fewestBowls", "(LSlabKitchen$Kind;)LSlabKitchen$Shelf;"⟩, 7), (⟨"SlabKitchen", "firstInState", "(LSlabKitchen$Kind;I)LSlabKitchen$Shelf;"⟩, 7), (⟨"SlabKitchen", "firstFree", "()LSlabKitchen$Shelf;"⟩, 7), (⟨"SlabKitchen", "kindOf", "(I)LSlabKitchen$Kind;"⟩, 7), (⟨"SlabKitchen", "shelfAt", "(I)LSlabKitchen$Shelf;"⟩, 7), (⟨"SlabKitchen", "moveToPack", "(LSlabKitchen$Kind;)Z"⟩, 7), (⟨"SlabKitchen", "lastFewestBowls", "(LSlabKitchen$Kind;)LSlabKitchen$Shelf;"⟩, 7), (⟨"SlabKitchen", "gapsOf", "(LSlabKitchen$Kind;)I"⟩, 7), (⟨"SlabKitchenModel", "no", "(I)I"⟩, 14), (⟨"SlabKitchenModel", "isKind", "(I)Z"⟩, 14), (⟨"SlabKitchenModel", "shelfFor", "(I)I"⟩, 14), (⟨"SlabKitchenModel", "isUsed", "(II)Z"⟩, 14), (⟨"SlabKitchenModel", "isFull", "(I)Z"⟩, 14), (⟨"SlabKitchenModel", "many", "(I)I"⟩, 14), (⟨"SlabKitchenModel", "places", "(I)I"⟩, 14), (⟨"SlabKitchenModel", "isBetter", "(II)Z"⟩, 14)]
theorem lw_r2 : ∀ q ∈ lw_privs_2, lw_okq q := List.forall_mem_cons.mpr ⟨lw_p16, List.forall_mem_cons.mpr ⟨lw_p17, List.forall_mem_cons.mpr ⟨lw_p18, List.forall_mem_cons.mpr ⟨lw_p19, List.forall_mem_cons.mpr ⟨lw_p20, List.forall_mem_cons.mpr ⟨lw_p21, List.forall_mem_cons.mpr ⟨lw_p22, List.forall_mem_cons.mpr ⟨lw_p23, List.forall_mem_cons.mpr ⟨lw_p24, List.forall_mem_cons.mpr ⟨lw_p25, List.forall_mem_cons.mpr ⟨lw_p26, List.forall_mem_cons.mpr ⟨lw_p27, List.forall_mem_cons.mpr ⟨lw_p28, List.forall_mem_cons.mpr ⟨lw_p29, List.forall_mem_cons.mpr ⟨lw_p30, List.forall_mem_cons.mpr ⟨lw_p31, fun _ h => absurd h List.not_mem_nil⟩⟩⟩⟩⟩⟩⟩⟩⟩⟩⟩⟩⟩⟩⟩⟩
theorem lw_p32 : lw_okq (⟨"SlabKitchenModel", "isEmpty", "(II)Z"⟩, 14) := ⟨⟨by decide +kernel, by decide +kernel⟩, List.mem_of_getElem? (i := 503) (by decide +kernel), List.mem_of_getElem? (i := 610) (by decide +kernel), List.mem_of_getElem? (i := 611) (by decide +kernel)⟩
theorem lw_p33 : lw_okq (⟨"SlabKitchenModel", "isFree", "(I)Z"⟩, 14) := ⟨⟨by decide +kernel, by decide +kernel⟩, List.mem_of_getElem? (i := 503) (by decide +kernel), List.mem_of_getElem? (i := 614) (by decide +kernel), List.mem_of_getElem? (i := 615) (by decide +kernel)⟩
theorem lw_p34 : lw_okq (⟨"SlabKitchenModel", "placed", "(II)I"⟩, 14) := ⟨⟨by decide +kernel, by decide +kernel⟩, List.mem_of_getElem? (i := 503) (by decide +kernel), List.mem_of_getElem? (i := 618) (by decide +kernel), List.mem_of_getElem? (i := 619) (by decide +kernel)⟩
theorem lw_p35 : lw_okq (⟨"SlabKitchenModel", "own", "(II)V"⟩, 14) := ⟨⟨by decide +kernel, by decide +kernel⟩, List.mem_of_getElem? (i := 503) (by decide +kernel), List.mem_of_getElem? (i := 622) (by decide +kernel), List.mem_of_getElem? (i := 623) (by decide +kernel)⟩
theorem lw_p36 : lw_okq (⟨"SlabKitchenModel", "nextRim", "(I)I"⟩, 14) := ⟨⟨by decide +kernel, by decide +kernel⟩, List.mem_of_getElem? (i := 503) (by decide +kernel), List.mem_of_getElem? (i := 626) (by decide +kernel), List.mem_of_getElem? (i := 627) (by decide +kernel)⟩
theorem lw_p37 : lw_okq (⟨"SlabKitchenModel", "rest", "(I)I"⟩, 14) := ⟨⟨by decide +kernel, by decide +kernel⟩, List.mem_of_getElem? (i := 503) (by decide +kernel), List.mem_of_getElem? (i := 630) (by decide +kernel), List.mem_of_getElem? (i := 631) (by decide +kernel)⟩
theorem lw_p38 : lw_okq (⟨"SlabKitchenModel", "hole", "(I)I"⟩, 14) := ⟨⟨by decide +kernel, by decide +kernel⟩, List.mem_of_getElem? (i := 503) (by decide +kernel), List.mem_of_getElem? (i := 634) (by decide +kernel), List.mem_of_getElem? (i := 635) (by decide +kernel)⟩
theorem lw_p39 : lw_okq (⟨"SlabKitchenModel", "spotOf", "(II)I"⟩, 14) := ⟨⟨by decide +kernel, by decide +kernel⟩, List.mem_of_getElem? (i := 503) (by decide +kernel), List.mem_of_getElem? (i := 638) (by decide +kernel), List.mem_of_getElem? (i := 639) (by decide +kernel)⟩
theorem lw_p40 : lw_okq (⟨"SlabKitchenModel", "placeOf", "(I)I"⟩, 14) := ⟨⟨by decide +kernel, by decide +kernel⟩, List.mem_of_getElem? (i := 503) (by decide +kernel), List.mem_of_getElem? (i := 649) (by decide +kernel), List.mem_of_getElem? (i := 650) (by decide +kernel)⟩
theorem lw_p41 : lw_okq (⟨"SlabKitchenModel", "packed", "(I)I"⟩, 14) := ⟨⟨by decide +kernel, by decide +kernel⟩, List.mem_of_getElem? (i := 503) (by decide +kernel), List.mem_of_getElem? (i := 661) (by decide +kernel), List.mem_of_getElem? (i := 662) (by decide +kernel)⟩
theorem lw_p42 : lw_okq (⟨"SlabKitchenModel", "fewest", "(I)I"⟩, 14) := ⟨⟨by decide +kernel, by decide +kernel⟩, List.mem_of_getElem? (i := 503) (by decide +kernel), List.mem_of_getElem? (i := 665) (by decide +kernel), List.mem_of_getElem? (i := 666) (by decide +kernel)⟩
theorem lw_p43 : lw_okq (⟨"SlabKitchenModel", "most", "(II)I"⟩, 14) := ⟨⟨by decide +kernel, by decide +kernel⟩, List.mem_of_getElem? (i := 503) (by decide +kernel), List.mem_of_getElem? (i := 669) (by decide +kernel), List.mem_of_getElem? (i := 670) (by decide +kernel)⟩
theorem lw_p44 : lw_okq (⟨"SlabKitchenModel", "move", "(II)V"⟩, 14) := ⟨⟨by decide +kernel, by decide +kernel⟩, List.mem_of_getElem? (i := 503) (by decide +kernel), List.mem_of_getElem? (i := 673) (by decide +kernel), List.mem_of_getElem? (i := 674) (by decide +kernel)⟩
theorem lw_p45 : lw_okq (⟨"SlabKitchenModel", "shelfTold", "(II)I"⟩, 14) := ⟨⟨by decide +kernel, by decide +kernel⟩, List.mem_of_getElem? (i := 503) (by decide +kernel), List.mem_of_getElem? (i := 689) (by decide +kernel), List.mem_of_getElem? (i := 690) (by decide +kernel)⟩
theorem lw_p46 : lw_okq (⟨"SlabKitchenModel", "kindTold", "(II)I"⟩, 14) := ⟨⟨by decide +kernel, by decide +kernel⟩, List.mem_of_getElem? (i := 503) (by decide +kernel), List.mem_of_getElem? (i := 697) (by decide +kernel), List.mem_of_getElem? (i := 698) (by decide +kernel)⟩
theorem lw_p47 : lw_okq (⟨"SlabKitchenModel", "bowlsOf", "(I)I"⟩, 14) := ⟨⟨by decide +kernel, by decide +kernel⟩, List.mem_of_getElem? (i := 503) (by decide +kernel), List.mem_of_getElem? (i := 701) (by decide +kernel), List.mem_of_getElem? (i := 702) (by decide +kernel)⟩
def lw_privs_3 : List (MethodName × Nat) := [(⟨"SlabKitchenModel", "isEmpty", "(II)Z"⟩, 14), (⟨"SlabKitchenModel", "isFree", "(I)Z"⟩, 14), (⟨"SlabKitchenModel", "placed", "(II)I"⟩, 14), (⟨"SlabKitchenModel", "own", "(II)V"⟩, 14), (⟨"SlabKitchenModel", "nextRim", "(I)I"⟩, 14), (⟨"SlabKitchenModel", "rest", "(I)I"⟩, 14), (⟨"SlabKitchenModel", "hole", "(I)I"⟩, 14), (⟨"SlabKitchenModel", "spotOf", "(II)I"⟩, 14), (⟨"SlabKitchenModel", "placeOf", "(I)I"⟩, 14), (⟨"SlabKitchenModel", "packed", "(I)I"⟩, 14), (⟨"SlabKitchenModel", "fewest", "(I)I"⟩, 14), (⟨"SlabKitchenModel", "most", "(II)I"⟩, 14), (⟨"SlabKitchenModel", "move", "(II)V"⟩, 14), (⟨"SlabKitchenModel", "shelfTold", "(II)I"⟩, 14), (⟨"SlabKitchenModel", "kindTold", "(II)I"⟩, 14), (⟨"SlabKitchenModel", "bowlsOf", "(I)I"⟩, 14)]
theorem lw_r3 : ∀ q ∈ lw_privs_3, lw_okq q := List.forall_mem_cons.mpr ⟨lw_p32, List.forall_mem_cons.mpr ⟨lw_p33, List.forall_mem_cons.mpr ⟨lw_p34, List.forall_mem_cons.mpr ⟨lw_p35, List.forall_mem_cons.mpr ⟨lw_p36, List.forall_mem_cons.mpr ⟨lw_p37, List.forall_mem_cons.mpr ⟨lw_p38, List.forall_mem_cons.mpr ⟨lw_p39, List.forall_mem_cons.mpr ⟨lw_p40, List.forall_mem_cons.mpr ⟨lw_p41, List.forall_mem_cons.mpr ⟨lw_p42, List.forall_mem_cons.mpr ⟨lw_p43, List.forall_mem_cons.mpr ⟨lw_p44, List.forall_mem_cons.mpr ⟨lw_p45, List.forall_mem_cons.mpr ⟨lw_p46, List.forall_mem_cons.mpr ⟨lw_p47, fun _ h => absurd h List.not_mem_nil⟩⟩⟩⟩⟩⟩⟩⟩⟩⟩⟩⟩⟩⟩⟩⟩
theorem lw_p48 : lw_okq (⟨"SlabKitchenModel", "shelvesOf", "(II)I"⟩, 14) := ⟨⟨by decide +kernel, by decide +kernel⟩, List.mem_of_getElem? (i := 503) (by decide +kernel), List.mem_of_getElem? (i := 705) (by decide +kernel), List.mem_of_getElem? (i := 706) (by decide +kernel)⟩
theorem lw_p49 : lw_okq (⟨"SlabKitchenModel", "placeTold", "(II)I"⟩, 14) := ⟨⟨by decide +kernel, by decide +kernel⟩, List.mem_of_getElem? (i := 503) (by decide +kernel), List.mem_of_getElem? (i := 713) (by decide +kernel), List.mem_of_getElem? (i := 714) (by decide +kernel)⟩
theorem lw_p50 : lw_okq (⟨"SlabKitchenModel", "counted", "(I)I"⟩, 14) := ⟨⟨by decide +kernel, by decide +kernel⟩, List.mem_of_getElem? (i := 503) (by decide +kernel), List.mem_of_getElem? (i := 721) (by decide +kernel), List.mem_of_getElem? (i := 722) (by decide +kernel)⟩
theorem lw_p51 : lw_okq (⟨"SlabKitchenModel", "sum", "(I)I"⟩, 14) := ⟨⟨by decide +kernel, by decide +kernel⟩, List.mem_of_getElem? (i := 503) (by decide +kernel), List.mem_of_getElem? (i := 725) (by decide +kernel), List.mem_of_getElem? (i := 726) (by decide +kernel)⟩
theorem lw_p52 : lw_okq (⟨"SlabKitchenModel", "spotFor", "(I)I"⟩, 14) := ⟨⟨by decide +kernel, by decide +kernel⟩, List.mem_of_getElem? (i := 503) (by decide +kernel), List.mem_of_getElem? (i := 733) (by decide +kernel), List.mem_of_getElem? (i := 734) (by decide +kernel)⟩
theorem lw_p53 : lw_okq (⟨"SlabKitchenModel", "room", "(I)I"⟩, 14) := ⟨⟨by decide +kernel, by decide +kernel⟩, List.mem_of_getElem? (i := 503) (by decide +kernel), List.mem_of_getElem? (i := 741) (by decide +kernel), List.mem_of_getElem? (i := 742) (by decide +kernel)⟩
theorem lw_p54 : lw_okq (⟨"SlabKitchenModel", "wouldCome", "(II)I"⟩, 14) := ⟨⟨by decide +kernel, by decide +kernel⟩, List.mem_of_getElem? (i := 503) (by decide +kernel), List.mem_of_getElem? (i := 749) (by decide +kernel), List.mem_of_getElem? (i := 750) (by decide +kernel)⟩
theorem lw_p55 : lw_okq (⟨"SlabKitchenModel", "gained", "(I)I"⟩, 14) := ⟨⟨by decide +kernel, by decide +kernel⟩, List.mem_of_getElem? (i := 503) (by decide +kernel), List.mem_of_getElem? (i := 760) (by decide +kernel), List.mem_of_getElem? (i := 761) (by decide +kernel)⟩
def lw_privs_4 : List (MethodName × Nat) := [(⟨"SlabKitchenModel", "shelvesOf", "(II)I"⟩, 14), (⟨"SlabKitchenModel", "placeTold", "(II)I"⟩, 14), (⟨"SlabKitchenModel", "counted", "(I)I"⟩, 14), (⟨"SlabKitchenModel", "sum", "(I)I"⟩, 14), (⟨"SlabKitchenModel", "spotFor", "(I)I"⟩, 14), (⟨"SlabKitchenModel", "room", "(I)I"⟩, 14), (⟨"SlabKitchenModel", "wouldCome", "(II)I"⟩, 14), (⟨"SlabKitchenModel", "gained", "(I)I"⟩, 14)]
theorem lw_r4 : ∀ q ∈ lw_privs_4, lw_okq q := List.forall_mem_cons.mpr ⟨lw_p48, List.forall_mem_cons.mpr ⟨lw_p49, List.forall_mem_cons.mpr ⟨lw_p50, List.forall_mem_cons.mpr ⟨lw_p51, List.forall_mem_cons.mpr ⟨lw_p52, List.forall_mem_cons.mpr ⟨lw_p53, List.forall_mem_cons.mpr ⟨lw_p54, List.forall_mem_cons.mpr ⟨lw_p55, fun _ h => absurd h List.not_mem_nil⟩⟩⟩⟩⟩⟩⟩⟩
def lw_privs : List (MethodName × Nat) := lw_privs_1 ++ (lw_privs_2 ++ (lw_privs_3 ++ (lw_privs_4)))
def lw_tbl : List Cond := k2_sels lw_privs ++ tables_1
theorem lw_privs_ok : ∀ q ∈ lw_privs, lw_okq q := by
  show ∀ q ∈ lw_privs_1 ++ (lw_privs_2 ++ (lw_privs_3 ++ (lw_privs_4))), lw_okq q
  exact List.forall_mem_append.mpr ⟨lw_r1, List.forall_mem_append.mpr ⟨lw_r2, List.forall_mem_append.mpr ⟨lw_r3, lw_r4⟩⟩⟩
/-- the streams that the claim lets the run draw from -/
abbrev lw_cs : List Choice := [Jvm.Choice.named "NaN.bits"]
theorem lw_bits : nanBits ∈ lw_cs := by first | decide | exact List.mem_cons_self | simp [lw_cs, nanBits]
-- ===== end of PART A; then your names; then what follows =====
/-! one list of words for every method: the tables' good words -/
def LA : List Cond := lw_tbl.filter goodWord
theorem la_in {w : Cond} (h : w ∈ lw_tbl) (g : goodWord w = true) : w ∈ LA := List.mem_filter.mpr ⟨h, g⟩
theorem la_p {w : Cond} (i : Nat) (h : (k2_sels lw_privs)[i]? = some w) (g : goodWord w = true) : w ∈ LA := la_in (List.mem_append_left _ (List.mem_of_getElem? h)) g
theorem la_1 {w : Cond} (i : Nat) (h : tables_1_1[i]? = some w) (g : goodWord w = true) : w ∈ LA := la_in (List.mem_append_right _ (List.mem_append_left _ (List.mem_of_getElem? h))) g
theorem la_2 {w : Cond} (i : Nat) (h : tables_1_2[i]? = some w) (g : goodWord w = true) : w ∈ LA := la_in (List.mem_append_right _ (List.mem_append_right _ (List.mem_append_left _ (List.mem_of_getElem? h)))) g
theorem la_3 {w : Cond} (i : Nat) (h : tables_1_3[i]? = some w) (g : goodWord w = true) : w ∈ LA := la_in (List.mem_append_right _ (List.mem_append_right _ (List.mem_append_right _ (List.mem_append_left _ (List.mem_of_getElem? h))))) g
theorem la_4 {w : Cond} (i : Nat) (h : tables_1_4[i]? = some w) (g : goodWord w = true) : w ∈ LA := la_in (List.mem_append_right _ (List.mem_append_right _ (List.mem_append_right _ (List.mem_append_right _ (List.mem_of_getElem? h))))) g
/-- the same of words that aren't good -/
theorem lt_1 {w : Cond} (i : Nat) (h : tables_1_1[i]? = some w) : w ∈ lw_tbl := List.mem_append_right _ (List.mem_append_left _ (List.mem_of_getElem? h))
theorem lt_2 {w : Cond} (i : Nat) (h : tables_1_2[i]? = some w) : w ∈ lw_tbl := List.mem_append_right _ (List.mem_append_right _ (List.mem_append_left _ (List.mem_of_getElem? h)))
theorem lt_3 {w : Cond} (i : Nat) (h : tables_1_3[i]? = some w) : w ∈ lw_tbl := List.mem_append_right _ (List.mem_append_right _ (List.mem_append_right _ (List.mem_append_left _ (List.mem_of_getElem? h))))
theorem lt_4 {w : Cond} (i : Nat) (h : tables_1_4[i]? = some w) : w ∈ lw_tbl := List.mem_append_right _ (List.mem_append_right _ (List.mem_append_right _ (List.mem_append_right _ (List.mem_of_getElem? h))))
theorem la_good {w : Cond} (h : w ∈ LA) : (w.onTables && w.keeps) = true ∨ ∃ ty, w = .arrayClass ty := good_of_word (List.mem_filter.mp h).2
/-- a method's words: its own code, and all -/
abbrev ws_ (y : MethodName) (c : ByteArray) (n : Nat) (ret : Option FieldType) : List Cond := Cond.code y c n ret :: LA
abbrev wsw_ (y : MethodName) (c : ByteArray) (n : Nat) (ret : Option FieldType) (hh : List (Nat × Nat × Nat × Nat)) : List Cond := Cond.codeWith y c n ret hh :: LA
theorem la_sub {y : MethodName} {c : ByteArray} {n : Nat} {ret : Option FieldType} (h : Cond.code y c n ret ∈ LA) : GoodIn LA (ws_ y c n ret) := fun w hw => (List.mem_cons.mp hw).elim (fun e => by subst e; exact ⟨h, la_good h⟩) (fun hw => ⟨hw, la_good hw⟩)
theorem la_V {own C : String} {idx : Nat} {y : MethodName} {c : ByteArray} {n : Nat} {ret : Option FieldType} (h1 : Cond.methodLink own idx y ∈ LA) (h2 : Cond.instanceMethod y ∈ LA) (h3 : Cond.selects C y y ∈ LA) (h4 : Cond.initialized C ∈ LA) (h5 : Cond.code y c n ret ∈ LA) : GoodIn LA (wsV own idx C y (ws_ y c n ret)) := by
  intro w hw
  have hm : w ∈ LA := by
    simp only [wsV, List.cons_append, List.nil_append, List.mem_cons] at hw
    rcases hw with e | e | e | e | e | hw
    · exact e ▸ h1
    · exact e ▸ h2
    · exact e ▸ h3
    · exact e ▸ h4
    · exact e ▸ h5
    · exact hw
  exact ⟨hm, la_good hm⟩
theorem la_S {own : String} {idx : Nat} {y : MethodName} {c : ByteArray} {n : Nat} {ret : Option FieldType} (h1 : Cond.methodLink own idx y ∈ LA) (h2 : Cond.static y ∈ LA) (h4 : Cond.initialized y.cls ∈ LA) (h5 : Cond.code y c n ret ∈ LA) : GoodIn LA (va_wsS own idx y (ws_ y c n ret)) := by
  intro w hw
  have hm : w ∈ LA := by
    simp only [va_wsS, List.cons_append, List.nil_append, List.mem_cons] at hw
    rcases hw with e | e | e | e | hw
    · exact e ▸ h1
    · exact e ▸ h2
    · exact e ▸ h4
    · exact e ▸ h5
    · exact hw
  exact ⟨hm, la_good hm⟩
end
section
/-! ===== BEGIN words of one list among another's, by their places ===== -/
theorem goodIn_r {big : List Cond} (ws : List Cond) (ps : List Nat) (hp : ws = ps.filterMap (fun i => big[i]?)) (h : ws.all goodWord = true) : GoodIn big ws := by
  intro w hw
  have h1 := List.all_eq_true.mp h w hw
  rw [hp] at hw
  obtain ⟨i, -, hi⟩ := List.mem_filterMap.mp hw
  have hm : w ∈ big := by first | exact List.mem_of_getElem? hi | exact List.getElem?_mem hi
  exact ⟨hm, good_of_word h1⟩
theorem goodIn_app {big a b : List Cond} (ha : GoodIn big a) (hb : GoodIn big b) : GoodIn big (a ++ b) := fun w h => (List.mem_append.mp h).elim (ha w) (hb w)
theorem goodIn_ca {big a b : List Cond} {c : Cond} (ha : GoodIn big (c :: a)) (hb : GoodIn big b) : GoodIn big (c :: (a ++ b)) := fun w h => (List.mem_cons.mp h).elim (fun e => ha w (List.mem_cons.mpr (Or.inl e))) (fun h => (List.mem_append.mp h).elim (fun h => ha w (List.mem_cons.mpr (Or.inr h))) (hb w))
theorem goodIn_sub {big ws : List Cond} (hm : ∀ w ∈ ws, w ∈ big) (h : ws.all goodWord = true) : GoodIn big ws := fun w hw => ⟨hm w hw, good_of_word (List.all_eq_true.mp h w hw)⟩
/-! ===== END ===== -/

/-! ===== BEGIN exceptions that leave a method, and their catching by the caller (launches without stack traces) ===== -/
section VXA
/-! The laws vx_back, vx_callV, vx_callS, vx_callSW, vx_throw0, vx_throwS follow proofs of the library, with one case more: JvmDerived/Free/Laws.lean (Back.of_free), Shelf42/LK1.lean (callV, callS), Shelf/KitTraced.lean (throwNew0V, throwNewS). -/
/-- where a method has thrown q: the class by its name, the cell, what was written, the world -/
def vx_T (XC : String → State → State → Prop) (st : State) (q : Addr) (t : State) (mc ms : Nat) (free : Addr → Prop) : Prop :=
  ∃ (E : String) (ce : Cell) (L : List Loc), XC E st t ∧ t.heap[q]? = some ce ∧ ce.vm = .none ∧ st.vm.findClass E = some ce.cls ∧ st.WarmedH t.vm ∧ st.sameButNew ({ t with vm := st.vm } : State) L mc ms ∧ ∀ z ∈ L, free z.base
def vx_Q (Qc : Array Value → State → Outcome → State → Prop) (XC : String → State → State → Prop) (mc ms : Nat) (free : Addr → Prop) : Array Value → State → Outcome → State → Prop := fun a st o t =>
  (Qc a st o t ∧ ∃ L, FrameEnd st o t L mc ms ∧ ∀ q ∈ L, free q.base) ∨ ∃ q, o = .threw q ∧ vx_T XC st q t mc ms free
/-- a callee that returns or throws -/
def vx_Met (l : Launch) (y : MethodName) (ws : List Cond) (rm : Room) (Pc : Array Value → State → Prop) (Qc : Array Value → State → Outcome → State → Prop) (XC : String → State → State → Prop) (mc ms : Nat) (free : Addr → Prop) : Prop :=
  MetFree l y (headSpec ws rm) Pc (fun _ _ _ _ _ => True) (vx_Q Qc XC mc ms free)
def vx_Post (XC : String → State → State → Prop) (mc ms : Nat) (free : Addr → Prop) : Pt → Array Value → Addr → Pt → Prop := fun A a q B =>
  ∃ (g : JFrame) (mk : MethodId) (t : State) (L : List Loc) (E : String) (ce : Cell), B.U.heap = t.heap ∧ B.U.vm = t.vm ∧ XC E (A.U.calling g mk a) t ∧ t.heap[q]? = some ce ∧ ce.vm = .none ∧ A.U.vm.findClass E = some ce.cls ∧ B.locs = A.locs ++ L ∧ (∀ z ∈ L, free z.base) ∧ B.cells = A.cells + mc ∧ B.slots = A.slots + ms
def vx_Back (l : Launch) (R : Room) (p : Program) (e : Env) (below : List Frame) (s : State) (sargs : Array Value) (y : MethodName) (len W9 : Nat)
    (Pre : Pt → Array Value → Prop) (Post : Pt → Array Value → Option Value → Pt → Prop) (PostX : Pt → Array Value → Addr → Pt → Prop) : Prop :=
  ∀ (m : MethodId) (meth : Method) (c : Code) (A : Pt) (g : JFrame) (ig : Instr) (mk : MethodId) (a : Array Value),
    Stand p l e R s m sargs below meth c A.U A.locs A.cells A.slots → g.method = m → g.locals.size = c.maxLocals → decode c.code g.pc = .ok (ig, len) →
    2 * g.monitorRoom + (g.stack.map fun v => v.category).sum ≤ W9 → A.U.methodNamed? y = some mk → Pre A a →
    (∃ (v : Option Value) (B : Pt), Stand p l e R s m sargs below meth c B.U B.locs B.cells B.slots ∧ Post A a v B ∧
      Steps p.tables e below (doInvoke e (A.U.setTop g) [] mk a).1 (B.U.setTop { g with pc := g.pc + len, stack := v.toList ++ g.stack })) ∨
    (∃ (q : Addr) (B : Pt), Stand p l e R s m sargs below meth c B.U B.locs B.cells B.slots ∧ PostX A a q B ∧
      Steps p.tables e below (doInvoke e (A.U.setTop g) [] mk a).1 ((B.U.setTop g).pushFrame (.throwing q)))
section Payer
variable {l : Launch} {R : Room} {p : Program} {e : Env} {below : List Frame} {s : State} {sargs : Array Value} {y : MethodName} {len W9 : Nat}
theorem vx_back {ws : List Cond} {rm : Room} {Pc : Array Value → State → Prop} {Qc : Array Value → State → Outcome → State → Prop} {XC : String → State → State → Prop} {mc ms : Nat} {free : Addr → Prop} {bytes : ByteArray} {maxL : Nat} {ret : Option FieldType}
    (hM : vx_Met l y ws rm Pc Qc XC mc ms free) (hblind : FrameBlind Pc) (hrc : rm.cells = mc) (hrs : rm.slots = ms)
    (hframes : rm.frames + 1 ≤ R.frames) (hlocals : W9 + (maxL + 11) + rm.locals ≤ R.locals)
    (hws : ∀ w ∈ ws, ∀ a' U, s.WarmedH U.vm → w.before a' U = true) (hcode : Cond.code y bytes maxL ret ∈ ws) (hinit : ∀ a' U, s.WarmedH U.vm → (Cond.initialized y.cls).before a' U = true) :
    vx_Back l R p e below s sargs y len W9 (PreOf R mc ms Pc) (PostOf Qc mc ms free) (vx_Post XC mc ms free) := by
  intro m meth c A g ig mk a X hg hsize hdg hW hn hp
  have h1 : (headSpec ws rm).pre.before a A.U = true := atoms_intro fun w hw => hws w hw _ _ X.warmed
  have h2 : (Cond.code y bytes maxL ret).before a A.U = true := hws _ hcode _ _ X.warmed
  have h3 : (Cond.initialized y.cls).before a A.U = true := hinit _ _ X.warmed
  have h4 : A.cells + (headSpec ws rm).room.cells ≤ R.cells := by rw [show (headSpec ws rm).room.cells = mc from hrc]; exact hp.1
  have h5 : A.slots + (headSpec ws rm).room.slots ≤ R.slots := by rw [show (headSpec ws rm).room.slots = ms from hrs]; exact hp.2.1
  have hPc : Pc a (A.U.calling g mk a) := hblind _ _ _ _ hp.2.2
  obtain ⟨U, Ls, c0, s0⟩ := A
  dsimp only [Pt.U, Pt.locs, Pt.cells, Pt.slots] at h1 h2 h3 h4 h5 X hn hPc ⊢
  obtain ⟨methY, cY, hmY, hcY, -, hlY, -, -, -, -⟩ := Cond.code_spec hn h2
  obtain ⟨kY, hkY, -⟩ := className_of_methodNamed hn
  have hinitY : kY.init = .initialized := Cond.initialized_spec (findClass_of_methodNamed hn) hkY h3
  have h : At U g.method c below := by rw [hg]; exact X.here
  have hlocals9 : W9 + (maxL + 11) + (headSpec ws rm).room.locals ≤ R.locals := hlocals
  have happ : (headSpec ws rm).appliesLoose y e.platform (U.calling g mk a) = true :=
    Spec.appliesLoose_calling (g := g) h hdg hn hkY hinitY
      (X.room_calling (g := g) (R' := (headSpec ws rm).room) hsize hmY hcY hframes (by rw [hlY]; omega) h4 h5) h1
  obtain ⟨mid, hmid⟩ := h.above
  have hfr : (U.setTop g).frames = (.java g :: mid) ++ below := by rw [State.frames_setTop' g h.top, hmid]; rfl
  obtain ⟨o, s₂, hsteps, -, hend, hq⟩ := Steps.callFree hM p X.admits X.cas X.clock (acts := []) hfr happ hPc trivial
  have hq' : vx_Q Qc XC mc ms free a (U.calling g mk a) o s₂ := hq
  rw [State.frames_setTop' g h.top] at hend
  obtain ⟨g₀, hg0⟩ := Option.isSome_iff_exists.mp h.top
  obtain ⟨r, hr⟩ := State.topJava?_eq_some.mp hg0
  have hr' : (({ U with heap := s₂.heap, slotsUsed := s₂.slotsUsed } : State).setVm s₂.vm).frames = .java g₀ :: r := hr
  rcases hq' with ⟨hqc, L, hfe, hL⟩ | ⟨q, rfl, E, ce, L, hx, hce, hcv, hcl, hW₂, hsm, hL⟩
  · obtain ⟨⟨v, rfl⟩, hW₂, e2, q2, q3, q4, q5, q6⟩ := id hfe
    have e3 : s₂ = ({ (U.calling g mk a).setFrames s₂.frames with heap := s₂.heap, slotsUsed := s₂.slotsUsed } : State).setVm s₂.vm := by
      have : s₂ = ({ s₂ with vm := (U.calling g mk a).vm } : State).setVm s₂.vm := rfl
      rw [e2] at this
      exact this
    obtain ⟨c₂, i₂, len₂, hc₂, hd₂, hf₂⟩ := hend
    have hW' : U.WarmedH s₂.vm := hW₂
    have hcc : c₂ = c := by
      have h1 : s₂.code? g.method = U.code? g.method := by
        rw [State.code?_eq, State.code?_eq, hW'.alike.method?]
      exact Option.some.inj (hc₂.symm.trans (h1.trans h.code))
    subst hcc
    have hlen : len₂ = len := by rw [hdg] at hd₂; cases hd₂; rfl
    subst hlen
    have hs₂ : s₂ = (({ U with heap := s₂.heap, slotsUsed := s₂.slotsUsed } : State).setVm s₂.vm).setTop { g with pc := g.pc + len₂, stack := v.toList ++ g.stack } := by
      refine e3.trans ?_
      rw [hf₂, State.calling_eq h.top, State.setFrames_setFrames, State.setTop_of_frames _ hr', hr]
      rfl
    have hsame : U.sameButNew ({ U with heap := s₂.heap, slotsUsed := s₂.slotsUsed } : State) L mc ms := by
      refine ⟨?_, q2, q3, q4, q5, q6⟩
      obtain ⟨t, ht, -⟩ := State.frames_cons hr
      show ({ U with heap := s₂.heap, slotsUsed := s₂.slotsUsed } : State) = { U.setFrames U.frames with heap := s₂.heap, slotsUsed := s₂.slotsUsed }
      rw [State.setFrames_self ht]
    subst hg
    refine Or.inl ⟨v, ⟨(({ U with heap := s₂.heap, slotsUsed := s₂.slotsUsed } : State).setVm s₂.vm), Ls ++ L, c0 + mc, s0 + ms⟩,
      ⟨X.admits, X.cas, X.clock, X.frames, X.room, X.hears, X.method, X.code, (X.here.setHeapUsed s₂.heap s₂.slotsUsed).setVm hW'.alike, X.tail, State.WarmedH.trans X.warmed hW', X.limits, X.bytes, X.same.trans (hsame.setVm s.vm)⟩,
      ⟨g, mk, s₂, L, rfl, rfl, hqc, rfl, hL, rfl, rfl⟩, ?_⟩
    show Steps p.tables e below _ ((({ U with heap := s₂.heap, slotsUsed := s₂.slotsUsed } : State).setVm s₂.vm).setTop { g with pc := g.pc + len₂, stack := v.toList ++ g.stack })
    rw [← hs₂]
    exact hsteps
  · obtain ⟨e2, q2, q3, q4, q5, q6⟩ := id hsm
    have e3 : s₂ = ({ (U.calling g mk a).setFrames s₂.frames with heap := s₂.heap, slotsUsed := s₂.slotsUsed } : State).setVm s₂.vm := by
      have : s₂ = ({ s₂ with vm := (U.calling g mk a).vm } : State).setVm s₂.vm := rfl
      rw [e2] at this
      exact this
    have hf₂ : s₂.frames = .throwing q :: .java g :: U.frames.tail := hend
    have hW' : U.WarmedH s₂.vm := hW₂
    have hs₂ : s₂ = ((({ U with heap := s₂.heap, slotsUsed := s₂.slotsUsed } : State).setVm s₂.vm).setTop g).pushFrame (.throwing q) := by
      refine e3.trans ?_
      rw [hf₂, State.calling_eq h.top, State.setFrames_setFrames, State.pushFrame, State.frames_setTop _ hr', State.setTop_of_frames _ hr', State.setFrames_setFrames, hr]
      rfl
    have hsame : U.sameButNew ({ U with heap := s₂.heap, slotsUsed := s₂.slotsUsed } : State) L mc ms := by
      refine ⟨?_, q2, q3, q4, q5, q6⟩
      obtain ⟨t, ht, -⟩ := State.frames_cons hr
      show ({ U with heap := s₂.heap, slotsUsed := s₂.slotsUsed } : State) = { U.setFrames U.frames with heap := s₂.heap, slotsUsed := s₂.slotsUsed }
      rw [State.setFrames_self ht]
    subst hg
    refine Or.inr ⟨q, ⟨(({ U with heap := s₂.heap, slotsUsed := s₂.slotsUsed } : State).setVm s₂.vm), Ls ++ L, c0 + mc, s0 + ms⟩,
      ⟨X.admits, X.cas, X.clock, X.frames, X.room, X.hears, X.method, X.code, (X.here.setHeapUsed s₂.heap s₂.slotsUsed).setVm hW'.alike, X.tail, State.WarmedH.trans X.warmed hW', X.limits, X.bytes, X.same.trans (hsame.setVm s.vm)⟩,
      ⟨g, mk, s₂, L, E, ce, rfl, rfl, hx, hce, hcv, hcl, rfl, hL, rfl, rfl⟩, ?_⟩
    show Steps p.tables e below _ (((({ U with heap := s₂.heap, slotsUsed := s₂.slotsUsed } : State).setVm s₂.vm).setTop g).pushFrame (.throwing q))
    rw [← hs₂]
    exact hsteps
end Payer
section Calls
variable {p : Program} {l : Launch} {e : Env} {R : Room} {s : State} {m : MethodId} {args : Array Value} {below : List Frame} {meth : Method} {c : Code} {T : State} {locs : List Loc} {cells slots : Nat}
theorem vx_callV (X : Stand p l e R s m args below meth c T locs cells slots) (hexec : p.tables.exec = Jvm.exec) {own C : String} {index : Nat} {y : MethodName} {bytes : ByteArray} {maxL : Nat} {ret : Option FieldType}
    (hown : s.vm.findClass own = some m.cls) (hlink : (Cond.methodLink own index y).before args s = true) (hinst : (Cond.instanceMethod y).before args s = true) (hsel : (Cond.selects C y y).before args s = true)
    (hcode : (Cond.code y bytes maxL ret).before args s = true) (hy : y.cls ≠ "java/lang/invoke/MethodHandle" ∧ y.cls ≠ "java/lang/invoke/VarHandle")
    {W9 : Nat} {Pre : Pt → Array Value → Prop} {Post : Pt → Array Value → Option Value → Pt → Prop} {PostX : Pt → Array Value → Addr → Pt → Prop} (hK : vx_Back l R p e below s args y 3 W9 Pre Post PostX)
    {b : Addr} {cellB : Cell} (hcell : T.heap[b]? = some cellB) (hobj : cellB.vm.isStatics = false) (hcls : s.vm.findClass C = some cellB.cls)
    {g : JFrame} (hg : g.method = m) (hsize : g.locals.size = c.maxLocals) {argsL rest : List Value} (hlen : ∀ sig, parseMethodDescriptor y.desc = some sig → argsL.length = sig.parameters.length)
    (hstack : g.stack = argsL.reverse ++ .ref b :: rest) (hW : 2 * g.monitorRoom + (rest.map fun v => v.category).sum ≤ W9) (hdg : decode c.code g.pc = .ok (.invokevirtual index, 3))
    (hpre : ∀ vm₁, s.WarmedH vm₁ → Pre ⟨T.setVm vm₁, locs, cells, slots⟩ (Value.ref b :: argsL).toArray) :
    (∃ (v : Option Value) (vm₁ : Vm) (B : Pt), s.WarmedH vm₁ ∧ Stand p l e R s m args below meth c B.U B.locs B.cells B.slots ∧ Post ⟨T.setVm vm₁, locs, cells, slots⟩ (Value.ref b :: argsL).toArray v B ∧
      ∀ target, Steps p.tables e below (B.U.setTop { g with pc := g.pc + 3, stack := v.toList ++ rest }) target → Steps p.tables e below (T.setTop g) target) ∨
    (∃ (q : Addr) (vm₁ : Vm) (B : Pt), s.WarmedH vm₁ ∧ Stand p l e R s m args below meth c B.U B.locs B.cells B.slots ∧ PostX ⟨T.setVm vm₁, locs, cells, slots⟩ (Value.ref b :: argsL).toArray q B ∧
      Steps p.tables e below (T.setTop g) ((B.U.setTop { g with stack := rest }).pushFrame (.throwing q))) := by
  obtain ⟨mk, methM, hnamed, hmethM, hstM, habM⟩ := Cond.instanceMethod_spec hinst
  obtain ⟨methM', cM, hmethM', -, -, -, -, -, -, hsigM⟩ := Cond.code_spec hnamed hcode
  cases hmethM.symm.trans hmethM'
  obtain ⟨c2, r2, m2, q1, q2, q3, q4, kP, hkP, hkPi⟩ := Cond.selects_spec hsel
  cases hcls.symm.trans q1
  cases (State.methodFound?_of_named hnamed hy).symm.trans q2
  cases hnamed.symm.trans q3
  have hselP : selectMethod e.platform s.vm cellB.cls mk = .method mk := by rw [Launch.admits_selectMethod X.admits]; exact q4
  obtain ⟨vm₁, X₁, hstep₁⟩ := X.invokevirtual hexec hown hlink hnamed hmethM hstM hkP hkPi hy (a := b) (cell := cellB) hcell
    (fun z h => by rw [h] at hobj; cases hobj) hselP hmethM habM hkP hkPi (g := g) hg (argsL := argsL) (rest := rest) (hlen _ hsigM) hstack hdg
  rcases hK m meth c ⟨T.setVm vm₁, locs, cells, slots⟩ { g with stack := rest } (.invokevirtual index) mk (Value.ref b :: argsL).toArray X₁ hg hsize hdg hW (X₁.named hnamed) (hpre vm₁ X₁.warmed) with ⟨v, B, X', hpost, hsteps⟩ | ⟨q, B, X', hpost, hsteps⟩
  · exact Or.inl ⟨v, vm₁, B, X₁.warmed, X', hpost, fun target h => hstep₁ _ fun acts => by rw [doInvoke_state]; exact hsteps.trans h⟩
  · exact Or.inr ⟨q, vm₁, B, X₁.warmed, X', hpost, hstep₁ _ fun acts => by rw [doInvoke_state]; exact hsteps⟩
theorem vx_callS (X : Stand p l e R s m args below meth c T locs cells slots) (hexec : p.tables.exec = Jvm.exec) {own : String} {index : Nat} {y : MethodName} {bytes : ByteArray} {maxL : Nat} {ret : Option FieldType}
    (hown : s.vm.findClass own = some m.cls) (hlink : (Cond.methodLink own index y).before args s = true) (hstat : (Cond.static y).before args s = true) (hinit : (Cond.initialized y.cls).before args s = true)
    (hcode : (Cond.code y bytes maxL ret).before args s = true) (hy : y.cls ≠ "java/lang/invoke/MethodHandle" ∧ y.cls ≠ "java/lang/invoke/VarHandle")
    {W9 : Nat} {Pre : Pt → Array Value → Prop} {Post : Pt → Array Value → Option Value → Pt → Prop} {PostX : Pt → Array Value → Addr → Pt → Prop} (hK : vx_Back l R p e below s args y 3 W9 Pre Post PostX)
    {g : JFrame} (hg : g.method = m) (hsize : g.locals.size = c.maxLocals) {argsL rest : List Value} (hlen : ∀ sig, parseMethodDescriptor y.desc = some sig → argsL.length = sig.parameters.length)
    (hstack : g.stack = argsL.reverse ++ rest) (hW : 2 * g.monitorRoom + (rest.map fun v => v.category).sum ≤ W9) (hdg : decode c.code g.pc = .ok (.invokestatic index, 3))
    (hpre : ∀ vm₁, s.WarmedH vm₁ → Pre ⟨T.setVm vm₁, locs, cells, slots⟩ argsL.toArray) :
    (∃ (v : Option Value) (vm₁ : Vm) (B : Pt), s.WarmedH vm₁ ∧ Stand p l e R s m args below meth c B.U B.locs B.cells B.slots ∧ Post ⟨T.setVm vm₁, locs, cells, slots⟩ argsL.toArray v B ∧
      ∀ target, Steps p.tables e below (B.U.setTop { g with pc := g.pc + 3, stack := v.toList ++ rest }) target → Steps p.tables e below (T.setTop g) target) ∨
    (∃ (q : Addr) (vm₁ : Vm) (B : Pt), s.WarmedH vm₁ ∧ Stand p l e R s m args below meth c B.U B.locs B.cells B.slots ∧ PostX ⟨T.setVm vm₁, locs, cells, slots⟩ argsL.toArray q B ∧
      Steps p.tables e below (T.setTop g) ((B.U.setTop { g with stack := rest }).pushFrame (.throwing q))) := by
  obtain ⟨mk, hnamed⟩ := Cond.code_named hcode
  obtain ⟨methM, cM, hmethM, -, -, -, -, -, -, hsigM⟩ := Cond.code_spec hnamed hcode
  have hstatic : methM.isStatic = true := Cond.static_spec hnamed hmethM hstat
  obtain ⟨kP, hkP, -⟩ := className_of_methodNamed hnamed
  have hinitP : kP.init = .initialized := Cond.initialized_spec (findClass_of_methodNamed hnamed) hkP hinit
  obtain ⟨vm₁, X₁, hstep₁⟩ := X.invokestatic hexec hown hlink hnamed hmethM hstatic hkP hinitP hy (g := g) hg (argsL := argsL) (rest := rest) (hlen _ hsigM) hstack hdg
  rcases hK m meth c ⟨T.setVm vm₁, locs, cells, slots⟩ { g with stack := rest } (.invokestatic index) mk argsL.toArray X₁ hg hsize hdg hW (X₁.named hnamed) (hpre vm₁ X₁.warmed) with ⟨v, B, X', hpost, hsteps⟩ | ⟨q, B, X', hpost, hsteps⟩
  · exact Or.inl ⟨v, vm₁, B, X₁.warmed, X', hpost, fun target h => hstep₁ _ fun acts => by rw [doInvoke_state]; exact hsteps.trans h⟩
  · exact Or.inr ⟨q, vm₁, B, X₁.warmed, X', hpost, hstep₁ _ fun acts => by rw [doInvoke_state]; exact hsteps⟩
end Calls
theorem vx_cls {s : State} {T : State} {vm₁ : Vm} {E : String} {k : ClassId} (hW : s.WarmedH vm₁) (h : (T.setVm vm₁).vm.findClass E = some k) : s.vm.findClass E = some k := by
  have h1 : vm₁.findClass E = some k := h
  rw [hW.alike.findClass] at h1
  exact h1
/-- the method's frame g, with q thrown over it -/
def vx_W (p : Program) (l : Launch) (e : Env) (R : Room) (s : State) (m : MethodId) (args : Array Value) (below : List Frame) (meth : Method) (c : Code) (H : Heap) (locs : List Loc) (cells slots : Nat) (Q : State → Prop) (g : JFrame) (q : Addr) : Prop :=
  ∀ T : State, T.heap = H → Stand p l e R s m args below meth c T locs cells slots → ∃ t, Steps p.tables e below ((T.setTop g).pushFrame (.throwing q)) t ∧ Q t
def vx_Run (p : Program) (l : Launch) (e : Env) (R : Room) (s : State) (m : MethodId) (args : Array Value) (below : List Frame) (meth : Method) (c : Code) (H : Heap) (locs : List Loc) (cells slots mc ms : Nat) (g : JFrame) (rest : List Value) (Qa : State → Outcome → State → Prop) (XC : String → State → State → Prop) (free : Addr → Prop) : Prop :=
  ∀ T : State, T.heap = H → Stand p l e R s m args below meth c T locs cells slots →
    (∃ (v : Option Value) (st₀ t T' : State) (L : List Loc), st₀.heap = H ∧ Stand p l e R s m args below meth c T' (locs ++ L) (cells + mc) (slots + ms) ∧ (∀ q ∈ L, free q.base) ∧ T'.heap = t.heap ∧ T'.vm = t.vm ∧ Qa st₀ (.returned v) t ∧
      Goes p e below T g T' { g with pc := g.pc + 3, stack := v.toList ++ rest }) ∨
    (∃ (q : Addr) (st₀ t T' : State) (L : List Loc) (E : String) (ce : Cell), st₀.heap = H ∧ Stand p l e R s m args below meth c T' (locs ++ L) (cells + mc) (slots + ms) ∧ (∀ z ∈ L, free z.base) ∧ T'.heap = t.heap ∧ T'.vm = t.vm ∧ XC E st₀ t ∧ t.heap[q]? = some ce ∧ ce.vm = .none ∧ s.vm.findClass E = some ce.cls ∧
      Steps p.tables e below (T.setTop g) ((T'.setTop { g with stack := rest }).pushFrame (.throwing q)))
def vx_X {S : Type} (px : S → Prop) (B : String → S → State → Prop) (A : Nat → Prop) : String → State → State → Prop := fun E st t => ∃ u : S, px u ∧ B E u t ∧ va_F A st t
section Runs
variable {p : Program} {l : Launch} {e : Env} {R : Room} {s : State} {m : MethodId} {args : Array Value} {below : List Frame} {meth : Method} {c : Code} {H : Heap} {locs : List Loc} {cells slots : Nat}
variable {y : MethodName} {bytes cc : ByteArray} {maxL nL mc ms n index : Nat} {ret : Option FieldType} {ws : List Cond} {rm : Room} {Pc : Array Value → State → Prop} {Qc : Array Value → State → Outcome → State → Prop} {XC : String → State → State → Prop} {free : Addr → Prop} {Ts : List Cond} {own C : String} {b : Addr} {As rest : List Value} {g : JFrame}
theorem vx_callBack (cb : CallB R s args own index y bytes maxL ret ws rm mc ms n) (hM : vx_Met l y ws rm Pc Qc XC mc ms free) (hbl : FrameBlind Pc) : vx_Back l R p e below s args y 3 8 (PreOf R mc ms Pc) (PostOf Qc mc ms free) (vx_Post XC mc ms free) := by
  obtain ⟨hrc, hrs, hfr, hlo, hws, hcw, -, hini, -⟩ := cb
  exact vx_back (bytes := bytes) (maxL := maxL) (ret := ret) hM hbl hrc hrs hfr hlo hws hcw (fun a' U hW => word_at hW (Or.inl (by first | rfl | simp [Cond.onTables, Cond.keeps, Cond.steady])) hini)
theorem vx_runV (S : CallFix p m c cc nL s args Ts own) (hM : vx_Met l y ws rm Pc Qc XC mc ms free) (cw : CallW R s args own C index y bytes maxL ret ws rm mc ms n) (hp : PreV s H C b Pc As)
    (hg : g.method = m) (hn : As.length = n) (hsize : g.locals.size = nL) (hstack : g.stack = As.reverse ++ .ref b :: rest) (hW : 2 * g.monitorRoom + (rest.map fun v => v.category).sum ≤ 8) (hdg : decode cc g.pc = .ok (.invokevirtual index, 3)) (hf : cells + mc ≤ R.cells ∧ slots + ms ≤ R.slots) :
    vx_Run p l e R s m args below meth c H locs cells slots mc ms g rest (Qc (Value.ref b :: As).toArray) XC free := by
  have hK : vx_Back l R p e below s args y 3 8 (PreOf R mc ms Pc) (PostOf Qc mc ms free) (vx_Post XC mc ms free) := vx_callBack cw.1 hM hp.1
  obtain ⟨⟨-, -, -, -, -, -, hcode, -, hy, hlen, hl⟩, hin, hse⟩ := cw
  obtain ⟨hx, hb, hml, ho, -⟩ := S
  obtain ⟨-, ⟨cellB, hcB, hoB, hclB⟩, hPc⟩ := hp
  intro T hT X
  rcases vx_callV X hx (C := C) (bytes := bytes) (maxL := maxL) (ret := ret) ho hl hin hse hcode hy hK (by rw [hT]; exact hcB) hoB hclB hg (hsize.trans hml.symm) (argsL := As) (rest := rest) (fun sig h => hn.trans (hlen sig h)) hstack hW (by rw [hb]; exact hdg)
    (fun vm₁ hW₁ => ⟨hf.1, hf.2, hPc (T.setVm vm₁) hT hW₁⟩) with ⟨v, vm₁, ⟨U', l2, c2, s2⟩, hW₁, X', ⟨g', mk, t, L, e1, e2, hq, h1, hL, h2, h3⟩, st⟩ | ⟨q, vm₁, ⟨U', l2, c2, s2⟩, hW₁, X', ⟨g', mk, t, L, E, ce, e1, e2, hq, hce, hcv, hcl, h1, hL, h2, h3⟩, st⟩
  · dsimp only [Pt.U, Pt.locs, Pt.cells, Pt.slots] at X' e1 e2 h1 h2 h3 st
    subst h1; subst h2; subst h3
    exact Or.inl ⟨v, (T.setVm vm₁).calling g' mk (Value.ref b :: As).toArray, t, U', L, hT, X', hL, e1, e2, hq, st⟩
  · dsimp only [Pt.U, Pt.locs, Pt.cells, Pt.slots] at X' e1 e2 h1 h2 h3 st hcl
    subst h1; subst h2; subst h3
    exact Or.inr ⟨q, (T.setVm vm₁).calling g' mk (Value.ref b :: As).toArray, t, U', L, E, ce, hT, X', hL, e1, e2, hq, hce, hcv, vx_cls hW₁ hcl, st⟩
theorem vx_runS (S : CallFix p m c cc nL s args Ts own) (hM : vx_Met l y ws rm Pc Qc XC mc ms free) (cw : CallB R s args own index y bytes maxL ret ws rm mc ms n ∧ (Cond.static y).before args s = true) (hp : PreS s H Pc As)
    (hg : g.method = m) (hn : As.length = n) (hsize : g.locals.size = nL) (hstack : g.stack = As.reverse ++ rest) (hW : 2 * g.monitorRoom + (rest.map fun v => v.category).sum ≤ 8) (hdg : decode cc g.pc = .ok (.invokestatic index, 3)) (hf : cells + mc ≤ R.cells ∧ slots + ms ≤ R.slots) :
    vx_Run p l e R s m args below meth c H locs cells slots mc ms g rest (Qc As.toArray) XC free := by
  have hK : vx_Back l R p e below s args y 3 8 (PreOf R mc ms Pc) (PostOf Qc mc ms free) (vx_Post XC mc ms free) := vx_callBack cw.1 hM hp.1
  obtain ⟨⟨-, -, -, -, -, -, hcode, hini, hy, hlen, hl⟩, hstt⟩ := cw
  obtain ⟨hx, hb, hml, ho, -⟩ := S
  intro T hT X
  rcases vx_callS X hx (bytes := bytes) (maxL := maxL) (ret := ret) ho hl hstt hini hcode hy hK hg (hsize.trans hml.symm) (argsL := As) (rest := rest) (fun sig h => hn.trans (hlen sig h)) hstack hW (by rw [hb]; exact hdg)
    (fun vm₁ hW₁ => ⟨hf.1, hf.2, hp.2 (T.setVm vm₁) hT hW₁⟩) with ⟨v, vm₁, ⟨U', l2, c2, s2⟩, hW₁, X', ⟨g', mk, t, L, e1, e2, hq, h1, hL, h2, h3⟩, st⟩ | ⟨q, vm₁, ⟨U', l2, c2, s2⟩, hW₁, X', ⟨g', mk, t, L, E, ce, e1, e2, hq, hce, hcv, hcl, h1, hL, h2, h3⟩, st⟩
  · dsimp only [Pt.U, Pt.locs, Pt.cells, Pt.slots] at X' e1 e2 h1 h2 h3 st
    subst h1; subst h2; subst h3
    exact Or.inl ⟨v, (T.setVm vm₁).calling g' mk As.toArray, t, U', L, hT, X', hL, e1, e2, hq, st⟩
  · dsimp only [Pt.U, Pt.locs, Pt.cells, Pt.slots] at X' e1 e2 h1 h2 h3 st hcl
    subst h1; subst h2; subst h3
    exact Or.inr ⟨q, (T.setVm vm₁).calling g' mk As.toArray, t, U', L, E, ce, hT, X', hL, e1, e2, hq, hce, hcv, vx_cls hW₁ hcl, st⟩
end Runs
section Rows
variable {p : Program} {l : Launch} {e : Env} {R : Room} {s : State} {m : MethodId} {args : Array Value} {below : List Frame} {meth : Method} {c : Code} {H : Heap} {locs : List Loc} {cells slots : Nat} {Q : State → Prop}
variable {mc ms : Nat} {free : Addr → Prop} {A0 A1 : Nat → Prop} {H0 : Heap} {a : Array Value} {pc : Nat} {ls : Array Slot} {st0 rest : List Value}
theorem vx_keep {st₀ t T' : State} {L : List Loc} (h0 : st₀.heap = H) (e1 : T'.heap = t.heap) (hS : va_S A0 H0 H locs) (hA : ∀ q, q < H.size → A1 q → A0 q) (hf : ∀ q, free q → A0 q) (hL : ∀ q ∈ L, free q.base) (hF : va_F A1 st₀ t) :
    H.size ≤ T'.heap.size ∧ (∀ q : Nat, q < H.size → ¬ A1 q → T'.heap[q]? = H[q]?) ∧ va_S A0 H0 T'.heap (locs ++ L) := by
  obtain ⟨hz, hk⟩ := hF
  rw [h0] at hz hk
  exact ⟨by rw [e1]; exact hz, fun q h1 h2 => by rw [e1]; exact hk q h1 h2,
    ⟨Nat.le_trans hS.1 (by rw [e1]; exact hz), fun q h1 h2 => by rw [e1, hk q (Nat.lt_of_lt_of_le h1 hS.1) (fun z => h2 (hA q (Nat.lt_of_lt_of_le h1 hS.1) z))]; exact hS.2.1 q h1 h2, fun q hq => by
      rcases List.mem_append.mp hq with h | h
      · exact hS.2.2 q h
      · exact hf _ (hL q h)⟩⟩
theorem vx_calli {S SX : Type} {post : Int32 → S → Prop} {px : SX → Prop} {B : S → State → Prop} {BX : String → SX → State → Prop} {AX : Nat → Prop} (hr : vx_Run p l e R s m args below meth c H locs cells slots mc ms (F0 m pc ls st0) rest (va_Qi post B A1 a) (vx_X px BX AX) free) (hS : va_S A0 H0 H locs) (hA : ∀ q, q < H.size → A1 q → A0 q) (hf : ∀ q, free q → A0 q) (hAX : ∀ q, q < H.size → AX q → A0 q)
    (kx : ∀ (E : String) (ce : Cell) (q9 : Addr) (u : SX) (t : State) (H1 : Heap) (locs1 : List Loc), t.heap = H1 → s.vm.Alike t.vm → px u → BX E u t → H.size ≤ H1.size → (∀ q : Nat, q < H.size → ¬ AX q → H1[q]? = H[q]?) → va_S A0 H0 H1 locs1 → H1[q9]? = some ce → ce.vm = .none → s.vm.findClass E = some ce.cls → vx_W p l e R s m args below meth c H1 locs1 (cells + mc) (slots + ms) Q (F0 m pc ls rest) q9)
    (kk : ∀ (r : Int32) (u : S) (t : State) (H1 : Heap) (locs1 : List Loc), t.heap = H1 → s.vm.Alike t.vm → post r u → B u t → H.size ≤ H1.size → (∀ q : Nat, q < H.size → ¬ A1 q → H1[q]? = H[q]?) → va_S A0 H0 H1 locs1 → W p l e R s m args below meth c H1 locs1 (cells + mc) (slots + ms) Q (F0 m (pc + 3) ls (.int r :: rest))) : W p l e R s m args below meth c H locs cells slots Q (F0 m pc ls st0) := by
  intro T hT X
  rcases hr T hT X with ⟨v, st₀, t, T', L, h0, X', hL, e1, e2, ⟨⟨r, u, hv, hp, hb⟩, hF⟩, st⟩ | ⟨q, st₀, t, T', L, E, ce, h0, X', hL, e1, e2, ⟨u, hp, hb, hF⟩, hce, hcv, hcl, st⟩
  · cases hv
    obtain ⟨k1, k2, k3⟩ := vx_keep h0 e1 hS hA hf hL hF
    obtain ⟨t2, a1, b1⟩ := kk r u t T'.heap (locs ++ L) e1.symm (by rw [← e2]; exact X'.warmed.alike) hp hb k1 k2 k3 T' rfl X'
    exact ⟨t2, st t2 a1, b1⟩
  · obtain ⟨k1, k2, k3⟩ := vx_keep h0 e1 hS hAX hf hL hF
    obtain ⟨t2, a1, b1⟩ := kx E ce q u t T'.heap (locs ++ L) e1.symm (by rw [← e2]; exact X'.warmed.alike) hp hb k1 k2 k3 (by rw [e1]; exact hce) hcv hcl T' rfl X'
    exact ⟨t2, st.trans a1, b1⟩
theorem vx_calll {S SX : Type} {post : Int64 → S → Prop} {px : SX → Prop} {B : S → State → Prop} {BX : String → SX → State → Prop} {AX : Nat → Prop} (hr : vx_Run p l e R s m args below meth c H locs cells slots mc ms (F0 m pc ls st0) rest (va_Ql post B A1 a) (vx_X px BX AX) free) (hS : va_S A0 H0 H locs) (hA : ∀ q, q < H.size → A1 q → A0 q) (hf : ∀ q, free q → A0 q) (hAX : ∀ q, q < H.size → AX q → A0 q)
    (kx : ∀ (E : String) (ce : Cell) (q9 : Addr) (u : SX) (t : State) (H1 : Heap) (locs1 : List Loc), t.heap = H1 → s.vm.Alike t.vm → px u → BX E u t → H.size ≤ H1.size → (∀ q : Nat, q < H.size → ¬ AX q → H1[q]? = H[q]?) → va_S A0 H0 H1 locs1 → H1[q9]? = some ce → ce.vm = .none → s.vm.findClass E = some ce.cls → vx_W p l e R s m args below meth c H1 locs1 (cells + mc) (slots + ms) Q (F0 m pc ls rest) q9)
    (kk : ∀ (r : Int64) (u : S) (t : State) (H1 : Heap) (locs1 : List Loc), t.heap = H1 → s.vm.Alike t.vm → post r u → B u t → H.size ≤ H1.size → (∀ q : Nat, q < H.size → ¬ A1 q → H1[q]? = H[q]?) → va_S A0 H0 H1 locs1 → W p l e R s m args below meth c H1 locs1 (cells + mc) (slots + ms) Q (F0 m (pc + 3) ls (.long r :: rest))) : W p l e R s m args below meth c H locs cells slots Q (F0 m pc ls st0) := by
  intro T hT X
  rcases hr T hT X with ⟨v, st₀, t, T', L, h0, X', hL, e1, e2, ⟨⟨r, u, hv, hp, hb⟩, hF⟩, st⟩ | ⟨q, st₀, t, T', L, E, ce, h0, X', hL, e1, e2, ⟨u, hp, hb, hF⟩, hce, hcv, hcl, st⟩
  · cases hv
    obtain ⟨k1, k2, k3⟩ := vx_keep h0 e1 hS hA hf hL hF
    obtain ⟨t2, a1, b1⟩ := kk r u t T'.heap (locs ++ L) e1.symm (by rw [← e2]; exact X'.warmed.alike) hp hb k1 k2 k3 T' rfl X'
    exact ⟨t2, st t2 a1, b1⟩
  · obtain ⟨k1, k2, k3⟩ := vx_keep h0 e1 hS hAX hf hL hF
    obtain ⟨t2, a1, b1⟩ := kx E ce q u t T'.heap (locs ++ L) e1.symm (by rw [← e2]; exact X'.warmed.alike) hp hb k1 k2 k3 (by rw [e1]; exact hce) hcv hcl T' rfl X'
    exact ⟨t2, st.trans a1, b1⟩
theorem vx_callf {S SX : Type} {post : UInt32 → S → Prop} {px : SX → Prop} {B : S → State → Prop} {BX : String → SX → State → Prop} {AX : Nat → Prop} (hr : vx_Run p l e R s m args below meth c H locs cells slots mc ms (F0 m pc ls st0) rest (va_Qf post B A1 a) (vx_X px BX AX) free) (hS : va_S A0 H0 H locs) (hA : ∀ q, q < H.size → A1 q → A0 q) (hf : ∀ q, free q → A0 q) (hAX : ∀ q, q < H.size → AX q → A0 q)
    (kx : ∀ (E : String) (ce : Cell) (q9 : Addr) (u : SX) (t : State) (H1 : Heap) (locs1 : List Loc), t.heap = H1 → s.vm.Alike t.vm → px u → BX E u t → H.size ≤ H1.size → (∀ q : Nat, q < H.size → ¬ AX q → H1[q]? = H[q]?) → va_S A0 H0 H1 locs1 → H1[q9]? = some ce → ce.vm = .none → s.vm.findClass E = some ce.cls → vx_W p l e R s m args below meth c H1 locs1 (cells + mc) (slots + ms) Q (F0 m pc ls rest) q9)
    (kk : ∀ (r : UInt32) (u : S) (t : State) (H1 : Heap) (locs1 : List Loc), t.heap = H1 → s.vm.Alike t.vm → post r u → B u t → H.size ≤ H1.size → (∀ q : Nat, q < H.size → ¬ A1 q → H1[q]? = H[q]?) → va_S A0 H0 H1 locs1 → W p l e R s m args below meth c H1 locs1 (cells + mc) (slots + ms) Q (F0 m (pc + 3) ls (.float r :: rest))) : W p l e R s m args below meth c H locs cells slots Q (F0 m pc ls st0) := by
  intro T hT X
  rcases hr T hT X with ⟨v, st₀, t, T', L, h0, X', hL, e1, e2, ⟨⟨r, u, hv, hp, hb⟩, hF⟩, st⟩ | ⟨q, st₀, t, T', L, E, ce, h0, X', hL, e1, e2, ⟨u, hp, hb, hF⟩, hce, hcv, hcl, st⟩
  · cases hv
    obtain ⟨k1, k2, k3⟩ := vx_keep h0 e1 hS hA hf hL hF
    obtain ⟨t2, a1, b1⟩ := kk r u t T'.heap (locs ++ L) e1.symm (by rw [← e2]; exact X'.warmed.alike) hp hb k1 k2 k3 T' rfl X'
    exact ⟨t2, st t2 a1, b1⟩
  · obtain ⟨k1, k2, k3⟩ := vx_keep h0 e1 hS hAX hf hL hF
    obtain ⟨t2, a1, b1⟩ := kx E ce q u t T'.heap (locs ++ L) e1.symm (by rw [← e2]; exact X'.warmed.alike) hp hb k1 k2 k3 (by rw [e1]; exact hce) hcv hcl T' rfl X'
    exact ⟨t2, st.trans a1, b1⟩
theorem vx_calld {S SX : Type} {post : UInt64 → S → Prop} {px : SX → Prop} {B : S → State → Prop} {BX : String → SX → State → Prop} {AX : Nat → Prop} (hr : vx_Run p l e R s m args below meth c H locs cells slots mc ms (F0 m pc ls st0) rest (va_Qd post B A1 a) (vx_X px BX AX) free) (hS : va_S A0 H0 H locs) (hA : ∀ q, q < H.size → A1 q → A0 q) (hf : ∀ q, free q → A0 q) (hAX : ∀ q, q < H.size → AX q → A0 q)
    (kx : ∀ (E : String) (ce : Cell) (q9 : Addr) (u : SX) (t : State) (H1 : Heap) (locs1 : List Loc), t.heap = H1 → s.vm.Alike t.vm → px u → BX E u t → H.size ≤ H1.size → (∀ q : Nat, q < H.size → ¬ AX q → H1[q]? = H[q]?) → va_S A0 H0 H1 locs1 → H1[q9]? = some ce → ce.vm = .none → s.vm.findClass E = some ce.cls → vx_W p l e R s m args below meth c H1 locs1 (cells + mc) (slots + ms) Q (F0 m pc ls rest) q9)
    (kk : ∀ (r : UInt64) (u : S) (t : State) (H1 : Heap) (locs1 : List Loc), t.heap = H1 → s.vm.Alike t.vm → post r u → B u t → H.size ≤ H1.size → (∀ q : Nat, q < H.size → ¬ A1 q → H1[q]? = H[q]?) → va_S A0 H0 H1 locs1 → W p l e R s m args below meth c H1 locs1 (cells + mc) (slots + ms) Q (F0 m (pc + 3) ls (.double r :: rest))) : W p l e R s m args below meth c H locs cells slots Q (F0 m pc ls st0) := by
  intro T hT X
  rcases hr T hT X with ⟨v, st₀, t, T', L, h0, X', hL, e1, e2, ⟨⟨r, u, hv, hp, hb⟩, hF⟩, st⟩ | ⟨q, st₀, t, T', L, E, ce, h0, X', hL, e1, e2, ⟨u, hp, hb, hF⟩, hce, hcv, hcl, st⟩
  · cases hv
    obtain ⟨k1, k2, k3⟩ := vx_keep h0 e1 hS hA hf hL hF
    obtain ⟨t2, a1, b1⟩ := kk r u t T'.heap (locs ++ L) e1.symm (by rw [← e2]; exact X'.warmed.alike) hp hb k1 k2 k3 T' rfl X'
    exact ⟨t2, st t2 a1, b1⟩
  · obtain ⟨k1, k2, k3⟩ := vx_keep h0 e1 hS hAX hf hL hF
    obtain ⟨t2, a1, b1⟩ := kx E ce q u t T'.heap (locs ++ L) e1.symm (by rw [← e2]; exact X'.warmed.alike) hp hb k1 k2 k3 (by rw [e1]; exact hce) hcv hcl T' rfl X'
    exact ⟨t2, st.trans a1, b1⟩
theorem vx_callv {S SX : Type} {post : S → Prop} {px : SX → Prop} {B : S → State → Prop} {BX : String → SX → State → Prop} {AX : Nat → Prop} (hr : vx_Run p l e R s m args below meth c H locs cells slots mc ms (F0 m pc ls st0) rest (va_Qv post B A1 a) (vx_X px BX AX) free) (hS : va_S A0 H0 H locs) (hA : ∀ q, q < H.size → A1 q → A0 q) (hf : ∀ q, free q → A0 q) (hAX : ∀ q, q < H.size → AX q → A0 q)
    (kx : ∀ (E : String) (ce : Cell) (q9 : Addr) (u : SX) (t : State) (H1 : Heap) (locs1 : List Loc), t.heap = H1 → s.vm.Alike t.vm → px u → BX E u t → H.size ≤ H1.size → (∀ q : Nat, q < H.size → ¬ AX q → H1[q]? = H[q]?) → va_S A0 H0 H1 locs1 → H1[q9]? = some ce → ce.vm = .none → s.vm.findClass E = some ce.cls → vx_W p l e R s m args below meth c H1 locs1 (cells + mc) (slots + ms) Q (F0 m pc ls rest) q9)
    (kk : ∀ (u : S) (t : State) (H1 : Heap) (locs1 : List Loc), t.heap = H1 → s.vm.Alike t.vm → post u → B u t → H.size ≤ H1.size → (∀ q : Nat, q < H.size → ¬ A1 q → H1[q]? = H[q]?) → va_S A0 H0 H1 locs1 → W p l e R s m args below meth c H1 locs1 (cells + mc) (slots + ms) Q (F0 m (pc + 3) ls (rest))) : W p l e R s m args below meth c H locs cells slots Q (F0 m pc ls st0) := by
  intro T hT X
  rcases hr T hT X with ⟨v, st₀, t, T', L, h0, X', hL, e1, e2, ⟨⟨u, hv, hp, hb⟩, hF⟩, st⟩ | ⟨q, st₀, t, T', L, E, ce, h0, X', hL, e1, e2, ⟨u, hp, hb, hF⟩, hce, hcv, hcl, st⟩
  · cases hv
    obtain ⟨k1, k2, k3⟩ := vx_keep h0 e1 hS hA hf hL hF
    obtain ⟨t2, a1, b1⟩ := kk u t T'.heap (locs ++ L) e1.symm (by rw [← e2]; exact X'.warmed.alike) hp hb k1 k2 k3 T' rfl X'
    exact ⟨t2, st t2 a1, b1⟩
  · obtain ⟨k1, k2, k3⟩ := vx_keep h0 e1 hS hAX hf hL hF
    obtain ⟨t2, a1, b1⟩ := kx E ce q u t T'.heap (locs ++ L) e1.symm (by rw [← e2]; exact X'.warmed.alike) hp hb k1 k2 k3 (by rw [e1]; exact hce) hcv hcl T' rfl X'
    exact ⟨t2, st.trans a1, b1⟩
/-- caught by the row x of this method's table; the rows ahead don't take it -/
theorem vx_catch {own name : String} {E : String} {ce : Cell} {q : Addr} (hown : s.vm.findClass own = some m.cls) (pre : List ExceptionTableEntry) (x : ExceptionTableEntry) (suf : List ExceptionTableEntry) (hsplit : c.exceptionTable.toList = pre ++ x :: suf)
    (hpass : ∀ z ∈ pre, covers z pc = false ∨ (z.catchType ≠ 0 ∧ ∃ nm : String, (Cond.classLink own z.catchType nm).before args s = true ∧ va_Nc E nm s)) (hx : covers x pc = true) (h0 : x.catchType ≠ 0)
    (hlink : (Cond.classLink own x.catchType name).before args s = true) (hcast : (Cond.castable E name).before args s = true) (hcell : H[q]? = some ce) (hv : ce.vm = .none) (hcl : s.vm.findClass E = some ce.cls)
    (kk : W p l e R s m args below meth c H locs cells slots Q (F0 m x.handlerPc ls [.ref q])) : vx_W p l e R s m args below meth c H locs cells slots Q (F0 m pc ls rest) q := by
  intro T hT X
  have hpl : e.platform.magicAccessors = ({} : Platform).magicAccessors := by rw [X.admits.platform]
  obtain ⟨c3, c4, hc3, hc4, hasg⟩ := Cond.castable_spec hcast
  cases Option.some.inj (hc3.symm.trans hcl)
  obtain ⟨c5, hc5, hcl5⟩ := Cond.classLink_spec hown hlink e.platform hpl
  cases Option.some.inj (hc4.symm.trans hc5)
  obtain ⟨vm', X', st⟩ := X.thenCaughtThrough q (g := F0 m pc ls rest) rfl (Steps.refl _) (by rw [hT]; exact hcell) (by rw [hv]; rfl) (by obtain ⟨k9, h9, -⟩ := Vm.findClass_spec hcl; exact ⟨k9, h9⟩) pre x suf hsplit
    (fun z hz => by
      rcases hpass z hz with h | ⟨hz0, nm, hl1, hn1⟩
      · exact Or.inl h
      · obtain ⟨c6, hc6, hcl6⟩ := Cond.classLink_spec hown hl1 e.platform hpl
        obtain ⟨a8, b8, h1, h2, h3⟩ := hn1
        cases Option.some.inj (h1.symm.trans hcl)
        cases Option.some.inj (h2.symm.trans hc6)
        exact Or.inr ⟨hz0, _, hcl6, h3⟩) hx (Or.inr ⟨h0, c4, hcl5, hasg⟩)
  obtain ⟨t, a1, b1⟩ := kk (T.setVm vm') hT X'
  exact ⟨t, st.trans a1, b1⟩
end Rows
section Ends
variable {p : Program} {l : Launch} {e : Env} {R : Room} {s : State} {m : MethodId} {args : Array Value} {below : List Frame} {meth : Method} {c : Code} {H : Heap} {locs : List Loc} {cells slots : Nat} {Q : State → Prop}
variable {mc ms : Nat} {free : Addr → Prop} {A0 A1 : Nat → Prop} {H0 : Heap} {a : Array Value} {ls : Array Slot} {st0 rest : List Value}
variable {Qc : Array Value → State → Outcome → State → Prop} {XC : String → State → State → Prop}
/-- what a body that may throw owes at its end -/
def vx_MQ (below : List Frame) (Qc : Array Value → State → Outcome → State → Prop) (XC : String → State → State → Prop) (a : Array Value) (s : State) (mc ms : Nat) (free : Addr → Prop) : State → Prop := fun t =>
  ∃ o, t.status = .running ∧ Ended t below o ∧ vx_Q Qc XC mc ms free a s o t
theorem vx_ret {g : JFrame} {mc ms : Nat} (k : W p l e R s m args below meth c H locs cells slots (MQ below Qc args s mc ms free) g) : W p l e R s m args below meth c H locs cells slots (vx_MQ below Qc XC args s mc ms free) g := by
  intro T hT X
  obtain ⟨t, a1, o, b1, b2, b3, b4⟩ := k T hT X
  exact ⟨t, a1, o, b1, b2, Or.inl ⟨b3, b4⟩⟩
/-- not caught here: it goes on to the caller -/
theorem vx_widen {g : JFrame} {q : Addr} {k n : Nat} (h1 : cells ≤ k) (h2 : slots ≤ n) (kk : vx_W p l e R s m args below meth c H locs k n Q g q) : vx_W p l e R s m args below meth c H locs cells slots Q g q := fun T hT X => kk T hT (stand_widen X h1 h2)
theorem vx_out {pc : Nat} {E : String} {ce : Cell} {q : Addr} {mc ms : Nat} (hout : ∀ x ∈ c.exceptionTable.toList, covers x pc = false) (hlocks : meth.locks = false) (hcell : H[q]? = some ce) (hv : ce.vm = .none) (hcl : s.vm.findClass E = some ce.cls)
    (hx : ∀ t : State, t.heap = H → s.vm.Alike t.vm → XC E s t) (hf : ∀ z ∈ locs, free z.base) (hc : cells ≤ mc) (hs : slots ≤ ms) :
    vx_W p l e R s m args below meth c H locs cells slots (vx_MQ below Qc XC args s mc ms free) (F0 m pc ls rest) q := by
  intro T hT X
  obtain ⟨st1, hrun, hend, hW, hsm⟩ := X.leaveThrown q (g := F0 m pc ls rest) rfl rfl rfl hout hlocks
  have hcell9 : (T.setFrames (.throwing q :: below)).heap[q]? = some ce := by
    show T.heap[q]? = some ce
    rw [hT]; exact hcell
  exact ⟨_, st1, .threw q, hrun, hend, Or.inr ⟨q, rfl, E, ce, locs, hx _ hT hW.alike, hcell9, hv, hcl, hW, hsm.mono hc hs, hf⟩⟩
theorem vx_frame {U : State} {k n : Nat} (h : s.sameButNew ({ U with vm := s.vm } : State) locs k n) : s.heap.size ≤ U.heap.size ∧ ∀ q : Nat, q < s.heap.size → (∀ z ∈ locs, z.base ≠ q) → U.heap[q]? = s.heap[q]? := by
  obtain ⟨-, h2, -, -, -, h6⟩ := h
  refine ⟨h2, fun q hq hz => ?_⟩
  obtain ⟨c9, e1, e2, e3, e4⟩ := h6 q _ (Array.getElem?_eq_getElem hq)
  have hs : c9.slots = (s.heap[q]).slots := Array.ext_getElem? fun i => e4 i fun hm => hz _ hm rfl
  have h9 : c9 = s.heap[q] := by
    rw [hs] at e2
    exact e2
  have e5 : U.heap[q]? = some c9 := e1
  rw [e5, h9, Array.getElem?_eq_getElem hq]
/-- the words of a throw but the four that speak of the heap -/
def vx_no (w : Cond) : Bool := decide (w ≠ .isRef (.static Bundle.tN "UNASSIGNED_STACK" Bundle.steD)) && decide (w ≠ .isRef (.static Bundle.tN "SUPPRESSED_SENTINEL" Bundle.listD)) && decide (w ≠ .laysStatic Bundle.tN "UNASSIGNED_STACK" Bundle.steD) && decide (w ≠ .laysStatic Bundle.tN "SUPPRESSED_SENTINEL" Bundle.listD)
def vx_at0 (own : String) (ic : Nat) (X : String) (names : List String) : List Cond := (Bundle.ownAtoms0 own ic X names).filter vx_no
def vx_atS (own : String) (ic : Nat) (X : String) (names : List String) : List Cond := (Bundle.ownAtoms own ic X names).filter vx_no
/-- a word that the tables alone decide, or a good one -/
def vx_ot (w : Cond) : Bool := w.onTables || goodWord w
theorem vx_ot_at {args a' : Array Value} {s U : State} {w : Cond} (hW : s.WarmedH U.vm) (hvm : s.vm = U.vm) (hg : vx_ot w = true) (h : w.before args s = true) : w.before a' U = true := by
  simp only [vx_ot, Bool.or_eq_true] at hg
  rcases hg with hg | hg
  · exact va_tabs hg hvm h
  · exact word_at hW (good_of_word hg) h
/-- a list's words: the good ones out of the method's own list, the others by premises of their own -/
theorem vx_hat {args : Array Value} {s : State} {L B : List Cond} (h1 : ∀ w ∈ L.filter goodWord, w.before args s = true) (h2 : ∀ w ∈ L.filter (fun w => !goodWord w), w ∈ B) (h3 : ∀ w ∈ B, w.before args s = true) : ∀ w ∈ L, w.before args s = true := by
  intro w hw
  by_cases g : goodWord w = true
  · exact h1 w (List.mem_filter.mpr ⟨hw, g⟩)
  · refine h3 w (h2 w (List.mem_filter.mpr ⟨hw, ?_⟩))
    show (!goodWord w) = true
    cases hgw : goodWord w
    · rfl
    · exact absurd hgw g
theorem vx_c {args : Array Value} {s : State} {w : Cond} {B : List Cond} (h : w.before args s = true) (t : ∀ w ∈ B, w.before args s = true) : ∀ w' ∈ w :: B, w'.before args s = true := fun w' h' => (List.mem_cons.mp h').elim (fun e => by rw [e]; exact h) (t w')
theorem vx_n {args : Array Value} {s : State} : ∀ w ∈ ([] : List Cond), w.before args s = true := fun _ h => nomatch h
theorem vx_own {args : Array Value} {s : State} {L : List Cond} (h1 : ∀ w ∈ L.filter vx_no, w.before args s = true)
    (hU : (Cond.isRef (.static Bundle.tN "UNASSIGNED_STACK" Bundle.steD)).before args s = true) (hN : (Cond.isRef (.static Bundle.tN "SUPPRESSED_SENTINEL" Bundle.listD)).before args s = true)
    (lU : (Cond.laysStatic Bundle.tN "UNASSIGNED_STACK" Bundle.steD).before args s = true) (lN : (Cond.laysStatic Bundle.tN "SUPPRESSED_SENTINEL" Bundle.listD).before args s = true) : ∀ w ∈ L, w.before args s = true := by
  intro w hw
  by_cases e1 : w = .isRef (.static Bundle.tN "UNASSIGNED_STACK" Bundle.steD)
  · rw [e1]; exact hU
  · by_cases e2 : w = .isRef (.static Bundle.tN "SUPPRESSED_SENTINEL" Bundle.listD)
    · rw [e2]; exact hN
    · by_cases e3 : w = .laysStatic Bundle.tN "UNASSIGNED_STACK" Bundle.steD
      · rw [e3]; exact lU
      · by_cases e4 : w = .laysStatic Bundle.tN "SUPPRESSED_SENTINEL" Bundle.listD
        · rw [e4]; exact lN
        · exact h1 w (List.mem_filter.mpr ⟨hw, by unfold vx_no; rw [decide_eq_true e1, decide_eq_true e2, decide_eq_true e3, decide_eq_true e4]; rfl⟩)
/-- where a static field lies, its class's statics cell in H -/
def vx_L (C n d : String) (A : Nat → Prop) (U : State) (H : Heap) : Prop := ∃ (c : ClassId) (k : Class) (i : Nat) (f : Field) (a : Nat) (cell : Cell), U.vm.findClass C = some c ∧ U.fieldFound? C n d = some (c, k, i, f) ∧ f.isStatic = true ∧ k.statics = some a ∧ H[a]? = some cell ∧ cell.vm.isStatics = true ∧ cell.cls = c ∧ f.slot < cell.slots.size ∧ k.staticTypes[f.slot]? = some f.type ∧ ¬ A a
theorem vx_L.moved {C n d : String} {A : Nat → Prop} {u U : State} {H : Heap} (hvm : u.vm.Alike U.vm) (h : vx_L C n d A u H) : vx_L C n d A U H := by
  obtain ⟨c, k, i, f, a, cell, h1, h2, h3, h4, h5, h6, h7, h8, h9, h10⟩ := h
  obtain ⟨k', hi', he⟩ := State.fieldFound?_setVm hvm h2
  exact ⟨c, k', i, f, a, cell, by rw [hvm.findClass]; exact h1, hi', h3, by rw [he]; exact h4, h5, h6, h7, h8, by rw [he]; exact h9, h10⟩
theorem vx_L.kept {C n d : String} {A : Nat → Prop} {U : State} {H H1 : Heap} (h : vx_L C n d A U H) (hq : ∀ a : Nat, a < H.size → ¬ A a → H1[a]? = H[a]?) : vx_L C n d A U H1 := by
  obtain ⟨c, k, i, f, a, cell, h1, h2, h3, h4, h5, h6, h7, h8, h9, h10⟩ := h
  exact ⟨c, k, i, f, a, cell, h1, h2, h3, h4, by rw [hq a (Array.getElem?_eq_some_iff.mp h5).1 h10]; exact h5, h6, h7, h8, h9, h10⟩
theorem vx_L.narrow {C n d : String} {A B : Nat → Prop} {U : State} {H : Heap} (h : vx_L C n d A U H) (hAB : ∀ q, B q → A q) : vx_L C n d B U H := by
  obtain ⟨c, k, i, f, a, cell, h1, h2, h3, h4, h5, h6, h7, h8, h9, h10⟩ := h
  exact ⟨c, k, i, f, a, cell, h1, h2, h3, h4, h5, h6, h7, h8, h9, fun z => h10 (hAB _ z)⟩
theorem vx_L.word {C n d : String} {A : Nat → Prop} {s : State} {args : Array Value} (h : vx_L C n d A s s.heap) : (Cond.laysStatic C n d).before args s = true := by
  obtain ⟨c, k, i, f, a, cell, h1, h2, h3, h4, h5, h6, h7, h8, h9, -⟩ := h
  show (Cond.laysStatic C n d).holds args s none s [] = true
  exact Cond.laysStatic_of h1 h2 h3 h4 h5 h6 h7 h8 h9
/-- .. and what it holds: null or some reference -/
def vx_Zq (C n d : String) (A : Nat → Prop) (U : State) (H : Heap) : Prop := va_Zq C n d A U H ∧ vx_L C n d A U H
theorem vx_Zq.moved {C n d : String} {A : Nat → Prop} {u U : State} {H : Heap} (hvm : u.vm.Alike U.vm) (h : vx_Zq C n d A u H) : vx_Zq C n d A U H := ⟨va_Zq.moved hvm h.1, vx_L.moved hvm h.2⟩
theorem vx_Zq.kept {C n d : String} {A : Nat → Prop} {U : State} {H H1 : Heap} (h : vx_Zq C n d A U H) (hq : ∀ a : Nat, a < H.size → ¬ A a → H1[a]? = H[a]?) : vx_Zq C n d A U H1 := ⟨va_Zq.kept h.1 hq, vx_L.kept h.2 hq⟩
theorem vx_Zq.narrow {C n d : String} {A B : Nat → Prop} {U : State} {H : Heap} (h : vx_Zq C n d A U H) (hAB : ∀ q, B q → A q) : vx_Zq C n d B U H := ⟨va_Zq.narrow h.1 hAB, vx_L.narrow h.2 hAB⟩
theorem vx_Zqof {args : Array Value} {s : State} {C n d : String} {A : Nat → Prop} (hl : (Cond.laysStatic C n d).before args s = true) (hini : (Cond.initialized C).before args s = true) (h : (Cond.isRef (.static C n d)).before args s = true) (hA : ∀ a : Nat, a < s.heap.size → ¬ A a) : vx_Zq C n d A s s.heap := by
  refine ⟨va_Zqof hl hini h hA, ?_⟩
  obtain ⟨c, k, i, f, a, cell, h1, h2, h3, h4, h5, h6, h7, h8, h9⟩ := Cond.laysStatic_spec hl
  exact ⟨c, k, i, f, a, cell, h1, h2, h3, h4, h5, h6, h7, h8, h9, hA a (Array.getElem?_eq_some_iff.mp h5).1⟩
theorem vx_isRef {C n d : String} {v : Value} {A : Nat → Prop} {s : State} {args : Array Value} (h : va_Z C n d v A s s.heap) (hv : v.isRef = true) : (Cond.isRef (.static C n d)).before args s = true := by
  obtain ⟨cf, kf, fi, f, a, cell, h1, h2, h3, h4, h5, h6, h7, -⟩ := h
  have he : (Term.static C n d).eval args s none [] s = some v := by
    simp [Term.eval, State.fieldNamed?, h1, h2, h4, h5, h6, h7]
  simp only [Cond.before, Cond.holds, Cond.value, he]
  cases v <;> simp_all [Value.isRef]
theorem vx_isRefq {C n d : String} {A : Nat → Prop} {s : State} {args : Array Value} (h : va_Zq C n d A s s.heap) : (Cond.isRef (.static C n d)).before args s = true := by
  rcases h with h | ⟨t, h⟩
  · exact vx_isRef h rfl
  · exact vx_isRef h rfl
/-- the same frame, seen from here: as if the method were called anew in this heap -/
theorem vx_rebase {T : State} (X : Stand p l e R s m args below meth c T locs cells slots) {R' : Room} (hf : R'.frames ≤ R.frames) (hl : R'.locals ≤ R.locals) (hc : cells + R'.cells ≤ R.cells) (hs : slots + R'.slots ≤ R.slots) :
    Stand p l e R' ((T.setVm s.vm).setFrames (.invoking m args :: below)) m args below meth c T [] 0 0 := by
  have htop : (T.setVm s.vm).topJava?.isSome := X.here.top
  have hF : ((T.setVm s.vm).setFrames (.invoking m args :: below)).frames = .invoking m args :: below := State.frames_setFrames _ (State.cur_lt_of_top htop)
  obtain ⟨g₀, hg0⟩ := Option.isSome_iff_exists.mp htop
  obtain ⟨r, hr⟩ := State.topJava?_eq_some.mp hg0
  have hl9 : e.platform.stackLimits (T.setVm s.vm).me = e.platform.stackLimits s.me := X.limits
  have hb9 : (T.setVm s.vm).me.stackBytes = s.me.stackBytes := X.bytes
  refine ⟨X.admits, X.cas, X.clock, hF, ?_, X.hears, X.method, X.code, X.here, X.tail, X.warmed, ?_, ?_, ?_⟩
  · have h := X.room
    have hU : ((T.setVm s.vm).setFrames (.invoking m args :: below)).localsInUse = s.localsInUse := by
      rw [State.localsInUse_invoking hF (meth := meth) (c := c) X.method X.code, State.localsInUse_invoking X.frames X.method X.code]
    simp only [State.hasRoom, Bool.and_eq_true, decide_eq_true_eq] at h ⊢
    obtain ⟨⟨⟨⟨h1, h2, h3, h4, h5, h6⟩, h7⟩, h8⟩, h9⟩ := h
    rw [X.frames, List.length_cons] at h2 h3
    have q1 := X.heapSize
    have q2 := X.used
    simp only [hF, hU, List.length_cons, State.stackLimits_setFrames, State.stackBytes_setFrames, hl9, hb9]
    refine ⟨⟨⟨⟨by omega, by omega, by omega, by omega, by omega, h6⟩, ?_⟩, ?_⟩, X.book⟩
    · show T.heap.size + R'.cells ≤ e.platform.maxCells
      omega
    · show T.slotsUsed + R'.slots ≤ e.platform.maxSlots
      omega
  · rw [State.stackLimits_setFrames]; rfl
  · rw [State.stackBytes_setFrames]; rfl
  · refine ⟨?_, Nat.le_refl _, Nat.le_refl _, ?_, ?_, fun a c9 h9 => ⟨c9, h9, rfl, rfl, fun _ _ => rfl⟩⟩
    · obtain ⟨t, ht, -⟩ := State.frames_cons hr
      show T.setVm s.vm = { ((T.setVm s.vm).setFrames (.invoking m args :: below)).setFrames (T.setVm s.vm).frames with heap := T.heap, slotsUsed := T.slotsUsed }
      rw [State.setFrames_setFrames, State.setFrames_self ht]
      rfl
    · show T.slotsUsed = T.slotsUsed + ((T.heap.toList.drop T.heap.size).map (·.slots.size)).sum
      rw [List.drop_eq_nil_of_le (Nat.le_of_eq Array.length_toList)]
      rfl
    · show ((T.heap.toList.drop T.heap.size).map (·.slots.size)).sum ≤ 0
      rw [List.drop_eq_nil_of_le (Nat.le_of_eq Array.length_toList)]
      exact Nat.le_refl _
/-- 'throw new E()': new; dup; invokespecial; athrow -/
theorem vx_throw0 {cc : ByteArray} {pc : Nat} (hexec : p.tables.exec = Jvm.exec) (hb : c.code = cc) (hl : l.stackTraces = false) {own cls : String} {names : List String} {ik ic mc ms : Nat} {A : Nat → Prop}
    (hown : s.vm.findClass own = some m.cls) (hcls : Bundle.fit cls = true) (hnames : ∀ n ∈ names, Bundle.fit n = true)
    (hk : (Cond.classLink own ik cls).before args s = true) (hini : (Cond.initialized cls).before args s = true) (hat : ∀ w ∈ vx_at0 own ic cls names, w.before args s = true)
    (hgood : ∀ w ∈ Cond.classLink own ik cls :: Cond.initialized cls :: vx_at0 own ic cls names, vx_ot w = true)
    (hU : vx_Zq Bundle.tN "UNASSIGNED_STACK" Bundle.steD A s s.heap) (hN : vx_Zq Bundle.tN "SUPPRESSED_SENTINEL" Bundle.listD A s s.heap) (hS : va_S A s.heap H locs) (hsize : ls.size = c.maxLocals)
    (d0 : decode cc pc = .ok (.new ik, 3)) (d3 : decode cc (pc + 3) = .ok (.dup, 1)) (d4 : decode cc (pc + 4) = .ok (.invokespecial ic, 3)) (d7 : decode cc (pc + 7) = .ok (.athrow, 1))
    (hout : ∀ x ∈ c.exceptionTable.toList, covers x (pc + 7) = false)
    (hRframes : names.length + 3 < R.frames) (hRlocals : (rest.map fun v => v.category).sum + (13 * (names.length + 1) + 42) ≤ R.locals) (hRcells : cells + 1 ≤ R.cells) (hRslots : slots + 6 ≤ R.slots) (hlocks : meth.locks = false)
    (hx : ∀ t : State, s.vm.Alike t.vm → H.size ≤ t.heap.size → (∀ q : Nat, q < H.size → t.heap[q]? = H[q]?) → XC cls s t)
    (hf : ∀ z ∈ locs, free z.base) (hc : cells + 1 ≤ mc) (hs : slots + 6 ≤ ms) :
    W p l e R s m args below meth c H locs cells slots (vx_MQ below Qc XC args s mc ms free) (F0 m pc ls rest) := by
  intro T hT X
  have htr : e.platform.stackTraces = false := (show e.platform.stackTraces = l.stackTraces by rw [X.admits.platform]).trans hl
  have Y := vx_rebase X (R' := { frames := R.frames, locals := R.locals, cells := 1, slots := 6 }) (Nat.le_refl _) (Nat.le_refl _) hRcells hRslots
  obtain ⟨s', hA⟩ : ∃ z, z = (T.setVm s.vm).setFrames (.invoking m args :: below) := ⟨_, rfl⟩
  rw [← hA] at Y
  have hvm : s'.vm = s.vm := by rw [hA]; rfl
  have hhp : s'.heap = H := by rw [hA]; exact hT
  have hW0 : s.WarmedH s'.vm := by rw [hvm]; exact State.WarmedH.refl s
  have hat' : ∀ w ∈ vx_at0 own ic cls names, w.before args s' = true := fun w hw => vx_ot_at hW0 hvm.symm (hgood w (List.mem_cons_of_mem _ (List.mem_cons_of_mem _ hw))) (hat w hw)
  have hk' : (Cond.classLink own ik cls).before args s' = true := vx_ot_at hW0 hvm.symm (hgood _ List.mem_cons_self) hk
  have hini' : (Cond.initialized cls).before args s' = true := vx_ot_at hW0 hvm.symm (hgood _ (List.mem_cons_of_mem _ List.mem_cons_self)) hini
  have hU' : vx_Zq Bundle.tN "UNASSIGNED_STACK" Bundle.steD A s' s'.heap := by rw [hhp]; exact vx_Zq.moved hW0.alike (hU.kept hS.2.1)
  have hN' : vx_Zq Bundle.tN "SUPPRESSED_SENTINEL" Bundle.listD A s' s'.heap := by rw [hhp]; exact vx_Zq.moved hW0.alike (hN.kept hS.2.1)
  have h : ∀ w ∈ Bundle.ownAtoms0 own ic cls names, w.before args s' = true := vx_own hat' (vx_isRefq hU'.1) (vx_isRefq hN'.1) hU'.2.word hN'.2.word
  have hown' : s'.vm.findClass own = some m.cls := by rw [hvm]; exact hown
  have hins : (Cond.instantiable cls 6).before args s' = true := h _ (by simp [Bundle.ownAtoms0])
  obtain ⟨vm₁, cX, kX, hfX, hkX, -, -, X₁, st1⟩ := Y.newCold hexec (own := own) (C := cls) (index := ik) (n := 6) hown' hk' hins hini'
    (g := F0 m pc ls rest) rfl (by rw [hb]; exact d0) (Nat.le_refl _) (Nat.le_refl _)
  generalize hT1 : (T.setVm vm₁).pushCell { cls := cX, slots := kX.instanceTypes.map defaultValue, vm := .none } = T1 at X₁ st1
  have hcat : (Value.ref T.heap.size).category = 1 := rfl
  have hcellA : T1.heap[T.heap.size]? = some (freshCell cX kX) := by rw [← hT1]; exact State.heap_pushCell_size _ _
  have d3' : decode c.code (pc + 3) = .ok (.dup, 1) := by rw [hb]; exact d3
  obtain ⟨U, hsteps, hrun, hend, hW, hsame, ce, hce, hO⟩ := X₁.ctorThrow0 hexec htr (own := own) (cls := cls) (names := names) (ic := ic) hown' hcls hnames h (fun x hx => nomatch hx) hfX hkX hcellA (by rw [hhp, hT]; exact Nat.le_refl _)
    (g := { method := m, pc := pc + 4, locals := ls, stack := .ref T.heap.size :: .ref T.heap.size :: rest, locked := none }) rfl hsize rfl rfl (rest := rest) rfl
    (by rw [hb]; exact d4) (by rw [hb]; exact d7) hout hRframes (by simp only [List.map_cons, List.sum_cons, hcat]; omega) hlocks
  obtain ⟨f1, f2⟩ := vx_frame hsame
  rw [hhp] at f1 f2
  have hWs : s.WarmedH U.vm := State.WarmedH.trans hW0 hW
  have hcl : s.vm.findClass cls = some ce.cls := by
    have h9 := hO.cls
    rw [hvm] at h9
    exact h9
  have hall : s.sameButNew ({ U with vm := s.vm } : State) locs mc ms := by
    subst hA
    obtain ⟨e1, e2⟩ := hsame
    rw [State.setFrames_setFrames] at e1
    have h2 : (T.setVm s.vm).sameButNew ({ U with vm := s.vm } : State) [] (0 + 1) (0 + 6) := ⟨e1, e2⟩
    have h3 := X.same.trans h2
    rw [List.append_nil] at h3
    exact h3.mono hc hs
  refine ⟨U, ?_, .threw T.heap.size, hrun, hend, Or.inr ⟨T.heap.size, rfl, cls, ce, locs, hx U hWs.alike f1 (fun q hq => f2 q hq (fun z hz => nomatch hz)), hce, hO.vm, hcl, hWs, hall, hf⟩⟩
  refine st1 _ ?_
  show Steps p.tables e below (T1.setTop { method := m, pc := pc + 3, locals := ls, stack := .ref T.heap.size :: rest, locked := none }) _
  jvm_step X₁.here [X₁.here.top, hexec, d3', Value.category]
  exact hsteps
/-- 'throw new E("text")': new; dup; ldc; invokespecial; athrow -/
theorem vx_throwS {cc : ByteArray} {pc : Nat} (hexec : p.tables.exec = Jvm.exec) (hb : c.code = cc) (hl : l.stackTraces = false) {own cls text : String} {names : List String} {ik is ic mc ms sa : Nat} {A : Nat → Prop}
    (hown : s.vm.findClass own = some m.cls) (hcls : Bundle.fit cls = true) (hnames : ∀ n ∈ names, Bundle.fit n = true)
    (hk : (Cond.classLink own ik cls).before args s = true) (hini : (Cond.initialized cls).before args s = true) (hstr : vk_R own is text sa s) (hat : ∀ w ∈ vx_atS own ic cls names, w.before args s = true)
    (hgood : ∀ w ∈ Cond.classLink own ik cls :: Cond.initialized cls :: vx_atS own ic cls names, vx_ot w = true)
    (hU : vx_Zq Bundle.tN "UNASSIGNED_STACK" Bundle.steD A s s.heap) (hN : vx_Zq Bundle.tN "SUPPRESSED_SENTINEL" Bundle.listD A s s.heap) (hS : va_S A s.heap H locs) (hsize : ls.size = c.maxLocals)
    (d0 : decode cc pc = .ok (.new ik, 3)) (d3 : decode cc (pc + 3) = .ok (.dup, 1)) (d4 : decode cc (pc + 4) = .ok (.ldc is, 2)) (d6 : decode cc (pc + 6) = .ok (.invokespecial ic, 3)) (d9 : decode cc (pc + 9) = .ok (.athrow, 1))
    (hout : ∀ x ∈ c.exceptionTable.toList, covers x (pc + 9) = false)
    (hRframes : names.length + 3 < R.frames) (hRlocals : (rest.map fun v => v.category).sum + (13 * (names.length + 1) + 43) ≤ R.locals) (hRcells : cells + 1 ≤ R.cells) (hRslots : slots + 6 ≤ R.slots) (hlocks : meth.locks = false)
    (hx : ∀ t : State, s.vm.Alike t.vm → H.size ≤ t.heap.size → (∀ q : Nat, q < H.size → t.heap[q]? = H[q]?) → XC cls s t)
    (hf : ∀ z ∈ locs, free z.base) (hc : cells + 1 ≤ mc) (hs : slots + 6 ≤ ms) :
    W p l e R s m args below meth c H locs cells slots (vx_MQ below Qc XC args s mc ms free) (F0 m pc ls rest) := by
  intro T hT X
  have htr : e.platform.stackTraces = false := (show e.platform.stackTraces = l.stackTraces by rw [X.admits.platform]).trans hl
  have Y := vx_rebase X (R' := { frames := R.frames, locals := R.locals, cells := 1, slots := 6 }) (Nat.le_refl _) (Nat.le_refl _) hRcells hRslots
  obtain ⟨s', hA⟩ : ∃ z, z = (T.setVm s.vm).setFrames (.invoking m args :: below) := ⟨_, rfl⟩
  rw [← hA] at Y
  have hvm : s'.vm = s.vm := by rw [hA]; rfl
  have hhp : s'.heap = H := by rw [hA]; exact hT
  have hW0 : s.WarmedH s'.vm := by rw [hvm]; exact State.WarmedH.refl s
  have hat' : ∀ w ∈ vx_atS own ic cls names, w.before args s' = true := fun w hw => vx_ot_at hW0 hvm.symm (hgood w (List.mem_cons_of_mem _ (List.mem_cons_of_mem _ hw))) (hat w hw)
  have hk' : (Cond.classLink own ik cls).before args s' = true := vx_ot_at hW0 hvm.symm (hgood _ List.mem_cons_self) hk
  have hini' : (Cond.initialized cls).before args s' = true := vx_ot_at hW0 hvm.symm (hgood _ (List.mem_cons_of_mem _ List.mem_cons_self)) hini
  have hU' : vx_Zq Bundle.tN "UNASSIGNED_STACK" Bundle.steD A s' s'.heap := by rw [hhp]; exact vx_Zq.moved hW0.alike (hU.kept hS.2.1)
  have hN' : vx_Zq Bundle.tN "SUPPRESSED_SENTINEL" Bundle.listD A s' s'.heap := by rw [hhp]; exact vx_Zq.moved hW0.alike (hN.kept hS.2.1)
  have h : ∀ w ∈ Bundle.ownAtoms own ic cls names, w.before args s' = true := vx_own hat' (vx_isRefq hU'.1) (vx_isRefq hN'.1) hU'.2.word hN'.2.word
  have hown' : s'.vm.findClass own = some m.cls := by rw [hvm]; exact hown
  have hins : (Cond.instantiable cls 6).before args s' = true := h _ (by simp [Bundle.ownAtoms])
  obtain ⟨vm₁, cX, kX, hfX, hkX, -, -, X₁, st1⟩ := Y.newCold hexec (own := own) (C := cls) (index := ik) (n := 6) hown' hk' hins hini'
    (g := F0 m pc ls rest) rfl (by rw [hb]; exact d0) (Nat.le_refl _) (Nat.le_refl _)
  generalize hT1 : (T.setVm vm₁).pushCell { cls := cX, slots := kX.instanceTypes.map defaultValue, vm := .none } = T1 at X₁ st1
  have hcat : (Value.ref T.heap.size).category = 1 := rfl
  have hcellA : T1.heap[T.heap.size]? = some (freshCell cX kX) := by rw [← hT1]; exact State.heap_pushCell_size _ _
  have d3' : decode c.code (pc + 3) = .ok (.dup, 1) := by rw [hb]; exact d3
  have d4' : decode c.code (pc + 4) = .ok (.ldc is, 2) := by rw [hb]; exact d4
  have hstr' : vk_R own is text sa s' := vk_R.warm hW0 hstr
  obtain ⟨U, hsteps, hrun, hend, hW, hsame, ce, hce, hO⟩ := X₁.ctorThrowS hexec htr (own := own) (cls := cls) (names := names) (ic := ic) hown' hcls hnames h (fun x hx => nomatch hx) hfX hkX hcellA (by rw [hhp, hT]; exact Nat.le_refl _) (msg := .ref sa) rfl
    (g := { method := m, pc := pc + 6, locals := ls, stack := .ref sa :: .ref T.heap.size :: .ref T.heap.size :: rest, locked := none }) rfl hsize rfl rfl (rest := rest) rfl
    (by rw [hb]; exact d6) (by rw [hb]; exact d9) hout hRframes (by simp only [List.map_cons, List.sum_cons, hcat]; omega) hlocks
  obtain ⟨f1, f2⟩ := vx_frame hsame
  rw [hhp] at f1 f2
  have hWs : s.WarmedH U.vm := State.WarmedH.trans hW0 hW
  have hcl : s.vm.findClass cls = some ce.cls := by
    have h9 := hO.cls
    rw [hvm] at h9
    exact h9
  have hall : s.sameButNew ({ U with vm := s.vm } : State) locs mc ms := by
    subst hA
    obtain ⟨e1, e2⟩ := hsame
    rw [State.setFrames_setFrames] at e1
    have h2 : (T.setVm s.vm).sameButNew ({ U with vm := s.vm } : State) [] (0 + 1) (0 + 6) := ⟨e1, e2⟩
    have h3 := X.same.trans h2
    rw [List.append_nil] at h3
    exact h3.mono hc hs
  refine ⟨U, ?_, .threw T.heap.size, hrun, hend, Or.inr ⟨T.heap.size, rfl, cls, ce, locs, hx U hWs.alike f1 (fun q hq => f2 q hq (fun z hz => nomatch hz)), hce, hO.vm, hcl, hWs, hall, hf⟩⟩
  refine st1 _ ?_
  show Steps p.tables e below (T1.setTop { method := m, pc := pc + 3, locals := ls, stack := .ref T.heap.size :: rest, locked := none }) _
  jvm_step X₁.here [X₁.here.top, hexec, d3', Value.category]
  exact X₁.ldcString hexec (own := own) (text := text) (index := is) (a := sa) hown' hstr'.1 hstr'.2
    (g := { method := m, pc := pc + 4, locals := ls, stack := .ref T.heap.size :: .ref T.heap.size :: rest, locked := none }) rfl d4' _ hsteps
/-- 'throw new E("text")', the text by a wide index -/
theorem vx_throwSW {cc : ByteArray} {pc : Nat} (hexec : p.tables.exec = Jvm.exec) (hb : c.code = cc) (hl : l.stackTraces = false) {own cls text : String} {names : List String} {ik is ic mc ms sa : Nat} {A : Nat → Prop}
    (hown : s.vm.findClass own = some m.cls) (hcls : Bundle.fit cls = true) (hnames : ∀ n ∈ names, Bundle.fit n = true)
    (hk : (Cond.classLink own ik cls).before args s = true) (hini : (Cond.initialized cls).before args s = true) (hstr : vk_R own is text sa s) (hat : ∀ w ∈ vx_atS own ic cls names, w.before args s = true)
    (hgood : ∀ w ∈ Cond.classLink own ik cls :: Cond.initialized cls :: vx_atS own ic cls names, vx_ot w = true)
    (hU : vx_Zq Bundle.tN "UNASSIGNED_STACK" Bundle.steD A s s.heap) (hN : vx_Zq Bundle.tN "SUPPRESSED_SENTINEL" Bundle.listD A s s.heap) (hS : va_S A s.heap H locs) (hsize : ls.size = c.maxLocals)
    (d0 : decode cc pc = .ok (.new ik, 3)) (d3 : decode cc (pc + 3) = .ok (.dup, 1)) (d4 : decode cc (pc + 4) = .ok (.ldc_w is, 3)) (d7 : decode cc (pc + 7) = .ok (.invokespecial ic, 3)) (d10 : decode cc (pc + 10) = .ok (.athrow, 1))
    (hout : ∀ x ∈ c.exceptionTable.toList, covers x (pc + 10) = false)
    (hRframes : names.length + 3 < R.frames) (hRlocals : (rest.map fun v => v.category).sum + (13 * (names.length + 1) + 43) ≤ R.locals) (hRcells : cells + 1 ≤ R.cells) (hRslots : slots + 6 ≤ R.slots) (hlocks : meth.locks = false)
    (hx : ∀ t : State, s.vm.Alike t.vm → H.size ≤ t.heap.size → (∀ q : Nat, q < H.size → t.heap[q]? = H[q]?) → XC cls s t)
    (hf : ∀ z ∈ locs, free z.base) (hc : cells + 1 ≤ mc) (hs : slots + 6 ≤ ms) :
    W p l e R s m args below meth c H locs cells slots (vx_MQ below Qc XC args s mc ms free) (F0 m pc ls rest) := by
  intro T hT X
  have htr : e.platform.stackTraces = false := (show e.platform.stackTraces = l.stackTraces by rw [X.admits.platform]).trans hl
  have Y := vx_rebase X (R' := { frames := R.frames, locals := R.locals, cells := 1, slots := 6 }) (Nat.le_refl _) (Nat.le_refl _) hRcells hRslots
  obtain ⟨s', hA⟩ : ∃ z, z = (T.setVm s.vm).setFrames (.invoking m args :: below) := ⟨_, rfl⟩
  rw [← hA] at Y
  have hvm : s'.vm = s.vm := by rw [hA]; rfl
  have hhp : s'.heap = H := by rw [hA]; exact hT
  have hW0 : s.WarmedH s'.vm := by rw [hvm]; exact State.WarmedH.refl s
  have hat' : ∀ w ∈ vx_atS own ic cls names, w.before args s' = true := fun w hw => vx_ot_at hW0 hvm.symm (hgood w (List.mem_cons_of_mem _ (List.mem_cons_of_mem _ hw))) (hat w hw)
  have hk' : (Cond.classLink own ik cls).before args s' = true := vx_ot_at hW0 hvm.symm (hgood _ List.mem_cons_self) hk
  have hini' : (Cond.initialized cls).before args s' = true := vx_ot_at hW0 hvm.symm (hgood _ (List.mem_cons_of_mem _ List.mem_cons_self)) hini
  have hU' : vx_Zq Bundle.tN "UNASSIGNED_STACK" Bundle.steD A s' s'.heap := by rw [hhp]; exact vx_Zq.moved hW0.alike (hU.kept hS.2.1)
  have hN' : vx_Zq Bundle.tN "SUPPRESSED_SENTINEL" Bundle.listD A s' s'.heap := by rw [hhp]; exact vx_Zq.moved hW0.alike (hN.kept hS.2.1)
  have h : ∀ w ∈ Bundle.ownAtoms own ic cls names, w.before args s' = true := vx_own hat' (vx_isRefq hU'.1) (vx_isRefq hN'.1) hU'.2.word hN'.2.word
  have hown' : s'.vm.findClass own = some m.cls := by rw [hvm]; exact hown
  have hins : (Cond.instantiable cls 6).before args s' = true := h _ (by simp [Bundle.ownAtoms])
  obtain ⟨vm₁, cX, kX, hfX, hkX, -, -, X₁, st1⟩ := Y.newCold hexec (own := own) (C := cls) (index := ik) (n := 6) hown' hk' hins hini'
    (g := F0 m pc ls rest) rfl (by rw [hb]; exact d0) (Nat.le_refl _) (Nat.le_refl _)
  generalize hT1 : (T.setVm vm₁).pushCell { cls := cX, slots := kX.instanceTypes.map defaultValue, vm := .none } = T1 at X₁ st1
  have hcat : (Value.ref T.heap.size).category = 1 := rfl
  have hcellA : T1.heap[T.heap.size]? = some (freshCell cX kX) := by rw [← hT1]; exact State.heap_pushCell_size _ _
  have d3' : decode c.code (pc + 3) = .ok (.dup, 1) := by rw [hb]; exact d3
  have d4' : decode c.code (pc + 4) = .ok (.ldc_w is, 3) := by rw [hb]; exact d4
  have hstr' : vk_R own is text sa s' := vk_R.warm hW0 hstr
  obtain ⟨U, hsteps, hrun, hend, hW, hsame, ce, hce, hO⟩ := X₁.ctorThrowS hexec htr (own := own) (cls := cls) (names := names) (ic := ic) hown' hcls hnames h (fun x hx => nomatch hx) hfX hkX hcellA (by rw [hhp, hT]; exact Nat.le_refl _) (msg := .ref sa) rfl
    (g := { method := m, pc := pc + 7, locals := ls, stack := .ref sa :: .ref T.heap.size :: .ref T.heap.size :: rest, locked := none }) rfl hsize rfl rfl (rest := rest) rfl
    (by rw [hb]; exact d7) (by rw [hb]; exact d10) hout hRframes (by simp only [List.map_cons, List.sum_cons, hcat]; omega) hlocks
  obtain ⟨f1, f2⟩ := vx_frame hsame
  rw [hhp] at f1 f2
  have hWs : s.WarmedH U.vm := State.WarmedH.trans hW0 hW
  have hcl : s.vm.findClass cls = some ce.cls := by
    have h9 := hO.cls
    rw [hvm] at h9
    exact h9
  have hall : s.sameButNew ({ U with vm := s.vm } : State) locs mc ms := by
    subst hA
    obtain ⟨e1, e2⟩ := hsame
    rw [State.setFrames_setFrames] at e1
    have h2 : (T.setVm s.vm).sameButNew ({ U with vm := s.vm } : State) [] (0 + 1) (0 + 6) := ⟨e1, e2⟩
    have h3 := X.same.trans h2
    rw [List.append_nil] at h3
    exact h3.mono hc hs
  refine ⟨U, ?_, .threw T.heap.size, hrun, hend, Or.inr ⟨T.heap.size, rfl, cls, ce, locs, hx U hWs.alike f1 (fun q hq => f2 q hq (fun z hz => nomatch hz)), hce, hO.vm, hcl, hWs, hall, hf⟩⟩
  refine st1 _ ?_
  show Steps p.tables e below (T1.setTop { method := m, pc := pc + 3, locals := ls, stack := .ref T.heap.size :: rest, locked := none }) _
  jvm_step X₁.here [X₁.here.top, hexec, d3', Value.category]
  exact X₁.ldcStringW hexec (own := own) (text := text) (index := is) (a := sa) hown' hstr'.1 hstr'.2
    (g := { method := m, pc := pc + 4, locals := ls, stack := .ref T.heap.size :: .ref T.heap.size :: rest, locked := none }) rfl d4' _ hsteps
end Ends
section Bodies
variable {l : Launch}
theorem vx_ofW {y : MethodName} {ws ws' : List Cond} {rm : Room} {Pc : Array Value → State → Prop} {Qc : Array Value → State → Outcome → State → Prop} {XC : String → State → State → Prop} {mc ms : Nat} {free : Addr → Prop} {cc : ByteArray} {maxL : Nat} {ret : Option FieldType}
    (hy : plainName y.cls = true) (hw : ws = Cond.code y cc maxL ret :: ws')
    (body : ∀ p e s m args below meth c s₁, BodyLoose p l y (headSpec ws rm) cc maxL ret e s m args below meth c s₁ → c.maxLocals = maxL → (∀ x ∈ c.exceptionTable.toList, False) → Pc args s →
      W p l e (headSpec ws rm).room s m args below meth c s.heap [] 0 0 (vx_MQ below Qc XC args s mc ms free) (entryFrame m args maxL)) : vx_Met l y ws rm Pc Qc XC mc ms free := by
  refine MetFree.of_bodyS (code := cc) (maxLocals := maxL) (ret := ret) hy ?_ ?_
  · intro args s m h hn
    obtain ⟨meth, c, h1, h2, h3, h4, h5, h6, -, -⟩ := Cond.code_spec hn (atoms_spec (ws := ws) h _ (by rw [hw]; exact List.mem_cons_self))
    exact ⟨meth, c, h1, h2, h3, h4, h5, h6⟩
  · intro p e s m args below meth c s₁ B hml hP _
    have hh0 : s₁.heap = s.heap := by rw [B.state]; rfl
    have ht : ∀ x ∈ c.exceptionTable.toList, False := by
      obtain ⟨meth9, c9, h1, h2, -, -, -, -, h7, -⟩ := Cond.code_spec B.named (atoms_spec (ws := ws) B.pre _ (by rw [hw]; exact List.mem_cons_self))
      cases Option.some.inj (h1.symm.trans B.method)
      cases Option.some.inj (h2.symm.trans (Stand.of_body B).code)
      intro x hx
      rw [Array.isEmpty_iff.mp h7] at hx
      cases hx
    obtain ⟨t, a1, o, b1, b2, b3⟩ := body p e s m args below meth c s₁ B hml ht hP s₁ hh0 (Stand.of_body B)
    exact ⟨t, o, a1, b1, b2, b3⟩
/-- the table of a body with handlers -/
theorem vx_table {p : Program} {x y : MethodName} {S : Spec} {cc bytes : ByteArray} {maxL maxL' : Nat} {ret ret' : Option FieldType} {e : Env} {s s₁ : State} {m : MethodId} {args : Array Value} {below : List Frame} {meth : Method} {c : Code} {hh : List (Nat × Nat × Nat × Nat)}
    (B : BodyLoose p l y S cc maxL ret e s m args below meth c s₁) (h : (Cond.codeWith y bytes maxL' ret' hh).before args s = true) : c.exceptionTable.toList = tableOf hh := by
  obtain ⟨m9, meth9, c9, hn9, h1, h2, -, -, h6, -⟩ := Cond.codeWith_spec h
  cases Option.some.inj (hn9.symm.trans B.named)
  cases Option.some.inj (h1.symm.trans B.method)
  cases Option.some.inj (h2.symm.trans (Stand.of_body B).code)
  rw [← h6, table_eq]
end Bodies
end VXA
/-! ===== END ===== -/
/-! ===== BEGIN a static call of a method with an exception table ===== -/
section VXS
variable {p : Program} {l : Launch} {e : Env} {R : Room} {s : State} {m : MethodId} {args : Array Value} {below : List Frame} {meth : Method} {c : Code} {T : State} {H : Heap} {locs : List Loc} {cells slots : Nat}
abbrev vx_CSW (R : Room) (s : State) (args : Array Value) (own : String) (index : Nat) (y : MethodName) (bytes : ByteArray) (maxL : Nat) (ret : Option FieldType) (hh : List (Nat × Nat × Nat × Nat)) (ws : List Cond) (rm : Room) (mc ms n : Nat) : Prop :=
  (rm.cells = mc ∧ rm.slots = ms ∧ rm.frames + 1 ≤ R.frames ∧ 8 + (maxL + 11) + rm.locals ≤ R.locals ∧ (∀ w ∈ ws, ∀ (a' : Array Value) (U : State), s.WarmedH U.vm → w.before a' U = true) ∧ Cond.codeWith y bytes maxL ret hh ∈ ws) ∧
  (Cond.codeWith y bytes maxL ret hh).before args s = true ∧ (Cond.initialized y.cls).before args s = true ∧ (y.cls ≠ "java/lang/invoke/MethodHandle" ∧ y.cls ≠ "java/lang/invoke/VarHandle") ∧
  (∀ sig, parseMethodDescriptor y.desc = some sig → n = sig.parameters.length) ∧ (Cond.methodLink own index y).before args s = true ∧ (Cond.static y).before args s = true
theorem vx_cwSW {own : String} {index maxL mc ms : Nat} {y : MethodName} {bytes : ByteArray} {ret : Option FieldType} {hh : List (Nat × Nat × Nat × Nat)} {Ts ws ws' : List Cond} {rm : Room} (n : Nat) (ht : ∀ w ∈ Ts, w.before args s = true) (hT : GoodIn Ts (va_wsS own index y ws)) (hw : ws = Cond.codeWith y bytes maxL ret hh :: ws') (hrc : rm.cells = mc) (hrs : rm.slots = ms)
    (hd : y.cls ≠ "java/lang/invoke/MethodHandle" ∧ y.cls ≠ "java/lang/invoke/VarHandle" ∧ (parseMethodDescriptor y.desc).map (fun d => d.parameters.length) = some n) (hR : rm.frames + 1 ≤ R.frames ∧ 8 + (maxL + 11) + rm.locals ≤ R.locals) :
    vx_CSW R s args own index y bytes maxL ret hh ws rm mc ms n := by
  have ok : ∀ w ∈ va_wsS own index y ws, w.before args s = true := fun w h => ht w (hT w h).1
  have hG : GoodIn Ts ws := fun w h => hT w (by unfold va_wsS; exact List.mem_append_right _ h)
  have hc : Cond.codeWith y bytes maxL ret hh ∈ ws := by rw [hw]; exact List.mem_cons_self
  refine ⟨⟨hrc, hrs, hR.1, hR.2, pay_in ht hG, hc⟩, ht _ (hG _ hc).1, ok _ (by simp [va_wsS]), ⟨hd.1, hd.2.1⟩, fun sig h => ?_, ok _ (by simp [va_wsS]), ok _ (by simp [va_wsS])⟩
  have h2 := hd.2.2
  rw [h] at h2
  exact (Option.some.inj h2).symm
theorem vx_callSW (X : Stand p l e R s m args below meth c T locs cells slots) (hexec : p.tables.exec = Jvm.exec) {own : String} {index : Nat} {y : MethodName} {bytes : ByteArray} {maxL : Nat} {ret : Option FieldType} {hh : List (Nat × Nat × Nat × Nat)}
    (hown : s.vm.findClass own = some m.cls) (hlink : (Cond.methodLink own index y).before args s = true) (hstat : (Cond.static y).before args s = true) (hinit : (Cond.initialized y.cls).before args s = true)
    (hcode : (Cond.codeWith y bytes maxL ret hh).before args s = true) (hy : y.cls ≠ "java/lang/invoke/MethodHandle" ∧ y.cls ≠ "java/lang/invoke/VarHandle")
    {W9 : Nat} {Pre : Pt → Array Value → Prop} {Post : Pt → Array Value → Option Value → Pt → Prop} (hK : Back l R p e below s args y 3 W9 Pre Post)
    {g : JFrame} (hg : g.method = m) (hsize : g.locals.size = c.maxLocals) {argsL rest : List Value} (hlen : ∀ sig, parseMethodDescriptor y.desc = some sig → argsL.length = sig.parameters.length)
    (hstack : g.stack = argsL.reverse ++ rest) (hW : 2 * g.monitorRoom + (rest.map fun v => v.category).sum ≤ W9) (hdg : decode c.code g.pc = .ok (.invokestatic index, 3))
    (hpre : ∀ vm₁, s.WarmedH vm₁ → Pre ⟨T.setVm vm₁, locs, cells, slots⟩ argsL.toArray) :
    ∃ (v : Option Value) (vm₁ : Vm) (B : Pt), s.WarmedH vm₁ ∧ Stand p l e R s m args below meth c B.U B.locs B.cells B.slots ∧ Post ⟨T.setVm vm₁, locs, cells, slots⟩ argsL.toArray v B ∧
      ∀ target, Steps p.tables e below (B.U.setTop { g with pc := g.pc + 3, stack := v.toList ++ rest }) target → Steps p.tables e below (T.setTop g) target := by
  obtain ⟨mk, methM, cM, hnamed, hmethM, -, -, -, -, -, -, hsigM⟩ := Cond.codeWith_spec hcode
  have hstatic : methM.isStatic = true := Cond.static_spec hnamed hmethM hstat
  obtain ⟨kP, hkP, -⟩ := className_of_methodNamed hnamed
  have hinitP : kP.init = .initialized := Cond.initialized_spec (findClass_of_methodNamed hnamed) hkP hinit
  obtain ⟨vm₁, X₁, hstep₁⟩ := X.invokestatic hexec hown hlink hnamed hmethM hstatic hkP hinitP hy (g := g) hg (argsL := argsL) (rest := rest) (hlen _ hsigM) hstack hdg
  obtain ⟨v, B, X', hpost, hsteps⟩ := hK m meth c ⟨T.setVm vm₁, locs, cells, slots⟩ { g with stack := rest } (.invokestatic index) mk argsL.toArray X₁ hg hsize hdg hW (X₁.named hnamed) (hpre vm₁ X₁.warmed)
  exact ⟨v, vm₁, B, X₁.warmed, X', hpost, fun target h => hstep₁ _ fun acts => by rw [doInvoke_state]; exact hsteps.trans h⟩
theorem vx_runSW {y : MethodName} {bytes cc : ByteArray} {maxL nL mc ms n index : Nat} {ret : Option FieldType} {hh : List (Nat × Nat × Nat × Nat)} {ws : List Cond} {rm : Room} {Pc : Array Value → State → Prop} {Qc : Array Value → State → Outcome → State → Prop} {free : Addr → Prop} {Ts : List Cond} {own : String} {As rest : List Value} {g : JFrame}
    (S : CallFix p m c cc nL s args Ts own) (hM : Met l y ws rm Pc Qc mc ms free) (cw : vx_CSW R s args own index y bytes maxL ret hh ws rm mc ms n) (hp : PreS s H Pc As)
    (hg : g.method = m) (hn : As.length = n) (hsize : g.locals.size = nL) (hstack : g.stack = As.reverse ++ rest) (hW : 2 * g.monitorRoom + (rest.map fun v => v.category).sum ≤ 8) (hdg : decode cc g.pc = .ok (.invokestatic index, 3)) (hf : cells + mc ≤ R.cells ∧ slots + ms ≤ R.slots) :
    va_Run p l e R s m args below meth c H locs cells slots mc ms g rest (Qc As.toArray) (free) := by
  obtain ⟨⟨hrc, hrs, hfr, hlo, hws, hcw⟩, hcode, hini, hy, hlen, hl, hstt⟩ := cw
  have hK : Back l R p e below s args y 3 8 (PreOf R mc ms Pc) (PostOf Qc mc ms free) := va_backW (hh := hh) (bytes := bytes) (maxL := maxL) (ret := ret) hM hp.1 hrc hrs hfr hlo hws hcw (fun a' U hW => word_at hW (Or.inl (by first | rfl | simp [Cond.onTables, Cond.keeps, Cond.steady])) hini)
  obtain ⟨hx, hb, hml, ho, -⟩ := S
  intro T hT X
  obtain ⟨v, vm₁, ⟨U', l2, c2, s2⟩, hW₁, X', ⟨g', mk, t, L, e1, e2, hq, h1, hL, h2, h3⟩, st⟩ := vx_callSW X hx (hh := hh) (bytes := bytes) (maxL := maxL) (ret := ret) ho hl hstt hini hcode hy hK hg (hsize.trans hml.symm) (argsL := As) (rest := rest) (fun sig h => hn.trans (hlen sig h)) hstack hW (by rw [hb]; exact hdg)
    (fun vm₁ hW₁ => ⟨hf.1, hf.2, hp.2 (T.setVm vm₁) hT hW₁⟩)
  dsimp only [Pt.U, Pt.locs, Pt.cells, Pt.slots] at X' e1 e2 h1 h2 h3 st
  subst h1; subst h2; subst h3
  exact ⟨v, (T.setVm vm₁).calling g' mk As.toArray, t, U', L, hT, X', hL, e1, e2, hq, st⟩
/-- not caught here, past rows that name other classes: it goes on to the caller -/
theorem vx_outP {p : Program} {l : Launch} {e : Env} {R : Room} {s : State} {m : MethodId} {args : Array Value} {below : List Frame} {meth : Method} {c : Code} {H : Heap} {locs : List Loc} {cells slots : Nat} {free : Addr → Prop} {ls : Array Slot} {rest : List Value} {Qc : Array Value → State → Outcome → State → Prop} {XC : String → State → State → Prop}
    {pc : Nat} {own E : String} {ce : Cell} {q : Addr} {mc ms : Nat} (hown : s.vm.findClass own = some m.cls) (hlocks : meth.locks = false)
    (hpass : ∀ z ∈ c.exceptionTable.toList, covers z pc = false ∨ (z.catchType ≠ 0 ∧ ∃ nm : String, (Cond.classLink own z.catchType nm).before args s = true ∧ va_Nc E nm s)) (hcell : H[q]? = some ce) (hv : ce.vm = .none) (hcl : s.vm.findClass E = some ce.cls)
    (hx : ∀ t : State, t.heap = H → s.vm.Alike t.vm → XC E s t) (hf : ∀ z ∈ locs, free z.base) (hc : cells ≤ mc) (hs : slots ≤ ms) :
    vx_W p l e R s m args below meth c H locs cells slots (vx_MQ below Qc XC args s mc ms free) (F0 m pc ls rest) q := by
  intro T hT X
  have hpl : e.platform.magicAccessors = ({} : Platform).magicAccessors := by rw [X.admits.platform]
  obtain ⟨vm', hW', X', st⟩ := X.outThrough hlocks q (g := F0 m pc ls rest) rfl rfl rfl (cell := ce) (by rw [hT]; exact hcell) (by rw [hv]; rfl)
    (by obtain ⟨k9, h9, -⟩ := Vm.findClass_spec hcl; exact ⟨k9, h9⟩) (fun z hz => by
      rcases hpass z hz with h | ⟨hz0, nm, hl1, hn1⟩
      · exact Or.inl h
      · obtain ⟨c6, hc6, hcl6⟩ := Cond.classLink_spec hown hl1 e.platform hpl
        obtain ⟨a8, b8, h1, h2, h3⟩ := hn1
        cases Option.some.inj (h1.symm.trans hcl)
        cases Option.some.inj (h2.symm.trans hc6)
        exact Or.inr ⟨hz0, _, hcl6, h3⟩)
  obtain ⟨g₀, hfr⟩ := X'.frames_eq
  have hcell9 : ((T.setVm vm').setFrames (.throwing q :: below)).heap[q]? = some ce := by
    show T.heap[q]? = some ce
    rw [hT]; exact hcell
  have hend : Ended ((T.setVm vm').setFrames (.throwing q :: below)) below (.threw q) := State.frames_setFrames _ (State.cur_lt_of_frames hfr)
  refine ⟨(T.setVm vm').setFrames (.throwing q :: below), ?_, .threw q, X'.here.running, hend, Or.inr ⟨q, rfl, E, ce, locs, hx _ hT (X'.ends _).1.alike, hcell9, hv, hcl, (X'.ends _).1, (X'.ends _).2.mono hc hs, hf⟩⟩
  rw [X.pushThrowing_eq]
  exact st
/-- a thing of a world lies in the heap -/
theorem vx_lt {D : va_G} {cl : List vw_C} {ws : va_W} {H1 : Heap} (h : va_P D cl ws H1) {k : Nat} {q : Nat × va_E} (hk : ws[k]? = some q) : q.1 < H1.size := (h k q hk).lt
end VXS
/-! ===== END ===== -/
/-! ===== BEGIN methods with a table of their own: called by a name, returning or throwing ===== -/
section VXH
/-! vx_backW, vx_callVX, vx_callSX, vx_callVW, vx_runVW, vx_runVX, vx_runSX, vx_ofWH follow the same proofs as their sisters above (Free/Laws.lean, Shelf42/LK1.lean); vx_outP calls Shelf42/NT130.lean (outThrough). -/
section
variable {l : Launch} {R : Room} {p : Program} {e : Env} {below : List Frame} {s : State} {sargs : Array Value} {y : MethodName} {len W9 : Nat}
theorem vx_backW {ws : List Cond} {rm : Room} {Pc : Array Value → State → Prop} {Qc : Array Value → State → Outcome → State → Prop} {XC : String → State → State → Prop} {mc ms : Nat} {free : Addr → Prop} {bytes : ByteArray} {maxL : Nat} {ret : Option FieldType} {hh : List (Nat × Nat × Nat × Nat)}
    (hM : vx_Met l y ws rm Pc Qc XC mc ms free) (hblind : FrameBlind Pc) (hrc : rm.cells = mc) (hrs : rm.slots = ms)
    (hframes : rm.frames + 1 ≤ R.frames) (hlocals : W9 + (maxL + 11) + rm.locals ≤ R.locals)
    (hws : ∀ w ∈ ws, ∀ a' U, s.WarmedH U.vm → w.before a' U = true) (hcode : Cond.codeWith y bytes maxL ret hh ∈ ws) (hinit : ∀ a' U, s.WarmedH U.vm → (Cond.initialized y.cls).before a' U = true) :
    vx_Back l R p e below s sargs y len W9 (PreOf R mc ms Pc) (PostOf Qc mc ms free) (vx_Post XC mc ms free) := by
  intro m meth c A g ig mk a X hg hsize hdg hW hn hp
  have h1 : (headSpec ws rm).pre.before a A.U = true := atoms_intro fun w hw => hws w hw _ _ X.warmed
  have h2 : (Cond.codeWith y bytes maxL ret hh).before a A.U = true := hws _ hcode _ _ X.warmed
  have h3 : (Cond.initialized y.cls).before a A.U = true := hinit _ _ X.warmed
  have h4 : A.cells + (headSpec ws rm).room.cells ≤ R.cells := by rw [show (headSpec ws rm).room.cells = mc from hrc]; exact hp.1
  have h5 : A.slots + (headSpec ws rm).room.slots ≤ R.slots := by rw [show (headSpec ws rm).room.slots = ms from hrs]; exact hp.2.1
  have hPc : Pc a (A.U.calling g mk a) := hblind _ _ _ _ hp.2.2
  obtain ⟨U, Ls, c0, s0⟩ := A
  dsimp only [Pt.U, Pt.locs, Pt.cells, Pt.slots] at h1 h2 h3 h4 h5 X hn hPc ⊢
  obtain ⟨m9, methY, cY, hn9, hmY, hcY, -, hlY, -⟩ := Cond.codeWith_spec h2
  cases Option.some.inj (hn9.symm.trans hn)
  obtain ⟨kY, hkY, -⟩ := className_of_methodNamed hn
  have hinitY : kY.init = .initialized := Cond.initialized_spec (findClass_of_methodNamed hn) hkY h3
  have h : At U g.method c below := by rw [hg]; exact X.here
  have hlocals9 : W9 + (maxL + 11) + (headSpec ws rm).room.locals ≤ R.locals := hlocals
  have happ : (headSpec ws rm).appliesLoose y e.platform (U.calling g mk a) = true :=
    Spec.appliesLoose_calling (g := g) h hdg hn hkY hinitY
      (X.room_calling (g := g) (R' := (headSpec ws rm).room) hsize hmY hcY hframes (by rw [hlY]; omega) h4 h5) h1
  obtain ⟨mid, hmid⟩ := h.above
  have hfr : (U.setTop g).frames = (.java g :: mid) ++ below := by rw [State.frames_setTop' g h.top, hmid]; rfl
  obtain ⟨o, s₂, hsteps, -, hend, hq⟩ := Steps.callFree hM p X.admits X.cas X.clock (acts := []) hfr happ hPc trivial
  have hq' : vx_Q Qc XC mc ms free a (U.calling g mk a) o s₂ := hq
  rw [State.frames_setTop' g h.top] at hend
  obtain ⟨g₀, hg0⟩ := Option.isSome_iff_exists.mp h.top
  obtain ⟨r, hr⟩ := State.topJava?_eq_some.mp hg0
  have hr' : (({ U with heap := s₂.heap, slotsUsed := s₂.slotsUsed } : State).setVm s₂.vm).frames = .java g₀ :: r := hr
  rcases hq' with ⟨hqc, L, hfe, hL⟩ | ⟨q, rfl, E, ce, L, hx, hce, hcv, hcl, hW₂, hsm, hL⟩
  · obtain ⟨⟨v, rfl⟩, hW₂, e2, q2, q3, q4, q5, q6⟩ := id hfe
    have e3 : s₂ = ({ (U.calling g mk a).setFrames s₂.frames with heap := s₂.heap, slotsUsed := s₂.slotsUsed } : State).setVm s₂.vm := by
      have : s₂ = ({ s₂ with vm := (U.calling g mk a).vm } : State).setVm s₂.vm := rfl
      rw [e2] at this
      exact this
    obtain ⟨c₂, i₂, len₂, hc₂, hd₂, hf₂⟩ := hend
    have hW' : U.WarmedH s₂.vm := hW₂
    have hcc : c₂ = c := by
      have h1 : s₂.code? g.method = U.code? g.method := by
        rw [State.code?_eq, State.code?_eq, hW'.alike.method?]
      exact Option.some.inj (hc₂.symm.trans (h1.trans h.code))
    subst hcc
    have hlen : len₂ = len := by rw [hdg] at hd₂; cases hd₂; rfl
    subst hlen
    have hs₂ : s₂ = (({ U with heap := s₂.heap, slotsUsed := s₂.slotsUsed } : State).setVm s₂.vm).setTop { g with pc := g.pc + len₂, stack := v.toList ++ g.stack } := by
      refine e3.trans ?_
      rw [hf₂, State.calling_eq h.top, State.setFrames_setFrames, State.setTop_of_frames _ hr', hr]
      rfl
    have hsame : U.sameButNew ({ U with heap := s₂.heap, slotsUsed := s₂.slotsUsed } : State) L mc ms := by
      refine ⟨?_, q2, q3, q4, q5, q6⟩
      obtain ⟨t, ht, -⟩ := State.frames_cons hr
      show ({ U with heap := s₂.heap, slotsUsed := s₂.slotsUsed } : State) = { U.setFrames U.frames with heap := s₂.heap, slotsUsed := s₂.slotsUsed }
      rw [State.setFrames_self ht]
    subst hg
    refine Or.inl ⟨v, ⟨(({ U with heap := s₂.heap, slotsUsed := s₂.slotsUsed } : State).setVm s₂.vm), Ls ++ L, c0 + mc, s0 + ms⟩,
      ⟨X.admits, X.cas, X.clock, X.frames, X.room, X.hears, X.method, X.code, (X.here.setHeapUsed s₂.heap s₂.slotsUsed).setVm hW'.alike, X.tail, State.WarmedH.trans X.warmed hW', X.limits, X.bytes, X.same.trans (hsame.setVm s.vm)⟩,
      ⟨g, mk, s₂, L, rfl, rfl, hqc, rfl, hL, rfl, rfl⟩, ?_⟩
    show Steps p.tables e below _ ((({ U with heap := s₂.heap, slotsUsed := s₂.slotsUsed } : State).setVm s₂.vm).setTop { g with pc := g.pc + len₂, stack := v.toList ++ g.stack })
    rw [← hs₂]
    exact hsteps
  · obtain ⟨e2, q2, q3, q4, q5, q6⟩ := id hsm
    have e3 : s₂ = ({ (U.calling g mk a).setFrames s₂.frames with heap := s₂.heap, slotsUsed := s₂.slotsUsed } : State).setVm s₂.vm := by
      have : s₂ = ({ s₂ with vm := (U.calling g mk a).vm } : State).setVm s₂.vm := rfl
      rw [e2] at this
      exact this
    have hf₂ : s₂.frames = .throwing q :: .java g :: U.frames.tail := hend
    have hW' : U.WarmedH s₂.vm := hW₂
    have hs₂ : s₂ = ((({ U with heap := s₂.heap, slotsUsed := s₂.slotsUsed } : State).setVm s₂.vm).setTop g).pushFrame (.throwing q) := by
      refine e3.trans ?_
      rw [hf₂, State.calling_eq h.top, State.setFrames_setFrames, State.pushFrame, State.frames_setTop _ hr', State.setTop_of_frames _ hr', State.setFrames_setFrames, hr]
      rfl
    have hsame : U.sameButNew ({ U with heap := s₂.heap, slotsUsed := s₂.slotsUsed } : State) L mc ms := by
      refine ⟨?_, q2, q3, q4, q5, q6⟩
      obtain ⟨t, ht, -⟩ := State.frames_cons hr
      show ({ U with heap := s₂.heap, slotsUsed := s₂.slotsUsed } : State) = { U.setFrames U.frames with heap := s₂.heap, slotsUsed := s₂.slotsUsed }
      rw [State.setFrames_self ht]
    subst hg
    refine Or.inr ⟨q, ⟨(({ U with heap := s₂.heap, slotsUsed := s₂.slotsUsed } : State).setVm s₂.vm), Ls ++ L, c0 + mc, s0 + ms⟩,
      ⟨X.admits, X.cas, X.clock, X.frames, X.room, X.hears, X.method, X.code, (X.here.setHeapUsed s₂.heap s₂.slotsUsed).setVm hW'.alike, X.tail, State.WarmedH.trans X.warmed hW', X.limits, X.bytes, X.same.trans (hsame.setVm s.vm)⟩,
      ⟨g, mk, s₂, L, E, ce, rfl, rfl, hx, hce, hcv, hcl, rfl, hL, rfl, rfl⟩, ?_⟩
    show Steps p.tables e below _ (((({ U with heap := s₂.heap, slotsUsed := s₂.slotsUsed } : State).setVm s₂.vm).setTop g).pushFrame (.throwing q))
    rw [← hs₂]
    exact hsteps
end
variable {p : Program} {l : Launch} {e : Env} {R : Room} {s : State} {m : MethodId} {args : Array Value} {below : List Frame} {meth : Method} {c : Code} {T : State} {H : Heap} {locs : List Loc} {cells slots : Nat}
theorem vx_callVX (X : Stand p l e R s m args below meth c T locs cells slots) (hexec : p.tables.exec = Jvm.exec) {own C : String} {index : Nat} {y : MethodName} {bytes : ByteArray} {maxL : Nat} {ret : Option FieldType} {hh : List (Nat × Nat × Nat × Nat)}
    (hown : s.vm.findClass own = some m.cls) (hlink : (Cond.methodLink own index y).before args s = true) (hinst : (Cond.instanceMethod y).before args s = true) (hsel : (Cond.selects C y y).before args s = true)
    (hcode : (Cond.codeWith y bytes maxL ret hh).before args s = true) (hy : y.cls ≠ "java/lang/invoke/MethodHandle" ∧ y.cls ≠ "java/lang/invoke/VarHandle")
    {W9 : Nat} {Pre : Pt → Array Value → Prop} {Post : Pt → Array Value → Option Value → Pt → Prop} {PostX : Pt → Array Value → Addr → Pt → Prop} (hK : vx_Back l R p e below s args y 3 W9 Pre Post PostX)
    {b : Addr} {cellB : Cell} (hcell : T.heap[b]? = some cellB) (hobj : cellB.vm.isStatics = false) (hcls : s.vm.findClass C = some cellB.cls)
    {g : JFrame} (hg : g.method = m) (hsize : g.locals.size = c.maxLocals) {argsL rest : List Value} (hlen : ∀ sig, parseMethodDescriptor y.desc = some sig → argsL.length = sig.parameters.length)
    (hstack : g.stack = argsL.reverse ++ .ref b :: rest) (hW : 2 * g.monitorRoom + (rest.map fun v => v.category).sum ≤ W9) (hdg : decode c.code g.pc = .ok (.invokevirtual index, 3))
    (hpre : ∀ vm₁, s.WarmedH vm₁ → Pre ⟨T.setVm vm₁, locs, cells, slots⟩ (Value.ref b :: argsL).toArray) :
    (∃ (v : Option Value) (vm₁ : Vm) (B : Pt), s.WarmedH vm₁ ∧ Stand p l e R s m args below meth c B.U B.locs B.cells B.slots ∧ Post ⟨T.setVm vm₁, locs, cells, slots⟩ (Value.ref b :: argsL).toArray v B ∧
      ∀ target, Steps p.tables e below (B.U.setTop { g with pc := g.pc + 3, stack := v.toList ++ rest }) target → Steps p.tables e below (T.setTop g) target) ∨
    (∃ (q : Addr) (vm₁ : Vm) (B : Pt), s.WarmedH vm₁ ∧ Stand p l e R s m args below meth c B.U B.locs B.cells B.slots ∧ PostX ⟨T.setVm vm₁, locs, cells, slots⟩ (Value.ref b :: argsL).toArray q B ∧
      Steps p.tables e below (T.setTop g) ((B.U.setTop { g with stack := rest }).pushFrame (.throwing q))) := by
  obtain ⟨mk, methM, hnamed, hmethM, hstM, habM⟩ := Cond.instanceMethod_spec hinst
  obtain ⟨m8, methM', cM, hn8, hmethM', -, -, -, -, -, -, hsigM⟩ := Cond.codeWith_spec hcode
  cases Option.some.inj (hn8.symm.trans hnamed)
  cases hmethM.symm.trans hmethM'
  obtain ⟨c2, r2, m2, q1, q2, q3, q4, kP, hkP, hkPi⟩ := Cond.selects_spec hsel
  cases hcls.symm.trans q1
  cases (State.methodFound?_of_named hnamed hy).symm.trans q2
  cases hnamed.symm.trans q3
  have hselP : selectMethod e.platform s.vm cellB.cls mk = .method mk := by rw [Launch.admits_selectMethod X.admits]; exact q4
  obtain ⟨vm₁, X₁, hstep₁⟩ := X.invokevirtual hexec hown hlink hnamed hmethM hstM hkP hkPi hy (a := b) (cell := cellB) hcell
    (fun z h => by rw [h] at hobj; cases hobj) hselP hmethM habM hkP hkPi (g := g) hg (argsL := argsL) (rest := rest) (hlen _ hsigM) hstack hdg
  rcases hK m meth c ⟨T.setVm vm₁, locs, cells, slots⟩ { g with stack := rest } (.invokevirtual index) mk (Value.ref b :: argsL).toArray X₁ hg hsize hdg hW (X₁.named hnamed) (hpre vm₁ X₁.warmed) with ⟨v, B, X', hpost, hsteps⟩ | ⟨q, B, X', hpost, hsteps⟩
  · exact Or.inl ⟨v, vm₁, B, X₁.warmed, X', hpost, fun target h => hstep₁ _ fun acts => by rw [doInvoke_state]; exact hsteps.trans h⟩
  · exact Or.inr ⟨q, vm₁, B, X₁.warmed, X', hpost, hstep₁ _ fun acts => by rw [doInvoke_state]; exact hsteps⟩
theorem vx_callSX (X : Stand p l e R s m args below meth c T locs cells slots) (hexec : p.tables.exec = Jvm.exec) {own : String} {index : Nat} {y : MethodName} {bytes : ByteArray} {maxL : Nat} {ret : Option FieldType} {hh : List (Nat × Nat × Nat × Nat)}
    (hown : s.vm.findClass own = some m.cls) (hlink : (Cond.methodLink own index y).before args s = true) (hstat : (Cond.static y).before args s = true) (hinit : (Cond.initialized y.cls).before args s = true)
    (hcode : (Cond.codeWith y bytes maxL ret hh).before args s = true) (hy : y.cls ≠ "java/lang/invoke/MethodHandle" ∧ y.cls ≠ "java/lang/invoke/VarHandle")
    {W9 : Nat} {Pre : Pt → Array Value → Prop} {Post : Pt → Array Value → Option Value → Pt → Prop} {PostX : Pt → Array Value → Addr → Pt → Prop} (hK : vx_Back l R p e below s args y 3 W9 Pre Post PostX)
    {g : JFrame} (hg : g.method = m) (hsize : g.locals.size = c.maxLocals) {argsL rest : List Value} (hlen : ∀ sig, parseMethodDescriptor y.desc = some sig → argsL.length = sig.parameters.length)
    (hstack : g.stack = argsL.reverse ++ rest) (hW : 2 * g.monitorRoom + (rest.map fun v => v.category).sum ≤ W9) (hdg : decode c.code g.pc = .ok (.invokestatic index, 3))
    (hpre : ∀ vm₁, s.WarmedH vm₁ → Pre ⟨T.setVm vm₁, locs, cells, slots⟩ argsL.toArray) :
    (∃ (v : Option Value) (vm₁ : Vm) (B : Pt), s.WarmedH vm₁ ∧ Stand p l e R s m args below meth c B.U B.locs B.cells B.slots ∧ Post ⟨T.setVm vm₁, locs, cells, slots⟩ argsL.toArray v B ∧
      ∀ target, Steps p.tables e below (B.U.setTop { g with pc := g.pc + 3, stack := v.toList ++ rest }) target → Steps p.tables e below (T.setTop g) target) ∨
    (∃ (q : Addr) (vm₁ : Vm) (B : Pt), s.WarmedH vm₁ ∧ Stand p l e R s m args below meth c B.U B.locs B.cells B.slots ∧ PostX ⟨T.setVm vm₁, locs, cells, slots⟩ argsL.toArray q B ∧
      Steps p.tables e below (T.setTop g) ((B.U.setTop { g with stack := rest }).pushFrame (.throwing q))) := by
  obtain ⟨mk, methM, cM, hnamed, hmethM, -, -, -, -, -, -, hsigM⟩ := Cond.codeWith_spec hcode
  have hstatic : methM.isStatic = true := Cond.static_spec hnamed hmethM hstat
  obtain ⟨kP, hkP, -⟩ := className_of_methodNamed hnamed
  have hinitP : kP.init = .initialized := Cond.initialized_spec (findClass_of_methodNamed hnamed) hkP hinit
  obtain ⟨vm₁, X₁, hstep₁⟩ := X.invokestatic hexec hown hlink hnamed hmethM hstatic hkP hinitP hy (g := g) hg (argsL := argsL) (rest := rest) (hlen _ hsigM) hstack hdg
  rcases hK m meth c ⟨T.setVm vm₁, locs, cells, slots⟩ { g with stack := rest } (.invokestatic index) mk argsL.toArray X₁ hg hsize hdg hW (X₁.named hnamed) (hpre vm₁ X₁.warmed) with ⟨v, B, X', hpost, hsteps⟩ | ⟨q, B, X', hpost, hsteps⟩
  · exact Or.inl ⟨v, vm₁, B, X₁.warmed, X', hpost, fun target h => hstep₁ _ fun acts => by rw [doInvoke_state]; exact hsteps.trans h⟩
  · exact Or.inr ⟨q, vm₁, B, X₁.warmed, X', hpost, hstep₁ _ fun acts => by rw [doInvoke_state]; exact hsteps⟩
theorem vx_callVW (X : Stand p l e R s m args below meth c T locs cells slots) (hexec : p.tables.exec = Jvm.exec) {own C : String} {index : Nat} {y : MethodName} {bytes : ByteArray} {maxL : Nat} {ret : Option FieldType} {hh : List (Nat × Nat × Nat × Nat)}
    (hown : s.vm.findClass own = some m.cls) (hlink : (Cond.methodLink own index y).before args s = true) (hinst : (Cond.instanceMethod y).before args s = true) (hsel : (Cond.selects C y y).before args s = true)
    (hcode : (Cond.codeWith y bytes maxL ret hh).before args s = true) (hy : y.cls ≠ "java/lang/invoke/MethodHandle" ∧ y.cls ≠ "java/lang/invoke/VarHandle")
    {W9 : Nat} {Pre : Pt → Array Value → Prop} {Post : Pt → Array Value → Option Value → Pt → Prop} (hK : Back l R p e below s args y 3 W9 Pre Post)
    {b : Addr} {cellB : Cell} (hcell : T.heap[b]? = some cellB) (hobj : cellB.vm.isStatics = false) (hcls : s.vm.findClass C = some cellB.cls)
    {g : JFrame} (hg : g.method = m) (hsize : g.locals.size = c.maxLocals) {argsL rest : List Value} (hlen : ∀ sig, parseMethodDescriptor y.desc = some sig → argsL.length = sig.parameters.length)
    (hstack : g.stack = argsL.reverse ++ .ref b :: rest) (hW : 2 * g.monitorRoom + (rest.map fun v => v.category).sum ≤ W9) (hdg : decode c.code g.pc = .ok (.invokevirtual index, 3))
    (hpre : ∀ vm₁, s.WarmedH vm₁ → Pre ⟨T.setVm vm₁, locs, cells, slots⟩ (Value.ref b :: argsL).toArray) :
    ∃ (v : Option Value) (vm₁ : Vm) (B : Pt), s.WarmedH vm₁ ∧ Stand p l e R s m args below meth c B.U B.locs B.cells B.slots ∧ Post ⟨T.setVm vm₁, locs, cells, slots⟩ (Value.ref b :: argsL).toArray v B ∧
      ∀ target, Steps p.tables e below (B.U.setTop { g with pc := g.pc + 3, stack := v.toList ++ rest }) target → Steps p.tables e below (T.setTop g) target := by
  obtain ⟨mk, methM, hnamed, hmethM, hstM, habM⟩ := Cond.instanceMethod_spec hinst
  obtain ⟨m8, methM', cM, hn8, hmethM', -, -, -, -, -, -, hsigM⟩ := Cond.codeWith_spec hcode
  cases Option.some.inj (hn8.symm.trans hnamed)
  cases hmethM.symm.trans hmethM'
  obtain ⟨c2, r2, m2, q1, q2, q3, q4, kP, hkP, hkPi⟩ := Cond.selects_spec hsel
  cases hcls.symm.trans q1
  cases (State.methodFound?_of_named hnamed hy).symm.trans q2
  cases hnamed.symm.trans q3
  have hselP : selectMethod e.platform s.vm cellB.cls mk = .method mk := by rw [Launch.admits_selectMethod X.admits]; exact q4
  obtain ⟨vm₁, X₁, hstep₁⟩ := X.invokevirtual hexec hown hlink hnamed hmethM hstM hkP hkPi hy (a := b) (cell := cellB) hcell
    (fun z h => by rw [h] at hobj; cases hobj) hselP hmethM habM hkP hkPi (g := g) hg (argsL := argsL) (rest := rest) (hlen _ hsigM) hstack hdg
  obtain ⟨v, B, X', hpost, hsteps⟩ := hK m meth c ⟨T.setVm vm₁, locs, cells, slots⟩ { g with stack := rest } (.invokevirtual index) mk (Value.ref b :: argsL).toArray X₁ hg hsize hdg hW (X₁.named hnamed) (hpre vm₁ X₁.warmed)
  exact ⟨v, vm₁, B, X₁.warmed, X', hpost, fun target h => hstep₁ _ fun acts => by rw [doInvoke_state]; exact hsteps.trans h⟩
abbrev vx_CVW (R : Room) (s : State) (args : Array Value) (own C : String) (index : Nat) (y : MethodName) (bytes : ByteArray) (maxL : Nat) (ret : Option FieldType) (hh : List (Nat × Nat × Nat × Nat)) (ws : List Cond) (rm : Room) (mc ms n : Nat) : Prop :=
  (rm.cells = mc ∧ rm.slots = ms ∧ rm.frames + 1 ≤ R.frames ∧ 8 + (maxL + 11) + rm.locals ≤ R.locals ∧ (∀ w ∈ ws, ∀ (a' : Array Value) (U : State), s.WarmedH U.vm → w.before a' U = true) ∧ Cond.codeWith y bytes maxL ret hh ∈ ws) ∧
  (Cond.codeWith y bytes maxL ret hh).before args s = true ∧ (Cond.initialized y.cls).before args s = true ∧ (y.cls ≠ "java/lang/invoke/MethodHandle" ∧ y.cls ≠ "java/lang/invoke/VarHandle") ∧
  (∀ sig, parseMethodDescriptor y.desc = some sig → n = sig.parameters.length) ∧ (Cond.methodLink own index y).before args s = true ∧ (Cond.instanceMethod y).before args s = true ∧ (Cond.selects C y y).before args s = true
theorem vx_cwVW {own C : String} {index maxL mc ms : Nat} {y : MethodName} {bytes : ByteArray} {ret : Option FieldType} {hh : List (Nat × Nat × Nat × Nat)} {Ts ws ws' : List Cond} {rm : Room} (n : Nat) (ht : ∀ w ∈ Ts, w.before args s = true) (hT : GoodIn Ts (wsV own index C y ws)) (hw : ws = Cond.codeWith y bytes maxL ret hh :: ws') (hrc : rm.cells = mc) (hrs : rm.slots = ms)
    (hd : y.cls = C ∧ y.cls ≠ "java/lang/invoke/MethodHandle" ∧ y.cls ≠ "java/lang/invoke/VarHandle" ∧ (parseMethodDescriptor y.desc).map (fun d => d.parameters.length) = some n) (hR : rm.frames + 1 ≤ R.frames ∧ 8 + (maxL + 11) + rm.locals ≤ R.locals) :
    vx_CVW R s args own C index y bytes maxL ret hh ws rm mc ms n := by
  obtain ⟨hC, hd⟩ := hd
  subst hC
  have ok : ∀ w ∈ wsV own index y.cls y ws, w.before args s = true := fun w h => ht w (hT w h).1
  have hG : GoodIn Ts ws := fun w h => hT w (by unfold wsV; exact List.mem_append_right _ h)
  have hc : Cond.codeWith y bytes maxL ret hh ∈ ws := by rw [hw]; exact List.mem_cons_self
  refine ⟨⟨hrc, hrs, hR.1, hR.2, pay_in ht hG, hc⟩, ht _ (hG _ hc).1, ok _ (by simp [wsV]), ⟨hd.1, hd.2.1⟩, fun sig h => ?_, ok _ (by simp [wsV]), ok _ (by simp [wsV]), ok _ (by simp [wsV])⟩
  have h2 := hd.2.2
  rw [h] at h2
  exact (Option.some.inj h2).symm
theorem vx_runVW {y : MethodName} {bytes cc : ByteArray} {maxL nL mc ms n index : Nat} {ret : Option FieldType} {hh : List (Nat × Nat × Nat × Nat)} {ws : List Cond} {rm : Room} {Pc : Array Value → State → Prop} {Qc : Array Value → State → Outcome → State → Prop} {free : Addr → Prop} {Ts : List Cond} {own C : String} {b : Addr} {As rest : List Value} {g : JFrame}
    (S : CallFix p m c cc nL s args Ts own) (hM : Met l y ws rm Pc Qc mc ms free) (cw : vx_CVW R s args own C index y bytes maxL ret hh ws rm mc ms n) (hp : PreV s H C b Pc As)
    (hg : g.method = m) (hn : As.length = n) (hsize : g.locals.size = nL) (hstack : g.stack = As.reverse ++ .ref b :: rest) (hW : 2 * g.monitorRoom + (rest.map fun v => v.category).sum ≤ 8) (hdg : decode cc g.pc = .ok (.invokevirtual index, 3)) (hf : cells + mc ≤ R.cells ∧ slots + ms ≤ R.slots) :
    va_Run p l e R s m args below meth c H locs cells slots mc ms g rest (Qc (Value.ref b :: As).toArray) free := by
  obtain ⟨⟨hrc, hrs, hfr, hlo, hws, hcw⟩, hcode, hini, hy, hlen, hl, hin, hse⟩ := cw
  have hK : Back l R p e below s args y 3 8 (PreOf R mc ms Pc) (PostOf Qc mc ms free) := va_backW (hh := hh) (bytes := bytes) (maxL := maxL) (ret := ret) hM hp.1 hrc hrs hfr hlo hws hcw (fun a' U hW => word_at hW (Or.inl (by first | rfl | simp [Cond.onTables, Cond.keeps, Cond.steady])) hini)
  obtain ⟨hx, hb, hml, ho, -⟩ := S
  obtain ⟨-, ⟨cellB, hcB, hoB, hclB⟩, hPc⟩ := hp
  intro T hT X
  obtain ⟨v, vm₁, ⟨U', l2, c2, s2⟩, hW₁, X', ⟨g', mk, t, L, e1, e2, hq, h1, hL, h2, h3⟩, st⟩ := vx_callVW X hx (C := C) (hh := hh) (bytes := bytes) (maxL := maxL) (ret := ret) ho hl hin hse hcode hy hK (by rw [hT]; exact hcB) hoB hclB hg (hsize.trans hml.symm) (argsL := As) (rest := rest) (fun sig h => hn.trans (hlen sig h)) hstack hW (by rw [hb]; exact hdg)
    (fun vm₁ hW₁ => ⟨hf.1, hf.2, hPc (T.setVm vm₁) hT hW₁⟩)
  dsimp only [Pt.U, Pt.locs, Pt.cells, Pt.slots] at X' e1 e2 h1 h2 h3 st
  subst h1; subst h2; subst h3
  exact ⟨v, (T.setVm vm₁).calling g' mk (Value.ref b :: As).toArray, t, U', L, hT, X', hL, e1, e2, hq, st⟩
section
variable {y : MethodName} {bytes cc : ByteArray} {maxL nL mc ms n index : Nat} {ret : Option FieldType} {ws : List Cond} {rm : Room} {Pc : Array Value → State → Prop} {Qc : Array Value → State → Outcome → State → Prop} {XC : String → State → State → Prop} {free : Addr → Prop} {Ts : List Cond} {own C : String} {b : Addr} {As rest : List Value} {g : JFrame}
theorem vx_runVX {hh : List (Nat × Nat × Nat × Nat)} (S : CallFix p m c cc nL s args Ts own) (hM : vx_Met l y ws rm Pc Qc XC mc ms free) (cw : vx_CVW R s args own C index y bytes maxL ret hh ws rm mc ms n) (hp : PreV s H C b Pc As)
    (hg : g.method = m) (hn : As.length = n) (hsize : g.locals.size = nL) (hstack : g.stack = As.reverse ++ .ref b :: rest) (hW : 2 * g.monitorRoom + (rest.map fun v => v.category).sum ≤ 8) (hdg : decode cc g.pc = .ok (.invokevirtual index, 3)) (hf : cells + mc ≤ R.cells ∧ slots + ms ≤ R.slots) :
    vx_Run p l e R s m args below meth c H locs cells slots mc ms g rest (Qc (Value.ref b :: As).toArray) XC free := by
  obtain ⟨⟨hrc, hrs, hfr, hlo, hws, hcw⟩, hcode, hini, hy, hlen, hl, hin, hse⟩ := cw
  have hK : vx_Back l R p e below s args y 3 8 (PreOf R mc ms Pc) (PostOf Qc mc ms free) (vx_Post XC mc ms free) := vx_backW (hh := hh) (bytes := bytes) (maxL := maxL) (ret := ret) hM hp.1 hrc hrs hfr hlo hws hcw (fun a' U hW => word_at hW (Or.inl (by first | rfl | simp [Cond.onTables, Cond.keeps, Cond.steady])) hini)
  obtain ⟨hx, hb, hml, ho, -⟩ := S
  obtain ⟨-, ⟨cellB, hcB, hoB, hclB⟩, hPc⟩ := hp
  intro T hT X
  rcases vx_callVX X hx (C := C) (hh := hh) (bytes := bytes) (maxL := maxL) (ret := ret) ho hl hin hse hcode hy hK (by rw [hT]; exact hcB) hoB hclB hg (hsize.trans hml.symm) (argsL := As) (rest := rest) (fun sig h => hn.trans (hlen sig h)) hstack hW (by rw [hb]; exact hdg)
    (fun vm₁ hW₁ => ⟨hf.1, hf.2, hPc (T.setVm vm₁) hT hW₁⟩) with ⟨v, vm₁, ⟨U', l2, c2, s2⟩, hW₁, X', ⟨g', mk, t, L, e1, e2, hq, h1, hL, h2, h3⟩, st⟩ | ⟨q, vm₁, ⟨U', l2, c2, s2⟩, hW₁, X', ⟨g', mk, t, L, E, ce, e1, e2, hq, hce, hcv, hcl, h1, hL, h2, h3⟩, st⟩
  · dsimp only [Pt.U, Pt.locs, Pt.cells, Pt.slots] at X' e1 e2 h1 h2 h3 st
    subst h1; subst h2; subst h3
    exact Or.inl ⟨v, (T.setVm vm₁).calling g' mk (Value.ref b :: As).toArray, t, U', L, hT, X', hL, e1, e2, hq, st⟩
  · dsimp only [Pt.U, Pt.locs, Pt.cells, Pt.slots] at X' e1 e2 h1 h2 h3 st hcl
    subst h1; subst h2; subst h3
    exact Or.inr ⟨q, (T.setVm vm₁).calling g' mk (Value.ref b :: As).toArray, t, U', L, E, ce, hT, X', hL, e1, e2, hq, hce, hcv, vx_cls hW₁ hcl, st⟩
theorem vx_runSX {hh : List (Nat × Nat × Nat × Nat)} (S : CallFix p m c cc nL s args Ts own) (hM : vx_Met l y ws rm Pc Qc XC mc ms free) (cw : vx_CSW R s args own index y bytes maxL ret hh ws rm mc ms n) (hp : PreS s H Pc As)
    (hg : g.method = m) (hn : As.length = n) (hsize : g.locals.size = nL) (hstack : g.stack = As.reverse ++ rest) (hW : 2 * g.monitorRoom + (rest.map fun v => v.category).sum ≤ 8) (hdg : decode cc g.pc = .ok (.invokestatic index, 3)) (hf : cells + mc ≤ R.cells ∧ slots + ms ≤ R.slots) :
    vx_Run p l e R s m args below meth c H locs cells slots mc ms g rest (Qc As.toArray) XC free := by
  obtain ⟨⟨hrc, hrs, hfr, hlo, hws, hcw⟩, hcode, hini, hy, hlen, hl, hstt⟩ := cw
  have hK : vx_Back l R p e below s args y 3 8 (PreOf R mc ms Pc) (PostOf Qc mc ms free) (vx_Post XC mc ms free) := vx_backW (hh := hh) (bytes := bytes) (maxL := maxL) (ret := ret) hM hp.1 hrc hrs hfr hlo hws hcw (fun a' U hW => word_at hW (Or.inl (by first | rfl | simp [Cond.onTables, Cond.keeps, Cond.steady])) hini)
  obtain ⟨hx, hb, hml, ho, -⟩ := S
  intro T hT X
  rcases vx_callSX X hx (hh := hh) (bytes := bytes) (maxL := maxL) (ret := ret) ho hl hstt hini hcode hy hK hg (hsize.trans hml.symm) (argsL := As) (rest := rest) (fun sig h => hn.trans (hlen sig h)) hstack hW (by rw [hb]; exact hdg)
    (fun vm₁ hW₁ => ⟨hf.1, hf.2, hp.2 (T.setVm vm₁) hT hW₁⟩) with ⟨v, vm₁, ⟨U', l2, c2, s2⟩, hW₁, X', ⟨g', mk, t, L, e1, e2, hq, h1, hL, h2, h3⟩, st⟩ | ⟨q, vm₁, ⟨U', l2, c2, s2⟩, hW₁, X', ⟨g', mk, t, L, E, ce, e1, e2, hq, hce, hcv, hcl, h1, hL, h2, h3⟩, st⟩
  · dsimp only [Pt.U, Pt.locs, Pt.cells, Pt.slots] at X' e1 e2 h1 h2 h3 st
    subst h1; subst h2; subst h3
    exact Or.inl ⟨v, (T.setVm vm₁).calling g' mk As.toArray, t, U', L, hT, X', hL, e1, e2, hq, st⟩
  · dsimp only [Pt.U, Pt.locs, Pt.cells, Pt.slots] at X' e1 e2 h1 h2 h3 st hcl
    subst h1; subst h2; subst h3
    exact Or.inr ⟨q, (T.setVm vm₁).calling g' mk As.toArray, t, U', L, E, ce, hT, X', hL, e1, e2, hq, hce, hcv, vx_cls hW₁ hcl, st⟩
end
end VXH
theorem vx_ofWH {l : Launch} {y : MethodName} {ws ws' : List Cond} {rm : Room} {Pc : Array Value → State → Prop} {Qc : Array Value → State → Outcome → State → Prop} {XC : String → State → State → Prop} {mc ms : Nat} {free : Addr → Prop} {cc : ByteArray} {maxL : Nat} {ret : Option FieldType} {hh : List (Nat × Nat × Nat × Nat)}
    (hy : plainName y.cls = true) (hw : ws = Cond.codeWith y cc maxL ret hh :: ws')
    (body : ∀ p e s m args below meth c s₁, BodyLoose p l y (headSpec ws rm) cc maxL ret e s m args below meth c s₁ → c.maxLocals = maxL → Pc args s →
      W p l e (headSpec ws rm).room s m args below meth c s.heap [] 0 0 (vx_MQ below Qc XC args s mc ms free) (entryFrame m args maxL)) : vx_Met l y ws rm Pc Qc XC mc ms free := by
  refine MetFree.of_bodyS (code := cc) (maxLocals := maxL) (ret := ret) hy ?_ ?_
  · intro args s m h hn
    obtain ⟨m9, meth, c, hn9, h1, h2, h3, h4, -, h5, h6, -⟩ := Cond.codeWith_spec (atoms_spec (ws := ws) h _ (by rw [hw]; exact List.mem_cons_self))
    cases hn.symm.trans hn9
    exact ⟨meth, c, h1, h2, h3, h4, h5, h6⟩
  · intro p e s m args below meth c s₁ B hml hP _
    have hh0 : s₁.heap = s.heap := by rw [B.state]; rfl
    obtain ⟨t, a1, o, b1, b2, b3⟩ := body p e s m args below meth c s₁ B hml hP s₁ hh0 (Stand.of_body B)
    exact ⟨t, o, a1, b1, b2, b3⟩
/-! ===== END ===== -/
end
section
def RX0 : String := "SlabKitchen$Kind"
def TX0 : u_T := fun k => match k with
  | 0 => ("SlabKitchen$Kind", "number", "I", true)
  | 1 => ("SlabKitchen$Kind", "size", "I", true)
  | 2 => ("SlabKitchen$Kind", "places", "I", true)
  | 3 => ("SlabKitchen$Kind", "rest", "I", true)
  | 4 => ("SlabKitchen$Kind", "shelvesEver", "I", false)
  | _ => ("SlabKitchen$Kind", "nextRim", "I", false)
def tyX0 : Nat → FieldType := fun k => match k with
  | 0 => .int
  | 1 => .int
  | 2 => .int
  | 3 => .int
  | 4 => .int
  | _ => .int
theorem nmX0 : ∀ a, a < 6 → ∀ b, b < 6 → a ≠ b → (TX0 a).2.1 ≠ (TX0 b).2.1 := by decide +kernel
theorem tyX0_ok : ∀ k, k < 6 → parseFieldDescriptor (TX0 k).2.2.1 = some (tyX0 k) := by decide +kernel
abbrev cX0_init : ByteArray := prog_2_method_1_code
def yX0_init : MethodName := ⟨RX0, "<init>", "(II)V"⟩
abbrev cX0_countShelf : ByteArray := prog_2_method_2_code
def yX0_countShelf : MethodName := ⟨RX0, "countShelf", "()V"⟩
abbrev cX0_shelvesFor : ByteArray := prog_2_method_3_code
def yX0_shelvesFor : MethodName := ⟨RX0, "shelvesFor", "(I)I"⟩
def RX1 : String := "SlabKitchen$Shelf"
def TX1 : u_T := fun k => match k with
  | 0 => ("SlabKitchen$Shelf", "firstSpot", "I", true)
  | 1 => ("SlabKitchen$Shelf", "stands", "[Z", true)
  | 2 => ("SlabKitchen$Shelf", "owner", "I", false)
  | 3 => ("SlabKitchen$Shelf", "size", "I", false)
  | 4 => ("SlabKitchen$Shelf", "places", "I", false)
  | 5 => ("SlabKitchen$Shelf", "rim", "I", false)
  | 6 => ("SlabKitchen$Shelf", "bowls", "I", false)
  | _ => ("SlabKitchen$Shelf", "emptySince", "I", false)
def tyX1 : Nat → FieldType := fun k => match k with
  | 0 => .int
  | 1 => .array .boolean
  | 2 => .int
  | 3 => .int
  | 4 => .int
  | 5 => .int
  | 6 => .int
  | _ => .int
theorem nmX1 : ∀ a, a < 8 → ∀ b, b < 8 → a ≠ b → (TX1 a).2.1 ≠ (TX1 b).2.1 := by decide +kernel
theorem tyX1_ok : ∀ k, k < 8 → parseFieldDescriptor (TX1 k).2.2.1 = some (tyX1 k) := by decide +kernel
abbrev cX1_init : ByteArray := prog_3_method_1_code
def yX1_init : MethodName := ⟨RX1, "<init>", "(I)V"⟩
abbrev cX1_answer : ByteArray := prog_3_method_2_code
def yX1_answer : MethodName := ⟨RX1, "answer", "(I)I"⟩
abbrev cX1_state : ByteArray := prog_3_method_3_code
def yX1_state : MethodName := ⟨RX1, "state", "()I"⟩
abbrev cX1_isOf : ByteArray := prog_3_method_4_code
def yX1_isOf : MethodName := ⟨RX1, "isOf", "(LSlabKitchen$Kind;)Z"⟩
abbrev cX1_comeTo : ByteArray := prog_3_method_5_code
def yX1_comeTo : MethodName := ⟨RX1, "comeTo", "(LSlabKitchen$Kind;)V"⟩
abbrev cX1_becomeFree : ByteArray := prog_3_method_6_code
def yX1_becomeFree : MethodName := ⟨RX1, "becomeFree", "()V"⟩
abbrev cX1_standsOn : ByteArray := prog_3_method_7_code
def yX1_standsOn : MethodName := ⟨RX1, "standsOn", "(I)Z"⟩
abbrev cX1_addBowl : ByteArray := prog_3_method_8_code
def yX1_addBowl : MethodName := ⟨RX1, "addBowl", "(I)V"⟩
abbrev cX1_removeBowl : ByteArray := prog_3_method_9_code
def yX1_removeBowl : MethodName := ⟨RX1, "removeBowl", "(II)V"⟩
abbrev cX1_firstGap : ByteArray := prog_3_method_10_code
def yX1_firstGap : MethodName := ⟨RX1, "firstGap", "()I"⟩
abbrev cX1_lastBowl : ByteArray := prog_3_method_11_code
def yX1_lastBowl : MethodName := ⟨RX1, "lastBowl", "()I"⟩
abbrev cX1_beginOf : ByteArray := prog_3_method_12_code
def yX1_beginOf : MethodName := ⟨RX1, "beginOf", "(I)I"⟩
abbrev cX1_placeAt : ByteArray := prog_3_method_13_code
def yX1_placeAt : MethodName := ⟨RX1, "placeAt", "(I)I"⟩
def RX2 : String := "SlabKitchen"
def TX2 : u_T := fun k => match k with
  | 0 => ("SlabKitchen", "shelves", "[LSlabKitchen$Shelf;", true)
  | 1 => ("SlabKitchen", "kinds", "[LSlabKitchen$Kind;", true)
  | 2 => ("SlabKitchen", "kindsMade", "I", false)
  | 3 => ("SlabKitchen", "way", "I", false)
  | 4 => ("SlabKitchen", "time", "I", false)
  | 5 => ("SlabKitchen", "putInAll", "I", false)
  | _ => ("SlabKitchen", "movedInAll", "I", false)
def tyX2 : Nat → FieldType := fun k => match k with
  | 0 => .array (.object "SlabKitchen$Shelf")
  | 1 => .array (.object "SlabKitchen$Kind")
  | 2 => .int
  | 3 => .int
  | 4 => .int
  | 5 => .int
  | _ => .int
theorem nmX2 : ∀ a, a < 7 → ∀ b, b < 7 → a ≠ b → (TX2 a).2.1 ≠ (TX2 b).2.1 := by decide +kernel
theorem tyX2_ok : ∀ k, k < 7 → parseFieldDescriptor (TX2 k).2.2.1 = some (tyX2 k) := by decide +kernel
abbrev cX2_init : ByteArray := prog_1_method_1_code
def yX2_init : MethodName := ⟨RX2, "<init>", "()V"⟩
abbrev cX2_kind : ByteArray := prog_1_method_2_code
def yX2_kind : MethodName := ⟨RX2, "kind", "(I)I"⟩
abbrev cX2_setWay : ByteArray := prog_1_method_3_code
def yX2_setWay : MethodName := ⟨RX2, "setWay", "(I)I"⟩
abbrev cX2_put : ByteArray := prog_1_method_4_code
def yX2_put : MethodName := ⟨RX2, "put", "(I)I"⟩
abbrev cX2_take : ByteArray := prog_1_method_5_code
def yX2_take : MethodName := ⟨RX2, "take", "(I)I"⟩
abbrev cX2_reap : ByteArray := prog_1_method_6_code
def yX2_reap : MethodName := ⟨RX2, "reap", "(I)I"⟩
abbrev cX2_pack : ByteArray := prog_1_method_7_code
def yX2_pack : MethodName := ⟨RX2, "pack", "(I)I"⟩
abbrev cX2_shelf : ByteArray := prog_1_method_8_code
def yX2_shelf : MethodName := ⟨RX2, "shelf", "(II)I"⟩
abbrev cX2_about : ByteArray := prog_1_method_9_code
def yX2_about : MethodName := ⟨RX2, "about", "(II)I"⟩
abbrev cX2_place : ByteArray := prog_1_method_10_code
def yX2_place : MethodName := ⟨RX2, "place", "(II)I"⟩
abbrev cX2_count : ByteArray := prog_1_method_11_code
def yX2_count : MethodName := ⟨RX2, "count", "(I)I"⟩
abbrev cX2_next : ByteArray := prog_1_method_12_code
def yX2_next : MethodName := ⟨RX2, "next", "(I)I"⟩
abbrev cX2_fits : ByteArray := prog_1_method_13_code
def yX2_fits : MethodName := ⟨RX2, "fits", "(I)I"⟩
abbrev cX2_would : ByteArray := prog_1_method_14_code
def yX2_would : MethodName := ⟨RX2, "would", "(II)I"⟩
abbrev cX2_gains : ByteArray := prog_1_method_15_code
def yX2_gains : MethodName := ⟨RX2, "gains", "(I)I"⟩
abbrev cX2_advise : ByteArray := prog_1_method_16_code
def yX2_advise : MethodName := ⟨RX2, "advise", "()I"⟩
abbrev cX2_mean : ByteArray := prog_1_method_17_code
def yX2_mean : MethodName := ⟨RX2, "mean", "()D"⟩
abbrev cX2_digest : ByteArray := prog_1_method_18_code
def yX2_digest : MethodName := ⟨RX2, "digest", "()J"⟩
abbrev cX2_kindOf : ByteArray := prog_1_method_19_code
def yX2_kindOf : MethodName := ⟨RX2, "kindOf", "(I)LSlabKitchen$Kind;"⟩
abbrev cX2_shelfAt : ByteArray := prog_1_method_20_code
def yX2_shelfAt : MethodName := ⟨RX2, "shelfAt", "(I)LSlabKitchen$Shelf;"⟩
abbrev cX2_requireAnswer : ByteArray := prog_1_method_21_code
def yX2_requireAnswer : MethodName := ⟨RX2, "requireAnswer", "(II)V"⟩
abbrev cX2_answerAbout : ByteArray := prog_1_method_22_code
def yX2_answerAbout : MethodName := ⟨RX2, "answerAbout", "(LSlabKitchen$Kind;I)I"⟩
abbrev cX2_nextSpot : ByteArray := prog_1_method_23_code
def yX2_nextSpot : MethodName := ⟨RX2, "nextSpot", "(LSlabKitchen$Kind;)I"⟩
abbrev cX2_shelfToPut : ByteArray := prog_1_method_24_code
def yX2_shelfToPut : MethodName := ⟨RX2, "shelfToPut", "(LSlabKitchen$Kind;)LSlabKitchen$Shelf;"⟩
abbrev cX2_inUseByWay : ByteArray := prog_1_method_25_code
def yX2_inUseByWay : MethodName := ⟨RX2, "inUseByWay", "(LSlabKitchen$Kind;)LSlabKitchen$Shelf;"⟩
abbrev cX2_firstInState : ByteArray := prog_1_method_26_code
def yX2_firstInState : MethodName := ⟨RX2, "firstInState", "(LSlabKitchen$Kind;I)LSlabKitchen$Shelf;"⟩
abbrev cX2_firstFree : ByteArray := prog_1_method_27_code
def yX2_firstFree : MethodName := ⟨RX2, "firstFree", "()LSlabKitchen$Shelf;"⟩
abbrev cX2_mostBowls : ByteArray := prog_1_method_28_code
def yX2_mostBowls : MethodName := ⟨RX2, "mostBowls", "(LSlabKitchen$Kind;LSlabKitchen$Shelf;)LSlabKitchen$Shelf;"⟩
abbrev cX2_fewestBowls : ByteArray := prog_1_method_29_code
def yX2_fewestBowls : MethodName := ⟨RX2, "fewestBowls", "(LSlabKitchen$Kind;)LSlabKitchen$Shelf;"⟩
abbrev cX2_lastFewestBowls : ByteArray := prog_1_method_30_code
def yX2_lastFewestBowls : MethodName := ⟨RX2, "lastFewestBowls", "(LSlabKitchen$Kind;)LSlabKitchen$Shelf;"⟩
abbrev cX2_moveToPack : ByteArray := prog_1_method_31_code
def yX2_moveToPack : MethodName := ⟨RX2, "moveToPack", "(LSlabKitchen$Kind;)Z"⟩
abbrev cX2_gainsOf : ByteArray := prog_1_method_32_code
def yX2_gainsOf : MethodName := ⟨RX2, "gainsOf", "(LSlabKitchen$Kind;)I"⟩
abbrev cX2_freeShelves : ByteArray := prog_1_method_33_code
def yX2_freeShelves : MethodName := ⟨RX2, "freeShelves", "()I"⟩
abbrev cX2_takenShelves : ByteArray := prog_1_method_34_code
def yX2_takenShelves : MethodName := ⟨RX2, "takenShelves", "()I"⟩
abbrev cX2_shelvesOf : ByteArray := prog_1_method_35_code
def yX2_shelvesOf : MethodName := ⟨RX2, "shelvesOf", "(LSlabKitchen$Kind;)I"⟩
abbrev cX2_shelvesInState : ByteArray := prog_1_method_36_code
def yX2_shelvesInState : MethodName := ⟨RX2, "shelvesInState", "(LSlabKitchen$Kind;I)I"⟩
abbrev cX2_bowlsOf : ByteArray := prog_1_method_37_code
def yX2_bowlsOf : MethodName := ⟨RX2, "bowlsOf", "(LSlabKitchen$Kind;)I"⟩
abbrev cX2_gapsOf : ByteArray := prog_1_method_38_code
def yX2_gapsOf : MethodName := ⟨RX2, "gapsOf", "(LSlabKitchen$Kind;)I"⟩
abbrev cX2_bowlsInAll : ByteArray := prog_1_method_39_code
def yX2_bowlsInAll : MethodName := ⟨RX2, "bowlsInAll", "()I"⟩
abbrev cX2_spansUnderBowls : ByteArray := prog_1_method_40_code
def yX2_spansUnderBowls : MethodName := ⟨RX2, "spansUnderBowls", "()I"⟩
abbrev cX2_spansOfNoPlace : ByteArray := prog_1_method_41_code
def yX2_spansOfNoPlace : MethodName := ⟨RX2, "spansOfNoPlace", "()I"⟩
abbrev cX2_mixed : ByteArray := prog_1_method_42_code
def yX2_mixed : MethodName := ⟨RX2, "mixed", "(JJ)J"⟩
abbrev cX2_mixedWithShelf : ByteArray := prog_1_method_43_code
def yX2_mixedWithShelf : MethodName := ⟨RX2, "mixedWithShelf", "(JLSlabKitchen$Shelf;)J"⟩
abbrev cX2_mixedWithKind : ByteArray := prog_1_method_44_code
def yX2_mixedWithKind : MethodName := ⟨RX2, "mixedWithKind", "(JLSlabKitchen$Kind;)J"⟩
def RX3 : String := "SlabKitchenModel"
def TX3 : u_T := fun k => match k with
  | 0 => ("SlabKitchenModel", "thrown", "I", false)
  | 1 => ("SlabKitchenModel", "time", "I", false)
  | 2 => ("SlabKitchenModel", "way", "I", false)
  | 3 => ("SlabKitchenModel", "putAll", "I", false)
  | 4 => ("SlabKitchenModel", "movedAll", "I", false)
  | 5 => ("SlabKitchenModel", "kinds", "I", false)
  | 6 => ("SlabKitchenModel", "size", "[I", true)
  | 7 => ("SlabKitchenModel", "got", "[I", true)
  | 8 => ("SlabKitchenModel", "owner", "[I", true)
  | 9 => ("SlabKitchenModel", "rim", "[I", true)
  | 10 => ("SlabKitchenModel", "bowls", "[I", true)
  | 11 => ("SlabKitchenModel", "since", "[I", true)
  | 12 => ("SlabKitchenModel", "kept", "[I", true)
  | _ => ("SlabKitchenModel", "keptSince", "[I", true)
def tyX3 : Nat → FieldType := fun k => match k with
  | 0 => .int
  | 1 => .int
  | 2 => .int
  | 3 => .int
  | 4 => .int
  | 5 => .int
  | 6 => .array .int
  | 7 => .array .int
  | 8 => .array .int
  | 9 => .array .int
  | 10 => .array .int
  | 11 => .array .int
  | 12 => .array .int
  | _ => .array .int
theorem nmX3 : ∀ a, a < 14 → ∀ b, b < 14 → a ≠ b → (TX3 a).2.1 ≠ (TX3 b).2.1 := by decide +kernel
theorem tyX3_ok : ∀ k, k < 14 → parseFieldDescriptor (TX3 k).2.2.1 = some (tyX3 k) := by decide +kernel
abbrev cX3_init : ByteArray := prog_5_method_1_code
def yX3_init : MethodName := ⟨RX3, "<init>", "()V"⟩
abbrev cX3_thrown : ByteArray := prog_5_method_2_code
def yX3_thrown : MethodName := ⟨RX3, "thrown", "()I"⟩
abbrev cX3_no : ByteArray := prog_5_method_3_code
def yX3_no : MethodName := ⟨RX3, "no", "(I)I"⟩
abbrev cX3_isIn : ByteArray := prog_5_method_4_code
def yX3_isIn : MethodName := ⟨RX3, "isIn", "(III)Z"⟩
abbrev cX3_isKind : ByteArray := prog_5_method_5_code
def yX3_isKind : MethodName := ⟨RX3, "isKind", "(I)Z"⟩
abbrev cX3_isSpot : ByteArray := prog_5_method_6_code
def yX3_isSpot : MethodName := ⟨RX3, "isSpot", "(I)Z"⟩
abbrev cX3_places : ByteArray := prog_5_method_7_code
def yX3_places : MethodName := ⟨RX3, "places", "(I)I"⟩
abbrev cX3_rest : ByteArray := prog_5_method_8_code
def yX3_rest : MethodName := ⟨RX3, "rest", "(I)I"⟩
abbrev cX3_isFree : ByteArray := prog_5_method_9_code
def yX3_isFree : MethodName := ⟨RX3, "isFree", "(I)Z"⟩
abbrev cX3_many : ByteArray := prog_5_method_10_code
def yX3_many : MethodName := ⟨RX3, "many", "(I)I"⟩
abbrev cX3_isFull : ByteArray := prog_5_method_11_code
def yX3_isFull : MethodName := ⟨RX3, "isFull", "(I)Z"⟩
abbrev cX3_isUsed : ByteArray := prog_5_method_12_code
def yX3_isUsed : MethodName := ⟨RX3, "isUsed", "(II)Z"⟩
abbrev cX3_isEmpty : ByteArray := prog_5_method_13_code
def yX3_isEmpty : MethodName := ⟨RX3, "isEmpty", "(II)Z"⟩
abbrev cX3_hole : ByteArray := prog_5_method_14_code
def yX3_hole : MethodName := ⟨RX3, "hole", "(I)I"⟩
abbrev cX3_spotOf : ByteArray := prog_5_method_15_code
def yX3_spotOf : MethodName := ⟨RX3, "spotOf", "(II)I"⟩
abbrev cX3_isBetter : ByteArray := prog_5_method_16_code
def yX3_isBetter : MethodName := ⟨RX3, "isBetter", "(II)Z"⟩
abbrev cX3_shelfFor : ByteArray := prog_5_method_17_code
def yX3_shelfFor : MethodName := ⟨RX3, "shelfFor", "(I)I"⟩
abbrev cX3_nextRim : ByteArray := prog_5_method_18_code
def yX3_nextRim : MethodName := ⟨RX3, "nextRim", "(I)I"⟩
abbrev cX3_spotFor : ByteArray := prog_5_method_19_code
def yX3_spotFor : MethodName := ⟨RX3, "spotFor", "(I)I"⟩
abbrev cX3_own : ByteArray := prog_5_method_20_code
def yX3_own : MethodName := ⟨RX3, "own", "(II)V"⟩
abbrev cX3_placed : ByteArray := prog_5_method_21_code
def yX3_placed : MethodName := ⟨RX3, "placed", "(II)I"⟩
abbrev cX3_placeOf : ByteArray := prog_5_method_22_code
def yX3_placeOf : MethodName := ⟨RX3, "placeOf", "(I)I"⟩
abbrev cX3_fewest : ByteArray := prog_5_method_23_code
def yX3_fewest : MethodName := ⟨RX3, "fewest", "(I)I"⟩
abbrev cX3_most : ByteArray := prog_5_method_24_code
def yX3_most : MethodName := ⟨RX3, "most", "(II)I"⟩
abbrev cX3_move : ByteArray := prog_5_method_25_code
def yX3_move : MethodName := ⟨RX3, "move", "(II)V"⟩
abbrev cX3_packed : ByteArray := prog_5_method_26_code
def yX3_packed : MethodName := ⟨RX3, "packed", "(I)I"⟩
abbrev cX3_shelvesOf : ByteArray := prog_5_method_27_code
def yX3_shelvesOf : MethodName := ⟨RX3, "shelvesOf", "(II)I"⟩
abbrev cX3_gained : ByteArray := prog_5_method_28_code
def yX3_gained : MethodName := ⟨RX3, "gained", "(I)I"⟩
abbrev cX3_kind : ByteArray := prog_5_method_29_code
def yX3_kind : MethodName := ⟨RX3, "kind", "(I)I"⟩
abbrev cX3_setWay : ByteArray := prog_5_method_30_code
def yX3_setWay : MethodName := ⟨RX3, "setWay", "(I)I"⟩
abbrev cX3_put : ByteArray := prog_5_method_31_code
def yX3_put : MethodName := ⟨RX3, "put", "(I)I"⟩
abbrev cX3_take : ByteArray := prog_5_method_32_code
def yX3_take : MethodName := ⟨RX3, "take", "(I)I"⟩
abbrev cX3_reap : ByteArray := prog_5_method_33_code
def yX3_reap : MethodName := ⟨RX3, "reap", "(I)I"⟩
abbrev cX3_pack : ByteArray := prog_5_method_34_code
def yX3_pack : MethodName := ⟨RX3, "pack", "(I)I"⟩
abbrev cX3_shelfTold : ByteArray := prog_5_method_35_code
def yX3_shelfTold : MethodName := ⟨RX3, "shelfTold", "(II)I"⟩
abbrev cX3_shelf : ByteArray := prog_5_method_36_code
def yX3_shelf : MethodName := ⟨RX3, "shelf", "(II)I"⟩
abbrev cX3_bowlsOf : ByteArray := prog_5_method_37_code
def yX3_bowlsOf : MethodName := ⟨RX3, "bowlsOf", "(I)I"⟩
abbrev cX3_kindTold : ByteArray := prog_5_method_38_code
def yX3_kindTold : MethodName := ⟨RX3, "kindTold", "(II)I"⟩
abbrev cX3_about : ByteArray := prog_5_method_39_code
def yX3_about : MethodName := ⟨RX3, "about", "(II)I"⟩
abbrev cX3_placeTold : ByteArray := prog_5_method_40_code
def yX3_placeTold : MethodName := ⟨RX3, "placeTold", "(II)I"⟩
abbrev cX3_place : ByteArray := prog_5_method_41_code
def yX3_place : MethodName := ⟨RX3, "place", "(II)I"⟩
abbrev cX3_sum : ByteArray := prog_5_method_42_code
def yX3_sum : MethodName := ⟨RX3, "sum", "(I)I"⟩
abbrev cX3_counted : ByteArray := prog_5_method_43_code
def yX3_counted : MethodName := ⟨RX3, "counted", "(I)I"⟩
abbrev cX3_count : ByteArray := prog_5_method_44_code
def yX3_count : MethodName := ⟨RX3, "count", "(I)I"⟩
abbrev cX3_next : ByteArray := prog_5_method_45_code
def yX3_next : MethodName := ⟨RX3, "next", "(I)I"⟩
abbrev cX3_room : ByteArray := prog_5_method_46_code
def yX3_room : MethodName := ⟨RX3, "room", "(I)I"⟩
abbrev cX3_fits : ByteArray := prog_5_method_47_code
def yX3_fits : MethodName := ⟨RX3, "fits", "(I)I"⟩
abbrev cX3_wouldCome : ByteArray := prog_5_method_48_code
def yX3_wouldCome : MethodName := ⟨RX3, "wouldCome", "(II)I"⟩
abbrev cX3_would : ByteArray := prog_5_method_49_code
def yX3_would : MethodName := ⟨RX3, "would", "(II)I"⟩
abbrev cX3_gains : ByteArray := prog_5_method_50_code
def yX3_gains : MethodName := ⟨RX3, "gains", "(I)I"⟩
abbrev cX3_advise : ByteArray := prog_5_method_51_code
def yX3_advise : MethodName := ⟨RX3, "advise", "()I"⟩
abbrev cX3_mean : ByteArray := prog_5_method_52_code
def yX3_mean : MethodName := ⟨RX3, "mean", "()D"⟩
abbrev cX3_digest : ByteArray := prog_5_method_53_code
def yX3_digest : MethodName := ⟨RX3, "digest", "()J"⟩
def RJ6 : String := "java/lang/Integer"
def TJ6 : u_T := fun k => match k with
  | _ => ("", "", "", false)
def tyJ6 : Nat → FieldType := fun k => match k with
  | _ => .int
abbrev cJ6_highestOneBit_0f7a4 : ByteArray := prog_10_method_45_code
def yJ6_highestOneBit_0f7a4 : MethodName := ⟨RJ6, "highestOneBit", "(I)I"⟩
abbrev cJ6_numberOfLeadingZeros_0f7a4 : ByteArray := prog_10_method_47_code
def yJ6_numberOfLeadingZeros_0f7a4 : MethodName := ⟨RJ6, "numberOfLeadingZeros", "(I)I"⟩
abbrev cJ6_bitCount_0f7a4 : ByteArray := prog_10_method_49_code
def yJ6_bitCount_0f7a4 : MethodName := ⟨RJ6, "bitCount", "(I)I"⟩
def RJ9 : String := "java/lang/Math"
def TJ9 : u_T := fun k => match k with
  | _ => ("", "", "", false)
def tyJ9 : Nat → FieldType := fun k => match k with
  | _ => .int
abbrev cJ9_max_7cf53 : ByteArray := prog_11_method_65_code
def yJ9_max_7cf53 : MethodName := ⟨RJ9, "max", "(II)I"⟩
def RJ0 : String := "java/lang/String"
def TJ0 : u_T := fun k => match k with
  | _ => ("", "", "", false)
def tyJ0 : Nat → FieldType := fun k => match k with
  | _ => .int
def RJ10 : String := "java/lang/System"
def TJ10 : u_T := fun k => match k with
  | _ => ("", "", "", false)
def tyJ10 : Nat → FieldType := fun k => match k with
  | _ => .int
def RL : String := "SlabKitchenLaw"
abbrev cL_kind : ByteArray := method_3_code
def yL_kind : MethodName := ⟨RL, "kind", "(LSlabKitchen;I[J)I"⟩
abbrev cL_setWay : ByteArray := method_4_code
def yL_setWay : MethodName := ⟨RL, "setWay", "(LSlabKitchen;I[J)I"⟩
abbrev cL_put : ByteArray := method_5_code
def yL_put : MethodName := ⟨RL, "put", "(LSlabKitchen;I[J)I"⟩
abbrev cL_take : ByteArray := method_6_code
def yL_take : MethodName := ⟨RL, "take", "(LSlabKitchen;I[J)I"⟩
abbrev cL_reap : ByteArray := method_7_code
def yL_reap : MethodName := ⟨RL, "reap", "(LSlabKitchen;I[J)I"⟩
abbrev cL_pack : ByteArray := method_8_code
def yL_pack : MethodName := ⟨RL, "pack", "(LSlabKitchen;I[J)I"⟩
abbrev cL_shelf : ByteArray := method_9_code
def yL_shelf : MethodName := ⟨RL, "shelf", "(LSlabKitchen;II[J)I"⟩
abbrev cL_about : ByteArray := method_10_code
def yL_about : MethodName := ⟨RL, "about", "(LSlabKitchen;II[J)I"⟩
abbrev cL_place : ByteArray := method_11_code
def yL_place : MethodName := ⟨RL, "place", "(LSlabKitchen;II[J)I"⟩
abbrev cL_count : ByteArray := method_12_code
def yL_count : MethodName := ⟨RL, "count", "(LSlabKitchen;I[J)I"⟩
abbrev cL_next : ByteArray := method_13_code
def yL_next : MethodName := ⟨RL, "next", "(LSlabKitchen;I[J)I"⟩
abbrev cL_fits : ByteArray := method_14_code
def yL_fits : MethodName := ⟨RL, "fits", "(LSlabKitchen;I[J)I"⟩
abbrev cL_would : ByteArray := method_15_code
def yL_would : MethodName := ⟨RL, "would", "(LSlabKitchen;II[J)I"⟩
abbrev cL_gains : ByteArray := method_16_code
def yL_gains : MethodName := ⟨RL, "gains", "(LSlabKitchen;I[J)I"⟩
abbrev cL_law : ByteArray := code
def yL_law : MethodName := ⟨RL, "law", "([I)Z"⟩
end
section
theorem wT1_0 : Cond.initialized RL ∈ LA := la_1 0 rfl rfl
theorem wT1_1 : Cond.initialized RX2 ∈ LA := la_1 1 rfl rfl
theorem wT1_2 : Cond.initialized RX1 ∈ LA := la_1 2 rfl rfl
theorem wT1_3 : Cond.initialized RX3 ∈ LA := la_1 3 rfl rfl
theorem wT1_4 : Cond.initialized "java/lang/Throwable" ∈ LA := la_1 4 rfl rfl
theorem wT1_5 : Cond.initialized "java/lang/Exception" ∈ LA := la_1 5 rfl rfl
theorem wT1_6 : Cond.initialized "java/lang/RuntimeException" ∈ LA := la_1 6 rfl rfl
theorem wT1_7 : Cond.initialized "java/lang/IllegalArgumentException" ∈ LA := la_1 7 rfl rfl
theorem wT1_8 : Cond.initialized "java/lang/IllegalStateException" ∈ LA := la_1 8 rfl rfl
theorem wT1_9 : Cond.initialized RX0 ∈ LA := la_1 9 rfl rfl
theorem wT1_10 : Cond.initialized "java/lang/IndexOutOfBoundsException" ∈ LA := la_1 10 rfl rfl
theorem wT1_11 : Cond.initialized RJ6 ∈ LA := la_1 11 rfl rfl
theorem wT1_12 : Cond.initialized RJ9 ∈ LA := la_1 12 rfl rfl
theorem wT1_13 : Cond.initialized RJ10 ∈ LA := la_1 13 rfl rfl
theorem wT1_14 : Cond.classLink RL 8 "SlabKitchen" ∈ LA := la_1 14 rfl rfl
theorem wT1_15 : Cond.instantiable RX2 7 ∈ LA := la_1 15 rfl rfl
theorem wT1_16 : Cond.methodLink RL 59 yX2_init ∈ LA := la_1 16 rfl rfl
theorem wT1_17 : Cond.instanceMethod yX2_init ∈ LA := la_1 17 rfl rfl
theorem wT1_18 : Cond.code yX2_init cX2_init 2 none ∈ LA := la_1 18 rfl rfl
theorem wT1_19 : Cond.methodLink RX2 3 objectInit ∈ LA := la_1 19 rfl rfl
theorem wT1_20 : Cond.instanceMethod objectInit ∈ LA := la_1 20 rfl rfl
theorem wT1_21 : Cond.code objectInit ⟨#[0xb1]⟩ 1 none ∈ LA := la_1 21 rfl rfl
theorem wT1_22 : Cond.classLink RX2 9 "SlabKitchen$Shelf" ∈ LA := la_1 22 rfl rfl
theorem wT1_24 : Cond.classLink RX2 15 "SlabKitchen$Kind" ∈ LA := la_1 24 rfl rfl
theorem wT1_26 : Cond.instantiable RX1 8 ∈ LA := la_1 26 rfl rfl
theorem wT1_27 : Cond.methodLink RX2 37 yX1_init ∈ LA := la_1 27 rfl rfl
theorem wT1_28 : Cond.instanceMethod yX1_init ∈ LA := la_1 28 rfl rfl
theorem wT1_29 : Cond.code yX1_init cX1_init 2 none ∈ LA := la_1 29 rfl rfl
theorem wT1_30 : Cond.methodLink RX1 3 objectInit ∈ LA := la_1 30 rfl rfl
theorem wT1_31 : Cond.fieldLink RX1 34 "SlabKitchen$Shelf" "firstSpot" "I" ∈ LA := la_1 31 rfl rfl
theorem wT1_32 : Cond.fieldLink RX2 211 "SlabKitchen$Shelf" "firstSpot" "I" ∈ LA := la_1 32 rfl rfl
theorem wT1_33 : Cond.fieldLink RX1 9 "SlabKitchen$Shelf" "stands" "[Z" ∈ LA := la_1 33 rfl rfl
theorem wT1_34 : Cond.fieldLink RX1 15 "SlabKitchen$Shelf" "owner" "I" ∈ LA := la_1 34 rfl rfl
theorem wT1_35 : Cond.fieldLink RX2 131 "SlabKitchen$Shelf" "owner" "I" ∈ LA := la_1 35 rfl rfl
theorem wT1_36 : Cond.fieldLink RX1 19 "SlabKitchen$Shelf" "size" "I" ∈ LA := la_1 36 rfl rfl
theorem wT1_37 : Cond.fieldLink RX2 244 "SlabKitchen$Shelf" "size" "I" ∈ LA := la_1 37 rfl rfl
theorem wT1_38 : Cond.fieldLink RX1 22 "SlabKitchen$Shelf" "places" "I" ∈ LA := la_1 38 rfl rfl
theorem wT1_39 : Cond.fieldLink RX2 245 "SlabKitchen$Shelf" "places" "I" ∈ LA := la_1 39 rfl rfl
theorem wT1_40 : Cond.fieldLink RX1 25 "SlabKitchen$Shelf" "rim" "I" ∈ LA := la_1 40 rfl rfl
theorem wT1_41 : Cond.fieldLink RX1 28 "SlabKitchen$Shelf" "bowls" "I" ∈ LA := la_1 41 rfl rfl
theorem wT1_42 : Cond.fieldLink RX2 104 "SlabKitchen$Shelf" "bowls" "I" ∈ LA := la_1 42 rfl rfl
theorem wT1_43 : Cond.fieldLink RX1 31 "SlabKitchen$Shelf" "emptySince" "I" ∈ LA := la_1 43 rfl rfl
theorem wT1_44 : Cond.fieldLink RX2 109 "SlabKitchen$Shelf" "emptySince" "I" ∈ LA := la_1 44 rfl rfl
theorem wT1_45 : Cond.laysFinal RX1 "SlabKitchen$Shelf" "firstSpot" "I" ∈ LA := la_1 45 rfl rfl
theorem wT1_47 : Cond.laysFinal RX1 "SlabKitchen$Shelf" "stands" "[Z" ∈ LA := la_1 47 rfl rfl
theorem wT1_49 : Cond.lays RX1 "SlabKitchen$Shelf" "owner" "I" ∈ LA := la_1 49 rfl rfl
theorem wT1_51 : Cond.lays RX1 "SlabKitchen$Shelf" "size" "I" ∈ LA := la_1 51 rfl rfl
theorem wT1_53 : Cond.lays RX1 "SlabKitchen$Shelf" "places" "I" ∈ LA := la_1 53 rfl rfl
theorem wT1_55 : Cond.lays RX1 "SlabKitchen$Shelf" "rim" "I" ∈ LA := la_1 55 rfl rfl
theorem wT1_57 : Cond.lays RX1 "SlabKitchen$Shelf" "bowls" "I" ∈ LA := la_1 57 rfl rfl
theorem wT1_59 : Cond.lays RX1 "SlabKitchen$Shelf" "emptySince" "I" ∈ LA := la_1 59 rfl rfl
theorem wT1_62 : Cond.arrayClass .boolean ∈ LA := la_1 62 rfl rfl
theorem wT1_63 : Cond.fieldLink RX2 11 "SlabKitchen" "shelves" "[LSlabKitchen$Shelf;" ∈ LA := la_1 63 rfl rfl
theorem wT1_64 : Cond.fieldLink RX2 17 "SlabKitchen" "kinds" "[LSlabKitchen$Kind;" ∈ LA := la_1 64 rfl rfl
theorem wT1_65 : Cond.fieldLink RX2 21 "SlabKitchen" "kindsMade" "I" ∈ LA := la_1 65 rfl rfl
theorem wT1_66 : Cond.fieldLink RX2 25 "SlabKitchen" "way" "I" ∈ LA := la_1 66 rfl rfl
theorem wT1_67 : Cond.fieldLink RX2 28 "SlabKitchen" "time" "I" ∈ LA := la_1 67 rfl rfl
theorem wT1_68 : Cond.fieldLink RX2 31 "SlabKitchen" "putInAll" "I" ∈ LA := la_1 68 rfl rfl
theorem wT1_69 : Cond.fieldLink RX2 34 "SlabKitchen" "movedInAll" "I" ∈ LA := la_1 69 rfl rfl
theorem wT1_70 : Cond.laysFinal RX2 "SlabKitchen" "shelves" "[LSlabKitchen$Shelf;" ∈ LA := la_1 70 rfl rfl
theorem wT1_72 : Cond.laysFinal RX2 "SlabKitchen" "kinds" "[LSlabKitchen$Kind;" ∈ LA := la_1 72 rfl rfl
theorem wT1_74 : Cond.lays RX2 "SlabKitchen" "kindsMade" "I" ∈ LA := la_1 74 rfl rfl
theorem wT1_76 : Cond.lays RX2 "SlabKitchen" "way" "I" ∈ LA := la_1 76 rfl rfl
theorem wT1_78 : Cond.lays RX2 "SlabKitchen" "time" "I" ∈ LA := la_1 78 rfl rfl
theorem wT1_80 : Cond.lays RX2 "SlabKitchen" "putInAll" "I" ∈ LA := la_1 80 rfl rfl
theorem wT1_82 : Cond.lays RX2 "SlabKitchen" "movedInAll" "I" ∈ LA := la_1 82 rfl rfl
theorem wT1_85 : Cond.methodLink RL 113 yX2_advise ∈ LA := la_1 85 rfl rfl
theorem wT1_86 : Cond.instanceMethod yX2_advise ∈ LA := la_1 86 rfl rfl
theorem wT1_87 : Cond.selects RX2 yX2_advise yX2_advise ∈ LA := la_1 87 rfl rfl
theorem wT1_88 : Cond.code yX2_advise cX2_advise 7 (some .int) ∈ LA := la_1 88 rfl rfl
theorem wT1_89 : Cond.methodLink RX2 164 yX2_gainsOf ∈ LA := la_1 89 rfl rfl
theorem wT1_91 : Cond.instanceMethod yX2_gainsOf ∈ LA := la_1 91 rfl rfl
theorem wT1_92 : Cond.code yX2_gainsOf cX2_gainsOf 8 (some .int) ∈ LA := la_1 92 rfl rfl
theorem wT1_93 : Cond.methodLink RX2 235 yX1_isOf ∈ LA := la_1 93 rfl rfl
theorem wT1_94 : Cond.instanceMethod yX1_isOf ∈ LA := la_1 94 rfl rfl
theorem wT1_95 : Cond.selects RX1 yX1_isOf yX1_isOf ∈ LA := la_1 95 rfl rfl
theorem wT1_96 : Cond.code yX1_isOf cX1_isOf 2 (some .boolean) ∈ LA := la_1 96 rfl rfl
theorem wT1_97 : Cond.methodLink RX2 70 yX1_state ∈ LA := la_1 97 rfl rfl
theorem wT1_98 : Cond.instanceMethod yX1_state ∈ LA := la_1 98 rfl rfl
theorem wT1_99 : Cond.selects RX1 yX1_state yX1_state ∈ LA := la_1 99 rfl rfl
theorem wT1_100 : Cond.code yX1_state cX1_state 1 (some .int) ∈ LA := la_1 100 rfl rfl
theorem wT1_101 : Cond.methodLink RX2 161 yX0_shelvesFor ∈ LA := la_1 101 rfl rfl
theorem wT1_102 : Cond.instanceMethod yX0_shelvesFor ∈ LA := la_1 102 rfl rfl
theorem wT1_103 : Cond.selects RX0 yX0_shelvesFor yX0_shelvesFor ∈ LA := la_1 103 rfl rfl
theorem wT1_104 : Cond.code yX0_shelvesFor cX0_shelvesFor 2 (some .int) ∈ LA := la_1 104 rfl rfl
theorem wT1_105 : Cond.methodLink RL 117 yX2_mean ∈ LA := la_1 105 rfl rfl
theorem wT1_106 : Cond.instanceMethod yX2_mean ∈ LA := la_1 106 rfl rfl
theorem wT1_107 : Cond.selects RX2 yX2_mean yX2_mean ∈ LA := la_1 107 rfl rfl
theorem wT1_108 : Cond.code yX2_mean cX2_mean 2 (some .double) ∈ LA := la_1 108 rfl rfl
theorem wT1_109 : Cond.methodLink RX2 143 yX2_takenShelves ∈ LA := la_1 109 rfl rfl
theorem wT1_111 : Cond.instanceMethod yX2_takenShelves ∈ LA := la_1 111 rfl rfl
theorem wT1_112 : Cond.code yX2_takenShelves cX2_takenShelves 1 (some .int) ∈ LA := la_1 112 rfl rfl
theorem wT1_113 : Cond.methodLink RX2 134 yX2_freeShelves ∈ LA := la_1 113 rfl rfl
theorem wT1_115 : Cond.instanceMethod yX2_freeShelves ∈ LA := la_1 115 rfl rfl
theorem wT1_116 : Cond.code yX2_freeShelves cX2_freeShelves 6 (some .int) ∈ LA := la_1 116 rfl rfl
theorem wT1_117 : Cond.methodLink RX2 137 yX2_bowlsInAll ∈ LA := la_1 117 rfl rfl
theorem wT1_119 : Cond.instanceMethod yX2_bowlsInAll ∈ LA := la_1 119 rfl rfl
theorem wT1_120 : Cond.code yX2_bowlsInAll cX2_bowlsInAll 6 (some .int) ∈ LA := la_1 120 rfl rfl
theorem wT1_121 : Cond.methodLink RL 122 yX2_digest ∈ LA := la_1 121 rfl rfl
theorem wT1_122 : Cond.instanceMethod yX2_digest ∈ LA := la_1 122 rfl rfl
theorem wT1_123 : Cond.selects RX2 yX2_digest yX2_digest ∈ LA := la_1 123 rfl rfl
theorem wT1_124 : Cond.code yX2_digest cX2_digest 7 (some .long) ∈ LA := la_1 124 rfl rfl
theorem wT1_125 : Cond.constantLong RX2 170 (1733 : Int64) ∈ LA := la_1 125 rfl rfl
theorem wT1_126 : Cond.methodLink RX2 172 yX2_count ∈ LA := la_1 126 rfl rfl
theorem wT1_127 : Cond.instanceMethod yX2_count ∈ LA := la_1 127 rfl rfl
theorem wT1_128 : Cond.selects RX2 yX2_count yX2_count ∈ LA := la_1 128 rfl rfl
theorem wT1_129 : Cond.code yX2_count cX2_count 2 (some .int) ∈ LA := la_1 129 rfl rfl
theorem wT1_130 : Cond.methodLink RX2 121 yX2_requireAnswer ∈ LA := la_1 130 rfl rfl
theorem wT1_131 : Cond.static yX2_requireAnswer ∈ LA := la_1 131 rfl rfl
theorem wT1_132 : Cond.code yX2_requireAnswer cX2_requireAnswer 2 none ∈ LA := la_1 132 rfl rfl
theorem wT1_133 : Cond.classLink RX2 55 "java/lang/IndexOutOfBoundsException" ∈ LA := la_1 133 rfl rfl
theorem wT1_134 : Cond.instantiable "java/lang/IndexOutOfBoundsException" 6 ∈ LA := la_1 134 rfl rfl
theorem wT1_142 : Cond.selects "java/lang/IndexOutOfBoundsException" ⟨"java/lang/Throwable", "fillInStackTrace", "(I)Ljava/lang/Throwable;"⟩ ⟨"java/lang/Throwable", "fillInStackTrace", "(I)Ljava/lang/Throwable;"⟩ ∈ LA := la_1 142 rfl rfl
theorem wT1_143 : Cond.selects "java/lang/IndexOutOfBoundsException" ⟨"java/lang/Throwable", "fillInStackTrace", "()Ljava/lang/Throwable;"⟩ ⟨"java/lang/Throwable", "fillInStackTrace", "()Ljava/lang/Throwable;"⟩ ∈ LA := la_1 143 rfl rfl
theorem wT1_144 : Cond.lays "java/lang/IndexOutOfBoundsException" "java/lang/Throwable" "cause" "Ljava/lang/Throwable;" ∈ LA := la_1 144 rfl rfl
theorem wT1_145 : Cond.lays "java/lang/Throwable" "java/lang/Throwable" "cause" "Ljava/lang/Throwable;" ∈ LA := la_1 145 rfl rfl
theorem wT1_146 : Cond.lays "java/lang/IndexOutOfBoundsException" "java/lang/Throwable" "stackTrace" "[Ljava/lang/StackTraceElement;" ∈ LA := la_1 146 rfl rfl
theorem wT1_147 : Cond.lays "java/lang/Throwable" "java/lang/Throwable" "stackTrace" "[Ljava/lang/StackTraceElement;" ∈ LA := la_1 147 rfl rfl
theorem wT1_148 : Cond.lays "java/lang/IndexOutOfBoundsException" "java/lang/Throwable" "suppressedExceptions" "Ljava/util/List;" ∈ LA := la_1 148 rfl rfl
theorem wT1_149 : Cond.lays "java/lang/Throwable" "java/lang/Throwable" "suppressedExceptions" "Ljava/util/List;" ∈ LA := la_1 149 rfl rfl
theorem wT1_150 : Cond.lays "java/lang/IndexOutOfBoundsException" "java/lang/Throwable" "detailMessage" "Ljava/lang/String;" ∈ LA := la_1 150 rfl rfl
theorem wT1_151 : Cond.lays "java/lang/Throwable" "java/lang/Throwable" "detailMessage" "Ljava/lang/String;" ∈ LA := la_1 151 rfl rfl
theorem wT1_152 : Cond.lays "java/lang/IndexOutOfBoundsException" "java/lang/Throwable" "backtrace" "Ljava/lang/Object;" ∈ LA := la_1 152 rfl rfl
theorem wT1_153 : Cond.lays "java/lang/Throwable" "java/lang/Throwable" "backtrace" "Ljava/lang/Object;" ∈ LA := la_1 153 rfl rfl
theorem wT1_187 : Cond.fieldLink "java/lang/Throwable" 198 "java/lang/Throwable" "backtrace" "Ljava/lang/Object;" ∈ LA := la_1 187 rfl rfl
theorem wT1_156 : Cond.instanceMethod ⟨"java/lang/Throwable", "<init>", "()V"⟩ ∈ LA := la_1 156 rfl rfl
theorem wT1_157 : Cond.code ⟨"java/lang/Throwable", "<init>", "()V"⟩ prog_15_method_1_code 1 none ∈ LA := la_1 157 rfl rfl
theorem wT1_158 : Cond.methodLink "java/lang/Throwable" 1 objectInit ∈ LA := la_1 158 rfl rfl
theorem wT1_159 : Cond.fieldLink "java/lang/Throwable" 13 "java/lang/Throwable" "UNASSIGNED_STACK" "[Ljava/lang/StackTraceElement;" ∈ LA := la_1 159 rfl rfl
theorem wT1_161 : Cond.fieldLink "java/lang/Throwable" 20 "java/lang/Throwable" "SUPPRESSED_SENTINEL" "Ljava/util/List;" ∈ LA := la_1 161 rfl rfl
theorem wT1_163 : Cond.methodLink "java/lang/Throwable" 27 ⟨"java/lang/Throwable", "fillInStackTrace", "()Ljava/lang/Throwable;"⟩ ∈ LA := la_1 163 rfl rfl
theorem wT1_164 : Cond.instanceMethod ⟨"java/lang/Throwable", "fillInStackTrace", "()Ljava/lang/Throwable;"⟩ ∈ LA := la_1 164 rfl rfl
theorem wT1_166 : Cond.selects "java/lang/IllegalArgumentException" ⟨"java/lang/Throwable", "fillInStackTrace", "()Ljava/lang/Throwable;"⟩ ⟨"java/lang/Throwable", "fillInStackTrace", "()Ljava/lang/Throwable;"⟩ ∈ LA := la_1 166 rfl rfl
theorem wT1_167 : Cond.selects "java/lang/IllegalStateException" ⟨"java/lang/Throwable", "fillInStackTrace", "()Ljava/lang/Throwable;"⟩ ⟨"java/lang/Throwable", "fillInStackTrace", "()Ljava/lang/Throwable;"⟩ ∈ LA := la_1 167 rfl rfl
theorem wT1_169 : Cond.methodLink "java/lang/Throwable" 202 ⟨"java/lang/Throwable", "fillInStackTrace", "(I)Ljava/lang/Throwable;"⟩ ∈ LA := la_1 169 rfl rfl
theorem wT1_171 : Cond.instanceMethod ⟨"java/lang/Throwable", "fillInStackTrace", "(I)Ljava/lang/Throwable;"⟩ ∈ LA := la_1 171 rfl rfl
theorem wT1_172 : Cond.instantiable "java/lang/Throwable" 6 ∈ LA := la_1 172 rfl rfl
theorem wT1_175 : Cond.methodLink RX2 59 ⟨"java/lang/IndexOutOfBoundsException", "<init>", "(Ljava/lang/String;)V"⟩ ∈ LA := la_1 175 rfl rfl
theorem wT1_176 : Cond.instanceMethod ⟨"java/lang/IndexOutOfBoundsException", "<init>", "(Ljava/lang/String;)V"⟩ ∈ LA := la_1 176 rfl rfl
theorem wT1_177 : Cond.code ⟨"java/lang/IndexOutOfBoundsException", "<init>", "(Ljava/lang/String;)V"⟩ prog_9_method_2_code 2 none ∈ LA := la_1 177 rfl rfl
theorem wT1_178 : Cond.methodLink "java/lang/IndexOutOfBoundsException" 7 ⟨"java/lang/RuntimeException", "<init>", "(Ljava/lang/String;)V"⟩ ∈ LA := la_1 178 rfl rfl
theorem wT1_179 : Cond.instanceMethod ⟨"java/lang/RuntimeException", "<init>", "(Ljava/lang/String;)V"⟩ ∈ LA := la_1 179 rfl rfl
theorem wT1_180 : Cond.code ⟨"java/lang/RuntimeException", "<init>", "(Ljava/lang/String;)V"⟩ prog_12_method_2_code 2 none ∈ LA := la_1 180 rfl rfl
theorem wT1_181 : Cond.methodLink "java/lang/RuntimeException" 7 ⟨"java/lang/Exception", "<init>", "(Ljava/lang/String;)V"⟩ ∈ LA := la_1 181 rfl rfl
theorem wT1_182 : Cond.instanceMethod ⟨"java/lang/Exception", "<init>", "(Ljava/lang/String;)V"⟩ ∈ LA := la_1 182 rfl rfl
theorem wT1_183 : Cond.code ⟨"java/lang/Exception", "<init>", "(Ljava/lang/String;)V"⟩ prog_6_method_2_code 2 none ∈ LA := la_1 183 rfl rfl
theorem wT1_184 : Cond.methodLink "java/lang/Exception" 7 ⟨"java/lang/Throwable", "<init>", "(Ljava/lang/String;)V"⟩ ∈ LA := la_1 184 rfl rfl
theorem wT1_185 : Cond.instanceMethod ⟨"java/lang/Throwable", "<init>", "(Ljava/lang/String;)V"⟩ ∈ LA := la_1 185 rfl rfl
theorem wT1_186 : Cond.code ⟨"java/lang/Throwable", "<init>", "(Ljava/lang/String;)V"⟩ prog_15_method_2_code 2 none ∈ LA := la_1 186 rfl rfl
theorem wT1_188 : Cond.fieldLink "java/lang/Throwable" 31 "java/lang/Throwable" "detailMessage" "Ljava/lang/String;" ∈ LA := la_1 188 rfl rfl
theorem wT1_189 : Cond.fieldLink "java/lang/Throwable" 7 "java/lang/Throwable" "cause" "Ljava/lang/Throwable;" ∈ LA := la_1 189 rfl rfl
theorem wT1_190 : Cond.fieldLink "java/lang/Throwable" 17 "java/lang/Throwable" "stackTrace" "[Ljava/lang/StackTraceElement;" ∈ LA := la_1 190 rfl rfl
theorem wT1_191 : Cond.fieldLink "java/lang/Throwable" 24 "java/lang/Throwable" "suppressedExceptions" "Ljava/util/List;" ∈ LA := la_1 191 rfl rfl
theorem wT1_196 : Cond.lays "java/lang/IndexOutOfBoundsException" "java/lang/Throwable" "depth" "I" ∈ LA := la_1 196 rfl rfl
theorem wT1_200 : Cond.arrayClass .byte ∈ LA := la_1 200 rfl rfl
theorem wT1_201 : Cond.methodLink RX2 140 yX2_spansUnderBowls ∈ LA := la_1 201 rfl rfl
theorem wT1_203 : Cond.instanceMethod yX2_spansUnderBowls ∈ LA := la_1 203 rfl rfl
theorem wT1_204 : Cond.code yX2_spansUnderBowls cX2_spansUnderBowls 6 (some .int) ∈ LA := la_1 204 rfl rfl
theorem wT1_205 : Cond.methodLink RX2 146 yX2_spansOfNoPlace ∈ LA := la_1 205 rfl rfl
theorem wT1_207 : Cond.instanceMethod yX2_spansOfNoPlace ∈ LA := la_1 207 rfl rfl
theorem wT1_208 : Cond.code yX2_spansOfNoPlace cX2_spansOfNoPlace 6 (some .int) ∈ LA := la_1 208 rfl rfl
theorem wT1_209 : Cond.methodLink RX2 175 yX2_mixed ∈ LA := la_1 209 rfl rfl
theorem wT1_210 : Cond.static yX2_mixed ∈ LA := la_1 210 rfl rfl
theorem wT1_211 : Cond.code yX2_mixed cX2_mixed 4 (some .long) ∈ LA := la_1 211 rfl rfl
theorem wT1_212 : Cond.constantLong RX2 246 (31 : Int64) ∈ LA := la_1 212 rfl rfl
theorem wT1_213 : Cond.methodLink RX2 179 yX2_mixedWithShelf ∈ LA := la_1 213 rfl rfl
theorem wT1_214 : Cond.static yX2_mixedWithShelf ∈ LA := la_1 214 rfl rfl
theorem wT1_215 : Cond.code yX2_mixedWithShelf cX2_mixedWithShelf 6 (some .long) ∈ LA := la_1 215 rfl rfl
theorem wT1_216 : Cond.methodLink RX2 124 yX1_answer ∈ LA := la_1 216 rfl rfl
theorem wT1_217 : Cond.instanceMethod yX1_answer ∈ LA := la_1 217 rfl rfl
theorem wT1_218 : Cond.selects RX1 yX1_answer yX1_answer ∈ LA := la_1 218 rfl rfl
theorem wT1_219 : Cond.code yX1_answer cX1_answer 2 (some .int) ∈ LA := la_1 219 rfl rfl
theorem wT1_220 : Cond.methodLink RX1 37 yX1_firstGap ∈ LA := la_1 220 rfl rfl
theorem wT1_221 : Cond.instanceMethod yX1_firstGap ∈ LA := la_1 221 rfl rfl
theorem wT1_222 : Cond.selects RX1 yX1_firstGap yX1_firstGap ∈ LA := la_1 222 rfl rfl
theorem wT1_223 : Cond.code yX1_firstGap cX1_firstGap 2 (some .int) ∈ LA := la_1 223 rfl rfl
theorem wT1_224 : Cond.methodLink RX1 54 yX1_standsOn ∈ LA := la_1 224 rfl rfl
theorem wT1_225 : Cond.instanceMethod yX1_standsOn ∈ LA := la_1 225 rfl rfl
theorem wT1_226 : Cond.selects RX1 yX1_standsOn yX1_standsOn ∈ LA := la_1 226 rfl rfl
theorem wT1_227 : Cond.code yX1_standsOn cX1_standsOn 2 (some .boolean) ∈ LA := la_1 227 rfl rfl
theorem wT1_228 : Cond.methodLink RX2 95 yX1_standsOn ∈ LA := la_1 228 rfl rfl
theorem wT1_229 : Cond.methodLink RX2 183 yX2_mixedWithKind ∈ LA := la_1 229 rfl rfl
theorem wT1_231 : Cond.instanceMethod yX2_mixedWithKind ∈ LA := la_1 231 rfl rfl
theorem wT1_232 : Cond.code yX2_mixedWithKind cX2_mixedWithKind 7 (some .long) ∈ LA := la_1 232 rfl rfl
theorem wT1_233 : Cond.methodLink RX2 127 yX2_answerAbout ∈ LA := la_1 233 rfl rfl
theorem wT1_235 : Cond.instanceMethod yX2_answerAbout ∈ LA := la_1 235 rfl rfl
theorem wT1_236 : Cond.code yX2_answerAbout cX2_answerAbout 3 (some .int) ∈ LA := la_1 236 rfl rfl
theorem wT1_237 : Cond.methodLink RX2 199 yX2_shelvesOf ∈ LA := la_1 237 rfl rfl
theorem wT1_239 : Cond.instanceMethod yX2_shelvesOf ∈ LA := la_1 239 rfl rfl
theorem wT2_0 : Cond.code yX2_shelvesOf cX2_shelvesOf 7 (some .int) ∈ LA := la_2 0 rfl rfl
theorem wT2_1 : Cond.methodLink RX2 202 yX2_shelvesInState ∈ LA := la_2 1 rfl rfl
theorem wT2_3 : Cond.instanceMethod yX2_shelvesInState ∈ LA := la_2 3 rfl rfl
theorem wT2_4 : Cond.code yX2_shelvesInState cX2_shelvesInState 8 (some .int) ∈ LA := la_2 4 rfl rfl
theorem wT2_5 : Cond.methodLink RX2 205 yX2_bowlsOf ∈ LA := la_2 5 rfl rfl
theorem wT2_7 : Cond.instanceMethod yX2_bowlsOf ∈ LA := la_2 7 rfl rfl
theorem wT2_8 : Cond.code yX2_bowlsOf cX2_bowlsOf 7 (some .int) ∈ LA := la_2 8 rfl rfl
theorem wT2_9 : Cond.methodLink RX2 149 yX2_nextSpot ∈ LA := la_2 9 rfl rfl
theorem wT2_11 : Cond.instanceMethod yX2_nextSpot ∈ LA := la_2 11 rfl rfl
theorem wT2_12 : Cond.code yX2_nextSpot cX2_nextSpot 3 (some .int) ∈ LA := la_2 12 rfl rfl
theorem wT2_13 : Cond.methodLink RX2 64 yX2_shelfToPut ∈ LA := la_2 13 rfl rfl
theorem wT2_15 : Cond.instanceMethod yX2_shelfToPut ∈ LA := la_2 15 rfl rfl
theorem wT2_16 : Cond.code yX2_shelfToPut cX2_shelfToPut 3 (some (.object "SlabKitchen$Shelf")) ∈ LA := la_2 16 rfl rfl
theorem wT2_17 : Cond.methodLink RX2 217 yX2_inUseByWay ∈ LA := la_2 17 rfl rfl
theorem wT2_19 : Cond.instanceMethod yX2_inUseByWay ∈ LA := la_2 19 rfl rfl
theorem wT2_20 : Cond.code yX2_inUseByWay cX2_inUseByWay 2 (some (.object "SlabKitchen$Shelf")) ∈ LA := la_2 20 rfl rfl
theorem wT2_21 : Cond.methodLink RX2 228 yX2_mostBowls ∈ LA := la_2 21 rfl rfl
theorem wT2_23 : Cond.instanceMethod yX2_mostBowls ∈ LA := la_2 23 rfl rfl
theorem wT2_24 : Cond.code yX2_mostBowls cX2_mostBowls 8 (some (.object "SlabKitchen$Shelf")) ∈ LA := la_2 24 rfl rfl
theorem wT2_25 : Cond.methodLink RX2 232 yX2_fewestBowls ∈ LA := la_2 25 rfl rfl
theorem wT2_27 : Cond.instanceMethod yX2_fewestBowls ∈ LA := la_2 27 rfl rfl
theorem wT2_28 : Cond.code yX2_fewestBowls cX2_fewestBowls 7 (some (.object "SlabKitchen$Shelf")) ∈ LA := la_2 28 rfl rfl
theorem wT2_29 : Cond.methodLink RX2 220 yX2_firstInState ∈ LA := la_2 29 rfl rfl
theorem wT2_31 : Cond.instanceMethod yX2_firstInState ∈ LA := la_2 31 rfl rfl
theorem wT2_32 : Cond.code yX2_firstInState cX2_firstInState 7 (some (.object "SlabKitchen$Shelf")) ∈ LA := la_2 32 rfl rfl
theorem wT2_33 : Cond.methodLink RX2 224 yX2_firstFree ∈ LA := la_2 33 rfl rfl
theorem wT2_35 : Cond.instanceMethod yX2_firstFree ∈ LA := la_2 35 rfl rfl
theorem wT2_36 : Cond.code yX2_firstFree cX2_firstFree 5 (some (.object "SlabKitchen$Shelf")) ∈ LA := la_2 36 rfl rfl
theorem wT2_37 : Cond.methodLink RX2 78 yX1_firstGap ∈ LA := la_2 37 rfl rfl
theorem wT2_38 : Cond.methodLink RX2 84 yX1_beginOf ∈ LA := la_2 38 rfl rfl
theorem wT2_39 : Cond.instanceMethod yX1_beginOf ∈ LA := la_2 39 rfl rfl
theorem wT2_40 : Cond.selects RX1 yX1_beginOf yX1_beginOf ∈ LA := la_2 40 rfl rfl
theorem wT2_41 : Cond.code yX1_beginOf cX1_beginOf 2 (some .int) ∈ LA := la_2 41 rfl rfl
theorem wT2_42 : Cond.methodLink RL 63 yL_kind ∈ LA := la_2 42 rfl rfl
theorem wT2_43 : Cond.static yL_kind ∈ LA := la_2 43 rfl rfl
theorem wT2_45 : Cond.classLink RL 13 "java/lang/IllegalArgumentException" ∈ LA := la_2 45 rfl rfl
theorem wT2_46 : Cond.classLink RL 15 "java/lang/IllegalStateException" ∈ LA := la_2 46 rfl rfl
theorem wT2_47 : Cond.methodLink RL 7 yX2_kind ∈ LA := la_2 47 rfl rfl
theorem wT2_48 : Cond.instanceMethod yX2_kind ∈ LA := la_2 48 rfl rfl
theorem wT2_49 : Cond.selects RX2 yX2_kind yX2_kind ∈ LA := la_2 49 rfl rfl
theorem wT2_50 : Cond.code yX2_kind cX2_kind 3 (some .int) ∈ LA := la_2 50 rfl rfl
theorem wT2_51 : Cond.classLink RX2 40 "java/lang/IllegalArgumentException" ∈ LA := la_2 51 rfl rfl
theorem wT2_52 : Cond.instantiable "java/lang/IllegalArgumentException" 6 ∈ LA := la_2 52 rfl rfl
theorem wT2_54 : Cond.selects "java/lang/IllegalArgumentException" ⟨"java/lang/Throwable", "fillInStackTrace", "(I)Ljava/lang/Throwable;"⟩ ⟨"java/lang/Throwable", "fillInStackTrace", "(I)Ljava/lang/Throwable;"⟩ ∈ LA := la_2 54 rfl rfl
theorem wT2_55 : Cond.lays "java/lang/IllegalArgumentException" "java/lang/Throwable" "cause" "Ljava/lang/Throwable;" ∈ LA := la_2 55 rfl rfl
theorem wT2_56 : Cond.lays "java/lang/IllegalArgumentException" "java/lang/Throwable" "stackTrace" "[Ljava/lang/StackTraceElement;" ∈ LA := la_2 56 rfl rfl
theorem wT2_57 : Cond.lays "java/lang/IllegalArgumentException" "java/lang/Throwable" "suppressedExceptions" "Ljava/util/List;" ∈ LA := la_2 57 rfl rfl
theorem wT2_58 : Cond.lays "java/lang/IllegalArgumentException" "java/lang/Throwable" "detailMessage" "Ljava/lang/String;" ∈ LA := la_2 58 rfl rfl
theorem wT2_59 : Cond.lays "java/lang/IllegalArgumentException" "java/lang/Throwable" "backtrace" "Ljava/lang/Object;" ∈ LA := la_2 59 rfl rfl
theorem wT2_61 : Cond.methodLink RX2 44 ⟨"java/lang/IllegalArgumentException", "<init>", "(Ljava/lang/String;)V"⟩ ∈ LA := la_2 61 rfl rfl
theorem wT2_62 : Cond.instanceMethod ⟨"java/lang/IllegalArgumentException", "<init>", "(Ljava/lang/String;)V"⟩ ∈ LA := la_2 62 rfl rfl
theorem wT2_63 : Cond.code ⟨"java/lang/IllegalArgumentException", "<init>", "(Ljava/lang/String;)V"⟩ prog_7_method_2_code 2 none ∈ LA := la_2 63 rfl rfl
theorem wT2_64 : Cond.methodLink "java/lang/IllegalArgumentException" 7 ⟨"java/lang/RuntimeException", "<init>", "(Ljava/lang/String;)V"⟩ ∈ LA := la_2 64 rfl rfl
theorem wT2_65 : Cond.lays "java/lang/IllegalArgumentException" "java/lang/Throwable" "depth" "I" ∈ LA := la_2 65 rfl rfl
theorem wT2_67 : Cond.classLink RX2 47 "java/lang/IllegalStateException" ∈ LA := la_2 67 rfl rfl
theorem wT2_68 : Cond.instantiable "java/lang/IllegalStateException" 6 ∈ LA := la_2 68 rfl rfl
theorem wT2_70 : Cond.selects "java/lang/IllegalStateException" ⟨"java/lang/Throwable", "fillInStackTrace", "(I)Ljava/lang/Throwable;"⟩ ⟨"java/lang/Throwable", "fillInStackTrace", "(I)Ljava/lang/Throwable;"⟩ ∈ LA := la_2 70 rfl rfl
theorem wT2_71 : Cond.lays "java/lang/IllegalStateException" "java/lang/Throwable" "cause" "Ljava/lang/Throwable;" ∈ LA := la_2 71 rfl rfl
theorem wT2_72 : Cond.lays "java/lang/IllegalStateException" "java/lang/Throwable" "stackTrace" "[Ljava/lang/StackTraceElement;" ∈ LA := la_2 72 rfl rfl
theorem wT2_73 : Cond.lays "java/lang/IllegalStateException" "java/lang/Throwable" "suppressedExceptions" "Ljava/util/List;" ∈ LA := la_2 73 rfl rfl
theorem wT2_74 : Cond.lays "java/lang/IllegalStateException" "java/lang/Throwable" "detailMessage" "Ljava/lang/String;" ∈ LA := la_2 74 rfl rfl
theorem wT2_75 : Cond.lays "java/lang/IllegalStateException" "java/lang/Throwable" "backtrace" "Ljava/lang/Object;" ∈ LA := la_2 75 rfl rfl
theorem wT2_77 : Cond.methodLink RX2 51 ⟨"java/lang/IllegalStateException", "<init>", "(Ljava/lang/String;)V"⟩ ∈ LA := la_2 77 rfl rfl
theorem wT2_78 : Cond.instanceMethod ⟨"java/lang/IllegalStateException", "<init>", "(Ljava/lang/String;)V"⟩ ∈ LA := la_2 78 rfl rfl
theorem wT2_79 : Cond.code ⟨"java/lang/IllegalStateException", "<init>", "(Ljava/lang/String;)V"⟩ prog_8_method_2_code 2 none ∈ LA := la_2 79 rfl rfl
theorem wT2_80 : Cond.methodLink "java/lang/IllegalStateException" 7 ⟨"java/lang/RuntimeException", "<init>", "(Ljava/lang/String;)V"⟩ ∈ LA := la_2 80 rfl rfl
theorem wT2_81 : Cond.lays "java/lang/IllegalStateException" "java/lang/Throwable" "depth" "I" ∈ LA := la_2 81 rfl rfl
theorem wT2_83 : Cond.instantiable RX0 6 ∈ LA := la_2 83 rfl rfl
theorem wT2_84 : Cond.methodLink RX2 52 yX0_init ∈ LA := la_2 84 rfl rfl
theorem wT2_85 : Cond.instanceMethod yX0_init ∈ LA := la_2 85 rfl rfl
theorem wT2_86 : Cond.code yX0_init cX0_init 3 none ∈ LA := la_2 86 rfl rfl
theorem wT2_87 : Cond.methodLink RX0 3 objectInit ∈ LA := la_2 87 rfl rfl
theorem wT2_88 : Cond.fieldLink RX0 18 "SlabKitchen$Kind" "number" "I" ∈ LA := la_2 88 rfl rfl
theorem wT2_89 : Cond.fieldLink RX1 41 "SlabKitchen$Kind" "number" "I" ∈ LA := la_2 89 rfl rfl
theorem wT2_90 : Cond.fieldLink RX2 167 "SlabKitchen$Kind" "number" "I" ∈ LA := la_2 90 rfl rfl
theorem wT2_91 : Cond.fieldLink RX0 21 "SlabKitchen$Kind" "size" "I" ∈ LA := la_2 91 rfl rfl
theorem wT2_92 : Cond.fieldLink RX1 46 "SlabKitchen$Kind" "size" "I" ∈ LA := la_2 92 rfl rfl
theorem wT2_93 : Cond.fieldLink RX2 193 "SlabKitchen$Kind" "size" "I" ∈ LA := la_2 93 rfl rfl
theorem wT2_94 : Cond.fieldLink RX0 24 "SlabKitchen$Kind" "places" "I" ∈ LA := la_2 94 rfl rfl
theorem wT2_95 : Cond.fieldLink RX1 47 "SlabKitchen$Kind" "places" "I" ∈ LA := la_2 95 rfl rfl
theorem wT2_96 : Cond.fieldLink RX2 156 "SlabKitchen$Kind" "places" "I" ∈ LA := la_2 96 rfl rfl
theorem wT2_97 : Cond.fieldLink RX0 27 "SlabKitchen$Kind" "rest" "I" ∈ LA := la_2 97 rfl rfl
theorem wT2_98 : Cond.fieldLink RX2 196 "SlabKitchen$Kind" "rest" "I" ∈ LA := la_2 98 rfl rfl
theorem wT2_99 : Cond.fieldLink RX0 9 "SlabKitchen$Kind" "shelvesEver" "I" ∈ LA := la_2 99 rfl rfl
theorem wT2_100 : Cond.fieldLink RX2 208 "SlabKitchen$Kind" "shelvesEver" "I" ∈ LA := la_2 100 rfl rfl
theorem wT2_101 : Cond.fieldLink RX0 15 "SlabKitchen$Kind" "nextRim" "I" ∈ LA := la_2 101 rfl rfl
theorem wT2_102 : Cond.fieldLink RX1 48 "SlabKitchen$Kind" "nextRim" "I" ∈ LA := la_2 102 rfl rfl
theorem wT2_103 : Cond.fieldLink RX2 214 "SlabKitchen$Kind" "nextRim" "I" ∈ LA := la_2 103 rfl rfl
theorem wT2_104 : Cond.laysFinal RX0 "SlabKitchen$Kind" "number" "I" ∈ LA := la_2 104 rfl rfl
theorem wT2_106 : Cond.laysFinal RX0 "SlabKitchen$Kind" "size" "I" ∈ LA := la_2 106 rfl rfl
theorem wT2_108 : Cond.laysFinal RX0 "SlabKitchen$Kind" "places" "I" ∈ LA := la_2 108 rfl rfl
theorem wT2_110 : Cond.laysFinal RX0 "SlabKitchen$Kind" "rest" "I" ∈ LA := la_2 110 rfl rfl
theorem wT2_112 : Cond.lays RX0 "SlabKitchen$Kind" "shelvesEver" "I" ∈ LA := la_2 112 rfl rfl
theorem wT2_114 : Cond.lays RX0 "SlabKitchen$Kind" "nextRim" "I" ∈ LA := la_2 114 rfl rfl
theorem wT2_117 : Cond.methodLink RL 73 yL_setWay ∈ LA := la_2 117 rfl rfl
theorem wT2_118 : Cond.static yL_setWay ∈ LA := la_2 118 rfl rfl
theorem wT2_120 : Cond.classLink RL 20 "java/lang/IndexOutOfBoundsException" ∈ LA := la_2 120 rfl rfl
theorem wT2_121 : Cond.methodLink RL 17 yX2_setWay ∈ LA := la_2 121 rfl rfl
theorem wT2_122 : Cond.instanceMethod yX2_setWay ∈ LA := la_2 122 rfl rfl
theorem wT2_123 : Cond.selects RX2 yX2_setWay yX2_setWay ∈ LA := la_2 123 rfl rfl
theorem wT2_124 : Cond.code yX2_setWay cX2_setWay 3 (some .int) ∈ LA := la_2 124 rfl rfl
theorem wT2_126 : Cond.methodLink RL 76 yL_put ∈ LA := la_2 126 rfl rfl
theorem wT2_127 : Cond.static yL_put ∈ LA := la_2 127 rfl rfl
theorem wT2_129 : Cond.methodLink RL 22 yX2_put ∈ LA := la_2 129 rfl rfl
theorem wT2_130 : Cond.instanceMethod yX2_put ∈ LA := la_2 130 rfl rfl
theorem wT2_131 : Cond.selects RX2 yX2_put yX2_put ∈ LA := la_2 131 rfl rfl
theorem wT2_132 : Cond.code yX2_put cX2_put 5 (some .int) ∈ LA := la_2 132 rfl rfl
theorem wT2_133 : Cond.methodLink RX2 60 yX2_kindOf ∈ LA := la_2 133 rfl rfl
theorem wT2_135 : Cond.instanceMethod yX2_kindOf ∈ LA := la_2 135 rfl rfl
theorem wT2_136 : Cond.code yX2_kindOf cX2_kindOf 2 (some (.object "SlabKitchen$Kind")) ∈ LA := la_2 136 rfl rfl
theorem wT2_139 : Cond.methodLink RX2 74 yX1_comeTo ∈ LA := la_2 139 rfl rfl
theorem wT2_140 : Cond.instanceMethod yX1_comeTo ∈ LA := la_2 140 rfl rfl
theorem wT2_141 : Cond.selects RX1 yX1_comeTo yX1_comeTo ∈ LA := la_2 141 rfl rfl
theorem wT2_142 : Cond.code yX1_comeTo cX1_comeTo 2 none ∈ LA := la_2 142 rfl rfl
theorem wT2_143 : Cond.methodLink RX1 51 yX0_countShelf ∈ LA := la_2 143 rfl rfl
theorem wT2_144 : Cond.instanceMethod yX0_countShelf ∈ LA := la_2 144 rfl rfl
theorem wT2_145 : Cond.selects RX0 yX0_countShelf yX0_countShelf ∈ LA := la_2 145 rfl rfl
theorem wT2_146 : Cond.code yX0_countShelf cX0_countShelf 1 none ∈ LA := la_2 146 rfl rfl
theorem wT2_147 : Cond.methodLink RX2 81 yX1_addBowl ∈ LA := la_2 147 rfl rfl
theorem wT2_148 : Cond.instanceMethod yX1_addBowl ∈ LA := la_2 148 rfl rfl
theorem wT2_149 : Cond.selects RX1 yX1_addBowl yX1_addBowl ∈ LA := la_2 149 rfl rfl
theorem wT2_150 : Cond.code yX1_addBowl cX1_addBowl 2 none ∈ LA := la_2 150 rfl rfl
theorem wT2_151 : Cond.methodLink RL 79 yL_take ∈ LA := la_2 151 rfl rfl
theorem wT2_152 : Cond.static yL_take ∈ LA := la_2 152 rfl rfl
theorem wT2_154 : Cond.methodLink RL 25 yX2_take ∈ LA := la_2 154 rfl rfl
theorem wT2_155 : Cond.instanceMethod yX2_take ∈ LA := la_2 155 rfl rfl
theorem wT2_156 : Cond.selects RX2 yX2_take yX2_take ∈ LA := la_2 156 rfl rfl
theorem wT2_157 : Cond.code yX2_take cX2_take 4 (some .int) ∈ LA := la_2 157 rfl rfl
theorem wT2_158 : Cond.methodLink RX2 88 yX2_shelfAt ∈ LA := la_2 158 rfl rfl
theorem wT2_160 : Cond.instanceMethod yX2_shelfAt ∈ LA := la_2 160 rfl rfl
theorem wT2_161 : Cond.code yX2_shelfAt cX2_shelfAt 2 (some (.object "SlabKitchen$Shelf")) ∈ LA := la_2 161 rfl rfl
theorem wT2_163 : Cond.methodLink RX2 92 yX1_placeAt ∈ LA := la_2 163 rfl rfl
theorem wT2_164 : Cond.instanceMethod yX1_placeAt ∈ LA := la_2 164 rfl rfl
theorem wT2_165 : Cond.selects RX1 yX1_placeAt yX1_placeAt ∈ LA := la_2 165 rfl rfl
theorem wT2_166 : Cond.code yX1_placeAt cX1_placeAt 3 (some .int) ∈ LA := la_2 166 rfl rfl
theorem wT2_168 : Cond.methodLink RX2 101 yX1_removeBowl ∈ LA := la_2 168 rfl rfl
theorem wT2_169 : Cond.instanceMethod yX1_removeBowl ∈ LA := la_2 169 rfl rfl
theorem wT2_170 : Cond.selects RX1 yX1_removeBowl yX1_removeBowl ∈ LA := la_2 170 rfl rfl
theorem wT2_171 : Cond.code yX1_removeBowl cX1_removeBowl 3 none ∈ LA := la_2 171 rfl rfl
theorem wT2_172 : Cond.methodLink RL 82 yL_reap ∈ LA := la_2 172 rfl rfl
theorem wT2_173 : Cond.static yL_reap ∈ LA := la_2 173 rfl rfl
theorem wT2_175 : Cond.methodLink RL 28 yX2_reap ∈ LA := la_2 175 rfl rfl
theorem wT2_176 : Cond.instanceMethod yX2_reap ∈ LA := la_2 176 rfl rfl
theorem wT2_177 : Cond.selects RX2 yX2_reap yX2_reap ∈ LA := la_2 177 rfl rfl
theorem wT2_178 : Cond.code yX2_reap cX2_reap 7 (some .int) ∈ LA := la_2 178 rfl rfl
theorem wT2_180 : Cond.methodLink RX2 112 yX1_becomeFree ∈ LA := la_2 180 rfl rfl
theorem wT2_181 : Cond.instanceMethod yX1_becomeFree ∈ LA := la_2 181 rfl rfl
theorem wT2_182 : Cond.selects RX1 yX1_becomeFree yX1_becomeFree ∈ LA := la_2 182 rfl rfl
theorem wT2_183 : Cond.code yX1_becomeFree cX1_becomeFree 1 none ∈ LA := la_2 183 rfl rfl
theorem wT2_184 : Cond.methodLink RL 85 yL_pack ∈ LA := la_2 184 rfl rfl
theorem wT2_185 : Cond.static yL_pack ∈ LA := la_2 185 rfl rfl
theorem wT2_187 : Cond.methodLink RL 31 yX2_pack ∈ LA := la_2 187 rfl rfl
theorem wT2_188 : Cond.instanceMethod yX2_pack ∈ LA := la_2 188 rfl rfl
theorem wT2_189 : Cond.selects RX2 yX2_pack yX2_pack ∈ LA := la_2 189 rfl rfl
theorem wT2_190 : Cond.code yX2_pack cX2_pack 4 (some .int) ∈ LA := la_2 190 rfl rfl
theorem wT2_191 : Cond.methodLink RX2 115 yX2_moveToPack ∈ LA := la_2 191 rfl rfl
theorem wT2_193 : Cond.instanceMethod yX2_moveToPack ∈ LA := la_2 193 rfl rfl
theorem wT2_194 : Cond.code yX2_moveToPack cX2_moveToPack 4 (some .boolean) ∈ LA := la_2 194 rfl rfl
theorem wT2_195 : Cond.methodLink RX2 238 yX2_lastFewestBowls ∈ LA := la_2 195 rfl rfl
theorem wT2_197 : Cond.instanceMethod yX2_lastFewestBowls ∈ LA := la_2 197 rfl rfl
theorem wT2_198 : Cond.code yX2_lastFewestBowls cX2_lastFewestBowls 7 (some (.object "SlabKitchen$Shelf")) ∈ LA := la_2 198 rfl rfl
theorem wT2_199 : Cond.methodLink RX2 241 yX1_lastBowl ∈ LA := la_2 199 rfl rfl
theorem wT2_200 : Cond.instanceMethod yX1_lastBowl ∈ LA := la_2 200 rfl rfl
theorem wT2_201 : Cond.selects RX1 yX1_lastBowl yX1_lastBowl ∈ LA := la_2 201 rfl rfl
theorem wT2_202 : Cond.code yX1_lastBowl cX1_lastBowl 2 (some .int) ∈ LA := la_2 202 rfl rfl
theorem wT2_203 : Cond.methodLink RL 88 yL_shelf ∈ LA := la_2 203 rfl rfl
theorem wT2_204 : Cond.static yL_shelf ∈ LA := la_2 204 rfl rfl
theorem wT2_206 : Cond.methodLink RL 34 yX2_shelf ∈ LA := la_2 206 rfl rfl
theorem wT2_207 : Cond.instanceMethod yX2_shelf ∈ LA := la_2 207 rfl rfl
theorem wT2_208 : Cond.selects RX2 yX2_shelf yX2_shelf ∈ LA := la_2 208 rfl rfl
theorem wT2_209 : Cond.code yX2_shelf cX2_shelf 3 (some .int) ∈ LA := la_2 209 rfl rfl
theorem wT2_211 : Cond.methodLink RL 92 yL_about ∈ LA := la_2 211 rfl rfl
theorem wT2_212 : Cond.static yL_about ∈ LA := la_2 212 rfl rfl
theorem wT2_214 : Cond.methodLink RL 38 yX2_about ∈ LA := la_2 214 rfl rfl
theorem wT2_215 : Cond.instanceMethod yX2_about ∈ LA := la_2 215 rfl rfl
theorem wT2_216 : Cond.selects RX2 yX2_about yX2_about ∈ LA := la_2 216 rfl rfl
theorem wT2_217 : Cond.code yX2_about cX2_about 4 (some .int) ∈ LA := la_2 217 rfl rfl
theorem wT2_218 : Cond.methodLink RL 95 yL_place ∈ LA := la_2 218 rfl rfl
theorem wT2_219 : Cond.static yL_place ∈ LA := la_2 219 rfl rfl
theorem wT2_221 : Cond.methodLink RL 41 yX2_place ∈ LA := la_2 221 rfl rfl
theorem wT2_222 : Cond.instanceMethod yX2_place ∈ LA := la_2 222 rfl rfl
theorem wT2_223 : Cond.selects RX2 yX2_place yX2_place ∈ LA := la_2 223 rfl rfl
theorem wT2_224 : Cond.code yX2_place cX2_place 5 (some .int) ∈ LA := la_2 224 rfl rfl
theorem wT2_225 : Cond.methodLink RL 98 yL_count ∈ LA := la_2 225 rfl rfl
theorem wT2_226 : Cond.static yL_count ∈ LA := la_2 226 rfl rfl
theorem wT2_228 : Cond.methodLink RL 44 yX2_count ∈ LA := la_2 228 rfl rfl
theorem wT2_229 : Cond.methodLink RL 101 yL_next ∈ LA := la_2 229 rfl rfl
theorem wT2_230 : Cond.static yL_next ∈ LA := la_2 230 rfl rfl
theorem wT2_232 : Cond.methodLink RL 47 yX2_next ∈ LA := la_2 232 rfl rfl
theorem wT2_233 : Cond.instanceMethod yX2_next ∈ LA := la_2 233 rfl rfl
theorem wT2_234 : Cond.selects RX2 yX2_next yX2_next ∈ LA := la_2 234 rfl rfl
theorem wT2_235 : Cond.code yX2_next cX2_next 2 (some .int) ∈ LA := la_2 235 rfl rfl
theorem wT2_236 : Cond.methodLink RL 104 yL_fits ∈ LA := la_2 236 rfl rfl
theorem wT2_237 : Cond.static yL_fits ∈ LA := la_2 237 rfl rfl
theorem wT2_239 : Cond.methodLink RL 50 yX2_fits ∈ LA := la_2 239 rfl rfl
theorem wT3_0 : Cond.instanceMethod yX2_fits ∈ LA := la_3 0 rfl rfl
theorem wT3_1 : Cond.selects RX2 yX2_fits yX2_fits ∈ LA := la_3 1 rfl rfl
theorem wT3_2 : Cond.code yX2_fits cX2_fits 3 (some .int) ∈ LA := la_3 2 rfl rfl
theorem wT3_3 : Cond.methodLink RX2 153 yX2_gapsOf ∈ LA := la_3 3 rfl rfl
theorem wT3_5 : Cond.instanceMethod yX2_gapsOf ∈ LA := la_3 5 rfl rfl
theorem wT3_6 : Cond.code yX2_gapsOf cX2_gapsOf 2 (some .int) ∈ LA := la_3 6 rfl rfl
theorem wT3_7 : Cond.methodLink RL 107 yL_would ∈ LA := la_3 7 rfl rfl
theorem wT3_8 : Cond.static yL_would ∈ LA := la_3 8 rfl rfl
theorem wT3_10 : Cond.methodLink RL 53 yX2_would ∈ LA := la_3 10 rfl rfl
theorem wT3_11 : Cond.instanceMethod yX2_would ∈ LA := la_3 11 rfl rfl
theorem wT3_12 : Cond.selects RX2 yX2_would yX2_would ∈ LA := la_3 12 rfl rfl
theorem wT3_13 : Cond.code yX2_would cX2_would 6 (some .int) ∈ LA := la_3 13 rfl rfl
theorem wT3_15 : Cond.methodLink RL 110 yL_gains ∈ LA := la_3 15 rfl rfl
theorem wT3_16 : Cond.static yL_gains ∈ LA := la_3 16 rfl rfl
theorem wT3_18 : Cond.methodLink RL 56 yX2_gains ∈ LA := la_3 18 rfl rfl
theorem wT3_19 : Cond.instanceMethod yX2_gains ∈ LA := la_3 19 rfl rfl
theorem wT3_20 : Cond.selects RX2 yX2_gains yX2_gains ∈ LA := la_3 20 rfl rfl
theorem wT3_21 : Cond.code yX2_gains cX2_gains 2 (some .int) ∈ LA := la_3 21 rfl rfl
theorem wT3_22 : Cond.classLink RL 60 "SlabKitchenModel" ∈ LA := la_3 22 rfl rfl
theorem wT3_23 : Cond.instantiable RX3 14 ∈ LA := la_3 23 rfl rfl
theorem wT3_24 : Cond.methodLink RL 62 yX3_init ∈ LA := la_3 24 rfl rfl
theorem wT3_25 : Cond.instanceMethod yX3_init ∈ LA := la_3 25 rfl rfl
theorem wT3_26 : Cond.code yX3_init cX3_init 2 none ∈ LA := la_3 26 rfl rfl
theorem wT3_27 : Cond.methodLink RX3 1 objectInit ∈ LA := la_3 27 rfl rfl
theorem wT3_28 : Cond.fieldLink RX3 34 "SlabKitchenModel" "thrown" "I" ∈ LA := la_3 28 rfl rfl
theorem wT3_29 : Cond.fieldLink RX3 97 "SlabKitchenModel" "time" "I" ∈ LA := la_3 29 rfl rfl
theorem wT3_30 : Cond.fieldLink RX3 61 "SlabKitchenModel" "way" "I" ∈ LA := la_3 30 rfl rfl
theorem wT3_31 : Cond.fieldLink RX3 100 "SlabKitchenModel" "putAll" "I" ∈ LA := la_3 31 rfl rfl
theorem wT3_32 : Cond.fieldLink RX3 142 "SlabKitchenModel" "movedAll" "I" ∈ LA := la_3 32 rfl rfl
theorem wT3_33 : Cond.fieldLink RX3 38 "SlabKitchenModel" "kinds" "I" ∈ LA := la_3 33 rfl rfl
theorem wT3_34 : Cond.fieldLink RX3 9 "SlabKitchenModel" "size" "[I" ∈ LA := la_3 34 rfl rfl
theorem wT3_35 : Cond.fieldLink RX3 13 "SlabKitchenModel" "got" "[I" ∈ LA := la_3 35 rfl rfl
theorem wT3_36 : Cond.fieldLink RX3 16 "SlabKitchenModel" "owner" "[I" ∈ LA := la_3 36 rfl rfl
theorem wT3_37 : Cond.fieldLink RX3 19 "SlabKitchenModel" "rim" "[I" ∈ LA := la_3 37 rfl rfl
theorem wT3_38 : Cond.fieldLink RX3 22 "SlabKitchenModel" "bowls" "[I" ∈ LA := la_3 38 rfl rfl
theorem wT3_39 : Cond.fieldLink RX3 25 "SlabKitchenModel" "since" "[I" ∈ LA := la_3 39 rfl rfl
theorem wT3_40 : Cond.fieldLink RX3 28 "SlabKitchenModel" "kept" "[I" ∈ LA := la_3 40 rfl rfl
theorem wT3_41 : Cond.fieldLink RX3 31 "SlabKitchenModel" "keptSince" "[I" ∈ LA := la_3 41 rfl rfl
theorem wT3_42 : Cond.lays RX3 "SlabKitchenModel" "thrown" "I" ∈ LA := la_3 42 rfl rfl
theorem wT3_44 : Cond.lays RX3 "SlabKitchenModel" "time" "I" ∈ LA := la_3 44 rfl rfl
theorem wT3_46 : Cond.lays RX3 "SlabKitchenModel" "way" "I" ∈ LA := la_3 46 rfl rfl
theorem wT3_48 : Cond.lays RX3 "SlabKitchenModel" "putAll" "I" ∈ LA := la_3 48 rfl rfl
theorem wT3_50 : Cond.lays RX3 "SlabKitchenModel" "movedAll" "I" ∈ LA := la_3 50 rfl rfl
theorem wT3_52 : Cond.lays RX3 "SlabKitchenModel" "kinds" "I" ∈ LA := la_3 52 rfl rfl
theorem wT3_54 : Cond.laysFinal RX3 "SlabKitchenModel" "size" "[I" ∈ LA := la_3 54 rfl rfl
theorem wT3_56 : Cond.laysFinal RX3 "SlabKitchenModel" "got" "[I" ∈ LA := la_3 56 rfl rfl
theorem wT3_58 : Cond.laysFinal RX3 "SlabKitchenModel" "owner" "[I" ∈ LA := la_3 58 rfl rfl
theorem wT3_60 : Cond.laysFinal RX3 "SlabKitchenModel" "rim" "[I" ∈ LA := la_3 60 rfl rfl
theorem wT3_62 : Cond.laysFinal RX3 "SlabKitchenModel" "bowls" "[I" ∈ LA := la_3 62 rfl rfl
theorem wT3_64 : Cond.laysFinal RX3 "SlabKitchenModel" "since" "[I" ∈ LA := la_3 64 rfl rfl
theorem wT3_66 : Cond.laysFinal RX3 "SlabKitchenModel" "kept" "[I" ∈ LA := la_3 66 rfl rfl
theorem wT3_68 : Cond.laysFinal RX3 "SlabKitchenModel" "keptSince" "[I" ∈ LA := la_3 68 rfl rfl
theorem wT3_71 : Cond.arrayClass .int ∈ LA := la_3 71 rfl rfl
theorem wT3_72 : Cond.methodLink RL 69 yX3_thrown ∈ LA := la_3 72 rfl rfl
theorem wT3_73 : Cond.instanceMethod yX3_thrown ∈ LA := la_3 73 rfl rfl
theorem wT3_74 : Cond.selects RX3 yX3_thrown yX3_thrown ∈ LA := la_3 74 rfl rfl
theorem wT3_75 : Cond.code yX3_thrown cX3_thrown 1 (some .int) ∈ LA := la_3 75 rfl rfl
theorem wT3_76 : Cond.methodLink RL 68 yX3_kind ∈ LA := la_3 76 rfl rfl
theorem wT3_77 : Cond.instanceMethod yX3_kind ∈ LA := la_3 77 rfl rfl
theorem wT3_78 : Cond.selects RX3 yX3_kind yX3_kind ∈ LA := la_3 78 rfl rfl
theorem wT3_79 : Cond.code yX3_kind cX3_kind 2 (some .int) ∈ LA := la_3 79 rfl rfl
theorem wT3_80 : Cond.methodLink RX3 41 yX3_isIn ∈ LA := la_3 80 rfl rfl
theorem wT3_81 : Cond.static yX3_isIn ∈ LA := la_3 81 rfl rfl
theorem wT3_82 : Cond.code yX3_isIn cX3_isIn 3 (some .boolean) ∈ LA := la_3 82 rfl rfl
theorem wT3_83 : Cond.methodLink RX3 127 yX3_no ∈ LA := la_3 83 rfl rfl
theorem wT3_85 : Cond.instanceMethod yX3_no ∈ LA := la_3 85 rfl rfl
theorem wT3_86 : Cond.code yX3_no cX3_no 2 (some .int) ∈ LA := la_3 86 rfl rfl
theorem wT3_87 : Cond.methodLink RL 75 yX3_setWay ∈ LA := la_3 87 rfl rfl
theorem wT3_88 : Cond.instanceMethod yX3_setWay ∈ LA := la_3 88 rfl rfl
theorem wT3_89 : Cond.selects RX3 yX3_setWay yX3_setWay ∈ LA := la_3 89 rfl rfl
theorem wT3_90 : Cond.code yX3_setWay cX3_setWay 3 (some .int) ∈ LA := la_3 90 rfl rfl
theorem wT3_91 : Cond.methodLink RL 78 yX3_put ∈ LA := la_3 91 rfl rfl
theorem wT3_92 : Cond.instanceMethod yX3_put ∈ LA := la_3 92 rfl rfl
theorem wT3_93 : Cond.selects RX3 yX3_put yX3_put ∈ LA := la_3 93 rfl rfl
theorem wT3_94 : Cond.code yX3_put cX3_put 3 (some .int) ∈ LA := la_3 94 rfl rfl
theorem wT3_95 : Cond.methodLink RX3 130 yX3_isKind ∈ LA := la_3 95 rfl rfl
theorem wT3_97 : Cond.instanceMethod yX3_isKind ∈ LA := la_3 97 rfl rfl
theorem wT3_98 : Cond.code yX3_isKind cX3_isKind 2 (some .boolean) ∈ LA := la_3 98 rfl rfl
theorem wT3_99 : Cond.methodLink RX3 80 yX3_shelfFor ∈ LA := la_3 99 rfl rfl
theorem wT3_101 : Cond.instanceMethod yX3_shelfFor ∈ LA := la_3 101 rfl rfl
theorem wT3_102 : Cond.code yX3_shelfFor cX3_shelfFor 4 (some .int) ∈ LA := la_3 102 rfl rfl
theorem wT3_103 : Cond.methodLink RX3 64 yX3_isUsed ∈ LA := la_3 103 rfl rfl
theorem wT3_105 : Cond.instanceMethod yX3_isUsed ∈ LA := la_3 105 rfl rfl
theorem wT3_106 : Cond.code yX3_isUsed cX3_isUsed 3 (some .boolean) ∈ LA := la_3 106 rfl rfl
theorem wT3_107 : Cond.methodLink RX3 57 yX3_isFull ∈ LA := la_3 107 rfl rfl
theorem wT3_109 : Cond.instanceMethod yX3_isFull ∈ LA := la_3 109 rfl rfl
theorem wT3_110 : Cond.code yX3_isFull cX3_isFull 2 (some .boolean) ∈ LA := la_3 110 rfl rfl
theorem wT3_111 : Cond.methodLink RX3 51 yX3_many ∈ LA := la_3 111 rfl rfl
theorem wT3_113 : Cond.instanceMethod yX3_many ∈ LA := la_3 113 rfl rfl
theorem wT3_114 : Cond.code yX3_many cX3_many 2 (some .int) ∈ LA := la_3 114 rfl rfl
theorem wT3_115 : Cond.methodLink RX3 45 yJ6_bitCount_0f7a4 ∈ LA := la_3 115 rfl rfl
theorem wT3_116 : Cond.static yJ6_bitCount_0f7a4 ∈ LA := la_3 116 rfl rfl
theorem wT3_117 : Cond.code yJ6_bitCount_0f7a4 cJ6_bitCount_0f7a4 1 (some .int) ∈ LA := la_3 117 rfl rfl
theorem wT3_118 : Cond.constant RJ6 265 (1431655765 : Int32) ∈ LA := la_3 118 rfl rfl
theorem wT3_119 : Cond.constant RJ6 266 (858993459 : Int32) ∈ LA := la_3 119 rfl rfl
theorem wT3_120 : Cond.constant RJ6 267 (252645135 : Int32) ∈ LA := la_3 120 rfl rfl
theorem wT3_121 : Cond.methodLink RX3 54 yX3_places ∈ LA := la_3 121 rfl rfl
theorem wT3_123 : Cond.instanceMethod yX3_places ∈ LA := la_3 123 rfl rfl
theorem wT3_124 : Cond.code yX3_places cX3_places 2 (some .int) ∈ LA := la_3 124 rfl rfl
theorem wT3_125 : Cond.methodLink RX3 68 yX3_isBetter ∈ LA := la_3 125 rfl rfl
theorem wT3_127 : Cond.instanceMethod yX3_isBetter ∈ LA := la_3 127 rfl rfl
theorem wT3_128 : Cond.code yX3_isBetter cX3_isBetter 3 (some .boolean) ∈ LA := la_3 128 rfl rfl
theorem wT3_129 : Cond.methodLink RX3 71 yX3_isEmpty ∈ LA := la_3 129 rfl rfl
theorem wT3_131 : Cond.instanceMethod yX3_isEmpty ∈ LA := la_3 131 rfl rfl
theorem wT3_132 : Cond.code yX3_isEmpty cX3_isEmpty 3 (some .boolean) ∈ LA := la_3 132 rfl rfl
theorem wT3_133 : Cond.methodLink RX3 74 yX3_isFree ∈ LA := la_3 133 rfl rfl
theorem wT3_135 : Cond.instanceMethod yX3_isFree ∈ LA := la_3 135 rfl rfl
theorem wT3_136 : Cond.code yX3_isFree cX3_isFree 2 (some .boolean) ∈ LA := la_3 136 rfl rfl
theorem wT3_137 : Cond.methodLink RX3 133 yX3_placed ∈ LA := la_3 137 rfl rfl
theorem wT3_139 : Cond.instanceMethod yX3_placed ∈ LA := la_3 139 rfl rfl
theorem wT3_140 : Cond.code yX3_placed cX3_placed 4 (some .int) ∈ LA := la_3 140 rfl rfl
theorem wT3_141 : Cond.methodLink RX3 93 yX3_own ∈ LA := la_3 141 rfl rfl
theorem wT3_143 : Cond.instanceMethod yX3_own ∈ LA := la_3 143 rfl rfl
theorem wT3_144 : Cond.code yX3_own cX3_own 3 none ∈ LA := la_3 144 rfl rfl
theorem wT3_145 : Cond.methodLink RX3 83 yX3_nextRim ∈ LA := la_3 145 rfl rfl
theorem wT3_147 : Cond.instanceMethod yX3_nextRim ∈ LA := la_3 147 rfl rfl
theorem wT3_148 : Cond.code yX3_nextRim cX3_nextRim 2 (some .int) ∈ LA := la_3 148 rfl rfl
theorem wT3_149 : Cond.methodLink RX3 77 yX3_rest ∈ LA := la_3 149 rfl rfl
theorem wT3_151 : Cond.instanceMethod yX3_rest ∈ LA := la_3 151 rfl rfl
theorem wT3_152 : Cond.code yX3_rest cX3_rest 2 (some .int) ∈ LA := la_3 152 rfl rfl
theorem wT3_153 : Cond.methodLink RX3 86 yX3_hole ∈ LA := la_3 153 rfl rfl
theorem wT3_155 : Cond.instanceMethod yX3_hole ∈ LA := la_3 155 rfl rfl
theorem wT3_156 : Cond.code yX3_hole cX3_hole 3 (some .int) ∈ LA := la_3 156 rfl rfl
theorem wT3_157 : Cond.methodLink RX3 89 yX3_spotOf ∈ LA := la_3 157 rfl rfl
theorem wT3_159 : Cond.instanceMethod yX3_spotOf ∈ LA := la_3 159 rfl rfl
theorem wT3_160 : Cond.code yX3_spotOf cX3_spotOf 3 (some .int) ∈ LA := la_3 160 rfl rfl
theorem wT3_161 : Cond.methodLink RL 81 yX3_take ∈ LA := la_3 161 rfl rfl
theorem wT3_162 : Cond.instanceMethod yX3_take ∈ LA := la_3 162 rfl rfl
theorem wT3_163 : Cond.selects RX3 yX3_take yX3_take ∈ LA := la_3 163 rfl rfl
theorem wT3_164 : Cond.code yX3_take cX3_take 4 (some .int) ∈ LA := la_3 164 rfl rfl
theorem wT3_165 : Cond.methodLink RX3 136 yX3_isSpot ∈ LA := la_3 165 rfl rfl
theorem wT3_166 : Cond.static yX3_isSpot ∈ LA := la_3 166 rfl rfl
theorem wT3_167 : Cond.code yX3_isSpot cX3_isSpot 1 (some .boolean) ∈ LA := la_3 167 rfl rfl
theorem wT3_168 : Cond.methodLink RX3 139 yX3_placeOf ∈ LA := la_3 168 rfl rfl
theorem wT3_170 : Cond.instanceMethod yX3_placeOf ∈ LA := la_3 170 rfl rfl
theorem wT3_171 : Cond.code yX3_placeOf cX3_placeOf 4 (some .int) ∈ LA := la_3 171 rfl rfl
theorem wT3_172 : Cond.methodLink RL 84 yX3_reap ∈ LA := la_3 172 rfl rfl
theorem wT3_173 : Cond.instanceMethod yX3_reap ∈ LA := la_3 173 rfl rfl
theorem wT3_174 : Cond.selects RX3 yX3_reap yX3_reap ∈ LA := la_3 174 rfl rfl
theorem wT3_175 : Cond.code yX3_reap cX3_reap 4 (some .int) ∈ LA := la_3 175 rfl rfl
theorem wT3_176 : Cond.methodLink RL 87 yX3_pack ∈ LA := la_3 176 rfl rfl
theorem wT3_177 : Cond.instanceMethod yX3_pack ∈ LA := la_3 177 rfl rfl
theorem wT3_178 : Cond.selects RX3 yX3_pack yX3_pack ∈ LA := la_3 178 rfl rfl
theorem wT3_179 : Cond.code yX3_pack cX3_pack 3 (some .int) ∈ LA := la_3 179 rfl rfl
theorem wT3_180 : Cond.methodLink RX3 124 yX3_packed ∈ LA := la_3 180 rfl rfl
theorem wT3_182 : Cond.instanceMethod yX3_packed ∈ LA := la_3 182 rfl rfl
theorem wT3_183 : Cond.code yX3_packed cX3_packed 5 (some .int) ∈ LA := la_3 183 rfl rfl
theorem wT3_184 : Cond.methodLink RX3 106 yX3_fewest ∈ LA := la_3 184 rfl rfl
theorem wT3_186 : Cond.instanceMethod yX3_fewest ∈ LA := la_3 186 rfl rfl
theorem wT3_187 : Cond.code yX3_fewest cX3_fewest 4 (some .int) ∈ LA := la_3 187 rfl rfl
theorem wT3_188 : Cond.methodLink RX3 109 yX3_most ∈ LA := la_3 188 rfl rfl
theorem wT3_190 : Cond.instanceMethod yX3_most ∈ LA := la_3 190 rfl rfl
theorem wT3_191 : Cond.code yX3_most cX3_most 5 (some .int) ∈ LA := la_3 191 rfl rfl
theorem wT3_192 : Cond.methodLink RX3 112 yX3_move ∈ LA := la_3 192 rfl rfl
theorem wT3_194 : Cond.instanceMethod yX3_move ∈ LA := la_3 194 rfl rfl
theorem wT3_195 : Cond.code yX3_move cX3_move 4 none ∈ LA := la_3 195 rfl rfl
theorem wT3_196 : Cond.methodLink RX3 103 yJ6_highestOneBit_0f7a4 ∈ LA := la_3 196 rfl rfl
theorem wT3_197 : Cond.static yJ6_highestOneBit_0f7a4 ∈ LA := la_3 197 rfl rfl
theorem wT3_198 : Cond.code yJ6_highestOneBit_0f7a4 cJ6_highestOneBit_0f7a4 1 (some .int) ∈ LA := la_3 198 rfl rfl
theorem wT3_199 : Cond.constant RJ6 127 (-2147483648 : Int32) ∈ LA := la_3 199 rfl rfl
theorem wT3_200 : Cond.methodLink RJ6 51 yJ6_numberOfLeadingZeros_0f7a4 ∈ LA := la_3 200 rfl rfl
theorem wT3_201 : Cond.static yJ6_numberOfLeadingZeros_0f7a4 ∈ LA := la_3 201 rfl rfl
theorem wT3_202 : Cond.code yJ6_numberOfLeadingZeros_0f7a4 cJ6_numberOfLeadingZeros_0f7a4 2 (some .int) ∈ LA := la_3 202 rfl rfl
theorem wT3_203 : Cond.constant RJ6 264 (65536 : Int32) ∈ LA := la_3 203 rfl rfl
theorem wT3_204 : Cond.methodLink RL 91 yX3_shelf ∈ LA := la_3 204 rfl rfl
theorem wT3_205 : Cond.instanceMethod yX3_shelf ∈ LA := la_3 205 rfl rfl
theorem wT3_206 : Cond.selects RX3 yX3_shelf yX3_shelf ∈ LA := la_3 206 rfl rfl
theorem wT3_207 : Cond.code yX3_shelf cX3_shelf 3 (some .int) ∈ LA := la_3 207 rfl rfl
theorem wT3_208 : Cond.methodLink RX3 145 yX3_shelfTold ∈ LA := la_3 208 rfl rfl
theorem wT3_210 : Cond.instanceMethod yX3_shelfTold ∈ LA := la_3 210 rfl rfl
theorem wT3_211 : Cond.code yX3_shelfTold cX3_shelfTold 3 (some .int) ∈ LA := la_3 211 rfl rfl
theorem wT3_212 : Cond.methodLink RL 94 yX3_about ∈ LA := la_3 212 rfl rfl
theorem wT3_213 : Cond.instanceMethod yX3_about ∈ LA := la_3 213 rfl rfl
theorem wT3_214 : Cond.selects RX3 yX3_about yX3_about ∈ LA := la_3 214 rfl rfl
theorem wT3_215 : Cond.code yX3_about cX3_about 3 (some .int) ∈ LA := la_3 215 rfl rfl
theorem wT3_216 : Cond.methodLink RX3 151 yX3_kindTold ∈ LA := la_3 216 rfl rfl
theorem wT3_218 : Cond.instanceMethod yX3_kindTold ∈ LA := la_3 218 rfl rfl
theorem wT3_219 : Cond.code yX3_kindTold cX3_kindTold 3 (some .int) ∈ LA := la_3 219 rfl rfl
theorem wT3_220 : Cond.methodLink RX3 148 yX3_bowlsOf ∈ LA := la_3 220 rfl rfl
theorem wT3_222 : Cond.instanceMethod yX3_bowlsOf ∈ LA := la_3 222 rfl rfl
theorem wT3_223 : Cond.code yX3_bowlsOf cX3_bowlsOf 4 (some .int) ∈ LA := la_3 223 rfl rfl
theorem wT3_224 : Cond.methodLink RX3 121 yX3_shelvesOf ∈ LA := la_3 224 rfl rfl
theorem wT3_226 : Cond.instanceMethod yX3_shelvesOf ∈ LA := la_3 226 rfl rfl
theorem wT3_227 : Cond.code yX3_shelvesOf cX3_shelvesOf 5 (some .int) ∈ LA := la_3 227 rfl rfl
theorem wT3_228 : Cond.methodLink RL 97 yX3_place ∈ LA := la_3 228 rfl rfl
theorem wT3_229 : Cond.instanceMethod yX3_place ∈ LA := la_3 229 rfl rfl
theorem wT3_230 : Cond.selects RX3 yX3_place yX3_place ∈ LA := la_3 230 rfl rfl
theorem wT3_231 : Cond.code yX3_place cX3_place 3 (some .int) ∈ LA := la_3 231 rfl rfl
theorem wT3_232 : Cond.methodLink RX3 154 yX3_placeTold ∈ LA := la_3 232 rfl rfl
theorem wT3_234 : Cond.instanceMethod yX3_placeTold ∈ LA := la_3 234 rfl rfl
theorem wT3_235 : Cond.code yX3_placeTold cX3_placeTold 5 (some .int) ∈ LA := la_3 235 rfl rfl
theorem wT3_236 : Cond.methodLink RL 100 yX3_count ∈ LA := la_3 236 rfl rfl
theorem wT3_237 : Cond.instanceMethod yX3_count ∈ LA := la_3 237 rfl rfl
theorem wT3_238 : Cond.selects RX3 yX3_count yX3_count ∈ LA := la_3 238 rfl rfl
theorem wT3_239 : Cond.code yX3_count cX3_count 2 (some .int) ∈ LA := la_3 239 rfl rfl
theorem wT4_0 : Cond.methodLink RX3 160 yX3_counted ∈ LA := la_4 0 rfl rfl
theorem wT4_2 : Cond.instanceMethod yX3_counted ∈ LA := la_4 2 rfl rfl
theorem wT4_3 : Cond.code yX3_counted cX3_counted 2 (some .int) ∈ LA := la_4 3 rfl rfl
theorem wT4_4 : Cond.methodLink RX3 157 yX3_sum ∈ LA := la_4 4 rfl rfl
theorem wT4_6 : Cond.instanceMethod yX3_sum ∈ LA := la_4 6 rfl rfl
theorem wT4_7 : Cond.code yX3_sum cX3_sum 5 (some .int) ∈ LA := la_4 7 rfl rfl
theorem wT4_8 : Cond.methodLink RL 103 yX3_next ∈ LA := la_4 8 rfl rfl
theorem wT4_9 : Cond.instanceMethod yX3_next ∈ LA := la_4 9 rfl rfl
theorem wT4_10 : Cond.selects RX3 yX3_next yX3_next ∈ LA := la_4 10 rfl rfl
theorem wT4_11 : Cond.code yX3_next cX3_next 2 (some .int) ∈ LA := la_4 11 rfl rfl
theorem wT4_12 : Cond.methodLink RX3 163 yX3_spotFor ∈ LA := la_4 12 rfl rfl
theorem wT4_14 : Cond.instanceMethod yX3_spotFor ∈ LA := la_4 14 rfl rfl
theorem wT4_15 : Cond.code yX3_spotFor cX3_spotFor 3 (some .int) ∈ LA := la_4 15 rfl rfl
theorem wT4_16 : Cond.methodLink RL 106 yX3_fits ∈ LA := la_4 16 rfl rfl
theorem wT4_17 : Cond.instanceMethod yX3_fits ∈ LA := la_4 17 rfl rfl
theorem wT4_18 : Cond.selects RX3 yX3_fits yX3_fits ∈ LA := la_4 18 rfl rfl
theorem wT4_19 : Cond.code yX3_fits cX3_fits 2 (some .int) ∈ LA := la_4 19 rfl rfl
theorem wT4_20 : Cond.methodLink RX3 166 yX3_room ∈ LA := la_4 20 rfl rfl
theorem wT4_22 : Cond.instanceMethod yX3_room ∈ LA := la_4 22 rfl rfl
theorem wT4_23 : Cond.code yX3_room cX3_room 2 (some .int) ∈ LA := la_4 23 rfl rfl
theorem wT4_24 : Cond.methodLink RL 109 yX3_would ∈ LA := la_4 24 rfl rfl
theorem wT4_25 : Cond.instanceMethod yX3_would ∈ LA := la_4 25 rfl rfl
theorem wT4_26 : Cond.selects RX3 yX3_would yX3_would ∈ LA := la_4 26 rfl rfl
theorem wT4_27 : Cond.code yX3_would cX3_would 3 (some .int) ∈ LA := la_4 27 rfl rfl
theorem wT4_28 : Cond.methodLink RX3 174 yX3_wouldCome ∈ LA := la_4 28 rfl rfl
theorem wT4_30 : Cond.instanceMethod yX3_wouldCome ∈ LA := la_4 30 rfl rfl
theorem wT4_31 : Cond.code yX3_wouldCome cX3_wouldCome 5 (some .int) ∈ LA := la_4 31 rfl rfl
theorem wT4_32 : Cond.methodLink RX3 169 yJ9_max_7cf53 ∈ LA := la_4 32 rfl rfl
theorem wT4_33 : Cond.static yJ9_max_7cf53 ∈ LA := la_4 33 rfl rfl
theorem wT4_34 : Cond.code yJ9_max_7cf53 cJ9_max_7cf53 2 (some .int) ∈ LA := la_4 34 rfl rfl
theorem wT4_35 : Cond.methodLink RL 112 yX3_gains ∈ LA := la_4 35 rfl rfl
theorem wT4_36 : Cond.instanceMethod yX3_gains ∈ LA := la_4 36 rfl rfl
theorem wT4_37 : Cond.selects RX3 yX3_gains yX3_gains ∈ LA := la_4 37 rfl rfl
theorem wT4_38 : Cond.code yX3_gains cX3_gains 2 (some .int) ∈ LA := la_4 38 rfl rfl
theorem wT4_39 : Cond.methodLink RX3 177 yX3_gained ∈ LA := la_4 39 rfl rfl
theorem wT4_41 : Cond.instanceMethod yX3_gained ∈ LA := la_4 41 rfl rfl
theorem wT4_42 : Cond.code yX3_gained cX3_gained 4 (some .int) ∈ LA := la_4 42 rfl rfl
theorem wT4_43 : Cond.methodLink RX3 115 ⟨"java/lang/System", "arraycopy", "(Ljava/lang/Object;ILjava/lang/Object;II)V"⟩ ∈ LA := la_4 43 rfl rfl
theorem wT4_44 : Cond.static ⟨"java/lang/System", "arraycopy", "(Ljava/lang/Object;ILjava/lang/Object;II)V"⟩ ∈ LA := la_4 44 rfl rfl
theorem wT4_46 : Cond.methodLink RL 116 yX3_advise ∈ LA := la_4 46 rfl rfl
theorem wT4_47 : Cond.instanceMethod yX3_advise ∈ LA := la_4 47 rfl rfl
theorem wT4_48 : Cond.selects RX3 yX3_advise yX3_advise ∈ LA := la_4 48 rfl rfl
theorem wT4_49 : Cond.code yX3_advise cX3_advise 3 (some .int) ∈ LA := la_4 49 rfl rfl
theorem wT4_50 : Cond.methodLink RL 121 yX3_mean ∈ LA := la_4 50 rfl rfl
theorem wT4_51 : Cond.instanceMethod yX3_mean ∈ LA := la_4 51 rfl rfl
theorem wT4_52 : Cond.selects RX3 yX3_mean yX3_mean ∈ LA := la_4 52 rfl rfl
theorem wT4_53 : Cond.code yX3_mean cX3_mean 2 (some .double) ∈ LA := la_4 53 rfl rfl
theorem wT4_54 : Cond.methodLink RL 126 yX3_digest ∈ LA := la_4 54 rfl rfl
theorem wT4_55 : Cond.instanceMethod yX3_digest ∈ LA := la_4 55 rfl rfl
theorem wT4_56 : Cond.selects RX3 yX3_digest yX3_digest ∈ LA := la_4 56 rfl rfl
theorem wT4_57 : Cond.code yX3_digest cX3_digest 5 (some .long) ∈ LA := la_4 57 rfl rfl
theorem wT4_58 : Cond.constantLong RX3 180 (1733 : Int64) ∈ LA := la_4 58 rfl rfl
theorem wT4_59 : Cond.constantLong RX3 182 (31 : Int64) ∈ LA := la_4 59 rfl rfl
theorem wT4_60 : Cond.arrayClass .long ∈ LA := la_4 60 rfl rfl
theorem wP0 : Cond.selects RX2 yX2_gainsOf yX2_gainsOf ∈ LA := la_p 0 rfl rfl
theorem wP1 : Cond.selects RX2 yX2_takenShelves yX2_takenShelves ∈ LA := la_p 1 rfl rfl
theorem wP2 : Cond.selects RX2 yX2_freeShelves yX2_freeShelves ∈ LA := la_p 2 rfl rfl
theorem wP3 : Cond.selects RX2 yX2_bowlsInAll yX2_bowlsInAll ∈ LA := la_p 3 rfl rfl
theorem wP5 : Cond.selects RX2 yX2_spansUnderBowls yX2_spansUnderBowls ∈ LA := la_p 5 rfl rfl
theorem wP6 : Cond.selects RX2 yX2_spansOfNoPlace yX2_spansOfNoPlace ∈ LA := la_p 6 rfl rfl
theorem wP7 : Cond.selects RX2 yX2_mixedWithKind yX2_mixedWithKind ∈ LA := la_p 7 rfl rfl
theorem wP8 : Cond.selects RX2 yX2_answerAbout yX2_answerAbout ∈ LA := la_p 8 rfl rfl
theorem wP9 : Cond.selects RX2 yX2_shelvesOf yX2_shelvesOf ∈ LA := la_p 9 rfl rfl
theorem wP10 : Cond.selects RX2 yX2_shelvesInState yX2_shelvesInState ∈ LA := la_p 10 rfl rfl
theorem wP11 : Cond.selects RX2 yX2_bowlsOf yX2_bowlsOf ∈ LA := la_p 11 rfl rfl
theorem wP12 : Cond.selects RX2 yX2_nextSpot yX2_nextSpot ∈ LA := la_p 12 rfl rfl
theorem wP13 : Cond.selects RX2 yX2_shelfToPut yX2_shelfToPut ∈ LA := la_p 13 rfl rfl
theorem wP14 : Cond.selects RX2 yX2_inUseByWay yX2_inUseByWay ∈ LA := la_p 14 rfl rfl
theorem wP15 : Cond.selects RX2 yX2_mostBowls yX2_mostBowls ∈ LA := la_p 15 rfl rfl
theorem wP16 : Cond.selects RX2 yX2_fewestBowls yX2_fewestBowls ∈ LA := la_p 16 rfl rfl
theorem wP17 : Cond.selects RX2 yX2_firstInState yX2_firstInState ∈ LA := la_p 17 rfl rfl
theorem wP18 : Cond.selects RX2 yX2_firstFree yX2_firstFree ∈ LA := la_p 18 rfl rfl
theorem wP19 : Cond.selects RX2 yX2_kindOf yX2_kindOf ∈ LA := la_p 19 rfl rfl
theorem wP20 : Cond.selects RX2 yX2_shelfAt yX2_shelfAt ∈ LA := la_p 20 rfl rfl
theorem wP21 : Cond.selects RX2 yX2_moveToPack yX2_moveToPack ∈ LA := la_p 21 rfl rfl
theorem wP22 : Cond.selects RX2 yX2_lastFewestBowls yX2_lastFewestBowls ∈ LA := la_p 22 rfl rfl
theorem wP23 : Cond.selects RX2 yX2_gapsOf yX2_gapsOf ∈ LA := la_p 23 rfl rfl
theorem wP24 : Cond.selects RX3 yX3_no yX3_no ∈ LA := la_p 24 rfl rfl
theorem wP25 : Cond.selects RX3 yX3_isKind yX3_isKind ∈ LA := la_p 25 rfl rfl
theorem wP26 : Cond.selects RX3 yX3_shelfFor yX3_shelfFor ∈ LA := la_p 26 rfl rfl
theorem wP27 : Cond.selects RX3 yX3_isUsed yX3_isUsed ∈ LA := la_p 27 rfl rfl
theorem wP28 : Cond.selects RX3 yX3_isFull yX3_isFull ∈ LA := la_p 28 rfl rfl
theorem wP29 : Cond.selects RX3 yX3_many yX3_many ∈ LA := la_p 29 rfl rfl
theorem wP30 : Cond.selects RX3 yX3_places yX3_places ∈ LA := la_p 30 rfl rfl
theorem wP31 : Cond.selects RX3 yX3_isBetter yX3_isBetter ∈ LA := la_p 31 rfl rfl
theorem wP32 : Cond.selects RX3 yX3_isEmpty yX3_isEmpty ∈ LA := la_p 32 rfl rfl
theorem wP33 : Cond.selects RX3 yX3_isFree yX3_isFree ∈ LA := la_p 33 rfl rfl
theorem wP34 : Cond.selects RX3 yX3_placed yX3_placed ∈ LA := la_p 34 rfl rfl
theorem wP35 : Cond.selects RX3 yX3_own yX3_own ∈ LA := la_p 35 rfl rfl
theorem wP36 : Cond.selects RX3 yX3_nextRim yX3_nextRim ∈ LA := la_p 36 rfl rfl
theorem wP37 : Cond.selects RX3 yX3_rest yX3_rest ∈ LA := la_p 37 rfl rfl
theorem wP38 : Cond.selects RX3 yX3_hole yX3_hole ∈ LA := la_p 38 rfl rfl
theorem wP39 : Cond.selects RX3 yX3_spotOf yX3_spotOf ∈ LA := la_p 39 rfl rfl
theorem wP40 : Cond.selects RX3 yX3_placeOf yX3_placeOf ∈ LA := la_p 40 rfl rfl
theorem wP41 : Cond.selects RX3 yX3_packed yX3_packed ∈ LA := la_p 41 rfl rfl
theorem wP42 : Cond.selects RX3 yX3_fewest yX3_fewest ∈ LA := la_p 42 rfl rfl
theorem wP43 : Cond.selects RX3 yX3_most yX3_most ∈ LA := la_p 43 rfl rfl
theorem wP44 : Cond.selects RX3 yX3_move yX3_move ∈ LA := la_p 44 rfl rfl
theorem wP45 : Cond.selects RX3 yX3_shelfTold yX3_shelfTold ∈ LA := la_p 45 rfl rfl
theorem wP46 : Cond.selects RX3 yX3_kindTold yX3_kindTold ∈ LA := la_p 46 rfl rfl
theorem wP47 : Cond.selects RX3 yX3_bowlsOf yX3_bowlsOf ∈ LA := la_p 47 rfl rfl
theorem wP48 : Cond.selects RX3 yX3_shelvesOf yX3_shelvesOf ∈ LA := la_p 48 rfl rfl
theorem wP49 : Cond.selects RX3 yX3_placeTold yX3_placeTold ∈ LA := la_p 49 rfl rfl
theorem wP50 : Cond.selects RX3 yX3_counted yX3_counted ∈ LA := la_p 50 rfl rfl
theorem wP51 : Cond.selects RX3 yX3_sum yX3_sum ∈ LA := la_p 51 rfl rfl
theorem wP52 : Cond.selects RX3 yX3_spotFor yX3_spotFor ∈ LA := la_p 52 rfl rfl
theorem wP53 : Cond.selects RX3 yX3_room yX3_room ∈ LA := la_p 53 rfl rfl
theorem wP54 : Cond.selects RX3 yX3_wouldCome yX3_wouldCome ∈ LA := la_p 54 rfl rfl
theorem wP55 : Cond.selects RX3 yX3_gained yX3_gained ∈ LA := la_p 55 rfl rfl
end
section
theorem dX0_init_0 : decode cX0_init 0 = .ok (.aload_n 0, 1) := by decide +kernel
theorem dX0_init_1 : decode cX0_init 1 = .ok (.invokespecial 3, 3) := by decide +kernel
theorem dX0_init_4 : decode cX0_init 4 = .ok (.aload_n 0, 1) := by decide +kernel
theorem dX0_init_5 : decode cX0_init 5 = .ok (.iconst 0, 1) := by decide +kernel
theorem dX0_init_6 : decode cX0_init 6 = .ok (.putfield 9, 3) := by decide +kernel
theorem dX0_init_9 : decode cX0_init 9 = .ok (.aload_n 0, 1) := by decide +kernel
theorem dX0_init_10 : decode cX0_init 10 = .ok (.iconst 0, 1) := by decide +kernel
theorem dX0_init_11 : decode cX0_init 11 = .ok (.putfield 15, 3) := by decide +kernel
theorem dX0_init_14 : decode cX0_init 14 = .ok (.aload_n 0, 1) := by decide +kernel
theorem dX0_init_15 : decode cX0_init 15 = .ok (.iload_n 1, 1) := by decide +kernel
theorem dX0_init_16 : decode cX0_init 16 = .ok (.putfield 18, 3) := by decide +kernel
theorem dX0_init_19 : decode cX0_init 19 = .ok (.aload_n 0, 1) := by decide +kernel
theorem dX0_init_20 : decode cX0_init 20 = .ok (.iload_n 2, 1) := by decide +kernel
theorem dX0_init_21 : decode cX0_init 21 = .ok (.putfield 21, 3) := by decide +kernel
theorem dX0_init_24 : decode cX0_init 24 = .ok (.aload_n 0, 1) := by decide +kernel
theorem dX0_init_25 : decode cX0_init 25 = .ok (.iload_n 2, 1) := by decide +kernel
theorem dX0_init_26 : decode cX0_init 26 = .ok (.iconst 1, 1) := by decide +kernel
theorem dX0_init_27 : decode cX0_init 27 = .ok (.if_icmp .ge 7, 3) := by decide +kernel
theorem dX0_init_30 : decode cX0_init 30 = .ok (.iconst 0, 1) := by decide +kernel
theorem dX0_init_31 : decode cX0_init 31 = .ok (.goto 7, 3) := by decide +kernel
theorem dX0_init_34 : decode cX0_init 34 = .ok (.bipush 24, 2) := by decide +kernel
theorem dX0_init_36 : decode cX0_init 36 = .ok (.iload_n 2, 1) := by decide +kernel
theorem dX0_init_37 : decode cX0_init 37 = .ok (.idiv, 1) := by decide +kernel
theorem dX0_init_38 : decode cX0_init 38 = .ok (.putfield 24, 3) := by decide +kernel
theorem dX0_init_41 : decode cX0_init 41 = .ok (.aload_n 0, 1) := by decide +kernel
theorem dX0_init_42 : decode cX0_init 42 = .ok (.bipush 24, 2) := by decide +kernel
theorem dX0_init_44 : decode cX0_init 44 = .ok (.aload_n 0, 1) := by decide +kernel
theorem dX0_init_45 : decode cX0_init 45 = .ok (.getfield 24, 3) := by decide +kernel
theorem dX0_init_48 : decode cX0_init 48 = .ok (.iload_n 2, 1) := by decide +kernel
theorem dX0_init_49 : decode cX0_init 49 = .ok (.imul, 1) := by decide +kernel
theorem dX0_init_50 : decode cX0_init 50 = .ok (.isub, 1) := by decide +kernel
theorem dX0_init_51 : decode cX0_init 51 = .ok (.putfield 27, 3) := by decide +kernel
theorem dX0_init_54 : decode cX0_init 54 = .ok (.return_, 1) := by decide +kernel
theorem dX0_countShelf_0 : decode cX0_countShelf 0 = .ok (.aload_n 0, 1) := by decide +kernel
theorem dX0_countShelf_1 : decode cX0_countShelf 1 = .ok (.dup, 1) := by decide +kernel
theorem dX0_countShelf_2 : decode cX0_countShelf 2 = .ok (.getfield 9, 3) := by decide +kernel
theorem dX0_countShelf_5 : decode cX0_countShelf 5 = .ok (.iconst 1, 1) := by decide +kernel
theorem dX0_countShelf_6 : decode cX0_countShelf 6 = .ok (.iadd, 1) := by decide +kernel
theorem dX0_countShelf_7 : decode cX0_countShelf 7 = .ok (.putfield 9, 3) := by decide +kernel
theorem dX0_countShelf_10 : decode cX0_countShelf 10 = .ok (.aload_n 0, 1) := by decide +kernel
theorem dX0_countShelf_11 : decode cX0_countShelf 11 = .ok (.aload_n 0, 1) := by decide +kernel
theorem dX0_countShelf_12 : decode cX0_countShelf 12 = .ok (.getfield 15, 3) := by decide +kernel
theorem dX0_countShelf_15 : decode cX0_countShelf 15 = .ok (.aload_n 0, 1) := by decide +kernel
theorem dX0_countShelf_16 : decode cX0_countShelf 16 = .ok (.getfield 27, 3) := by decide +kernel
theorem dX0_countShelf_19 : decode cX0_countShelf 19 = .ok (.if_icmp .ge 12, 3) := by decide +kernel
theorem dX0_countShelf_22 : decode cX0_countShelf 22 = .ok (.aload_n 0, 1) := by decide +kernel
theorem dX0_countShelf_23 : decode cX0_countShelf 23 = .ok (.getfield 15, 3) := by decide +kernel
theorem dX0_countShelf_26 : decode cX0_countShelf 26 = .ok (.iconst 1, 1) := by decide +kernel
theorem dX0_countShelf_27 : decode cX0_countShelf 27 = .ok (.iadd, 1) := by decide +kernel
theorem dX0_countShelf_28 : decode cX0_countShelf 28 = .ok (.goto 4, 3) := by decide +kernel
theorem dX0_countShelf_31 : decode cX0_countShelf 31 = .ok (.iconst 0, 1) := by decide +kernel
theorem dX0_countShelf_32 : decode cX0_countShelf 32 = .ok (.putfield 15, 3) := by decide +kernel
theorem dX0_countShelf_35 : decode cX0_countShelf 35 = .ok (.return_, 1) := by decide +kernel
theorem dX0_shelvesFor_0 : decode cX0_shelvesFor 0 = .ok (.aload_n 0, 1) := by decide +kernel
theorem dX0_shelvesFor_1 : decode cX0_shelvesFor 1 = .ok (.getfield 24, 3) := by decide +kernel
theorem dX0_shelvesFor_4 : decode cX0_shelvesFor 4 = .ok (.iconst 1, 1) := by decide +kernel
theorem dX0_shelvesFor_5 : decode cX0_shelvesFor 5 = .ok (.if_icmp .ge 7, 3) := by decide +kernel
theorem dX0_shelvesFor_8 : decode cX0_shelvesFor 8 = .ok (.iconst 0, 1) := by decide +kernel
theorem dX0_shelvesFor_9 : decode cX0_shelvesFor 9 = .ok (.goto 16, 3) := by decide +kernel
theorem dX0_shelvesFor_12 : decode cX0_shelvesFor 12 = .ok (.iload_n 1, 1) := by decide +kernel
theorem dX0_shelvesFor_13 : decode cX0_shelvesFor 13 = .ok (.aload_n 0, 1) := by decide +kernel
theorem dX0_shelvesFor_14 : decode cX0_shelvesFor 14 = .ok (.getfield 24, 3) := by decide +kernel
theorem dX0_shelvesFor_17 : decode cX0_shelvesFor 17 = .ok (.iadd, 1) := by decide +kernel
theorem dX0_shelvesFor_18 : decode cX0_shelvesFor 18 = .ok (.iconst 1, 1) := by decide +kernel
theorem dX0_shelvesFor_19 : decode cX0_shelvesFor 19 = .ok (.isub, 1) := by decide +kernel
theorem dX0_shelvesFor_20 : decode cX0_shelvesFor 20 = .ok (.aload_n 0, 1) := by decide +kernel
theorem dX0_shelvesFor_21 : decode cX0_shelvesFor 21 = .ok (.getfield 24, 3) := by decide +kernel
theorem dX0_shelvesFor_24 : decode cX0_shelvesFor 24 = .ok (.idiv, 1) := by decide +kernel
theorem dX0_shelvesFor_25 : decode cX0_shelvesFor 25 = .ok (.ireturn, 1) := by decide +kernel
theorem dX1_init_0 : decode cX1_init 0 = .ok (.aload_n 0, 1) := by decide +kernel
theorem dX1_init_1 : decode cX1_init 1 = .ok (.invokespecial 3, 3) := by decide +kernel
theorem dX1_init_4 : decode cX1_init 4 = .ok (.aload_n 0, 1) := by decide +kernel
theorem dX1_init_5 : decode cX1_init 5 = .ok (.bipush 12, 2) := by decide +kernel
theorem dX1_init_7 : decode cX1_init 7 = .ok (.newarray .boolean, 2) := by decide +kernel
theorem dX1_init_9 : decode cX1_init 9 = .ok (.putfield 9, 3) := by decide +kernel
theorem dX1_init_12 : decode cX1_init 12 = .ok (.aload_n 0, 1) := by decide +kernel
theorem dX1_init_13 : decode cX1_init 13 = .ok (.iconst (-1), 1) := by decide +kernel
theorem dX1_init_14 : decode cX1_init 14 = .ok (.putfield 15, 3) := by decide +kernel
theorem dX1_init_17 : decode cX1_init 17 = .ok (.aload_n 0, 1) := by decide +kernel
theorem dX1_init_18 : decode cX1_init 18 = .ok (.iconst 0, 1) := by decide +kernel
theorem dX1_init_19 : decode cX1_init 19 = .ok (.putfield 19, 3) := by decide +kernel
theorem dX1_init_22 : decode cX1_init 22 = .ok (.aload_n 0, 1) := by decide +kernel
theorem dX1_init_23 : decode cX1_init 23 = .ok (.iconst 0, 1) := by decide +kernel
theorem dX1_init_24 : decode cX1_init 24 = .ok (.putfield 22, 3) := by decide +kernel
theorem dX1_init_27 : decode cX1_init 27 = .ok (.aload_n 0, 1) := by decide +kernel
theorem dX1_init_28 : decode cX1_init 28 = .ok (.iconst 0, 1) := by decide +kernel
theorem dX1_init_29 : decode cX1_init 29 = .ok (.putfield 25, 3) := by decide +kernel
theorem dX1_init_32 : decode cX1_init 32 = .ok (.aload_n 0, 1) := by decide +kernel
theorem dX1_init_33 : decode cX1_init 33 = .ok (.iconst 0, 1) := by decide +kernel
theorem dX1_init_34 : decode cX1_init 34 = .ok (.putfield 28, 3) := by decide +kernel
theorem dX1_init_37 : decode cX1_init 37 = .ok (.aload_n 0, 1) := by decide +kernel
theorem dX1_init_38 : decode cX1_init 38 = .ok (.iconst (-1), 1) := by decide +kernel
theorem dX1_init_39 : decode cX1_init 39 = .ok (.putfield 31, 3) := by decide +kernel
theorem dX1_init_42 : decode cX1_init 42 = .ok (.aload_n 0, 1) := by decide +kernel
theorem dX1_init_43 : decode cX1_init 43 = .ok (.iload_n 1, 1) := by decide +kernel
theorem dX1_init_44 : decode cX1_init 44 = .ok (.putfield 34, 3) := by decide +kernel
theorem dX1_init_47 : decode cX1_init 47 = .ok (.return_, 1) := by decide +kernel
theorem dX1_answer_0 : decode cX1_answer 0 = .ok (.iload_n 1, 1) := by decide +kernel
theorem dX1_answer_1 : decode cX1_answer 1 = .ok (.tableswitch 60 0 4 #[35, 40, 45, 50, 55], 35) := by decide +kernel
theorem dX1_answer_36 : decode cX1_answer 36 = .ok (.aload_n 0, 1) := by decide +kernel
theorem dX1_answer_37 : decode cX1_answer 37 = .ok (.getfield 15, 3) := by decide +kernel
theorem dX1_answer_40 : decode cX1_answer 40 = .ok (.ireturn, 1) := by decide +kernel
theorem dX1_answer_41 : decode cX1_answer 41 = .ok (.aload_n 0, 1) := by decide +kernel
theorem dX1_answer_42 : decode cX1_answer 42 = .ok (.getfield 28, 3) := by decide +kernel
theorem dX1_answer_45 : decode cX1_answer 45 = .ok (.ireturn, 1) := by decide +kernel
theorem dX1_answer_46 : decode cX1_answer 46 = .ok (.aload_n 0, 1) := by decide +kernel
theorem dX1_answer_47 : decode cX1_answer 47 = .ok (.getfield 25, 3) := by decide +kernel
theorem dX1_answer_50 : decode cX1_answer 50 = .ok (.ireturn, 1) := by decide +kernel
theorem dX1_answer_51 : decode cX1_answer 51 = .ok (.aload_n 0, 1) := by decide +kernel
theorem dX1_answer_52 : decode cX1_answer 52 = .ok (.getfield 22, 3) := by decide +kernel
theorem dX1_answer_55 : decode cX1_answer 55 = .ok (.ireturn, 1) := by decide +kernel
theorem dX1_answer_56 : decode cX1_answer 56 = .ok (.aload_n 0, 1) := by decide +kernel
theorem dX1_answer_57 : decode cX1_answer 57 = .ok (.invokevirtual 37, 3) := by decide +kernel
theorem dX1_answer_60 : decode cX1_answer 60 = .ok (.ireturn, 1) := by decide +kernel
theorem dX1_answer_61 : decode cX1_answer 61 = .ok (.aload_n 0, 1) := by decide +kernel
theorem dX1_answer_62 : decode cX1_answer 62 = .ok (.getfield 31, 3) := by decide +kernel
theorem dX1_answer_65 : decode cX1_answer 65 = .ok (.ireturn, 1) := by decide +kernel
theorem dX1_state_0 : decode cX1_state 0 = .ok (.aload_n 0, 1) := by decide +kernel
theorem dX1_state_1 : decode cX1_state 1 = .ok (.getfield 15, 3) := by decide +kernel
theorem dX1_state_4 : decode cX1_state 4 = .ok (.iconst (-1), 1) := by decide +kernel
theorem dX1_state_5 : decode cX1_state 5 = .ok (.if_icmp .ne 5, 3) := by decide +kernel
theorem dX1_state_8 : decode cX1_state 8 = .ok (.iconst 0, 1) := by decide +kernel
theorem dX1_state_9 : decode cX1_state 9 = .ok (.ireturn, 1) := by decide +kernel
theorem dX1_state_10 : decode cX1_state 10 = .ok (.aload_n 0, 1) := by decide +kernel
theorem dX1_state_11 : decode cX1_state 11 = .ok (.getfield 28, 3) := by decide +kernel
theorem dX1_state_14 : decode cX1_state 14 = .ok (.ifCond .ne 5, 3) := by decide +kernel
theorem dX1_state_17 : decode cX1_state 17 = .ok (.iconst 1, 1) := by decide +kernel
theorem dX1_state_18 : decode cX1_state 18 = .ok (.ireturn, 1) := by decide +kernel
theorem dX1_state_19 : decode cX1_state 19 = .ok (.aload_n 0, 1) := by decide +kernel
theorem dX1_state_20 : decode cX1_state 20 = .ok (.getfield 28, 3) := by decide +kernel
theorem dX1_state_23 : decode cX1_state 23 = .ok (.aload_n 0, 1) := by decide +kernel
theorem dX1_state_24 : decode cX1_state 24 = .ok (.getfield 22, 3) := by decide +kernel
theorem dX1_state_27 : decode cX1_state 27 = .ok (.if_icmp .ge 7, 3) := by decide +kernel
theorem dX1_state_30 : decode cX1_state 30 = .ok (.iconst 2, 1) := by decide +kernel
theorem dX1_state_31 : decode cX1_state 31 = .ok (.goto 4, 3) := by decide +kernel
theorem dX1_state_34 : decode cX1_state 34 = .ok (.iconst 3, 1) := by decide +kernel
theorem dX1_state_35 : decode cX1_state 35 = .ok (.ireturn, 1) := by decide +kernel
theorem dX1_isOf_0 : decode cX1_isOf 0 = .ok (.aload_n 0, 1) := by decide +kernel
theorem dX1_isOf_1 : decode cX1_isOf 1 = .ok (.getfield 15, 3) := by decide +kernel
theorem dX1_isOf_4 : decode cX1_isOf 4 = .ok (.aload_n 1, 1) := by decide +kernel
theorem dX1_isOf_5 : decode cX1_isOf 5 = .ok (.getfield 41, 3) := by decide +kernel
theorem dX1_isOf_8 : decode cX1_isOf 8 = .ok (.if_icmp .ne 7, 3) := by decide +kernel
theorem dX1_isOf_11 : decode cX1_isOf 11 = .ok (.iconst 1, 1) := by decide +kernel
theorem dX1_isOf_12 : decode cX1_isOf 12 = .ok (.goto 4, 3) := by decide +kernel
theorem dX1_isOf_15 : decode cX1_isOf 15 = .ok (.iconst 0, 1) := by decide +kernel
theorem dX1_isOf_16 : decode cX1_isOf 16 = .ok (.ireturn, 1) := by decide +kernel
theorem dX1_comeTo_0 : decode cX1_comeTo 0 = .ok (.aload_n 0, 1) := by decide +kernel
theorem dX1_comeTo_1 : decode cX1_comeTo 1 = .ok (.aload_n 1, 1) := by decide +kernel
theorem dX1_comeTo_2 : decode cX1_comeTo 2 = .ok (.getfield 41, 3) := by decide +kernel
theorem dX1_comeTo_5 : decode cX1_comeTo 5 = .ok (.putfield 15, 3) := by decide +kernel
theorem dX1_comeTo_8 : decode cX1_comeTo 8 = .ok (.aload_n 0, 1) := by decide +kernel
theorem dX1_comeTo_9 : decode cX1_comeTo 9 = .ok (.aload_n 1, 1) := by decide +kernel
theorem dX1_comeTo_10 : decode cX1_comeTo 10 = .ok (.getfield 46, 3) := by decide +kernel
theorem dX1_comeTo_13 : decode cX1_comeTo 13 = .ok (.putfield 19, 3) := by decide +kernel
theorem dX1_comeTo_16 : decode cX1_comeTo 16 = .ok (.aload_n 0, 1) := by decide +kernel
theorem dX1_comeTo_17 : decode cX1_comeTo 17 = .ok (.aload_n 1, 1) := by decide +kernel
theorem dX1_comeTo_18 : decode cX1_comeTo 18 = .ok (.getfield 47, 3) := by decide +kernel
theorem dX1_comeTo_21 : decode cX1_comeTo 21 = .ok (.putfield 22, 3) := by decide +kernel
theorem dX1_comeTo_24 : decode cX1_comeTo 24 = .ok (.aload_n 0, 1) := by decide +kernel
theorem dX1_comeTo_25 : decode cX1_comeTo 25 = .ok (.aload_n 1, 1) := by decide +kernel
theorem dX1_comeTo_26 : decode cX1_comeTo 26 = .ok (.getfield 48, 3) := by decide +kernel
theorem dX1_comeTo_29 : decode cX1_comeTo 29 = .ok (.putfield 25, 3) := by decide +kernel
theorem dX1_comeTo_32 : decode cX1_comeTo 32 = .ok (.aload_n 1, 1) := by decide +kernel
theorem dX1_comeTo_33 : decode cX1_comeTo 33 = .ok (.invokevirtual 51, 3) := by decide +kernel
theorem dX1_comeTo_36 : decode cX1_comeTo 36 = .ok (.return_, 1) := by decide +kernel
theorem dX1_becomeFree_0 : decode cX1_becomeFree 0 = .ok (.aload_n 0, 1) := by decide +kernel
theorem dX1_becomeFree_1 : decode cX1_becomeFree 1 = .ok (.iconst (-1), 1) := by decide +kernel
theorem dX1_becomeFree_2 : decode cX1_becomeFree 2 = .ok (.putfield 15, 3) := by decide +kernel
theorem dX1_becomeFree_5 : decode cX1_becomeFree 5 = .ok (.aload_n 0, 1) := by decide +kernel
theorem dX1_becomeFree_6 : decode cX1_becomeFree 6 = .ok (.iconst 0, 1) := by decide +kernel
theorem dX1_becomeFree_7 : decode cX1_becomeFree 7 = .ok (.putfield 19, 3) := by decide +kernel
theorem dX1_becomeFree_10 : decode cX1_becomeFree 10 = .ok (.aload_n 0, 1) := by decide +kernel
theorem dX1_becomeFree_11 : decode cX1_becomeFree 11 = .ok (.iconst 0, 1) := by decide +kernel
theorem dX1_becomeFree_12 : decode cX1_becomeFree 12 = .ok (.putfield 22, 3) := by decide +kernel
theorem dX1_becomeFree_15 : decode cX1_becomeFree 15 = .ok (.aload_n 0, 1) := by decide +kernel
theorem dX1_becomeFree_16 : decode cX1_becomeFree 16 = .ok (.iconst 0, 1) := by decide +kernel
theorem dX1_becomeFree_17 : decode cX1_becomeFree 17 = .ok (.putfield 25, 3) := by decide +kernel
theorem dX1_becomeFree_20 : decode cX1_becomeFree 20 = .ok (.aload_n 0, 1) := by decide +kernel
theorem dX1_becomeFree_21 : decode cX1_becomeFree 21 = .ok (.iconst (-1), 1) := by decide +kernel
theorem dX1_becomeFree_22 : decode cX1_becomeFree 22 = .ok (.putfield 31, 3) := by decide +kernel
theorem dX1_becomeFree_25 : decode cX1_becomeFree 25 = .ok (.return_, 1) := by decide +kernel
theorem dX1_standsOn_0 : decode cX1_standsOn 0 = .ok (.iload_n 1, 1) := by decide +kernel
theorem dX1_standsOn_1 : decode cX1_standsOn 1 = .ok (.ifCond .lt 25, 3) := by decide +kernel
theorem dX1_standsOn_4 : decode cX1_standsOn 4 = .ok (.iload_n 1, 1) := by decide +kernel
theorem dX1_standsOn_5 : decode cX1_standsOn 5 = .ok (.aload_n 0, 1) := by decide +kernel
theorem dX1_standsOn_6 : decode cX1_standsOn 6 = .ok (.getfield 9, 3) := by decide +kernel
theorem dX1_standsOn_9 : decode cX1_standsOn 9 = .ok (.arraylength, 1) := by decide +kernel
theorem dX1_standsOn_10 : decode cX1_standsOn 10 = .ok (.if_icmp .ge 16, 3) := by decide +kernel
theorem dX1_standsOn_13 : decode cX1_standsOn 13 = .ok (.aload_n 0, 1) := by decide +kernel
theorem dX1_standsOn_14 : decode cX1_standsOn 14 = .ok (.getfield 9, 3) := by decide +kernel
theorem dX1_standsOn_17 : decode cX1_standsOn 17 = .ok (.iload_n 1, 1) := by decide +kernel
theorem dX1_standsOn_18 : decode cX1_standsOn 18 = .ok (.baload, 1) := by decide +kernel
theorem dX1_standsOn_19 : decode cX1_standsOn 19 = .ok (.ifCond .eq 7, 3) := by decide +kernel
theorem dX1_standsOn_22 : decode cX1_standsOn 22 = .ok (.iconst 1, 1) := by decide +kernel
theorem dX1_standsOn_23 : decode cX1_standsOn 23 = .ok (.goto 4, 3) := by decide +kernel
theorem dX1_standsOn_26 : decode cX1_standsOn 26 = .ok (.iconst 0, 1) := by decide +kernel
theorem dX1_standsOn_27 : decode cX1_standsOn 27 = .ok (.ireturn, 1) := by decide +kernel
theorem dX1_addBowl_0 : decode cX1_addBowl 0 = .ok (.iload_n 1, 1) := by decide +kernel
theorem dX1_addBowl_1 : decode cX1_addBowl 1 = .ok (.ifCond .lt 34, 3) := by decide +kernel
theorem dX1_addBowl_4 : decode cX1_addBowl 4 = .ok (.iload_n 1, 1) := by decide +kernel
theorem dX1_addBowl_5 : decode cX1_addBowl 5 = .ok (.aload_n 0, 1) := by decide +kernel
theorem dX1_addBowl_6 : decode cX1_addBowl 6 = .ok (.getfield 9, 3) := by decide +kernel
theorem dX1_addBowl_9 : decode cX1_addBowl 9 = .ok (.arraylength, 1) := by decide +kernel
theorem dX1_addBowl_10 : decode cX1_addBowl 10 = .ok (.if_icmp .ge 25, 3) := by decide +kernel
theorem dX1_addBowl_13 : decode cX1_addBowl 13 = .ok (.aload_n 0, 1) := by decide +kernel
theorem dX1_addBowl_14 : decode cX1_addBowl 14 = .ok (.getfield 9, 3) := by decide +kernel
theorem dX1_addBowl_17 : decode cX1_addBowl 17 = .ok (.iload_n 1, 1) := by decide +kernel
theorem dX1_addBowl_18 : decode cX1_addBowl 18 = .ok (.iconst 1, 1) := by decide +kernel
theorem dX1_addBowl_19 : decode cX1_addBowl 19 = .ok (.bastore, 1) := by decide +kernel
theorem dX1_addBowl_20 : decode cX1_addBowl 20 = .ok (.aload_n 0, 1) := by decide +kernel
theorem dX1_addBowl_21 : decode cX1_addBowl 21 = .ok (.dup, 1) := by decide +kernel
theorem dX1_addBowl_22 : decode cX1_addBowl 22 = .ok (.getfield 28, 3) := by decide +kernel
theorem dX1_addBowl_25 : decode cX1_addBowl 25 = .ok (.iconst 1, 1) := by decide +kernel
theorem dX1_addBowl_26 : decode cX1_addBowl 26 = .ok (.iadd, 1) := by decide +kernel
theorem dX1_addBowl_27 : decode cX1_addBowl 27 = .ok (.putfield 28, 3) := by decide +kernel
theorem dX1_addBowl_30 : decode cX1_addBowl 30 = .ok (.aload_n 0, 1) := by decide +kernel
theorem dX1_addBowl_31 : decode cX1_addBowl 31 = .ok (.iconst (-1), 1) := by decide +kernel
theorem dX1_addBowl_32 : decode cX1_addBowl 32 = .ok (.putfield 31, 3) := by decide +kernel
theorem dX1_addBowl_35 : decode cX1_addBowl 35 = .ok (.return_, 1) := by decide +kernel
theorem dX1_removeBowl_0 : decode cX1_removeBowl 0 = .ok (.iload_n 1, 1) := by decide +kernel
theorem dX1_removeBowl_1 : decode cX1_removeBowl 1 = .ok (.ifCond .lt 45, 3) := by decide +kernel
theorem dX1_removeBowl_4 : decode cX1_removeBowl 4 = .ok (.iload_n 1, 1) := by decide +kernel
theorem dX1_removeBowl_5 : decode cX1_removeBowl 5 = .ok (.aload_n 0, 1) := by decide +kernel
theorem dX1_removeBowl_6 : decode cX1_removeBowl 6 = .ok (.getfield 9, 3) := by decide +kernel
theorem dX1_removeBowl_9 : decode cX1_removeBowl 9 = .ok (.arraylength, 1) := by decide +kernel
theorem dX1_removeBowl_10 : decode cX1_removeBowl 10 = .ok (.if_icmp .ge 36, 3) := by decide +kernel
theorem dX1_removeBowl_13 : decode cX1_removeBowl 13 = .ok (.aload_n 0, 1) := by decide +kernel
theorem dX1_removeBowl_14 : decode cX1_removeBowl 14 = .ok (.getfield 9, 3) := by decide +kernel
theorem dX1_removeBowl_17 : decode cX1_removeBowl 17 = .ok (.iload_n 1, 1) := by decide +kernel
theorem dX1_removeBowl_18 : decode cX1_removeBowl 18 = .ok (.iconst 0, 1) := by decide +kernel
theorem dX1_removeBowl_19 : decode cX1_removeBowl 19 = .ok (.bastore, 1) := by decide +kernel
theorem dX1_removeBowl_20 : decode cX1_removeBowl 20 = .ok (.aload_n 0, 1) := by decide +kernel
theorem dX1_removeBowl_21 : decode cX1_removeBowl 21 = .ok (.dup, 1) := by decide +kernel
theorem dX1_removeBowl_22 : decode cX1_removeBowl 22 = .ok (.getfield 28, 3) := by decide +kernel
theorem dX1_removeBowl_25 : decode cX1_removeBowl 25 = .ok (.iconst 1, 1) := by decide +kernel
theorem dX1_removeBowl_26 : decode cX1_removeBowl 26 = .ok (.isub, 1) := by decide +kernel
theorem dX1_removeBowl_27 : decode cX1_removeBowl 27 = .ok (.putfield 28, 3) := by decide +kernel
theorem dX1_removeBowl_30 : decode cX1_removeBowl 30 = .ok (.aload_n 0, 1) := by decide +kernel
theorem dX1_removeBowl_31 : decode cX1_removeBowl 31 = .ok (.aload_n 0, 1) := by decide +kernel
theorem dX1_removeBowl_32 : decode cX1_removeBowl 32 = .ok (.getfield 28, 3) := by decide +kernel
theorem dX1_removeBowl_35 : decode cX1_removeBowl 35 = .ok (.ifCond .ne 7, 3) := by decide +kernel
theorem dX1_removeBowl_38 : decode cX1_removeBowl 38 = .ok (.iload_n 2, 1) := by decide +kernel
theorem dX1_removeBowl_39 : decode cX1_removeBowl 39 = .ok (.goto 4, 3) := by decide +kernel
theorem dX1_removeBowl_42 : decode cX1_removeBowl 42 = .ok (.iconst (-1), 1) := by decide +kernel
theorem dX1_removeBowl_43 : decode cX1_removeBowl 43 = .ok (.putfield 31, 3) := by decide +kernel
theorem dX1_removeBowl_46 : decode cX1_removeBowl 46 = .ok (.return_, 1) := by decide +kernel
theorem dX1_firstGap_0 : decode cX1_firstGap 0 = .ok (.iconst 0, 1) := by decide +kernel
theorem dX1_firstGap_1 : decode cX1_firstGap 1 = .ok (.istore_n 1, 1) := by decide +kernel
theorem dX1_firstGap_2 : decode cX1_firstGap 2 = .ok (.iload_n 1, 1) := by decide +kernel
theorem dX1_firstGap_3 : decode cX1_firstGap 3 = .ok (.aload_n 0, 1) := by decide +kernel
theorem dX1_firstGap_4 : decode cX1_firstGap 4 = .ok (.getfield 22, 3) := by decide +kernel
theorem dX1_firstGap_7 : decode cX1_firstGap 7 = .ok (.if_icmp .ge 19, 3) := by decide +kernel
theorem dX1_firstGap_10 : decode cX1_firstGap 10 = .ok (.aload_n 0, 1) := by decide +kernel
theorem dX1_firstGap_11 : decode cX1_firstGap 11 = .ok (.iload_n 1, 1) := by decide +kernel
theorem dX1_firstGap_12 : decode cX1_firstGap 12 = .ok (.invokevirtual 54, 3) := by decide +kernel
theorem dX1_firstGap_15 : decode cX1_firstGap 15 = .ok (.ifCond .ne 5, 3) := by decide +kernel
theorem dX1_firstGap_18 : decode cX1_firstGap 18 = .ok (.iload_n 1, 1) := by decide +kernel
theorem dX1_firstGap_19 : decode cX1_firstGap 19 = .ok (.ireturn, 1) := by decide +kernel
theorem dX1_firstGap_20 : decode cX1_firstGap 20 = .ok (.iinc 1 1, 3) := by decide +kernel
theorem dX1_firstGap_23 : decode cX1_firstGap 23 = .ok (.goto (-21), 3) := by decide +kernel
theorem dX1_firstGap_26 : decode cX1_firstGap 26 = .ok (.iconst (-1), 1) := by decide +kernel
theorem dX1_firstGap_27 : decode cX1_firstGap 27 = .ok (.ireturn, 1) := by decide +kernel
theorem dX1_lastBowl_0 : decode cX1_lastBowl 0 = .ok (.aload_n 0, 1) := by decide +kernel
theorem dX1_lastBowl_1 : decode cX1_lastBowl 1 = .ok (.getfield 22, 3) := by decide +kernel
theorem dX1_lastBowl_4 : decode cX1_lastBowl 4 = .ok (.iconst 1, 1) := by decide +kernel
theorem dX1_lastBowl_5 : decode cX1_lastBowl 5 = .ok (.isub, 1) := by decide +kernel
theorem dX1_lastBowl_6 : decode cX1_lastBowl 6 = .ok (.istore_n 1, 1) := by decide +kernel
theorem dX1_lastBowl_7 : decode cX1_lastBowl 7 = .ok (.iload_n 1, 1) := by decide +kernel
theorem dX1_lastBowl_8 : decode cX1_lastBowl 8 = .ok (.ifCond .lt 19, 3) := by decide +kernel
theorem dX1_lastBowl_11 : decode cX1_lastBowl 11 = .ok (.aload_n 0, 1) := by decide +kernel
theorem dX1_lastBowl_12 : decode cX1_lastBowl 12 = .ok (.iload_n 1, 1) := by decide +kernel
theorem dX1_lastBowl_13 : decode cX1_lastBowl 13 = .ok (.invokevirtual 54, 3) := by decide +kernel
theorem dX1_lastBowl_16 : decode cX1_lastBowl 16 = .ok (.ifCond .eq 5, 3) := by decide +kernel
theorem dX1_lastBowl_19 : decode cX1_lastBowl 19 = .ok (.iload_n 1, 1) := by decide +kernel
theorem dX1_lastBowl_20 : decode cX1_lastBowl 20 = .ok (.ireturn, 1) := by decide +kernel
theorem dX1_lastBowl_21 : decode cX1_lastBowl 21 = .ok (.iinc 1 (-1), 3) := by decide +kernel
theorem dX1_lastBowl_24 : decode cX1_lastBowl 24 = .ok (.goto (-17), 3) := by decide +kernel
theorem dX1_lastBowl_27 : decode cX1_lastBowl 27 = .ok (.iconst (-1), 1) := by decide +kernel
theorem dX1_lastBowl_28 : decode cX1_lastBowl 28 = .ok (.ireturn, 1) := by decide +kernel
theorem dX1_beginOf_0 : decode cX1_beginOf 0 = .ok (.aload_n 0, 1) := by decide +kernel
theorem dX1_beginOf_1 : decode cX1_beginOf 1 = .ok (.getfield 34, 3) := by decide +kernel
theorem dX1_beginOf_4 : decode cX1_beginOf 4 = .ok (.aload_n 0, 1) := by decide +kernel
theorem dX1_beginOf_5 : decode cX1_beginOf 5 = .ok (.getfield 25, 3) := by decide +kernel
theorem dX1_beginOf_8 : decode cX1_beginOf 8 = .ok (.iadd, 1) := by decide +kernel
theorem dX1_beginOf_9 : decode cX1_beginOf 9 = .ok (.iload_n 1, 1) := by decide +kernel
theorem dX1_beginOf_10 : decode cX1_beginOf 10 = .ok (.aload_n 0, 1) := by decide +kernel
theorem dX1_beginOf_11 : decode cX1_beginOf 11 = .ok (.getfield 19, 3) := by decide +kernel
theorem dX1_beginOf_14 : decode cX1_beginOf 14 = .ok (.imul, 1) := by decide +kernel
theorem dX1_beginOf_15 : decode cX1_beginOf 15 = .ok (.iadd, 1) := by decide +kernel
theorem dX1_beginOf_16 : decode cX1_beginOf 16 = .ok (.ireturn, 1) := by decide +kernel
theorem dX1_placeAt_0 : decode cX1_placeAt 0 = .ok (.iload_n 1, 1) := by decide +kernel
theorem dX1_placeAt_1 : decode cX1_placeAt 1 = .ok (.aload_n 0, 1) := by decide +kernel
theorem dX1_placeAt_2 : decode cX1_placeAt 2 = .ok (.getfield 34, 3) := by decide +kernel
theorem dX1_placeAt_5 : decode cX1_placeAt 5 = .ok (.isub, 1) := by decide +kernel
theorem dX1_placeAt_6 : decode cX1_placeAt 6 = .ok (.aload_n 0, 1) := by decide +kernel
theorem dX1_placeAt_7 : decode cX1_placeAt 7 = .ok (.getfield 25, 3) := by decide +kernel
theorem dX1_placeAt_10 : decode cX1_placeAt 10 = .ok (.isub, 1) := by decide +kernel
theorem dX1_placeAt_11 : decode cX1_placeAt 11 = .ok (.istore_n 2, 1) := by decide +kernel
theorem dX1_placeAt_12 : decode cX1_placeAt 12 = .ok (.aload_n 0, 1) := by decide +kernel
theorem dX1_placeAt_13 : decode cX1_placeAt 13 = .ok (.getfield 19, 3) := by decide +kernel
theorem dX1_placeAt_16 : decode cX1_placeAt 16 = .ok (.iconst 1, 1) := by decide +kernel
theorem dX1_placeAt_17 : decode cX1_placeAt 17 = .ok (.if_icmp .lt 20, 3) := by decide +kernel
theorem dX1_placeAt_20 : decode cX1_placeAt 20 = .ok (.iload_n 2, 1) := by decide +kernel
theorem dX1_placeAt_21 : decode cX1_placeAt 21 = .ok (.ifCond .lt 16, 3) := by decide +kernel
theorem dX1_placeAt_24 : decode cX1_placeAt 24 = .ok (.iload_n 2, 1) := by decide +kernel
theorem dX1_placeAt_25 : decode cX1_placeAt 25 = .ok (.aload_n 0, 1) := by decide +kernel
theorem dX1_placeAt_26 : decode cX1_placeAt 26 = .ok (.getfield 22, 3) := by decide +kernel
theorem dX1_placeAt_29 : decode cX1_placeAt 29 = .ok (.aload_n 0, 1) := by decide +kernel
theorem dX1_placeAt_30 : decode cX1_placeAt 30 = .ok (.getfield 19, 3) := by decide +kernel
theorem dX1_placeAt_33 : decode cX1_placeAt 33 = .ok (.imul, 1) := by decide +kernel
theorem dX1_placeAt_34 : decode cX1_placeAt 34 = .ok (.if_icmp .lt 5, 3) := by decide +kernel
theorem dX1_placeAt_37 : decode cX1_placeAt 37 = .ok (.iconst (-1), 1) := by decide +kernel
theorem dX1_placeAt_38 : decode cX1_placeAt 38 = .ok (.ireturn, 1) := by decide +kernel
theorem dX1_placeAt_39 : decode cX1_placeAt 39 = .ok (.iload_n 2, 1) := by decide +kernel
theorem dX1_placeAt_40 : decode cX1_placeAt 40 = .ok (.aload_n 0, 1) := by decide +kernel
theorem dX1_placeAt_41 : decode cX1_placeAt 41 = .ok (.getfield 19, 3) := by decide +kernel
theorem dX1_placeAt_44 : decode cX1_placeAt 44 = .ok (.idiv, 1) := by decide +kernel
theorem dX1_placeAt_45 : decode cX1_placeAt 45 = .ok (.ireturn, 1) := by decide +kernel
theorem dX2_init_0 : decode cX2_init 0 = .ok (.aload_n 0, 1) := by decide +kernel
theorem dX2_init_1 : decode cX2_init 1 = .ok (.invokespecial 3, 3) := by decide +kernel
theorem dX2_init_4 : decode cX2_init 4 = .ok (.aload_n 0, 1) := by decide +kernel
theorem dX2_init_5 : decode cX2_init 5 = .ok (.bipush 12, 2) := by decide +kernel
theorem dX2_init_7 : decode cX2_init 7 = .ok (.anewarray 9, 3) := by decide +kernel
theorem dX2_init_10 : decode cX2_init 10 = .ok (.putfield 11, 3) := by decide +kernel
theorem dX2_init_13 : decode cX2_init 13 = .ok (.aload_n 0, 1) := by decide +kernel
theorem dX2_init_14 : decode cX2_init 14 = .ok (.iconst 5, 1) := by decide +kernel
theorem dX2_init_15 : decode cX2_init 15 = .ok (.anewarray 15, 3) := by decide +kernel
theorem dX2_init_18 : decode cX2_init 18 = .ok (.putfield 17, 3) := by decide +kernel
theorem dX2_init_21 : decode cX2_init 21 = .ok (.aload_n 0, 1) := by decide +kernel
theorem dX2_init_22 : decode cX2_init 22 = .ok (.iconst 0, 1) := by decide +kernel
theorem dX2_init_23 : decode cX2_init 23 = .ok (.putfield 21, 3) := by decide +kernel
theorem dX2_init_26 : decode cX2_init 26 = .ok (.aload_n 0, 1) := by decide +kernel
theorem dX2_init_27 : decode cX2_init 27 = .ok (.iconst 0, 1) := by decide +kernel
theorem dX2_init_28 : decode cX2_init 28 = .ok (.putfield 25, 3) := by decide +kernel
theorem dX2_init_31 : decode cX2_init 31 = .ok (.aload_n 0, 1) := by decide +kernel
theorem dX2_init_32 : decode cX2_init 32 = .ok (.iconst 0, 1) := by decide +kernel
theorem dX2_init_33 : decode cX2_init 33 = .ok (.putfield 28, 3) := by decide +kernel
theorem dX2_init_36 : decode cX2_init 36 = .ok (.aload_n 0, 1) := by decide +kernel
theorem dX2_init_37 : decode cX2_init 37 = .ok (.iconst 0, 1) := by decide +kernel
theorem dX2_init_38 : decode cX2_init 38 = .ok (.putfield 31, 3) := by decide +kernel
theorem dX2_init_41 : decode cX2_init 41 = .ok (.aload_n 0, 1) := by decide +kernel
theorem dX2_init_42 : decode cX2_init 42 = .ok (.iconst 0, 1) := by decide +kernel
theorem dX2_init_43 : decode cX2_init 43 = .ok (.putfield 34, 3) := by decide +kernel
theorem dX2_init_46 : decode cX2_init 46 = .ok (.iconst 0, 1) := by decide +kernel
theorem dX2_init_47 : decode cX2_init 47 = .ok (.istore_n 1, 1) := by decide +kernel
theorem dX2_init_48 : decode cX2_init 48 = .ok (.iload_n 1, 1) := by decide +kernel
theorem dX2_init_49 : decode cX2_init 49 = .ok (.aload_n 0, 1) := by decide +kernel
theorem dX2_init_50 : decode cX2_init 50 = .ok (.getfield 11, 3) := by decide +kernel
theorem dX2_init_53 : decode cX2_init 53 = .ok (.arraylength, 1) := by decide +kernel
theorem dX2_init_54 : decode cX2_init 54 = .ok (.if_icmp .ge 26, 3) := by decide +kernel
theorem dX2_init_57 : decode cX2_init 57 = .ok (.aload_n 0, 1) := by decide +kernel
theorem dX2_init_58 : decode cX2_init 58 = .ok (.getfield 11, 3) := by decide +kernel
theorem dX2_init_61 : decode cX2_init 61 = .ok (.iload_n 1, 1) := by decide +kernel
theorem dX2_init_62 : decode cX2_init 62 = .ok (.new 9, 3) := by decide +kernel
theorem dX2_init_65 : decode cX2_init 65 = .ok (.dup, 1) := by decide +kernel
theorem dX2_init_66 : decode cX2_init 66 = .ok (.iload_n 1, 1) := by decide +kernel
theorem dX2_init_67 : decode cX2_init 67 = .ok (.bipush 24, 2) := by decide +kernel
theorem dX2_init_69 : decode cX2_init 69 = .ok (.imul, 1) := by decide +kernel
theorem dX2_init_70 : decode cX2_init 70 = .ok (.invokespecial 37, 3) := by decide +kernel
theorem dX2_init_73 : decode cX2_init 73 = .ok (.aastore, 1) := by decide +kernel
theorem dX2_init_74 : decode cX2_init 74 = .ok (.iinc 1 1, 3) := by decide +kernel
theorem dX2_init_77 : decode cX2_init 77 = .ok (.goto (-29), 3) := by decide +kernel
theorem dX2_init_80 : decode cX2_init 80 = .ok (.return_, 1) := by decide +kernel
theorem dX2_kind_0 : decode cX2_kind 0 = .ok (.iload_n 1, 1) := by decide +kernel
theorem dX2_kind_1 : decode cX2_kind 1 = .ok (.iconst 2, 1) := by decide +kernel
theorem dX2_kind_2 : decode cX2_kind 2 = .ok (.if_icmp .lt 9, 3) := by decide +kernel
theorem dX2_kind_5 : decode cX2_kind 5 = .ok (.iload_n 1, 1) := by decide +kernel
theorem dX2_kind_6 : decode cX2_kind 6 = .ok (.bipush 12, 2) := by decide +kernel
theorem dX2_kind_8 : decode cX2_kind 8 = .ok (.if_icmp .le 13, 3) := by decide +kernel
theorem dX2_kind_11 : decode cX2_kind 11 = .ok (.new 40, 3) := by decide +kernel
theorem dX2_kind_14 : decode cX2_kind 14 = .ok (.dup, 1) := by decide +kernel
theorem dX2_kind_15 : decode cX2_kind 15 = .ok (.ldc 42, 2) := by decide +kernel
theorem dX2_kind_17 : decode cX2_kind 17 = .ok (.invokespecial 44, 3) := by decide +kernel
theorem dX2_kind_20 : decode cX2_kind 20 = .ok (.athrow, 1) := by decide +kernel
theorem dX2_kind_21 : decode cX2_kind 21 = .ok (.aload_n 0, 1) := by decide +kernel
theorem dX2_kind_22 : decode cX2_kind 22 = .ok (.getfield 21, 3) := by decide +kernel
theorem dX2_kind_25 : decode cX2_kind 25 = .ok (.istore_n 2, 1) := by decide +kernel
theorem dX2_kind_26 : decode cX2_kind 26 = .ok (.iload_n 2, 1) := by decide +kernel
theorem dX2_kind_27 : decode cX2_kind 27 = .ok (.aload_n 0, 1) := by decide +kernel
theorem dX2_kind_28 : decode cX2_kind 28 = .ok (.getfield 17, 3) := by decide +kernel
theorem dX2_kind_31 : decode cX2_kind 31 = .ok (.arraylength, 1) := by decide +kernel
theorem dX2_kind_32 : decode cX2_kind 32 = .ok (.if_icmp .lt 13, 3) := by decide +kernel
theorem dX2_kind_35 : decode cX2_kind 35 = .ok (.new 47, 3) := by decide +kernel
theorem dX2_kind_38 : decode cX2_kind 38 = .ok (.dup, 1) := by decide +kernel
theorem dX2_kind_39 : decode cX2_kind 39 = .ok (.ldc 49, 2) := by decide +kernel
theorem dX2_kind_41 : decode cX2_kind 41 = .ok (.invokespecial 51, 3) := by decide +kernel
theorem dX2_kind_44 : decode cX2_kind 44 = .ok (.athrow, 1) := by decide +kernel
theorem dX2_kind_45 : decode cX2_kind 45 = .ok (.aload_n 0, 1) := by decide +kernel
theorem dX2_kind_46 : decode cX2_kind 46 = .ok (.getfield 17, 3) := by decide +kernel
theorem dX2_kind_49 : decode cX2_kind 49 = .ok (.iload_n 2, 1) := by decide +kernel
theorem dX2_kind_50 : decode cX2_kind 50 = .ok (.new 15, 3) := by decide +kernel
theorem dX2_kind_53 : decode cX2_kind 53 = .ok (.dup, 1) := by decide +kernel
theorem dX2_kind_54 : decode cX2_kind 54 = .ok (.iload_n 2, 1) := by decide +kernel
theorem dX2_kind_55 : decode cX2_kind 55 = .ok (.iload_n 1, 1) := by decide +kernel
theorem dX2_kind_56 : decode cX2_kind 56 = .ok (.invokespecial 52, 3) := by decide +kernel
theorem dX2_kind_59 : decode cX2_kind 59 = .ok (.aastore, 1) := by decide +kernel
theorem dX2_kind_60 : decode cX2_kind 60 = .ok (.aload_n 0, 1) := by decide +kernel
theorem dX2_kind_61 : decode cX2_kind 61 = .ok (.dup, 1) := by decide +kernel
theorem dX2_kind_62 : decode cX2_kind 62 = .ok (.getfield 21, 3) := by decide +kernel
theorem dX2_kind_65 : decode cX2_kind 65 = .ok (.iconst 1, 1) := by decide +kernel
theorem dX2_kind_66 : decode cX2_kind 66 = .ok (.iadd, 1) := by decide +kernel
theorem dX2_kind_67 : decode cX2_kind 67 = .ok (.putfield 21, 3) := by decide +kernel
theorem dX2_kind_70 : decode cX2_kind 70 = .ok (.iload_n 2, 1) := by decide +kernel
theorem dX2_kind_71 : decode cX2_kind 71 = .ok (.ireturn, 1) := by decide +kernel
theorem dX2_setWay_0 : decode cX2_setWay 0 = .ok (.iload_n 1, 1) := by decide +kernel
theorem dX2_setWay_1 : decode cX2_setWay 1 = .ok (.ifCond .lt 8, 3) := by decide +kernel
theorem dX2_setWay_4 : decode cX2_setWay 4 = .ok (.iload_n 1, 1) := by decide +kernel
theorem dX2_setWay_5 : decode cX2_setWay 5 = .ok (.iconst 2, 1) := by decide +kernel
theorem dX2_setWay_6 : decode cX2_setWay 6 = .ok (.if_icmp .le 13, 3) := by decide +kernel
theorem dX2_setWay_9 : decode cX2_setWay 9 = .ok (.new 55, 3) := by decide +kernel
theorem dX2_setWay_12 : decode cX2_setWay 12 = .ok (.dup, 1) := by decide +kernel
theorem dX2_setWay_13 : decode cX2_setWay 13 = .ok (.ldc 57, 2) := by decide +kernel
theorem dX2_setWay_15 : decode cX2_setWay 15 = .ok (.invokespecial 59, 3) := by decide +kernel
theorem dX2_setWay_18 : decode cX2_setWay 18 = .ok (.athrow, 1) := by decide +kernel
theorem dX2_setWay_19 : decode cX2_setWay 19 = .ok (.aload_n 0, 1) := by decide +kernel
theorem dX2_setWay_20 : decode cX2_setWay 20 = .ok (.getfield 25, 3) := by decide +kernel
theorem dX2_setWay_23 : decode cX2_setWay 23 = .ok (.istore_n 2, 1) := by decide +kernel
theorem dX2_setWay_24 : decode cX2_setWay 24 = .ok (.aload_n 0, 1) := by decide +kernel
theorem dX2_setWay_25 : decode cX2_setWay 25 = .ok (.iload_n 1, 1) := by decide +kernel
theorem dX2_setWay_26 : decode cX2_setWay 26 = .ok (.putfield 25, 3) := by decide +kernel
theorem dX2_setWay_29 : decode cX2_setWay 29 = .ok (.iload_n 2, 1) := by decide +kernel
theorem dX2_setWay_30 : decode cX2_setWay 30 = .ok (.ireturn, 1) := by decide +kernel
theorem dX2_put_0 : decode cX2_put 0 = .ok (.aload_n 0, 1) := by decide +kernel
theorem dX2_put_1 : decode cX2_put 1 = .ok (.iload_n 1, 1) := by decide +kernel
theorem dX2_put_2 : decode cX2_put 2 = .ok (.invokevirtual 60, 3) := by decide +kernel
theorem dX2_put_5 : decode cX2_put 5 = .ok (.astore_n 2, 1) := by decide +kernel
theorem dX2_put_6 : decode cX2_put 6 = .ok (.aload_n 0, 1) := by decide +kernel
theorem dX2_put_7 : decode cX2_put 7 = .ok (.aload_n 2, 1) := by decide +kernel
theorem dX2_put_8 : decode cX2_put 8 = .ok (.invokevirtual 64, 3) := by decide +kernel
theorem dX2_put_11 : decode cX2_put 11 = .ok (.astore_n 3, 1) := by decide +kernel
theorem dX2_put_12 : decode cX2_put 12 = .ok (.aload_n 3, 1) := by decide +kernel
theorem dX2_put_13 : decode cX2_put 13 = .ok (.ifnonnull 13, 3) := by decide +kernel
theorem dX2_put_16 : decode cX2_put 16 = .ok (.new 47, 3) := by decide +kernel
theorem dX2_put_19 : decode cX2_put 19 = .ok (.dup, 1) := by decide +kernel
theorem dX2_put_20 : decode cX2_put 20 = .ok (.ldc 68, 2) := by decide +kernel
theorem dX2_put_22 : decode cX2_put 22 = .ok (.invokespecial 51, 3) := by decide +kernel
theorem dX2_put_25 : decode cX2_put 25 = .ok (.athrow, 1) := by decide +kernel
theorem dX2_put_26 : decode cX2_put 26 = .ok (.aload_n 3, 1) := by decide +kernel
theorem dX2_put_27 : decode cX2_put 27 = .ok (.invokevirtual 70, 3) := by decide +kernel
theorem dX2_put_30 : decode cX2_put 30 = .ok (.ifCond .ne 8, 3) := by decide +kernel
theorem dX2_put_33 : decode cX2_put 33 = .ok (.aload_n 3, 1) := by decide +kernel
theorem dX2_put_34 : decode cX2_put 34 = .ok (.aload_n 2, 1) := by decide +kernel
theorem dX2_put_35 : decode cX2_put 35 = .ok (.invokevirtual 74, 3) := by decide +kernel
theorem dX2_put_38 : decode cX2_put 38 = .ok (.aload_n 3, 1) := by decide +kernel
theorem dX2_put_39 : decode cX2_put 39 = .ok (.invokevirtual 78, 3) := by decide +kernel
theorem dX2_put_42 : decode cX2_put 42 = .ok (.istore 4, 2) := by decide +kernel
theorem dX2_put_44 : decode cX2_put 44 = .ok (.aload_n 3, 1) := by decide +kernel
theorem dX2_put_45 : decode cX2_put 45 = .ok (.iload 4, 2) := by decide +kernel
theorem dX2_put_47 : decode cX2_put 47 = .ok (.invokevirtual 81, 3) := by decide +kernel
theorem dX2_put_50 : decode cX2_put 50 = .ok (.aload_n 0, 1) := by decide +kernel
theorem dX2_put_51 : decode cX2_put 51 = .ok (.dup, 1) := by decide +kernel
theorem dX2_put_52 : decode cX2_put 52 = .ok (.getfield 28, 3) := by decide +kernel
theorem dX2_put_55 : decode cX2_put 55 = .ok (.iconst 1, 1) := by decide +kernel
theorem dX2_put_56 : decode cX2_put 56 = .ok (.iadd, 1) := by decide +kernel
theorem dX2_put_57 : decode cX2_put 57 = .ok (.putfield 28, 3) := by decide +kernel
theorem dX2_put_60 : decode cX2_put 60 = .ok (.aload_n 0, 1) := by decide +kernel
theorem dX2_put_61 : decode cX2_put 61 = .ok (.dup, 1) := by decide +kernel
theorem dX2_put_62 : decode cX2_put 62 = .ok (.getfield 31, 3) := by decide +kernel
theorem dX2_put_65 : decode cX2_put 65 = .ok (.iconst 1, 1) := by decide +kernel
theorem dX2_put_66 : decode cX2_put 66 = .ok (.iadd, 1) := by decide +kernel
theorem dX2_put_67 : decode cX2_put 67 = .ok (.putfield 31, 3) := by decide +kernel
theorem dX2_put_70 : decode cX2_put 70 = .ok (.aload_n 3, 1) := by decide +kernel
theorem dX2_put_71 : decode cX2_put 71 = .ok (.iload 4, 2) := by decide +kernel
theorem dX2_put_73 : decode cX2_put 73 = .ok (.invokevirtual 84, 3) := by decide +kernel
theorem dX2_put_76 : decode cX2_put 76 = .ok (.ireturn, 1) := by decide +kernel
theorem dX2_take_0 : decode cX2_take 0 = .ok (.aload_n 0, 1) := by decide +kernel
theorem dX2_take_1 : decode cX2_take 1 = .ok (.iload_n 1, 1) := by decide +kernel
theorem dX2_take_2 : decode cX2_take 2 = .ok (.invokevirtual 88, 3) := by decide +kernel
theorem dX2_take_5 : decode cX2_take 5 = .ok (.astore_n 2, 1) := by decide +kernel
theorem dX2_take_6 : decode cX2_take 6 = .ok (.aload_n 2, 1) := by decide +kernel
theorem dX2_take_7 : decode cX2_take 7 = .ok (.iload_n 1, 1) := by decide +kernel
theorem dX2_take_8 : decode cX2_take 8 = .ok (.invokevirtual 92, 3) := by decide +kernel
theorem dX2_take_11 : decode cX2_take 11 = .ok (.istore_n 3, 1) := by decide +kernel
theorem dX2_take_12 : decode cX2_take 12 = .ok (.aload_n 2, 1) := by decide +kernel
theorem dX2_take_13 : decode cX2_take 13 = .ok (.iload_n 3, 1) := by decide +kernel
theorem dX2_take_14 : decode cX2_take 14 = .ok (.invokevirtual 95, 3) := by decide +kernel
theorem dX2_take_17 : decode cX2_take 17 = .ok (.ifCond .eq 12, 3) := by decide +kernel
theorem dX2_take_20 : decode cX2_take 20 = .ok (.aload_n 2, 1) := by decide +kernel
theorem dX2_take_21 : decode cX2_take 21 = .ok (.iload_n 3, 1) := by decide +kernel
theorem dX2_take_22 : decode cX2_take 22 = .ok (.invokevirtual 84, 3) := by decide +kernel
theorem dX2_take_25 : decode cX2_take 25 = .ok (.iload_n 1, 1) := by decide +kernel
theorem dX2_take_26 : decode cX2_take 26 = .ok (.if_icmp .eq 13, 3) := by decide +kernel
theorem dX2_take_29 : decode cX2_take 29 = .ok (.new 40, 3) := by decide +kernel
theorem dX2_take_32 : decode cX2_take 32 = .ok (.dup, 1) := by decide +kernel
theorem dX2_take_33 : decode cX2_take 33 = .ok (.ldc 99, 2) := by decide +kernel
theorem dX2_take_35 : decode cX2_take 35 = .ok (.invokespecial 44, 3) := by decide +kernel
theorem dX2_take_38 : decode cX2_take 38 = .ok (.athrow, 1) := by decide +kernel
theorem dX2_take_39 : decode cX2_take 39 = .ok (.aload_n 0, 1) := by decide +kernel
theorem dX2_take_40 : decode cX2_take 40 = .ok (.dup, 1) := by decide +kernel
theorem dX2_take_41 : decode cX2_take 41 = .ok (.getfield 28, 3) := by decide +kernel
theorem dX2_take_44 : decode cX2_take 44 = .ok (.iconst 1, 1) := by decide +kernel
theorem dX2_take_45 : decode cX2_take 45 = .ok (.iadd, 1) := by decide +kernel
theorem dX2_take_46 : decode cX2_take 46 = .ok (.putfield 28, 3) := by decide +kernel
theorem dX2_take_49 : decode cX2_take 49 = .ok (.aload_n 2, 1) := by decide +kernel
theorem dX2_take_50 : decode cX2_take 50 = .ok (.iload_n 3, 1) := by decide +kernel
theorem dX2_take_51 : decode cX2_take 51 = .ok (.aload_n 0, 1) := by decide +kernel
theorem dX2_take_52 : decode cX2_take 52 = .ok (.getfield 28, 3) := by decide +kernel
theorem dX2_take_55 : decode cX2_take 55 = .ok (.invokevirtual 101, 3) := by decide +kernel
theorem dX2_take_58 : decode cX2_take 58 = .ok (.aload_n 2, 1) := by decide +kernel
theorem dX2_take_59 : decode cX2_take 59 = .ok (.getfield 104, 3) := by decide +kernel
theorem dX2_take_62 : decode cX2_take 62 = .ok (.ireturn, 1) := by decide +kernel
theorem dX2_reap_0 : decode cX2_reap 0 = .ok (.iload_n 1, 1) := by decide +kernel
theorem dX2_reap_1 : decode cX2_reap 1 = .ok (.ifCond .lt 9, 3) := by decide +kernel
theorem dX2_reap_4 : decode cX2_reap 4 = .ok (.iload_n 1, 1) := by decide +kernel
theorem dX2_reap_5 : decode cX2_reap 5 = .ok (.bipush 99, 2) := by decide +kernel
theorem dX2_reap_7 : decode cX2_reap 7 = .ok (.if_icmp .le 13, 3) := by decide +kernel
theorem dX2_reap_10 : decode cX2_reap 10 = .ok (.new 40, 3) := by decide +kernel
theorem dX2_reap_13 : decode cX2_reap 13 = .ok (.dup, 1) := by decide +kernel
theorem dX2_reap_14 : decode cX2_reap 14 = .ok (.ldc 107, 2) := by decide +kernel
theorem dX2_reap_16 : decode cX2_reap 16 = .ok (.invokespecial 44, 3) := by decide +kernel
theorem dX2_reap_19 : decode cX2_reap 19 = .ok (.athrow, 1) := by decide +kernel
theorem dX2_reap_20 : decode cX2_reap 20 = .ok (.iconst 0, 1) := by decide +kernel
theorem dX2_reap_21 : decode cX2_reap 21 = .ok (.istore_n 2, 1) := by decide +kernel
theorem dX2_reap_22 : decode cX2_reap 22 = .ok (.aload_n 0, 1) := by decide +kernel
theorem dX2_reap_23 : decode cX2_reap 23 = .ok (.getfield 11, 3) := by decide +kernel
theorem dX2_reap_26 : decode cX2_reap 26 = .ok (.astore_n 3, 1) := by decide +kernel
theorem dX2_reap_27 : decode cX2_reap 27 = .ok (.aload_n 3, 1) := by decide +kernel
theorem dX2_reap_28 : decode cX2_reap 28 = .ok (.arraylength, 1) := by decide +kernel
theorem dX2_reap_29 : decode cX2_reap 29 = .ok (.istore 4, 2) := by decide +kernel
theorem dX2_reap_31 : decode cX2_reap 31 = .ok (.iconst 0, 1) := by decide +kernel
theorem dX2_reap_32 : decode cX2_reap 32 = .ok (.istore 5, 2) := by decide +kernel
theorem dX2_reap_34 : decode cX2_reap 34 = .ok (.iload 5, 2) := by decide +kernel
theorem dX2_reap_36 : decode cX2_reap 36 = .ok (.iload 4, 2) := by decide +kernel
theorem dX2_reap_38 : decode cX2_reap 38 = .ok (.if_icmp .ge 46, 3) := by decide +kernel
theorem dX2_reap_41 : decode cX2_reap 41 = .ok (.aload_n 3, 1) := by decide +kernel
theorem dX2_reap_42 : decode cX2_reap 42 = .ok (.iload 5, 2) := by decide +kernel
theorem dX2_reap_44 : decode cX2_reap 44 = .ok (.aaload, 1) := by decide +kernel
theorem dX2_reap_45 : decode cX2_reap 45 = .ok (.astore 6, 2) := by decide +kernel
theorem dX2_reap_47 : decode cX2_reap 47 = .ok (.aload 6, 2) := by decide +kernel
theorem dX2_reap_49 : decode cX2_reap 49 = .ok (.invokevirtual 70, 3) := by decide +kernel
theorem dX2_reap_52 : decode cX2_reap 52 = .ok (.iconst 1, 1) := by decide +kernel
theorem dX2_reap_53 : decode cX2_reap 53 = .ok (.if_icmp .ne 25, 3) := by decide +kernel
theorem dX2_reap_56 : decode cX2_reap 56 = .ok (.aload_n 0, 1) := by decide +kernel
theorem dX2_reap_57 : decode cX2_reap 57 = .ok (.getfield 28, 3) := by decide +kernel
theorem dX2_reap_60 : decode cX2_reap 60 = .ok (.aload 6, 2) := by decide +kernel
theorem dX2_reap_62 : decode cX2_reap 62 = .ok (.getfield 109, 3) := by decide +kernel
theorem dX2_reap_65 : decode cX2_reap 65 = .ok (.isub, 1) := by decide +kernel
theorem dX2_reap_66 : decode cX2_reap 66 = .ok (.iload_n 1, 1) := by decide +kernel
theorem dX2_reap_67 : decode cX2_reap 67 = .ok (.if_icmp .lt 11, 3) := by decide +kernel
theorem dX2_reap_70 : decode cX2_reap 70 = .ok (.aload 6, 2) := by decide +kernel
theorem dX2_reap_72 : decode cX2_reap 72 = .ok (.invokevirtual 112, 3) := by decide +kernel
theorem dX2_reap_75 : decode cX2_reap 75 = .ok (.iinc 2 1, 3) := by decide +kernel
theorem dX2_reap_78 : decode cX2_reap 78 = .ok (.iinc 5 1, 3) := by decide +kernel
theorem dX2_reap_81 : decode cX2_reap 81 = .ok (.goto (-47), 3) := by decide +kernel
theorem dX2_reap_84 : decode cX2_reap 84 = .ok (.iload_n 2, 1) := by decide +kernel
theorem dX2_reap_85 : decode cX2_reap 85 = .ok (.ireturn, 1) := by decide +kernel
theorem dX2_pack_0 : decode cX2_pack 0 = .ok (.aload_n 0, 1) := by decide +kernel
theorem dX2_pack_1 : decode cX2_pack 1 = .ok (.iload_n 1, 1) := by decide +kernel
theorem dX2_pack_2 : decode cX2_pack 2 = .ok (.invokevirtual 60, 3) := by decide +kernel
theorem dX2_pack_5 : decode cX2_pack 5 = .ok (.astore_n 2, 1) := by decide +kernel
theorem dX2_pack_6 : decode cX2_pack 6 = .ok (.iconst 0, 1) := by decide +kernel
theorem dX2_pack_7 : decode cX2_pack 7 = .ok (.istore_n 3, 1) := by decide +kernel
theorem dX2_pack_8 : decode cX2_pack 8 = .ok (.iload_n 3, 1) := by decide +kernel
theorem dX2_pack_9 : decode cX2_pack 9 = .ok (.sipush 1000, 3) := by decide +kernel
theorem dX2_pack_12 : decode cX2_pack 12 = .ok (.if_icmp .ge 17, 3) := by decide +kernel
theorem dX2_pack_15 : decode cX2_pack 15 = .ok (.aload_n 0, 1) := by decide +kernel
theorem dX2_pack_16 : decode cX2_pack 16 = .ok (.aload_n 2, 1) := by decide +kernel
theorem dX2_pack_17 : decode cX2_pack 17 = .ok (.invokevirtual 115, 3) := by decide +kernel
theorem dX2_pack_20 : decode cX2_pack 20 = .ok (.ifCond .eq 9, 3) := by decide +kernel
theorem dX2_pack_23 : decode cX2_pack 23 = .ok (.iinc 3 1, 3) := by decide +kernel
theorem dX2_pack_26 : decode cX2_pack 26 = .ok (.goto (-18), 3) := by decide +kernel
theorem dX2_pack_29 : decode cX2_pack 29 = .ok (.aload_n 0, 1) := by decide +kernel
theorem dX2_pack_30 : decode cX2_pack 30 = .ok (.dup, 1) := by decide +kernel
theorem dX2_pack_31 : decode cX2_pack 31 = .ok (.getfield 34, 3) := by decide +kernel
theorem dX2_pack_34 : decode cX2_pack 34 = .ok (.iload_n 3, 1) := by decide +kernel
theorem dX2_pack_35 : decode cX2_pack 35 = .ok (.iadd, 1) := by decide +kernel
theorem dX2_pack_36 : decode cX2_pack 36 = .ok (.putfield 34, 3) := by decide +kernel
theorem dX2_pack_39 : decode cX2_pack 39 = .ok (.iload_n 3, 1) := by decide +kernel
theorem dX2_pack_40 : decode cX2_pack 40 = .ok (.ireturn, 1) := by decide +kernel
theorem dX2_shelf_0 : decode cX2_shelf 0 = .ok (.iload_n 1, 1) := by decide +kernel
theorem dX2_shelf_1 : decode cX2_shelf 1 = .ok (.ifCond .lt 12, 3) := by decide +kernel
theorem dX2_shelf_4 : decode cX2_shelf 4 = .ok (.iload_n 1, 1) := by decide +kernel
theorem dX2_shelf_5 : decode cX2_shelf 5 = .ok (.aload_n 0, 1) := by decide +kernel
theorem dX2_shelf_6 : decode cX2_shelf 6 = .ok (.getfield 11, 3) := by decide +kernel
theorem dX2_shelf_9 : decode cX2_shelf 9 = .ok (.arraylength, 1) := by decide +kernel
theorem dX2_shelf_10 : decode cX2_shelf 10 = .ok (.if_icmp .lt 13, 3) := by decide +kernel
theorem dX2_shelf_13 : decode cX2_shelf 13 = .ok (.new 55, 3) := by decide +kernel
theorem dX2_shelf_16 : decode cX2_shelf 16 = .ok (.dup, 1) := by decide +kernel
theorem dX2_shelf_17 : decode cX2_shelf 17 = .ok (.ldc 119, 2) := by decide +kernel
theorem dX2_shelf_19 : decode cX2_shelf 19 = .ok (.invokespecial 59, 3) := by decide +kernel
theorem dX2_shelf_22 : decode cX2_shelf 22 = .ok (.athrow, 1) := by decide +kernel
theorem dX2_shelf_23 : decode cX2_shelf 23 = .ok (.iload_n 2, 1) := by decide +kernel
theorem dX2_shelf_24 : decode cX2_shelf 24 = .ok (.bipush 6, 2) := by decide +kernel
theorem dX2_shelf_26 : decode cX2_shelf 26 = .ok (.invokestatic 121, 3) := by decide +kernel
theorem dX2_shelf_29 : decode cX2_shelf 29 = .ok (.aload_n 0, 1) := by decide +kernel
theorem dX2_shelf_30 : decode cX2_shelf 30 = .ok (.getfield 11, 3) := by decide +kernel
theorem dX2_shelf_33 : decode cX2_shelf 33 = .ok (.iload_n 1, 1) := by decide +kernel
theorem dX2_shelf_34 : decode cX2_shelf 34 = .ok (.aaload, 1) := by decide +kernel
theorem dX2_shelf_35 : decode cX2_shelf 35 = .ok (.iload_n 2, 1) := by decide +kernel
theorem dX2_shelf_36 : decode cX2_shelf 36 = .ok (.invokevirtual 124, 3) := by decide +kernel
theorem dX2_shelf_39 : decode cX2_shelf 39 = .ok (.ireturn, 1) := by decide +kernel
theorem dX2_about_0 : decode cX2_about 0 = .ok (.aload_n 0, 1) := by decide +kernel
theorem dX2_about_1 : decode cX2_about 1 = .ok (.iload_n 1, 1) := by decide +kernel
theorem dX2_about_2 : decode cX2_about 2 = .ok (.invokevirtual 60, 3) := by decide +kernel
theorem dX2_about_5 : decode cX2_about 5 = .ok (.astore_n 3, 1) := by decide +kernel
theorem dX2_about_6 : decode cX2_about 6 = .ok (.iload_n 2, 1) := by decide +kernel
theorem dX2_about_7 : decode cX2_about 7 = .ok (.bipush 9, 2) := by decide +kernel
theorem dX2_about_9 : decode cX2_about 9 = .ok (.invokestatic 121, 3) := by decide +kernel
theorem dX2_about_12 : decode cX2_about 12 = .ok (.aload_n 0, 1) := by decide +kernel
theorem dX2_about_13 : decode cX2_about 13 = .ok (.aload_n 3, 1) := by decide +kernel
theorem dX2_about_14 : decode cX2_about 14 = .ok (.iload_n 2, 1) := by decide +kernel
theorem dX2_about_15 : decode cX2_about 15 = .ok (.invokevirtual 127, 3) := by decide +kernel
theorem dX2_about_18 : decode cX2_about 18 = .ok (.ireturn, 1) := by decide +kernel
theorem dX2_place_0 : decode cX2_place 0 = .ok (.aload_n 0, 1) := by decide +kernel
theorem dX2_place_1 : decode cX2_place 1 = .ok (.iload_n 1, 1) := by decide +kernel
theorem dX2_place_2 : decode cX2_place 2 = .ok (.invokevirtual 88, 3) := by decide +kernel
theorem dX2_place_5 : decode cX2_place 5 = .ok (.astore_n 3, 1) := by decide +kernel
theorem dX2_place_6 : decode cX2_place 6 = .ok (.iload_n 2, 1) := by decide +kernel
theorem dX2_place_7 : decode cX2_place 7 = .ok (.iconst 4, 1) := by decide +kernel
theorem dX2_place_8 : decode cX2_place 8 = .ok (.invokestatic 121, 3) := by decide +kernel
theorem dX2_place_11 : decode cX2_place 11 = .ok (.aload_n 3, 1) := by decide +kernel
theorem dX2_place_12 : decode cX2_place 12 = .ok (.iload_n 1, 1) := by decide +kernel
theorem dX2_place_13 : decode cX2_place 13 = .ok (.invokevirtual 92, 3) := by decide +kernel
theorem dX2_place_16 : decode cX2_place 16 = .ok (.istore 4, 2) := by decide +kernel
theorem dX2_place_18 : decode cX2_place 18 = .ok (.iload 4, 2) := by decide +kernel
theorem dX2_place_20 : decode cX2_place 20 = .ok (.iconst (-1), 1) := by decide +kernel
theorem dX2_place_21 : decode cX2_place 21 = .ok (.if_icmp .ne 5, 3) := by decide +kernel
theorem dX2_place_24 : decode cX2_place 24 = .ok (.iconst (-1), 1) := by decide +kernel
theorem dX2_place_25 : decode cX2_place 25 = .ok (.ireturn, 1) := by decide +kernel
theorem dX2_place_26 : decode cX2_place 26 = .ok (.iload_n 2, 1) := by decide +kernel
theorem dX2_place_27 : decode cX2_place 27 = .ok (.tableswitch 48 0 2 #[25, 30, 33], 25) := by decide +kernel
theorem dX2_place_52 : decode cX2_place 52 = .ok (.aload_n 3, 1) := by decide +kernel
theorem dX2_place_53 : decode cX2_place 53 = .ok (.getfield 131, 3) := by decide +kernel
theorem dX2_place_56 : decode cX2_place 56 = .ok (.ireturn, 1) := by decide +kernel
theorem dX2_place_57 : decode cX2_place 57 = .ok (.iload 4, 2) := by decide +kernel
theorem dX2_place_59 : decode cX2_place 59 = .ok (.ireturn, 1) := by decide +kernel
theorem dX2_place_60 : decode cX2_place 60 = .ok (.aload_n 3, 1) := by decide +kernel
theorem dX2_place_61 : decode cX2_place 61 = .ok (.iload 4, 2) := by decide +kernel
theorem dX2_place_63 : decode cX2_place 63 = .ok (.invokevirtual 95, 3) := by decide +kernel
theorem dX2_place_66 : decode cX2_place 66 = .ok (.ifCond .eq 7, 3) := by decide +kernel
theorem dX2_place_69 : decode cX2_place 69 = .ok (.iconst 1, 1) := by decide +kernel
theorem dX2_place_70 : decode cX2_place 70 = .ok (.goto 4, 3) := by decide +kernel
theorem dX2_place_73 : decode cX2_place 73 = .ok (.iconst 0, 1) := by decide +kernel
theorem dX2_place_74 : decode cX2_place 74 = .ok (.ireturn, 1) := by decide +kernel
theorem dX2_place_75 : decode cX2_place 75 = .ok (.aload_n 3, 1) := by decide +kernel
theorem dX2_place_76 : decode cX2_place 76 = .ok (.iload 4, 2) := by decide +kernel
theorem dX2_place_78 : decode cX2_place 78 = .ok (.invokevirtual 84, 3) := by decide +kernel
theorem dX2_place_81 : decode cX2_place 81 = .ok (.ireturn, 1) := by decide +kernel
theorem dX2_count_0 : decode cX2_count 0 = .ok (.iload_n 1, 1) := by decide +kernel
theorem dX2_count_1 : decode cX2_count 1 = .ok (.bipush 10, 2) := by decide +kernel
theorem dX2_count_3 : decode cX2_count 3 = .ok (.invokestatic 121, 3) := by decide +kernel
theorem dX2_count_6 : decode cX2_count 6 = .ok (.iload_n 1, 1) := by decide +kernel
theorem dX2_count_7 : decode cX2_count 7 = .ok (.tableswitch 102 0 8 #[49, 54, 59, 64, 69, 74, 87, 92, 97], 49) := by decide +kernel
theorem dX2_count_56 : decode cX2_count 56 = .ok (.aload_n 0, 1) := by decide +kernel
theorem dX2_count_57 : decode cX2_count 57 = .ok (.getfield 28, 3) := by decide +kernel
theorem dX2_count_60 : decode cX2_count 60 = .ok (.ireturn, 1) := by decide +kernel
theorem dX2_count_61 : decode cX2_count 61 = .ok (.aload_n 0, 1) := by decide +kernel
theorem dX2_count_62 : decode cX2_count 62 = .ok (.getfield 21, 3) := by decide +kernel
theorem dX2_count_65 : decode cX2_count 65 = .ok (.ireturn, 1) := by decide +kernel
theorem dX2_count_66 : decode cX2_count 66 = .ok (.aload_n 0, 1) := by decide +kernel
theorem dX2_count_67 : decode cX2_count 67 = .ok (.invokevirtual 134, 3) := by decide +kernel
theorem dX2_count_70 : decode cX2_count 70 = .ok (.ireturn, 1) := by decide +kernel
theorem dX2_count_71 : decode cX2_count 71 = .ok (.aload_n 0, 1) := by decide +kernel
theorem dX2_count_72 : decode cX2_count 72 = .ok (.invokevirtual 137, 3) := by decide +kernel
theorem dX2_count_75 : decode cX2_count 75 = .ok (.ireturn, 1) := by decide +kernel
theorem dX2_count_76 : decode cX2_count 76 = .ok (.aload_n 0, 1) := by decide +kernel
theorem dX2_count_77 : decode cX2_count 77 = .ok (.invokevirtual 140, 3) := by decide +kernel
theorem dX2_count_80 : decode cX2_count 80 = .ok (.ireturn, 1) := by decide +kernel
theorem dX2_count_81 : decode cX2_count 81 = .ok (.aload_n 0, 1) := by decide +kernel
theorem dX2_count_82 : decode cX2_count 82 = .ok (.invokevirtual 143, 3) := by decide +kernel
theorem dX2_count_85 : decode cX2_count 85 = .ok (.bipush 24, 2) := by decide +kernel
theorem dX2_count_87 : decode cX2_count 87 = .ok (.imul, 1) := by decide +kernel
theorem dX2_count_88 : decode cX2_count 88 = .ok (.aload_n 0, 1) := by decide +kernel
theorem dX2_count_89 : decode cX2_count 89 = .ok (.invokevirtual 140, 3) := by decide +kernel
theorem dX2_count_92 : decode cX2_count 92 = .ok (.isub, 1) := by decide +kernel
theorem dX2_count_93 : decode cX2_count 93 = .ok (.ireturn, 1) := by decide +kernel
theorem dX2_count_94 : decode cX2_count 94 = .ok (.aload_n 0, 1) := by decide +kernel
theorem dX2_count_95 : decode cX2_count 95 = .ok (.invokevirtual 146, 3) := by decide +kernel
theorem dX2_count_98 : decode cX2_count 98 = .ok (.ireturn, 1) := by decide +kernel
theorem dX2_count_99 : decode cX2_count 99 = .ok (.aload_n 0, 1) := by decide +kernel
theorem dX2_count_100 : decode cX2_count 100 = .ok (.getfield 31, 3) := by decide +kernel
theorem dX2_count_103 : decode cX2_count 103 = .ok (.ireturn, 1) := by decide +kernel
theorem dX2_count_104 : decode cX2_count 104 = .ok (.aload_n 0, 1) := by decide +kernel
theorem dX2_count_105 : decode cX2_count 105 = .ok (.getfield 34, 3) := by decide +kernel
theorem dX2_count_108 : decode cX2_count 108 = .ok (.ireturn, 1) := by decide +kernel
theorem dX2_count_109 : decode cX2_count 109 = .ok (.aload_n 0, 1) := by decide +kernel
theorem dX2_count_110 : decode cX2_count 110 = .ok (.getfield 25, 3) := by decide +kernel
theorem dX2_count_113 : decode cX2_count 113 = .ok (.ireturn, 1) := by decide +kernel
theorem dX2_next_0 : decode cX2_next 0 = .ok (.aload_n 0, 1) := by decide +kernel
theorem dX2_next_1 : decode cX2_next 1 = .ok (.aload_n 0, 1) := by decide +kernel
theorem dX2_next_2 : decode cX2_next 2 = .ok (.iload_n 1, 1) := by decide +kernel
theorem dX2_next_3 : decode cX2_next 3 = .ok (.invokevirtual 60, 3) := by decide +kernel
theorem dX2_next_6 : decode cX2_next 6 = .ok (.invokevirtual 149, 3) := by decide +kernel
theorem dX2_next_9 : decode cX2_next 9 = .ok (.ireturn, 1) := by decide +kernel
theorem dX2_fits_0 : decode cX2_fits 0 = .ok (.aload_n 0, 1) := by decide +kernel
theorem dX2_fits_1 : decode cX2_fits 1 = .ok (.iload_n 1, 1) := by decide +kernel
theorem dX2_fits_2 : decode cX2_fits 2 = .ok (.invokevirtual 60, 3) := by decide +kernel
theorem dX2_fits_5 : decode cX2_fits 5 = .ok (.astore_n 2, 1) := by decide +kernel
theorem dX2_fits_6 : decode cX2_fits 6 = .ok (.aload_n 0, 1) := by decide +kernel
theorem dX2_fits_7 : decode cX2_fits 7 = .ok (.aload_n 2, 1) := by decide +kernel
theorem dX2_fits_8 : decode cX2_fits 8 = .ok (.invokevirtual 153, 3) := by decide +kernel
theorem dX2_fits_11 : decode cX2_fits 11 = .ok (.aload_n 0, 1) := by decide +kernel
theorem dX2_fits_12 : decode cX2_fits 12 = .ok (.invokevirtual 134, 3) := by decide +kernel
theorem dX2_fits_15 : decode cX2_fits 15 = .ok (.aload_n 2, 1) := by decide +kernel
theorem dX2_fits_16 : decode cX2_fits 16 = .ok (.getfield 156, 3) := by decide +kernel
theorem dX2_fits_19 : decode cX2_fits 19 = .ok (.imul, 1) := by decide +kernel
theorem dX2_fits_20 : decode cX2_fits 20 = .ok (.iadd, 1) := by decide +kernel
theorem dX2_fits_21 : decode cX2_fits 21 = .ok (.ireturn, 1) := by decide +kernel
theorem dX2_would_0 : decode cX2_would 0 = .ok (.aload_n 0, 1) := by decide +kernel
theorem dX2_would_1 : decode cX2_would 1 = .ok (.iload_n 1, 1) := by decide +kernel
theorem dX2_would_2 : decode cX2_would 2 = .ok (.invokevirtual 60, 3) := by decide +kernel
theorem dX2_would_5 : decode cX2_would 5 = .ok (.astore_n 3, 1) := by decide +kernel
theorem dX2_would_6 : decode cX2_would 6 = .ok (.iload_n 2, 1) := by decide +kernel
theorem dX2_would_7 : decode cX2_would 7 = .ok (.iconst 1, 1) := by decide +kernel
theorem dX2_would_8 : decode cX2_would 8 = .ok (.if_icmp .lt 10, 3) := by decide +kernel
theorem dX2_would_11 : decode cX2_would 11 = .ok (.iload_n 2, 1) := by decide +kernel
theorem dX2_would_12 : decode cX2_would 12 = .ok (.sipush 150, 3) := by decide +kernel
theorem dX2_would_15 : decode cX2_would 15 = .ok (.if_icmp .le 13, 3) := by decide +kernel
theorem dX2_would_18 : decode cX2_would 18 = .ok (.new 40, 3) := by decide +kernel
theorem dX2_would_21 : decode cX2_would 21 = .ok (.dup, 1) := by decide +kernel
theorem dX2_would_22 : decode cX2_would 22 = .ok (.ldc 159, 2) := by decide +kernel
theorem dX2_would_24 : decode cX2_would 24 = .ok (.invokespecial 44, 3) := by decide +kernel
theorem dX2_would_27 : decode cX2_would 27 = .ok (.athrow, 1) := by decide +kernel
theorem dX2_would_28 : decode cX2_would 28 = .ok (.iload_n 2, 1) := by decide +kernel
theorem dX2_would_29 : decode cX2_would 29 = .ok (.aload_n 0, 1) := by decide +kernel
theorem dX2_would_30 : decode cX2_would 30 = .ok (.aload_n 3, 1) := by decide +kernel
theorem dX2_would_31 : decode cX2_would 31 = .ok (.invokevirtual 153, 3) := by decide +kernel
theorem dX2_would_34 : decode cX2_would 34 = .ok (.isub, 1) := by decide +kernel
theorem dX2_would_35 : decode cX2_would 35 = .ok (.istore 4, 2) := by decide +kernel
theorem dX2_would_37 : decode cX2_would 37 = .ok (.iload 4, 2) := by decide +kernel
theorem dX2_would_39 : decode cX2_would 39 = .ok (.ifCond .gt 5, 3) := by decide +kernel
theorem dX2_would_42 : decode cX2_would 42 = .ok (.iconst 0, 1) := by decide +kernel
theorem dX2_would_43 : decode cX2_would 43 = .ok (.ireturn, 1) := by decide +kernel
theorem dX2_would_44 : decode cX2_would 44 = .ok (.aload_n 3, 1) := by decide +kernel
theorem dX2_would_45 : decode cX2_would 45 = .ok (.iload 4, 2) := by decide +kernel
theorem dX2_would_47 : decode cX2_would 47 = .ok (.invokevirtual 161, 3) := by decide +kernel
theorem dX2_would_50 : decode cX2_would 50 = .ok (.istore 5, 2) := by decide +kernel
theorem dX2_would_52 : decode cX2_would 52 = .ok (.iload 5, 2) := by decide +kernel
theorem dX2_would_54 : decode cX2_would 54 = .ok (.aload_n 0, 1) := by decide +kernel
theorem dX2_would_55 : decode cX2_would 55 = .ok (.invokevirtual 134, 3) := by decide +kernel
theorem dX2_would_58 : decode cX2_would 58 = .ok (.if_icmp .le 7, 3) := by decide +kernel
theorem dX2_would_61 : decode cX2_would 61 = .ok (.iconst (-1), 1) := by decide +kernel
theorem dX2_would_62 : decode cX2_would 62 = .ok (.goto 5, 3) := by decide +kernel
theorem dX2_would_65 : decode cX2_would 65 = .ok (.iload 5, 2) := by decide +kernel
theorem dX2_would_67 : decode cX2_would 67 = .ok (.ireturn, 1) := by decide +kernel
theorem dX2_gains_0 : decode cX2_gains 0 = .ok (.aload_n 0, 1) := by decide +kernel
theorem dX2_gains_1 : decode cX2_gains 1 = .ok (.aload_n 0, 1) := by decide +kernel
theorem dX2_gains_2 : decode cX2_gains 2 = .ok (.iload_n 1, 1) := by decide +kernel
theorem dX2_gains_3 : decode cX2_gains 3 = .ok (.invokevirtual 60, 3) := by decide +kernel
theorem dX2_gains_6 : decode cX2_gains 6 = .ok (.invokevirtual 164, 3) := by decide +kernel
theorem dX2_gains_9 : decode cX2_gains 9 = .ok (.ireturn, 1) := by decide +kernel
theorem dX2_advise_0 : decode cX2_advise 0 = .ok (.iconst (-1), 1) := by decide +kernel
theorem dX2_advise_1 : decode cX2_advise 1 = .ok (.istore_n 1, 1) := by decide +kernel
theorem dX2_advise_2 : decode cX2_advise 2 = .ok (.iconst (-1), 1) := by decide +kernel
theorem dX2_advise_3 : decode cX2_advise 3 = .ok (.istore_n 2, 1) := by decide +kernel
theorem dX2_advise_4 : decode cX2_advise 4 = .ok (.aload_n 0, 1) := by decide +kernel
theorem dX2_advise_5 : decode cX2_advise 5 = .ok (.getfield 17, 3) := by decide +kernel
theorem dX2_advise_8 : decode cX2_advise 8 = .ok (.astore_n 3, 1) := by decide +kernel
theorem dX2_advise_9 : decode cX2_advise 9 = .ok (.aload_n 3, 1) := by decide +kernel
theorem dX2_advise_10 : decode cX2_advise 10 = .ok (.arraylength, 1) := by decide +kernel
theorem dX2_advise_11 : decode cX2_advise 11 = .ok (.istore 4, 2) := by decide +kernel
theorem dX2_advise_13 : decode cX2_advise 13 = .ok (.iconst 0, 1) := by decide +kernel
theorem dX2_advise_14 : decode cX2_advise 14 = .ok (.istore 5, 2) := by decide +kernel
theorem dX2_advise_16 : decode cX2_advise 16 = .ok (.iload 5, 2) := by decide +kernel
theorem dX2_advise_18 : decode cX2_advise 18 = .ok (.iload 4, 2) := by decide +kernel
theorem dX2_advise_20 : decode cX2_advise 20 = .ok (.if_icmp .ge 43, 3) := by decide +kernel
theorem dX2_advise_23 : decode cX2_advise 23 = .ok (.aload_n 3, 1) := by decide +kernel
theorem dX2_advise_24 : decode cX2_advise 24 = .ok (.iload 5, 2) := by decide +kernel
theorem dX2_advise_26 : decode cX2_advise 26 = .ok (.aaload, 1) := by decide +kernel
theorem dX2_advise_27 : decode cX2_advise 27 = .ok (.astore 6, 2) := by decide +kernel
theorem dX2_advise_29 : decode cX2_advise 29 = .ok (.aload 6, 2) := by decide +kernel
theorem dX2_advise_31 : decode cX2_advise 31 = .ok (.ifnull 26, 3) := by decide +kernel
theorem dX2_advise_34 : decode cX2_advise 34 = .ok (.aload_n 0, 1) := by decide +kernel
theorem dX2_advise_35 : decode cX2_advise 35 = .ok (.aload 6, 2) := by decide +kernel
theorem dX2_advise_37 : decode cX2_advise 37 = .ok (.invokevirtual 164, 3) := by decide +kernel
theorem dX2_advise_40 : decode cX2_advise 40 = .ok (.iload_n 2, 1) := by decide +kernel
theorem dX2_advise_41 : decode cX2_advise 41 = .ok (.if_icmp .le 16, 3) := by decide +kernel
theorem dX2_advise_44 : decode cX2_advise 44 = .ok (.aload 6, 2) := by decide +kernel
theorem dX2_advise_46 : decode cX2_advise 46 = .ok (.getfield 167, 3) := by decide +kernel
theorem dX2_advise_49 : decode cX2_advise 49 = .ok (.istore_n 1, 1) := by decide +kernel
theorem dX2_advise_50 : decode cX2_advise 50 = .ok (.aload_n 0, 1) := by decide +kernel
theorem dX2_advise_51 : decode cX2_advise 51 = .ok (.aload 6, 2) := by decide +kernel
theorem dX2_advise_53 : decode cX2_advise 53 = .ok (.invokevirtual 164, 3) := by decide +kernel
theorem dX2_advise_56 : decode cX2_advise 56 = .ok (.istore_n 2, 1) := by decide +kernel
theorem dX2_advise_57 : decode cX2_advise 57 = .ok (.iinc 5 1, 3) := by decide +kernel
theorem dX2_advise_60 : decode cX2_advise 60 = .ok (.goto (-44), 3) := by decide +kernel
theorem dX2_advise_63 : decode cX2_advise 63 = .ok (.iload_n 1, 1) := by decide +kernel
theorem dX2_advise_64 : decode cX2_advise 64 = .ok (.ireturn, 1) := by decide +kernel
theorem dX2_mean_0 : decode cX2_mean 0 = .ok (.aload_n 0, 1) := by decide +kernel
theorem dX2_mean_1 : decode cX2_mean 1 = .ok (.invokevirtual 143, 3) := by decide +kernel
theorem dX2_mean_4 : decode cX2_mean 4 = .ok (.istore_n 1, 1) := by decide +kernel
theorem dX2_mean_5 : decode cX2_mean 5 = .ok (.iload_n 1, 1) := by decide +kernel
theorem dX2_mean_6 : decode cX2_mean 6 = .ok (.ifCond .ne 5, 3) := by decide +kernel
theorem dX2_mean_9 : decode cX2_mean 9 = .ok (.dconst 0, 1) := by decide +kernel
theorem dX2_mean_10 : decode cX2_mean 10 = .ok (.dreturn, 1) := by decide +kernel
theorem dX2_mean_11 : decode cX2_mean 11 = .ok (.aload_n 0, 1) := by decide +kernel
theorem dX2_mean_12 : decode cX2_mean 12 = .ok (.invokevirtual 137, 3) := by decide +kernel
theorem dX2_mean_15 : decode cX2_mean 15 = .ok (.i2d, 1) := by decide +kernel
theorem dX2_mean_16 : decode cX2_mean 16 = .ok (.iload_n 1, 1) := by decide +kernel
theorem dX2_mean_17 : decode cX2_mean 17 = .ok (.i2d, 1) := by decide +kernel
theorem dX2_mean_18 : decode cX2_mean 18 = .ok (.ddiv, 1) := by decide +kernel
theorem dX2_mean_19 : decode cX2_mean 19 = .ok (.dreturn, 1) := by decide +kernel
theorem dX2_digest_0 : decode cX2_digest 0 = .ok (.ldc2_w 170, 3) := by decide +kernel
theorem dX2_digest_3 : decode cX2_digest 3 = .ok (.lstore_n 1, 1) := by decide +kernel
theorem dX2_digest_4 : decode cX2_digest 4 = .ok (.iconst 0, 1) := by decide +kernel
theorem dX2_digest_5 : decode cX2_digest 5 = .ok (.istore_n 3, 1) := by decide +kernel
theorem dX2_digest_6 : decode cX2_digest 6 = .ok (.iload_n 3, 1) := by decide +kernel
theorem dX2_digest_7 : decode cX2_digest 7 = .ok (.bipush 10, 2) := by decide +kernel
theorem dX2_digest_9 : decode cX2_digest 9 = .ok (.if_icmp .ge 20, 3) := by decide +kernel
theorem dX2_digest_12 : decode cX2_digest 12 = .ok (.lload_n 1, 1) := by decide +kernel
theorem dX2_digest_13 : decode cX2_digest 13 = .ok (.aload_n 0, 1) := by decide +kernel
theorem dX2_digest_14 : decode cX2_digest 14 = .ok (.iload_n 3, 1) := by decide +kernel
theorem dX2_digest_15 : decode cX2_digest 15 = .ok (.invokevirtual 172, 3) := by decide +kernel
theorem dX2_digest_18 : decode cX2_digest 18 = .ok (.i2l, 1) := by decide +kernel
theorem dX2_digest_19 : decode cX2_digest 19 = .ok (.invokestatic 175, 3) := by decide +kernel
theorem dX2_digest_22 : decode cX2_digest 22 = .ok (.lstore_n 1, 1) := by decide +kernel
theorem dX2_digest_23 : decode cX2_digest 23 = .ok (.iinc 3 1, 3) := by decide +kernel
theorem dX2_digest_26 : decode cX2_digest 26 = .ok (.goto (-20), 3) := by decide +kernel
theorem dX2_digest_29 : decode cX2_digest 29 = .ok (.aload_n 0, 1) := by decide +kernel
theorem dX2_digest_30 : decode cX2_digest 30 = .ok (.getfield 11, 3) := by decide +kernel
theorem dX2_digest_33 : decode cX2_digest 33 = .ok (.astore_n 3, 1) := by decide +kernel
theorem dX2_digest_34 : decode cX2_digest 34 = .ok (.aload_n 3, 1) := by decide +kernel
theorem dX2_digest_35 : decode cX2_digest 35 = .ok (.arraylength, 1) := by decide +kernel
theorem dX2_digest_36 : decode cX2_digest 36 = .ok (.istore 4, 2) := by decide +kernel
theorem dX2_digest_38 : decode cX2_digest 38 = .ok (.iconst 0, 1) := by decide +kernel
theorem dX2_digest_39 : decode cX2_digest 39 = .ok (.istore 5, 2) := by decide +kernel
theorem dX2_digest_41 : decode cX2_digest 41 = .ok (.iload 5, 2) := by decide +kernel
theorem dX2_digest_43 : decode cX2_digest 43 = .ok (.iload 4, 2) := by decide +kernel
theorem dX2_digest_45 : decode cX2_digest 45 = .ok (.if_icmp .ge 22, 3) := by decide +kernel
theorem dX2_digest_48 : decode cX2_digest 48 = .ok (.aload_n 3, 1) := by decide +kernel
theorem dX2_digest_49 : decode cX2_digest 49 = .ok (.iload 5, 2) := by decide +kernel
theorem dX2_digest_51 : decode cX2_digest 51 = .ok (.aaload, 1) := by decide +kernel
theorem dX2_digest_52 : decode cX2_digest 52 = .ok (.astore 6, 2) := by decide +kernel
theorem dX2_digest_54 : decode cX2_digest 54 = .ok (.lload_n 1, 1) := by decide +kernel
theorem dX2_digest_55 : decode cX2_digest 55 = .ok (.aload 6, 2) := by decide +kernel
theorem dX2_digest_57 : decode cX2_digest 57 = .ok (.invokestatic 179, 3) := by decide +kernel
theorem dX2_digest_60 : decode cX2_digest 60 = .ok (.lstore_n 1, 1) := by decide +kernel
theorem dX2_digest_61 : decode cX2_digest 61 = .ok (.iinc 5 1, 3) := by decide +kernel
theorem dX2_digest_64 : decode cX2_digest 64 = .ok (.goto (-23), 3) := by decide +kernel
theorem dX2_digest_67 : decode cX2_digest 67 = .ok (.aload_n 0, 1) := by decide +kernel
theorem dX2_digest_68 : decode cX2_digest 68 = .ok (.getfield 17, 3) := by decide +kernel
theorem dX2_digest_71 : decode cX2_digest 71 = .ok (.astore_n 3, 1) := by decide +kernel
theorem dX2_digest_72 : decode cX2_digest 72 = .ok (.aload_n 3, 1) := by decide +kernel
theorem dX2_digest_73 : decode cX2_digest 73 = .ok (.arraylength, 1) := by decide +kernel
theorem dX2_digest_74 : decode cX2_digest 74 = .ok (.istore 4, 2) := by decide +kernel
theorem dX2_digest_76 : decode cX2_digest 76 = .ok (.iconst 0, 1) := by decide +kernel
theorem dX2_digest_77 : decode cX2_digest 77 = .ok (.istore 5, 2) := by decide +kernel
theorem dX2_digest_79 : decode cX2_digest 79 = .ok (.iload 5, 2) := by decide +kernel
theorem dX2_digest_81 : decode cX2_digest 81 = .ok (.iload 4, 2) := by decide +kernel
theorem dX2_digest_83 : decode cX2_digest 83 = .ok (.if_icmp .ge 28, 3) := by decide +kernel
theorem dX2_digest_86 : decode cX2_digest 86 = .ok (.aload_n 3, 1) := by decide +kernel
theorem dX2_digest_87 : decode cX2_digest 87 = .ok (.iload 5, 2) := by decide +kernel
theorem dX2_digest_89 : decode cX2_digest 89 = .ok (.aaload, 1) := by decide +kernel
theorem dX2_digest_90 : decode cX2_digest 90 = .ok (.astore 6, 2) := by decide +kernel
theorem dX2_digest_92 : decode cX2_digest 92 = .ok (.aload 6, 2) := by decide +kernel
theorem dX2_digest_94 : decode cX2_digest 94 = .ok (.ifnull 11, 3) := by decide +kernel
theorem dX2_digest_97 : decode cX2_digest 97 = .ok (.aload_n 0, 1) := by decide +kernel
theorem dX2_digest_98 : decode cX2_digest 98 = .ok (.lload_n 1, 1) := by decide +kernel
theorem dX2_digest_99 : decode cX2_digest 99 = .ok (.aload 6, 2) := by decide +kernel
theorem dX2_digest_101 : decode cX2_digest 101 = .ok (.invokevirtual 183, 3) := by decide +kernel
theorem dX2_digest_104 : decode cX2_digest 104 = .ok (.lstore_n 1, 1) := by decide +kernel
theorem dX2_digest_105 : decode cX2_digest 105 = .ok (.iinc 5 1, 3) := by decide +kernel
theorem dX2_digest_108 : decode cX2_digest 108 = .ok (.goto (-29), 3) := by decide +kernel
theorem dX2_digest_111 : decode cX2_digest 111 = .ok (.lload_n 1, 1) := by decide +kernel
theorem dX2_digest_112 : decode cX2_digest 112 = .ok (.lreturn, 1) := by decide +kernel
theorem dX2_kindOf_0 : decode cX2_kindOf 0 = .ok (.iload_n 1, 1) := by decide +kernel
theorem dX2_kindOf_1 : decode cX2_kindOf 1 = .ok (.ifCond .lt 21, 3) := by decide +kernel
theorem dX2_kindOf_4 : decode cX2_kindOf 4 = .ok (.iload_n 1, 1) := by decide +kernel
theorem dX2_kindOf_5 : decode cX2_kindOf 5 = .ok (.aload_n 0, 1) := by decide +kernel
theorem dX2_kindOf_6 : decode cX2_kindOf 6 = .ok (.getfield 17, 3) := by decide +kernel
theorem dX2_kindOf_9 : decode cX2_kindOf 9 = .ok (.arraylength, 1) := by decide +kernel
theorem dX2_kindOf_10 : decode cX2_kindOf 10 = .ok (.if_icmp .ge 12, 3) := by decide +kernel
theorem dX2_kindOf_13 : decode cX2_kindOf 13 = .ok (.aload_n 0, 1) := by decide +kernel
theorem dX2_kindOf_14 : decode cX2_kindOf 14 = .ok (.getfield 17, 3) := by decide +kernel
theorem dX2_kindOf_17 : decode cX2_kindOf 17 = .ok (.iload_n 1, 1) := by decide +kernel
theorem dX2_kindOf_18 : decode cX2_kindOf 18 = .ok (.aaload, 1) := by decide +kernel
theorem dX2_kindOf_19 : decode cX2_kindOf 19 = .ok (.ifnonnull 13, 3) := by decide +kernel
theorem dX2_kindOf_22 : decode cX2_kindOf 22 = .ok (.new 55, 3) := by decide +kernel
theorem dX2_kindOf_25 : decode cX2_kindOf 25 = .ok (.dup, 1) := by decide +kernel
theorem dX2_kindOf_26 : decode cX2_kindOf 26 = .ok (.ldc 187, 2) := by decide +kernel
theorem dX2_kindOf_28 : decode cX2_kindOf 28 = .ok (.invokespecial 59, 3) := by decide +kernel
theorem dX2_kindOf_31 : decode cX2_kindOf 31 = .ok (.athrow, 1) := by decide +kernel
theorem dX2_kindOf_32 : decode cX2_kindOf 32 = .ok (.aload_n 0, 1) := by decide +kernel
theorem dX2_kindOf_33 : decode cX2_kindOf 33 = .ok (.getfield 17, 3) := by decide +kernel
theorem dX2_kindOf_36 : decode cX2_kindOf 36 = .ok (.iload_n 1, 1) := by decide +kernel
theorem dX2_kindOf_37 : decode cX2_kindOf 37 = .ok (.aaload, 1) := by decide +kernel
theorem dX2_kindOf_38 : decode cX2_kindOf 38 = .ok (.areturn, 1) := by decide +kernel
theorem dX2_shelfAt_0 : decode cX2_shelfAt 0 = .ok (.iload_n 1, 1) := by decide +kernel
theorem dX2_shelfAt_1 : decode cX2_shelfAt 1 = .ok (.ifCond .lt 10, 3) := by decide +kernel
theorem dX2_shelfAt_4 : decode cX2_shelfAt 4 = .ok (.iload_n 1, 1) := by decide +kernel
theorem dX2_shelfAt_5 : decode cX2_shelfAt 5 = .ok (.sipush 288, 3) := by decide +kernel
theorem dX2_shelfAt_8 : decode cX2_shelfAt 8 = .ok (.if_icmp .lt 13, 3) := by decide +kernel
theorem dX2_shelfAt_11 : decode cX2_shelfAt 11 = .ok (.new 55, 3) := by decide +kernel
theorem dX2_shelfAt_14 : decode cX2_shelfAt 14 = .ok (.dup, 1) := by decide +kernel
theorem dX2_shelfAt_15 : decode cX2_shelfAt 15 = .ok (.ldc 189, 2) := by decide +kernel
theorem dX2_shelfAt_17 : decode cX2_shelfAt 17 = .ok (.invokespecial 59, 3) := by decide +kernel
theorem dX2_shelfAt_20 : decode cX2_shelfAt 20 = .ok (.athrow, 1) := by decide +kernel
theorem dX2_shelfAt_21 : decode cX2_shelfAt 21 = .ok (.aload_n 0, 1) := by decide +kernel
theorem dX2_shelfAt_22 : decode cX2_shelfAt 22 = .ok (.getfield 11, 3) := by decide +kernel
theorem dX2_shelfAt_25 : decode cX2_shelfAt 25 = .ok (.iload_n 1, 1) := by decide +kernel
theorem dX2_shelfAt_26 : decode cX2_shelfAt 26 = .ok (.bipush 24, 2) := by decide +kernel
theorem dX2_shelfAt_28 : decode cX2_shelfAt 28 = .ok (.idiv, 1) := by decide +kernel
theorem dX2_shelfAt_29 : decode cX2_shelfAt 29 = .ok (.aaload, 1) := by decide +kernel
theorem dX2_shelfAt_30 : decode cX2_shelfAt 30 = .ok (.areturn, 1) := by decide +kernel
theorem dX2_requireAnswer_0 : decode cX2_requireAnswer 0 = .ok (.iload_n 0, 1) := by decide +kernel
theorem dX2_requireAnswer_1 : decode cX2_requireAnswer 1 = .ok (.ifCond .lt 8, 3) := by decide +kernel
theorem dX2_requireAnswer_4 : decode cX2_requireAnswer 4 = .ok (.iload_n 0, 1) := by decide +kernel
theorem dX2_requireAnswer_5 : decode cX2_requireAnswer 5 = .ok (.iload_n 1, 1) := by decide +kernel
theorem dX2_requireAnswer_6 : decode cX2_requireAnswer 6 = .ok (.if_icmp .lt 13, 3) := by decide +kernel
theorem dX2_requireAnswer_9 : decode cX2_requireAnswer 9 = .ok (.new 55, 3) := by decide +kernel
theorem dX2_requireAnswer_12 : decode cX2_requireAnswer 12 = .ok (.dup, 1) := by decide +kernel
theorem dX2_requireAnswer_13 : decode cX2_requireAnswer 13 = .ok (.ldc 191, 2) := by decide +kernel
theorem dX2_requireAnswer_15 : decode cX2_requireAnswer 15 = .ok (.invokespecial 59, 3) := by decide +kernel
theorem dX2_requireAnswer_18 : decode cX2_requireAnswer 18 = .ok (.athrow, 1) := by decide +kernel
theorem dX2_requireAnswer_19 : decode cX2_requireAnswer 19 = .ok (.return_, 1) := by decide +kernel
theorem dX2_answerAbout_0 : decode cX2_answerAbout 0 = .ok (.iload_n 2, 1) := by decide +kernel
theorem dX2_answerAbout_1 : decode cX2_answerAbout 1 = .ok (.tableswitch 95 0 7 #[47, 52, 57, 62, 68, 75, 82, 89], 47) := by decide +kernel
theorem dX2_answerAbout_48 : decode cX2_answerAbout 48 = .ok (.aload_n 1, 1) := by decide +kernel
theorem dX2_answerAbout_49 : decode cX2_answerAbout 49 = .ok (.getfield 193, 3) := by decide +kernel
theorem dX2_answerAbout_52 : decode cX2_answerAbout 52 = .ok (.ireturn, 1) := by decide +kernel
theorem dX2_answerAbout_53 : decode cX2_answerAbout 53 = .ok (.aload_n 1, 1) := by decide +kernel
theorem dX2_answerAbout_54 : decode cX2_answerAbout 54 = .ok (.getfield 156, 3) := by decide +kernel
theorem dX2_answerAbout_57 : decode cX2_answerAbout 57 = .ok (.ireturn, 1) := by decide +kernel
theorem dX2_answerAbout_58 : decode cX2_answerAbout 58 = .ok (.aload_n 1, 1) := by decide +kernel
theorem dX2_answerAbout_59 : decode cX2_answerAbout 59 = .ok (.getfield 196, 3) := by decide +kernel
theorem dX2_answerAbout_62 : decode cX2_answerAbout 62 = .ok (.ireturn, 1) := by decide +kernel
theorem dX2_answerAbout_63 : decode cX2_answerAbout 63 = .ok (.aload_n 0, 1) := by decide +kernel
theorem dX2_answerAbout_64 : decode cX2_answerAbout 64 = .ok (.aload_n 1, 1) := by decide +kernel
theorem dX2_answerAbout_65 : decode cX2_answerAbout 65 = .ok (.invokevirtual 199, 3) := by decide +kernel
theorem dX2_answerAbout_68 : decode cX2_answerAbout 68 = .ok (.ireturn, 1) := by decide +kernel
theorem dX2_answerAbout_69 : decode cX2_answerAbout 69 = .ok (.aload_n 0, 1) := by decide +kernel
theorem dX2_answerAbout_70 : decode cX2_answerAbout 70 = .ok (.aload_n 1, 1) := by decide +kernel
theorem dX2_answerAbout_71 : decode cX2_answerAbout 71 = .ok (.iconst 3, 1) := by decide +kernel
theorem dX2_answerAbout_72 : decode cX2_answerAbout 72 = .ok (.invokevirtual 202, 3) := by decide +kernel
theorem dX2_answerAbout_75 : decode cX2_answerAbout 75 = .ok (.ireturn, 1) := by decide +kernel
theorem dX2_answerAbout_76 : decode cX2_answerAbout 76 = .ok (.aload_n 0, 1) := by decide +kernel
theorem dX2_answerAbout_77 : decode cX2_answerAbout 77 = .ok (.aload_n 1, 1) := by decide +kernel
theorem dX2_answerAbout_78 : decode cX2_answerAbout 78 = .ok (.iconst 2, 1) := by decide +kernel
theorem dX2_answerAbout_79 : decode cX2_answerAbout 79 = .ok (.invokevirtual 202, 3) := by decide +kernel
theorem dX2_answerAbout_82 : decode cX2_answerAbout 82 = .ok (.ireturn, 1) := by decide +kernel
theorem dX2_answerAbout_83 : decode cX2_answerAbout 83 = .ok (.aload_n 0, 1) := by decide +kernel
theorem dX2_answerAbout_84 : decode cX2_answerAbout 84 = .ok (.aload_n 1, 1) := by decide +kernel
theorem dX2_answerAbout_85 : decode cX2_answerAbout 85 = .ok (.iconst 1, 1) := by decide +kernel
theorem dX2_answerAbout_86 : decode cX2_answerAbout 86 = .ok (.invokevirtual 202, 3) := by decide +kernel
theorem dX2_answerAbout_89 : decode cX2_answerAbout 89 = .ok (.ireturn, 1) := by decide +kernel
theorem dX2_answerAbout_90 : decode cX2_answerAbout 90 = .ok (.aload_n 0, 1) := by decide +kernel
theorem dX2_answerAbout_91 : decode cX2_answerAbout 91 = .ok (.aload_n 1, 1) := by decide +kernel
theorem dX2_answerAbout_92 : decode cX2_answerAbout 92 = .ok (.invokevirtual 205, 3) := by decide +kernel
theorem dX2_answerAbout_95 : decode cX2_answerAbout 95 = .ok (.ireturn, 1) := by decide +kernel
theorem dX2_answerAbout_96 : decode cX2_answerAbout 96 = .ok (.aload_n 1, 1) := by decide +kernel
theorem dX2_answerAbout_97 : decode cX2_answerAbout 97 = .ok (.getfield 208, 3) := by decide +kernel
theorem dX2_answerAbout_100 : decode cX2_answerAbout 100 = .ok (.ireturn, 1) := by decide +kernel
theorem dX2_nextSpot_0 : decode cX2_nextSpot 0 = .ok (.aload_n 0, 1) := by decide +kernel
theorem dX2_nextSpot_1 : decode cX2_nextSpot 1 = .ok (.aload_n 1, 1) := by decide +kernel
theorem dX2_nextSpot_2 : decode cX2_nextSpot 2 = .ok (.invokevirtual 64, 3) := by decide +kernel
theorem dX2_nextSpot_5 : decode cX2_nextSpot 5 = .ok (.astore_n 2, 1) := by decide +kernel
theorem dX2_nextSpot_6 : decode cX2_nextSpot 6 = .ok (.aload_n 2, 1) := by decide +kernel
theorem dX2_nextSpot_7 : decode cX2_nextSpot 7 = .ok (.ifnonnull 5, 3) := by decide +kernel
theorem dX2_nextSpot_10 : decode cX2_nextSpot 10 = .ok (.iconst (-1), 1) := by decide +kernel
theorem dX2_nextSpot_11 : decode cX2_nextSpot 11 = .ok (.ireturn, 1) := by decide +kernel
theorem dX2_nextSpot_12 : decode cX2_nextSpot 12 = .ok (.aload_n 2, 1) := by decide +kernel
theorem dX2_nextSpot_13 : decode cX2_nextSpot 13 = .ok (.invokevirtual 70, 3) := by decide +kernel
theorem dX2_nextSpot_16 : decode cX2_nextSpot 16 = .ok (.ifCond .ne 13, 3) := by decide +kernel
theorem dX2_nextSpot_19 : decode cX2_nextSpot 19 = .ok (.aload_n 2, 1) := by decide +kernel
theorem dX2_nextSpot_20 : decode cX2_nextSpot 20 = .ok (.getfield 211, 3) := by decide +kernel
theorem dX2_nextSpot_23 : decode cX2_nextSpot 23 = .ok (.aload_n 1, 1) := by decide +kernel
theorem dX2_nextSpot_24 : decode cX2_nextSpot 24 = .ok (.getfield 214, 3) := by decide +kernel
theorem dX2_nextSpot_27 : decode cX2_nextSpot 27 = .ok (.iadd, 1) := by decide +kernel
theorem dX2_nextSpot_28 : decode cX2_nextSpot 28 = .ok (.ireturn, 1) := by decide +kernel
theorem dX2_nextSpot_29 : decode cX2_nextSpot 29 = .ok (.aload_n 2, 1) := by decide +kernel
theorem dX2_nextSpot_30 : decode cX2_nextSpot 30 = .ok (.aload_n 2, 1) := by decide +kernel
theorem dX2_nextSpot_31 : decode cX2_nextSpot 31 = .ok (.invokevirtual 78, 3) := by decide +kernel
theorem dX2_nextSpot_34 : decode cX2_nextSpot 34 = .ok (.invokevirtual 84, 3) := by decide +kernel
theorem dX2_nextSpot_37 : decode cX2_nextSpot 37 = .ok (.ireturn, 1) := by decide +kernel
theorem dX2_shelfToPut_0 : decode cX2_shelfToPut 0 = .ok (.aload_n 0, 1) := by decide +kernel
theorem dX2_shelfToPut_1 : decode cX2_shelfToPut 1 = .ok (.aload_n 1, 1) := by decide +kernel
theorem dX2_shelfToPut_2 : decode cX2_shelfToPut 2 = .ok (.invokevirtual 217, 3) := by decide +kernel
theorem dX2_shelfToPut_5 : decode cX2_shelfToPut 5 = .ok (.astore_n 2, 1) := by decide +kernel
theorem dX2_shelfToPut_6 : decode cX2_shelfToPut 6 = .ok (.aload_n 2, 1) := by decide +kernel
theorem dX2_shelfToPut_7 : decode cX2_shelfToPut 7 = .ok (.ifnonnull 10, 3) := by decide +kernel
theorem dX2_shelfToPut_10 : decode cX2_shelfToPut 10 = .ok (.aload_n 0, 1) := by decide +kernel
theorem dX2_shelfToPut_11 : decode cX2_shelfToPut 11 = .ok (.aload_n 1, 1) := by decide +kernel
theorem dX2_shelfToPut_12 : decode cX2_shelfToPut 12 = .ok (.iconst 1, 1) := by decide +kernel
theorem dX2_shelfToPut_13 : decode cX2_shelfToPut 13 = .ok (.invokevirtual 220, 3) := by decide +kernel
theorem dX2_shelfToPut_16 : decode cX2_shelfToPut 16 = .ok (.astore_n 2, 1) := by decide +kernel
theorem dX2_shelfToPut_17 : decode cX2_shelfToPut 17 = .ok (.aload_n 2, 1) := by decide +kernel
theorem dX2_shelfToPut_18 : decode cX2_shelfToPut 18 = .ok (.ifnonnull 10, 3) := by decide +kernel
theorem dX2_shelfToPut_21 : decode cX2_shelfToPut 21 = .ok (.aload_n 0, 1) := by decide +kernel
theorem dX2_shelfToPut_22 : decode cX2_shelfToPut 22 = .ok (.invokevirtual 224, 3) := by decide +kernel
theorem dX2_shelfToPut_25 : decode cX2_shelfToPut 25 = .ok (.goto 4, 3) := by decide +kernel
theorem dX2_shelfToPut_28 : decode cX2_shelfToPut 28 = .ok (.aload_n 2, 1) := by decide +kernel
theorem dX2_shelfToPut_29 : decode cX2_shelfToPut 29 = .ok (.areturn, 1) := by decide +kernel
theorem dX2_inUseByWay_0 : decode cX2_inUseByWay 0 = .ok (.aload_n 0, 1) := by decide +kernel
theorem dX2_inUseByWay_1 : decode cX2_inUseByWay 1 = .ok (.getfield 25, 3) := by decide +kernel
theorem dX2_inUseByWay_4 : decode cX2_inUseByWay 4 = .ok (.lookupswitch 41 #[(1, 28), (2, 35)], 28) := by decide +kernel
theorem dX2_inUseByWay_32 : decode cX2_inUseByWay 32 = .ok (.aload_n 0, 1) := by decide +kernel
theorem dX2_inUseByWay_33 : decode cX2_inUseByWay 33 = .ok (.aload_n 1, 1) := by decide +kernel
theorem dX2_inUseByWay_34 : decode cX2_inUseByWay 34 = .ok (.aconst_null, 1) := by decide +kernel
theorem dX2_inUseByWay_35 : decode cX2_inUseByWay 35 = .ok (.invokevirtual 228, 3) := by decide +kernel
theorem dX2_inUseByWay_38 : decode cX2_inUseByWay 38 = .ok (.areturn, 1) := by decide +kernel
theorem dX2_inUseByWay_39 : decode cX2_inUseByWay 39 = .ok (.aload_n 0, 1) := by decide +kernel
theorem dX2_inUseByWay_40 : decode cX2_inUseByWay 40 = .ok (.aload_n 1, 1) := by decide +kernel
theorem dX2_inUseByWay_41 : decode cX2_inUseByWay 41 = .ok (.invokevirtual 232, 3) := by decide +kernel
theorem dX2_inUseByWay_44 : decode cX2_inUseByWay 44 = .ok (.areturn, 1) := by decide +kernel
theorem dX2_inUseByWay_45 : decode cX2_inUseByWay 45 = .ok (.aload_n 0, 1) := by decide +kernel
theorem dX2_inUseByWay_46 : decode cX2_inUseByWay 46 = .ok (.aload_n 1, 1) := by decide +kernel
theorem dX2_inUseByWay_47 : decode cX2_inUseByWay 47 = .ok (.iconst 2, 1) := by decide +kernel
theorem dX2_inUseByWay_48 : decode cX2_inUseByWay 48 = .ok (.invokevirtual 220, 3) := by decide +kernel
theorem dX2_inUseByWay_51 : decode cX2_inUseByWay 51 = .ok (.areturn, 1) := by decide +kernel
theorem dX2_firstInState_0 : decode cX2_firstInState 0 = .ok (.aload_n 0, 1) := by decide +kernel
theorem dX2_firstInState_1 : decode cX2_firstInState 1 = .ok (.getfield 11, 3) := by decide +kernel
theorem dX2_firstInState_4 : decode cX2_firstInState 4 = .ok (.astore_n 3, 1) := by decide +kernel
theorem dX2_firstInState_5 : decode cX2_firstInState 5 = .ok (.aload_n 3, 1) := by decide +kernel
theorem dX2_firstInState_6 : decode cX2_firstInState 6 = .ok (.arraylength, 1) := by decide +kernel
theorem dX2_firstInState_7 : decode cX2_firstInState 7 = .ok (.istore 4, 2) := by decide +kernel
theorem dX2_firstInState_9 : decode cX2_firstInState 9 = .ok (.iconst 0, 1) := by decide +kernel
theorem dX2_firstInState_10 : decode cX2_firstInState 10 = .ok (.istore 5, 2) := by decide +kernel
theorem dX2_firstInState_12 : decode cX2_firstInState 12 = .ok (.iload 5, 2) := by decide +kernel
theorem dX2_firstInState_14 : decode cX2_firstInState 14 = .ok (.iload 4, 2) := by decide +kernel
theorem dX2_firstInState_16 : decode cX2_firstInState 16 = .ok (.if_icmp .ge 36, 3) := by decide +kernel
theorem dX2_firstInState_19 : decode cX2_firstInState 19 = .ok (.aload_n 3, 1) := by decide +kernel
theorem dX2_firstInState_20 : decode cX2_firstInState 20 = .ok (.iload 5, 2) := by decide +kernel
theorem dX2_firstInState_22 : decode cX2_firstInState 22 = .ok (.aaload, 1) := by decide +kernel
theorem dX2_firstInState_23 : decode cX2_firstInState 23 = .ok (.astore 6, 2) := by decide +kernel
theorem dX2_firstInState_25 : decode cX2_firstInState 25 = .ok (.aload 6, 2) := by decide +kernel
theorem dX2_firstInState_27 : decode cX2_firstInState 27 = .ok (.aload_n 1, 1) := by decide +kernel
theorem dX2_firstInState_28 : decode cX2_firstInState 28 = .ok (.invokevirtual 235, 3) := by decide +kernel
theorem dX2_firstInState_31 : decode cX2_firstInState 31 = .ok (.ifCond .eq 15, 3) := by decide +kernel
theorem dX2_firstInState_34 : decode cX2_firstInState 34 = .ok (.aload 6, 2) := by decide +kernel
theorem dX2_firstInState_36 : decode cX2_firstInState 36 = .ok (.invokevirtual 70, 3) := by decide +kernel
theorem dX2_firstInState_39 : decode cX2_firstInState 39 = .ok (.iload_n 2, 1) := by decide +kernel
theorem dX2_firstInState_40 : decode cX2_firstInState 40 = .ok (.if_icmp .ne 6, 3) := by decide +kernel
theorem dX2_firstInState_43 : decode cX2_firstInState 43 = .ok (.aload 6, 2) := by decide +kernel
theorem dX2_firstInState_45 : decode cX2_firstInState 45 = .ok (.areturn, 1) := by decide +kernel
theorem dX2_firstInState_46 : decode cX2_firstInState 46 = .ok (.iinc 5 1, 3) := by decide +kernel
theorem dX2_firstInState_49 : decode cX2_firstInState 49 = .ok (.goto (-37), 3) := by decide +kernel
theorem dX2_firstInState_52 : decode cX2_firstInState 52 = .ok (.aconst_null, 1) := by decide +kernel
theorem dX2_firstInState_53 : decode cX2_firstInState 53 = .ok (.areturn, 1) := by decide +kernel
theorem dX2_firstFree_0 : decode cX2_firstFree 0 = .ok (.aload_n 0, 1) := by decide +kernel
theorem dX2_firstFree_1 : decode cX2_firstFree 1 = .ok (.getfield 11, 3) := by decide +kernel
theorem dX2_firstFree_4 : decode cX2_firstFree 4 = .ok (.astore_n 1, 1) := by decide +kernel
theorem dX2_firstFree_5 : decode cX2_firstFree 5 = .ok (.aload_n 1, 1) := by decide +kernel
theorem dX2_firstFree_6 : decode cX2_firstFree 6 = .ok (.arraylength, 1) := by decide +kernel
theorem dX2_firstFree_7 : decode cX2_firstFree 7 = .ok (.istore_n 2, 1) := by decide +kernel
theorem dX2_firstFree_8 : decode cX2_firstFree 8 = .ok (.iconst 0, 1) := by decide +kernel
theorem dX2_firstFree_9 : decode cX2_firstFree 9 = .ok (.istore_n 3, 1) := by decide +kernel
theorem dX2_firstFree_10 : decode cX2_firstFree 10 = .ok (.iload_n 3, 1) := by decide +kernel
theorem dX2_firstFree_11 : decode cX2_firstFree 11 = .ok (.iload_n 2, 1) := by decide +kernel
theorem dX2_firstFree_12 : decode cX2_firstFree 12 = .ok (.if_icmp .ge 25, 3) := by decide +kernel
theorem dX2_firstFree_15 : decode cX2_firstFree 15 = .ok (.aload_n 1, 1) := by decide +kernel
theorem dX2_firstFree_16 : decode cX2_firstFree 16 = .ok (.iload_n 3, 1) := by decide +kernel
theorem dX2_firstFree_17 : decode cX2_firstFree 17 = .ok (.aaload, 1) := by decide +kernel
theorem dX2_firstFree_18 : decode cX2_firstFree 18 = .ok (.astore 4, 2) := by decide +kernel
theorem dX2_firstFree_20 : decode cX2_firstFree 20 = .ok (.aload 4, 2) := by decide +kernel
theorem dX2_firstFree_22 : decode cX2_firstFree 22 = .ok (.invokevirtual 70, 3) := by decide +kernel
theorem dX2_firstFree_25 : decode cX2_firstFree 25 = .ok (.ifCond .ne 6, 3) := by decide +kernel
theorem dX2_firstFree_28 : decode cX2_firstFree 28 = .ok (.aload 4, 2) := by decide +kernel
theorem dX2_firstFree_30 : decode cX2_firstFree 30 = .ok (.areturn, 1) := by decide +kernel
theorem dX2_firstFree_31 : decode cX2_firstFree 31 = .ok (.iinc 3 1, 3) := by decide +kernel
theorem dX2_firstFree_34 : decode cX2_firstFree 34 = .ok (.goto (-24), 3) := by decide +kernel
theorem dX2_firstFree_37 : decode cX2_firstFree 37 = .ok (.aconst_null, 1) := by decide +kernel
theorem dX2_firstFree_38 : decode cX2_firstFree 38 = .ok (.areturn, 1) := by decide +kernel
theorem dX2_mostBowls_0 : decode cX2_mostBowls 0 = .ok (.aconst_null, 1) := by decide +kernel
theorem dX2_mostBowls_1 : decode cX2_mostBowls 1 = .ok (.astore_n 3, 1) := by decide +kernel
theorem dX2_mostBowls_2 : decode cX2_mostBowls 2 = .ok (.aload_n 0, 1) := by decide +kernel
theorem dX2_mostBowls_3 : decode cX2_mostBowls 3 = .ok (.getfield 11, 3) := by decide +kernel
theorem dX2_mostBowls_6 : decode cX2_mostBowls 6 = .ok (.astore 4, 2) := by decide +kernel
theorem dX2_mostBowls_8 : decode cX2_mostBowls 8 = .ok (.aload 4, 2) := by decide +kernel
theorem dX2_mostBowls_10 : decode cX2_mostBowls 10 = .ok (.arraylength, 1) := by decide +kernel
theorem dX2_mostBowls_11 : decode cX2_mostBowls 11 = .ok (.istore 5, 2) := by decide +kernel
theorem dX2_mostBowls_13 : decode cX2_mostBowls 13 = .ok (.iconst 0, 1) := by decide +kernel
theorem dX2_mostBowls_14 : decode cX2_mostBowls 14 = .ok (.istore 6, 2) := by decide +kernel
theorem dX2_mostBowls_16 : decode cX2_mostBowls 16 = .ok (.iload 6, 2) := by decide +kernel
theorem dX2_mostBowls_18 : decode cX2_mostBowls 18 = .ok (.iload 5, 2) := by decide +kernel
theorem dX2_mostBowls_20 : decode cX2_mostBowls 20 = .ok (.if_icmp .ge 59, 3) := by decide +kernel
theorem dX2_mostBowls_23 : decode cX2_mostBowls 23 = .ok (.aload 4, 2) := by decide +kernel
theorem dX2_mostBowls_25 : decode cX2_mostBowls 25 = .ok (.iload 6, 2) := by decide +kernel
theorem dX2_mostBowls_27 : decode cX2_mostBowls 27 = .ok (.aaload, 1) := by decide +kernel
theorem dX2_mostBowls_28 : decode cX2_mostBowls 28 = .ok (.astore 7, 2) := by decide +kernel
theorem dX2_mostBowls_30 : decode cX2_mostBowls 30 = .ok (.aload 7, 2) := by decide +kernel
theorem dX2_mostBowls_32 : decode cX2_mostBowls 32 = .ok (.aload_n 2, 1) := by decide +kernel
theorem dX2_mostBowls_33 : decode cX2_mostBowls 33 = .ok (.if_acmp .eq 40, 3) := by decide +kernel
theorem dX2_mostBowls_36 : decode cX2_mostBowls 36 = .ok (.aload 7, 2) := by decide +kernel
theorem dX2_mostBowls_38 : decode cX2_mostBowls 38 = .ok (.aload_n 1, 1) := by decide +kernel
theorem dX2_mostBowls_39 : decode cX2_mostBowls 39 = .ok (.invokevirtual 235, 3) := by decide +kernel
theorem dX2_mostBowls_42 : decode cX2_mostBowls 42 = .ok (.ifCond .eq 31, 3) := by decide +kernel
theorem dX2_mostBowls_45 : decode cX2_mostBowls 45 = .ok (.aload 7, 2) := by decide +kernel
theorem dX2_mostBowls_47 : decode cX2_mostBowls 47 = .ok (.invokevirtual 70, 3) := by decide +kernel
theorem dX2_mostBowls_50 : decode cX2_mostBowls 50 = .ok (.iconst 2, 1) := by decide +kernel
theorem dX2_mostBowls_51 : decode cX2_mostBowls 51 = .ok (.if_icmp .ne 22, 3) := by decide +kernel
theorem dX2_mostBowls_54 : decode cX2_mostBowls 54 = .ok (.aload_n 3, 1) := by decide +kernel
theorem dX2_mostBowls_55 : decode cX2_mostBowls 55 = .ok (.ifnull 15, 3) := by decide +kernel
theorem dX2_mostBowls_58 : decode cX2_mostBowls 58 = .ok (.aload 7, 2) := by decide +kernel
theorem dX2_mostBowls_60 : decode cX2_mostBowls 60 = .ok (.getfield 104, 3) := by decide +kernel
theorem dX2_mostBowls_63 : decode cX2_mostBowls 63 = .ok (.aload_n 3, 1) := by decide +kernel
theorem dX2_mostBowls_64 : decode cX2_mostBowls 64 = .ok (.getfield 104, 3) := by decide +kernel
theorem dX2_mostBowls_67 : decode cX2_mostBowls 67 = .ok (.if_icmp .le 6, 3) := by decide +kernel
theorem dX2_mostBowls_70 : decode cX2_mostBowls 70 = .ok (.aload 7, 2) := by decide +kernel
theorem dX2_mostBowls_72 : decode cX2_mostBowls 72 = .ok (.astore_n 3, 1) := by decide +kernel
theorem dX2_mostBowls_73 : decode cX2_mostBowls 73 = .ok (.iinc 6 1, 3) := by decide +kernel
theorem dX2_mostBowls_76 : decode cX2_mostBowls 76 = .ok (.goto (-60), 3) := by decide +kernel
theorem dX2_mostBowls_79 : decode cX2_mostBowls 79 = .ok (.aload_n 3, 1) := by decide +kernel
theorem dX2_mostBowls_80 : decode cX2_mostBowls 80 = .ok (.areturn, 1) := by decide +kernel
theorem dX2_fewestBowls_0 : decode cX2_fewestBowls 0 = .ok (.aconst_null, 1) := by decide +kernel
theorem dX2_fewestBowls_1 : decode cX2_fewestBowls 1 = .ok (.astore_n 2, 1) := by decide +kernel
theorem dX2_fewestBowls_2 : decode cX2_fewestBowls 2 = .ok (.aload_n 0, 1) := by decide +kernel
theorem dX2_fewestBowls_3 : decode cX2_fewestBowls 3 = .ok (.getfield 11, 3) := by decide +kernel
theorem dX2_fewestBowls_6 : decode cX2_fewestBowls 6 = .ok (.astore_n 3, 1) := by decide +kernel
theorem dX2_fewestBowls_7 : decode cX2_fewestBowls 7 = .ok (.aload_n 3, 1) := by decide +kernel
theorem dX2_fewestBowls_8 : decode cX2_fewestBowls 8 = .ok (.arraylength, 1) := by decide +kernel
theorem dX2_fewestBowls_9 : decode cX2_fewestBowls 9 = .ok (.istore 4, 2) := by decide +kernel
theorem dX2_fewestBowls_11 : decode cX2_fewestBowls 11 = .ok (.iconst 0, 1) := by decide +kernel
theorem dX2_fewestBowls_12 : decode cX2_fewestBowls 12 = .ok (.istore 5, 2) := by decide +kernel
theorem dX2_fewestBowls_14 : decode cX2_fewestBowls 14 = .ok (.iload 5, 2) := by decide +kernel
theorem dX2_fewestBowls_16 : decode cX2_fewestBowls 16 = .ok (.iload 4, 2) := by decide +kernel
theorem dX2_fewestBowls_18 : decode cX2_fewestBowls 18 = .ok (.if_icmp .ge 52, 3) := by decide +kernel
theorem dX2_fewestBowls_21 : decode cX2_fewestBowls 21 = .ok (.aload_n 3, 1) := by decide +kernel
theorem dX2_fewestBowls_22 : decode cX2_fewestBowls 22 = .ok (.iload 5, 2) := by decide +kernel
theorem dX2_fewestBowls_24 : decode cX2_fewestBowls 24 = .ok (.aaload, 1) := by decide +kernel
theorem dX2_fewestBowls_25 : decode cX2_fewestBowls 25 = .ok (.astore 6, 2) := by decide +kernel
theorem dX2_fewestBowls_27 : decode cX2_fewestBowls 27 = .ok (.aload 6, 2) := by decide +kernel
theorem dX2_fewestBowls_29 : decode cX2_fewestBowls 29 = .ok (.aload_n 1, 1) := by decide +kernel
theorem dX2_fewestBowls_30 : decode cX2_fewestBowls 30 = .ok (.invokevirtual 235, 3) := by decide +kernel
theorem dX2_fewestBowls_33 : decode cX2_fewestBowls 33 = .ok (.ifCond .eq 31, 3) := by decide +kernel
theorem dX2_fewestBowls_36 : decode cX2_fewestBowls 36 = .ok (.aload 6, 2) := by decide +kernel
theorem dX2_fewestBowls_38 : decode cX2_fewestBowls 38 = .ok (.invokevirtual 70, 3) := by decide +kernel
theorem dX2_fewestBowls_41 : decode cX2_fewestBowls 41 = .ok (.iconst 2, 1) := by decide +kernel
theorem dX2_fewestBowls_42 : decode cX2_fewestBowls 42 = .ok (.if_icmp .ne 22, 3) := by decide +kernel
theorem dX2_fewestBowls_45 : decode cX2_fewestBowls 45 = .ok (.aload_n 2, 1) := by decide +kernel
theorem dX2_fewestBowls_46 : decode cX2_fewestBowls 46 = .ok (.ifnull 15, 3) := by decide +kernel
theorem dX2_fewestBowls_49 : decode cX2_fewestBowls 49 = .ok (.aload 6, 2) := by decide +kernel
theorem dX2_fewestBowls_51 : decode cX2_fewestBowls 51 = .ok (.getfield 104, 3) := by decide +kernel
theorem dX2_fewestBowls_54 : decode cX2_fewestBowls 54 = .ok (.aload_n 2, 1) := by decide +kernel
theorem dX2_fewestBowls_55 : decode cX2_fewestBowls 55 = .ok (.getfield 104, 3) := by decide +kernel
theorem dX2_fewestBowls_58 : decode cX2_fewestBowls 58 = .ok (.if_icmp .ge 6, 3) := by decide +kernel
theorem dX2_fewestBowls_61 : decode cX2_fewestBowls 61 = .ok (.aload 6, 2) := by decide +kernel
theorem dX2_fewestBowls_63 : decode cX2_fewestBowls 63 = .ok (.astore_n 2, 1) := by decide +kernel
theorem dX2_fewestBowls_64 : decode cX2_fewestBowls 64 = .ok (.iinc 5 1, 3) := by decide +kernel
theorem dX2_fewestBowls_67 : decode cX2_fewestBowls 67 = .ok (.goto (-53), 3) := by decide +kernel
theorem dX2_fewestBowls_70 : decode cX2_fewestBowls 70 = .ok (.aload_n 2, 1) := by decide +kernel
theorem dX2_fewestBowls_71 : decode cX2_fewestBowls 71 = .ok (.areturn, 1) := by decide +kernel
theorem dX2_lastFewestBowls_0 : decode cX2_lastFewestBowls 0 = .ok (.aconst_null, 1) := by decide +kernel
theorem dX2_lastFewestBowls_1 : decode cX2_lastFewestBowls 1 = .ok (.astore_n 2, 1) := by decide +kernel
theorem dX2_lastFewestBowls_2 : decode cX2_lastFewestBowls 2 = .ok (.aload_n 0, 1) := by decide +kernel
theorem dX2_lastFewestBowls_3 : decode cX2_lastFewestBowls 3 = .ok (.getfield 11, 3) := by decide +kernel
theorem dX2_lastFewestBowls_6 : decode cX2_lastFewestBowls 6 = .ok (.astore_n 3, 1) := by decide +kernel
theorem dX2_lastFewestBowls_7 : decode cX2_lastFewestBowls 7 = .ok (.aload_n 3, 1) := by decide +kernel
theorem dX2_lastFewestBowls_8 : decode cX2_lastFewestBowls 8 = .ok (.arraylength, 1) := by decide +kernel
theorem dX2_lastFewestBowls_9 : decode cX2_lastFewestBowls 9 = .ok (.istore 4, 2) := by decide +kernel
theorem dX2_lastFewestBowls_11 : decode cX2_lastFewestBowls 11 = .ok (.iconst 0, 1) := by decide +kernel
theorem dX2_lastFewestBowls_12 : decode cX2_lastFewestBowls 12 = .ok (.istore 5, 2) := by decide +kernel
theorem dX2_lastFewestBowls_14 : decode cX2_lastFewestBowls 14 = .ok (.iload 5, 2) := by decide +kernel
theorem dX2_lastFewestBowls_16 : decode cX2_lastFewestBowls 16 = .ok (.iload 4, 2) := by decide +kernel
theorem dX2_lastFewestBowls_18 : decode cX2_lastFewestBowls 18 = .ok (.if_icmp .ge 52, 3) := by decide +kernel
theorem dX2_lastFewestBowls_21 : decode cX2_lastFewestBowls 21 = .ok (.aload_n 3, 1) := by decide +kernel
theorem dX2_lastFewestBowls_22 : decode cX2_lastFewestBowls 22 = .ok (.iload 5, 2) := by decide +kernel
theorem dX2_lastFewestBowls_24 : decode cX2_lastFewestBowls 24 = .ok (.aaload, 1) := by decide +kernel
theorem dX2_lastFewestBowls_25 : decode cX2_lastFewestBowls 25 = .ok (.astore 6, 2) := by decide +kernel
theorem dX2_lastFewestBowls_27 : decode cX2_lastFewestBowls 27 = .ok (.aload 6, 2) := by decide +kernel
theorem dX2_lastFewestBowls_29 : decode cX2_lastFewestBowls 29 = .ok (.aload_n 1, 1) := by decide +kernel
theorem dX2_lastFewestBowls_30 : decode cX2_lastFewestBowls 30 = .ok (.invokevirtual 235, 3) := by decide +kernel
theorem dX2_lastFewestBowls_33 : decode cX2_lastFewestBowls 33 = .ok (.ifCond .eq 31, 3) := by decide +kernel
theorem dX2_lastFewestBowls_36 : decode cX2_lastFewestBowls 36 = .ok (.aload 6, 2) := by decide +kernel
theorem dX2_lastFewestBowls_38 : decode cX2_lastFewestBowls 38 = .ok (.invokevirtual 70, 3) := by decide +kernel
theorem dX2_lastFewestBowls_41 : decode cX2_lastFewestBowls 41 = .ok (.iconst 2, 1) := by decide +kernel
theorem dX2_lastFewestBowls_42 : decode cX2_lastFewestBowls 42 = .ok (.if_icmp .ne 22, 3) := by decide +kernel
theorem dX2_lastFewestBowls_45 : decode cX2_lastFewestBowls 45 = .ok (.aload_n 2, 1) := by decide +kernel
theorem dX2_lastFewestBowls_46 : decode cX2_lastFewestBowls 46 = .ok (.ifnull 15, 3) := by decide +kernel
theorem dX2_lastFewestBowls_49 : decode cX2_lastFewestBowls 49 = .ok (.aload 6, 2) := by decide +kernel
theorem dX2_lastFewestBowls_51 : decode cX2_lastFewestBowls 51 = .ok (.getfield 104, 3) := by decide +kernel
theorem dX2_lastFewestBowls_54 : decode cX2_lastFewestBowls 54 = .ok (.aload_n 2, 1) := by decide +kernel
theorem dX2_lastFewestBowls_55 : decode cX2_lastFewestBowls 55 = .ok (.getfield 104, 3) := by decide +kernel
theorem dX2_lastFewestBowls_58 : decode cX2_lastFewestBowls 58 = .ok (.if_icmp .gt 6, 3) := by decide +kernel
theorem dX2_lastFewestBowls_61 : decode cX2_lastFewestBowls 61 = .ok (.aload 6, 2) := by decide +kernel
theorem dX2_lastFewestBowls_63 : decode cX2_lastFewestBowls 63 = .ok (.astore_n 2, 1) := by decide +kernel
theorem dX2_lastFewestBowls_64 : decode cX2_lastFewestBowls 64 = .ok (.iinc 5 1, 3) := by decide +kernel
theorem dX2_lastFewestBowls_67 : decode cX2_lastFewestBowls 67 = .ok (.goto (-53), 3) := by decide +kernel
theorem dX2_lastFewestBowls_70 : decode cX2_lastFewestBowls 70 = .ok (.aload_n 2, 1) := by decide +kernel
theorem dX2_lastFewestBowls_71 : decode cX2_lastFewestBowls 71 = .ok (.areturn, 1) := by decide +kernel
theorem dX2_moveToPack_0 : decode cX2_moveToPack 0 = .ok (.aload_n 0, 1) := by decide +kernel
theorem dX2_moveToPack_1 : decode cX2_moveToPack 1 = .ok (.aload_n 1, 1) := by decide +kernel
theorem dX2_moveToPack_2 : decode cX2_moveToPack 2 = .ok (.invokevirtual 238, 3) := by decide +kernel
theorem dX2_moveToPack_5 : decode cX2_moveToPack 5 = .ok (.astore_n 2, 1) := by decide +kernel
theorem dX2_moveToPack_6 : decode cX2_moveToPack 6 = .ok (.aload_n 0, 1) := by decide +kernel
theorem dX2_moveToPack_7 : decode cX2_moveToPack 7 = .ok (.aload_n 1, 1) := by decide +kernel
theorem dX2_moveToPack_8 : decode cX2_moveToPack 8 = .ok (.aload_n 2, 1) := by decide +kernel
theorem dX2_moveToPack_9 : decode cX2_moveToPack 9 = .ok (.invokevirtual 228, 3) := by decide +kernel
theorem dX2_moveToPack_12 : decode cX2_moveToPack 12 = .ok (.astore_n 3, 1) := by decide +kernel
theorem dX2_moveToPack_13 : decode cX2_moveToPack 13 = .ok (.aload_n 2, 1) := by decide +kernel
theorem dX2_moveToPack_14 : decode cX2_moveToPack 14 = .ok (.ifnull 7, 3) := by decide +kernel
theorem dX2_moveToPack_17 : decode cX2_moveToPack 17 = .ok (.aload_n 3, 1) := by decide +kernel
theorem dX2_moveToPack_18 : decode cX2_moveToPack 18 = .ok (.ifnonnull 5, 3) := by decide +kernel
theorem dX2_moveToPack_21 : decode cX2_moveToPack 21 = .ok (.iconst 0, 1) := by decide +kernel
theorem dX2_moveToPack_22 : decode cX2_moveToPack 22 = .ok (.ireturn, 1) := by decide +kernel
theorem dX2_moveToPack_23 : decode cX2_moveToPack 23 = .ok (.aload_n 2, 1) := by decide +kernel
theorem dX2_moveToPack_24 : decode cX2_moveToPack 24 = .ok (.aload_n 2, 1) := by decide +kernel
theorem dX2_moveToPack_25 : decode cX2_moveToPack 25 = .ok (.invokevirtual 241, 3) := by decide +kernel
theorem dX2_moveToPack_28 : decode cX2_moveToPack 28 = .ok (.aload_n 0, 1) := by decide +kernel
theorem dX2_moveToPack_29 : decode cX2_moveToPack 29 = .ok (.getfield 28, 3) := by decide +kernel
theorem dX2_moveToPack_32 : decode cX2_moveToPack 32 = .ok (.invokevirtual 101, 3) := by decide +kernel
theorem dX2_moveToPack_35 : decode cX2_moveToPack 35 = .ok (.aload_n 3, 1) := by decide +kernel
theorem dX2_moveToPack_36 : decode cX2_moveToPack 36 = .ok (.aload_n 3, 1) := by decide +kernel
theorem dX2_moveToPack_37 : decode cX2_moveToPack 37 = .ok (.invokevirtual 78, 3) := by decide +kernel
theorem dX2_moveToPack_40 : decode cX2_moveToPack 40 = .ok (.invokevirtual 81, 3) := by decide +kernel
theorem dX2_moveToPack_43 : decode cX2_moveToPack 43 = .ok (.iconst 1, 1) := by decide +kernel
theorem dX2_moveToPack_44 : decode cX2_moveToPack 44 = .ok (.ireturn, 1) := by decide +kernel
theorem dX2_gainsOf_0 : decode cX2_gainsOf 0 = .ok (.iconst 0, 1) := by decide +kernel
theorem dX2_gainsOf_1 : decode cX2_gainsOf 1 = .ok (.istore_n 2, 1) := by decide +kernel
theorem dX2_gainsOf_2 : decode cX2_gainsOf 2 = .ok (.iconst 0, 1) := by decide +kernel
theorem dX2_gainsOf_3 : decode cX2_gainsOf 3 = .ok (.istore_n 3, 1) := by decide +kernel
theorem dX2_gainsOf_4 : decode cX2_gainsOf 4 = .ok (.aload_n 0, 1) := by decide +kernel
theorem dX2_gainsOf_5 : decode cX2_gainsOf 5 = .ok (.getfield 11, 3) := by decide +kernel
theorem dX2_gainsOf_8 : decode cX2_gainsOf 8 = .ok (.astore 4, 2) := by decide +kernel
theorem dX2_gainsOf_10 : decode cX2_gainsOf 10 = .ok (.aload 4, 2) := by decide +kernel
theorem dX2_gainsOf_12 : decode cX2_gainsOf 12 = .ok (.arraylength, 1) := by decide +kernel
theorem dX2_gainsOf_13 : decode cX2_gainsOf 13 = .ok (.istore 5, 2) := by decide +kernel
theorem dX2_gainsOf_15 : decode cX2_gainsOf 15 = .ok (.iconst 0, 1) := by decide +kernel
theorem dX2_gainsOf_16 : decode cX2_gainsOf 16 = .ok (.istore 6, 2) := by decide +kernel
theorem dX2_gainsOf_18 : decode cX2_gainsOf 18 = .ok (.iload 6, 2) := by decide +kernel
theorem dX2_gainsOf_20 : decode cX2_gainsOf 20 = .ok (.iload 5, 2) := by decide +kernel
theorem dX2_gainsOf_22 : decode cX2_gainsOf 22 = .ok (.if_icmp .ge 45, 3) := by decide +kernel
theorem dX2_gainsOf_25 : decode cX2_gainsOf 25 = .ok (.aload 4, 2) := by decide +kernel
theorem dX2_gainsOf_27 : decode cX2_gainsOf 27 = .ok (.iload 6, 2) := by decide +kernel
theorem dX2_gainsOf_29 : decode cX2_gainsOf 29 = .ok (.aaload, 1) := by decide +kernel
theorem dX2_gainsOf_30 : decode cX2_gainsOf 30 = .ok (.astore 7, 2) := by decide +kernel
theorem dX2_gainsOf_32 : decode cX2_gainsOf 32 = .ok (.aload 7, 2) := by decide +kernel
theorem dX2_gainsOf_34 : decode cX2_gainsOf 34 = .ok (.aload_n 1, 1) := by decide +kernel
theorem dX2_gainsOf_35 : decode cX2_gainsOf 35 = .ok (.invokevirtual 235, 3) := by decide +kernel
theorem dX2_gainsOf_38 : decode cX2_gainsOf 38 = .ok (.ifCond .eq 23, 3) := by decide +kernel
theorem dX2_gainsOf_41 : decode cX2_gainsOf 41 = .ok (.aload 7, 2) := by decide +kernel
theorem dX2_gainsOf_43 : decode cX2_gainsOf 43 = .ok (.invokevirtual 70, 3) := by decide +kernel
theorem dX2_gainsOf_46 : decode cX2_gainsOf 46 = .ok (.iconst 2, 1) := by decide +kernel
theorem dX2_gainsOf_47 : decode cX2_gainsOf 47 = .ok (.if_icmp .ne 14, 3) := by decide +kernel
theorem dX2_gainsOf_50 : decode cX2_gainsOf 50 = .ok (.iload_n 2, 1) := by decide +kernel
theorem dX2_gainsOf_51 : decode cX2_gainsOf 51 = .ok (.aload 7, 2) := by decide +kernel
theorem dX2_gainsOf_53 : decode cX2_gainsOf 53 = .ok (.getfield 104, 3) := by decide +kernel
theorem dX2_gainsOf_56 : decode cX2_gainsOf 56 = .ok (.iadd, 1) := by decide +kernel
theorem dX2_gainsOf_57 : decode cX2_gainsOf 57 = .ok (.istore_n 2, 1) := by decide +kernel
theorem dX2_gainsOf_58 : decode cX2_gainsOf 58 = .ok (.iinc 3 1, 3) := by decide +kernel
theorem dX2_gainsOf_61 : decode cX2_gainsOf 61 = .ok (.iinc 6 1, 3) := by decide +kernel
theorem dX2_gainsOf_64 : decode cX2_gainsOf 64 = .ok (.goto (-46), 3) := by decide +kernel
theorem dX2_gainsOf_67 : decode cX2_gainsOf 67 = .ok (.iload_n 3, 1) := by decide +kernel
theorem dX2_gainsOf_68 : decode cX2_gainsOf 68 = .ok (.aload_n 1, 1) := by decide +kernel
theorem dX2_gainsOf_69 : decode cX2_gainsOf 69 = .ok (.iload_n 2, 1) := by decide +kernel
theorem dX2_gainsOf_70 : decode cX2_gainsOf 70 = .ok (.invokevirtual 161, 3) := by decide +kernel
theorem dX2_gainsOf_73 : decode cX2_gainsOf 73 = .ok (.isub, 1) := by decide +kernel
theorem dX2_gainsOf_74 : decode cX2_gainsOf 74 = .ok (.ireturn, 1) := by decide +kernel
theorem dX2_freeShelves_0 : decode cX2_freeShelves 0 = .ok (.iconst 0, 1) := by decide +kernel
theorem dX2_freeShelves_1 : decode cX2_freeShelves 1 = .ok (.istore_n 1, 1) := by decide +kernel
theorem dX2_freeShelves_2 : decode cX2_freeShelves 2 = .ok (.aload_n 0, 1) := by decide +kernel
theorem dX2_freeShelves_3 : decode cX2_freeShelves 3 = .ok (.getfield 11, 3) := by decide +kernel
theorem dX2_freeShelves_6 : decode cX2_freeShelves 6 = .ok (.astore_n 2, 1) := by decide +kernel
theorem dX2_freeShelves_7 : decode cX2_freeShelves 7 = .ok (.aload_n 2, 1) := by decide +kernel
theorem dX2_freeShelves_8 : decode cX2_freeShelves 8 = .ok (.arraylength, 1) := by decide +kernel
theorem dX2_freeShelves_9 : decode cX2_freeShelves 9 = .ok (.istore_n 3, 1) := by decide +kernel
theorem dX2_freeShelves_10 : decode cX2_freeShelves 10 = .ok (.iconst 0, 1) := by decide +kernel
theorem dX2_freeShelves_11 : decode cX2_freeShelves 11 = .ok (.istore 4, 2) := by decide +kernel
theorem dX2_freeShelves_13 : decode cX2_freeShelves 13 = .ok (.iload 4, 2) := by decide +kernel
theorem dX2_freeShelves_15 : decode cX2_freeShelves 15 = .ok (.iload_n 3, 1) := by decide +kernel
theorem dX2_freeShelves_16 : decode cX2_freeShelves 16 = .ok (.if_icmp .ge 26, 3) := by decide +kernel
theorem dX2_freeShelves_19 : decode cX2_freeShelves 19 = .ok (.aload_n 2, 1) := by decide +kernel
theorem dX2_freeShelves_20 : decode cX2_freeShelves 20 = .ok (.iload 4, 2) := by decide +kernel
theorem dX2_freeShelves_22 : decode cX2_freeShelves 22 = .ok (.aaload, 1) := by decide +kernel
theorem dX2_freeShelves_23 : decode cX2_freeShelves 23 = .ok (.astore 5, 2) := by decide +kernel
theorem dX2_freeShelves_25 : decode cX2_freeShelves 25 = .ok (.aload 5, 2) := by decide +kernel
theorem dX2_freeShelves_27 : decode cX2_freeShelves 27 = .ok (.invokevirtual 70, 3) := by decide +kernel
theorem dX2_freeShelves_30 : decode cX2_freeShelves 30 = .ok (.ifCond .ne 6, 3) := by decide +kernel
theorem dX2_freeShelves_33 : decode cX2_freeShelves 33 = .ok (.iinc 1 1, 3) := by decide +kernel
theorem dX2_freeShelves_36 : decode cX2_freeShelves 36 = .ok (.iinc 4 1, 3) := by decide +kernel
theorem dX2_freeShelves_39 : decode cX2_freeShelves 39 = .ok (.goto (-26), 3) := by decide +kernel
theorem dX2_freeShelves_42 : decode cX2_freeShelves 42 = .ok (.iload_n 1, 1) := by decide +kernel
theorem dX2_freeShelves_43 : decode cX2_freeShelves 43 = .ok (.ireturn, 1) := by decide +kernel
theorem dX2_takenShelves_0 : decode cX2_takenShelves 0 = .ok (.bipush 12, 2) := by decide +kernel
theorem dX2_takenShelves_2 : decode cX2_takenShelves 2 = .ok (.aload_n 0, 1) := by decide +kernel
theorem dX2_takenShelves_3 : decode cX2_takenShelves 3 = .ok (.invokevirtual 134, 3) := by decide +kernel
theorem dX2_takenShelves_6 : decode cX2_takenShelves 6 = .ok (.isub, 1) := by decide +kernel
theorem dX2_takenShelves_7 : decode cX2_takenShelves 7 = .ok (.ireturn, 1) := by decide +kernel
theorem dX2_shelvesOf_0 : decode cX2_shelvesOf 0 = .ok (.iconst 0, 1) := by decide +kernel
theorem dX2_shelvesOf_1 : decode cX2_shelvesOf 1 = .ok (.istore_n 2, 1) := by decide +kernel
theorem dX2_shelvesOf_2 : decode cX2_shelvesOf 2 = .ok (.aload_n 0, 1) := by decide +kernel
theorem dX2_shelvesOf_3 : decode cX2_shelvesOf 3 = .ok (.getfield 11, 3) := by decide +kernel
theorem dX2_shelvesOf_6 : decode cX2_shelvesOf 6 = .ok (.astore_n 3, 1) := by decide +kernel
theorem dX2_shelvesOf_7 : decode cX2_shelvesOf 7 = .ok (.aload_n 3, 1) := by decide +kernel
theorem dX2_shelvesOf_8 : decode cX2_shelvesOf 8 = .ok (.arraylength, 1) := by decide +kernel
theorem dX2_shelvesOf_9 : decode cX2_shelvesOf 9 = .ok (.istore 4, 2) := by decide +kernel
theorem dX2_shelvesOf_11 : decode cX2_shelvesOf 11 = .ok (.iconst 0, 1) := by decide +kernel
theorem dX2_shelvesOf_12 : decode cX2_shelvesOf 12 = .ok (.istore 5, 2) := by decide +kernel
theorem dX2_shelvesOf_14 : decode cX2_shelvesOf 14 = .ok (.iload 5, 2) := by decide +kernel
theorem dX2_shelvesOf_16 : decode cX2_shelvesOf 16 = .ok (.iload 4, 2) := by decide +kernel
theorem dX2_shelvesOf_18 : decode cX2_shelvesOf 18 = .ok (.if_icmp .ge 27, 3) := by decide +kernel
theorem dX2_shelvesOf_21 : decode cX2_shelvesOf 21 = .ok (.aload_n 3, 1) := by decide +kernel
theorem dX2_shelvesOf_22 : decode cX2_shelvesOf 22 = .ok (.iload 5, 2) := by decide +kernel
theorem dX2_shelvesOf_24 : decode cX2_shelvesOf 24 = .ok (.aaload, 1) := by decide +kernel
theorem dX2_shelvesOf_25 : decode cX2_shelvesOf 25 = .ok (.astore 6, 2) := by decide +kernel
theorem dX2_shelvesOf_27 : decode cX2_shelvesOf 27 = .ok (.aload 6, 2) := by decide +kernel
theorem dX2_shelvesOf_29 : decode cX2_shelvesOf 29 = .ok (.aload_n 1, 1) := by decide +kernel
theorem dX2_shelvesOf_30 : decode cX2_shelvesOf 30 = .ok (.invokevirtual 235, 3) := by decide +kernel
theorem dX2_shelvesOf_33 : decode cX2_shelvesOf 33 = .ok (.ifCond .eq 6, 3) := by decide +kernel
theorem dX2_shelvesOf_36 : decode cX2_shelvesOf 36 = .ok (.iinc 2 1, 3) := by decide +kernel
theorem dX2_shelvesOf_39 : decode cX2_shelvesOf 39 = .ok (.iinc 5 1, 3) := by decide +kernel
theorem dX2_shelvesOf_42 : decode cX2_shelvesOf 42 = .ok (.goto (-28), 3) := by decide +kernel
theorem dX2_shelvesOf_45 : decode cX2_shelvesOf 45 = .ok (.iload_n 2, 1) := by decide +kernel
theorem dX2_shelvesOf_46 : decode cX2_shelvesOf 46 = .ok (.ireturn, 1) := by decide +kernel
theorem dX2_shelvesInState_0 : decode cX2_shelvesInState 0 = .ok (.iconst 0, 1) := by decide +kernel
theorem dX2_shelvesInState_1 : decode cX2_shelvesInState 1 = .ok (.istore_n 3, 1) := by decide +kernel
theorem dX2_shelvesInState_2 : decode cX2_shelvesInState 2 = .ok (.aload_n 0, 1) := by decide +kernel
theorem dX2_shelvesInState_3 : decode cX2_shelvesInState 3 = .ok (.getfield 11, 3) := by decide +kernel
theorem dX2_shelvesInState_6 : decode cX2_shelvesInState 6 = .ok (.astore 4, 2) := by decide +kernel
theorem dX2_shelvesInState_8 : decode cX2_shelvesInState 8 = .ok (.aload 4, 2) := by decide +kernel
theorem dX2_shelvesInState_10 : decode cX2_shelvesInState 10 = .ok (.arraylength, 1) := by decide +kernel
theorem dX2_shelvesInState_11 : decode cX2_shelvesInState 11 = .ok (.istore 5, 2) := by decide +kernel
theorem dX2_shelvesInState_13 : decode cX2_shelvesInState 13 = .ok (.iconst 0, 1) := by decide +kernel
theorem dX2_shelvesInState_14 : decode cX2_shelvesInState 14 = .ok (.istore 6, 2) := by decide +kernel
theorem dX2_shelvesInState_16 : decode cX2_shelvesInState 16 = .ok (.iload 6, 2) := by decide +kernel
theorem dX2_shelvesInState_18 : decode cX2_shelvesInState 18 = .ok (.iload 5, 2) := by decide +kernel
theorem dX2_shelvesInState_20 : decode cX2_shelvesInState 20 = .ok (.if_icmp .ge 37, 3) := by decide +kernel
theorem dX2_shelvesInState_23 : decode cX2_shelvesInState 23 = .ok (.aload 4, 2) := by decide +kernel
theorem dX2_shelvesInState_25 : decode cX2_shelvesInState 25 = .ok (.iload 6, 2) := by decide +kernel
theorem dX2_shelvesInState_27 : decode cX2_shelvesInState 27 = .ok (.aaload, 1) := by decide +kernel
theorem dX2_shelvesInState_28 : decode cX2_shelvesInState 28 = .ok (.astore 7, 2) := by decide +kernel
theorem dX2_shelvesInState_30 : decode cX2_shelvesInState 30 = .ok (.aload 7, 2) := by decide +kernel
theorem dX2_shelvesInState_32 : decode cX2_shelvesInState 32 = .ok (.aload_n 1, 1) := by decide +kernel
theorem dX2_shelvesInState_33 : decode cX2_shelvesInState 33 = .ok (.invokevirtual 235, 3) := by decide +kernel
theorem dX2_shelvesInState_36 : decode cX2_shelvesInState 36 = .ok (.ifCond .eq 15, 3) := by decide +kernel
theorem dX2_shelvesInState_39 : decode cX2_shelvesInState 39 = .ok (.aload 7, 2) := by decide +kernel
theorem dX2_shelvesInState_41 : decode cX2_shelvesInState 41 = .ok (.invokevirtual 70, 3) := by decide +kernel
theorem dX2_shelvesInState_44 : decode cX2_shelvesInState 44 = .ok (.iload_n 2, 1) := by decide +kernel
theorem dX2_shelvesInState_45 : decode cX2_shelvesInState 45 = .ok (.if_icmp .ne 6, 3) := by decide +kernel
theorem dX2_shelvesInState_48 : decode cX2_shelvesInState 48 = .ok (.iinc 3 1, 3) := by decide +kernel
theorem dX2_shelvesInState_51 : decode cX2_shelvesInState 51 = .ok (.iinc 6 1, 3) := by decide +kernel
theorem dX2_shelvesInState_54 : decode cX2_shelvesInState 54 = .ok (.goto (-38), 3) := by decide +kernel
theorem dX2_shelvesInState_57 : decode cX2_shelvesInState 57 = .ok (.iload_n 3, 1) := by decide +kernel
theorem dX2_shelvesInState_58 : decode cX2_shelvesInState 58 = .ok (.ireturn, 1) := by decide +kernel
theorem dX2_bowlsOf_0 : decode cX2_bowlsOf 0 = .ok (.iconst 0, 1) := by decide +kernel
theorem dX2_bowlsOf_1 : decode cX2_bowlsOf 1 = .ok (.istore_n 2, 1) := by decide +kernel
theorem dX2_bowlsOf_2 : decode cX2_bowlsOf 2 = .ok (.aload_n 0, 1) := by decide +kernel
theorem dX2_bowlsOf_3 : decode cX2_bowlsOf 3 = .ok (.getfield 11, 3) := by decide +kernel
theorem dX2_bowlsOf_6 : decode cX2_bowlsOf 6 = .ok (.astore_n 3, 1) := by decide +kernel
theorem dX2_bowlsOf_7 : decode cX2_bowlsOf 7 = .ok (.aload_n 3, 1) := by decide +kernel
theorem dX2_bowlsOf_8 : decode cX2_bowlsOf 8 = .ok (.arraylength, 1) := by decide +kernel
theorem dX2_bowlsOf_9 : decode cX2_bowlsOf 9 = .ok (.istore 4, 2) := by decide +kernel
theorem dX2_bowlsOf_11 : decode cX2_bowlsOf 11 = .ok (.iconst 0, 1) := by decide +kernel
theorem dX2_bowlsOf_12 : decode cX2_bowlsOf 12 = .ok (.istore 5, 2) := by decide +kernel
theorem dX2_bowlsOf_14 : decode cX2_bowlsOf 14 = .ok (.iload 5, 2) := by decide +kernel
theorem dX2_bowlsOf_16 : decode cX2_bowlsOf 16 = .ok (.iload 4, 2) := by decide +kernel
theorem dX2_bowlsOf_18 : decode cX2_bowlsOf 18 = .ok (.if_icmp .ge 32, 3) := by decide +kernel
theorem dX2_bowlsOf_21 : decode cX2_bowlsOf 21 = .ok (.aload_n 3, 1) := by decide +kernel
theorem dX2_bowlsOf_22 : decode cX2_bowlsOf 22 = .ok (.iload 5, 2) := by decide +kernel
theorem dX2_bowlsOf_24 : decode cX2_bowlsOf 24 = .ok (.aaload, 1) := by decide +kernel
theorem dX2_bowlsOf_25 : decode cX2_bowlsOf 25 = .ok (.astore 6, 2) := by decide +kernel
theorem dX2_bowlsOf_27 : decode cX2_bowlsOf 27 = .ok (.aload 6, 2) := by decide +kernel
theorem dX2_bowlsOf_29 : decode cX2_bowlsOf 29 = .ok (.aload_n 1, 1) := by decide +kernel
theorem dX2_bowlsOf_30 : decode cX2_bowlsOf 30 = .ok (.invokevirtual 235, 3) := by decide +kernel
theorem dX2_bowlsOf_33 : decode cX2_bowlsOf 33 = .ok (.ifCond .eq 11, 3) := by decide +kernel
theorem dX2_bowlsOf_36 : decode cX2_bowlsOf 36 = .ok (.iload_n 2, 1) := by decide +kernel
theorem dX2_bowlsOf_37 : decode cX2_bowlsOf 37 = .ok (.aload 6, 2) := by decide +kernel
theorem dX2_bowlsOf_39 : decode cX2_bowlsOf 39 = .ok (.getfield 104, 3) := by decide +kernel
theorem dX2_bowlsOf_42 : decode cX2_bowlsOf 42 = .ok (.iadd, 1) := by decide +kernel
theorem dX2_bowlsOf_43 : decode cX2_bowlsOf 43 = .ok (.istore_n 2, 1) := by decide +kernel
theorem dX2_bowlsOf_44 : decode cX2_bowlsOf 44 = .ok (.iinc 5 1, 3) := by decide +kernel
theorem dX2_bowlsOf_47 : decode cX2_bowlsOf 47 = .ok (.goto (-33), 3) := by decide +kernel
theorem dX2_bowlsOf_50 : decode cX2_bowlsOf 50 = .ok (.iload_n 2, 1) := by decide +kernel
theorem dX2_bowlsOf_51 : decode cX2_bowlsOf 51 = .ok (.ireturn, 1) := by decide +kernel
theorem dX2_gapsOf_0 : decode cX2_gapsOf 0 = .ok (.aload_n 0, 1) := by decide +kernel
theorem dX2_gapsOf_1 : decode cX2_gapsOf 1 = .ok (.aload_n 1, 1) := by decide +kernel
theorem dX2_gapsOf_2 : decode cX2_gapsOf 2 = .ok (.invokevirtual 199, 3) := by decide +kernel
theorem dX2_gapsOf_5 : decode cX2_gapsOf 5 = .ok (.aload_n 1, 1) := by decide +kernel
theorem dX2_gapsOf_6 : decode cX2_gapsOf 6 = .ok (.getfield 156, 3) := by decide +kernel
theorem dX2_gapsOf_9 : decode cX2_gapsOf 9 = .ok (.imul, 1) := by decide +kernel
theorem dX2_gapsOf_10 : decode cX2_gapsOf 10 = .ok (.aload_n 0, 1) := by decide +kernel
theorem dX2_gapsOf_11 : decode cX2_gapsOf 11 = .ok (.aload_n 1, 1) := by decide +kernel
theorem dX2_gapsOf_12 : decode cX2_gapsOf 12 = .ok (.invokevirtual 205, 3) := by decide +kernel
theorem dX2_gapsOf_15 : decode cX2_gapsOf 15 = .ok (.isub, 1) := by decide +kernel
theorem dX2_gapsOf_16 : decode cX2_gapsOf 16 = .ok (.ireturn, 1) := by decide +kernel
theorem dX2_bowlsInAll_0 : decode cX2_bowlsInAll 0 = .ok (.iconst 0, 1) := by decide +kernel
theorem dX2_bowlsInAll_1 : decode cX2_bowlsInAll 1 = .ok (.istore_n 1, 1) := by decide +kernel
theorem dX2_bowlsInAll_2 : decode cX2_bowlsInAll 2 = .ok (.aload_n 0, 1) := by decide +kernel
theorem dX2_bowlsInAll_3 : decode cX2_bowlsInAll 3 = .ok (.getfield 11, 3) := by decide +kernel
theorem dX2_bowlsInAll_6 : decode cX2_bowlsInAll 6 = .ok (.astore_n 2, 1) := by decide +kernel
theorem dX2_bowlsInAll_7 : decode cX2_bowlsInAll 7 = .ok (.aload_n 2, 1) := by decide +kernel
theorem dX2_bowlsInAll_8 : decode cX2_bowlsInAll 8 = .ok (.arraylength, 1) := by decide +kernel
theorem dX2_bowlsInAll_9 : decode cX2_bowlsInAll 9 = .ok (.istore_n 3, 1) := by decide +kernel
theorem dX2_bowlsInAll_10 : decode cX2_bowlsInAll 10 = .ok (.iconst 0, 1) := by decide +kernel
theorem dX2_bowlsInAll_11 : decode cX2_bowlsInAll 11 = .ok (.istore 4, 2) := by decide +kernel
theorem dX2_bowlsInAll_13 : decode cX2_bowlsInAll 13 = .ok (.iload 4, 2) := by decide +kernel
theorem dX2_bowlsInAll_15 : decode cX2_bowlsInAll 15 = .ok (.iload_n 3, 1) := by decide +kernel
theorem dX2_bowlsInAll_16 : decode cX2_bowlsInAll 16 = .ok (.if_icmp .ge 23, 3) := by decide +kernel
theorem dX2_bowlsInAll_19 : decode cX2_bowlsInAll 19 = .ok (.aload_n 2, 1) := by decide +kernel
theorem dX2_bowlsInAll_20 : decode cX2_bowlsInAll 20 = .ok (.iload 4, 2) := by decide +kernel
theorem dX2_bowlsInAll_22 : decode cX2_bowlsInAll 22 = .ok (.aaload, 1) := by decide +kernel
theorem dX2_bowlsInAll_23 : decode cX2_bowlsInAll 23 = .ok (.astore 5, 2) := by decide +kernel
theorem dX2_bowlsInAll_25 : decode cX2_bowlsInAll 25 = .ok (.iload_n 1, 1) := by decide +kernel
theorem dX2_bowlsInAll_26 : decode cX2_bowlsInAll 26 = .ok (.aload 5, 2) := by decide +kernel
theorem dX2_bowlsInAll_28 : decode cX2_bowlsInAll 28 = .ok (.getfield 104, 3) := by decide +kernel
theorem dX2_bowlsInAll_31 : decode cX2_bowlsInAll 31 = .ok (.iadd, 1) := by decide +kernel
theorem dX2_bowlsInAll_32 : decode cX2_bowlsInAll 32 = .ok (.istore_n 1, 1) := by decide +kernel
theorem dX2_bowlsInAll_33 : decode cX2_bowlsInAll 33 = .ok (.iinc 4 1, 3) := by decide +kernel
theorem dX2_bowlsInAll_36 : decode cX2_bowlsInAll 36 = .ok (.goto (-23), 3) := by decide +kernel
theorem dX2_bowlsInAll_39 : decode cX2_bowlsInAll 39 = .ok (.iload_n 1, 1) := by decide +kernel
theorem dX2_bowlsInAll_40 : decode cX2_bowlsInAll 40 = .ok (.ireturn, 1) := by decide +kernel
theorem dX2_spansUnderBowls_0 : decode cX2_spansUnderBowls 0 = .ok (.iconst 0, 1) := by decide +kernel
theorem dX2_spansUnderBowls_1 : decode cX2_spansUnderBowls 1 = .ok (.istore_n 1, 1) := by decide +kernel
theorem dX2_spansUnderBowls_2 : decode cX2_spansUnderBowls 2 = .ok (.aload_n 0, 1) := by decide +kernel
theorem dX2_spansUnderBowls_3 : decode cX2_spansUnderBowls 3 = .ok (.getfield 11, 3) := by decide +kernel
theorem dX2_spansUnderBowls_6 : decode cX2_spansUnderBowls 6 = .ok (.astore_n 2, 1) := by decide +kernel
theorem dX2_spansUnderBowls_7 : decode cX2_spansUnderBowls 7 = .ok (.aload_n 2, 1) := by decide +kernel
theorem dX2_spansUnderBowls_8 : decode cX2_spansUnderBowls 8 = .ok (.arraylength, 1) := by decide +kernel
theorem dX2_spansUnderBowls_9 : decode cX2_spansUnderBowls 9 = .ok (.istore_n 3, 1) := by decide +kernel
theorem dX2_spansUnderBowls_10 : decode cX2_spansUnderBowls 10 = .ok (.iconst 0, 1) := by decide +kernel
theorem dX2_spansUnderBowls_11 : decode cX2_spansUnderBowls 11 = .ok (.istore 4, 2) := by decide +kernel
end
section
theorem dX2_spansUnderBowls_13 : decode cX2_spansUnderBowls 13 = .ok (.iload 4, 2) := by decide +kernel
theorem dX2_spansUnderBowls_15 : decode cX2_spansUnderBowls 15 = .ok (.iload_n 3, 1) := by decide +kernel
theorem dX2_spansUnderBowls_16 : decode cX2_spansUnderBowls 16 = .ok (.if_icmp .ge 29, 3) := by decide +kernel
theorem dX2_spansUnderBowls_19 : decode cX2_spansUnderBowls 19 = .ok (.aload_n 2, 1) := by decide +kernel
theorem dX2_spansUnderBowls_20 : decode cX2_spansUnderBowls 20 = .ok (.iload 4, 2) := by decide +kernel
theorem dX2_spansUnderBowls_22 : decode cX2_spansUnderBowls 22 = .ok (.aaload, 1) := by decide +kernel
theorem dX2_spansUnderBowls_23 : decode cX2_spansUnderBowls 23 = .ok (.astore 5, 2) := by decide +kernel
theorem dX2_spansUnderBowls_25 : decode cX2_spansUnderBowls 25 = .ok (.iload_n 1, 1) := by decide +kernel
theorem dX2_spansUnderBowls_26 : decode cX2_spansUnderBowls 26 = .ok (.aload 5, 2) := by decide +kernel
theorem dX2_spansUnderBowls_28 : decode cX2_spansUnderBowls 28 = .ok (.getfield 104, 3) := by decide +kernel
theorem dX2_spansUnderBowls_31 : decode cX2_spansUnderBowls 31 = .ok (.aload 5, 2) := by decide +kernel
theorem dX2_spansUnderBowls_33 : decode cX2_spansUnderBowls 33 = .ok (.getfield 244, 3) := by decide +kernel
theorem dX2_spansUnderBowls_36 : decode cX2_spansUnderBowls 36 = .ok (.imul, 1) := by decide +kernel
theorem dX2_spansUnderBowls_37 : decode cX2_spansUnderBowls 37 = .ok (.iadd, 1) := by decide +kernel
theorem dX2_spansUnderBowls_38 : decode cX2_spansUnderBowls 38 = .ok (.istore_n 1, 1) := by decide +kernel
theorem dX2_spansUnderBowls_39 : decode cX2_spansUnderBowls 39 = .ok (.iinc 4 1, 3) := by decide +kernel
theorem dX2_spansUnderBowls_42 : decode cX2_spansUnderBowls 42 = .ok (.goto (-29), 3) := by decide +kernel
theorem dX2_spansUnderBowls_45 : decode cX2_spansUnderBowls 45 = .ok (.iload_n 1, 1) := by decide +kernel
theorem dX2_spansUnderBowls_46 : decode cX2_spansUnderBowls 46 = .ok (.ireturn, 1) := by decide +kernel
theorem dX2_spansOfNoPlace_0 : decode cX2_spansOfNoPlace 0 = .ok (.iconst 0, 1) := by decide +kernel
theorem dX2_spansOfNoPlace_1 : decode cX2_spansOfNoPlace 1 = .ok (.istore_n 1, 1) := by decide +kernel
theorem dX2_spansOfNoPlace_2 : decode cX2_spansOfNoPlace 2 = .ok (.aload_n 0, 1) := by decide +kernel
theorem dX2_spansOfNoPlace_3 : decode cX2_spansOfNoPlace 3 = .ok (.getfield 11, 3) := by decide +kernel
theorem dX2_spansOfNoPlace_6 : decode cX2_spansOfNoPlace 6 = .ok (.astore_n 2, 1) := by decide +kernel
theorem dX2_spansOfNoPlace_7 : decode cX2_spansOfNoPlace 7 = .ok (.aload_n 2, 1) := by decide +kernel
theorem dX2_spansOfNoPlace_8 : decode cX2_spansOfNoPlace 8 = .ok (.arraylength, 1) := by decide +kernel
theorem dX2_spansOfNoPlace_9 : decode cX2_spansOfNoPlace 9 = .ok (.istore_n 3, 1) := by decide +kernel
theorem dX2_spansOfNoPlace_10 : decode cX2_spansOfNoPlace 10 = .ok (.iconst 0, 1) := by decide +kernel
theorem dX2_spansOfNoPlace_11 : decode cX2_spansOfNoPlace 11 = .ok (.istore 4, 2) := by decide +kernel
theorem dX2_spansOfNoPlace_13 : decode cX2_spansOfNoPlace 13 = .ok (.iload 4, 2) := by decide +kernel
theorem dX2_spansOfNoPlace_15 : decode cX2_spansOfNoPlace 15 = .ok (.iload_n 3, 1) := by decide +kernel
theorem dX2_spansOfNoPlace_16 : decode cX2_spansOfNoPlace 16 = .ok (.if_icmp .ge 40, 3) := by decide +kernel
theorem dX2_spansOfNoPlace_19 : decode cX2_spansOfNoPlace 19 = .ok (.aload_n 2, 1) := by decide +kernel
theorem dX2_spansOfNoPlace_20 : decode cX2_spansOfNoPlace 20 = .ok (.iload 4, 2) := by decide +kernel
theorem dX2_spansOfNoPlace_22 : decode cX2_spansOfNoPlace 22 = .ok (.aaload, 1) := by decide +kernel
theorem dX2_spansOfNoPlace_23 : decode cX2_spansOfNoPlace 23 = .ok (.astore 5, 2) := by decide +kernel
theorem dX2_spansOfNoPlace_25 : decode cX2_spansOfNoPlace 25 = .ok (.aload 5, 2) := by decide +kernel
theorem dX2_spansOfNoPlace_27 : decode cX2_spansOfNoPlace 27 = .ok (.invokevirtual 70, 3) := by decide +kernel
theorem dX2_spansOfNoPlace_30 : decode cX2_spansOfNoPlace 30 = .ok (.ifCond .eq 20, 3) := by decide +kernel
theorem dX2_spansOfNoPlace_33 : decode cX2_spansOfNoPlace 33 = .ok (.iload_n 1, 1) := by decide +kernel
theorem dX2_spansOfNoPlace_34 : decode cX2_spansOfNoPlace 34 = .ok (.bipush 24, 2) := by decide +kernel
theorem dX2_spansOfNoPlace_36 : decode cX2_spansOfNoPlace 36 = .ok (.aload 5, 2) := by decide +kernel
theorem dX2_spansOfNoPlace_38 : decode cX2_spansOfNoPlace 38 = .ok (.getfield 245, 3) := by decide +kernel
theorem dX2_spansOfNoPlace_41 : decode cX2_spansOfNoPlace 41 = .ok (.aload 5, 2) := by decide +kernel
theorem dX2_spansOfNoPlace_43 : decode cX2_spansOfNoPlace 43 = .ok (.getfield 244, 3) := by decide +kernel
theorem dX2_spansOfNoPlace_46 : decode cX2_spansOfNoPlace 46 = .ok (.imul, 1) := by decide +kernel
theorem dX2_spansOfNoPlace_47 : decode cX2_spansOfNoPlace 47 = .ok (.isub, 1) := by decide +kernel
theorem dX2_spansOfNoPlace_48 : decode cX2_spansOfNoPlace 48 = .ok (.iadd, 1) := by decide +kernel
theorem dX2_spansOfNoPlace_49 : decode cX2_spansOfNoPlace 49 = .ok (.istore_n 1, 1) := by decide +kernel
theorem dX2_spansOfNoPlace_50 : decode cX2_spansOfNoPlace 50 = .ok (.iinc 4 1, 3) := by decide +kernel
theorem dX2_spansOfNoPlace_53 : decode cX2_spansOfNoPlace 53 = .ok (.goto (-40), 3) := by decide +kernel
theorem dX2_spansOfNoPlace_56 : decode cX2_spansOfNoPlace 56 = .ok (.iload_n 1, 1) := by decide +kernel
theorem dX2_spansOfNoPlace_57 : decode cX2_spansOfNoPlace 57 = .ok (.ireturn, 1) := by decide +kernel
theorem dX2_mixed_0 : decode cX2_mixed 0 = .ok (.lload_n 0, 1) := by decide +kernel
theorem dX2_mixed_1 : decode cX2_mixed 1 = .ok (.ldc2_w 246, 3) := by decide +kernel
theorem dX2_mixed_4 : decode cX2_mixed 4 = .ok (.lmul, 1) := by decide +kernel
theorem dX2_mixed_5 : decode cX2_mixed 5 = .ok (.lload_n 2, 1) := by decide +kernel
theorem dX2_mixed_6 : decode cX2_mixed 6 = .ok (.ladd, 1) := by decide +kernel
theorem dX2_mixed_7 : decode cX2_mixed 7 = .ok (.lreturn, 1) := by decide +kernel
theorem dX2_mixedWithShelf_0 : decode cX2_mixedWithShelf 0 = .ok (.lload_n 0, 1) := by decide +kernel
theorem dX2_mixedWithShelf_1 : decode cX2_mixedWithShelf 1 = .ok (.lstore_n 3, 1) := by decide +kernel
theorem dX2_mixedWithShelf_2 : decode cX2_mixedWithShelf 2 = .ok (.iconst 0, 1) := by decide +kernel
theorem dX2_mixedWithShelf_3 : decode cX2_mixedWithShelf 3 = .ok (.istore 5, 2) := by decide +kernel
theorem dX2_mixedWithShelf_5 : decode cX2_mixedWithShelf 5 = .ok (.iload 5, 2) := by decide +kernel
theorem dX2_mixedWithShelf_7 : decode cX2_mixedWithShelf 7 = .ok (.bipush 6, 2) := by decide +kernel
theorem dX2_mixedWithShelf_9 : decode cX2_mixedWithShelf 9 = .ok (.if_icmp .ge 21, 3) := by decide +kernel
theorem dX2_mixedWithShelf_12 : decode cX2_mixedWithShelf 12 = .ok (.lload_n 3, 1) := by decide +kernel
theorem dX2_mixedWithShelf_13 : decode cX2_mixedWithShelf 13 = .ok (.aload_n 2, 1) := by decide +kernel
theorem dX2_mixedWithShelf_14 : decode cX2_mixedWithShelf 14 = .ok (.iload 5, 2) := by decide +kernel
theorem dX2_mixedWithShelf_16 : decode cX2_mixedWithShelf 16 = .ok (.invokevirtual 124, 3) := by decide +kernel
theorem dX2_mixedWithShelf_19 : decode cX2_mixedWithShelf 19 = .ok (.i2l, 1) := by decide +kernel
theorem dX2_mixedWithShelf_20 : decode cX2_mixedWithShelf 20 = .ok (.invokestatic 175, 3) := by decide +kernel
theorem dX2_mixedWithShelf_23 : decode cX2_mixedWithShelf 23 = .ok (.lstore_n 3, 1) := by decide +kernel
theorem dX2_mixedWithShelf_24 : decode cX2_mixedWithShelf 24 = .ok (.iinc 5 1, 3) := by decide +kernel
theorem dX2_mixedWithShelf_27 : decode cX2_mixedWithShelf 27 = .ok (.goto (-22), 3) := by decide +kernel
theorem dX2_mixedWithShelf_30 : decode cX2_mixedWithShelf 30 = .ok (.iconst 0, 1) := by decide +kernel
theorem dX2_mixedWithShelf_31 : decode cX2_mixedWithShelf 31 = .ok (.istore 5, 2) := by decide +kernel
theorem dX2_mixedWithShelf_33 : decode cX2_mixedWithShelf 33 = .ok (.iload 5, 2) := by decide +kernel
theorem dX2_mixedWithShelf_35 : decode cX2_mixedWithShelf 35 = .ok (.aload_n 2, 1) := by decide +kernel
theorem dX2_mixedWithShelf_36 : decode cX2_mixedWithShelf 36 = .ok (.getfield 245, 3) := by decide +kernel
theorem dX2_mixedWithShelf_39 : decode cX2_mixedWithShelf 39 = .ok (.if_icmp .ge 28, 3) := by decide +kernel
theorem dX2_mixedWithShelf_42 : decode cX2_mixedWithShelf 42 = .ok (.lload_n 3, 1) := by decide +kernel
theorem dX2_mixedWithShelf_43 : decode cX2_mixedWithShelf 43 = .ok (.aload_n 2, 1) := by decide +kernel
theorem dX2_mixedWithShelf_44 : decode cX2_mixedWithShelf 44 = .ok (.iload 5, 2) := by decide +kernel
theorem dX2_mixedWithShelf_46 : decode cX2_mixedWithShelf 46 = .ok (.invokevirtual 95, 3) := by decide +kernel
theorem dX2_mixedWithShelf_49 : decode cX2_mixedWithShelf 49 = .ok (.ifCond .eq 7, 3) := by decide +kernel
theorem dX2_mixedWithShelf_52 : decode cX2_mixedWithShelf 52 = .ok (.lconst 1, 1) := by decide +kernel
theorem dX2_mixedWithShelf_53 : decode cX2_mixedWithShelf 53 = .ok (.goto 4, 3) := by decide +kernel
theorem dX2_mixedWithShelf_56 : decode cX2_mixedWithShelf 56 = .ok (.lconst 0, 1) := by decide +kernel
theorem dX2_mixedWithShelf_57 : decode cX2_mixedWithShelf 57 = .ok (.invokestatic 175, 3) := by decide +kernel
theorem dX2_mixedWithShelf_60 : decode cX2_mixedWithShelf 60 = .ok (.lstore_n 3, 1) := by decide +kernel
theorem dX2_mixedWithShelf_61 : decode cX2_mixedWithShelf 61 = .ok (.iinc 5 1, 3) := by decide +kernel
theorem dX2_mixedWithShelf_64 : decode cX2_mixedWithShelf 64 = .ok (.goto (-31), 3) := by decide +kernel
theorem dX2_mixedWithShelf_67 : decode cX2_mixedWithShelf 67 = .ok (.lload_n 3, 1) := by decide +kernel
theorem dX2_mixedWithShelf_68 : decode cX2_mixedWithShelf 68 = .ok (.lreturn, 1) := by decide +kernel
theorem dX2_mixedWithKind_0 : decode cX2_mixedWithKind 0 = .ok (.lload_n 1, 1) := by decide +kernel
theorem dX2_mixedWithKind_1 : decode cX2_mixedWithKind 1 = .ok (.lstore 4, 2) := by decide +kernel
theorem dX2_mixedWithKind_3 : decode cX2_mixedWithKind 3 = .ok (.iconst 0, 1) := by decide +kernel
theorem dX2_mixedWithKind_4 : decode cX2_mixedWithKind 4 = .ok (.istore 6, 2) := by decide +kernel
theorem dX2_mixedWithKind_6 : decode cX2_mixedWithKind 6 = .ok (.iload 6, 2) := by decide +kernel
theorem dX2_mixedWithKind_8 : decode cX2_mixedWithKind 8 = .ok (.bipush 9, 2) := by decide +kernel
theorem dX2_mixedWithKind_10 : decode cX2_mixedWithKind 10 = .ok (.if_icmp .ge 24, 3) := by decide +kernel
theorem dX2_mixedWithKind_13 : decode cX2_mixedWithKind 13 = .ok (.lload 4, 2) := by decide +kernel
theorem dX2_mixedWithKind_15 : decode cX2_mixedWithKind 15 = .ok (.aload_n 0, 1) := by decide +kernel
theorem dX2_mixedWithKind_16 : decode cX2_mixedWithKind 16 = .ok (.aload_n 3, 1) := by decide +kernel
theorem dX2_mixedWithKind_17 : decode cX2_mixedWithKind 17 = .ok (.iload 6, 2) := by decide +kernel
theorem dX2_mixedWithKind_19 : decode cX2_mixedWithKind 19 = .ok (.invokevirtual 127, 3) := by decide +kernel
theorem dX2_mixedWithKind_22 : decode cX2_mixedWithKind 22 = .ok (.i2l, 1) := by decide +kernel
theorem dX2_mixedWithKind_23 : decode cX2_mixedWithKind 23 = .ok (.invokestatic 175, 3) := by decide +kernel
theorem dX2_mixedWithKind_26 : decode cX2_mixedWithKind 26 = .ok (.lstore 4, 2) := by decide +kernel
theorem dX2_mixedWithKind_28 : decode cX2_mixedWithKind 28 = .ok (.iinc 6 1, 3) := by decide +kernel
theorem dX2_mixedWithKind_31 : decode cX2_mixedWithKind 31 = .ok (.goto (-25), 3) := by decide +kernel
theorem dX2_mixedWithKind_34 : decode cX2_mixedWithKind 34 = .ok (.lload 4, 2) := by decide +kernel
theorem dX2_mixedWithKind_36 : decode cX2_mixedWithKind 36 = .ok (.aload_n 0, 1) := by decide +kernel
theorem dX2_mixedWithKind_37 : decode cX2_mixedWithKind 37 = .ok (.aload_n 3, 1) := by decide +kernel
theorem dX2_mixedWithKind_38 : decode cX2_mixedWithKind 38 = .ok (.invokevirtual 149, 3) := by decide +kernel
theorem dX2_mixedWithKind_41 : decode cX2_mixedWithKind 41 = .ok (.i2l, 1) := by decide +kernel
theorem dX2_mixedWithKind_42 : decode cX2_mixedWithKind 42 = .ok (.invokestatic 175, 3) := by decide +kernel
theorem dX2_mixedWithKind_45 : decode cX2_mixedWithKind 45 = .ok (.lreturn, 1) := by decide +kernel
theorem dX3_init_0 : decode cX3_init 0 = .ok (.aload_n 0, 1) := by decide +kernel
theorem dX3_init_1 : decode cX3_init 1 = .ok (.invokespecial 1, 3) := by decide +kernel
theorem dX3_init_4 : decode cX3_init 4 = .ok (.aload_n 0, 1) := by decide +kernel
theorem dX3_init_5 : decode cX3_init 5 = .ok (.iconst 5, 1) := by decide +kernel
theorem dX3_init_6 : decode cX3_init 6 = .ok (.newarray .int, 2) := by decide +kernel
theorem dX3_init_8 : decode cX3_init 8 = .ok (.putfield 9, 3) := by decide +kernel
theorem dX3_init_11 : decode cX3_init 11 = .ok (.aload_n 0, 1) := by decide +kernel
theorem dX3_init_12 : decode cX3_init 12 = .ok (.iconst 5, 1) := by decide +kernel
theorem dX3_init_13 : decode cX3_init 13 = .ok (.newarray .int, 2) := by decide +kernel
theorem dX3_init_15 : decode cX3_init 15 = .ok (.putfield 13, 3) := by decide +kernel
theorem dX3_init_18 : decode cX3_init 18 = .ok (.aload_n 0, 1) := by decide +kernel
theorem dX3_init_19 : decode cX3_init 19 = .ok (.bipush 12, 2) := by decide +kernel
theorem dX3_init_21 : decode cX3_init 21 = .ok (.newarray .int, 2) := by decide +kernel
theorem dX3_init_23 : decode cX3_init 23 = .ok (.putfield 16, 3) := by decide +kernel
theorem dX3_init_26 : decode cX3_init 26 = .ok (.aload_n 0, 1) := by decide +kernel
theorem dX3_init_27 : decode cX3_init 27 = .ok (.bipush 12, 2) := by decide +kernel
theorem dX3_init_29 : decode cX3_init 29 = .ok (.newarray .int, 2) := by decide +kernel
theorem dX3_init_31 : decode cX3_init 31 = .ok (.putfield 19, 3) := by decide +kernel
theorem dX3_init_34 : decode cX3_init 34 = .ok (.aload_n 0, 1) := by decide +kernel
theorem dX3_init_35 : decode cX3_init 35 = .ok (.bipush 12, 2) := by decide +kernel
theorem dX3_init_37 : decode cX3_init 37 = .ok (.newarray .int, 2) := by decide +kernel
theorem dX3_init_39 : decode cX3_init 39 = .ok (.putfield 22, 3) := by decide +kernel
theorem dX3_init_42 : decode cX3_init 42 = .ok (.aload_n 0, 1) := by decide +kernel
theorem dX3_init_43 : decode cX3_init 43 = .ok (.bipush 12, 2) := by decide +kernel
theorem dX3_init_45 : decode cX3_init 45 = .ok (.newarray .int, 2) := by decide +kernel
theorem dX3_init_47 : decode cX3_init 47 = .ok (.putfield 25, 3) := by decide +kernel
theorem dX3_init_50 : decode cX3_init 50 = .ok (.aload_n 0, 1) := by decide +kernel
theorem dX3_init_51 : decode cX3_init 51 = .ok (.bipush 12, 2) := by decide +kernel
theorem dX3_init_53 : decode cX3_init 53 = .ok (.newarray .int, 2) := by decide +kernel
theorem dX3_init_55 : decode cX3_init 55 = .ok (.putfield 28, 3) := by decide +kernel
theorem dX3_init_58 : decode cX3_init 58 = .ok (.aload_n 0, 1) := by decide +kernel
theorem dX3_init_59 : decode cX3_init 59 = .ok (.bipush 12, 2) := by decide +kernel
theorem dX3_init_61 : decode cX3_init 61 = .ok (.newarray .int, 2) := by decide +kernel
theorem dX3_init_63 : decode cX3_init 63 = .ok (.putfield 31, 3) := by decide +kernel
theorem dX3_init_66 : decode cX3_init 66 = .ok (.iconst 0, 1) := by decide +kernel
theorem dX3_init_67 : decode cX3_init 67 = .ok (.istore_n 1, 1) := by decide +kernel
theorem dX3_init_68 : decode cX3_init 68 = .ok (.iload_n 1, 1) := by decide +kernel
theorem dX3_init_69 : decode cX3_init 69 = .ok (.bipush 12, 2) := by decide +kernel
theorem dX3_init_71 : decode cX3_init 71 = .ok (.if_icmp .ge 23, 3) := by decide +kernel
theorem dX3_init_74 : decode cX3_init 74 = .ok (.aload_n 0, 1) := by decide +kernel
theorem dX3_init_75 : decode cX3_init 75 = .ok (.getfield 16, 3) := by decide +kernel
theorem dX3_init_78 : decode cX3_init 78 = .ok (.iload_n 1, 1) := by decide +kernel
theorem dX3_init_79 : decode cX3_init 79 = .ok (.iconst (-1), 1) := by decide +kernel
theorem dX3_init_80 : decode cX3_init 80 = .ok (.iastore, 1) := by decide +kernel
theorem dX3_init_81 : decode cX3_init 81 = .ok (.aload_n 0, 1) := by decide +kernel
theorem dX3_init_82 : decode cX3_init 82 = .ok (.getfield 25, 3) := by decide +kernel
theorem dX3_init_85 : decode cX3_init 85 = .ok (.iload_n 1, 1) := by decide +kernel
theorem dX3_init_86 : decode cX3_init 86 = .ok (.iconst (-1), 1) := by decide +kernel
theorem dX3_init_87 : decode cX3_init 87 = .ok (.iastore, 1) := by decide +kernel
theorem dX3_init_88 : decode cX3_init 88 = .ok (.iinc 1 1, 3) := by decide +kernel
theorem dX3_init_91 : decode cX3_init 91 = .ok (.goto (-23), 3) := by decide +kernel
theorem dX3_init_94 : decode cX3_init 94 = .ok (.return_, 1) := by decide +kernel
theorem dX3_thrown_0 : decode cX3_thrown 0 = .ok (.aload_n 0, 1) := by decide +kernel
theorem dX3_thrown_1 : decode cX3_thrown 1 = .ok (.getfield 34, 3) := by decide +kernel
theorem dX3_thrown_4 : decode cX3_thrown 4 = .ok (.ireturn, 1) := by decide +kernel
theorem dX3_no_0 : decode cX3_no 0 = .ok (.aload_n 0, 1) := by decide +kernel
theorem dX3_no_1 : decode cX3_no 1 = .ok (.iload_n 1, 1) := by decide +kernel
theorem dX3_no_2 : decode cX3_no 2 = .ok (.putfield 34, 3) := by decide +kernel
theorem dX3_no_5 : decode cX3_no 5 = .ok (.iconst 0, 1) := by decide +kernel
theorem dX3_no_6 : decode cX3_no 6 = .ok (.ireturn, 1) := by decide +kernel
theorem dX3_isIn_0 : decode cX3_isIn 0 = .ok (.iload_n 0, 1) := by decide +kernel
theorem dX3_isIn_1 : decode cX3_isIn 1 = .ok (.iload_n 1, 1) := by decide +kernel
theorem dX3_isIn_2 : decode cX3_isIn 2 = .ok (.if_icmp .lt 12, 3) := by decide +kernel
theorem dX3_isIn_5 : decode cX3_isIn 5 = .ok (.iload_n 0, 1) := by decide +kernel
theorem dX3_isIn_6 : decode cX3_isIn 6 = .ok (.iload_n 2, 1) := by decide +kernel
theorem dX3_isIn_7 : decode cX3_isIn 7 = .ok (.if_icmp .gt 7, 3) := by decide +kernel
theorem dX3_isIn_10 : decode cX3_isIn 10 = .ok (.iconst 1, 1) := by decide +kernel
theorem dX3_isIn_11 : decode cX3_isIn 11 = .ok (.goto 4, 3) := by decide +kernel
theorem dX3_isIn_14 : decode cX3_isIn 14 = .ok (.iconst 0, 1) := by decide +kernel
theorem dX3_isIn_15 : decode cX3_isIn 15 = .ok (.ireturn, 1) := by decide +kernel
theorem dX3_isKind_0 : decode cX3_isKind 0 = .ok (.iload_n 1, 1) := by decide +kernel
theorem dX3_isKind_1 : decode cX3_isKind 1 = .ok (.iconst 0, 1) := by decide +kernel
theorem dX3_isKind_2 : decode cX3_isKind 2 = .ok (.aload_n 0, 1) := by decide +kernel
theorem dX3_isKind_3 : decode cX3_isKind 3 = .ok (.getfield 38, 3) := by decide +kernel
theorem dX3_isKind_6 : decode cX3_isKind 6 = .ok (.iconst 1, 1) := by decide +kernel
theorem dX3_isKind_7 : decode cX3_isKind 7 = .ok (.isub, 1) := by decide +kernel
theorem dX3_isKind_8 : decode cX3_isKind 8 = .ok (.invokestatic 41, 3) := by decide +kernel
theorem dX3_isKind_11 : decode cX3_isKind 11 = .ok (.ireturn, 1) := by decide +kernel
theorem dX3_isSpot_0 : decode cX3_isSpot 0 = .ok (.iload_n 0, 1) := by decide +kernel
theorem dX3_isSpot_1 : decode cX3_isSpot 1 = .ok (.iconst 0, 1) := by decide +kernel
theorem dX3_isSpot_2 : decode cX3_isSpot 2 = .ok (.sipush 287, 3) := by decide +kernel
theorem dX3_isSpot_5 : decode cX3_isSpot 5 = .ok (.invokestatic 41, 3) := by decide +kernel
theorem dX3_isSpot_8 : decode cX3_isSpot 8 = .ok (.ireturn, 1) := by decide +kernel
theorem dX3_places_0 : decode cX3_places 0 = .ok (.bipush 24, 2) := by decide +kernel
theorem dX3_places_2 : decode cX3_places 2 = .ok (.aload_n 0, 1) := by decide +kernel
theorem dX3_places_3 : decode cX3_places 3 = .ok (.getfield 9, 3) := by decide +kernel
theorem dX3_places_6 : decode cX3_places 6 = .ok (.iload_n 1, 1) := by decide +kernel
theorem dX3_places_7 : decode cX3_places 7 = .ok (.iaload, 1) := by decide +kernel
theorem dX3_places_8 : decode cX3_places 8 = .ok (.idiv, 1) := by decide +kernel
theorem dX3_places_9 : decode cX3_places 9 = .ok (.ireturn, 1) := by decide +kernel
theorem dX3_rest_0 : decode cX3_rest 0 = .ok (.bipush 24, 2) := by decide +kernel
theorem dX3_rest_2 : decode cX3_rest 2 = .ok (.aload_n 0, 1) := by decide +kernel
theorem dX3_rest_3 : decode cX3_rest 3 = .ok (.getfield 9, 3) := by decide +kernel
theorem dX3_rest_6 : decode cX3_rest 6 = .ok (.iload_n 1, 1) := by decide +kernel
theorem dX3_rest_7 : decode cX3_rest 7 = .ok (.iaload, 1) := by decide +kernel
theorem dX3_rest_8 : decode cX3_rest 8 = .ok (.irem, 1) := by decide +kernel
theorem dX3_rest_9 : decode cX3_rest 9 = .ok (.ireturn, 1) := by decide +kernel
theorem dX3_isFree_0 : decode cX3_isFree 0 = .ok (.aload_n 0, 1) := by decide +kernel
theorem dX3_isFree_1 : decode cX3_isFree 1 = .ok (.getfield 16, 3) := by decide +kernel
theorem dX3_isFree_4 : decode cX3_isFree 4 = .ok (.iload_n 1, 1) := by decide +kernel
theorem dX3_isFree_5 : decode cX3_isFree 5 = .ok (.iaload, 1) := by decide +kernel
theorem dX3_isFree_6 : decode cX3_isFree 6 = .ok (.iconst (-1), 1) := by decide +kernel
theorem dX3_isFree_7 : decode cX3_isFree 7 = .ok (.if_icmp .ne 7, 3) := by decide +kernel
theorem dX3_isFree_10 : decode cX3_isFree 10 = .ok (.iconst 1, 1) := by decide +kernel
theorem dX3_isFree_11 : decode cX3_isFree 11 = .ok (.goto 4, 3) := by decide +kernel
theorem dX3_isFree_14 : decode cX3_isFree 14 = .ok (.iconst 0, 1) := by decide +kernel
theorem dX3_isFree_15 : decode cX3_isFree 15 = .ok (.ireturn, 1) := by decide +kernel
theorem dX3_many_0 : decode cX3_many 0 = .ok (.aload_n 0, 1) := by decide +kernel
theorem dX3_many_1 : decode cX3_many 1 = .ok (.getfield 22, 3) := by decide +kernel
theorem dX3_many_4 : decode cX3_many 4 = .ok (.iload_n 1, 1) := by decide +kernel
theorem dX3_many_5 : decode cX3_many 5 = .ok (.iaload, 1) := by decide +kernel
theorem dX3_many_6 : decode cX3_many 6 = .ok (.invokestatic 45, 3) := by decide +kernel
theorem dX3_many_9 : decode cX3_many 9 = .ok (.ireturn, 1) := by decide +kernel
theorem dX3_isFull_0 : decode cX3_isFull 0 = .ok (.aload_n 0, 1) := by decide +kernel
theorem dX3_isFull_1 : decode cX3_isFull 1 = .ok (.iload_n 1, 1) := by decide +kernel
theorem dX3_isFull_2 : decode cX3_isFull 2 = .ok (.invokevirtual 51, 3) := by decide +kernel
theorem dX3_isFull_5 : decode cX3_isFull 5 = .ok (.aload_n 0, 1) := by decide +kernel
theorem dX3_isFull_6 : decode cX3_isFull 6 = .ok (.aload_n 0, 1) := by decide +kernel
theorem dX3_isFull_7 : decode cX3_isFull 7 = .ok (.getfield 16, 3) := by decide +kernel
theorem dX3_isFull_10 : decode cX3_isFull 10 = .ok (.iload_n 1, 1) := by decide +kernel
theorem dX3_isFull_11 : decode cX3_isFull 11 = .ok (.iaload, 1) := by decide +kernel
theorem dX3_isFull_12 : decode cX3_isFull 12 = .ok (.invokevirtual 54, 3) := by decide +kernel
theorem dX3_isFull_15 : decode cX3_isFull 15 = .ok (.if_icmp .ne 7, 3) := by decide +kernel
theorem dX3_isFull_18 : decode cX3_isFull 18 = .ok (.iconst 1, 1) := by decide +kernel
theorem dX3_isFull_19 : decode cX3_isFull 19 = .ok (.goto 4, 3) := by decide +kernel
theorem dX3_isFull_22 : decode cX3_isFull 22 = .ok (.iconst 0, 1) := by decide +kernel
theorem dX3_isFull_23 : decode cX3_isFull 23 = .ok (.ireturn, 1) := by decide +kernel
theorem dX3_isUsed_0 : decode cX3_isUsed 0 = .ok (.aload_n 0, 1) := by decide +kernel
theorem dX3_isUsed_1 : decode cX3_isUsed 1 = .ok (.getfield 16, 3) := by decide +kernel
theorem dX3_isUsed_4 : decode cX3_isUsed 4 = .ok (.iload_n 1, 1) := by decide +kernel
theorem dX3_isUsed_5 : decode cX3_isUsed 5 = .ok (.iaload, 1) := by decide +kernel
theorem dX3_isUsed_6 : decode cX3_isUsed 6 = .ok (.iload_n 2, 1) := by decide +kernel
theorem dX3_isUsed_7 : decode cX3_isUsed 7 = .ok (.if_icmp .ne 24, 3) := by decide +kernel
theorem dX3_isUsed_10 : decode cX3_isUsed 10 = .ok (.aload_n 0, 1) := by decide +kernel
theorem dX3_isUsed_11 : decode cX3_isUsed 11 = .ok (.getfield 22, 3) := by decide +kernel
theorem dX3_isUsed_14 : decode cX3_isUsed 14 = .ok (.iload_n 1, 1) := by decide +kernel
theorem dX3_isUsed_15 : decode cX3_isUsed 15 = .ok (.iaload, 1) := by decide +kernel
theorem dX3_isUsed_16 : decode cX3_isUsed 16 = .ok (.ifCond .eq 15, 3) := by decide +kernel
theorem dX3_isUsed_19 : decode cX3_isUsed 19 = .ok (.aload_n 0, 1) := by decide +kernel
theorem dX3_isUsed_20 : decode cX3_isUsed 20 = .ok (.iload_n 1, 1) := by decide +kernel
theorem dX3_isUsed_21 : decode cX3_isUsed 21 = .ok (.invokevirtual 57, 3) := by decide +kernel
theorem dX3_isUsed_24 : decode cX3_isUsed 24 = .ok (.ifCond .ne 7, 3) := by decide +kernel
theorem dX3_isUsed_27 : decode cX3_isUsed 27 = .ok (.iconst 1, 1) := by decide +kernel
theorem dX3_isUsed_28 : decode cX3_isUsed 28 = .ok (.goto 4, 3) := by decide +kernel
theorem dX3_isUsed_31 : decode cX3_isUsed 31 = .ok (.iconst 0, 1) := by decide +kernel
theorem dX3_isUsed_32 : decode cX3_isUsed 32 = .ok (.ireturn, 1) := by decide +kernel
theorem dX3_isEmpty_0 : decode cX3_isEmpty 0 = .ok (.aload_n 0, 1) := by decide +kernel
theorem dX3_isEmpty_1 : decode cX3_isEmpty 1 = .ok (.getfield 16, 3) := by decide +kernel
theorem dX3_isEmpty_4 : decode cX3_isEmpty 4 = .ok (.iload_n 1, 1) := by decide +kernel
theorem dX3_isEmpty_5 : decode cX3_isEmpty 5 = .ok (.iaload, 1) := by decide +kernel
theorem dX3_isEmpty_6 : decode cX3_isEmpty 6 = .ok (.iload_n 2, 1) := by decide +kernel
theorem dX3_isEmpty_7 : decode cX3_isEmpty 7 = .ok (.if_icmp .ne 16, 3) := by decide +kernel
theorem dX3_isEmpty_10 : decode cX3_isEmpty 10 = .ok (.aload_n 0, 1) := by decide +kernel
theorem dX3_isEmpty_11 : decode cX3_isEmpty 11 = .ok (.getfield 22, 3) := by decide +kernel
theorem dX3_isEmpty_14 : decode cX3_isEmpty 14 = .ok (.iload_n 1, 1) := by decide +kernel
theorem dX3_isEmpty_15 : decode cX3_isEmpty 15 = .ok (.iaload, 1) := by decide +kernel
theorem dX3_isEmpty_16 : decode cX3_isEmpty 16 = .ok (.ifCond .ne 7, 3) := by decide +kernel
theorem dX3_isEmpty_19 : decode cX3_isEmpty 19 = .ok (.iconst 1, 1) := by decide +kernel
theorem dX3_isEmpty_20 : decode cX3_isEmpty 20 = .ok (.goto 4, 3) := by decide +kernel
theorem dX3_isEmpty_23 : decode cX3_isEmpty 23 = .ok (.iconst 0, 1) := by decide +kernel
theorem dX3_isEmpty_24 : decode cX3_isEmpty 24 = .ok (.ireturn, 1) := by decide +kernel
theorem dX3_hole_0 : decode cX3_hole 0 = .ok (.iconst 0, 1) := by decide +kernel
theorem dX3_hole_1 : decode cX3_hole 1 = .ok (.istore_n 2, 1) := by decide +kernel
theorem dX3_hole_2 : decode cX3_hole 2 = .ok (.iload_n 2, 1) := by decide +kernel
theorem dX3_hole_3 : decode cX3_hole 3 = .ok (.aload_n 0, 1) := by decide +kernel
theorem dX3_hole_4 : decode cX3_hole 4 = .ok (.aload_n 0, 1) := by decide +kernel
theorem dX3_hole_5 : decode cX3_hole 5 = .ok (.getfield 16, 3) := by decide +kernel
theorem dX3_hole_8 : decode cX3_hole 8 = .ok (.iload_n 1, 1) := by decide +kernel
theorem dX3_hole_9 : decode cX3_hole 9 = .ok (.iaload, 1) := by decide +kernel
theorem dX3_hole_10 : decode cX3_hole 10 = .ok (.invokevirtual 54, 3) := by decide +kernel
theorem dX3_hole_13 : decode cX3_hole 13 = .ok (.if_icmp .ge 24, 3) := by decide +kernel
theorem dX3_hole_16 : decode cX3_hole 16 = .ok (.aload_n 0, 1) := by decide +kernel
theorem dX3_hole_17 : decode cX3_hole 17 = .ok (.getfield 22, 3) := by decide +kernel
theorem dX3_hole_20 : decode cX3_hole 20 = .ok (.iload_n 1, 1) := by decide +kernel
theorem dX3_hole_21 : decode cX3_hole 21 = .ok (.iaload, 1) := by decide +kernel
theorem dX3_hole_22 : decode cX3_hole 22 = .ok (.iload_n 2, 1) := by decide +kernel
theorem dX3_hole_23 : decode cX3_hole 23 = .ok (.ishr, 1) := by decide +kernel
theorem dX3_hole_24 : decode cX3_hole 24 = .ok (.iconst 1, 1) := by decide +kernel
theorem dX3_hole_25 : decode cX3_hole 25 = .ok (.iand, 1) := by decide +kernel
theorem dX3_hole_26 : decode cX3_hole 26 = .ok (.ifCond .ne 5, 3) := by decide +kernel
theorem dX3_hole_29 : decode cX3_hole 29 = .ok (.iload_n 2, 1) := by decide +kernel
theorem dX3_hole_30 : decode cX3_hole 30 = .ok (.ireturn, 1) := by decide +kernel
theorem dX3_hole_31 : decode cX3_hole 31 = .ok (.iinc 2 1, 3) := by decide +kernel
theorem dX3_hole_34 : decode cX3_hole 34 = .ok (.goto (-32), 3) := by decide +kernel
theorem dX3_hole_37 : decode cX3_hole 37 = .ok (.iconst (-1), 1) := by decide +kernel
theorem dX3_hole_38 : decode cX3_hole 38 = .ok (.ireturn, 1) := by decide +kernel
theorem dX3_spotOf_0 : decode cX3_spotOf 0 = .ok (.bipush 24, 2) := by decide +kernel
theorem dX3_spotOf_2 : decode cX3_spotOf 2 = .ok (.iload_n 1, 1) := by decide +kernel
theorem dX3_spotOf_3 : decode cX3_spotOf 3 = .ok (.imul, 1) := by decide +kernel
theorem dX3_spotOf_4 : decode cX3_spotOf 4 = .ok (.aload_n 0, 1) := by decide +kernel
theorem dX3_spotOf_5 : decode cX3_spotOf 5 = .ok (.getfield 19, 3) := by decide +kernel
theorem dX3_spotOf_8 : decode cX3_spotOf 8 = .ok (.iload_n 1, 1) := by decide +kernel
theorem dX3_spotOf_9 : decode cX3_spotOf 9 = .ok (.iaload, 1) := by decide +kernel
theorem dX3_spotOf_10 : decode cX3_spotOf 10 = .ok (.iadd, 1) := by decide +kernel
theorem dX3_spotOf_11 : decode cX3_spotOf 11 = .ok (.iload_n 2, 1) := by decide +kernel
theorem dX3_spotOf_12 : decode cX3_spotOf 12 = .ok (.aload_n 0, 1) := by decide +kernel
theorem dX3_spotOf_13 : decode cX3_spotOf 13 = .ok (.getfield 9, 3) := by decide +kernel
theorem dX3_spotOf_16 : decode cX3_spotOf 16 = .ok (.aload_n 0, 1) := by decide +kernel
theorem dX3_spotOf_17 : decode cX3_spotOf 17 = .ok (.getfield 16, 3) := by decide +kernel
theorem dX3_spotOf_20 : decode cX3_spotOf 20 = .ok (.iload_n 1, 1) := by decide +kernel
theorem dX3_spotOf_21 : decode cX3_spotOf 21 = .ok (.iaload, 1) := by decide +kernel
theorem dX3_spotOf_22 : decode cX3_spotOf 22 = .ok (.iaload, 1) := by decide +kernel
theorem dX3_spotOf_23 : decode cX3_spotOf 23 = .ok (.imul, 1) := by decide +kernel
theorem dX3_spotOf_24 : decode cX3_spotOf 24 = .ok (.iadd, 1) := by decide +kernel
theorem dX3_spotOf_25 : decode cX3_spotOf 25 = .ok (.ireturn, 1) := by decide +kernel
theorem dX3_isBetter_0 : decode cX3_isBetter 0 = .ok (.iload_n 2, 1) := by decide +kernel
theorem dX3_isBetter_1 : decode cX3_isBetter 1 = .ok (.iconst (-1), 1) := by decide +kernel
theorem dX3_isBetter_2 : decode cX3_isBetter 2 = .ok (.if_icmp .ne 5, 3) := by decide +kernel
theorem dX3_isBetter_5 : decode cX3_isBetter 5 = .ok (.iconst 1, 1) := by decide +kernel
theorem dX3_isBetter_6 : decode cX3_isBetter 6 = .ok (.ireturn, 1) := by decide +kernel
theorem dX3_isBetter_7 : decode cX3_isBetter 7 = .ok (.aload_n 0, 1) := by decide +kernel
theorem dX3_isBetter_8 : decode cX3_isBetter 8 = .ok (.getfield 61, 3) := by decide +kernel
theorem dX3_isBetter_11 : decode cX3_isBetter 11 = .ok (.iconst 1, 1) := by decide +kernel
theorem dX3_isBetter_12 : decode cX3_isBetter 12 = .ok (.if_icmp .ne 16, 3) := by decide +kernel
theorem dX3_isBetter_15 : decode cX3_isBetter 15 = .ok (.aload_n 0, 1) := by decide +kernel
theorem dX3_isBetter_16 : decode cX3_isBetter 16 = .ok (.iload_n 1, 1) := by decide +kernel
theorem dX3_isBetter_17 : decode cX3_isBetter 17 = .ok (.invokevirtual 51, 3) := by decide +kernel
theorem dX3_isBetter_20 : decode cX3_isBetter 20 = .ok (.aload_n 0, 1) := by decide +kernel
theorem dX3_isBetter_21 : decode cX3_isBetter 21 = .ok (.iload_n 2, 1) := by decide +kernel
theorem dX3_isBetter_22 : decode cX3_isBetter 22 = .ok (.invokevirtual 51, 3) := by decide +kernel
theorem dX3_isBetter_25 : decode cX3_isBetter 25 = .ok (.if_icmp .gt 24, 3) := by decide +kernel
theorem dX3_isBetter_28 : decode cX3_isBetter 28 = .ok (.aload_n 0, 1) := by decide +kernel
theorem dX3_isBetter_29 : decode cX3_isBetter 29 = .ok (.getfield 61, 3) := by decide +kernel
theorem dX3_isBetter_32 : decode cX3_isBetter 32 = .ok (.iconst 2, 1) := by decide +kernel
theorem dX3_isBetter_33 : decode cX3_isBetter 33 = .ok (.if_icmp .ne 20, 3) := by decide +kernel
theorem dX3_isBetter_36 : decode cX3_isBetter 36 = .ok (.aload_n 0, 1) := by decide +kernel
theorem dX3_isBetter_37 : decode cX3_isBetter 37 = .ok (.iload_n 1, 1) := by decide +kernel
theorem dX3_isBetter_38 : decode cX3_isBetter 38 = .ok (.invokevirtual 51, 3) := by decide +kernel
theorem dX3_isBetter_41 : decode cX3_isBetter 41 = .ok (.aload_n 0, 1) := by decide +kernel
theorem dX3_isBetter_42 : decode cX3_isBetter 42 = .ok (.iload_n 2, 1) := by decide +kernel
theorem dX3_isBetter_43 : decode cX3_isBetter 43 = .ok (.invokevirtual 51, 3) := by decide +kernel
theorem dX3_isBetter_46 : decode cX3_isBetter 46 = .ok (.if_icmp .ge 7, 3) := by decide +kernel
theorem dX3_isBetter_49 : decode cX3_isBetter 49 = .ok (.iconst 1, 1) := by decide +kernel
theorem dX3_isBetter_50 : decode cX3_isBetter 50 = .ok (.goto 4, 3) := by decide +kernel
theorem dX3_isBetter_53 : decode cX3_isBetter 53 = .ok (.iconst 0, 1) := by decide +kernel
theorem dX3_isBetter_54 : decode cX3_isBetter 54 = .ok (.ireturn, 1) := by decide +kernel
theorem dX3_shelfFor_0 : decode cX3_shelfFor 0 = .ok (.iconst (-1), 1) := by decide +kernel
theorem dX3_shelfFor_1 : decode cX3_shelfFor 1 = .ok (.istore_n 2, 1) := by decide +kernel
theorem dX3_shelfFor_2 : decode cX3_shelfFor 2 = .ok (.iconst 0, 1) := by decide +kernel
theorem dX3_shelfFor_3 : decode cX3_shelfFor 3 = .ok (.istore_n 3, 1) := by decide +kernel
theorem dX3_shelfFor_4 : decode cX3_shelfFor 4 = .ok (.iload_n 3, 1) := by decide +kernel
theorem dX3_shelfFor_5 : decode cX3_shelfFor 5 = .ok (.bipush 12, 2) := by decide +kernel
theorem dX3_shelfFor_7 : decode cX3_shelfFor 7 = .ok (.if_icmp .ge 29, 3) := by decide +kernel
theorem dX3_shelfFor_10 : decode cX3_shelfFor 10 = .ok (.aload_n 0, 1) := by decide +kernel
theorem dX3_shelfFor_11 : decode cX3_shelfFor 11 = .ok (.iload_n 3, 1) := by decide +kernel
theorem dX3_shelfFor_12 : decode cX3_shelfFor 12 = .ok (.iload_n 1, 1) := by decide +kernel
theorem dX3_shelfFor_13 : decode cX3_shelfFor 13 = .ok (.invokevirtual 64, 3) := by decide +kernel
theorem dX3_shelfFor_16 : decode cX3_shelfFor 16 = .ok (.ifCond .eq 14, 3) := by decide +kernel
theorem dX3_shelfFor_19 : decode cX3_shelfFor 19 = .ok (.aload_n 0, 1) := by decide +kernel
theorem dX3_shelfFor_20 : decode cX3_shelfFor 20 = .ok (.iload_n 3, 1) := by decide +kernel
theorem dX3_shelfFor_21 : decode cX3_shelfFor 21 = .ok (.iload_n 2, 1) := by decide +kernel
theorem dX3_shelfFor_22 : decode cX3_shelfFor 22 = .ok (.invokevirtual 68, 3) := by decide +kernel
theorem dX3_shelfFor_25 : decode cX3_shelfFor 25 = .ok (.ifCond .eq 5, 3) := by decide +kernel
theorem dX3_shelfFor_28 : decode cX3_shelfFor 28 = .ok (.iload_n 3, 1) := by decide +kernel
theorem dX3_shelfFor_29 : decode cX3_shelfFor 29 = .ok (.istore_n 2, 1) := by decide +kernel
theorem dX3_shelfFor_30 : decode cX3_shelfFor 30 = .ok (.iinc 3 1, 3) := by decide +kernel
theorem dX3_shelfFor_33 : decode cX3_shelfFor 33 = .ok (.goto (-29), 3) := by decide +kernel
theorem dX3_shelfFor_36 : decode cX3_shelfFor 36 = .ok (.iconst 0, 1) := by decide +kernel
theorem dX3_shelfFor_37 : decode cX3_shelfFor 37 = .ok (.istore_n 3, 1) := by decide +kernel
theorem dX3_shelfFor_38 : decode cX3_shelfFor 38 = .ok (.iload_n 3, 1) := by decide +kernel
theorem dX3_shelfFor_39 : decode cX3_shelfFor 39 = .ok (.bipush 12, 2) := by decide +kernel
theorem dX3_shelfFor_41 : decode cX3_shelfFor 41 = .ok (.if_icmp .ge 25, 3) := by decide +kernel
theorem dX3_shelfFor_44 : decode cX3_shelfFor 44 = .ok (.iload_n 2, 1) := by decide +kernel
theorem dX3_shelfFor_45 : decode cX3_shelfFor 45 = .ok (.iconst (-1), 1) := by decide +kernel
theorem dX3_shelfFor_46 : decode cX3_shelfFor 46 = .ok (.if_icmp .ne 20, 3) := by decide +kernel
theorem dX3_shelfFor_49 : decode cX3_shelfFor 49 = .ok (.aload_n 0, 1) := by decide +kernel
theorem dX3_shelfFor_50 : decode cX3_shelfFor 50 = .ok (.iload_n 3, 1) := by decide +kernel
theorem dX3_shelfFor_51 : decode cX3_shelfFor 51 = .ok (.iload_n 1, 1) := by decide +kernel
theorem dX3_shelfFor_52 : decode cX3_shelfFor 52 = .ok (.invokevirtual 71, 3) := by decide +kernel
theorem dX3_shelfFor_55 : decode cX3_shelfFor 55 = .ok (.ifCond .eq 5, 3) := by decide +kernel
theorem dX3_shelfFor_58 : decode cX3_shelfFor 58 = .ok (.iload_n 3, 1) := by decide +kernel
theorem dX3_shelfFor_59 : decode cX3_shelfFor 59 = .ok (.istore_n 2, 1) := by decide +kernel
theorem dX3_shelfFor_60 : decode cX3_shelfFor 60 = .ok (.iinc 3 1, 3) := by decide +kernel
theorem dX3_shelfFor_63 : decode cX3_shelfFor 63 = .ok (.goto (-25), 3) := by decide +kernel
theorem dX3_shelfFor_66 : decode cX3_shelfFor 66 = .ok (.iconst 0, 1) := by decide +kernel
theorem dX3_shelfFor_67 : decode cX3_shelfFor 67 = .ok (.istore_n 3, 1) := by decide +kernel
theorem dX3_shelfFor_68 : decode cX3_shelfFor 68 = .ok (.iload_n 3, 1) := by decide +kernel
theorem dX3_shelfFor_69 : decode cX3_shelfFor 69 = .ok (.bipush 12, 2) := by decide +kernel
theorem dX3_shelfFor_71 : decode cX3_shelfFor 71 = .ok (.if_icmp .ge 24, 3) := by decide +kernel
theorem dX3_shelfFor_74 : decode cX3_shelfFor 74 = .ok (.iload_n 2, 1) := by decide +kernel
theorem dX3_shelfFor_75 : decode cX3_shelfFor 75 = .ok (.iconst (-1), 1) := by decide +kernel
theorem dX3_shelfFor_76 : decode cX3_shelfFor 76 = .ok (.if_icmp .ne 19, 3) := by decide +kernel
theorem dX3_shelfFor_79 : decode cX3_shelfFor 79 = .ok (.aload_n 0, 1) := by decide +kernel
theorem dX3_shelfFor_80 : decode cX3_shelfFor 80 = .ok (.iload_n 3, 1) := by decide +kernel
theorem dX3_shelfFor_81 : decode cX3_shelfFor 81 = .ok (.invokevirtual 74, 3) := by decide +kernel
theorem dX3_shelfFor_84 : decode cX3_shelfFor 84 = .ok (.ifCond .eq 5, 3) := by decide +kernel
theorem dX3_shelfFor_87 : decode cX3_shelfFor 87 = .ok (.iload_n 3, 1) := by decide +kernel
theorem dX3_shelfFor_88 : decode cX3_shelfFor 88 = .ok (.istore_n 2, 1) := by decide +kernel
theorem dX3_shelfFor_89 : decode cX3_shelfFor 89 = .ok (.iinc 3 1, 3) := by decide +kernel
theorem dX3_shelfFor_92 : decode cX3_shelfFor 92 = .ok (.goto (-24), 3) := by decide +kernel
theorem dX3_shelfFor_95 : decode cX3_shelfFor 95 = .ok (.iload_n 2, 1) := by decide +kernel
theorem dX3_shelfFor_96 : decode cX3_shelfFor 96 = .ok (.ireturn, 1) := by decide +kernel
theorem dX3_nextRim_0 : decode cX3_nextRim 0 = .ok (.aload_n 0, 1) := by decide +kernel
theorem dX3_nextRim_1 : decode cX3_nextRim 1 = .ok (.getfield 13, 3) := by decide +kernel
theorem dX3_nextRim_4 : decode cX3_nextRim 4 = .ok (.iload_n 1, 1) := by decide +kernel
theorem dX3_nextRim_5 : decode cX3_nextRim 5 = .ok (.iaload, 1) := by decide +kernel
theorem dX3_nextRim_6 : decode cX3_nextRim 6 = .ok (.aload_n 0, 1) := by decide +kernel
theorem dX3_nextRim_7 : decode cX3_nextRim 7 = .ok (.iload_n 1, 1) := by decide +kernel
theorem dX3_nextRim_8 : decode cX3_nextRim 8 = .ok (.invokevirtual 77, 3) := by decide +kernel
theorem dX3_nextRim_11 : decode cX3_nextRim 11 = .ok (.iconst 1, 1) := by decide +kernel
theorem dX3_nextRim_12 : decode cX3_nextRim 12 = .ok (.iadd, 1) := by decide +kernel
theorem dX3_nextRim_13 : decode cX3_nextRim 13 = .ok (.irem, 1) := by decide +kernel
theorem dX3_nextRim_14 : decode cX3_nextRim 14 = .ok (.ireturn, 1) := by decide +kernel
theorem dX3_spotFor_0 : decode cX3_spotFor 0 = .ok (.aload_n 0, 1) := by decide +kernel
theorem dX3_spotFor_1 : decode cX3_spotFor 1 = .ok (.iload_n 1, 1) := by decide +kernel
theorem dX3_spotFor_2 : decode cX3_spotFor 2 = .ok (.invokevirtual 80, 3) := by decide +kernel
theorem dX3_spotFor_5 : decode cX3_spotFor 5 = .ok (.istore_n 2, 1) := by decide +kernel
theorem dX3_spotFor_6 : decode cX3_spotFor 6 = .ok (.iload_n 2, 1) := by decide +kernel
theorem dX3_spotFor_7 : decode cX3_spotFor 7 = .ok (.iconst (-1), 1) := by decide +kernel
theorem dX3_spotFor_8 : decode cX3_spotFor 8 = .ok (.if_icmp .ne 5, 3) := by decide +kernel
theorem dX3_spotFor_11 : decode cX3_spotFor 11 = .ok (.iconst (-1), 1) := by decide +kernel
theorem dX3_spotFor_12 : decode cX3_spotFor 12 = .ok (.ireturn, 1) := by decide +kernel
theorem dX3_spotFor_13 : decode cX3_spotFor 13 = .ok (.aload_n 0, 1) := by decide +kernel
theorem dX3_spotFor_14 : decode cX3_spotFor 14 = .ok (.iload_n 2, 1) := by decide +kernel
theorem dX3_spotFor_15 : decode cX3_spotFor 15 = .ok (.invokevirtual 74, 3) := by decide +kernel
theorem dX3_spotFor_18 : decode cX3_spotFor 18 = .ok (.ifCond .eq 16, 3) := by decide +kernel
theorem dX3_spotFor_21 : decode cX3_spotFor 21 = .ok (.bipush 24, 2) := by decide +kernel
theorem dX3_spotFor_23 : decode cX3_spotFor 23 = .ok (.iload_n 2, 1) := by decide +kernel
theorem dX3_spotFor_24 : decode cX3_spotFor 24 = .ok (.imul, 1) := by decide +kernel
theorem dX3_spotFor_25 : decode cX3_spotFor 25 = .ok (.aload_n 0, 1) := by decide +kernel
theorem dX3_spotFor_26 : decode cX3_spotFor 26 = .ok (.iload_n 1, 1) := by decide +kernel
theorem dX3_spotFor_27 : decode cX3_spotFor 27 = .ok (.invokevirtual 83, 3) := by decide +kernel
theorem dX3_spotFor_30 : decode cX3_spotFor 30 = .ok (.iadd, 1) := by decide +kernel
theorem dX3_spotFor_31 : decode cX3_spotFor 31 = .ok (.goto 13, 3) := by decide +kernel
theorem dX3_spotFor_34 : decode cX3_spotFor 34 = .ok (.aload_n 0, 1) := by decide +kernel
theorem dX3_spotFor_35 : decode cX3_spotFor 35 = .ok (.iload_n 2, 1) := by decide +kernel
theorem dX3_spotFor_36 : decode cX3_spotFor 36 = .ok (.aload_n 0, 1) := by decide +kernel
theorem dX3_spotFor_37 : decode cX3_spotFor 37 = .ok (.iload_n 2, 1) := by decide +kernel
theorem dX3_spotFor_38 : decode cX3_spotFor 38 = .ok (.invokevirtual 86, 3) := by decide +kernel
theorem dX3_spotFor_41 : decode cX3_spotFor 41 = .ok (.invokevirtual 89, 3) := by decide +kernel
theorem dX3_spotFor_44 : decode cX3_spotFor 44 = .ok (.ireturn, 1) := by decide +kernel
theorem dX3_own_0 : decode cX3_own 0 = .ok (.aload_n 0, 1) := by decide +kernel
theorem dX3_own_1 : decode cX3_own 1 = .ok (.getfield 16, 3) := by decide +kernel
theorem dX3_own_4 : decode cX3_own 4 = .ok (.iload_n 1, 1) := by decide +kernel
theorem dX3_own_5 : decode cX3_own 5 = .ok (.iload_n 2, 1) := by decide +kernel
theorem dX3_own_6 : decode cX3_own 6 = .ok (.iastore, 1) := by decide +kernel
theorem dX3_own_7 : decode cX3_own 7 = .ok (.aload_n 0, 1) := by decide +kernel
theorem dX3_own_8 : decode cX3_own 8 = .ok (.getfield 19, 3) := by decide +kernel
theorem dX3_own_11 : decode cX3_own 11 = .ok (.iload_n 1, 1) := by decide +kernel
theorem dX3_own_12 : decode cX3_own 12 = .ok (.aload_n 0, 1) := by decide +kernel
theorem dX3_own_13 : decode cX3_own 13 = .ok (.iload_n 2, 1) := by decide +kernel
theorem dX3_own_14 : decode cX3_own 14 = .ok (.invokevirtual 83, 3) := by decide +kernel
theorem dX3_own_17 : decode cX3_own 17 = .ok (.iastore, 1) := by decide +kernel
theorem dX3_own_18 : decode cX3_own 18 = .ok (.aload_n 0, 1) := by decide +kernel
theorem dX3_own_19 : decode cX3_own 19 = .ok (.getfield 13, 3) := by decide +kernel
theorem dX3_own_22 : decode cX3_own 22 = .ok (.iload_n 2, 1) := by decide +kernel
theorem dX3_own_23 : decode cX3_own 23 = .ok (.dup2, 1) := by decide +kernel
theorem dX3_own_24 : decode cX3_own 24 = .ok (.iaload, 1) := by decide +kernel
theorem dX3_own_25 : decode cX3_own 25 = .ok (.iconst 1, 1) := by decide +kernel
theorem dX3_own_26 : decode cX3_own 26 = .ok (.iadd, 1) := by decide +kernel
theorem dX3_own_27 : decode cX3_own 27 = .ok (.iastore, 1) := by decide +kernel
theorem dX3_own_28 : decode cX3_own 28 = .ok (.return_, 1) := by decide +kernel
theorem dX3_placed_0 : decode cX3_placed 0 = .ok (.aload_n 0, 1) := by decide +kernel
theorem dX3_placed_1 : decode cX3_placed 1 = .ok (.iload_n 2, 1) := by decide +kernel
theorem dX3_placed_2 : decode cX3_placed 2 = .ok (.invokevirtual 74, 3) := by decide +kernel
theorem dX3_placed_5 : decode cX3_placed 5 = .ok (.ifCond .eq 9, 3) := by decide +kernel
theorem dX3_placed_8 : decode cX3_placed 8 = .ok (.aload_n 0, 1) := by decide +kernel
theorem dX3_placed_9 : decode cX3_placed 9 = .ok (.iload_n 2, 1) := by decide +kernel
theorem dX3_placed_10 : decode cX3_placed 10 = .ok (.iload_n 1, 1) := by decide +kernel
theorem dX3_placed_11 : decode cX3_placed 11 = .ok (.invokevirtual 93, 3) := by decide +kernel
theorem dX3_placed_14 : decode cX3_placed 14 = .ok (.aload_n 0, 1) := by decide +kernel
theorem dX3_placed_15 : decode cX3_placed 15 = .ok (.iload_n 2, 1) := by decide +kernel
theorem dX3_placed_16 : decode cX3_placed 16 = .ok (.invokevirtual 86, 3) := by decide +kernel
theorem dX3_placed_19 : decode cX3_placed 19 = .ok (.istore_n 3, 1) := by decide +kernel
theorem dX3_placed_20 : decode cX3_placed 20 = .ok (.aload_n 0, 1) := by decide +kernel
theorem dX3_placed_21 : decode cX3_placed 21 = .ok (.getfield 22, 3) := by decide +kernel
theorem dX3_placed_24 : decode cX3_placed 24 = .ok (.iload_n 2, 1) := by decide +kernel
theorem dX3_placed_25 : decode cX3_placed 25 = .ok (.dup2, 1) := by decide +kernel
theorem dX3_placed_26 : decode cX3_placed 26 = .ok (.iaload, 1) := by decide +kernel
theorem dX3_placed_27 : decode cX3_placed 27 = .ok (.iconst 1, 1) := by decide +kernel
theorem dX3_placed_28 : decode cX3_placed 28 = .ok (.iload_n 3, 1) := by decide +kernel
theorem dX3_placed_29 : decode cX3_placed 29 = .ok (.ishl, 1) := by decide +kernel
theorem dX3_placed_30 : decode cX3_placed 30 = .ok (.ior, 1) := by decide +kernel
theorem dX3_placed_31 : decode cX3_placed 31 = .ok (.iastore, 1) := by decide +kernel
theorem dX3_placed_32 : decode cX3_placed 32 = .ok (.aload_n 0, 1) := by decide +kernel
theorem dX3_placed_33 : decode cX3_placed 33 = .ok (.getfield 25, 3) := by decide +kernel
theorem dX3_placed_36 : decode cX3_placed 36 = .ok (.iload_n 2, 1) := by decide +kernel
theorem dX3_placed_37 : decode cX3_placed 37 = .ok (.iconst (-1), 1) := by decide +kernel
theorem dX3_placed_38 : decode cX3_placed 38 = .ok (.iastore, 1) := by decide +kernel
theorem dX3_placed_39 : decode cX3_placed 39 = .ok (.aload_n 0, 1) := by decide +kernel
theorem dX3_placed_40 : decode cX3_placed 40 = .ok (.dup, 1) := by decide +kernel
theorem dX3_placed_41 : decode cX3_placed 41 = .ok (.getfield 97, 3) := by decide +kernel
theorem dX3_placed_44 : decode cX3_placed 44 = .ok (.iconst 1, 1) := by decide +kernel
theorem dX3_placed_45 : decode cX3_placed 45 = .ok (.iadd, 1) := by decide +kernel
theorem dX3_placed_46 : decode cX3_placed 46 = .ok (.putfield 97, 3) := by decide +kernel
theorem dX3_placed_49 : decode cX3_placed 49 = .ok (.aload_n 0, 1) := by decide +kernel
theorem dX3_placed_50 : decode cX3_placed 50 = .ok (.dup, 1) := by decide +kernel
theorem dX3_placed_51 : decode cX3_placed 51 = .ok (.getfield 100, 3) := by decide +kernel
theorem dX3_placed_54 : decode cX3_placed 54 = .ok (.iconst 1, 1) := by decide +kernel
theorem dX3_placed_55 : decode cX3_placed 55 = .ok (.iadd, 1) := by decide +kernel
theorem dX3_placed_56 : decode cX3_placed 56 = .ok (.putfield 100, 3) := by decide +kernel
theorem dX3_placed_59 : decode cX3_placed 59 = .ok (.aload_n 0, 1) := by decide +kernel
theorem dX3_placed_60 : decode cX3_placed 60 = .ok (.iload_n 2, 1) := by decide +kernel
theorem dX3_placed_61 : decode cX3_placed 61 = .ok (.iload_n 3, 1) := by decide +kernel
theorem dX3_placed_62 : decode cX3_placed 62 = .ok (.invokevirtual 89, 3) := by decide +kernel
theorem dX3_placed_65 : decode cX3_placed 65 = .ok (.ireturn, 1) := by decide +kernel
theorem dX3_placeOf_0 : decode cX3_placeOf 0 = .ok (.iload_n 1, 1) := by decide +kernel
theorem dX3_placeOf_1 : decode cX3_placeOf 1 = .ok (.bipush 24, 2) := by decide +kernel
theorem dX3_placeOf_3 : decode cX3_placeOf 3 = .ok (.idiv, 1) := by decide +kernel
theorem dX3_placeOf_4 : decode cX3_placeOf 4 = .ok (.istore_n 2, 1) := by decide +kernel
theorem dX3_placeOf_5 : decode cX3_placeOf 5 = .ok (.aload_n 0, 1) := by decide +kernel
theorem dX3_placeOf_6 : decode cX3_placeOf 6 = .ok (.iload_n 2, 1) := by decide +kernel
theorem dX3_placeOf_7 : decode cX3_placeOf 7 = .ok (.invokevirtual 74, 3) := by decide +kernel
theorem dX3_placeOf_10 : decode cX3_placeOf 10 = .ok (.ifCond .eq 5, 3) := by decide +kernel
theorem dX3_placeOf_13 : decode cX3_placeOf 13 = .ok (.iconst (-1), 1) := by decide +kernel
theorem dX3_placeOf_14 : decode cX3_placeOf 14 = .ok (.ireturn, 1) := by decide +kernel
theorem dX3_placeOf_15 : decode cX3_placeOf 15 = .ok (.iload_n 1, 1) := by decide +kernel
theorem dX3_placeOf_16 : decode cX3_placeOf 16 = .ok (.bipush 24, 2) := by decide +kernel
theorem dX3_placeOf_18 : decode cX3_placeOf 18 = .ok (.irem, 1) := by decide +kernel
theorem dX3_placeOf_19 : decode cX3_placeOf 19 = .ok (.aload_n 0, 1) := by decide +kernel
theorem dX3_placeOf_20 : decode cX3_placeOf 20 = .ok (.getfield 19, 3) := by decide +kernel
theorem dX3_placeOf_23 : decode cX3_placeOf 23 = .ok (.iload_n 2, 1) := by decide +kernel
theorem dX3_placeOf_24 : decode cX3_placeOf 24 = .ok (.iaload, 1) := by decide +kernel
theorem dX3_placeOf_25 : decode cX3_placeOf 25 = .ok (.isub, 1) := by decide +kernel
theorem dX3_placeOf_26 : decode cX3_placeOf 26 = .ok (.istore_n 3, 1) := by decide +kernel
theorem dX3_placeOf_27 : decode cX3_placeOf 27 = .ok (.iload_n 3, 1) := by decide +kernel
theorem dX3_placeOf_28 : decode cX3_placeOf 28 = .ok (.ifCond .lt 29, 3) := by decide +kernel
theorem dX3_placeOf_31 : decode cX3_placeOf 31 = .ok (.iload_n 3, 1) := by decide +kernel
theorem dX3_placeOf_32 : decode cX3_placeOf 32 = .ok (.aload_n 0, 1) := by decide +kernel
theorem dX3_placeOf_33 : decode cX3_placeOf 33 = .ok (.aload_n 0, 1) := by decide +kernel
theorem dX3_placeOf_34 : decode cX3_placeOf 34 = .ok (.getfield 16, 3) := by decide +kernel
theorem dX3_placeOf_37 : decode cX3_placeOf 37 = .ok (.iload_n 2, 1) := by decide +kernel
theorem dX3_placeOf_38 : decode cX3_placeOf 38 = .ok (.iaload, 1) := by decide +kernel
theorem dX3_placeOf_39 : decode cX3_placeOf 39 = .ok (.invokevirtual 54, 3) := by decide +kernel
theorem dX3_placeOf_42 : decode cX3_placeOf 42 = .ok (.aload_n 0, 1) := by decide +kernel
theorem dX3_placeOf_43 : decode cX3_placeOf 43 = .ok (.getfield 9, 3) := by decide +kernel
theorem dX3_placeOf_46 : decode cX3_placeOf 46 = .ok (.aload_n 0, 1) := by decide +kernel
theorem dX3_placeOf_47 : decode cX3_placeOf 47 = .ok (.getfield 16, 3) := by decide +kernel
theorem dX3_placeOf_50 : decode cX3_placeOf 50 = .ok (.iload_n 2, 1) := by decide +kernel
theorem dX3_placeOf_51 : decode cX3_placeOf 51 = .ok (.iaload, 1) := by decide +kernel
theorem dX3_placeOf_52 : decode cX3_placeOf 52 = .ok (.iaload, 1) := by decide +kernel
theorem dX3_placeOf_53 : decode cX3_placeOf 53 = .ok (.imul, 1) := by decide +kernel
theorem dX3_placeOf_54 : decode cX3_placeOf 54 = .ok (.if_icmp .lt 7, 3) := by decide +kernel
theorem dX3_placeOf_57 : decode cX3_placeOf 57 = .ok (.iconst (-1), 1) := by decide +kernel
theorem dX3_placeOf_58 : decode cX3_placeOf 58 = .ok (.goto 16, 3) := by decide +kernel
theorem dX3_placeOf_61 : decode cX3_placeOf 61 = .ok (.iload_n 3, 1) := by decide +kernel
theorem dX3_placeOf_62 : decode cX3_placeOf 62 = .ok (.aload_n 0, 1) := by decide +kernel
theorem dX3_placeOf_63 : decode cX3_placeOf 63 = .ok (.getfield 9, 3) := by decide +kernel
theorem dX3_placeOf_66 : decode cX3_placeOf 66 = .ok (.aload_n 0, 1) := by decide +kernel
theorem dX3_placeOf_67 : decode cX3_placeOf 67 = .ok (.getfield 16, 3) := by decide +kernel
theorem dX3_placeOf_70 : decode cX3_placeOf 70 = .ok (.iload_n 2, 1) := by decide +kernel
theorem dX3_placeOf_71 : decode cX3_placeOf 71 = .ok (.iaload, 1) := by decide +kernel
theorem dX3_placeOf_72 : decode cX3_placeOf 72 = .ok (.iaload, 1) := by decide +kernel
theorem dX3_placeOf_73 : decode cX3_placeOf 73 = .ok (.idiv, 1) := by decide +kernel
theorem dX3_placeOf_74 : decode cX3_placeOf 74 = .ok (.ireturn, 1) := by decide +kernel
theorem dX3_fewest_0 : decode cX3_fewest 0 = .ok (.iconst (-1), 1) := by decide +kernel
theorem dX3_fewest_1 : decode cX3_fewest 1 = .ok (.istore_n 2, 1) := by decide +kernel
theorem dX3_fewest_2 : decode cX3_fewest 2 = .ok (.iconst 0, 1) := by decide +kernel
theorem dX3_fewest_3 : decode cX3_fewest 3 = .ok (.istore_n 3, 1) := by decide +kernel
theorem dX3_fewest_4 : decode cX3_fewest 4 = .ok (.iload_n 3, 1) := by decide +kernel
theorem dX3_fewest_5 : decode cX3_fewest 5 = .ok (.bipush 12, 2) := by decide +kernel
theorem dX3_fewest_7 : decode cX3_fewest 7 = .ok (.if_icmp .ge 38, 3) := by decide +kernel
theorem dX3_fewest_10 : decode cX3_fewest 10 = .ok (.aload_n 0, 1) := by decide +kernel
theorem dX3_fewest_11 : decode cX3_fewest 11 = .ok (.iload_n 3, 1) := by decide +kernel
theorem dX3_fewest_12 : decode cX3_fewest 12 = .ok (.iload_n 1, 1) := by decide +kernel
theorem dX3_fewest_13 : decode cX3_fewest 13 = .ok (.invokevirtual 64, 3) := by decide +kernel
theorem dX3_fewest_16 : decode cX3_fewest 16 = .ok (.ifCond .eq 23, 3) := by decide +kernel
theorem dX3_fewest_19 : decode cX3_fewest 19 = .ok (.iload_n 2, 1) := by decide +kernel
theorem dX3_fewest_20 : decode cX3_fewest 20 = .ok (.iconst (-1), 1) := by decide +kernel
theorem dX3_fewest_21 : decode cX3_fewest 21 = .ok (.if_icmp .eq 16, 3) := by decide +kernel
theorem dX3_fewest_24 : decode cX3_fewest 24 = .ok (.aload_n 0, 1) := by decide +kernel
theorem dX3_fewest_25 : decode cX3_fewest 25 = .ok (.iload_n 3, 1) := by decide +kernel
theorem dX3_fewest_26 : decode cX3_fewest 26 = .ok (.invokevirtual 51, 3) := by decide +kernel
theorem dX3_fewest_29 : decode cX3_fewest 29 = .ok (.aload_n 0, 1) := by decide +kernel
theorem dX3_fewest_30 : decode cX3_fewest 30 = .ok (.iload_n 2, 1) := by decide +kernel
theorem dX3_fewest_31 : decode cX3_fewest 31 = .ok (.invokevirtual 51, 3) := by decide +kernel
theorem dX3_fewest_34 : decode cX3_fewest 34 = .ok (.if_icmp .gt 5, 3) := by decide +kernel
theorem dX3_fewest_37 : decode cX3_fewest 37 = .ok (.iload_n 3, 1) := by decide +kernel
theorem dX3_fewest_38 : decode cX3_fewest 38 = .ok (.istore_n 2, 1) := by decide +kernel
theorem dX3_fewest_39 : decode cX3_fewest 39 = .ok (.iinc 3 1, 3) := by decide +kernel
theorem dX3_fewest_42 : decode cX3_fewest 42 = .ok (.goto (-38), 3) := by decide +kernel
theorem dX3_fewest_45 : decode cX3_fewest 45 = .ok (.iload_n 2, 1) := by decide +kernel
theorem dX3_fewest_46 : decode cX3_fewest 46 = .ok (.ireturn, 1) := by decide +kernel
theorem dX3_most_0 : decode cX3_most 0 = .ok (.iconst (-1), 1) := by decide +kernel
theorem dX3_most_1 : decode cX3_most 1 = .ok (.istore_n 3, 1) := by decide +kernel
theorem dX3_most_2 : decode cX3_most 2 = .ok (.iconst 0, 1) := by decide +kernel
theorem dX3_most_3 : decode cX3_most 3 = .ok (.istore 4, 2) := by decide +kernel
theorem dX3_most_5 : decode cX3_most 5 = .ok (.iload 4, 2) := by decide +kernel
theorem dX3_most_7 : decode cX3_most 7 = .ok (.bipush 12, 2) := by decide +kernel
theorem dX3_most_9 : decode cX3_most 9 = .ok (.if_icmp .ge 47, 3) := by decide +kernel
theorem dX3_most_12 : decode cX3_most 12 = .ok (.iload 4, 2) := by decide +kernel
theorem dX3_most_14 : decode cX3_most 14 = .ok (.iload_n 2, 1) := by decide +kernel
theorem dX3_most_15 : decode cX3_most 15 = .ok (.if_icmp .eq 35, 3) := by decide +kernel
theorem dX3_most_18 : decode cX3_most 18 = .ok (.aload_n 0, 1) := by decide +kernel
theorem dX3_most_19 : decode cX3_most 19 = .ok (.iload 4, 2) := by decide +kernel
theorem dX3_most_21 : decode cX3_most 21 = .ok (.iload_n 1, 1) := by decide +kernel
theorem dX3_most_22 : decode cX3_most 22 = .ok (.invokevirtual 64, 3) := by decide +kernel
theorem dX3_most_25 : decode cX3_most 25 = .ok (.ifCond .eq 25, 3) := by decide +kernel
theorem dX3_most_28 : decode cX3_most 28 = .ok (.iload_n 3, 1) := by decide +kernel
theorem dX3_most_29 : decode cX3_most 29 = .ok (.iconst (-1), 1) := by decide +kernel
theorem dX3_most_30 : decode cX3_most 30 = .ok (.if_icmp .eq 17, 3) := by decide +kernel
theorem dX3_most_33 : decode cX3_most 33 = .ok (.aload_n 0, 1) := by decide +kernel
theorem dX3_most_34 : decode cX3_most 34 = .ok (.iload 4, 2) := by decide +kernel
theorem dX3_most_36 : decode cX3_most 36 = .ok (.invokevirtual 51, 3) := by decide +kernel
theorem dX3_most_39 : decode cX3_most 39 = .ok (.aload_n 0, 1) := by decide +kernel
theorem dX3_most_40 : decode cX3_most 40 = .ok (.iload_n 3, 1) := by decide +kernel
theorem dX3_most_41 : decode cX3_most 41 = .ok (.invokevirtual 51, 3) := by decide +kernel
theorem dX3_most_44 : decode cX3_most 44 = .ok (.if_icmp .le 6, 3) := by decide +kernel
theorem dX3_most_47 : decode cX3_most 47 = .ok (.iload 4, 2) := by decide +kernel
theorem dX3_most_49 : decode cX3_most 49 = .ok (.istore_n 3, 1) := by decide +kernel
theorem dX3_most_50 : decode cX3_most 50 = .ok (.iinc 4 1, 3) := by decide +kernel
theorem dX3_most_53 : decode cX3_most 53 = .ok (.goto (-48), 3) := by decide +kernel
theorem dX3_most_56 : decode cX3_most 56 = .ok (.iload_n 3, 1) := by decide +kernel
theorem dX3_most_57 : decode cX3_most 57 = .ok (.ireturn, 1) := by decide +kernel
theorem dX3_move_0 : decode cX3_move 0 = .ok (.aload_n 0, 1) := by decide +kernel
theorem dX3_move_1 : decode cX3_move 1 = .ok (.getfield 22, 3) := by decide +kernel
theorem dX3_move_4 : decode cX3_move 4 = .ok (.iload_n 1, 1) := by decide +kernel
theorem dX3_move_5 : decode cX3_move 5 = .ok (.iaload, 1) := by decide +kernel
theorem dX3_move_6 : decode cX3_move 6 = .ok (.invokestatic 103, 3) := by decide +kernel
theorem dX3_move_9 : decode cX3_move 9 = .ok (.istore_n 3, 1) := by decide +kernel
theorem dX3_move_10 : decode cX3_move 10 = .ok (.aload_n 0, 1) := by decide +kernel
theorem dX3_move_11 : decode cX3_move 11 = .ok (.getfield 22, 3) := by decide +kernel
theorem dX3_move_14 : decode cX3_move 14 = .ok (.iload_n 2, 1) := by decide +kernel
theorem dX3_move_15 : decode cX3_move 15 = .ok (.dup2, 1) := by decide +kernel
theorem dX3_move_16 : decode cX3_move 16 = .ok (.iaload, 1) := by decide +kernel
theorem dX3_move_17 : decode cX3_move 17 = .ok (.iconst 1, 1) := by decide +kernel
theorem dX3_move_18 : decode cX3_move 18 = .ok (.aload_n 0, 1) := by decide +kernel
theorem dX3_move_19 : decode cX3_move 19 = .ok (.iload_n 2, 1) := by decide +kernel
theorem dX3_move_20 : decode cX3_move 20 = .ok (.invokevirtual 86, 3) := by decide +kernel
theorem dX3_move_23 : decode cX3_move 23 = .ok (.ishl, 1) := by decide +kernel
theorem dX3_move_24 : decode cX3_move 24 = .ok (.ior, 1) := by decide +kernel
theorem dX3_move_25 : decode cX3_move 25 = .ok (.iastore, 1) := by decide +kernel
theorem dX3_move_26 : decode cX3_move 26 = .ok (.aload_n 0, 1) := by decide +kernel
theorem dX3_move_27 : decode cX3_move 27 = .ok (.getfield 22, 3) := by decide +kernel
theorem dX3_move_30 : decode cX3_move 30 = .ok (.iload_n 1, 1) := by decide +kernel
theorem dX3_move_31 : decode cX3_move 31 = .ok (.dup2, 1) := by decide +kernel
theorem dX3_move_32 : decode cX3_move 32 = .ok (.iaload, 1) := by decide +kernel
theorem dX3_move_33 : decode cX3_move 33 = .ok (.iload_n 3, 1) := by decide +kernel
theorem dX3_move_34 : decode cX3_move 34 = .ok (.isub, 1) := by decide +kernel
theorem dX3_move_35 : decode cX3_move 35 = .ok (.iastore, 1) := by decide +kernel
theorem dX3_move_36 : decode cX3_move 36 = .ok (.aload_n 0, 1) := by decide +kernel
theorem dX3_move_37 : decode cX3_move 37 = .ok (.getfield 22, 3) := by decide +kernel
theorem dX3_move_40 : decode cX3_move 40 = .ok (.iload_n 1, 1) := by decide +kernel
theorem dX3_move_41 : decode cX3_move 41 = .ok (.iaload, 1) := by decide +kernel
theorem dX3_move_42 : decode cX3_move 42 = .ok (.ifCond .ne 13, 3) := by decide +kernel
theorem dX3_move_45 : decode cX3_move 45 = .ok (.aload_n 0, 1) := by decide +kernel
theorem dX3_move_46 : decode cX3_move 46 = .ok (.getfield 25, 3) := by decide +kernel
theorem dX3_move_49 : decode cX3_move 49 = .ok (.iload_n 1, 1) := by decide +kernel
theorem dX3_move_50 : decode cX3_move 50 = .ok (.aload_n 0, 1) := by decide +kernel
theorem dX3_move_51 : decode cX3_move 51 = .ok (.getfield 97, 3) := by decide +kernel
theorem dX3_move_54 : decode cX3_move 54 = .ok (.iastore, 1) := by decide +kernel
theorem dX3_move_55 : decode cX3_move 55 = .ok (.return_, 1) := by decide +kernel
theorem dX3_packed_0 : decode cX3_packed 0 = .ok (.iconst 0, 1) := by decide +kernel
theorem dX3_packed_1 : decode cX3_packed 1 = .ok (.istore_n 2, 1) := by decide +kernel
theorem dX3_packed_2 : decode cX3_packed 2 = .ok (.aload_n 0, 1) := by decide +kernel
theorem dX3_packed_3 : decode cX3_packed 3 = .ok (.iload_n 1, 1) := by decide +kernel
theorem dX3_packed_4 : decode cX3_packed 4 = .ok (.invokevirtual 106, 3) := by decide +kernel
theorem dX3_packed_7 : decode cX3_packed 7 = .ok (.istore_n 3, 1) := by decide +kernel
theorem dX3_packed_8 : decode cX3_packed 8 = .ok (.aload_n 0, 1) := by decide +kernel
theorem dX3_packed_9 : decode cX3_packed 9 = .ok (.iload_n 1, 1) := by decide +kernel
theorem dX3_packed_10 : decode cX3_packed 10 = .ok (.iload_n 3, 1) := by decide +kernel
theorem dX3_packed_11 : decode cX3_packed 11 = .ok (.invokevirtual 109, 3) := by decide +kernel
theorem dX3_packed_14 : decode cX3_packed 14 = .ok (.istore 4, 2) := by decide +kernel
theorem dX3_packed_16 : decode cX3_packed 16 = .ok (.iload 4, 2) := by decide +kernel
theorem dX3_packed_18 : decode cX3_packed 18 = .ok (.iconst (-1), 1) := by decide +kernel
theorem dX3_packed_19 : decode cX3_packed 19 = .ok (.if_icmp .eq 30, 3) := by decide +kernel
theorem dX3_packed_22 : decode cX3_packed 22 = .ok (.aload_n 0, 1) := by decide +kernel
theorem dX3_packed_23 : decode cX3_packed 23 = .ok (.iload_n 3, 1) := by decide +kernel
theorem dX3_packed_24 : decode cX3_packed 24 = .ok (.iload 4, 2) := by decide +kernel
theorem dX3_packed_26 : decode cX3_packed 26 = .ok (.invokevirtual 112, 3) := by decide +kernel
theorem dX3_packed_29 : decode cX3_packed 29 = .ok (.iinc 2 1, 3) := by decide +kernel
theorem dX3_packed_32 : decode cX3_packed 32 = .ok (.aload_n 0, 1) := by decide +kernel
theorem dX3_packed_33 : decode cX3_packed 33 = .ok (.iload_n 1, 1) := by decide +kernel
theorem dX3_packed_34 : decode cX3_packed 34 = .ok (.invokevirtual 106, 3) := by decide +kernel
theorem dX3_packed_37 : decode cX3_packed 37 = .ok (.istore_n 3, 1) := by decide +kernel
theorem dX3_packed_38 : decode cX3_packed 38 = .ok (.aload_n 0, 1) := by decide +kernel
theorem dX3_packed_39 : decode cX3_packed 39 = .ok (.iload_n 1, 1) := by decide +kernel
theorem dX3_packed_40 : decode cX3_packed 40 = .ok (.iload_n 3, 1) := by decide +kernel
theorem dX3_packed_41 : decode cX3_packed 41 = .ok (.invokevirtual 109, 3) := by decide +kernel
theorem dX3_packed_44 : decode cX3_packed 44 = .ok (.istore 4, 2) := by decide +kernel
theorem dX3_packed_46 : decode cX3_packed 46 = .ok (.goto (-30), 3) := by decide +kernel
theorem dX3_packed_49 : decode cX3_packed 49 = .ok (.iload_n 2, 1) := by decide +kernel
theorem dX3_packed_50 : decode cX3_packed 50 = .ok (.ireturn, 1) := by decide +kernel
theorem dX3_shelvesOf_0 : decode cX3_shelvesOf 0 = .ok (.iconst 0, 1) := by decide +kernel
theorem dX3_shelvesOf_1 : decode cX3_shelvesOf 1 = .ok (.istore_n 3, 1) := by decide +kernel
theorem dX3_shelvesOf_2 : decode cX3_shelvesOf 2 = .ok (.iconst 0, 1) := by decide +kernel
theorem dX3_shelvesOf_3 : decode cX3_shelvesOf 3 = .ok (.istore 4, 2) := by decide +kernel
theorem dX3_shelvesOf_5 : decode cX3_shelvesOf 5 = .ok (.iload 4, 2) := by decide +kernel
theorem dX3_shelvesOf_7 : decode cX3_shelvesOf 7 = .ok (.bipush 12, 2) := by decide +kernel
theorem dX3_shelvesOf_9 : decode cX3_shelvesOf 9 = .ok (.if_icmp .ge 79, 3) := by decide +kernel
theorem dX3_shelvesOf_12 : decode cX3_shelvesOf 12 = .ok (.aload_n 0, 1) := by decide +kernel
theorem dX3_shelvesOf_13 : decode cX3_shelvesOf 13 = .ok (.getfield 16, 3) := by decide +kernel
theorem dX3_shelvesOf_16 : decode cX3_shelvesOf 16 = .ok (.iload 4, 2) := by decide +kernel
theorem dX3_shelvesOf_18 : decode cX3_shelvesOf 18 = .ok (.iaload, 1) := by decide +kernel
theorem dX3_shelvesOf_19 : decode cX3_shelvesOf 19 = .ok (.iload_n 1, 1) := by decide +kernel
theorem dX3_shelvesOf_20 : decode cX3_shelvesOf 20 = .ok (.if_icmp .eq 6, 3) := by decide +kernel
theorem dX3_shelvesOf_23 : decode cX3_shelvesOf 23 = .ok (.goto 59, 3) := by decide +kernel
theorem dX3_shelvesOf_26 : decode cX3_shelvesOf 26 = .ok (.iload_n 3, 1) := by decide +kernel
theorem dX3_shelvesOf_27 : decode cX3_shelvesOf 27 = .ok (.iload_n 2, 1) := by decide +kernel
theorem dX3_shelvesOf_28 : decode cX3_shelvesOf 28 = .ok (.ifCond .eq 47, 3) := by decide +kernel
theorem dX3_shelvesOf_31 : decode cX3_shelvesOf 31 = .ok (.iload_n 2, 1) := by decide +kernel
theorem dX3_shelvesOf_32 : decode cX3_shelvesOf 32 = .ok (.iconst 1, 1) := by decide +kernel
theorem dX3_shelvesOf_33 : decode cX3_shelvesOf 33 = .ok (.if_icmp .ne 12, 3) := by decide +kernel
theorem dX3_shelvesOf_36 : decode cX3_shelvesOf 36 = .ok (.aload_n 0, 1) := by decide +kernel
theorem dX3_shelvesOf_37 : decode cX3_shelvesOf 37 = .ok (.iload 4, 2) := by decide +kernel
theorem dX3_shelvesOf_39 : decode cX3_shelvesOf 39 = .ok (.invokevirtual 57, 3) := by decide +kernel
theorem dX3_shelvesOf_42 : decode cX3_shelvesOf 42 = .ok (.ifCond .ne 33, 3) := by decide +kernel
theorem dX3_shelvesOf_45 : decode cX3_shelvesOf 45 = .ok (.iload_n 2, 1) := by decide +kernel
theorem dX3_shelvesOf_46 : decode cX3_shelvesOf 46 = .ok (.iconst 2, 1) := by decide +kernel
theorem dX3_shelvesOf_47 : decode cX3_shelvesOf 47 = .ok (.if_icmp .ne 13, 3) := by decide +kernel
theorem dX3_shelvesOf_50 : decode cX3_shelvesOf 50 = .ok (.aload_n 0, 1) := by decide +kernel
theorem dX3_shelvesOf_51 : decode cX3_shelvesOf 51 = .ok (.iload 4, 2) := by decide +kernel
theorem dX3_shelvesOf_53 : decode cX3_shelvesOf 53 = .ok (.iload_n 1, 1) := by decide +kernel
theorem dX3_shelvesOf_54 : decode cX3_shelvesOf 54 = .ok (.invokevirtual 64, 3) := by decide +kernel
theorem dX3_shelvesOf_57 : decode cX3_shelvesOf 57 = .ok (.ifCond .ne 18, 3) := by decide +kernel
theorem dX3_shelvesOf_60 : decode cX3_shelvesOf 60 = .ok (.iload_n 2, 1) := by decide +kernel
theorem dX3_shelvesOf_61 : decode cX3_shelvesOf 61 = .ok (.iconst 3, 1) := by decide +kernel
theorem dX3_shelvesOf_62 : decode cX3_shelvesOf 62 = .ok (.if_icmp .ne 17, 3) := by decide +kernel
theorem dX3_shelvesOf_65 : decode cX3_shelvesOf 65 = .ok (.aload_n 0, 1) := by decide +kernel
theorem dX3_shelvesOf_66 : decode cX3_shelvesOf 66 = .ok (.getfield 22, 3) := by decide +kernel
theorem dX3_shelvesOf_69 : decode cX3_shelvesOf 69 = .ok (.iload 4, 2) := by decide +kernel
theorem dX3_shelvesOf_71 : decode cX3_shelvesOf 71 = .ok (.iaload, 1) := by decide +kernel
theorem dX3_shelvesOf_72 : decode cX3_shelvesOf 72 = .ok (.ifCond .ne 7, 3) := by decide +kernel
theorem dX3_shelvesOf_75 : decode cX3_shelvesOf 75 = .ok (.iconst 1, 1) := by decide +kernel
theorem dX3_shelvesOf_76 : decode cX3_shelvesOf 76 = .ok (.goto 4, 3) := by decide +kernel
theorem dX3_shelvesOf_79 : decode cX3_shelvesOf 79 = .ok (.iconst 0, 1) := by decide +kernel
theorem dX3_shelvesOf_80 : decode cX3_shelvesOf 80 = .ok (.iadd, 1) := by decide +kernel
theorem dX3_shelvesOf_81 : decode cX3_shelvesOf 81 = .ok (.istore_n 3, 1) := by decide +kernel
theorem dX3_shelvesOf_82 : decode cX3_shelvesOf 82 = .ok (.iinc 4 1, 3) := by decide +kernel
theorem dX3_shelvesOf_85 : decode cX3_shelvesOf 85 = .ok (.goto (-80), 3) := by decide +kernel
theorem dX3_shelvesOf_88 : decode cX3_shelvesOf 88 = .ok (.iload_n 3, 1) := by decide +kernel
theorem dX3_shelvesOf_89 : decode cX3_shelvesOf 89 = .ok (.ireturn, 1) := by decide +kernel
theorem dX3_gained_0 : decode cX3_gained 0 = .ok (.aload_n 0, 1) := by decide +kernel
theorem dX3_gained_1 : decode cX3_gained 1 = .ok (.getfield 22, 3) := by decide +kernel
theorem dX3_gained_4 : decode cX3_gained 4 = .ok (.iconst 0, 1) := by decide +kernel
theorem dX3_gained_5 : decode cX3_gained 5 = .ok (.aload_n 0, 1) := by decide +kernel
theorem dX3_gained_6 : decode cX3_gained 6 = .ok (.getfield 28, 3) := by decide +kernel
theorem dX3_gained_9 : decode cX3_gained 9 = .ok (.iconst 0, 1) := by decide +kernel
theorem dX3_gained_10 : decode cX3_gained 10 = .ok (.bipush 12, 2) := by decide +kernel
theorem dX3_gained_12 : decode cX3_gained 12 = .ok (.invokestatic 115, 3) := by decide +kernel
theorem dX3_gained_15 : decode cX3_gained 15 = .ok (.aload_n 0, 1) := by decide +kernel
theorem dX3_gained_16 : decode cX3_gained 16 = .ok (.getfield 25, 3) := by decide +kernel
theorem dX3_gained_19 : decode cX3_gained 19 = .ok (.iconst 0, 1) := by decide +kernel
theorem dX3_gained_20 : decode cX3_gained 20 = .ok (.aload_n 0, 1) := by decide +kernel
theorem dX3_gained_21 : decode cX3_gained 21 = .ok (.getfield 31, 3) := by decide +kernel
theorem dX3_gained_24 : decode cX3_gained 24 = .ok (.iconst 0, 1) := by decide +kernel
theorem dX3_gained_25 : decode cX3_gained 25 = .ok (.bipush 12, 2) := by decide +kernel
theorem dX3_gained_27 : decode cX3_gained 27 = .ok (.invokestatic 115, 3) := by decide +kernel
theorem dX3_gained_30 : decode cX3_gained 30 = .ok (.aload_n 0, 1) := by decide +kernel
theorem dX3_gained_31 : decode cX3_gained 31 = .ok (.iload_n 1, 1) := by decide +kernel
theorem dX3_gained_32 : decode cX3_gained 32 = .ok (.iconst 3, 1) := by decide +kernel
theorem dX3_gained_33 : decode cX3_gained 33 = .ok (.invokevirtual 121, 3) := by decide +kernel
theorem dX3_gained_36 : decode cX3_gained 36 = .ok (.istore_n 2, 1) := by decide +kernel
theorem dX3_gained_37 : decode cX3_gained 37 = .ok (.aload_n 0, 1) := by decide +kernel
theorem dX3_gained_38 : decode cX3_gained 38 = .ok (.iload_n 1, 1) := by decide +kernel
theorem dX3_gained_39 : decode cX3_gained 39 = .ok (.invokevirtual 124, 3) := by decide +kernel
theorem dX3_gained_42 : decode cX3_gained 42 = .ok (.pop, 1) := by decide +kernel
theorem dX3_gained_43 : decode cX3_gained 43 = .ok (.aload_n 0, 1) := by decide +kernel
theorem dX3_gained_44 : decode cX3_gained 44 = .ok (.iload_n 1, 1) := by decide +kernel
theorem dX3_gained_45 : decode cX3_gained 45 = .ok (.iconst 3, 1) := by decide +kernel
theorem dX3_gained_46 : decode cX3_gained 46 = .ok (.invokevirtual 121, 3) := by decide +kernel
theorem dX3_gained_49 : decode cX3_gained 49 = .ok (.iload_n 2, 1) := by decide +kernel
theorem dX3_gained_50 : decode cX3_gained 50 = .ok (.isub, 1) := by decide +kernel
theorem dX3_gained_51 : decode cX3_gained 51 = .ok (.istore_n 3, 1) := by decide +kernel
theorem dX3_gained_52 : decode cX3_gained 52 = .ok (.aload_n 0, 1) := by decide +kernel
theorem dX3_gained_53 : decode cX3_gained 53 = .ok (.getfield 28, 3) := by decide +kernel
theorem dX3_gained_56 : decode cX3_gained 56 = .ok (.iconst 0, 1) := by decide +kernel
theorem dX3_gained_57 : decode cX3_gained 57 = .ok (.aload_n 0, 1) := by decide +kernel
theorem dX3_gained_58 : decode cX3_gained 58 = .ok (.getfield 22, 3) := by decide +kernel
theorem dX3_gained_61 : decode cX3_gained 61 = .ok (.iconst 0, 1) := by decide +kernel
theorem dX3_gained_62 : decode cX3_gained 62 = .ok (.bipush 12, 2) := by decide +kernel
theorem dX3_gained_64 : decode cX3_gained 64 = .ok (.invokestatic 115, 3) := by decide +kernel
theorem dX3_gained_67 : decode cX3_gained 67 = .ok (.aload_n 0, 1) := by decide +kernel
theorem dX3_gained_68 : decode cX3_gained 68 = .ok (.getfield 31, 3) := by decide +kernel
theorem dX3_gained_71 : decode cX3_gained 71 = .ok (.iconst 0, 1) := by decide +kernel
theorem dX3_gained_72 : decode cX3_gained 72 = .ok (.aload_n 0, 1) := by decide +kernel
theorem dX3_gained_73 : decode cX3_gained 73 = .ok (.getfield 25, 3) := by decide +kernel
theorem dX3_gained_76 : decode cX3_gained 76 = .ok (.iconst 0, 1) := by decide +kernel
theorem dX3_gained_77 : decode cX3_gained 77 = .ok (.bipush 12, 2) := by decide +kernel
theorem dX3_gained_79 : decode cX3_gained 79 = .ok (.invokestatic 115, 3) := by decide +kernel
theorem dX3_gained_82 : decode cX3_gained 82 = .ok (.iload_n 3, 1) := by decide +kernel
theorem dX3_gained_83 : decode cX3_gained 83 = .ok (.ireturn, 1) := by decide +kernel
theorem dX3_kind_0 : decode cX3_kind 0 = .ok (.aload_n 0, 1) := by decide +kernel
theorem dX3_kind_1 : decode cX3_kind 1 = .ok (.iconst 0, 1) := by decide +kernel
theorem dX3_kind_2 : decode cX3_kind 2 = .ok (.putfield 34, 3) := by decide +kernel
theorem dX3_kind_5 : decode cX3_kind 5 = .ok (.iload_n 1, 1) := by decide +kernel
theorem dX3_kind_6 : decode cX3_kind 6 = .ok (.iconst 2, 1) := by decide +kernel
theorem dX3_kind_7 : decode cX3_kind 7 = .ok (.bipush 12, 2) := by decide +kernel
theorem dX3_kind_9 : decode cX3_kind 9 = .ok (.invokestatic 41, 3) := by decide +kernel
theorem dX3_kind_12 : decode cX3_kind 12 = .ok (.ifCond .ne 9, 3) := by decide +kernel
theorem dX3_kind_15 : decode cX3_kind 15 = .ok (.aload_n 0, 1) := by decide +kernel
theorem dX3_kind_16 : decode cX3_kind 16 = .ok (.iconst 1, 1) := by decide +kernel
theorem dX3_kind_17 : decode cX3_kind 17 = .ok (.invokevirtual 127, 3) := by decide +kernel
theorem dX3_kind_20 : decode cX3_kind 20 = .ok (.ireturn, 1) := by decide +kernel
theorem dX3_kind_21 : decode cX3_kind 21 = .ok (.aload_n 0, 1) := by decide +kernel
theorem dX3_kind_22 : decode cX3_kind 22 = .ok (.getfield 38, 3) := by decide +kernel
theorem dX3_kind_25 : decode cX3_kind 25 = .ok (.iconst 5, 1) := by decide +kernel
theorem dX3_kind_26 : decode cX3_kind 26 = .ok (.if_icmp .ne 9, 3) := by decide +kernel
theorem dX3_kind_29 : decode cX3_kind 29 = .ok (.aload_n 0, 1) := by decide +kernel
theorem dX3_kind_30 : decode cX3_kind 30 = .ok (.iconst 2, 1) := by decide +kernel
theorem dX3_kind_31 : decode cX3_kind 31 = .ok (.invokevirtual 127, 3) := by decide +kernel
theorem dX3_kind_34 : decode cX3_kind 34 = .ok (.ireturn, 1) := by decide +kernel
theorem dX3_kind_35 : decode cX3_kind 35 = .ok (.aload_n 0, 1) := by decide +kernel
theorem dX3_kind_36 : decode cX3_kind 36 = .ok (.getfield 9, 3) := by decide +kernel
theorem dX3_kind_39 : decode cX3_kind 39 = .ok (.aload_n 0, 1) := by decide +kernel
theorem dX3_kind_40 : decode cX3_kind 40 = .ok (.getfield 38, 3) := by decide +kernel
theorem dX3_kind_43 : decode cX3_kind 43 = .ok (.iload_n 1, 1) := by decide +kernel
theorem dX3_kind_44 : decode cX3_kind 44 = .ok (.iastore, 1) := by decide +kernel
theorem dX3_kind_45 : decode cX3_kind 45 = .ok (.aload_n 0, 1) := by decide +kernel
theorem dX3_kind_46 : decode cX3_kind 46 = .ok (.dup, 1) := by decide +kernel
theorem dX3_kind_47 : decode cX3_kind 47 = .ok (.getfield 38, 3) := by decide +kernel
theorem dX3_kind_50 : decode cX3_kind 50 = .ok (.iconst 1, 1) := by decide +kernel
theorem dX3_kind_51 : decode cX3_kind 51 = .ok (.iadd, 1) := by decide +kernel
theorem dX3_kind_52 : decode cX3_kind 52 = .ok (.putfield 38, 3) := by decide +kernel
theorem dX3_kind_55 : decode cX3_kind 55 = .ok (.aload_n 0, 1) := by decide +kernel
theorem dX3_kind_56 : decode cX3_kind 56 = .ok (.getfield 38, 3) := by decide +kernel
theorem dX3_kind_59 : decode cX3_kind 59 = .ok (.iconst 1, 1) := by decide +kernel
theorem dX3_kind_60 : decode cX3_kind 60 = .ok (.isub, 1) := by decide +kernel
theorem dX3_kind_61 : decode cX3_kind 61 = .ok (.ireturn, 1) := by decide +kernel
theorem dX3_setWay_0 : decode cX3_setWay 0 = .ok (.aload_n 0, 1) := by decide +kernel
theorem dX3_setWay_1 : decode cX3_setWay 1 = .ok (.iconst 0, 1) := by decide +kernel
theorem dX3_setWay_2 : decode cX3_setWay 2 = .ok (.putfield 34, 3) := by decide +kernel
theorem dX3_setWay_5 : decode cX3_setWay 5 = .ok (.iload_n 1, 1) := by decide +kernel
theorem dX3_setWay_6 : decode cX3_setWay 6 = .ok (.iconst 0, 1) := by decide +kernel
theorem dX3_setWay_7 : decode cX3_setWay 7 = .ok (.iconst 2, 1) := by decide +kernel
theorem dX3_setWay_8 : decode cX3_setWay 8 = .ok (.invokestatic 41, 3) := by decide +kernel
theorem dX3_setWay_11 : decode cX3_setWay 11 = .ok (.ifCond .ne 9, 3) := by decide +kernel
theorem dX3_setWay_14 : decode cX3_setWay 14 = .ok (.aload_n 0, 1) := by decide +kernel
theorem dX3_setWay_15 : decode cX3_setWay 15 = .ok (.iconst 1, 1) := by decide +kernel
theorem dX3_setWay_16 : decode cX3_setWay 16 = .ok (.invokevirtual 127, 3) := by decide +kernel
theorem dX3_setWay_19 : decode cX3_setWay 19 = .ok (.ireturn, 1) := by decide +kernel
theorem dX3_setWay_20 : decode cX3_setWay 20 = .ok (.aload_n 0, 1) := by decide +kernel
theorem dX3_setWay_21 : decode cX3_setWay 21 = .ok (.getfield 61, 3) := by decide +kernel
theorem dX3_setWay_24 : decode cX3_setWay 24 = .ok (.istore_n 2, 1) := by decide +kernel
theorem dX3_setWay_25 : decode cX3_setWay 25 = .ok (.aload_n 0, 1) := by decide +kernel
theorem dX3_setWay_26 : decode cX3_setWay 26 = .ok (.iload_n 1, 1) := by decide +kernel
theorem dX3_setWay_27 : decode cX3_setWay 27 = .ok (.putfield 61, 3) := by decide +kernel
theorem dX3_setWay_30 : decode cX3_setWay 30 = .ok (.iload_n 2, 1) := by decide +kernel
theorem dX3_setWay_31 : decode cX3_setWay 31 = .ok (.ireturn, 1) := by decide +kernel
theorem dX3_put_0 : decode cX3_put 0 = .ok (.aload_n 0, 1) := by decide +kernel
theorem dX3_put_1 : decode cX3_put 1 = .ok (.iconst 0, 1) := by decide +kernel
theorem dX3_put_2 : decode cX3_put 2 = .ok (.putfield 34, 3) := by decide +kernel
theorem dX3_put_5 : decode cX3_put 5 = .ok (.aload_n 0, 1) := by decide +kernel
theorem dX3_put_6 : decode cX3_put 6 = .ok (.iload_n 1, 1) := by decide +kernel
theorem dX3_put_7 : decode cX3_put 7 = .ok (.invokevirtual 130, 3) := by decide +kernel
theorem dX3_put_10 : decode cX3_put 10 = .ok (.ifCond .ne 9, 3) := by decide +kernel
theorem dX3_put_13 : decode cX3_put 13 = .ok (.aload_n 0, 1) := by decide +kernel
theorem dX3_put_14 : decode cX3_put 14 = .ok (.iconst 1, 1) := by decide +kernel
theorem dX3_put_15 : decode cX3_put 15 = .ok (.invokevirtual 127, 3) := by decide +kernel
theorem dX3_put_18 : decode cX3_put 18 = .ok (.ireturn, 1) := by decide +kernel
theorem dX3_put_19 : decode cX3_put 19 = .ok (.aload_n 0, 1) := by decide +kernel
theorem dX3_put_20 : decode cX3_put 20 = .ok (.iload_n 1, 1) := by decide +kernel
theorem dX3_put_21 : decode cX3_put 21 = .ok (.invokevirtual 80, 3) := by decide +kernel
theorem dX3_put_24 : decode cX3_put 24 = .ok (.istore_n 2, 1) := by decide +kernel
theorem dX3_put_25 : decode cX3_put 25 = .ok (.iload_n 2, 1) := by decide +kernel
theorem dX3_put_26 : decode cX3_put 26 = .ok (.iconst (-1), 1) := by decide +kernel
theorem dX3_put_27 : decode cX3_put 27 = .ok (.if_icmp .ne 11, 3) := by decide +kernel
theorem dX3_put_30 : decode cX3_put 30 = .ok (.aload_n 0, 1) := by decide +kernel
theorem dX3_put_31 : decode cX3_put 31 = .ok (.iconst 2, 1) := by decide +kernel
theorem dX3_put_32 : decode cX3_put 32 = .ok (.invokevirtual 127, 3) := by decide +kernel
theorem dX3_put_35 : decode cX3_put 35 = .ok (.goto 9, 3) := by decide +kernel
theorem dX3_put_38 : decode cX3_put 38 = .ok (.aload_n 0, 1) := by decide +kernel
theorem dX3_put_39 : decode cX3_put 39 = .ok (.iload_n 1, 1) := by decide +kernel
theorem dX3_put_40 : decode cX3_put 40 = .ok (.iload_n 2, 1) := by decide +kernel
theorem dX3_put_41 : decode cX3_put 41 = .ok (.invokevirtual 133, 3) := by decide +kernel
theorem dX3_put_44 : decode cX3_put 44 = .ok (.ireturn, 1) := by decide +kernel
theorem dX3_take_0 : decode cX3_take 0 = .ok (.aload_n 0, 1) := by decide +kernel
theorem dX3_take_1 : decode cX3_take 1 = .ok (.iconst 0, 1) := by decide +kernel
theorem dX3_take_2 : decode cX3_take 2 = .ok (.putfield 34, 3) := by decide +kernel
theorem dX3_take_5 : decode cX3_take 5 = .ok (.iload_n 1, 1) := by decide +kernel
theorem dX3_take_6 : decode cX3_take 6 = .ok (.invokestatic 136, 3) := by decide +kernel
theorem dX3_take_9 : decode cX3_take 9 = .ok (.ifCond .ne 9, 3) := by decide +kernel
theorem dX3_take_12 : decode cX3_take 12 = .ok (.aload_n 0, 1) := by decide +kernel
theorem dX3_take_13 : decode cX3_take 13 = .ok (.iconst 1, 1) := by decide +kernel
theorem dX3_take_14 : decode cX3_take 14 = .ok (.invokevirtual 127, 3) := by decide +kernel
theorem dX3_take_17 : decode cX3_take 17 = .ok (.ireturn, 1) := by decide +kernel
theorem dX3_take_18 : decode cX3_take 18 = .ok (.iload_n 1, 1) := by decide +kernel
theorem dX3_take_19 : decode cX3_take 19 = .ok (.bipush 24, 2) := by decide +kernel
theorem dX3_take_21 : decode cX3_take 21 = .ok (.idiv, 1) := by decide +kernel
theorem dX3_take_22 : decode cX3_take 22 = .ok (.istore_n 2, 1) := by decide +kernel
theorem dX3_take_23 : decode cX3_take 23 = .ok (.aload_n 0, 1) := by decide +kernel
theorem dX3_take_24 : decode cX3_take 24 = .ok (.iload_n 1, 1) := by decide +kernel
theorem dX3_take_25 : decode cX3_take 25 = .ok (.invokevirtual 139, 3) := by decide +kernel
theorem dX3_take_28 : decode cX3_take 28 = .ok (.istore_n 3, 1) := by decide +kernel
theorem dX3_take_29 : decode cX3_take 29 = .ok (.iload_n 3, 1) := by decide +kernel
theorem dX3_take_30 : decode cX3_take 30 = .ok (.iconst (-1), 1) := by decide +kernel
theorem dX3_take_31 : decode cX3_take 31 = .ok (.if_icmp .eq 26, 3) := by decide +kernel
theorem dX3_take_34 : decode cX3_take 34 = .ok (.aload_n 0, 1) := by decide +kernel
theorem dX3_take_35 : decode cX3_take 35 = .ok (.iload_n 2, 1) := by decide +kernel
theorem dX3_take_36 : decode cX3_take 36 = .ok (.iload_n 3, 1) := by decide +kernel
theorem dX3_take_37 : decode cX3_take 37 = .ok (.invokevirtual 89, 3) := by decide +kernel
theorem dX3_take_40 : decode cX3_take 40 = .ok (.iload_n 1, 1) := by decide +kernel
theorem dX3_take_41 : decode cX3_take 41 = .ok (.if_icmp .ne 16, 3) := by decide +kernel
theorem dX3_take_44 : decode cX3_take 44 = .ok (.aload_n 0, 1) := by decide +kernel
theorem dX3_take_45 : decode cX3_take 45 = .ok (.getfield 22, 3) := by decide +kernel
theorem dX3_take_48 : decode cX3_take 48 = .ok (.iload_n 2, 1) := by decide +kernel
theorem dX3_take_49 : decode cX3_take 49 = .ok (.iaload, 1) := by decide +kernel
theorem dX3_take_50 : decode cX3_take 50 = .ok (.iload_n 3, 1) := by decide +kernel
theorem dX3_take_51 : decode cX3_take 51 = .ok (.ishr, 1) := by decide +kernel
theorem dX3_take_52 : decode cX3_take 52 = .ok (.iconst 1, 1) := by decide +kernel
theorem dX3_take_53 : decode cX3_take 53 = .ok (.iand, 1) := by decide +kernel
theorem dX3_take_54 : decode cX3_take 54 = .ok (.ifCond .ne 9, 3) := by decide +kernel
theorem dX3_take_57 : decode cX3_take 57 = .ok (.aload_n 0, 1) := by decide +kernel
theorem dX3_take_58 : decode cX3_take 58 = .ok (.iconst 2, 1) := by decide +kernel
theorem dX3_take_59 : decode cX3_take 59 = .ok (.invokevirtual 127, 3) := by decide +kernel
theorem dX3_take_62 : decode cX3_take 62 = .ok (.ireturn, 1) := by decide +kernel
theorem dX3_take_63 : decode cX3_take 63 = .ok (.aload_n 0, 1) := by decide +kernel
theorem dX3_take_64 : decode cX3_take 64 = .ok (.getfield 22, 3) := by decide +kernel
theorem dX3_take_67 : decode cX3_take 67 = .ok (.iload_n 2, 1) := by decide +kernel
theorem dX3_take_68 : decode cX3_take 68 = .ok (.dup2, 1) := by decide +kernel
theorem dX3_take_69 : decode cX3_take 69 = .ok (.iaload, 1) := by decide +kernel
theorem dX3_take_70 : decode cX3_take 70 = .ok (.iconst 1, 1) := by decide +kernel
theorem dX3_take_71 : decode cX3_take 71 = .ok (.iload_n 3, 1) := by decide +kernel
theorem dX3_take_72 : decode cX3_take 72 = .ok (.ishl, 1) := by decide +kernel
theorem dX3_take_73 : decode cX3_take 73 = .ok (.isub, 1) := by decide +kernel
theorem dX3_take_74 : decode cX3_take 74 = .ok (.iastore, 1) := by decide +kernel
theorem dX3_take_75 : decode cX3_take 75 = .ok (.aload_n 0, 1) := by decide +kernel
theorem dX3_take_76 : decode cX3_take 76 = .ok (.dup, 1) := by decide +kernel
theorem dX3_take_77 : decode cX3_take 77 = .ok (.getfield 97, 3) := by decide +kernel
theorem dX3_take_80 : decode cX3_take 80 = .ok (.iconst 1, 1) := by decide +kernel
theorem dX3_take_81 : decode cX3_take 81 = .ok (.iadd, 1) := by decide +kernel
theorem dX3_take_82 : decode cX3_take 82 = .ok (.putfield 97, 3) := by decide +kernel
theorem dX3_take_85 : decode cX3_take 85 = .ok (.aload_n 0, 1) := by decide +kernel
theorem dX3_take_86 : decode cX3_take 86 = .ok (.getfield 22, 3) := by decide +kernel
theorem dX3_take_89 : decode cX3_take 89 = .ok (.iload_n 2, 1) := by decide +kernel
theorem dX3_take_90 : decode cX3_take 90 = .ok (.iaload, 1) := by decide +kernel
theorem dX3_take_91 : decode cX3_take 91 = .ok (.ifCond .ne 13, 3) := by decide +kernel
theorem dX3_take_94 : decode cX3_take 94 = .ok (.aload_n 0, 1) := by decide +kernel
theorem dX3_take_95 : decode cX3_take 95 = .ok (.getfield 25, 3) := by decide +kernel
theorem dX3_take_98 : decode cX3_take 98 = .ok (.iload_n 2, 1) := by decide +kernel
theorem dX3_take_99 : decode cX3_take 99 = .ok (.aload_n 0, 1) := by decide +kernel
theorem dX3_take_100 : decode cX3_take 100 = .ok (.getfield 97, 3) := by decide +kernel
theorem dX3_take_103 : decode cX3_take 103 = .ok (.iastore, 1) := by decide +kernel
theorem dX3_take_104 : decode cX3_take 104 = .ok (.aload_n 0, 1) := by decide +kernel
theorem dX3_take_105 : decode cX3_take 105 = .ok (.iload_n 2, 1) := by decide +kernel
theorem dX3_take_106 : decode cX3_take 106 = .ok (.invokevirtual 51, 3) := by decide +kernel
theorem dX3_take_109 : decode cX3_take 109 = .ok (.ireturn, 1) := by decide +kernel
theorem dX3_reap_0 : decode cX3_reap 0 = .ok (.aload_n 0, 1) := by decide +kernel
theorem dX3_reap_1 : decode cX3_reap 1 = .ok (.iconst 0, 1) := by decide +kernel
theorem dX3_reap_2 : decode cX3_reap 2 = .ok (.putfield 34, 3) := by decide +kernel
theorem dX3_reap_5 : decode cX3_reap 5 = .ok (.iload_n 1, 1) := by decide +kernel
theorem dX3_reap_6 : decode cX3_reap 6 = .ok (.iconst 0, 1) := by decide +kernel
theorem dX3_reap_7 : decode cX3_reap 7 = .ok (.bipush 99, 2) := by decide +kernel
theorem dX3_reap_9 : decode cX3_reap 9 = .ok (.invokestatic 41, 3) := by decide +kernel
theorem dX3_reap_12 : decode cX3_reap 12 = .ok (.ifCond .ne 9, 3) := by decide +kernel
theorem dX3_reap_15 : decode cX3_reap 15 = .ok (.aload_n 0, 1) := by decide +kernel
theorem dX3_reap_16 : decode cX3_reap 16 = .ok (.iconst 1, 1) := by decide +kernel
theorem dX3_reap_17 : decode cX3_reap 17 = .ok (.invokevirtual 127, 3) := by decide +kernel
theorem dX3_reap_20 : decode cX3_reap 20 = .ok (.ireturn, 1) := by decide +kernel
theorem dX3_reap_21 : decode cX3_reap 21 = .ok (.iconst 0, 1) := by decide +kernel
theorem dX3_reap_22 : decode cX3_reap 22 = .ok (.istore_n 2, 1) := by decide +kernel
theorem dX3_reap_23 : decode cX3_reap 23 = .ok (.iconst 0, 1) := by decide +kernel
theorem dX3_reap_24 : decode cX3_reap 24 = .ok (.istore_n 3, 1) := by decide +kernel
theorem dX3_reap_25 : decode cX3_reap 25 = .ok (.iload_n 3, 1) := by decide +kernel
theorem dX3_reap_26 : decode cX3_reap 26 = .ok (.bipush 12, 2) := by decide +kernel
theorem dX3_reap_28 : decode cX3_reap 28 = .ok (.if_icmp .ge 61, 3) := by decide +kernel
theorem dX3_reap_31 : decode cX3_reap 31 = .ok (.aload_n 0, 1) := by decide +kernel
theorem dX3_reap_32 : decode cX3_reap 32 = .ok (.iload_n 3, 1) := by decide +kernel
theorem dX3_reap_33 : decode cX3_reap 33 = .ok (.invokevirtual 74, 3) := by decide +kernel
theorem dX3_reap_36 : decode cX3_reap 36 = .ok (.ifCond .ne 47, 3) := by decide +kernel
theorem dX3_reap_39 : decode cX3_reap 39 = .ok (.aload_n 0, 1) := by decide +kernel
theorem dX3_reap_40 : decode cX3_reap 40 = .ok (.getfield 22, 3) := by decide +kernel
theorem dX3_reap_43 : decode cX3_reap 43 = .ok (.iload_n 3, 1) := by decide +kernel
theorem dX3_reap_44 : decode cX3_reap 44 = .ok (.iaload, 1) := by decide +kernel
theorem dX3_reap_45 : decode cX3_reap 45 = .ok (.ifCond .ne 38, 3) := by decide +kernel
theorem dX3_reap_48 : decode cX3_reap 48 = .ok (.aload_n 0, 1) := by decide +kernel
theorem dX3_reap_49 : decode cX3_reap 49 = .ok (.getfield 97, 3) := by decide +kernel
theorem dX3_reap_52 : decode cX3_reap 52 = .ok (.aload_n 0, 1) := by decide +kernel
theorem dX3_reap_53 : decode cX3_reap 53 = .ok (.getfield 25, 3) := by decide +kernel
theorem dX3_reap_56 : decode cX3_reap 56 = .ok (.iload_n 3, 1) := by decide +kernel
theorem dX3_reap_57 : decode cX3_reap 57 = .ok (.iaload, 1) := by decide +kernel
theorem dX3_reap_58 : decode cX3_reap 58 = .ok (.isub, 1) := by decide +kernel
theorem dX3_reap_59 : decode cX3_reap 59 = .ok (.iload_n 1, 1) := by decide +kernel
theorem dX3_reap_60 : decode cX3_reap 60 = .ok (.if_icmp .ge 6, 3) := by decide +kernel
theorem dX3_reap_63 : decode cX3_reap 63 = .ok (.goto 20, 3) := by decide +kernel
theorem dX3_reap_66 : decode cX3_reap 66 = .ok (.aload_n 0, 1) := by decide +kernel
theorem dX3_reap_67 : decode cX3_reap 67 = .ok (.getfield 16, 3) := by decide +kernel
theorem dX3_reap_70 : decode cX3_reap 70 = .ok (.iload_n 3, 1) := by decide +kernel
theorem dX3_reap_71 : decode cX3_reap 71 = .ok (.iconst (-1), 1) := by decide +kernel
theorem dX3_reap_72 : decode cX3_reap 72 = .ok (.iastore, 1) := by decide +kernel
theorem dX3_reap_73 : decode cX3_reap 73 = .ok (.aload_n 0, 1) := by decide +kernel
theorem dX3_reap_74 : decode cX3_reap 74 = .ok (.getfield 25, 3) := by decide +kernel
theorem dX3_reap_77 : decode cX3_reap 77 = .ok (.iload_n 3, 1) := by decide +kernel
theorem dX3_reap_78 : decode cX3_reap 78 = .ok (.iconst (-1), 1) := by decide +kernel
theorem dX3_reap_79 : decode cX3_reap 79 = .ok (.iastore, 1) := by decide +kernel
theorem dX3_reap_80 : decode cX3_reap 80 = .ok (.iinc 2 1, 3) := by decide +kernel
theorem dX3_reap_83 : decode cX3_reap 83 = .ok (.iinc 3 1, 3) := by decide +kernel
theorem dX3_reap_86 : decode cX3_reap 86 = .ok (.goto (-61), 3) := by decide +kernel
theorem dX3_reap_89 : decode cX3_reap 89 = .ok (.iload_n 2, 1) := by decide +kernel
theorem dX3_reap_90 : decode cX3_reap 90 = .ok (.ireturn, 1) := by decide +kernel
theorem dX3_pack_0 : decode cX3_pack 0 = .ok (.aload_n 0, 1) := by decide +kernel
theorem dX3_pack_1 : decode cX3_pack 1 = .ok (.iconst 0, 1) := by decide +kernel
theorem dX3_pack_2 : decode cX3_pack 2 = .ok (.putfield 34, 3) := by decide +kernel
theorem dX3_pack_5 : decode cX3_pack 5 = .ok (.aload_n 0, 1) := by decide +kernel
theorem dX3_pack_6 : decode cX3_pack 6 = .ok (.iload_n 1, 1) := by decide +kernel
theorem dX3_pack_7 : decode cX3_pack 7 = .ok (.invokevirtual 130, 3) := by decide +kernel
theorem dX3_pack_10 : decode cX3_pack 10 = .ok (.ifCond .ne 9, 3) := by decide +kernel
theorem dX3_pack_13 : decode cX3_pack 13 = .ok (.aload_n 0, 1) := by decide +kernel
theorem dX3_pack_14 : decode cX3_pack 14 = .ok (.iconst 1, 1) := by decide +kernel
theorem dX3_pack_15 : decode cX3_pack 15 = .ok (.invokevirtual 127, 3) := by decide +kernel
theorem dX3_pack_18 : decode cX3_pack 18 = .ok (.ireturn, 1) := by decide +kernel
theorem dX3_pack_19 : decode cX3_pack 19 = .ok (.aload_n 0, 1) := by decide +kernel
theorem dX3_pack_20 : decode cX3_pack 20 = .ok (.iload_n 1, 1) := by decide +kernel
theorem dX3_pack_21 : decode cX3_pack 21 = .ok (.invokevirtual 124, 3) := by decide +kernel
theorem dX3_pack_24 : decode cX3_pack 24 = .ok (.istore_n 2, 1) := by decide +kernel
theorem dX3_pack_25 : decode cX3_pack 25 = .ok (.aload_n 0, 1) := by decide +kernel
theorem dX3_pack_26 : decode cX3_pack 26 = .ok (.dup, 1) := by decide +kernel
theorem dX3_pack_27 : decode cX3_pack 27 = .ok (.getfield 142, 3) := by decide +kernel
theorem dX3_pack_30 : decode cX3_pack 30 = .ok (.iload_n 2, 1) := by decide +kernel
theorem dX3_pack_31 : decode cX3_pack 31 = .ok (.iadd, 1) := by decide +kernel
theorem dX3_pack_32 : decode cX3_pack 32 = .ok (.putfield 142, 3) := by decide +kernel
theorem dX3_pack_35 : decode cX3_pack 35 = .ok (.iload_n 2, 1) := by decide +kernel
theorem dX3_pack_36 : decode cX3_pack 36 = .ok (.ireturn, 1) := by decide +kernel
theorem dX3_shelfTold_0 : decode cX3_shelfTold 0 = .ok (.aload_n 0, 1) := by decide +kernel
theorem dX3_shelfTold_1 : decode cX3_shelfTold 1 = .ok (.iload_n 1, 1) := by decide +kernel
theorem dX3_shelfTold_2 : decode cX3_shelfTold 2 = .ok (.invokevirtual 74, 3) := by decide +kernel
theorem dX3_shelfTold_5 : decode cX3_shelfTold 5 = .ok (.ifCond .eq 18, 3) := by decide +kernel
theorem dX3_shelfTold_8 : decode cX3_shelfTold 8 = .ok (.iload_n 2, 1) := by decide +kernel
theorem dX3_shelfTold_9 : decode cX3_shelfTold 9 = .ok (.ifCond .eq 8, 3) := by decide +kernel
theorem dX3_shelfTold_12 : decode cX3_shelfTold 12 = .ok (.iload_n 2, 1) := by decide +kernel
theorem dX3_shelfTold_13 : decode cX3_shelfTold 13 = .ok (.iconst 3, 1) := by decide +kernel
theorem dX3_shelfTold_14 : decode cX3_shelfTold 14 = .ok (.if_icmp .le 7, 3) := by decide +kernel
theorem dX3_shelfTold_17 : decode cX3_shelfTold 17 = .ok (.iconst (-1), 1) := by decide +kernel
theorem dX3_shelfTold_18 : decode cX3_shelfTold 18 = .ok (.goto 4, 3) := by decide +kernel
theorem dX3_shelfTold_21 : decode cX3_shelfTold 21 = .ok (.iconst 0, 1) := by decide +kernel
theorem dX3_shelfTold_22 : decode cX3_shelfTold 22 = .ok (.ireturn, 1) := by decide +kernel
theorem dX3_shelfTold_23 : decode cX3_shelfTold 23 = .ok (.iload_n 2, 1) := by decide +kernel
theorem dX3_shelfTold_24 : decode cX3_shelfTold 24 = .ok (.tableswitch 73 0 4 #[36, 43, 49, 56, 67], 36) := by decide +kernel
theorem dX3_shelfTold_60 : decode cX3_shelfTold 60 = .ok (.aload_n 0, 1) := by decide +kernel
theorem dX3_shelfTold_61 : decode cX3_shelfTold 61 = .ok (.getfield 16, 3) := by decide +kernel
theorem dX3_shelfTold_64 : decode cX3_shelfTold 64 = .ok (.iload_n 1, 1) := by decide +kernel
theorem dX3_shelfTold_65 : decode cX3_shelfTold 65 = .ok (.iaload, 1) := by decide +kernel
theorem dX3_shelfTold_66 : decode cX3_shelfTold 66 = .ok (.ireturn, 1) := by decide +kernel
theorem dX3_shelfTold_67 : decode cX3_shelfTold 67 = .ok (.aload_n 0, 1) := by decide +kernel
theorem dX3_shelfTold_68 : decode cX3_shelfTold 68 = .ok (.iload_n 1, 1) := by decide +kernel
theorem dX3_shelfTold_69 : decode cX3_shelfTold 69 = .ok (.invokevirtual 51, 3) := by decide +kernel
theorem dX3_shelfTold_72 : decode cX3_shelfTold 72 = .ok (.ireturn, 1) := by decide +kernel
theorem dX3_shelfTold_73 : decode cX3_shelfTold 73 = .ok (.aload_n 0, 1) := by decide +kernel
theorem dX3_shelfTold_74 : decode cX3_shelfTold 74 = .ok (.getfield 19, 3) := by decide +kernel
theorem dX3_shelfTold_77 : decode cX3_shelfTold 77 = .ok (.iload_n 1, 1) := by decide +kernel
theorem dX3_shelfTold_78 : decode cX3_shelfTold 78 = .ok (.iaload, 1) := by decide +kernel
theorem dX3_shelfTold_79 : decode cX3_shelfTold 79 = .ok (.ireturn, 1) := by decide +kernel
theorem dX3_shelfTold_80 : decode cX3_shelfTold 80 = .ok (.aload_n 0, 1) := by decide +kernel
theorem dX3_shelfTold_81 : decode cX3_shelfTold 81 = .ok (.aload_n 0, 1) := by decide +kernel
theorem dX3_shelfTold_82 : decode cX3_shelfTold 82 = .ok (.getfield 16, 3) := by decide +kernel
theorem dX3_shelfTold_85 : decode cX3_shelfTold 85 = .ok (.iload_n 1, 1) := by decide +kernel
theorem dX3_shelfTold_86 : decode cX3_shelfTold 86 = .ok (.iaload, 1) := by decide +kernel
theorem dX3_shelfTold_87 : decode cX3_shelfTold 87 = .ok (.invokevirtual 54, 3) := by decide +kernel
theorem dX3_shelfTold_90 : decode cX3_shelfTold 90 = .ok (.ireturn, 1) := by decide +kernel
theorem dX3_shelfTold_91 : decode cX3_shelfTold 91 = .ok (.aload_n 0, 1) := by decide +kernel
theorem dX3_shelfTold_92 : decode cX3_shelfTold 92 = .ok (.iload_n 1, 1) := by decide +kernel
theorem dX3_shelfTold_93 : decode cX3_shelfTold 93 = .ok (.invokevirtual 86, 3) := by decide +kernel
theorem dX3_shelfTold_96 : decode cX3_shelfTold 96 = .ok (.ireturn, 1) := by decide +kernel
theorem dX3_shelfTold_97 : decode cX3_shelfTold 97 = .ok (.aload_n 0, 1) := by decide +kernel
theorem dX3_shelfTold_98 : decode cX3_shelfTold 98 = .ok (.getfield 25, 3) := by decide +kernel
theorem dX3_shelfTold_101 : decode cX3_shelfTold 101 = .ok (.iload_n 1, 1) := by decide +kernel
theorem dX3_shelfTold_102 : decode cX3_shelfTold 102 = .ok (.iaload, 1) := by decide +kernel
theorem dX3_shelfTold_103 : decode cX3_shelfTold 103 = .ok (.ireturn, 1) := by decide +kernel
theorem dX3_shelf_0 : decode cX3_shelf 0 = .ok (.aload_n 0, 1) := by decide +kernel
theorem dX3_shelf_1 : decode cX3_shelf 1 = .ok (.iconst 0, 1) := by decide +kernel
theorem dX3_shelf_2 : decode cX3_shelf 2 = .ok (.putfield 34, 3) := by decide +kernel
theorem dX3_shelf_5 : decode cX3_shelf 5 = .ok (.iload_n 1, 1) := by decide +kernel
theorem dX3_shelf_6 : decode cX3_shelf 6 = .ok (.iconst 0, 1) := by decide +kernel
theorem dX3_shelf_7 : decode cX3_shelf 7 = .ok (.bipush 11, 2) := by decide +kernel
theorem dX3_shelf_9 : decode cX3_shelf 9 = .ok (.invokestatic 41, 3) := by decide +kernel
theorem dX3_shelf_12 : decode cX3_shelf 12 = .ok (.ifCond .eq 21, 3) := by decide +kernel
theorem dX3_shelf_15 : decode cX3_shelf 15 = .ok (.iload_n 2, 1) := by decide +kernel
theorem dX3_shelf_16 : decode cX3_shelf 16 = .ok (.iconst 0, 1) := by decide +kernel
theorem dX3_shelf_17 : decode cX3_shelf 17 = .ok (.iconst 5, 1) := by decide +kernel
theorem dX3_shelf_18 : decode cX3_shelf 18 = .ok (.invokestatic 41, 3) := by decide +kernel
theorem dX3_shelf_21 : decode cX3_shelf 21 = .ok (.ifCond .eq 12, 3) := by decide +kernel
theorem dX3_shelf_24 : decode cX3_shelf 24 = .ok (.aload_n 0, 1) := by decide +kernel
theorem dX3_shelf_25 : decode cX3_shelf 25 = .ok (.iload_n 1, 1) := by decide +kernel
theorem dX3_shelf_26 : decode cX3_shelf 26 = .ok (.iload_n 2, 1) := by decide +kernel
theorem dX3_shelf_27 : decode cX3_shelf 27 = .ok (.invokevirtual 145, 3) := by decide +kernel
theorem dX3_shelf_30 : decode cX3_shelf 30 = .ok (.goto 8, 3) := by decide +kernel
theorem dX3_shelf_33 : decode cX3_shelf 33 = .ok (.aload_n 0, 1) := by decide +kernel
theorem dX3_shelf_34 : decode cX3_shelf 34 = .ok (.iconst 1, 1) := by decide +kernel
theorem dX3_shelf_35 : decode cX3_shelf 35 = .ok (.invokevirtual 127, 3) := by decide +kernel
theorem dX3_shelf_38 : decode cX3_shelf 38 = .ok (.ireturn, 1) := by decide +kernel
theorem dX3_bowlsOf_0 : decode cX3_bowlsOf 0 = .ok (.iconst 0, 1) := by decide +kernel
theorem dX3_bowlsOf_1 : decode cX3_bowlsOf 1 = .ok (.istore_n 2, 1) := by decide +kernel
theorem dX3_bowlsOf_2 : decode cX3_bowlsOf 2 = .ok (.iconst 0, 1) := by decide +kernel
theorem dX3_bowlsOf_3 : decode cX3_bowlsOf 3 = .ok (.istore_n 3, 1) := by decide +kernel
theorem dX3_bowlsOf_4 : decode cX3_bowlsOf 4 = .ok (.iload_n 3, 1) := by decide +kernel
theorem dX3_bowlsOf_5 : decode cX3_bowlsOf 5 = .ok (.bipush 12, 2) := by decide +kernel
theorem dX3_bowlsOf_7 : decode cX3_bowlsOf 7 = .ok (.if_icmp .ge 31, 3) := by decide +kernel
theorem dX3_bowlsOf_10 : decode cX3_bowlsOf 10 = .ok (.iload_n 2, 1) := by decide +kernel
theorem dX3_bowlsOf_11 : decode cX3_bowlsOf 11 = .ok (.aload_n 0, 1) := by decide +kernel
theorem dX3_bowlsOf_12 : decode cX3_bowlsOf 12 = .ok (.getfield 16, 3) := by decide +kernel
theorem dX3_bowlsOf_15 : decode cX3_bowlsOf 15 = .ok (.iload_n 3, 1) := by decide +kernel
theorem dX3_bowlsOf_16 : decode cX3_bowlsOf 16 = .ok (.iaload, 1) := by decide +kernel
theorem dX3_bowlsOf_17 : decode cX3_bowlsOf 17 = .ok (.iload_n 1, 1) := by decide +kernel
theorem dX3_bowlsOf_18 : decode cX3_bowlsOf 18 = .ok (.if_icmp .ne 11, 3) := by decide +kernel
theorem dX3_bowlsOf_21 : decode cX3_bowlsOf 21 = .ok (.aload_n 0, 1) := by decide +kernel
theorem dX3_bowlsOf_22 : decode cX3_bowlsOf 22 = .ok (.iload_n 3, 1) := by decide +kernel
theorem dX3_bowlsOf_23 : decode cX3_bowlsOf 23 = .ok (.invokevirtual 51, 3) := by decide +kernel
theorem dX3_bowlsOf_26 : decode cX3_bowlsOf 26 = .ok (.goto 4, 3) := by decide +kernel
theorem dX3_bowlsOf_29 : decode cX3_bowlsOf 29 = .ok (.iconst 0, 1) := by decide +kernel
theorem dX3_bowlsOf_30 : decode cX3_bowlsOf 30 = .ok (.iadd, 1) := by decide +kernel
theorem dX3_bowlsOf_31 : decode cX3_bowlsOf 31 = .ok (.istore_n 2, 1) := by decide +kernel
theorem dX3_bowlsOf_32 : decode cX3_bowlsOf 32 = .ok (.iinc 3 1, 3) := by decide +kernel
theorem dX3_bowlsOf_35 : decode cX3_bowlsOf 35 = .ok (.goto (-31), 3) := by decide +kernel
theorem dX3_bowlsOf_38 : decode cX3_bowlsOf 38 = .ok (.iload_n 2, 1) := by decide +kernel
theorem dX3_bowlsOf_39 : decode cX3_bowlsOf 39 = .ok (.ireturn, 1) := by decide +kernel
theorem dX3_kindTold_0 : decode cX3_kindTold 0 = .ok (.iload_n 2, 1) := by decide +kernel
theorem dX3_kindTold_1 : decode cX3_kindTold 1 = .ok (.tableswitch 83 0 8 #[51, 58, 64, 83, 83, 83, 83, 70, 76], 51) := by decide +kernel
theorem dX3_kindTold_52 : decode cX3_kindTold 52 = .ok (.aload_n 0, 1) := by decide +kernel
theorem dX3_kindTold_53 : decode cX3_kindTold 53 = .ok (.getfield 9, 3) := by decide +kernel
theorem dX3_kindTold_56 : decode cX3_kindTold 56 = .ok (.iload_n 1, 1) := by decide +kernel
theorem dX3_kindTold_57 : decode cX3_kindTold 57 = .ok (.iaload, 1) := by decide +kernel
theorem dX3_kindTold_58 : decode cX3_kindTold 58 = .ok (.ireturn, 1) := by decide +kernel
theorem dX3_kindTold_59 : decode cX3_kindTold 59 = .ok (.aload_n 0, 1) := by decide +kernel
theorem dX3_kindTold_60 : decode cX3_kindTold 60 = .ok (.iload_n 1, 1) := by decide +kernel
theorem dX3_kindTold_61 : decode cX3_kindTold 61 = .ok (.invokevirtual 54, 3) := by decide +kernel
theorem dX3_kindTold_64 : decode cX3_kindTold 64 = .ok (.ireturn, 1) := by decide +kernel
theorem dX3_kindTold_65 : decode cX3_kindTold 65 = .ok (.aload_n 0, 1) := by decide +kernel
theorem dX3_kindTold_66 : decode cX3_kindTold 66 = .ok (.iload_n 1, 1) := by decide +kernel
theorem dX3_kindTold_67 : decode cX3_kindTold 67 = .ok (.invokevirtual 77, 3) := by decide +kernel
theorem dX3_kindTold_70 : decode cX3_kindTold 70 = .ok (.ireturn, 1) := by decide +kernel
theorem dX3_kindTold_71 : decode cX3_kindTold 71 = .ok (.aload_n 0, 1) := by decide +kernel
theorem dX3_kindTold_72 : decode cX3_kindTold 72 = .ok (.iload_n 1, 1) := by decide +kernel
theorem dX3_kindTold_73 : decode cX3_kindTold 73 = .ok (.invokevirtual 148, 3) := by decide +kernel
theorem dX3_kindTold_76 : decode cX3_kindTold 76 = .ok (.ireturn, 1) := by decide +kernel
theorem dX3_kindTold_77 : decode cX3_kindTold 77 = .ok (.aload_n 0, 1) := by decide +kernel
theorem dX3_kindTold_78 : decode cX3_kindTold 78 = .ok (.getfield 13, 3) := by decide +kernel
theorem dX3_kindTold_81 : decode cX3_kindTold 81 = .ok (.iload_n 1, 1) := by decide +kernel
theorem dX3_kindTold_82 : decode cX3_kindTold 82 = .ok (.iaload, 1) := by decide +kernel
theorem dX3_kindTold_83 : decode cX3_kindTold 83 = .ok (.ireturn, 1) := by decide +kernel
theorem dX3_kindTold_84 : decode cX3_kindTold 84 = .ok (.aload_n 0, 1) := by decide +kernel
theorem dX3_kindTold_85 : decode cX3_kindTold 85 = .ok (.iload_n 1, 1) := by decide +kernel
theorem dX3_kindTold_86 : decode cX3_kindTold 86 = .ok (.iload_n 2, 1) := by decide +kernel
theorem dX3_kindTold_87 : decode cX3_kindTold 87 = .ok (.iconst 3, 1) := by decide +kernel
theorem dX3_kindTold_88 : decode cX3_kindTold 88 = .ok (.isub, 1) := by decide +kernel
theorem dX3_kindTold_89 : decode cX3_kindTold 89 = .ok (.invokevirtual 121, 3) := by decide +kernel
theorem dX3_kindTold_92 : decode cX3_kindTold 92 = .ok (.ireturn, 1) := by decide +kernel
theorem dX3_about_0 : decode cX3_about 0 = .ok (.aload_n 0, 1) := by decide +kernel
theorem dX3_about_1 : decode cX3_about 1 = .ok (.iconst 0, 1) := by decide +kernel
theorem dX3_about_2 : decode cX3_about 2 = .ok (.putfield 34, 3) := by decide +kernel
theorem dX3_about_5 : decode cX3_about 5 = .ok (.aload_n 0, 1) := by decide +kernel
theorem dX3_about_6 : decode cX3_about 6 = .ok (.iload_n 1, 1) := by decide +kernel
theorem dX3_about_7 : decode cX3_about 7 = .ok (.invokevirtual 130, 3) := by decide +kernel
theorem dX3_about_10 : decode cX3_about 10 = .ok (.ifCond .eq 22, 3) := by decide +kernel
theorem dX3_about_13 : decode cX3_about 13 = .ok (.iload_n 2, 1) := by decide +kernel
theorem dX3_about_14 : decode cX3_about 14 = .ok (.iconst 0, 1) := by decide +kernel
theorem dX3_about_15 : decode cX3_about 15 = .ok (.bipush 8, 2) := by decide +kernel
theorem dX3_about_17 : decode cX3_about 17 = .ok (.invokestatic 41, 3) := by decide +kernel
theorem dX3_about_20 : decode cX3_about 20 = .ok (.ifCond .eq 12, 3) := by decide +kernel
theorem dX3_about_23 : decode cX3_about 23 = .ok (.aload_n 0, 1) := by decide +kernel
theorem dX3_about_24 : decode cX3_about 24 = .ok (.iload_n 1, 1) := by decide +kernel
theorem dX3_about_25 : decode cX3_about 25 = .ok (.iload_n 2, 1) := by decide +kernel
theorem dX3_about_26 : decode cX3_about 26 = .ok (.invokevirtual 151, 3) := by decide +kernel
theorem dX3_about_29 : decode cX3_about 29 = .ok (.goto 8, 3) := by decide +kernel
theorem dX3_about_32 : decode cX3_about 32 = .ok (.aload_n 0, 1) := by decide +kernel
theorem dX3_about_33 : decode cX3_about 33 = .ok (.iconst 1, 1) := by decide +kernel
theorem dX3_about_34 : decode cX3_about 34 = .ok (.invokevirtual 127, 3) := by decide +kernel
theorem dX3_about_37 : decode cX3_about 37 = .ok (.ireturn, 1) := by decide +kernel
theorem dX3_placeTold_0 : decode cX3_placeTold 0 = .ok (.aload_n 0, 1) := by decide +kernel
theorem dX3_placeTold_1 : decode cX3_placeTold 1 = .ok (.iload_n 1, 1) := by decide +kernel
theorem dX3_placeTold_2 : decode cX3_placeTold 2 = .ok (.invokevirtual 139, 3) := by decide +kernel
theorem dX3_placeTold_5 : decode cX3_placeTold 5 = .ok (.istore_n 3, 1) := by decide +kernel
theorem dX3_placeTold_6 : decode cX3_placeTold 6 = .ok (.iload_n 3, 1) := by decide +kernel
theorem dX3_placeTold_7 : decode cX3_placeTold 7 = .ok (.iconst (-1), 1) := by decide +kernel
theorem dX3_placeTold_8 : decode cX3_placeTold 8 = .ok (.if_icmp .ne 5, 3) := by decide +kernel
theorem dX3_placeTold_11 : decode cX3_placeTold 11 = .ok (.iconst (-1), 1) := by decide +kernel
theorem dX3_placeTold_12 : decode cX3_placeTold 12 = .ok (.ireturn, 1) := by decide +kernel
theorem dX3_placeTold_13 : decode cX3_placeTold 13 = .ok (.iload_n 1, 1) := by decide +kernel
theorem dX3_placeTold_14 : decode cX3_placeTold 14 = .ok (.bipush 24, 2) := by decide +kernel
theorem dX3_placeTold_16 : decode cX3_placeTold 16 = .ok (.idiv, 1) := by decide +kernel
theorem dX3_placeTold_17 : decode cX3_placeTold 17 = .ok (.istore 4, 2) := by decide +kernel
theorem dX3_placeTold_19 : decode cX3_placeTold 19 = .ok (.iload_n 2, 1) := by decide +kernel
theorem dX3_placeTold_20 : decode cX3_placeTold 20 = .ok (.ifCond .ne 13, 3) := by decide +kernel
theorem dX3_placeTold_23 : decode cX3_placeTold 23 = .ok (.aload_n 0, 1) := by decide +kernel
theorem dX3_placeTold_24 : decode cX3_placeTold 24 = .ok (.getfield 16, 3) := by decide +kernel
theorem dX3_placeTold_27 : decode cX3_placeTold 27 = .ok (.iload 4, 2) := by decide +kernel
theorem dX3_placeTold_29 : decode cX3_placeTold 29 = .ok (.iaload, 1) := by decide +kernel
theorem dX3_placeTold_30 : decode cX3_placeTold 30 = .ok (.goto 38, 3) := by decide +kernel
theorem dX3_placeTold_33 : decode cX3_placeTold 33 = .ok (.iload_n 2, 1) := by decide +kernel
theorem dX3_placeTold_34 : decode cX3_placeTold 34 = .ok (.iconst 1, 1) := by decide +kernel
theorem dX3_placeTold_35 : decode cX3_placeTold 35 = .ok (.if_icmp .ne 7, 3) := by decide +kernel
theorem dX3_placeTold_38 : decode cX3_placeTold 38 = .ok (.iload_n 3, 1) := by decide +kernel
theorem dX3_placeTold_39 : decode cX3_placeTold 39 = .ok (.goto 29, 3) := by decide +kernel
theorem dX3_placeTold_42 : decode cX3_placeTold 42 = .ok (.iload_n 2, 1) := by decide +kernel
theorem dX3_placeTold_43 : decode cX3_placeTold 43 = .ok (.iconst 2, 1) := by decide +kernel
theorem dX3_placeTold_44 : decode cX3_placeTold 44 = .ok (.if_icmp .ne 17, 3) := by decide +kernel
theorem dX3_placeTold_47 : decode cX3_placeTold 47 = .ok (.aload_n 0, 1) := by decide +kernel
theorem dX3_placeTold_48 : decode cX3_placeTold 48 = .ok (.getfield 22, 3) := by decide +kernel
theorem dX3_placeTold_51 : decode cX3_placeTold 51 = .ok (.iload 4, 2) := by decide +kernel
theorem dX3_placeTold_53 : decode cX3_placeTold 53 = .ok (.iaload, 1) := by decide +kernel
theorem dX3_placeTold_54 : decode cX3_placeTold 54 = .ok (.iload_n 3, 1) := by decide +kernel
theorem dX3_placeTold_55 : decode cX3_placeTold 55 = .ok (.ishr, 1) := by decide +kernel
theorem dX3_placeTold_56 : decode cX3_placeTold 56 = .ok (.iconst 1, 1) := by decide +kernel
theorem dX3_placeTold_57 : decode cX3_placeTold 57 = .ok (.iand, 1) := by decide +kernel
theorem dX3_placeTold_58 : decode cX3_placeTold 58 = .ok (.goto 10, 3) := by decide +kernel
theorem dX3_placeTold_61 : decode cX3_placeTold 61 = .ok (.aload_n 0, 1) := by decide +kernel
theorem dX3_placeTold_62 : decode cX3_placeTold 62 = .ok (.iload 4, 2) := by decide +kernel
theorem dX3_placeTold_64 : decode cX3_placeTold 64 = .ok (.iload_n 3, 1) := by decide +kernel
theorem dX3_placeTold_65 : decode cX3_placeTold 65 = .ok (.invokevirtual 89, 3) := by decide +kernel
theorem dX3_placeTold_68 : decode cX3_placeTold 68 = .ok (.ireturn, 1) := by decide +kernel
theorem dX3_place_0 : decode cX3_place 0 = .ok (.aload_n 0, 1) := by decide +kernel
theorem dX3_place_1 : decode cX3_place 1 = .ok (.iconst 0, 1) := by decide +kernel
theorem dX3_place_2 : decode cX3_place 2 = .ok (.putfield 34, 3) := by decide +kernel
theorem dX3_place_5 : decode cX3_place 5 = .ok (.iload_n 1, 1) := by decide +kernel
theorem dX3_place_6 : decode cX3_place 6 = .ok (.invokestatic 136, 3) := by decide +kernel
theorem dX3_place_9 : decode cX3_place 9 = .ok (.ifCond .eq 21, 3) := by decide +kernel
theorem dX3_place_12 : decode cX3_place 12 = .ok (.iload_n 2, 1) := by decide +kernel
theorem dX3_place_13 : decode cX3_place 13 = .ok (.iconst 0, 1) := by decide +kernel
theorem dX3_place_14 : decode cX3_place 14 = .ok (.iconst 3, 1) := by decide +kernel
theorem dX3_place_15 : decode cX3_place 15 = .ok (.invokestatic 41, 3) := by decide +kernel
theorem dX3_place_18 : decode cX3_place 18 = .ok (.ifCond .eq 12, 3) := by decide +kernel
theorem dX3_place_21 : decode cX3_place 21 = .ok (.aload_n 0, 1) := by decide +kernel
theorem dX3_place_22 : decode cX3_place 22 = .ok (.iload_n 1, 1) := by decide +kernel
theorem dX3_place_23 : decode cX3_place 23 = .ok (.iload_n 2, 1) := by decide +kernel
theorem dX3_place_24 : decode cX3_place 24 = .ok (.invokevirtual 154, 3) := by decide +kernel
theorem dX3_place_27 : decode cX3_place 27 = .ok (.goto 8, 3) := by decide +kernel
theorem dX3_place_30 : decode cX3_place 30 = .ok (.aload_n 0, 1) := by decide +kernel
theorem dX3_place_31 : decode cX3_place 31 = .ok (.iconst 1, 1) := by decide +kernel
theorem dX3_place_32 : decode cX3_place 32 = .ok (.invokevirtual 127, 3) := by decide +kernel
theorem dX3_place_35 : decode cX3_place 35 = .ok (.ireturn, 1) := by decide +kernel
theorem dX3_sum_0 : decode cX3_sum 0 = .ok (.iconst 0, 1) := by decide +kernel
theorem dX3_sum_1 : decode cX3_sum 1 = .ok (.istore_n 2, 1) := by decide +kernel
theorem dX3_sum_2 : decode cX3_sum 2 = .ok (.iconst 0, 1) := by decide +kernel
theorem dX3_sum_3 : decode cX3_sum 3 = .ok (.istore_n 3, 1) := by decide +kernel
theorem dX3_sum_4 : decode cX3_sum 4 = .ok (.iload_n 3, 1) := by decide +kernel
theorem dX3_sum_5 : decode cX3_sum 5 = .ok (.bipush 12, 2) := by decide +kernel
theorem dX3_sum_7 : decode cX3_sum 7 = .ok (.if_icmp .ge 111, 3) := by decide +kernel
theorem dX3_sum_10 : decode cX3_sum 10 = .ok (.aload_n 0, 1) := by decide +kernel
theorem dX3_sum_11 : decode cX3_sum 11 = .ok (.iload_n 3, 1) := by decide +kernel
theorem dX3_sum_12 : decode cX3_sum 12 = .ok (.invokevirtual 74, 3) := by decide +kernel
theorem dX3_sum_15 : decode cX3_sum 15 = .ok (.ifCond .eq 19, 3) := by decide +kernel
theorem dX3_sum_18 : decode cX3_sum 18 = .ok (.iload_n 2, 1) := by decide +kernel
theorem dX3_sum_19 : decode cX3_sum 19 = .ok (.iload_n 1, 1) := by decide +kernel
theorem dX3_sum_20 : decode cX3_sum 20 = .ok (.iconst 2, 1) := by decide +kernel
theorem dX3_sum_21 : decode cX3_sum 21 = .ok (.if_icmp .ne 7, 3) := by decide +kernel
theorem dX3_sum_24 : decode cX3_sum 24 = .ok (.iconst 1, 1) := by decide +kernel
theorem dX3_sum_25 : decode cX3_sum 25 = .ok (.goto 4, 3) := by decide +kernel
theorem dX3_sum_28 : decode cX3_sum 28 = .ok (.iconst 0, 1) := by decide +kernel
theorem dX3_sum_29 : decode cX3_sum 29 = .ok (.iadd, 1) := by decide +kernel
theorem dX3_sum_30 : decode cX3_sum 30 = .ok (.istore_n 2, 1) := by decide +kernel
theorem dX3_sum_31 : decode cX3_sum 31 = .ok (.goto 81, 3) := by decide +kernel
theorem dX3_sum_34 : decode cX3_sum 34 = .ok (.aload_n 0, 1) := by decide +kernel
theorem dX3_sum_35 : decode cX3_sum 35 = .ok (.iload_n 3, 1) := by decide +kernel
theorem dX3_sum_36 : decode cX3_sum 36 = .ok (.invokevirtual 51, 3) := by decide +kernel
theorem dX3_sum_39 : decode cX3_sum 39 = .ok (.aload_n 0, 1) := by decide +kernel
theorem dX3_sum_40 : decode cX3_sum 40 = .ok (.getfield 9, 3) := by decide +kernel
theorem dX3_sum_43 : decode cX3_sum 43 = .ok (.aload_n 0, 1) := by decide +kernel
theorem dX3_sum_44 : decode cX3_sum 44 = .ok (.getfield 16, 3) := by decide +kernel
theorem dX3_sum_47 : decode cX3_sum 47 = .ok (.iload_n 3, 1) := by decide +kernel
theorem dX3_sum_48 : decode cX3_sum 48 = .ok (.iaload, 1) := by decide +kernel
theorem dX3_sum_49 : decode cX3_sum 49 = .ok (.iaload, 1) := by decide +kernel
theorem dX3_sum_50 : decode cX3_sum 50 = .ok (.imul, 1) := by decide +kernel
theorem dX3_sum_51 : decode cX3_sum 51 = .ok (.istore 4, 2) := by decide +kernel
theorem dX3_sum_53 : decode cX3_sum 53 = .ok (.iload_n 2, 1) := by decide +kernel
theorem dX3_sum_54 : decode cX3_sum 54 = .ok (.iload_n 1, 1) := by decide +kernel
theorem dX3_sum_55 : decode cX3_sum 55 = .ok (.iconst 3, 1) := by decide +kernel
theorem dX3_sum_56 : decode cX3_sum 56 = .ok (.if_icmp .ne 11, 3) := by decide +kernel
theorem dX3_sum_59 : decode cX3_sum 59 = .ok (.aload_n 0, 1) := by decide +kernel
theorem dX3_sum_60 : decode cX3_sum 60 = .ok (.iload_n 3, 1) := by decide +kernel
theorem dX3_sum_61 : decode cX3_sum 61 = .ok (.invokevirtual 51, 3) := by decide +kernel
theorem dX3_sum_64 : decode cX3_sum 64 = .ok (.goto 46, 3) := by decide +kernel
theorem dX3_sum_67 : decode cX3_sum 67 = .ok (.iload_n 1, 1) := by decide +kernel
theorem dX3_sum_68 : decode cX3_sum 68 = .ok (.iconst 4, 1) := by decide +kernel
theorem dX3_sum_69 : decode cX3_sum 69 = .ok (.if_icmp .ne 8, 3) := by decide +kernel
theorem dX3_sum_72 : decode cX3_sum 72 = .ok (.iload 4, 2) := by decide +kernel
theorem dX3_sum_74 : decode cX3_sum 74 = .ok (.goto 36, 3) := by decide +kernel
theorem dX3_sum_77 : decode cX3_sum 77 = .ok (.iload_n 1, 1) := by decide +kernel
theorem dX3_sum_78 : decode cX3_sum 78 = .ok (.iconst 5, 1) := by decide +kernel
theorem dX3_sum_79 : decode cX3_sum 79 = .ok (.if_icmp .ne 11, 3) := by decide +kernel
theorem dX3_sum_82 : decode cX3_sum 82 = .ok (.bipush 24, 2) := by decide +kernel
theorem dX3_sum_84 : decode cX3_sum 84 = .ok (.iload 4, 2) := by decide +kernel
theorem dX3_sum_86 : decode cX3_sum 86 = .ok (.isub, 1) := by decide +kernel
theorem dX3_sum_87 : decode cX3_sum 87 = .ok (.goto 23, 3) := by decide +kernel
theorem dX3_sum_90 : decode cX3_sum 90 = .ok (.iload_n 1, 1) := by decide +kernel
theorem dX3_sum_91 : decode cX3_sum 91 = .ok (.bipush 6, 2) := by decide +kernel
theorem dX3_sum_93 : decode cX3_sum 93 = .ok (.if_icmp .ne 16, 3) := by decide +kernel
theorem dX3_sum_96 : decode cX3_sum 96 = .ok (.aload_n 0, 1) := by decide +kernel
theorem dX3_sum_97 : decode cX3_sum 97 = .ok (.aload_n 0, 1) := by decide +kernel
theorem dX3_sum_98 : decode cX3_sum 98 = .ok (.getfield 16, 3) := by decide +kernel
theorem dX3_sum_101 : decode cX3_sum 101 = .ok (.iload_n 3, 1) := by decide +kernel
theorem dX3_sum_102 : decode cX3_sum 102 = .ok (.iaload, 1) := by decide +kernel
theorem dX3_sum_103 : decode cX3_sum 103 = .ok (.invokevirtual 77, 3) := by decide +kernel
theorem dX3_sum_106 : decode cX3_sum 106 = .ok (.goto 4, 3) := by decide +kernel
theorem dX3_sum_109 : decode cX3_sum 109 = .ok (.iconst 0, 1) := by decide +kernel
theorem dX3_sum_110 : decode cX3_sum 110 = .ok (.iadd, 1) := by decide +kernel
theorem dX3_sum_111 : decode cX3_sum 111 = .ok (.istore_n 2, 1) := by decide +kernel
theorem dX3_sum_112 : decode cX3_sum 112 = .ok (.iinc 3 1, 3) := by decide +kernel
theorem dX3_sum_115 : decode cX3_sum 115 = .ok (.goto (-111), 3) := by decide +kernel
theorem dX3_sum_118 : decode cX3_sum 118 = .ok (.iload_n 2, 1) := by decide +kernel
theorem dX3_sum_119 : decode cX3_sum 119 = .ok (.ireturn, 1) := by decide +kernel
theorem dX3_counted_0 : decode cX3_counted 0 = .ok (.iload_n 1, 1) := by decide +kernel
theorem dX3_counted_1 : decode cX3_counted 1 = .ok (.tableswitch 80 0 9 #[55, 60, 80, 80, 80, 80, 80, 65, 70, 75], 55) := by decide +kernel
theorem dX3_counted_56 : decode cX3_counted 56 = .ok (.aload_n 0, 1) := by decide +kernel
theorem dX3_counted_57 : decode cX3_counted 57 = .ok (.getfield 97, 3) := by decide +kernel
theorem dX3_counted_60 : decode cX3_counted 60 = .ok (.ireturn, 1) := by decide +kernel
theorem dX3_counted_61 : decode cX3_counted 61 = .ok (.aload_n 0, 1) := by decide +kernel
theorem dX3_counted_62 : decode cX3_counted 62 = .ok (.getfield 38, 3) := by decide +kernel
theorem dX3_counted_65 : decode cX3_counted 65 = .ok (.ireturn, 1) := by decide +kernel
theorem dX3_counted_66 : decode cX3_counted 66 = .ok (.aload_n 0, 1) := by decide +kernel
theorem dX3_counted_67 : decode cX3_counted 67 = .ok (.getfield 100, 3) := by decide +kernel
theorem dX3_counted_70 : decode cX3_counted 70 = .ok (.ireturn, 1) := by decide +kernel
theorem dX3_counted_71 : decode cX3_counted 71 = .ok (.aload_n 0, 1) := by decide +kernel
theorem dX3_counted_72 : decode cX3_counted 72 = .ok (.getfield 142, 3) := by decide +kernel
theorem dX3_counted_75 : decode cX3_counted 75 = .ok (.ireturn, 1) := by decide +kernel
theorem dX3_counted_76 : decode cX3_counted 76 = .ok (.aload_n 0, 1) := by decide +kernel
theorem dX3_counted_77 : decode cX3_counted 77 = .ok (.getfield 61, 3) := by decide +kernel
theorem dX3_counted_80 : decode cX3_counted 80 = .ok (.ireturn, 1) := by decide +kernel
theorem dX3_counted_81 : decode cX3_counted 81 = .ok (.aload_n 0, 1) := by decide +kernel
theorem dX3_counted_82 : decode cX3_counted 82 = .ok (.iload_n 1, 1) := by decide +kernel
theorem dX3_counted_83 : decode cX3_counted 83 = .ok (.invokevirtual 157, 3) := by decide +kernel
theorem dX3_counted_86 : decode cX3_counted 86 = .ok (.ireturn, 1) := by decide +kernel
theorem dX3_count_0 : decode cX3_count 0 = .ok (.aload_n 0, 1) := by decide +kernel
theorem dX3_count_1 : decode cX3_count 1 = .ok (.iconst 0, 1) := by decide +kernel
theorem dX3_count_2 : decode cX3_count 2 = .ok (.putfield 34, 3) := by decide +kernel
theorem dX3_count_5 : decode cX3_count 5 = .ok (.iload_n 1, 1) := by decide +kernel
theorem dX3_count_6 : decode cX3_count 6 = .ok (.iconst 0, 1) := by decide +kernel
theorem dX3_count_7 : decode cX3_count 7 = .ok (.bipush 9, 2) := by decide +kernel
theorem dX3_count_9 : decode cX3_count 9 = .ok (.invokestatic 41, 3) := by decide +kernel
theorem dX3_count_12 : decode cX3_count 12 = .ok (.ifCond .eq 11, 3) := by decide +kernel
theorem dX3_count_15 : decode cX3_count 15 = .ok (.aload_n 0, 1) := by decide +kernel
theorem dX3_count_16 : decode cX3_count 16 = .ok (.iload_n 1, 1) := by decide +kernel
theorem dX3_count_17 : decode cX3_count 17 = .ok (.invokevirtual 160, 3) := by decide +kernel
theorem dX3_count_20 : decode cX3_count 20 = .ok (.goto 8, 3) := by decide +kernel
theorem dX3_count_23 : decode cX3_count 23 = .ok (.aload_n 0, 1) := by decide +kernel
theorem dX3_count_24 : decode cX3_count 24 = .ok (.iconst 1, 1) := by decide +kernel
theorem dX3_count_25 : decode cX3_count 25 = .ok (.invokevirtual 127, 3) := by decide +kernel
theorem dX3_count_28 : decode cX3_count 28 = .ok (.ireturn, 1) := by decide +kernel
theorem dX3_next_0 : decode cX3_next 0 = .ok (.aload_n 0, 1) := by decide +kernel
theorem dX3_next_1 : decode cX3_next 1 = .ok (.iconst 0, 1) := by decide +kernel
theorem dX3_next_2 : decode cX3_next 2 = .ok (.putfield 34, 3) := by decide +kernel
theorem dX3_next_5 : decode cX3_next 5 = .ok (.aload_n 0, 1) := by decide +kernel
theorem dX3_next_6 : decode cX3_next 6 = .ok (.iload_n 1, 1) := by decide +kernel
theorem dX3_next_7 : decode cX3_next 7 = .ok (.invokevirtual 130, 3) := by decide +kernel
theorem dX3_next_10 : decode cX3_next 10 = .ok (.ifCond .eq 11, 3) := by decide +kernel
theorem dX3_next_13 : decode cX3_next 13 = .ok (.aload_n 0, 1) := by decide +kernel
theorem dX3_next_14 : decode cX3_next 14 = .ok (.iload_n 1, 1) := by decide +kernel
theorem dX3_next_15 : decode cX3_next 15 = .ok (.invokevirtual 163, 3) := by decide +kernel
theorem dX3_next_18 : decode cX3_next 18 = .ok (.goto 8, 3) := by decide +kernel
theorem dX3_next_21 : decode cX3_next 21 = .ok (.aload_n 0, 1) := by decide +kernel
theorem dX3_next_22 : decode cX3_next 22 = .ok (.iconst 1, 1) := by decide +kernel
theorem dX3_next_23 : decode cX3_next 23 = .ok (.invokevirtual 127, 3) := by decide +kernel
theorem dX3_next_26 : decode cX3_next 26 = .ok (.ireturn, 1) := by decide +kernel
theorem dX3_room_0 : decode cX3_room 0 = .ok (.aload_n 0, 1) := by decide +kernel
theorem dX3_room_1 : decode cX3_room 1 = .ok (.iload_n 1, 1) := by decide +kernel
theorem dX3_room_2 : decode cX3_room 2 = .ok (.iconst 0, 1) := by decide +kernel
theorem dX3_room_3 : decode cX3_room 3 = .ok (.invokevirtual 121, 3) := by decide +kernel
theorem dX3_room_6 : decode cX3_room 6 = .ok (.aload_n 0, 1) := by decide +kernel
theorem dX3_room_7 : decode cX3_room 7 = .ok (.iload_n 1, 1) := by decide +kernel
theorem dX3_room_8 : decode cX3_room 8 = .ok (.invokevirtual 54, 3) := by decide +kernel
theorem dX3_room_11 : decode cX3_room 11 = .ok (.imul, 1) := by decide +kernel
theorem dX3_room_12 : decode cX3_room 12 = .ok (.aload_n 0, 1) := by decide +kernel
theorem dX3_room_13 : decode cX3_room 13 = .ok (.iload_n 1, 1) := by decide +kernel
theorem dX3_room_14 : decode cX3_room 14 = .ok (.invokevirtual 148, 3) := by decide +kernel
theorem dX3_room_17 : decode cX3_room 17 = .ok (.isub, 1) := by decide +kernel
theorem dX3_room_18 : decode cX3_room 18 = .ok (.ireturn, 1) := by decide +kernel
theorem dX3_fits_0 : decode cX3_fits 0 = .ok (.aload_n 0, 1) := by decide +kernel
theorem dX3_fits_1 : decode cX3_fits 1 = .ok (.iconst 0, 1) := by decide +kernel
theorem dX3_fits_2 : decode cX3_fits 2 = .ok (.putfield 34, 3) := by decide +kernel
theorem dX3_fits_5 : decode cX3_fits 5 = .ok (.aload_n 0, 1) := by decide +kernel
theorem dX3_fits_6 : decode cX3_fits 6 = .ok (.iload_n 1, 1) := by decide +kernel
theorem dX3_fits_7 : decode cX3_fits 7 = .ok (.invokevirtual 130, 3) := by decide +kernel
theorem dX3_fits_10 : decode cX3_fits 10 = .ok (.ifCond .eq 23, 3) := by decide +kernel
theorem dX3_fits_13 : decode cX3_fits 13 = .ok (.aload_n 0, 1) := by decide +kernel
theorem dX3_fits_14 : decode cX3_fits 14 = .ok (.iload_n 1, 1) := by decide +kernel
theorem dX3_fits_15 : decode cX3_fits 15 = .ok (.invokevirtual 166, 3) := by decide +kernel
theorem dX3_fits_18 : decode cX3_fits 18 = .ok (.aload_n 0, 1) := by decide +kernel
theorem dX3_fits_19 : decode cX3_fits 19 = .ok (.iconst 2, 1) := by decide +kernel
theorem dX3_fits_20 : decode cX3_fits 20 = .ok (.invokevirtual 157, 3) := by decide +kernel
theorem dX3_fits_23 : decode cX3_fits 23 = .ok (.aload_n 0, 1) := by decide +kernel
theorem dX3_fits_24 : decode cX3_fits 24 = .ok (.iload_n 1, 1) := by decide +kernel
theorem dX3_fits_25 : decode cX3_fits 25 = .ok (.invokevirtual 54, 3) := by decide +kernel
theorem dX3_fits_28 : decode cX3_fits 28 = .ok (.imul, 1) := by decide +kernel
theorem dX3_fits_29 : decode cX3_fits 29 = .ok (.iadd, 1) := by decide +kernel
theorem dX3_fits_30 : decode cX3_fits 30 = .ok (.goto 8, 3) := by decide +kernel
theorem dX3_fits_33 : decode cX3_fits 33 = .ok (.aload_n 0, 1) := by decide +kernel
theorem dX3_fits_34 : decode cX3_fits 34 = .ok (.iconst 1, 1) := by decide +kernel
theorem dX3_fits_35 : decode cX3_fits 35 = .ok (.invokevirtual 127, 3) := by decide +kernel
theorem dX3_fits_38 : decode cX3_fits 38 = .ok (.ireturn, 1) := by decide +kernel
theorem dX3_wouldCome_0 : decode cX3_wouldCome 0 = .ok (.iconst 0, 1) := by decide +kernel
theorem dX3_wouldCome_1 : decode cX3_wouldCome 1 = .ok (.iload_n 2, 1) := by decide +kernel
theorem dX3_wouldCome_2 : decode cX3_wouldCome 2 = .ok (.aload_n 0, 1) := by decide +kernel
theorem dX3_wouldCome_3 : decode cX3_wouldCome 3 = .ok (.iload_n 1, 1) := by decide +kernel
theorem dX3_wouldCome_4 : decode cX3_wouldCome 4 = .ok (.invokevirtual 166, 3) := by decide +kernel
theorem dX3_wouldCome_7 : decode cX3_wouldCome 7 = .ok (.isub, 1) := by decide +kernel
theorem dX3_wouldCome_8 : decode cX3_wouldCome 8 = .ok (.invokestatic 169, 3) := by decide +kernel
theorem dX3_wouldCome_11 : decode cX3_wouldCome 11 = .ok (.istore_n 3, 1) := by decide +kernel
theorem dX3_wouldCome_12 : decode cX3_wouldCome 12 = .ok (.iload_n 3, 1) := by decide +kernel
theorem dX3_wouldCome_13 : decode cX3_wouldCome 13 = .ok (.aload_n 0, 1) := by decide +kernel
theorem dX3_wouldCome_14 : decode cX3_wouldCome 14 = .ok (.iload_n 1, 1) := by decide +kernel
theorem dX3_wouldCome_15 : decode cX3_wouldCome 15 = .ok (.invokevirtual 54, 3) := by decide +kernel
theorem dX3_wouldCome_18 : decode cX3_wouldCome 18 = .ok (.iadd, 1) := by decide +kernel
theorem dX3_wouldCome_19 : decode cX3_wouldCome 19 = .ok (.iconst 1, 1) := by decide +kernel
end
section
theorem dX3_wouldCome_20 : decode cX3_wouldCome 20 = .ok (.isub, 1) := by decide +kernel
theorem dX3_wouldCome_21 : decode cX3_wouldCome 21 = .ok (.aload_n 0, 1) := by decide +kernel
theorem dX3_wouldCome_22 : decode cX3_wouldCome 22 = .ok (.iload_n 1, 1) := by decide +kernel
theorem dX3_wouldCome_23 : decode cX3_wouldCome 23 = .ok (.invokevirtual 54, 3) := by decide +kernel
theorem dX3_wouldCome_26 : decode cX3_wouldCome 26 = .ok (.idiv, 1) := by decide +kernel
theorem dX3_wouldCome_27 : decode cX3_wouldCome 27 = .ok (.istore 4, 2) := by decide +kernel
theorem dX3_wouldCome_29 : decode cX3_wouldCome 29 = .ok (.iload 4, 2) := by decide +kernel
theorem dX3_wouldCome_31 : decode cX3_wouldCome 31 = .ok (.aload_n 0, 1) := by decide +kernel
theorem dX3_wouldCome_32 : decode cX3_wouldCome 32 = .ok (.iconst 2, 1) := by decide +kernel
theorem dX3_wouldCome_33 : decode cX3_wouldCome 33 = .ok (.invokevirtual 157, 3) := by decide +kernel
theorem dX3_wouldCome_36 : decode cX3_wouldCome 36 = .ok (.if_icmp .le 7, 3) := by decide +kernel
theorem dX3_wouldCome_39 : decode cX3_wouldCome 39 = .ok (.iconst (-1), 1) := by decide +kernel
theorem dX3_wouldCome_40 : decode cX3_wouldCome 40 = .ok (.goto 5, 3) := by decide +kernel
theorem dX3_wouldCome_43 : decode cX3_wouldCome 43 = .ok (.iload 4, 2) := by decide +kernel
theorem dX3_wouldCome_45 : decode cX3_wouldCome 45 = .ok (.ireturn, 1) := by decide +kernel
theorem dX3_would_0 : decode cX3_would 0 = .ok (.aload_n 0, 1) := by decide +kernel
theorem dX3_would_1 : decode cX3_would 1 = .ok (.iconst 0, 1) := by decide +kernel
theorem dX3_would_2 : decode cX3_would 2 = .ok (.putfield 34, 3) := by decide +kernel
theorem dX3_would_5 : decode cX3_would 5 = .ok (.aload_n 0, 1) := by decide +kernel
theorem dX3_would_6 : decode cX3_would 6 = .ok (.iload_n 1, 1) := by decide +kernel
theorem dX3_would_7 : decode cX3_would 7 = .ok (.invokevirtual 130, 3) := by decide +kernel
theorem dX3_would_10 : decode cX3_would 10 = .ok (.ifCond .ne 9, 3) := by decide +kernel
theorem dX3_would_13 : decode cX3_would 13 = .ok (.aload_n 0, 1) := by decide +kernel
theorem dX3_would_14 : decode cX3_would 14 = .ok (.iconst 1, 1) := by decide +kernel
theorem dX3_would_15 : decode cX3_would 15 = .ok (.invokevirtual 127, 3) := by decide +kernel
theorem dX3_would_18 : decode cX3_would 18 = .ok (.ireturn, 1) := by decide +kernel
theorem dX3_would_19 : decode cX3_would 19 = .ok (.iload_n 2, 1) := by decide +kernel
theorem dX3_would_20 : decode cX3_would 20 = .ok (.iconst 1, 1) := by decide +kernel
theorem dX3_would_21 : decode cX3_would 21 = .ok (.sipush 150, 3) := by decide +kernel
theorem dX3_would_24 : decode cX3_would 24 = .ok (.invokestatic 41, 3) := by decide +kernel
theorem dX3_would_27 : decode cX3_would 27 = .ok (.ifCond .eq 12, 3) := by decide +kernel
theorem dX3_would_30 : decode cX3_would 30 = .ok (.aload_n 0, 1) := by decide +kernel
theorem dX3_would_31 : decode cX3_would 31 = .ok (.iload_n 1, 1) := by decide +kernel
theorem dX3_would_32 : decode cX3_would 32 = .ok (.iload_n 2, 1) := by decide +kernel
theorem dX3_would_33 : decode cX3_would 33 = .ok (.invokevirtual 174, 3) := by decide +kernel
theorem dX3_would_36 : decode cX3_would 36 = .ok (.goto 8, 3) := by decide +kernel
theorem dX3_would_39 : decode cX3_would 39 = .ok (.aload_n 0, 1) := by decide +kernel
theorem dX3_would_40 : decode cX3_would 40 = .ok (.iconst 2, 1) := by decide +kernel
theorem dX3_would_41 : decode cX3_would 41 = .ok (.invokevirtual 127, 3) := by decide +kernel
theorem dX3_would_44 : decode cX3_would 44 = .ok (.ireturn, 1) := by decide +kernel
theorem dX3_gains_0 : decode cX3_gains 0 = .ok (.aload_n 0, 1) := by decide +kernel
theorem dX3_gains_1 : decode cX3_gains 1 = .ok (.iconst 0, 1) := by decide +kernel
theorem dX3_gains_2 : decode cX3_gains 2 = .ok (.putfield 34, 3) := by decide +kernel
theorem dX3_gains_5 : decode cX3_gains 5 = .ok (.aload_n 0, 1) := by decide +kernel
theorem dX3_gains_6 : decode cX3_gains 6 = .ok (.iload_n 1, 1) := by decide +kernel
theorem dX3_gains_7 : decode cX3_gains 7 = .ok (.invokevirtual 130, 3) := by decide +kernel
theorem dX3_gains_10 : decode cX3_gains 10 = .ok (.ifCond .eq 11, 3) := by decide +kernel
theorem dX3_gains_13 : decode cX3_gains 13 = .ok (.aload_n 0, 1) := by decide +kernel
theorem dX3_gains_14 : decode cX3_gains 14 = .ok (.iload_n 1, 1) := by decide +kernel
theorem dX3_gains_15 : decode cX3_gains 15 = .ok (.invokevirtual 177, 3) := by decide +kernel
theorem dX3_gains_18 : decode cX3_gains 18 = .ok (.goto 8, 3) := by decide +kernel
theorem dX3_gains_21 : decode cX3_gains 21 = .ok (.aload_n 0, 1) := by decide +kernel
theorem dX3_gains_22 : decode cX3_gains 22 = .ok (.iconst 1, 1) := by decide +kernel
theorem dX3_gains_23 : decode cX3_gains 23 = .ok (.invokevirtual 127, 3) := by decide +kernel
theorem dX3_gains_26 : decode cX3_gains 26 = .ok (.ireturn, 1) := by decide +kernel
theorem dX3_advise_0 : decode cX3_advise 0 = .ok (.aload_n 0, 1) := by decide +kernel
theorem dX3_advise_1 : decode cX3_advise 1 = .ok (.iconst 0, 1) := by decide +kernel
theorem dX3_advise_2 : decode cX3_advise 2 = .ok (.putfield 34, 3) := by decide +kernel
theorem dX3_advise_5 : decode cX3_advise 5 = .ok (.iconst (-1), 1) := by decide +kernel
theorem dX3_advise_6 : decode cX3_advise 6 = .ok (.istore_n 1, 1) := by decide +kernel
theorem dX3_advise_7 : decode cX3_advise 7 = .ok (.iconst 0, 1) := by decide +kernel
theorem dX3_advise_8 : decode cX3_advise 8 = .ok (.istore_n 2, 1) := by decide +kernel
theorem dX3_advise_9 : decode cX3_advise 9 = .ok (.iload_n 2, 1) := by decide +kernel
theorem dX3_advise_10 : decode cX3_advise 10 = .ok (.aload_n 0, 1) := by decide +kernel
theorem dX3_advise_11 : decode cX3_advise 11 = .ok (.getfield 38, 3) := by decide +kernel
theorem dX3_advise_14 : decode cX3_advise 14 = .ok (.if_icmp .ge 29, 3) := by decide +kernel
theorem dX3_advise_17 : decode cX3_advise 17 = .ok (.iload_n 1, 1) := by decide +kernel
theorem dX3_advise_18 : decode cX3_advise 18 = .ok (.iconst (-1), 1) := by decide +kernel
theorem dX3_advise_19 : decode cX3_advise 19 = .ok (.if_icmp .eq 16, 3) := by decide +kernel
theorem dX3_advise_22 : decode cX3_advise 22 = .ok (.aload_n 0, 1) := by decide +kernel
theorem dX3_advise_23 : decode cX3_advise 23 = .ok (.iload_n 2, 1) := by decide +kernel
theorem dX3_advise_24 : decode cX3_advise 24 = .ok (.invokevirtual 177, 3) := by decide +kernel
theorem dX3_advise_27 : decode cX3_advise 27 = .ok (.aload_n 0, 1) := by decide +kernel
theorem dX3_advise_28 : decode cX3_advise 28 = .ok (.iload_n 1, 1) := by decide +kernel
theorem dX3_advise_29 : decode cX3_advise 29 = .ok (.invokevirtual 177, 3) := by decide +kernel
theorem dX3_advise_32 : decode cX3_advise 32 = .ok (.if_icmp .le 5, 3) := by decide +kernel
theorem dX3_advise_35 : decode cX3_advise 35 = .ok (.iload_n 2, 1) := by decide +kernel
theorem dX3_advise_36 : decode cX3_advise 36 = .ok (.istore_n 1, 1) := by decide +kernel
theorem dX3_advise_37 : decode cX3_advise 37 = .ok (.iinc 2 1, 3) := by decide +kernel
theorem dX3_advise_40 : decode cX3_advise 40 = .ok (.goto (-31), 3) := by decide +kernel
theorem dX3_advise_43 : decode cX3_advise 43 = .ok (.iload_n 1, 1) := by decide +kernel
theorem dX3_advise_44 : decode cX3_advise 44 = .ok (.ireturn, 1) := by decide +kernel
theorem dX3_mean_0 : decode cX3_mean 0 = .ok (.aload_n 0, 1) := by decide +kernel
theorem dX3_mean_1 : decode cX3_mean 1 = .ok (.iconst 0, 1) := by decide +kernel
theorem dX3_mean_2 : decode cX3_mean 2 = .ok (.putfield 34, 3) := by decide +kernel
theorem dX3_mean_5 : decode cX3_mean 5 = .ok (.bipush 12, 2) := by decide +kernel
theorem dX3_mean_7 : decode cX3_mean 7 = .ok (.aload_n 0, 1) := by decide +kernel
theorem dX3_mean_8 : decode cX3_mean 8 = .ok (.iconst 2, 1) := by decide +kernel
theorem dX3_mean_9 : decode cX3_mean 9 = .ok (.invokevirtual 157, 3) := by decide +kernel
theorem dX3_mean_12 : decode cX3_mean 12 = .ok (.isub, 1) := by decide +kernel
theorem dX3_mean_13 : decode cX3_mean 13 = .ok (.istore_n 1, 1) := by decide +kernel
theorem dX3_mean_14 : decode cX3_mean 14 = .ok (.iload_n 1, 1) := by decide +kernel
theorem dX3_mean_15 : decode cX3_mean 15 = .ok (.ifCond .ne 7, 3) := by decide +kernel
theorem dX3_mean_18 : decode cX3_mean 18 = .ok (.dconst 0, 1) := by decide +kernel
theorem dX3_mean_19 : decode cX3_mean 19 = .ok (.goto 12, 3) := by decide +kernel
theorem dX3_mean_22 : decode cX3_mean 22 = .ok (.aload_n 0, 1) := by decide +kernel
theorem dX3_mean_23 : decode cX3_mean 23 = .ok (.iconst 3, 1) := by decide +kernel
theorem dX3_mean_24 : decode cX3_mean 24 = .ok (.invokevirtual 157, 3) := by decide +kernel
theorem dX3_mean_27 : decode cX3_mean 27 = .ok (.i2d, 1) := by decide +kernel
theorem dX3_mean_28 : decode cX3_mean 28 = .ok (.iload_n 1, 1) := by decide +kernel
theorem dX3_mean_29 : decode cX3_mean 29 = .ok (.i2d, 1) := by decide +kernel
theorem dX3_mean_30 : decode cX3_mean 30 = .ok (.ddiv, 1) := by decide +kernel
theorem dX3_mean_31 : decode cX3_mean 31 = .ok (.dreturn, 1) := by decide +kernel
theorem dX3_digest_0 : decode cX3_digest 0 = .ok (.aload_n 0, 1) := by decide +kernel
theorem dX3_digest_1 : decode cX3_digest 1 = .ok (.iconst 0, 1) := by decide +kernel
theorem dX3_digest_2 : decode cX3_digest 2 = .ok (.putfield 34, 3) := by decide +kernel
theorem dX3_digest_5 : decode cX3_digest 5 = .ok (.ldc2_w 180, 3) := by decide +kernel
theorem dX3_digest_8 : decode cX3_digest 8 = .ok (.lstore_n 1, 1) := by decide +kernel
theorem dX3_digest_9 : decode cX3_digest 9 = .ok (.iconst 0, 1) := by decide +kernel
theorem dX3_digest_10 : decode cX3_digest 10 = .ok (.istore_n 3, 1) := by decide +kernel
theorem dX3_digest_11 : decode cX3_digest 11 = .ok (.iload_n 3, 1) := by decide +kernel
theorem dX3_digest_12 : decode cX3_digest 12 = .ok (.bipush 9, 2) := by decide +kernel
theorem dX3_digest_14 : decode cX3_digest 14 = .ok (.if_icmp .gt 22, 3) := by decide +kernel
theorem dX3_digest_17 : decode cX3_digest 17 = .ok (.lload_n 1, 1) := by decide +kernel
theorem dX3_digest_18 : decode cX3_digest 18 = .ok (.ldc2_w 182, 3) := by decide +kernel
theorem dX3_digest_21 : decode cX3_digest 21 = .ok (.lmul, 1) := by decide +kernel
theorem dX3_digest_22 : decode cX3_digest 22 = .ok (.aload_n 0, 1) := by decide +kernel
theorem dX3_digest_23 : decode cX3_digest 23 = .ok (.iload_n 3, 1) := by decide +kernel
theorem dX3_digest_24 : decode cX3_digest 24 = .ok (.invokevirtual 160, 3) := by decide +kernel
theorem dX3_digest_27 : decode cX3_digest 27 = .ok (.i2l, 1) := by decide +kernel
theorem dX3_digest_28 : decode cX3_digest 28 = .ok (.ladd, 1) := by decide +kernel
theorem dX3_digest_29 : decode cX3_digest 29 = .ok (.lstore_n 1, 1) := by decide +kernel
theorem dX3_digest_30 : decode cX3_digest 30 = .ok (.iinc 3 1, 3) := by decide +kernel
theorem dX3_digest_33 : decode cX3_digest 33 = .ok (.goto (-22), 3) := by decide +kernel
theorem dX3_digest_36 : decode cX3_digest 36 = .ok (.iconst 0, 1) := by decide +kernel
theorem dX3_digest_37 : decode cX3_digest 37 = .ok (.istore_n 3, 1) := by decide +kernel
theorem dX3_digest_38 : decode cX3_digest 38 = .ok (.iload_n 3, 1) := by decide +kernel
theorem dX3_digest_39 : decode cX3_digest 39 = .ok (.bipush 12, 2) := by decide +kernel
theorem dX3_digest_41 : decode cX3_digest 41 = .ok (.if_icmp .ge 78, 3) := by decide +kernel
theorem dX3_digest_44 : decode cX3_digest 44 = .ok (.iconst 0, 1) := by decide +kernel
theorem dX3_digest_45 : decode cX3_digest 45 = .ok (.istore 4, 2) := by decide +kernel
theorem dX3_digest_47 : decode cX3_digest 47 = .ok (.iload 4, 2) := by decide +kernel
theorem dX3_digest_49 : decode cX3_digest 49 = .ok (.iconst 5, 1) := by decide +kernel
theorem dX3_digest_50 : decode cX3_digest 50 = .ok (.if_icmp .gt 24, 3) := by decide +kernel
theorem dX3_digest_53 : decode cX3_digest 53 = .ok (.lload_n 1, 1) := by decide +kernel
theorem dX3_digest_54 : decode cX3_digest 54 = .ok (.ldc2_w 182, 3) := by decide +kernel
theorem dX3_digest_57 : decode cX3_digest 57 = .ok (.lmul, 1) := by decide +kernel
theorem dX3_digest_58 : decode cX3_digest 58 = .ok (.aload_n 0, 1) := by decide +kernel
theorem dX3_digest_59 : decode cX3_digest 59 = .ok (.iload_n 3, 1) := by decide +kernel
theorem dX3_digest_60 : decode cX3_digest 60 = .ok (.iload 4, 2) := by decide +kernel
theorem dX3_digest_62 : decode cX3_digest 62 = .ok (.invokevirtual 145, 3) := by decide +kernel
theorem dX3_digest_65 : decode cX3_digest 65 = .ok (.i2l, 1) := by decide +kernel
theorem dX3_digest_66 : decode cX3_digest 66 = .ok (.ladd, 1) := by decide +kernel
theorem dX3_digest_67 : decode cX3_digest 67 = .ok (.lstore_n 1, 1) := by decide +kernel
theorem dX3_digest_68 : decode cX3_digest 68 = .ok (.iinc 4 1, 3) := by decide +kernel
theorem dX3_digest_71 : decode cX3_digest 71 = .ok (.goto (-24), 3) := by decide +kernel
theorem dX3_digest_74 : decode cX3_digest 74 = .ok (.iconst 0, 1) := by decide +kernel
theorem dX3_digest_75 : decode cX3_digest 75 = .ok (.istore 4, 2) := by decide +kernel
theorem dX3_digest_77 : decode cX3_digest 77 = .ok (.iload 4, 2) := by decide +kernel
theorem dX3_digest_79 : decode cX3_digest 79 = .ok (.aload_n 0, 1) := by decide +kernel
theorem dX3_digest_80 : decode cX3_digest 80 = .ok (.iload_n 3, 1) := by decide +kernel
theorem dX3_digest_81 : decode cX3_digest 81 = .ok (.iconst 3, 1) := by decide +kernel
theorem dX3_digest_82 : decode cX3_digest 82 = .ok (.invokevirtual 145, 3) := by decide +kernel
theorem dX3_digest_85 : decode cX3_digest 85 = .ok (.if_icmp .ge 28, 3) := by decide +kernel
theorem dX3_digest_88 : decode cX3_digest 88 = .ok (.lload_n 1, 1) := by decide +kernel
theorem dX3_digest_89 : decode cX3_digest 89 = .ok (.ldc2_w 182, 3) := by decide +kernel
theorem dX3_digest_92 : decode cX3_digest 92 = .ok (.lmul, 1) := by decide +kernel
theorem dX3_digest_93 : decode cX3_digest 93 = .ok (.aload_n 0, 1) := by decide +kernel
theorem dX3_digest_94 : decode cX3_digest 94 = .ok (.getfield 22, 3) := by decide +kernel
theorem dX3_digest_97 : decode cX3_digest 97 = .ok (.iload_n 3, 1) := by decide +kernel
theorem dX3_digest_98 : decode cX3_digest 98 = .ok (.iaload, 1) := by decide +kernel
theorem dX3_digest_99 : decode cX3_digest 99 = .ok (.iload 4, 2) := by decide +kernel
theorem dX3_digest_101 : decode cX3_digest 101 = .ok (.ishr, 1) := by decide +kernel
theorem dX3_digest_102 : decode cX3_digest 102 = .ok (.iconst 1, 1) := by decide +kernel
theorem dX3_digest_103 : decode cX3_digest 103 = .ok (.iand, 1) := by decide +kernel
theorem dX3_digest_104 : decode cX3_digest 104 = .ok (.i2l, 1) := by decide +kernel
theorem dX3_digest_105 : decode cX3_digest 105 = .ok (.ladd, 1) := by decide +kernel
theorem dX3_digest_106 : decode cX3_digest 106 = .ok (.lstore_n 1, 1) := by decide +kernel
theorem dX3_digest_107 : decode cX3_digest 107 = .ok (.iinc 4 1, 3) := by decide +kernel
theorem dX3_digest_110 : decode cX3_digest 110 = .ok (.goto (-33), 3) := by decide +kernel
theorem dX3_digest_113 : decode cX3_digest 113 = .ok (.iinc 3 1, 3) := by decide +kernel
theorem dX3_digest_116 : decode cX3_digest 116 = .ok (.goto (-78), 3) := by decide +kernel
theorem dX3_digest_119 : decode cX3_digest 119 = .ok (.iconst 0, 1) := by decide +kernel
theorem dX3_digest_120 : decode cX3_digest 120 = .ok (.istore_n 3, 1) := by decide +kernel
theorem dX3_digest_121 : decode cX3_digest 121 = .ok (.iload_n 3, 1) := by decide +kernel
theorem dX3_digest_122 : decode cX3_digest 122 = .ok (.aload_n 0, 1) := by decide +kernel
theorem dX3_digest_123 : decode cX3_digest 123 = .ok (.getfield 38, 3) := by decide +kernel
theorem dX3_digest_126 : decode cX3_digest 126 = .ok (.if_icmp .ge 53, 3) := by decide +kernel
theorem dX3_digest_129 : decode cX3_digest 129 = .ok (.iconst 0, 1) := by decide +kernel
theorem dX3_digest_130 : decode cX3_digest 130 = .ok (.istore 4, 2) := by decide +kernel
theorem dX3_digest_132 : decode cX3_digest 132 = .ok (.iload 4, 2) := by decide +kernel
theorem dX3_digest_134 : decode cX3_digest 134 = .ok (.bipush 8, 2) := by decide +kernel
theorem dX3_digest_136 : decode cX3_digest 136 = .ok (.if_icmp .gt 24, 3) := by decide +kernel
theorem dX3_digest_139 : decode cX3_digest 139 = .ok (.lload_n 1, 1) := by decide +kernel
theorem dX3_digest_140 : decode cX3_digest 140 = .ok (.ldc2_w 182, 3) := by decide +kernel
theorem dX3_digest_143 : decode cX3_digest 143 = .ok (.lmul, 1) := by decide +kernel
theorem dX3_digest_144 : decode cX3_digest 144 = .ok (.aload_n 0, 1) := by decide +kernel
theorem dX3_digest_145 : decode cX3_digest 145 = .ok (.iload_n 3, 1) := by decide +kernel
theorem dX3_digest_146 : decode cX3_digest 146 = .ok (.iload 4, 2) := by decide +kernel
theorem dX3_digest_148 : decode cX3_digest 148 = .ok (.invokevirtual 151, 3) := by decide +kernel
theorem dX3_digest_151 : decode cX3_digest 151 = .ok (.i2l, 1) := by decide +kernel
theorem dX3_digest_152 : decode cX3_digest 152 = .ok (.ladd, 1) := by decide +kernel
theorem dX3_digest_153 : decode cX3_digest 153 = .ok (.lstore_n 1, 1) := by decide +kernel
theorem dX3_digest_154 : decode cX3_digest 154 = .ok (.iinc 4 1, 3) := by decide +kernel
theorem dX3_digest_157 : decode cX3_digest 157 = .ok (.goto (-25), 3) := by decide +kernel
theorem dX3_digest_160 : decode cX3_digest 160 = .ok (.lload_n 1, 1) := by decide +kernel
theorem dX3_digest_161 : decode cX3_digest 161 = .ok (.ldc2_w 182, 3) := by decide +kernel
theorem dX3_digest_164 : decode cX3_digest 164 = .ok (.lmul, 1) := by decide +kernel
theorem dX3_digest_165 : decode cX3_digest 165 = .ok (.aload_n 0, 1) := by decide +kernel
theorem dX3_digest_166 : decode cX3_digest 166 = .ok (.iload_n 3, 1) := by decide +kernel
theorem dX3_digest_167 : decode cX3_digest 167 = .ok (.invokevirtual 163, 3) := by decide +kernel
theorem dX3_digest_170 : decode cX3_digest 170 = .ok (.i2l, 1) := by decide +kernel
theorem dX3_digest_171 : decode cX3_digest 171 = .ok (.ladd, 1) := by decide +kernel
theorem dX3_digest_172 : decode cX3_digest 172 = .ok (.lstore_n 1, 1) := by decide +kernel
theorem dX3_digest_173 : decode cX3_digest 173 = .ok (.iinc 3 1, 3) := by decide +kernel
theorem dX3_digest_176 : decode cX3_digest 176 = .ok (.goto (-55), 3) := by decide +kernel
theorem dX3_digest_179 : decode cX3_digest 179 = .ok (.lload_n 1, 1) := by decide +kernel
theorem dX3_digest_180 : decode cX3_digest 180 = .ok (.lreturn, 1) := by decide +kernel
theorem dJ6_highestOneBit_0f7a4_0 : decode cJ6_highestOneBit_0f7a4 0 = .ok (.iload_n 0, 1) := by decide +kernel
theorem dJ6_highestOneBit_0f7a4_1 : decode cJ6_highestOneBit_0f7a4 1 = .ok (.ldc 127, 2) := by decide +kernel
theorem dJ6_highestOneBit_0f7a4_3 : decode cJ6_highestOneBit_0f7a4 3 = .ok (.iload_n 0, 1) := by decide +kernel
theorem dJ6_highestOneBit_0f7a4_4 : decode cJ6_highestOneBit_0f7a4 4 = .ok (.invokestatic 51, 3) := by decide +kernel
theorem dJ6_highestOneBit_0f7a4_7 : decode cJ6_highestOneBit_0f7a4 7 = .ok (.iushr, 1) := by decide +kernel
theorem dJ6_highestOneBit_0f7a4_8 : decode cJ6_highestOneBit_0f7a4 8 = .ok (.iand, 1) := by decide +kernel
theorem dJ6_highestOneBit_0f7a4_9 : decode cJ6_highestOneBit_0f7a4 9 = .ok (.ireturn, 1) := by decide +kernel
theorem dJ6_numberOfLeadingZeros_0f7a4_0 : decode cJ6_numberOfLeadingZeros_0f7a4 0 = .ok (.iload_n 0, 1) := by decide +kernel
theorem dJ6_numberOfLeadingZeros_0f7a4_1 : decode cJ6_numberOfLeadingZeros_0f7a4 1 = .ok (.ifCond .gt 14, 3) := by decide +kernel
theorem dJ6_numberOfLeadingZeros_0f7a4_4 : decode cJ6_numberOfLeadingZeros_0f7a4 4 = .ok (.iload_n 0, 1) := by decide +kernel
theorem dJ6_numberOfLeadingZeros_0f7a4_5 : decode cJ6_numberOfLeadingZeros_0f7a4 5 = .ok (.ifCond .ne 8, 3) := by decide +kernel
theorem dJ6_numberOfLeadingZeros_0f7a4_8 : decode cJ6_numberOfLeadingZeros_0f7a4 8 = .ok (.bipush 32, 2) := by decide +kernel
theorem dJ6_numberOfLeadingZeros_0f7a4_10 : decode cJ6_numberOfLeadingZeros_0f7a4 10 = .ok (.goto 4, 3) := by decide +kernel
theorem dJ6_numberOfLeadingZeros_0f7a4_13 : decode cJ6_numberOfLeadingZeros_0f7a4 13 = .ok (.iconst 0, 1) := by decide +kernel
theorem dJ6_numberOfLeadingZeros_0f7a4_14 : decode cJ6_numberOfLeadingZeros_0f7a4 14 = .ok (.ireturn, 1) := by decide +kernel
theorem dJ6_numberOfLeadingZeros_0f7a4_15 : decode cJ6_numberOfLeadingZeros_0f7a4 15 = .ok (.bipush 31, 2) := by decide +kernel
theorem dJ6_numberOfLeadingZeros_0f7a4_17 : decode cJ6_numberOfLeadingZeros_0f7a4 17 = .ok (.istore_n 1, 1) := by decide +kernel
theorem dJ6_numberOfLeadingZeros_0f7a4_18 : decode cJ6_numberOfLeadingZeros_0f7a4 18 = .ok (.iload_n 0, 1) := by decide +kernel
theorem dJ6_numberOfLeadingZeros_0f7a4_19 : decode cJ6_numberOfLeadingZeros_0f7a4 19 = .ok (.ldc_w 264, 3) := by decide +kernel
theorem dJ6_numberOfLeadingZeros_0f7a4_22 : decode cJ6_numberOfLeadingZeros_0f7a4 22 = .ok (.if_icmp .lt 11, 3) := by decide +kernel
theorem dJ6_numberOfLeadingZeros_0f7a4_25 : decode cJ6_numberOfLeadingZeros_0f7a4 25 = .ok (.iinc 1 (-16), 3) := by decide +kernel
theorem dJ6_numberOfLeadingZeros_0f7a4_28 : decode cJ6_numberOfLeadingZeros_0f7a4 28 = .ok (.iload_n 0, 1) := by decide +kernel
theorem dJ6_numberOfLeadingZeros_0f7a4_29 : decode cJ6_numberOfLeadingZeros_0f7a4 29 = .ok (.bipush 16, 2) := by decide +kernel
theorem dJ6_numberOfLeadingZeros_0f7a4_31 : decode cJ6_numberOfLeadingZeros_0f7a4 31 = .ok (.iushr, 1) := by decide +kernel
theorem dJ6_numberOfLeadingZeros_0f7a4_32 : decode cJ6_numberOfLeadingZeros_0f7a4 32 = .ok (.istore_n 0, 1) := by decide +kernel
theorem dJ6_numberOfLeadingZeros_0f7a4_33 : decode cJ6_numberOfLeadingZeros_0f7a4 33 = .ok (.iload_n 0, 1) := by decide +kernel
theorem dJ6_numberOfLeadingZeros_0f7a4_34 : decode cJ6_numberOfLeadingZeros_0f7a4 34 = .ok (.sipush 256, 3) := by decide +kernel
theorem dJ6_numberOfLeadingZeros_0f7a4_37 : decode cJ6_numberOfLeadingZeros_0f7a4 37 = .ok (.if_icmp .lt 11, 3) := by decide +kernel
theorem dJ6_numberOfLeadingZeros_0f7a4_40 : decode cJ6_numberOfLeadingZeros_0f7a4 40 = .ok (.iinc 1 (-8), 3) := by decide +kernel
theorem dJ6_numberOfLeadingZeros_0f7a4_43 : decode cJ6_numberOfLeadingZeros_0f7a4 43 = .ok (.iload_n 0, 1) := by decide +kernel
theorem dJ6_numberOfLeadingZeros_0f7a4_44 : decode cJ6_numberOfLeadingZeros_0f7a4 44 = .ok (.bipush 8, 2) := by decide +kernel
theorem dJ6_numberOfLeadingZeros_0f7a4_46 : decode cJ6_numberOfLeadingZeros_0f7a4 46 = .ok (.iushr, 1) := by decide +kernel
theorem dJ6_numberOfLeadingZeros_0f7a4_47 : decode cJ6_numberOfLeadingZeros_0f7a4 47 = .ok (.istore_n 0, 1) := by decide +kernel
theorem dJ6_numberOfLeadingZeros_0f7a4_48 : decode cJ6_numberOfLeadingZeros_0f7a4 48 = .ok (.iload_n 0, 1) := by decide +kernel
theorem dJ6_numberOfLeadingZeros_0f7a4_49 : decode cJ6_numberOfLeadingZeros_0f7a4 49 = .ok (.bipush 16, 2) := by decide +kernel
theorem dJ6_numberOfLeadingZeros_0f7a4_51 : decode cJ6_numberOfLeadingZeros_0f7a4 51 = .ok (.if_icmp .lt 10, 3) := by decide +kernel
theorem dJ6_numberOfLeadingZeros_0f7a4_54 : decode cJ6_numberOfLeadingZeros_0f7a4 54 = .ok (.iinc 1 (-4), 3) := by decide +kernel
theorem dJ6_numberOfLeadingZeros_0f7a4_57 : decode cJ6_numberOfLeadingZeros_0f7a4 57 = .ok (.iload_n 0, 1) := by decide +kernel
theorem dJ6_numberOfLeadingZeros_0f7a4_58 : decode cJ6_numberOfLeadingZeros_0f7a4 58 = .ok (.iconst 4, 1) := by decide +kernel
theorem dJ6_numberOfLeadingZeros_0f7a4_59 : decode cJ6_numberOfLeadingZeros_0f7a4 59 = .ok (.iushr, 1) := by decide +kernel
theorem dJ6_numberOfLeadingZeros_0f7a4_60 : decode cJ6_numberOfLeadingZeros_0f7a4 60 = .ok (.istore_n 0, 1) := by decide +kernel
theorem dJ6_numberOfLeadingZeros_0f7a4_61 : decode cJ6_numberOfLeadingZeros_0f7a4 61 = .ok (.iload_n 0, 1) := by decide +kernel
theorem dJ6_numberOfLeadingZeros_0f7a4_62 : decode cJ6_numberOfLeadingZeros_0f7a4 62 = .ok (.iconst 4, 1) := by decide +kernel
theorem dJ6_numberOfLeadingZeros_0f7a4_63 : decode cJ6_numberOfLeadingZeros_0f7a4 63 = .ok (.if_icmp .lt 10, 3) := by decide +kernel
theorem dJ6_numberOfLeadingZeros_0f7a4_66 : decode cJ6_numberOfLeadingZeros_0f7a4 66 = .ok (.iinc 1 (-2), 3) := by decide +kernel
theorem dJ6_numberOfLeadingZeros_0f7a4_69 : decode cJ6_numberOfLeadingZeros_0f7a4 69 = .ok (.iload_n 0, 1) := by decide +kernel
theorem dJ6_numberOfLeadingZeros_0f7a4_70 : decode cJ6_numberOfLeadingZeros_0f7a4 70 = .ok (.iconst 2, 1) := by decide +kernel
theorem dJ6_numberOfLeadingZeros_0f7a4_71 : decode cJ6_numberOfLeadingZeros_0f7a4 71 = .ok (.iushr, 1) := by decide +kernel
theorem dJ6_numberOfLeadingZeros_0f7a4_72 : decode cJ6_numberOfLeadingZeros_0f7a4 72 = .ok (.istore_n 0, 1) := by decide +kernel
theorem dJ6_numberOfLeadingZeros_0f7a4_73 : decode cJ6_numberOfLeadingZeros_0f7a4 73 = .ok (.iload_n 1, 1) := by decide +kernel
theorem dJ6_numberOfLeadingZeros_0f7a4_74 : decode cJ6_numberOfLeadingZeros_0f7a4 74 = .ok (.iload_n 0, 1) := by decide +kernel
theorem dJ6_numberOfLeadingZeros_0f7a4_75 : decode cJ6_numberOfLeadingZeros_0f7a4 75 = .ok (.iconst 1, 1) := by decide +kernel
theorem dJ6_numberOfLeadingZeros_0f7a4_76 : decode cJ6_numberOfLeadingZeros_0f7a4 76 = .ok (.iushr, 1) := by decide +kernel
theorem dJ6_numberOfLeadingZeros_0f7a4_77 : decode cJ6_numberOfLeadingZeros_0f7a4 77 = .ok (.isub, 1) := by decide +kernel
theorem dJ6_numberOfLeadingZeros_0f7a4_78 : decode cJ6_numberOfLeadingZeros_0f7a4 78 = .ok (.ireturn, 1) := by decide +kernel
theorem dJ6_bitCount_0f7a4_0 : decode cJ6_bitCount_0f7a4 0 = .ok (.iload_n 0, 1) := by decide +kernel
theorem dJ6_bitCount_0f7a4_1 : decode cJ6_bitCount_0f7a4 1 = .ok (.iload_n 0, 1) := by decide +kernel
theorem dJ6_bitCount_0f7a4_2 : decode cJ6_bitCount_0f7a4 2 = .ok (.iconst 1, 1) := by decide +kernel
theorem dJ6_bitCount_0f7a4_3 : decode cJ6_bitCount_0f7a4 3 = .ok (.iushr, 1) := by decide +kernel
theorem dJ6_bitCount_0f7a4_4 : decode cJ6_bitCount_0f7a4 4 = .ok (.ldc_w 265, 3) := by decide +kernel
theorem dJ6_bitCount_0f7a4_7 : decode cJ6_bitCount_0f7a4 7 = .ok (.iand, 1) := by decide +kernel
theorem dJ6_bitCount_0f7a4_8 : decode cJ6_bitCount_0f7a4 8 = .ok (.isub, 1) := by decide +kernel
theorem dJ6_bitCount_0f7a4_9 : decode cJ6_bitCount_0f7a4 9 = .ok (.istore_n 0, 1) := by decide +kernel
theorem dJ6_bitCount_0f7a4_10 : decode cJ6_bitCount_0f7a4 10 = .ok (.iload_n 0, 1) := by decide +kernel
theorem dJ6_bitCount_0f7a4_11 : decode cJ6_bitCount_0f7a4 11 = .ok (.ldc_w 266, 3) := by decide +kernel
theorem dJ6_bitCount_0f7a4_14 : decode cJ6_bitCount_0f7a4 14 = .ok (.iand, 1) := by decide +kernel
theorem dJ6_bitCount_0f7a4_15 : decode cJ6_bitCount_0f7a4 15 = .ok (.iload_n 0, 1) := by decide +kernel
theorem dJ6_bitCount_0f7a4_16 : decode cJ6_bitCount_0f7a4 16 = .ok (.iconst 2, 1) := by decide +kernel
theorem dJ6_bitCount_0f7a4_17 : decode cJ6_bitCount_0f7a4 17 = .ok (.iushr, 1) := by decide +kernel
theorem dJ6_bitCount_0f7a4_18 : decode cJ6_bitCount_0f7a4 18 = .ok (.ldc_w 266, 3) := by decide +kernel
theorem dJ6_bitCount_0f7a4_21 : decode cJ6_bitCount_0f7a4 21 = .ok (.iand, 1) := by decide +kernel
theorem dJ6_bitCount_0f7a4_22 : decode cJ6_bitCount_0f7a4 22 = .ok (.iadd, 1) := by decide +kernel
theorem dJ6_bitCount_0f7a4_23 : decode cJ6_bitCount_0f7a4 23 = .ok (.istore_n 0, 1) := by decide +kernel
theorem dJ6_bitCount_0f7a4_24 : decode cJ6_bitCount_0f7a4 24 = .ok (.iload_n 0, 1) := by decide +kernel
theorem dJ6_bitCount_0f7a4_25 : decode cJ6_bitCount_0f7a4 25 = .ok (.iload_n 0, 1) := by decide +kernel
theorem dJ6_bitCount_0f7a4_26 : decode cJ6_bitCount_0f7a4 26 = .ok (.iconst 4, 1) := by decide +kernel
theorem dJ6_bitCount_0f7a4_27 : decode cJ6_bitCount_0f7a4 27 = .ok (.iushr, 1) := by decide +kernel
theorem dJ6_bitCount_0f7a4_28 : decode cJ6_bitCount_0f7a4 28 = .ok (.iadd, 1) := by decide +kernel
theorem dJ6_bitCount_0f7a4_29 : decode cJ6_bitCount_0f7a4 29 = .ok (.ldc_w 267, 3) := by decide +kernel
theorem dJ6_bitCount_0f7a4_32 : decode cJ6_bitCount_0f7a4 32 = .ok (.iand, 1) := by decide +kernel
theorem dJ6_bitCount_0f7a4_33 : decode cJ6_bitCount_0f7a4 33 = .ok (.istore_n 0, 1) := by decide +kernel
theorem dJ6_bitCount_0f7a4_34 : decode cJ6_bitCount_0f7a4 34 = .ok (.iload_n 0, 1) := by decide +kernel
theorem dJ6_bitCount_0f7a4_35 : decode cJ6_bitCount_0f7a4 35 = .ok (.iload_n 0, 1) := by decide +kernel
theorem dJ6_bitCount_0f7a4_36 : decode cJ6_bitCount_0f7a4 36 = .ok (.bipush 8, 2) := by decide +kernel
theorem dJ6_bitCount_0f7a4_38 : decode cJ6_bitCount_0f7a4 38 = .ok (.iushr, 1) := by decide +kernel
theorem dJ6_bitCount_0f7a4_39 : decode cJ6_bitCount_0f7a4 39 = .ok (.iadd, 1) := by decide +kernel
theorem dJ6_bitCount_0f7a4_40 : decode cJ6_bitCount_0f7a4 40 = .ok (.istore_n 0, 1) := by decide +kernel
theorem dJ6_bitCount_0f7a4_41 : decode cJ6_bitCount_0f7a4 41 = .ok (.iload_n 0, 1) := by decide +kernel
theorem dJ6_bitCount_0f7a4_42 : decode cJ6_bitCount_0f7a4 42 = .ok (.iload_n 0, 1) := by decide +kernel
theorem dJ6_bitCount_0f7a4_43 : decode cJ6_bitCount_0f7a4 43 = .ok (.bipush 16, 2) := by decide +kernel
theorem dJ6_bitCount_0f7a4_45 : decode cJ6_bitCount_0f7a4 45 = .ok (.iushr, 1) := by decide +kernel
theorem dJ6_bitCount_0f7a4_46 : decode cJ6_bitCount_0f7a4 46 = .ok (.iadd, 1) := by decide +kernel
theorem dJ6_bitCount_0f7a4_47 : decode cJ6_bitCount_0f7a4 47 = .ok (.istore_n 0, 1) := by decide +kernel
theorem dJ6_bitCount_0f7a4_48 : decode cJ6_bitCount_0f7a4 48 = .ok (.iload_n 0, 1) := by decide +kernel
theorem dJ6_bitCount_0f7a4_49 : decode cJ6_bitCount_0f7a4 49 = .ok (.bipush 63, 2) := by decide +kernel
theorem dJ6_bitCount_0f7a4_51 : decode cJ6_bitCount_0f7a4 51 = .ok (.iand, 1) := by decide +kernel
theorem dJ6_bitCount_0f7a4_52 : decode cJ6_bitCount_0f7a4 52 = .ok (.ireturn, 1) := by decide +kernel
theorem dJ9_max_7cf53_0 : decode cJ9_max_7cf53 0 = .ok (.iload_n 0, 1) := by decide +kernel
theorem dJ9_max_7cf53_1 : decode cJ9_max_7cf53 1 = .ok (.iload_n 1, 1) := by decide +kernel
theorem dJ9_max_7cf53_2 : decode cJ9_max_7cf53 2 = .ok (.if_icmp .lt 7, 3) := by decide +kernel
theorem dJ9_max_7cf53_5 : decode cJ9_max_7cf53 5 = .ok (.iload_n 0, 1) := by decide +kernel
theorem dJ9_max_7cf53_6 : decode cJ9_max_7cf53 6 = .ok (.goto 4, 3) := by decide +kernel
theorem dJ9_max_7cf53_9 : decode cJ9_max_7cf53 9 = .ok (.iload_n 1, 1) := by decide +kernel
theorem dJ9_max_7cf53_10 : decode cJ9_max_7cf53 10 = .ok (.ireturn, 1) := by decide +kernel
theorem dL_kind_0 : decode cL_kind 0 = .ok (.aload_n 2, 1) := by decide +kernel
theorem dL_kind_1 : decode cL_kind 1 = .ok (.iconst 0, 1) := by decide +kernel
theorem dL_kind_2 : decode cL_kind 2 = .ok (.aload_n 0, 1) := by decide +kernel
theorem dL_kind_3 : decode cL_kind 3 = .ok (.iload_n 1, 1) := by decide +kernel
theorem dL_kind_4 : decode cL_kind 4 = .ok (.invokevirtual 7, 3) := by decide +kernel
theorem dL_kind_7 : decode cL_kind 7 = .ok (.i2l, 1) := by decide +kernel
theorem dL_kind_8 : decode cL_kind 8 = .ok (.lastore, 1) := by decide +kernel
theorem dL_kind_9 : decode cL_kind 9 = .ok (.goto 9, 3) := by decide +kernel
theorem dL_kind_12 : decode cL_kind 12 = .ok (.astore_n 3, 1) := by decide +kernel
theorem dL_kind_13 : decode cL_kind 13 = .ok (.iconst 1, 1) := by decide +kernel
theorem dL_kind_14 : decode cL_kind 14 = .ok (.ireturn, 1) := by decide +kernel
theorem dL_kind_15 : decode cL_kind 15 = .ok (.astore_n 3, 1) := by decide +kernel
theorem dL_kind_16 : decode cL_kind 16 = .ok (.iconst 2, 1) := by decide +kernel
theorem dL_kind_17 : decode cL_kind 17 = .ok (.ireturn, 1) := by decide +kernel
theorem dL_kind_18 : decode cL_kind 18 = .ok (.iconst 0, 1) := by decide +kernel
theorem dL_kind_19 : decode cL_kind 19 = .ok (.ireturn, 1) := by decide +kernel
theorem dL_setWay_0 : decode cL_setWay 0 = .ok (.aload_n 2, 1) := by decide +kernel
theorem dL_setWay_1 : decode cL_setWay 1 = .ok (.iconst 0, 1) := by decide +kernel
theorem dL_setWay_2 : decode cL_setWay 2 = .ok (.aload_n 0, 1) := by decide +kernel
theorem dL_setWay_3 : decode cL_setWay 3 = .ok (.iload_n 1, 1) := by decide +kernel
theorem dL_setWay_4 : decode cL_setWay 4 = .ok (.invokevirtual 17, 3) := by decide +kernel
theorem dL_setWay_7 : decode cL_setWay 7 = .ok (.i2l, 1) := by decide +kernel
theorem dL_setWay_8 : decode cL_setWay 8 = .ok (.lastore, 1) := by decide +kernel
theorem dL_setWay_9 : decode cL_setWay 9 = .ok (.goto 6, 3) := by decide +kernel
theorem dL_setWay_12 : decode cL_setWay 12 = .ok (.astore_n 3, 1) := by decide +kernel
theorem dL_setWay_13 : decode cL_setWay 13 = .ok (.iconst 1, 1) := by decide +kernel
theorem dL_setWay_14 : decode cL_setWay 14 = .ok (.ireturn, 1) := by decide +kernel
theorem dL_setWay_15 : decode cL_setWay 15 = .ok (.iconst 0, 1) := by decide +kernel
theorem dL_setWay_16 : decode cL_setWay 16 = .ok (.ireturn, 1) := by decide +kernel
theorem dL_put_0 : decode cL_put 0 = .ok (.aload_n 2, 1) := by decide +kernel
theorem dL_put_1 : decode cL_put 1 = .ok (.iconst 0, 1) := by decide +kernel
theorem dL_put_2 : decode cL_put 2 = .ok (.aload_n 0, 1) := by decide +kernel
theorem dL_put_3 : decode cL_put 3 = .ok (.iload_n 1, 1) := by decide +kernel
theorem dL_put_4 : decode cL_put 4 = .ok (.invokevirtual 22, 3) := by decide +kernel
theorem dL_put_7 : decode cL_put 7 = .ok (.i2l, 1) := by decide +kernel
theorem dL_put_8 : decode cL_put 8 = .ok (.lastore, 1) := by decide +kernel
theorem dL_put_9 : decode cL_put 9 = .ok (.goto 9, 3) := by decide +kernel
theorem dL_put_12 : decode cL_put 12 = .ok (.astore_n 3, 1) := by decide +kernel
theorem dL_put_13 : decode cL_put 13 = .ok (.iconst 1, 1) := by decide +kernel
theorem dL_put_14 : decode cL_put 14 = .ok (.ireturn, 1) := by decide +kernel
theorem dL_put_15 : decode cL_put 15 = .ok (.astore_n 3, 1) := by decide +kernel
theorem dL_put_16 : decode cL_put 16 = .ok (.iconst 2, 1) := by decide +kernel
theorem dL_put_17 : decode cL_put 17 = .ok (.ireturn, 1) := by decide +kernel
theorem dL_put_18 : decode cL_put 18 = .ok (.iconst 0, 1) := by decide +kernel
theorem dL_put_19 : decode cL_put 19 = .ok (.ireturn, 1) := by decide +kernel
theorem dL_take_0 : decode cL_take 0 = .ok (.aload_n 2, 1) := by decide +kernel
theorem dL_take_1 : decode cL_take 1 = .ok (.iconst 0, 1) := by decide +kernel
theorem dL_take_2 : decode cL_take 2 = .ok (.aload_n 0, 1) := by decide +kernel
theorem dL_take_3 : decode cL_take 3 = .ok (.iload_n 1, 1) := by decide +kernel
theorem dL_take_4 : decode cL_take 4 = .ok (.invokevirtual 25, 3) := by decide +kernel
theorem dL_take_7 : decode cL_take 7 = .ok (.i2l, 1) := by decide +kernel
theorem dL_take_8 : decode cL_take 8 = .ok (.lastore, 1) := by decide +kernel
theorem dL_take_9 : decode cL_take 9 = .ok (.goto 9, 3) := by decide +kernel
theorem dL_take_12 : decode cL_take 12 = .ok (.astore_n 3, 1) := by decide +kernel
theorem dL_take_13 : decode cL_take 13 = .ok (.iconst 1, 1) := by decide +kernel
theorem dL_take_14 : decode cL_take 14 = .ok (.ireturn, 1) := by decide +kernel
theorem dL_take_15 : decode cL_take 15 = .ok (.astore_n 3, 1) := by decide +kernel
theorem dL_take_16 : decode cL_take 16 = .ok (.iconst 2, 1) := by decide +kernel
theorem dL_take_17 : decode cL_take 17 = .ok (.ireturn, 1) := by decide +kernel
theorem dL_take_18 : decode cL_take 18 = .ok (.iconst 0, 1) := by decide +kernel
theorem dL_take_19 : decode cL_take 19 = .ok (.ireturn, 1) := by decide +kernel
theorem dL_reap_0 : decode cL_reap 0 = .ok (.aload_n 2, 1) := by decide +kernel
theorem dL_reap_1 : decode cL_reap 1 = .ok (.iconst 0, 1) := by decide +kernel
theorem dL_reap_2 : decode cL_reap 2 = .ok (.aload_n 0, 1) := by decide +kernel
theorem dL_reap_3 : decode cL_reap 3 = .ok (.iload_n 1, 1) := by decide +kernel
theorem dL_reap_4 : decode cL_reap 4 = .ok (.invokevirtual 28, 3) := by decide +kernel
theorem dL_reap_7 : decode cL_reap 7 = .ok (.i2l, 1) := by decide +kernel
theorem dL_reap_8 : decode cL_reap 8 = .ok (.lastore, 1) := by decide +kernel
theorem dL_reap_9 : decode cL_reap 9 = .ok (.goto 6, 3) := by decide +kernel
theorem dL_reap_12 : decode cL_reap 12 = .ok (.astore_n 3, 1) := by decide +kernel
theorem dL_reap_13 : decode cL_reap 13 = .ok (.iconst 1, 1) := by decide +kernel
theorem dL_reap_14 : decode cL_reap 14 = .ok (.ireturn, 1) := by decide +kernel
theorem dL_reap_15 : decode cL_reap 15 = .ok (.iconst 0, 1) := by decide +kernel
theorem dL_reap_16 : decode cL_reap 16 = .ok (.ireturn, 1) := by decide +kernel
theorem dL_pack_0 : decode cL_pack 0 = .ok (.aload_n 2, 1) := by decide +kernel
theorem dL_pack_1 : decode cL_pack 1 = .ok (.iconst 0, 1) := by decide +kernel
theorem dL_pack_2 : decode cL_pack 2 = .ok (.aload_n 0, 1) := by decide +kernel
theorem dL_pack_3 : decode cL_pack 3 = .ok (.iload_n 1, 1) := by decide +kernel
theorem dL_pack_4 : decode cL_pack 4 = .ok (.invokevirtual 31, 3) := by decide +kernel
theorem dL_pack_7 : decode cL_pack 7 = .ok (.i2l, 1) := by decide +kernel
theorem dL_pack_8 : decode cL_pack 8 = .ok (.lastore, 1) := by decide +kernel
theorem dL_pack_9 : decode cL_pack 9 = .ok (.goto 6, 3) := by decide +kernel
theorem dL_pack_12 : decode cL_pack 12 = .ok (.astore_n 3, 1) := by decide +kernel
theorem dL_pack_13 : decode cL_pack 13 = .ok (.iconst 1, 1) := by decide +kernel
theorem dL_pack_14 : decode cL_pack 14 = .ok (.ireturn, 1) := by decide +kernel
theorem dL_pack_15 : decode cL_pack 15 = .ok (.iconst 0, 1) := by decide +kernel
theorem dL_pack_16 : decode cL_pack 16 = .ok (.ireturn, 1) := by decide +kernel
theorem dL_shelf_0 : decode cL_shelf 0 = .ok (.aload_n 3, 1) := by decide +kernel
theorem dL_shelf_1 : decode cL_shelf 1 = .ok (.iconst 0, 1) := by decide +kernel
theorem dL_shelf_2 : decode cL_shelf 2 = .ok (.aload_n 0, 1) := by decide +kernel
theorem dL_shelf_3 : decode cL_shelf 3 = .ok (.iload_n 1, 1) := by decide +kernel
theorem dL_shelf_4 : decode cL_shelf 4 = .ok (.iload_n 2, 1) := by decide +kernel
theorem dL_shelf_5 : decode cL_shelf 5 = .ok (.invokevirtual 34, 3) := by decide +kernel
theorem dL_shelf_8 : decode cL_shelf 8 = .ok (.i2l, 1) := by decide +kernel
theorem dL_shelf_9 : decode cL_shelf 9 = .ok (.lastore, 1) := by decide +kernel
theorem dL_shelf_10 : decode cL_shelf 10 = .ok (.goto 7, 3) := by decide +kernel
theorem dL_shelf_13 : decode cL_shelf 13 = .ok (.astore 4, 2) := by decide +kernel
theorem dL_shelf_15 : decode cL_shelf 15 = .ok (.iconst 1, 1) := by decide +kernel
theorem dL_shelf_16 : decode cL_shelf 16 = .ok (.ireturn, 1) := by decide +kernel
theorem dL_shelf_17 : decode cL_shelf 17 = .ok (.iconst 0, 1) := by decide +kernel
theorem dL_shelf_18 : decode cL_shelf 18 = .ok (.ireturn, 1) := by decide +kernel
theorem dL_about_0 : decode cL_about 0 = .ok (.aload_n 3, 1) := by decide +kernel
theorem dL_about_1 : decode cL_about 1 = .ok (.iconst 0, 1) := by decide +kernel
theorem dL_about_2 : decode cL_about 2 = .ok (.aload_n 0, 1) := by decide +kernel
theorem dL_about_3 : decode cL_about 3 = .ok (.iload_n 1, 1) := by decide +kernel
theorem dL_about_4 : decode cL_about 4 = .ok (.iload_n 2, 1) := by decide +kernel
theorem dL_about_5 : decode cL_about 5 = .ok (.invokevirtual 38, 3) := by decide +kernel
theorem dL_about_8 : decode cL_about 8 = .ok (.i2l, 1) := by decide +kernel
theorem dL_about_9 : decode cL_about 9 = .ok (.lastore, 1) := by decide +kernel
theorem dL_about_10 : decode cL_about 10 = .ok (.goto 7, 3) := by decide +kernel
theorem dL_about_13 : decode cL_about 13 = .ok (.astore 4, 2) := by decide +kernel
theorem dL_about_15 : decode cL_about 15 = .ok (.iconst 1, 1) := by decide +kernel
theorem dL_about_16 : decode cL_about 16 = .ok (.ireturn, 1) := by decide +kernel
theorem dL_about_17 : decode cL_about 17 = .ok (.iconst 0, 1) := by decide +kernel
theorem dL_about_18 : decode cL_about 18 = .ok (.ireturn, 1) := by decide +kernel
theorem dL_place_0 : decode cL_place 0 = .ok (.aload_n 3, 1) := by decide +kernel
theorem dL_place_1 : decode cL_place 1 = .ok (.iconst 0, 1) := by decide +kernel
theorem dL_place_2 : decode cL_place 2 = .ok (.aload_n 0, 1) := by decide +kernel
theorem dL_place_3 : decode cL_place 3 = .ok (.iload_n 1, 1) := by decide +kernel
theorem dL_place_4 : decode cL_place 4 = .ok (.iload_n 2, 1) := by decide +kernel
theorem dL_place_5 : decode cL_place 5 = .ok (.invokevirtual 41, 3) := by decide +kernel
theorem dL_place_8 : decode cL_place 8 = .ok (.i2l, 1) := by decide +kernel
theorem dL_place_9 : decode cL_place 9 = .ok (.lastore, 1) := by decide +kernel
theorem dL_place_10 : decode cL_place 10 = .ok (.goto 7, 3) := by decide +kernel
theorem dL_place_13 : decode cL_place 13 = .ok (.astore 4, 2) := by decide +kernel
theorem dL_place_15 : decode cL_place 15 = .ok (.iconst 1, 1) := by decide +kernel
theorem dL_place_16 : decode cL_place 16 = .ok (.ireturn, 1) := by decide +kernel
theorem dL_place_17 : decode cL_place 17 = .ok (.iconst 0, 1) := by decide +kernel
theorem dL_place_18 : decode cL_place 18 = .ok (.ireturn, 1) := by decide +kernel
theorem dL_count_0 : decode cL_count 0 = .ok (.aload_n 2, 1) := by decide +kernel
theorem dL_count_1 : decode cL_count 1 = .ok (.iconst 0, 1) := by decide +kernel
theorem dL_count_2 : decode cL_count 2 = .ok (.aload_n 0, 1) := by decide +kernel
theorem dL_count_3 : decode cL_count 3 = .ok (.iload_n 1, 1) := by decide +kernel
theorem dL_count_4 : decode cL_count 4 = .ok (.invokevirtual 44, 3) := by decide +kernel
theorem dL_count_7 : decode cL_count 7 = .ok (.i2l, 1) := by decide +kernel
theorem dL_count_8 : decode cL_count 8 = .ok (.lastore, 1) := by decide +kernel
theorem dL_count_9 : decode cL_count 9 = .ok (.goto 6, 3) := by decide +kernel
theorem dL_count_12 : decode cL_count 12 = .ok (.astore_n 3, 1) := by decide +kernel
theorem dL_count_13 : decode cL_count 13 = .ok (.iconst 1, 1) := by decide +kernel
theorem dL_count_14 : decode cL_count 14 = .ok (.ireturn, 1) := by decide +kernel
theorem dL_count_15 : decode cL_count 15 = .ok (.iconst 0, 1) := by decide +kernel
theorem dL_count_16 : decode cL_count 16 = .ok (.ireturn, 1) := by decide +kernel
theorem dL_next_0 : decode cL_next 0 = .ok (.aload_n 2, 1) := by decide +kernel
theorem dL_next_1 : decode cL_next 1 = .ok (.iconst 0, 1) := by decide +kernel
theorem dL_next_2 : decode cL_next 2 = .ok (.aload_n 0, 1) := by decide +kernel
theorem dL_next_3 : decode cL_next 3 = .ok (.iload_n 1, 1) := by decide +kernel
theorem dL_next_4 : decode cL_next 4 = .ok (.invokevirtual 47, 3) := by decide +kernel
theorem dL_next_7 : decode cL_next 7 = .ok (.i2l, 1) := by decide +kernel
theorem dL_next_8 : decode cL_next 8 = .ok (.lastore, 1) := by decide +kernel
theorem dL_next_9 : decode cL_next 9 = .ok (.goto 6, 3) := by decide +kernel
theorem dL_next_12 : decode cL_next 12 = .ok (.astore_n 3, 1) := by decide +kernel
theorem dL_next_13 : decode cL_next 13 = .ok (.iconst 1, 1) := by decide +kernel
theorem dL_next_14 : decode cL_next 14 = .ok (.ireturn, 1) := by decide +kernel
theorem dL_next_15 : decode cL_next 15 = .ok (.iconst 0, 1) := by decide +kernel
theorem dL_next_16 : decode cL_next 16 = .ok (.ireturn, 1) := by decide +kernel
theorem dL_fits_0 : decode cL_fits 0 = .ok (.aload_n 2, 1) := by decide +kernel
theorem dL_fits_1 : decode cL_fits 1 = .ok (.iconst 0, 1) := by decide +kernel
theorem dL_fits_2 : decode cL_fits 2 = .ok (.aload_n 0, 1) := by decide +kernel
theorem dL_fits_3 : decode cL_fits 3 = .ok (.iload_n 1, 1) := by decide +kernel
theorem dL_fits_4 : decode cL_fits 4 = .ok (.invokevirtual 50, 3) := by decide +kernel
theorem dL_fits_7 : decode cL_fits 7 = .ok (.i2l, 1) := by decide +kernel
theorem dL_fits_8 : decode cL_fits 8 = .ok (.lastore, 1) := by decide +kernel
theorem dL_fits_9 : decode cL_fits 9 = .ok (.goto 6, 3) := by decide +kernel
theorem dL_fits_12 : decode cL_fits 12 = .ok (.astore_n 3, 1) := by decide +kernel
theorem dL_fits_13 : decode cL_fits 13 = .ok (.iconst 1, 1) := by decide +kernel
theorem dL_fits_14 : decode cL_fits 14 = .ok (.ireturn, 1) := by decide +kernel
theorem dL_fits_15 : decode cL_fits 15 = .ok (.iconst 0, 1) := by decide +kernel
theorem dL_fits_16 : decode cL_fits 16 = .ok (.ireturn, 1) := by decide +kernel
theorem dL_would_0 : decode cL_would 0 = .ok (.aload_n 3, 1) := by decide +kernel
theorem dL_would_1 : decode cL_would 1 = .ok (.iconst 0, 1) := by decide +kernel
theorem dL_would_2 : decode cL_would 2 = .ok (.aload_n 0, 1) := by decide +kernel
theorem dL_would_3 : decode cL_would 3 = .ok (.iload_n 1, 1) := by decide +kernel
theorem dL_would_4 : decode cL_would 4 = .ok (.iload_n 2, 1) := by decide +kernel
theorem dL_would_5 : decode cL_would 5 = .ok (.invokevirtual 53, 3) := by decide +kernel
theorem dL_would_8 : decode cL_would 8 = .ok (.i2l, 1) := by decide +kernel
theorem dL_would_9 : decode cL_would 9 = .ok (.lastore, 1) := by decide +kernel
theorem dL_would_10 : decode cL_would 10 = .ok (.goto 11, 3) := by decide +kernel
theorem dL_would_13 : decode cL_would 13 = .ok (.astore 4, 2) := by decide +kernel
theorem dL_would_15 : decode cL_would 15 = .ok (.iconst 1, 1) := by decide +kernel
theorem dL_would_16 : decode cL_would 16 = .ok (.ireturn, 1) := by decide +kernel
theorem dL_would_17 : decode cL_would 17 = .ok (.astore 4, 2) := by decide +kernel
theorem dL_would_19 : decode cL_would 19 = .ok (.iconst 2, 1) := by decide +kernel
theorem dL_would_20 : decode cL_would 20 = .ok (.ireturn, 1) := by decide +kernel
theorem dL_would_21 : decode cL_would 21 = .ok (.iconst 0, 1) := by decide +kernel
theorem dL_would_22 : decode cL_would 22 = .ok (.ireturn, 1) := by decide +kernel
theorem dL_gains_0 : decode cL_gains 0 = .ok (.aload_n 2, 1) := by decide +kernel
theorem dL_gains_1 : decode cL_gains 1 = .ok (.iconst 0, 1) := by decide +kernel
theorem dL_gains_2 : decode cL_gains 2 = .ok (.aload_n 0, 1) := by decide +kernel
theorem dL_gains_3 : decode cL_gains 3 = .ok (.iload_n 1, 1) := by decide +kernel
theorem dL_gains_4 : decode cL_gains 4 = .ok (.invokevirtual 56, 3) := by decide +kernel
theorem dL_gains_7 : decode cL_gains 7 = .ok (.i2l, 1) := by decide +kernel
theorem dL_gains_8 : decode cL_gains 8 = .ok (.lastore, 1) := by decide +kernel
theorem dL_gains_9 : decode cL_gains 9 = .ok (.goto 6, 3) := by decide +kernel
theorem dL_gains_12 : decode cL_gains 12 = .ok (.astore_n 3, 1) := by decide +kernel
theorem dL_gains_13 : decode cL_gains 13 = .ok (.iconst 1, 1) := by decide +kernel
theorem dL_gains_14 : decode cL_gains 14 = .ok (.ireturn, 1) := by decide +kernel
theorem dL_gains_15 : decode cL_gains 15 = .ok (.iconst 0, 1) := by decide +kernel
theorem dL_gains_16 : decode cL_gains 16 = .ok (.ireturn, 1) := by decide +kernel
theorem dL_law_0 : decode cL_law 0 = .ok (.new 8, 3) := by decide +kernel
theorem dL_law_3 : decode cL_law 3 = .ok (.dup, 1) := by decide +kernel
theorem dL_law_4 : decode cL_law 4 = .ok (.invokespecial 59, 3) := by decide +kernel
theorem dL_law_7 : decode cL_law 7 = .ok (.astore_n 1, 1) := by decide +kernel
theorem dL_law_8 : decode cL_law 8 = .ok (.new 60, 3) := by decide +kernel
theorem dL_law_11 : decode cL_law 11 = .ok (.dup, 1) := by decide +kernel
theorem dL_law_12 : decode cL_law 12 = .ok (.invokespecial 62, 3) := by decide +kernel
theorem dL_law_15 : decode cL_law 15 = .ok (.astore_n 2, 1) := by decide +kernel
theorem dL_law_16 : decode cL_law 16 = .ok (.iconst 1, 1) := by decide +kernel
theorem dL_law_17 : decode cL_law 17 = .ok (.newarray .long, 2) := by decide +kernel
theorem dL_law_19 : decode cL_law 19 = .ok (.astore_n 3, 1) := by decide +kernel
theorem dL_law_20 : decode cL_law 20 = .ok (.iconst 0, 1) := by decide +kernel
theorem dL_law_21 : decode cL_law 21 = .ok (.istore 4, 2) := by decide +kernel
theorem dL_law_23 : decode cL_law 23 = .ok (.iload 4, 2) := by decide +kernel
theorem dL_law_25 : decode cL_law 25 = .ok (.aload_n 0, 1) := by decide +kernel
theorem dL_law_26 : decode cL_law 26 = .ok (.arraylength, 1) := by decide +kernel
theorem dL_law_27 : decode cL_law 27 = .ok (.iconst 3, 1) := by decide +kernel
theorem dL_law_28 : decode cL_law 28 = .ok (.isub, 1) := by decide +kernel
theorem dL_law_29 : decode cL_law 29 = .ok (.if_icmp .gt 997, 3) := by decide +kernel
theorem dL_law_32 : decode cL_law 32 = .ok (.aload_n 0, 1) := by decide +kernel
theorem dL_law_33 : decode cL_law 33 = .ok (.iload 4, 2) := by decide +kernel
theorem dL_law_35 : decode cL_law 35 = .ok (.iaload, 1) := by decide +kernel
theorem dL_law_36 : decode cL_law 36 = .ok (.bipush 31, 2) := by decide +kernel
theorem dL_law_38 : decode cL_law 38 = .ok (.iand, 1) := by decide +kernel
theorem dL_law_39 : decode cL_law 39 = .ok (.tableswitch 981 0 16 #[81, 137, 193, 249, 305, 361, 417, 485, 553, 621, 677, 733, 789, 857, 913, 926, 967], 81) := by decide +kernel
theorem dL_law_120 : decode cL_law 120 = .ok (.aload_n 1, 1) := by decide +kernel
theorem dL_law_121 : decode cL_law 121 = .ok (.aload_n 0, 1) := by decide +kernel
theorem dL_law_122 : decode cL_law 122 = .ok (.iload 4, 2) := by decide +kernel
theorem dL_law_124 : decode cL_law 124 = .ok (.iconst 1, 1) := by decide +kernel
theorem dL_law_125 : decode cL_law 125 = .ok (.iadd, 1) := by decide +kernel
theorem dL_law_126 : decode cL_law 126 = .ok (.iaload, 1) := by decide +kernel
theorem dL_law_127 : decode cL_law 127 = .ok (.aload_n 3, 1) := by decide +kernel
theorem dL_law_128 : decode cL_law 128 = .ok (.invokestatic 63, 3) := by decide +kernel
theorem dL_law_131 : decode cL_law 131 = .ok (.istore 5, 2) := by decide +kernel
theorem dL_law_133 : decode cL_law 133 = .ok (.aload_n 2, 1) := by decide +kernel
theorem dL_law_134 : decode cL_law 134 = .ok (.aload_n 0, 1) := by decide +kernel
theorem dL_law_135 : decode cL_law 135 = .ok (.iload 4, 2) := by decide +kernel
theorem dL_law_137 : decode cL_law 137 = .ok (.iconst 1, 1) := by decide +kernel
theorem dL_law_138 : decode cL_law 138 = .ok (.iadd, 1) := by decide +kernel
theorem dL_law_139 : decode cL_law 139 = .ok (.iaload, 1) := by decide +kernel
theorem dL_law_140 : decode cL_law 140 = .ok (.invokevirtual 68, 3) := by decide +kernel
theorem dL_law_143 : decode cL_law 143 = .ok (.istore 6, 2) := by decide +kernel
theorem dL_law_145 : decode cL_law 145 = .ok (.aload_n 2, 1) := by decide +kernel
theorem dL_law_146 : decode cL_law 146 = .ok (.invokevirtual 69, 3) := by decide +kernel
theorem dL_law_149 : decode cL_law 149 = .ok (.iload 5, 2) := by decide +kernel
theorem dL_law_151 : decode cL_law 151 = .ok (.if_icmp .eq 5, 3) := by decide +kernel
theorem dL_law_154 : decode cL_law 154 = .ok (.iconst 0, 1) := by decide +kernel
theorem dL_law_155 : decode cL_law 155 = .ok (.ireturn, 1) := by decide +kernel
theorem dL_law_156 : decode cL_law 156 = .ok (.iload 5, 2) := by decide +kernel
theorem dL_law_158 : decode cL_law 158 = .ok (.ifCond .ne 15, 3) := by decide +kernel
theorem dL_law_161 : decode cL_law 161 = .ok (.aload_n 3, 1) := by decide +kernel
theorem dL_law_162 : decode cL_law 162 = .ok (.iconst 0, 1) := by decide +kernel
theorem dL_law_163 : decode cL_law 163 = .ok (.laload, 1) := by decide +kernel
theorem dL_law_164 : decode cL_law 164 = .ok (.iload 6, 2) := by decide +kernel
theorem dL_law_166 : decode cL_law 166 = .ok (.i2l, 1) := by decide +kernel
theorem dL_law_167 : decode cL_law 167 = .ok (.lcmp, 1) := by decide +kernel
theorem dL_law_168 : decode cL_law 168 = .ok (.ifCond .eq 5, 3) := by decide +kernel
theorem dL_law_171 : decode cL_law 171 = .ok (.iconst 0, 1) := by decide +kernel
theorem dL_law_172 : decode cL_law 172 = .ok (.ireturn, 1) := by decide +kernel
theorem dL_law_173 : decode cL_law 173 = .ok (.goto 847, 3) := by decide +kernel
theorem dL_law_176 : decode cL_law 176 = .ok (.aload_n 1, 1) := by decide +kernel
theorem dL_law_177 : decode cL_law 177 = .ok (.aload_n 0, 1) := by decide +kernel
theorem dL_law_178 : decode cL_law 178 = .ok (.iload 4, 2) := by decide +kernel
theorem dL_law_180 : decode cL_law 180 = .ok (.iconst 1, 1) := by decide +kernel
theorem dL_law_181 : decode cL_law 181 = .ok (.iadd, 1) := by decide +kernel
theorem dL_law_182 : decode cL_law 182 = .ok (.iaload, 1) := by decide +kernel
theorem dL_law_183 : decode cL_law 183 = .ok (.aload_n 3, 1) := by decide +kernel
theorem dL_law_184 : decode cL_law 184 = .ok (.invokestatic 73, 3) := by decide +kernel
theorem dL_law_187 : decode cL_law 187 = .ok (.istore 5, 2) := by decide +kernel
theorem dL_law_189 : decode cL_law 189 = .ok (.aload_n 2, 1) := by decide +kernel
theorem dL_law_190 : decode cL_law 190 = .ok (.aload_n 0, 1) := by decide +kernel
theorem dL_law_191 : decode cL_law 191 = .ok (.iload 4, 2) := by decide +kernel
theorem dL_law_193 : decode cL_law 193 = .ok (.iconst 1, 1) := by decide +kernel
theorem dL_law_194 : decode cL_law 194 = .ok (.iadd, 1) := by decide +kernel
theorem dL_law_195 : decode cL_law 195 = .ok (.iaload, 1) := by decide +kernel
theorem dL_law_196 : decode cL_law 196 = .ok (.invokevirtual 75, 3) := by decide +kernel
theorem dL_law_199 : decode cL_law 199 = .ok (.istore 6, 2) := by decide +kernel
theorem dL_law_201 : decode cL_law 201 = .ok (.aload_n 2, 1) := by decide +kernel
theorem dL_law_202 : decode cL_law 202 = .ok (.invokevirtual 69, 3) := by decide +kernel
theorem dL_law_205 : decode cL_law 205 = .ok (.iload 5, 2) := by decide +kernel
theorem dL_law_207 : decode cL_law 207 = .ok (.if_icmp .eq 5, 3) := by decide +kernel
theorem dL_law_210 : decode cL_law 210 = .ok (.iconst 0, 1) := by decide +kernel
theorem dL_law_211 : decode cL_law 211 = .ok (.ireturn, 1) := by decide +kernel
theorem dL_law_212 : decode cL_law 212 = .ok (.iload 5, 2) := by decide +kernel
theorem dL_law_214 : decode cL_law 214 = .ok (.ifCond .ne 15, 3) := by decide +kernel
theorem dL_law_217 : decode cL_law 217 = .ok (.aload_n 3, 1) := by decide +kernel
theorem dL_law_218 : decode cL_law 218 = .ok (.iconst 0, 1) := by decide +kernel
theorem dL_law_219 : decode cL_law 219 = .ok (.laload, 1) := by decide +kernel
theorem dL_law_220 : decode cL_law 220 = .ok (.iload 6, 2) := by decide +kernel
theorem dL_law_222 : decode cL_law 222 = .ok (.i2l, 1) := by decide +kernel
theorem dL_law_223 : decode cL_law 223 = .ok (.lcmp, 1) := by decide +kernel
theorem dL_law_224 : decode cL_law 224 = .ok (.ifCond .eq 5, 3) := by decide +kernel
theorem dL_law_227 : decode cL_law 227 = .ok (.iconst 0, 1) := by decide +kernel
theorem dL_law_228 : decode cL_law 228 = .ok (.ireturn, 1) := by decide +kernel
theorem dL_law_229 : decode cL_law 229 = .ok (.goto 791, 3) := by decide +kernel
theorem dL_law_232 : decode cL_law 232 = .ok (.aload_n 1, 1) := by decide +kernel
theorem dL_law_233 : decode cL_law 233 = .ok (.aload_n 0, 1) := by decide +kernel
theorem dL_law_234 : decode cL_law 234 = .ok (.iload 4, 2) := by decide +kernel
theorem dL_law_236 : decode cL_law 236 = .ok (.iconst 1, 1) := by decide +kernel
theorem dL_law_237 : decode cL_law 237 = .ok (.iadd, 1) := by decide +kernel
theorem dL_law_238 : decode cL_law 238 = .ok (.iaload, 1) := by decide +kernel
theorem dL_law_239 : decode cL_law 239 = .ok (.aload_n 3, 1) := by decide +kernel
theorem dL_law_240 : decode cL_law 240 = .ok (.invokestatic 76, 3) := by decide +kernel
theorem dL_law_243 : decode cL_law 243 = .ok (.istore 5, 2) := by decide +kernel
theorem dL_law_245 : decode cL_law 245 = .ok (.aload_n 2, 1) := by decide +kernel
theorem dL_law_246 : decode cL_law 246 = .ok (.aload_n 0, 1) := by decide +kernel
theorem dL_law_247 : decode cL_law 247 = .ok (.iload 4, 2) := by decide +kernel
theorem dL_law_249 : decode cL_law 249 = .ok (.iconst 1, 1) := by decide +kernel
theorem dL_law_250 : decode cL_law 250 = .ok (.iadd, 1) := by decide +kernel
theorem dL_law_251 : decode cL_law 251 = .ok (.iaload, 1) := by decide +kernel
theorem dL_law_252 : decode cL_law 252 = .ok (.invokevirtual 78, 3) := by decide +kernel
theorem dL_law_255 : decode cL_law 255 = .ok (.istore 6, 2) := by decide +kernel
theorem dL_law_257 : decode cL_law 257 = .ok (.aload_n 2, 1) := by decide +kernel
theorem dL_law_258 : decode cL_law 258 = .ok (.invokevirtual 69, 3) := by decide +kernel
theorem dL_law_261 : decode cL_law 261 = .ok (.iload 5, 2) := by decide +kernel
theorem dL_law_263 : decode cL_law 263 = .ok (.if_icmp .eq 5, 3) := by decide +kernel
theorem dL_law_266 : decode cL_law 266 = .ok (.iconst 0, 1) := by decide +kernel
theorem dL_law_267 : decode cL_law 267 = .ok (.ireturn, 1) := by decide +kernel
theorem dL_law_268 : decode cL_law 268 = .ok (.iload 5, 2) := by decide +kernel
theorem dL_law_270 : decode cL_law 270 = .ok (.ifCond .ne 15, 3) := by decide +kernel
theorem dL_law_273 : decode cL_law 273 = .ok (.aload_n 3, 1) := by decide +kernel
theorem dL_law_274 : decode cL_law 274 = .ok (.iconst 0, 1) := by decide +kernel
theorem dL_law_275 : decode cL_law 275 = .ok (.laload, 1) := by decide +kernel
theorem dL_law_276 : decode cL_law 276 = .ok (.iload 6, 2) := by decide +kernel
theorem dL_law_278 : decode cL_law 278 = .ok (.i2l, 1) := by decide +kernel
theorem dL_law_279 : decode cL_law 279 = .ok (.lcmp, 1) := by decide +kernel
theorem dL_law_280 : decode cL_law 280 = .ok (.ifCond .eq 5, 3) := by decide +kernel
theorem dL_law_283 : decode cL_law 283 = .ok (.iconst 0, 1) := by decide +kernel
theorem dL_law_284 : decode cL_law 284 = .ok (.ireturn, 1) := by decide +kernel
theorem dL_law_285 : decode cL_law 285 = .ok (.goto 735, 3) := by decide +kernel
theorem dL_law_288 : decode cL_law 288 = .ok (.aload_n 1, 1) := by decide +kernel
theorem dL_law_289 : decode cL_law 289 = .ok (.aload_n 0, 1) := by decide +kernel
theorem dL_law_290 : decode cL_law 290 = .ok (.iload 4, 2) := by decide +kernel
theorem dL_law_292 : decode cL_law 292 = .ok (.iconst 1, 1) := by decide +kernel
theorem dL_law_293 : decode cL_law 293 = .ok (.iadd, 1) := by decide +kernel
theorem dL_law_294 : decode cL_law 294 = .ok (.iaload, 1) := by decide +kernel
theorem dL_law_295 : decode cL_law 295 = .ok (.aload_n 3, 1) := by decide +kernel
theorem dL_law_296 : decode cL_law 296 = .ok (.invokestatic 79, 3) := by decide +kernel
theorem dL_law_299 : decode cL_law 299 = .ok (.istore 5, 2) := by decide +kernel
theorem dL_law_301 : decode cL_law 301 = .ok (.aload_n 2, 1) := by decide +kernel
theorem dL_law_302 : decode cL_law 302 = .ok (.aload_n 0, 1) := by decide +kernel
theorem dL_law_303 : decode cL_law 303 = .ok (.iload 4, 2) := by decide +kernel
theorem dL_law_305 : decode cL_law 305 = .ok (.iconst 1, 1) := by decide +kernel
theorem dL_law_306 : decode cL_law 306 = .ok (.iadd, 1) := by decide +kernel
theorem dL_law_307 : decode cL_law 307 = .ok (.iaload, 1) := by decide +kernel
theorem dL_law_308 : decode cL_law 308 = .ok (.invokevirtual 81, 3) := by decide +kernel
theorem dL_law_311 : decode cL_law 311 = .ok (.istore 6, 2) := by decide +kernel
theorem dL_law_313 : decode cL_law 313 = .ok (.aload_n 2, 1) := by decide +kernel
theorem dL_law_314 : decode cL_law 314 = .ok (.invokevirtual 69, 3) := by decide +kernel
theorem dL_law_317 : decode cL_law 317 = .ok (.iload 5, 2) := by decide +kernel
theorem dL_law_319 : decode cL_law 319 = .ok (.if_icmp .eq 5, 3) := by decide +kernel
theorem dL_law_322 : decode cL_law 322 = .ok (.iconst 0, 1) := by decide +kernel
theorem dL_law_323 : decode cL_law 323 = .ok (.ireturn, 1) := by decide +kernel
theorem dL_law_324 : decode cL_law 324 = .ok (.iload 5, 2) := by decide +kernel
theorem dL_law_326 : decode cL_law 326 = .ok (.ifCond .ne 15, 3) := by decide +kernel
theorem dL_law_329 : decode cL_law 329 = .ok (.aload_n 3, 1) := by decide +kernel
theorem dL_law_330 : decode cL_law 330 = .ok (.iconst 0, 1) := by decide +kernel
theorem dL_law_331 : decode cL_law 331 = .ok (.laload, 1) := by decide +kernel
theorem dL_law_332 : decode cL_law 332 = .ok (.iload 6, 2) := by decide +kernel
theorem dL_law_334 : decode cL_law 334 = .ok (.i2l, 1) := by decide +kernel
theorem dL_law_335 : decode cL_law 335 = .ok (.lcmp, 1) := by decide +kernel
theorem dL_law_336 : decode cL_law 336 = .ok (.ifCond .eq 5, 3) := by decide +kernel
theorem dL_law_339 : decode cL_law 339 = .ok (.iconst 0, 1) := by decide +kernel
theorem dL_law_340 : decode cL_law 340 = .ok (.ireturn, 1) := by decide +kernel
theorem dL_law_341 : decode cL_law 341 = .ok (.goto 679, 3) := by decide +kernel
theorem dL_law_344 : decode cL_law 344 = .ok (.aload_n 1, 1) := by decide +kernel
theorem dL_law_345 : decode cL_law 345 = .ok (.aload_n 0, 1) := by decide +kernel
theorem dL_law_346 : decode cL_law 346 = .ok (.iload 4, 2) := by decide +kernel
theorem dL_law_348 : decode cL_law 348 = .ok (.iconst 1, 1) := by decide +kernel
theorem dL_law_349 : decode cL_law 349 = .ok (.iadd, 1) := by decide +kernel
theorem dL_law_350 : decode cL_law 350 = .ok (.iaload, 1) := by decide +kernel
theorem dL_law_351 : decode cL_law 351 = .ok (.aload_n 3, 1) := by decide +kernel
theorem dL_law_352 : decode cL_law 352 = .ok (.invokestatic 82, 3) := by decide +kernel
theorem dL_law_355 : decode cL_law 355 = .ok (.istore 5, 2) := by decide +kernel
theorem dL_law_357 : decode cL_law 357 = .ok (.aload_n 2, 1) := by decide +kernel
theorem dL_law_358 : decode cL_law 358 = .ok (.aload_n 0, 1) := by decide +kernel
theorem dL_law_359 : decode cL_law 359 = .ok (.iload 4, 2) := by decide +kernel
theorem dL_law_361 : decode cL_law 361 = .ok (.iconst 1, 1) := by decide +kernel
theorem dL_law_362 : decode cL_law 362 = .ok (.iadd, 1) := by decide +kernel
theorem dL_law_363 : decode cL_law 363 = .ok (.iaload, 1) := by decide +kernel
theorem dL_law_364 : decode cL_law 364 = .ok (.invokevirtual 84, 3) := by decide +kernel
theorem dL_law_367 : decode cL_law 367 = .ok (.istore 6, 2) := by decide +kernel
theorem dL_law_369 : decode cL_law 369 = .ok (.aload_n 2, 1) := by decide +kernel
theorem dL_law_370 : decode cL_law 370 = .ok (.invokevirtual 69, 3) := by decide +kernel
theorem dL_law_373 : decode cL_law 373 = .ok (.iload 5, 2) := by decide +kernel
theorem dL_law_375 : decode cL_law 375 = .ok (.if_icmp .eq 5, 3) := by decide +kernel
theorem dL_law_378 : decode cL_law 378 = .ok (.iconst 0, 1) := by decide +kernel
theorem dL_law_379 : decode cL_law 379 = .ok (.ireturn, 1) := by decide +kernel
theorem dL_law_380 : decode cL_law 380 = .ok (.iload 5, 2) := by decide +kernel
theorem dL_law_382 : decode cL_law 382 = .ok (.ifCond .ne 15, 3) := by decide +kernel
theorem dL_law_385 : decode cL_law 385 = .ok (.aload_n 3, 1) := by decide +kernel
theorem dL_law_386 : decode cL_law 386 = .ok (.iconst 0, 1) := by decide +kernel
theorem dL_law_387 : decode cL_law 387 = .ok (.laload, 1) := by decide +kernel
theorem dL_law_388 : decode cL_law 388 = .ok (.iload 6, 2) := by decide +kernel
theorem dL_law_390 : decode cL_law 390 = .ok (.i2l, 1) := by decide +kernel
theorem dL_law_391 : decode cL_law 391 = .ok (.lcmp, 1) := by decide +kernel
theorem dL_law_392 : decode cL_law 392 = .ok (.ifCond .eq 5, 3) := by decide +kernel
theorem dL_law_395 : decode cL_law 395 = .ok (.iconst 0, 1) := by decide +kernel
theorem dL_law_396 : decode cL_law 396 = .ok (.ireturn, 1) := by decide +kernel
theorem dL_law_397 : decode cL_law 397 = .ok (.goto 623, 3) := by decide +kernel
theorem dL_law_400 : decode cL_law 400 = .ok (.aload_n 1, 1) := by decide +kernel
theorem dL_law_401 : decode cL_law 401 = .ok (.aload_n 0, 1) := by decide +kernel
theorem dL_law_402 : decode cL_law 402 = .ok (.iload 4, 2) := by decide +kernel
theorem dL_law_404 : decode cL_law 404 = .ok (.iconst 1, 1) := by decide +kernel
theorem dL_law_405 : decode cL_law 405 = .ok (.iadd, 1) := by decide +kernel
theorem dL_law_406 : decode cL_law 406 = .ok (.iaload, 1) := by decide +kernel
theorem dL_law_407 : decode cL_law 407 = .ok (.aload_n 3, 1) := by decide +kernel
theorem dL_law_408 : decode cL_law 408 = .ok (.invokestatic 85, 3) := by decide +kernel
theorem dL_law_411 : decode cL_law 411 = .ok (.istore 5, 2) := by decide +kernel
theorem dL_law_413 : decode cL_law 413 = .ok (.aload_n 2, 1) := by decide +kernel
theorem dL_law_414 : decode cL_law 414 = .ok (.aload_n 0, 1) := by decide +kernel
theorem dL_law_415 : decode cL_law 415 = .ok (.iload 4, 2) := by decide +kernel
theorem dL_law_417 : decode cL_law 417 = .ok (.iconst 1, 1) := by decide +kernel
theorem dL_law_418 : decode cL_law 418 = .ok (.iadd, 1) := by decide +kernel
theorem dL_law_419 : decode cL_law 419 = .ok (.iaload, 1) := by decide +kernel
theorem dL_law_420 : decode cL_law 420 = .ok (.invokevirtual 87, 3) := by decide +kernel
theorem dL_law_423 : decode cL_law 423 = .ok (.istore 6, 2) := by decide +kernel
theorem dL_law_425 : decode cL_law 425 = .ok (.aload_n 2, 1) := by decide +kernel
theorem dL_law_426 : decode cL_law 426 = .ok (.invokevirtual 69, 3) := by decide +kernel
theorem dL_law_429 : decode cL_law 429 = .ok (.iload 5, 2) := by decide +kernel
theorem dL_law_431 : decode cL_law 431 = .ok (.if_icmp .eq 5, 3) := by decide +kernel
theorem dL_law_434 : decode cL_law 434 = .ok (.iconst 0, 1) := by decide +kernel
theorem dL_law_435 : decode cL_law 435 = .ok (.ireturn, 1) := by decide +kernel
theorem dL_law_436 : decode cL_law 436 = .ok (.iload 5, 2) := by decide +kernel
theorem dL_law_438 : decode cL_law 438 = .ok (.ifCond .ne 15, 3) := by decide +kernel
theorem dL_law_441 : decode cL_law 441 = .ok (.aload_n 3, 1) := by decide +kernel
theorem dL_law_442 : decode cL_law 442 = .ok (.iconst 0, 1) := by decide +kernel
theorem dL_law_443 : decode cL_law 443 = .ok (.laload, 1) := by decide +kernel
theorem dL_law_444 : decode cL_law 444 = .ok (.iload 6, 2) := by decide +kernel
theorem dL_law_446 : decode cL_law 446 = .ok (.i2l, 1) := by decide +kernel
theorem dL_law_447 : decode cL_law 447 = .ok (.lcmp, 1) := by decide +kernel
theorem dL_law_448 : decode cL_law 448 = .ok (.ifCond .eq 5, 3) := by decide +kernel
theorem dL_law_451 : decode cL_law 451 = .ok (.iconst 0, 1) := by decide +kernel
theorem dL_law_452 : decode cL_law 452 = .ok (.ireturn, 1) := by decide +kernel
theorem dL_law_453 : decode cL_law 453 = .ok (.goto 567, 3) := by decide +kernel
theorem dL_law_456 : decode cL_law 456 = .ok (.aload_n 1, 1) := by decide +kernel
theorem dL_law_457 : decode cL_law 457 = .ok (.aload_n 0, 1) := by decide +kernel
theorem dL_law_458 : decode cL_law 458 = .ok (.iload 4, 2) := by decide +kernel
theorem dL_law_460 : decode cL_law 460 = .ok (.iconst 1, 1) := by decide +kernel
theorem dL_law_461 : decode cL_law 461 = .ok (.iadd, 1) := by decide +kernel
theorem dL_law_462 : decode cL_law 462 = .ok (.iaload, 1) := by decide +kernel
theorem dL_law_463 : decode cL_law 463 = .ok (.aload_n 0, 1) := by decide +kernel
theorem dL_law_464 : decode cL_law 464 = .ok (.iload 4, 2) := by decide +kernel
theorem dL_law_466 : decode cL_law 466 = .ok (.iconst 2, 1) := by decide +kernel
theorem dL_law_467 : decode cL_law 467 = .ok (.iadd, 1) := by decide +kernel
theorem dL_law_468 : decode cL_law 468 = .ok (.iaload, 1) := by decide +kernel
theorem dL_law_469 : decode cL_law 469 = .ok (.aload_n 3, 1) := by decide +kernel
theorem dL_law_470 : decode cL_law 470 = .ok (.invokestatic 88, 3) := by decide +kernel
theorem dL_law_473 : decode cL_law 473 = .ok (.istore 5, 2) := by decide +kernel
theorem dL_law_475 : decode cL_law 475 = .ok (.aload_n 2, 1) := by decide +kernel
theorem dL_law_476 : decode cL_law 476 = .ok (.aload_n 0, 1) := by decide +kernel
theorem dL_law_477 : decode cL_law 477 = .ok (.iload 4, 2) := by decide +kernel
theorem dL_law_479 : decode cL_law 479 = .ok (.iconst 1, 1) := by decide +kernel
theorem dL_law_480 : decode cL_law 480 = .ok (.iadd, 1) := by decide +kernel
theorem dL_law_481 : decode cL_law 481 = .ok (.iaload, 1) := by decide +kernel
theorem dL_law_482 : decode cL_law 482 = .ok (.aload_n 0, 1) := by decide +kernel
theorem dL_law_483 : decode cL_law 483 = .ok (.iload 4, 2) := by decide +kernel
theorem dL_law_485 : decode cL_law 485 = .ok (.iconst 2, 1) := by decide +kernel
theorem dL_law_486 : decode cL_law 486 = .ok (.iadd, 1) := by decide +kernel
theorem dL_law_487 : decode cL_law 487 = .ok (.iaload, 1) := by decide +kernel
theorem dL_law_488 : decode cL_law 488 = .ok (.invokevirtual 91, 3) := by decide +kernel
theorem dL_law_491 : decode cL_law 491 = .ok (.istore 6, 2) := by decide +kernel
theorem dL_law_493 : decode cL_law 493 = .ok (.aload_n 2, 1) := by decide +kernel
theorem dL_law_494 : decode cL_law 494 = .ok (.invokevirtual 69, 3) := by decide +kernel
theorem dL_law_497 : decode cL_law 497 = .ok (.iload 5, 2) := by decide +kernel
theorem dL_law_499 : decode cL_law 499 = .ok (.if_icmp .eq 5, 3) := by decide +kernel
theorem dL_law_502 : decode cL_law 502 = .ok (.iconst 0, 1) := by decide +kernel
theorem dL_law_503 : decode cL_law 503 = .ok (.ireturn, 1) := by decide +kernel
theorem dL_law_504 : decode cL_law 504 = .ok (.iload 5, 2) := by decide +kernel
theorem dL_law_506 : decode cL_law 506 = .ok (.ifCond .ne 15, 3) := by decide +kernel
theorem dL_law_509 : decode cL_law 509 = .ok (.aload_n 3, 1) := by decide +kernel
theorem dL_law_510 : decode cL_law 510 = .ok (.iconst 0, 1) := by decide +kernel
theorem dL_law_511 : decode cL_law 511 = .ok (.laload, 1) := by decide +kernel
theorem dL_law_512 : decode cL_law 512 = .ok (.iload 6, 2) := by decide +kernel
theorem dL_law_514 : decode cL_law 514 = .ok (.i2l, 1) := by decide +kernel
theorem dL_law_515 : decode cL_law 515 = .ok (.lcmp, 1) := by decide +kernel
theorem dL_law_516 : decode cL_law 516 = .ok (.ifCond .eq 5, 3) := by decide +kernel
theorem dL_law_519 : decode cL_law 519 = .ok (.iconst 0, 1) := by decide +kernel
theorem dL_law_520 : decode cL_law 520 = .ok (.ireturn, 1) := by decide +kernel
theorem dL_law_521 : decode cL_law 521 = .ok (.goto 499, 3) := by decide +kernel
theorem dL_law_524 : decode cL_law 524 = .ok (.aload_n 1, 1) := by decide +kernel
theorem dL_law_525 : decode cL_law 525 = .ok (.aload_n 0, 1) := by decide +kernel
theorem dL_law_526 : decode cL_law 526 = .ok (.iload 4, 2) := by decide +kernel
theorem dL_law_528 : decode cL_law 528 = .ok (.iconst 1, 1) := by decide +kernel
theorem dL_law_529 : decode cL_law 529 = .ok (.iadd, 1) := by decide +kernel
theorem dL_law_530 : decode cL_law 530 = .ok (.iaload, 1) := by decide +kernel
theorem dL_law_531 : decode cL_law 531 = .ok (.aload_n 0, 1) := by decide +kernel
theorem dL_law_532 : decode cL_law 532 = .ok (.iload 4, 2) := by decide +kernel
theorem dL_law_534 : decode cL_law 534 = .ok (.iconst 2, 1) := by decide +kernel
theorem dL_law_535 : decode cL_law 535 = .ok (.iadd, 1) := by decide +kernel
theorem dL_law_536 : decode cL_law 536 = .ok (.iaload, 1) := by decide +kernel
theorem dL_law_537 : decode cL_law 537 = .ok (.aload_n 3, 1) := by decide +kernel
theorem dL_law_538 : decode cL_law 538 = .ok (.invokestatic 92, 3) := by decide +kernel
theorem dL_law_541 : decode cL_law 541 = .ok (.istore 5, 2) := by decide +kernel
theorem dL_law_543 : decode cL_law 543 = .ok (.aload_n 2, 1) := by decide +kernel
theorem dL_law_544 : decode cL_law 544 = .ok (.aload_n 0, 1) := by decide +kernel
theorem dL_law_545 : decode cL_law 545 = .ok (.iload 4, 2) := by decide +kernel
theorem dL_law_547 : decode cL_law 547 = .ok (.iconst 1, 1) := by decide +kernel
theorem dL_law_548 : decode cL_law 548 = .ok (.iadd, 1) := by decide +kernel
theorem dL_law_549 : decode cL_law 549 = .ok (.iaload, 1) := by decide +kernel
theorem dL_law_550 : decode cL_law 550 = .ok (.aload_n 0, 1) := by decide +kernel
theorem dL_law_551 : decode cL_law 551 = .ok (.iload 4, 2) := by decide +kernel
theorem dL_law_553 : decode cL_law 553 = .ok (.iconst 2, 1) := by decide +kernel
theorem dL_law_554 : decode cL_law 554 = .ok (.iadd, 1) := by decide +kernel
theorem dL_law_555 : decode cL_law 555 = .ok (.iaload, 1) := by decide +kernel
theorem dL_law_556 : decode cL_law 556 = .ok (.invokevirtual 94, 3) := by decide +kernel
theorem dL_law_559 : decode cL_law 559 = .ok (.istore 6, 2) := by decide +kernel
theorem dL_law_561 : decode cL_law 561 = .ok (.aload_n 2, 1) := by decide +kernel
theorem dL_law_562 : decode cL_law 562 = .ok (.invokevirtual 69, 3) := by decide +kernel
theorem dL_law_565 : decode cL_law 565 = .ok (.iload 5, 2) := by decide +kernel
theorem dL_law_567 : decode cL_law 567 = .ok (.if_icmp .eq 5, 3) := by decide +kernel
theorem dL_law_570 : decode cL_law 570 = .ok (.iconst 0, 1) := by decide +kernel
theorem dL_law_571 : decode cL_law 571 = .ok (.ireturn, 1) := by decide +kernel
theorem dL_law_572 : decode cL_law 572 = .ok (.iload 5, 2) := by decide +kernel
theorem dL_law_574 : decode cL_law 574 = .ok (.ifCond .ne 15, 3) := by decide +kernel
theorem dL_law_577 : decode cL_law 577 = .ok (.aload_n 3, 1) := by decide +kernel
theorem dL_law_578 : decode cL_law 578 = .ok (.iconst 0, 1) := by decide +kernel
theorem dL_law_579 : decode cL_law 579 = .ok (.laload, 1) := by decide +kernel
theorem dL_law_580 : decode cL_law 580 = .ok (.iload 6, 2) := by decide +kernel
theorem dL_law_582 : decode cL_law 582 = .ok (.i2l, 1) := by decide +kernel
theorem dL_law_583 : decode cL_law 583 = .ok (.lcmp, 1) := by decide +kernel
theorem dL_law_584 : decode cL_law 584 = .ok (.ifCond .eq 5, 3) := by decide +kernel
theorem dL_law_587 : decode cL_law 587 = .ok (.iconst 0, 1) := by decide +kernel
theorem dL_law_588 : decode cL_law 588 = .ok (.ireturn, 1) := by decide +kernel
theorem dL_law_589 : decode cL_law 589 = .ok (.goto 431, 3) := by decide +kernel
theorem dL_law_592 : decode cL_law 592 = .ok (.aload_n 1, 1) := by decide +kernel
theorem dL_law_593 : decode cL_law 593 = .ok (.aload_n 0, 1) := by decide +kernel
theorem dL_law_594 : decode cL_law 594 = .ok (.iload 4, 2) := by decide +kernel
theorem dL_law_596 : decode cL_law 596 = .ok (.iconst 1, 1) := by decide +kernel
theorem dL_law_597 : decode cL_law 597 = .ok (.iadd, 1) := by decide +kernel
theorem dL_law_598 : decode cL_law 598 = .ok (.iaload, 1) := by decide +kernel
theorem dL_law_599 : decode cL_law 599 = .ok (.aload_n 0, 1) := by decide +kernel
theorem dL_law_600 : decode cL_law 600 = .ok (.iload 4, 2) := by decide +kernel
theorem dL_law_602 : decode cL_law 602 = .ok (.iconst 2, 1) := by decide +kernel
theorem dL_law_603 : decode cL_law 603 = .ok (.iadd, 1) := by decide +kernel
theorem dL_law_604 : decode cL_law 604 = .ok (.iaload, 1) := by decide +kernel
theorem dL_law_605 : decode cL_law 605 = .ok (.aload_n 3, 1) := by decide +kernel
theorem dL_law_606 : decode cL_law 606 = .ok (.invokestatic 95, 3) := by decide +kernel
theorem dL_law_609 : decode cL_law 609 = .ok (.istore 5, 2) := by decide +kernel
theorem dL_law_611 : decode cL_law 611 = .ok (.aload_n 2, 1) := by decide +kernel
theorem dL_law_612 : decode cL_law 612 = .ok (.aload_n 0, 1) := by decide +kernel
theorem dL_law_613 : decode cL_law 613 = .ok (.iload 4, 2) := by decide +kernel
theorem dL_law_615 : decode cL_law 615 = .ok (.iconst 1, 1) := by decide +kernel
theorem dL_law_616 : decode cL_law 616 = .ok (.iadd, 1) := by decide +kernel
theorem dL_law_617 : decode cL_law 617 = .ok (.iaload, 1) := by decide +kernel
theorem dL_law_618 : decode cL_law 618 = .ok (.aload_n 0, 1) := by decide +kernel
theorem dL_law_619 : decode cL_law 619 = .ok (.iload 4, 2) := by decide +kernel
theorem dL_law_621 : decode cL_law 621 = .ok (.iconst 2, 1) := by decide +kernel
theorem dL_law_622 : decode cL_law 622 = .ok (.iadd, 1) := by decide +kernel
theorem dL_law_623 : decode cL_law 623 = .ok (.iaload, 1) := by decide +kernel
theorem dL_law_624 : decode cL_law 624 = .ok (.invokevirtual 97, 3) := by decide +kernel
theorem dL_law_627 : decode cL_law 627 = .ok (.istore 6, 2) := by decide +kernel
theorem dL_law_629 : decode cL_law 629 = .ok (.aload_n 2, 1) := by decide +kernel
theorem dL_law_630 : decode cL_law 630 = .ok (.invokevirtual 69, 3) := by decide +kernel
theorem dL_law_633 : decode cL_law 633 = .ok (.iload 5, 2) := by decide +kernel
theorem dL_law_635 : decode cL_law 635 = .ok (.if_icmp .eq 5, 3) := by decide +kernel
theorem dL_law_638 : decode cL_law 638 = .ok (.iconst 0, 1) := by decide +kernel
theorem dL_law_639 : decode cL_law 639 = .ok (.ireturn, 1) := by decide +kernel
theorem dL_law_640 : decode cL_law 640 = .ok (.iload 5, 2) := by decide +kernel
theorem dL_law_642 : decode cL_law 642 = .ok (.ifCond .ne 15, 3) := by decide +kernel
theorem dL_law_645 : decode cL_law 645 = .ok (.aload_n 3, 1) := by decide +kernel
theorem dL_law_646 : decode cL_law 646 = .ok (.iconst 0, 1) := by decide +kernel
theorem dL_law_647 : decode cL_law 647 = .ok (.laload, 1) := by decide +kernel
theorem dL_law_648 : decode cL_law 648 = .ok (.iload 6, 2) := by decide +kernel
theorem dL_law_650 : decode cL_law 650 = .ok (.i2l, 1) := by decide +kernel
theorem dL_law_651 : decode cL_law 651 = .ok (.lcmp, 1) := by decide +kernel
theorem dL_law_652 : decode cL_law 652 = .ok (.ifCond .eq 5, 3) := by decide +kernel
theorem dL_law_655 : decode cL_law 655 = .ok (.iconst 0, 1) := by decide +kernel
theorem dL_law_656 : decode cL_law 656 = .ok (.ireturn, 1) := by decide +kernel
theorem dL_law_657 : decode cL_law 657 = .ok (.goto 363, 3) := by decide +kernel
theorem dL_law_660 : decode cL_law 660 = .ok (.aload_n 1, 1) := by decide +kernel
theorem dL_law_661 : decode cL_law 661 = .ok (.aload_n 0, 1) := by decide +kernel
theorem dL_law_662 : decode cL_law 662 = .ok (.iload 4, 2) := by decide +kernel
theorem dL_law_664 : decode cL_law 664 = .ok (.iconst 1, 1) := by decide +kernel
theorem dL_law_665 : decode cL_law 665 = .ok (.iadd, 1) := by decide +kernel
theorem dL_law_666 : decode cL_law 666 = .ok (.iaload, 1) := by decide +kernel
theorem dL_law_667 : decode cL_law 667 = .ok (.aload_n 3, 1) := by decide +kernel
theorem dL_law_668 : decode cL_law 668 = .ok (.invokestatic 98, 3) := by decide +kernel
theorem dL_law_671 : decode cL_law 671 = .ok (.istore 5, 2) := by decide +kernel
theorem dL_law_673 : decode cL_law 673 = .ok (.aload_n 2, 1) := by decide +kernel
theorem dL_law_674 : decode cL_law 674 = .ok (.aload_n 0, 1) := by decide +kernel
theorem dL_law_675 : decode cL_law 675 = .ok (.iload 4, 2) := by decide +kernel
theorem dL_law_677 : decode cL_law 677 = .ok (.iconst 1, 1) := by decide +kernel
theorem dL_law_678 : decode cL_law 678 = .ok (.iadd, 1) := by decide +kernel
theorem dL_law_679 : decode cL_law 679 = .ok (.iaload, 1) := by decide +kernel
theorem dL_law_680 : decode cL_law 680 = .ok (.invokevirtual 100, 3) := by decide +kernel
theorem dL_law_683 : decode cL_law 683 = .ok (.istore 6, 2) := by decide +kernel
theorem dL_law_685 : decode cL_law 685 = .ok (.aload_n 2, 1) := by decide +kernel
theorem dL_law_686 : decode cL_law 686 = .ok (.invokevirtual 69, 3) := by decide +kernel
theorem dL_law_689 : decode cL_law 689 = .ok (.iload 5, 2) := by decide +kernel
theorem dL_law_691 : decode cL_law 691 = .ok (.if_icmp .eq 5, 3) := by decide +kernel
theorem dL_law_694 : decode cL_law 694 = .ok (.iconst 0, 1) := by decide +kernel
theorem dL_law_695 : decode cL_law 695 = .ok (.ireturn, 1) := by decide +kernel
theorem dL_law_696 : decode cL_law 696 = .ok (.iload 5, 2) := by decide +kernel
theorem dL_law_698 : decode cL_law 698 = .ok (.ifCond .ne 15, 3) := by decide +kernel
theorem dL_law_701 : decode cL_law 701 = .ok (.aload_n 3, 1) := by decide +kernel
theorem dL_law_702 : decode cL_law 702 = .ok (.iconst 0, 1) := by decide +kernel
theorem dL_law_703 : decode cL_law 703 = .ok (.laload, 1) := by decide +kernel
theorem dL_law_704 : decode cL_law 704 = .ok (.iload 6, 2) := by decide +kernel
theorem dL_law_706 : decode cL_law 706 = .ok (.i2l, 1) := by decide +kernel
theorem dL_law_707 : decode cL_law 707 = .ok (.lcmp, 1) := by decide +kernel
theorem dL_law_708 : decode cL_law 708 = .ok (.ifCond .eq 5, 3) := by decide +kernel
theorem dL_law_711 : decode cL_law 711 = .ok (.iconst 0, 1) := by decide +kernel
theorem dL_law_712 : decode cL_law 712 = .ok (.ireturn, 1) := by decide +kernel
theorem dL_law_713 : decode cL_law 713 = .ok (.goto 307, 3) := by decide +kernel
theorem dL_law_716 : decode cL_law 716 = .ok (.aload_n 1, 1) := by decide +kernel
theorem dL_law_717 : decode cL_law 717 = .ok (.aload_n 0, 1) := by decide +kernel
theorem dL_law_718 : decode cL_law 718 = .ok (.iload 4, 2) := by decide +kernel
theorem dL_law_720 : decode cL_law 720 = .ok (.iconst 1, 1) := by decide +kernel
theorem dL_law_721 : decode cL_law 721 = .ok (.iadd, 1) := by decide +kernel
theorem dL_law_722 : decode cL_law 722 = .ok (.iaload, 1) := by decide +kernel
theorem dL_law_723 : decode cL_law 723 = .ok (.aload_n 3, 1) := by decide +kernel
theorem dL_law_724 : decode cL_law 724 = .ok (.invokestatic 101, 3) := by decide +kernel
theorem dL_law_727 : decode cL_law 727 = .ok (.istore 5, 2) := by decide +kernel
theorem dL_law_729 : decode cL_law 729 = .ok (.aload_n 2, 1) := by decide +kernel
theorem dL_law_730 : decode cL_law 730 = .ok (.aload_n 0, 1) := by decide +kernel
theorem dL_law_731 : decode cL_law 731 = .ok (.iload 4, 2) := by decide +kernel
theorem dL_law_733 : decode cL_law 733 = .ok (.iconst 1, 1) := by decide +kernel
theorem dL_law_734 : decode cL_law 734 = .ok (.iadd, 1) := by decide +kernel
theorem dL_law_735 : decode cL_law 735 = .ok (.iaload, 1) := by decide +kernel
theorem dL_law_736 : decode cL_law 736 = .ok (.invokevirtual 103, 3) := by decide +kernel
theorem dL_law_739 : decode cL_law 739 = .ok (.istore 6, 2) := by decide +kernel
theorem dL_law_741 : decode cL_law 741 = .ok (.aload_n 2, 1) := by decide +kernel
theorem dL_law_742 : decode cL_law 742 = .ok (.invokevirtual 69, 3) := by decide +kernel
theorem dL_law_745 : decode cL_law 745 = .ok (.iload 5, 2) := by decide +kernel
theorem dL_law_747 : decode cL_law 747 = .ok (.if_icmp .eq 5, 3) := by decide +kernel
theorem dL_law_750 : decode cL_law 750 = .ok (.iconst 0, 1) := by decide +kernel
theorem dL_law_751 : decode cL_law 751 = .ok (.ireturn, 1) := by decide +kernel
theorem dL_law_752 : decode cL_law 752 = .ok (.iload 5, 2) := by decide +kernel
theorem dL_law_754 : decode cL_law 754 = .ok (.ifCond .ne 15, 3) := by decide +kernel
theorem dL_law_757 : decode cL_law 757 = .ok (.aload_n 3, 1) := by decide +kernel
theorem dL_law_758 : decode cL_law 758 = .ok (.iconst 0, 1) := by decide +kernel
theorem dL_law_759 : decode cL_law 759 = .ok (.laload, 1) := by decide +kernel
theorem dL_law_760 : decode cL_law 760 = .ok (.iload 6, 2) := by decide +kernel
theorem dL_law_762 : decode cL_law 762 = .ok (.i2l, 1) := by decide +kernel
theorem dL_law_763 : decode cL_law 763 = .ok (.lcmp, 1) := by decide +kernel
theorem dL_law_764 : decode cL_law 764 = .ok (.ifCond .eq 5, 3) := by decide +kernel
theorem dL_law_767 : decode cL_law 767 = .ok (.iconst 0, 1) := by decide +kernel
theorem dL_law_768 : decode cL_law 768 = .ok (.ireturn, 1) := by decide +kernel
theorem dL_law_769 : decode cL_law 769 = .ok (.goto 251, 3) := by decide +kernel
theorem dL_law_772 : decode cL_law 772 = .ok (.aload_n 1, 1) := by decide +kernel
theorem dL_law_773 : decode cL_law 773 = .ok (.aload_n 0, 1) := by decide +kernel
theorem dL_law_774 : decode cL_law 774 = .ok (.iload 4, 2) := by decide +kernel
theorem dL_law_776 : decode cL_law 776 = .ok (.iconst 1, 1) := by decide +kernel
theorem dL_law_777 : decode cL_law 777 = .ok (.iadd, 1) := by decide +kernel
theorem dL_law_778 : decode cL_law 778 = .ok (.iaload, 1) := by decide +kernel
theorem dL_law_779 : decode cL_law 779 = .ok (.aload_n 3, 1) := by decide +kernel
theorem dL_law_780 : decode cL_law 780 = .ok (.invokestatic 104, 3) := by decide +kernel
theorem dL_law_783 : decode cL_law 783 = .ok (.istore 5, 2) := by decide +kernel
theorem dL_law_785 : decode cL_law 785 = .ok (.aload_n 2, 1) := by decide +kernel
theorem dL_law_786 : decode cL_law 786 = .ok (.aload_n 0, 1) := by decide +kernel
theorem dL_law_787 : decode cL_law 787 = .ok (.iload 4, 2) := by decide +kernel
theorem dL_law_789 : decode cL_law 789 = .ok (.iconst 1, 1) := by decide +kernel
theorem dL_law_790 : decode cL_law 790 = .ok (.iadd, 1) := by decide +kernel
theorem dL_law_791 : decode cL_law 791 = .ok (.iaload, 1) := by decide +kernel
theorem dL_law_792 : decode cL_law 792 = .ok (.invokevirtual 106, 3) := by decide +kernel
theorem dL_law_795 : decode cL_law 795 = .ok (.istore 6, 2) := by decide +kernel
theorem dL_law_797 : decode cL_law 797 = .ok (.aload_n 2, 1) := by decide +kernel
theorem dL_law_798 : decode cL_law 798 = .ok (.invokevirtual 69, 3) := by decide +kernel
theorem dL_law_801 : decode cL_law 801 = .ok (.iload 5, 2) := by decide +kernel
theorem dL_law_803 : decode cL_law 803 = .ok (.if_icmp .eq 5, 3) := by decide +kernel
theorem dL_law_806 : decode cL_law 806 = .ok (.iconst 0, 1) := by decide +kernel
theorem dL_law_807 : decode cL_law 807 = .ok (.ireturn, 1) := by decide +kernel
theorem dL_law_808 : decode cL_law 808 = .ok (.iload 5, 2) := by decide +kernel
theorem dL_law_810 : decode cL_law 810 = .ok (.ifCond .ne 15, 3) := by decide +kernel
theorem dL_law_813 : decode cL_law 813 = .ok (.aload_n 3, 1) := by decide +kernel
theorem dL_law_814 : decode cL_law 814 = .ok (.iconst 0, 1) := by decide +kernel
theorem dL_law_815 : decode cL_law 815 = .ok (.laload, 1) := by decide +kernel
theorem dL_law_816 : decode cL_law 816 = .ok (.iload 6, 2) := by decide +kernel
theorem dL_law_818 : decode cL_law 818 = .ok (.i2l, 1) := by decide +kernel
theorem dL_law_819 : decode cL_law 819 = .ok (.lcmp, 1) := by decide +kernel
theorem dL_law_820 : decode cL_law 820 = .ok (.ifCond .eq 5, 3) := by decide +kernel
theorem dL_law_823 : decode cL_law 823 = .ok (.iconst 0, 1) := by decide +kernel
theorem dL_law_824 : decode cL_law 824 = .ok (.ireturn, 1) := by decide +kernel
theorem dL_law_825 : decode cL_law 825 = .ok (.goto 195, 3) := by decide +kernel
theorem dL_law_828 : decode cL_law 828 = .ok (.aload_n 1, 1) := by decide +kernel
theorem dL_law_829 : decode cL_law 829 = .ok (.aload_n 0, 1) := by decide +kernel
theorem dL_law_830 : decode cL_law 830 = .ok (.iload 4, 2) := by decide +kernel
theorem dL_law_832 : decode cL_law 832 = .ok (.iconst 1, 1) := by decide +kernel
theorem dL_law_833 : decode cL_law 833 = .ok (.iadd, 1) := by decide +kernel
theorem dL_law_834 : decode cL_law 834 = .ok (.iaload, 1) := by decide +kernel
theorem dL_law_835 : decode cL_law 835 = .ok (.aload_n 0, 1) := by decide +kernel
theorem dL_law_836 : decode cL_law 836 = .ok (.iload 4, 2) := by decide +kernel
theorem dL_law_838 : decode cL_law 838 = .ok (.iconst 2, 1) := by decide +kernel
theorem dL_law_839 : decode cL_law 839 = .ok (.iadd, 1) := by decide +kernel
theorem dL_law_840 : decode cL_law 840 = .ok (.iaload, 1) := by decide +kernel
theorem dL_law_841 : decode cL_law 841 = .ok (.aload_n 3, 1) := by decide +kernel
theorem dL_law_842 : decode cL_law 842 = .ok (.invokestatic 107, 3) := by decide +kernel
theorem dL_law_845 : decode cL_law 845 = .ok (.istore 5, 2) := by decide +kernel
theorem dL_law_847 : decode cL_law 847 = .ok (.aload_n 2, 1) := by decide +kernel
theorem dL_law_848 : decode cL_law 848 = .ok (.aload_n 0, 1) := by decide +kernel
theorem dL_law_849 : decode cL_law 849 = .ok (.iload 4, 2) := by decide +kernel
theorem dL_law_851 : decode cL_law 851 = .ok (.iconst 1, 1) := by decide +kernel
theorem dL_law_852 : decode cL_law 852 = .ok (.iadd, 1) := by decide +kernel
theorem dL_law_853 : decode cL_law 853 = .ok (.iaload, 1) := by decide +kernel
theorem dL_law_854 : decode cL_law 854 = .ok (.aload_n 0, 1) := by decide +kernel
theorem dL_law_855 : decode cL_law 855 = .ok (.iload 4, 2) := by decide +kernel
theorem dL_law_857 : decode cL_law 857 = .ok (.iconst 2, 1) := by decide +kernel
theorem dL_law_858 : decode cL_law 858 = .ok (.iadd, 1) := by decide +kernel
theorem dL_law_859 : decode cL_law 859 = .ok (.iaload, 1) := by decide +kernel
theorem dL_law_860 : decode cL_law 860 = .ok (.invokevirtual 109, 3) := by decide +kernel
theorem dL_law_863 : decode cL_law 863 = .ok (.istore 6, 2) := by decide +kernel
theorem dL_law_865 : decode cL_law 865 = .ok (.aload_n 2, 1) := by decide +kernel
theorem dL_law_866 : decode cL_law 866 = .ok (.invokevirtual 69, 3) := by decide +kernel
theorem dL_law_869 : decode cL_law 869 = .ok (.iload 5, 2) := by decide +kernel
theorem dL_law_871 : decode cL_law 871 = .ok (.if_icmp .eq 5, 3) := by decide +kernel
theorem dL_law_874 : decode cL_law 874 = .ok (.iconst 0, 1) := by decide +kernel
theorem dL_law_875 : decode cL_law 875 = .ok (.ireturn, 1) := by decide +kernel
theorem dL_law_876 : decode cL_law 876 = .ok (.iload 5, 2) := by decide +kernel
theorem dL_law_878 : decode cL_law 878 = .ok (.ifCond .ne 15, 3) := by decide +kernel
theorem dL_law_881 : decode cL_law 881 = .ok (.aload_n 3, 1) := by decide +kernel
theorem dL_law_882 : decode cL_law 882 = .ok (.iconst 0, 1) := by decide +kernel
theorem dL_law_883 : decode cL_law 883 = .ok (.laload, 1) := by decide +kernel
theorem dL_law_884 : decode cL_law 884 = .ok (.iload 6, 2) := by decide +kernel
theorem dL_law_886 : decode cL_law 886 = .ok (.i2l, 1) := by decide +kernel
theorem dL_law_887 : decode cL_law 887 = .ok (.lcmp, 1) := by decide +kernel
theorem dL_law_888 : decode cL_law 888 = .ok (.ifCond .eq 5, 3) := by decide +kernel
theorem dL_law_891 : decode cL_law 891 = .ok (.iconst 0, 1) := by decide +kernel
theorem dL_law_892 : decode cL_law 892 = .ok (.ireturn, 1) := by decide +kernel
theorem dL_law_893 : decode cL_law 893 = .ok (.goto 127, 3) := by decide +kernel
theorem dL_law_896 : decode cL_law 896 = .ok (.aload_n 1, 1) := by decide +kernel
theorem dL_law_897 : decode cL_law 897 = .ok (.aload_n 0, 1) := by decide +kernel
theorem dL_law_898 : decode cL_law 898 = .ok (.iload 4, 2) := by decide +kernel
theorem dL_law_900 : decode cL_law 900 = .ok (.iconst 1, 1) := by decide +kernel
theorem dL_law_901 : decode cL_law 901 = .ok (.iadd, 1) := by decide +kernel
theorem dL_law_902 : decode cL_law 902 = .ok (.iaload, 1) := by decide +kernel
theorem dL_law_903 : decode cL_law 903 = .ok (.aload_n 3, 1) := by decide +kernel
theorem dL_law_904 : decode cL_law 904 = .ok (.invokestatic 110, 3) := by decide +kernel
theorem dL_law_907 : decode cL_law 907 = .ok (.istore 5, 2) := by decide +kernel
theorem dL_law_909 : decode cL_law 909 = .ok (.aload_n 2, 1) := by decide +kernel
theorem dL_law_910 : decode cL_law 910 = .ok (.aload_n 0, 1) := by decide +kernel
theorem dL_law_911 : decode cL_law 911 = .ok (.iload 4, 2) := by decide +kernel
theorem dL_law_913 : decode cL_law 913 = .ok (.iconst 1, 1) := by decide +kernel
theorem dL_law_914 : decode cL_law 914 = .ok (.iadd, 1) := by decide +kernel
theorem dL_law_915 : decode cL_law 915 = .ok (.iaload, 1) := by decide +kernel
theorem dL_law_916 : decode cL_law 916 = .ok (.invokevirtual 112, 3) := by decide +kernel
theorem dL_law_919 : decode cL_law 919 = .ok (.istore 6, 2) := by decide +kernel
theorem dL_law_921 : decode cL_law 921 = .ok (.aload_n 2, 1) := by decide +kernel
theorem dL_law_922 : decode cL_law 922 = .ok (.invokevirtual 69, 3) := by decide +kernel
theorem dL_law_925 : decode cL_law 925 = .ok (.iload 5, 2) := by decide +kernel
theorem dL_law_927 : decode cL_law 927 = .ok (.if_icmp .eq 5, 3) := by decide +kernel
theorem dL_law_930 : decode cL_law 930 = .ok (.iconst 0, 1) := by decide +kernel
theorem dL_law_931 : decode cL_law 931 = .ok (.ireturn, 1) := by decide +kernel
theorem dL_law_932 : decode cL_law 932 = .ok (.iload 5, 2) := by decide +kernel
theorem dL_law_934 : decode cL_law 934 = .ok (.ifCond .ne 15, 3) := by decide +kernel
theorem dL_law_937 : decode cL_law 937 = .ok (.aload_n 3, 1) := by decide +kernel
theorem dL_law_938 : decode cL_law 938 = .ok (.iconst 0, 1) := by decide +kernel
theorem dL_law_939 : decode cL_law 939 = .ok (.laload, 1) := by decide +kernel
theorem dL_law_940 : decode cL_law 940 = .ok (.iload 6, 2) := by decide +kernel
theorem dL_law_942 : decode cL_law 942 = .ok (.i2l, 1) := by decide +kernel
theorem dL_law_943 : decode cL_law 943 = .ok (.lcmp, 1) := by decide +kernel
theorem dL_law_944 : decode cL_law 944 = .ok (.ifCond .eq 5, 3) := by decide +kernel
theorem dL_law_947 : decode cL_law 947 = .ok (.iconst 0, 1) := by decide +kernel
theorem dL_law_948 : decode cL_law 948 = .ok (.ireturn, 1) := by decide +kernel
theorem dL_law_949 : decode cL_law 949 = .ok (.goto 71, 3) := by decide +kernel
theorem dL_law_952 : decode cL_law 952 = .ok (.aload_n 1, 1) := by decide +kernel
theorem dL_law_953 : decode cL_law 953 = .ok (.invokevirtual 113, 3) := by decide +kernel
theorem dL_law_956 : decode cL_law 956 = .ok (.aload_n 2, 1) := by decide +kernel
theorem dL_law_957 : decode cL_law 957 = .ok (.invokevirtual 116, 3) := by decide +kernel
theorem dL_law_960 : decode cL_law 960 = .ok (.if_icmp .eq 60, 3) := by decide +kernel
theorem dL_law_963 : decode cL_law 963 = .ok (.iconst 0, 1) := by decide +kernel
theorem dL_law_964 : decode cL_law 964 = .ok (.ireturn, 1) := by decide +kernel
theorem dL_law_965 : decode cL_law 965 = .ok (.aload_n 1, 1) := by decide +kernel
theorem dL_law_966 : decode cL_law 966 = .ok (.invokevirtual 117, 3) := by decide +kernel
theorem dL_law_969 : decode cL_law 969 = .ok (.dstore 5, 2) := by decide +kernel
theorem dL_law_971 : decode cL_law 971 = .ok (.aload_n 2, 1) := by decide +kernel
theorem dL_law_972 : decode cL_law 972 = .ok (.invokevirtual 121, 3) := by decide +kernel
theorem dL_law_975 : decode cL_law 975 = .ok (.dstore 7, 2) := by decide +kernel
theorem dL_law_977 : decode cL_law 977 = .ok (.dload 5, 2) := by decide +kernel
theorem dL_law_979 : decode cL_law 979 = .ok (.dload 7, 2) := by decide +kernel
theorem dL_law_981 : decode cL_law 981 = .ok (.dcmp .l, 1) := by decide +kernel
theorem dL_law_982 : decode cL_law 982 = .ok (.ifCond .eq 21, 3) := by decide +kernel
theorem dL_law_985 : decode cL_law 985 = .ok (.dload 5, 2) := by decide +kernel
theorem dL_law_987 : decode cL_law 987 = .ok (.dload 5, 2) := by decide +kernel
theorem dL_law_989 : decode cL_law 989 = .ok (.dcmp .l, 1) := by decide +kernel
theorem dL_law_990 : decode cL_law 990 = .ok (.ifCond .eq 11, 3) := by decide +kernel
theorem dL_law_993 : decode cL_law 993 = .ok (.dload 7, 2) := by decide +kernel
theorem dL_law_995 : decode cL_law 995 = .ok (.dload 7, 2) := by decide +kernel
theorem dL_law_997 : decode cL_law 997 = .ok (.dcmp .l, 1) := by decide +kernel
theorem dL_law_998 : decode cL_law 998 = .ok (.ifCond .ne 5, 3) := by decide +kernel
theorem dL_law_1001 : decode cL_law 1001 = .ok (.iconst 0, 1) := by decide +kernel
theorem dL_law_1002 : decode cL_law 1002 = .ok (.ireturn, 1) := by decide +kernel
theorem dL_law_1003 : decode cL_law 1003 = .ok (.goto 17, 3) := by decide +kernel
theorem dL_law_1006 : decode cL_law 1006 = .ok (.aload_n 1, 1) := by decide +kernel
theorem dL_law_1007 : decode cL_law 1007 = .ok (.invokevirtual 122, 3) := by decide +kernel
theorem dL_law_1010 : decode cL_law 1010 = .ok (.aload_n 2, 1) := by decide +kernel
theorem dL_law_1011 : decode cL_law 1011 = .ok (.invokevirtual 126, 3) := by decide +kernel
theorem dL_law_1014 : decode cL_law 1014 = .ok (.lcmp, 1) := by decide +kernel
theorem dL_law_1015 : decode cL_law 1015 = .ok (.ifCond .eq 5, 3) := by decide +kernel
theorem dL_law_1018 : decode cL_law 1018 = .ok (.iconst 0, 1) := by decide +kernel
theorem dL_law_1019 : decode cL_law 1019 = .ok (.ireturn, 1) := by decide +kernel
theorem dL_law_1020 : decode cL_law 1020 = .ok (.iinc 4 3, 3) := by decide +kernel
theorem dL_law_1023 : decode cL_law 1023 = .ok (.goto (-1000), 3) := by decide +kernel
theorem dL_law_1026 : decode cL_law 1026 = .ok (.iconst 1, 1) := by decide +kernel
theorem dL_law_1027 : decode cL_law 1027 = .ok (.ireturn, 1) := by decide +kernel
end
section
/-! raw states of the class and of the reference, their worlds -/
abbrev vwCl : List vw_C := [(RX0, TX0, 6), (RX1, TX1, 8), (RX2, TX2, 7), (RX3, TX3, 14)]
/-- ints of the kitchen (kindsMade, way, time, putInAll, movedInAll); how many kinds; shelves' fields; their rows; kinds' fields -/
abbrev KSt : Type := (Nat → Int32) × Nat × (Nat → Nat → Int32) × (Nat → Nat → Int32) × (Nat → Nat → Int32)
def kG (k : KSt) (f : Nat) : Int32 := k.1 f
def kN (k : KSt) : Nat := k.2.1
def kS (k : KSt) (f i : Nat) : Int32 := k.2.2.1 f i
def kB (k : KSt) (i : Nat) : Nat → Int32 := k.2.2.2.1 i
def kK (k : KSt) (f j : Nat) : Int32 := k.2.2.2.2 f j
def kGs (k : KSt) (f : Nat) (v : Int32) : KSt := (upd k.1 f v, k.2)
def kNs (k : KSt) (n : Nat) : KSt := (k.1, n, k.2.2)
def kSs (k : KSt) (f i : Nat) (v : Int32) : KSt := (k.1, k.2.1, (fun g j => if g = f ∧ j = i then v else k.2.2.1 g j), k.2.2.2)
def kBs (k : KSt) (i : Nat) (g : Nat → Int32) : KSt := (k.1, k.2.1, k.2.2.1, (fun j => if j = i then g else k.2.2.2.1 j), k.2.2.2.2)
def kKs (k : KSt) (f j : Nat) (v : Int32) : KSt := (k.1, k.2.1, k.2.2.1, k.2.2.2.1, (fun g i => if g = f ∧ i = j then v else k.2.2.2.2 g i))
theorem kG_Gs (k : KSt) (f g : Nat) (v : Int32) : kG (kGs k f v) g = if g = f then v else kG k g := rfl
theorem kN_Gs (k : KSt) (f : Nat) (v : Int32) : kN (kGs k f v) = kN k := rfl
theorem kS_Gs (k : KSt) (f : Nat) (v : Int32) (g i : Nat) : kS (kGs k f v) g i = kS k g i := rfl
theorem kB_Gs (k : KSt) (f : Nat) (v : Int32) (i : Nat) : kB (kGs k f v) i = kB k i := rfl
theorem kK_Gs (k : KSt) (f : Nat) (v : Int32) (g j : Nat) : kK (kGs k f v) g j = kK k g j := rfl
theorem kG_Ns (k : KSt) (n g : Nat) : kG (kNs k n) g = kG k g := rfl
theorem kN_Ns (k : KSt) (n : Nat) : kN (kNs k n) = n := rfl
theorem kS_Ns (k : KSt) (n g i : Nat) : kS (kNs k n) g i = kS k g i := rfl
theorem kB_Ns (k : KSt) (n i : Nat) : kB (kNs k n) i = kB k i := rfl
theorem kK_Ns (k : KSt) (n g j : Nat) : kK (kNs k n) g j = kK k g j := rfl
theorem kG_Ss (k : KSt) (f i : Nat) (v : Int32) (g : Nat) : kG (kSs k f i v) g = kG k g := rfl
theorem kN_Ss (k : KSt) (f i : Nat) (v : Int32) : kN (kSs k f i v) = kN k := rfl
theorem kS_Ss (k : KSt) (f i : Nat) (v : Int32) (g j : Nat) : kS (kSs k f i v) g j = if g = f ∧ j = i then v else kS k g j := rfl
theorem kB_Ss (k : KSt) (f i : Nat) (v : Int32) (j : Nat) : kB (kSs k f i v) j = kB k j := rfl
theorem kK_Ss (k : KSt) (f i : Nat) (v : Int32) (g j : Nat) : kK (kSs k f i v) g j = kK k g j := rfl
theorem kG_Bs (k : KSt) (i : Nat) (r : Nat → Int32) (g : Nat) : kG (kBs k i r) g = kG k g := rfl
theorem kN_Bs (k : KSt) (i : Nat) (r : Nat → Int32) : kN (kBs k i r) = kN k := rfl
theorem kS_Bs (k : KSt) (i : Nat) (r : Nat → Int32) (g j : Nat) : kS (kBs k i r) g j = kS k g j := rfl
theorem kB_Bs (k : KSt) (i : Nat) (r : Nat → Int32) (j : Nat) : kB (kBs k i r) j = if j = i then r else kB k j := rfl
theorem kK_Bs (k : KSt) (i : Nat) (r : Nat → Int32) (g j : Nat) : kK (kBs k i r) g j = kK k g j := rfl
theorem kG_Ks (k : KSt) (f i : Nat) (v : Int32) (g : Nat) : kG (kKs k f i v) g = kG k g := rfl
theorem kN_Ks (k : KSt) (f i : Nat) (v : Int32) : kN (kKs k f i v) = kN k := rfl
theorem kS_Ks (k : KSt) (f i : Nat) (v : Int32) (g j : Nat) : kS (kKs k f i v) g j = kS k g j := rfl
theorem kB_Ks (k : KSt) (f i : Nat) (v : Int32) (j : Nat) : kB (kKs k f i v) j = kB k j := rfl
theorem kK_Ks (k : KSt) (f i : Nat) (v : Int32) (g j : Nat) : kK (kKs k f i v) g j = if g = f ∧ j = i then v else kK k g j := rfl
/-- addresses: the kitchen, its two arrays; shelves, their rows; kinds -/
abbrev KAd : Type := (Nat → Nat) × (Nat → Nat) × (Nat → Nat) × (Nat → Nat)
def aO (a : KAd) (i : Nat) : Nat := a.1 i
def aS (a : KAd) (i : Nat) : Nat := a.2.1 i
def aB (a : KAd) (i : Nat) : Nat := a.2.2.1 i
def aK (a : KAd) (i : Nat) : Nat := a.2.2.2 i
def flO (a : KAd) (k : KSt) : List Value := [.ref (aO a 1), .ref (aO a 2), .int (kG k 0), .int (kG k 1), .int (kG k 2), .int (kG k 3), .int (kG k 4)]
def flS (a : KAd) (k : KSt) (i : Nat) : List Value := [.int (nI (24 * i)), .ref (aB a i), .int (kS k 2 i), .int (kS k 3 i), .int (kS k 4 i), .int (kS k 5 i), .int (kS k 6 i), .int (kS k 7 i)]
def flK (k : KSt) (j : Nat) : List Value := [.int (nI j), .int (kK k 1 j), .int (kK k 2 j), .int (kK k 3 j), .int (kK k 4 j), .int (kK k 5 j)]
/-- what the array of kinds holds -/
def knd (k : KSt) (j : Nat) : Option Nat := if j < kN k then some j else none
def ceO (a : KAd) (k : KSt) : Nat × va_E := (aO a 0, .inr (2, flO a k))
def ceA (c5 : Nat → ClassId) (a : KAd) : Nat × va_E := (aO a 1, .inl (c5 0, 12, .inr (.inr (.inr (.inr (fun i => some (aS a i)))))))
def ceC (c5 : Nat → ClassId) (a : KAd) (k : KSt) : Nat × va_E := (aO a 2, .inl (c5 1, 5, .inr (.inr (.inr (.inr (fun j => (knd k j).map (aK a)))))))
def ceS (a : KAd) (k : KSt) (i : Nat) : Nat × va_E := (aS a i, .inr (1, flS a k i))
def ceB (c5 : Nat → ClassId) (a : KAd) (k : KSt) (i : Nat) : Nat × va_E := (aB a i, .inl (c5 2, 12, .inl (kB k i)))
def ceK (a : KAd) (k : KSt) (j : Nat) : Nat × va_E := (aK a j, .inr (0, flK k j))
def KW (c5 : Nat → ClassId) (a : KAd) (k : KSt) : va_W := [ceO a k, ceA c5 a, ceC c5 a k] ++ ((List.range 12).map (ceS a k) ++ ((List.range 12).map (ceB c5 a k) ++ (List.range (kN k)).map (ceK a k)))
abbrev tyG (c5 : Nat → ClassId) : List (ClassId × FieldType) := [(c5 0, .object RX1), (c5 1, .object RX0), (c5 2, .boolean), (c5 3, .int), (c5 4, .long)]
theorem KW_0 (c5 : Nat → ClassId) (a : KAd) (k : KSt) : (KW c5 a k)[0]? = some (aO a 0, .inr (2, flO a k)) := rfl
theorem KW_1 (c5 : Nat → ClassId) (a : KAd) (k : KSt) : (KW c5 a k)[1]? = some (aO a 1, .inl (c5 0, 12, .inr (.inr (.inr (.inr (fun i => some (aS a i))))))) := rfl
theorem KW_2 (c5 : Nat → ClassId) (a : KAd) (k : KSt) : (KW c5 a k)[2]? = some (aO a 2, .inl (c5 1, 5, .inr (.inr (.inr (.inr (fun j => (knd k j).map (aK a))))))) := rfl
theorem KW_S (c5 : Nat → ClassId) (a : KAd) (k : KSt) {i : Nat} (hi : i < 12) : (KW c5 a k)[3 + i]? = some (aS a i, .inr (1, flS a k i)) := by
  unfold KW
  rw [List.getElem?_append_right (by simp), List.getElem?_append_left (by simp; omega)]
  simp [hi, ceS]
theorem KW_B (c5 : Nat → ClassId) (a : KAd) (k : KSt) {i : Nat} (hi : i < 12) : (KW c5 a k)[15 + i]? = some (aB a i, .inl (c5 2, 12, .inl (kB k i))) := by
  unfold KW
  rw [List.getElem?_append_right (by simp; omega), List.getElem?_append_right (by simp; omega), List.getElem?_append_left (by simp; omega)]
  simp only [List.length_cons, List.length_nil, List.length_map, List.length_range, List.getElem?_map]
  rw [show 15 + i - (0 + 1 + 1 + 1) - 12 = i by omega, List.getElem?_range hi]
  rfl
theorem KW_K (c5 : Nat → ClassId) (a : KAd) (k : KSt) {j : Nat} (hj : j < kN k) : (KW c5 a k)[27 + j]? = some (aK a j, .inr (0, flK k j)) := by
  unfold KW
  rw [List.getElem?_append_right (by simp; omega), List.getElem?_append_right (by simp; omega), List.getElem?_append_right (by simp; omega)]
  simp only [List.length_cons, List.length_nil, List.length_map, List.length_range, List.getElem?_map]
  rw [show 27 + j - (0 + 1 + 1 + 1) - 12 - 12 = j by omega, List.getElem?_range hj]
  rfl
theorem set_map {α : Type} {n i : Nat} (f : Nat → α) (x : α) : ((List.range n).map f).set i x = (List.range n).map (fun j => if j = i then x else f j) := by
  apply List.ext_getElem?
  intro j
  by_cases h : j = i
  · subst h
    by_cases hj : j < n
    · rw [List.getElem?_set_self (by simpa using hj)]
      simp [hj]
    · rw [List.getElem?_eq_none (by simp; omega), List.getElem?_eq_none (by simp; omega)]
  · rw [List.getElem?_set_ne (Ne.symm h)]
    by_cases hj : j < n
    · simp [hj, h]
    · rw [List.getElem?_eq_none (by simp; omega), List.getElem?_eq_none (by simp; omega)]
theorem KW_set0 (c5 : Nat → ClassId) (a : KAd) (k : KSt) (f : Nat) (hf : f < 5) (v : Int32) : (KW c5 a k).set 0 (aO a 0, .inr (2, (flO a k).set (f + 2) (.int v))) = KW c5 a (kGs k f v) := by
  match f, hf with
  | 0, _ => rfl
  | 1, _ => rfl
  | 2, _ => rfl
  | 3, _ => rfl
  | 4, _ => rfl
theorem KW_setS (c5 : Nat → ClassId) (a : KAd) (k : KSt) {i : Nat} (hi : i < 12) (f : Nat) (hf : f < 6) (v : Int32) : (KW c5 a k).set (3 + i) (aS a i, .inr (1, (flS a k i).set (f + 2) (.int v))) = KW c5 a (kSs k (f + 2) i v) := by
  unfold KW
  rw [List.set_append_right _ _ (by simp), List.set_append_left _ _ (by simp; omega)]
  simp only [List.length_cons, List.length_nil]
  rw [show 3 + i - (0 + 1 + 1 + 1) = i by omega, set_map]
  congr 1
  congr 1
  apply List.map_congr_left
  intro j _
  by_cases h : j = i
  · subst h
    rw [if_pos rfl]
    match f, hf with
    | 0, _ => simp [ceS, flS, kS_Ss]
    | 1, _ => simp [ceS, flS, kS_Ss]
    | 2, _ => simp [ceS, flS, kS_Ss]
    | 3, _ => simp [ceS, flS, kS_Ss]
    | 4, _ => simp [ceS, flS, kS_Ss]
    | 5, _ => simp [ceS, flS, kS_Ss]
  · rw [if_neg h]
    simp [ceS, flS, kS_Ss, h]
theorem KW_setB (c5 : Nat → ClassId) (a : KAd) (k : KSt) {i : Nat} (hi : i < 12) (g : Nat → Int32) : (KW c5 a k).set (15 + i) (aB a i, .inl (c5 2, 12, .inl g)) = KW c5 a (kBs k i g) := by
  unfold KW
  rw [List.set_append_right _ _ (by simp; omega), List.set_append_right _ _ (by simp; omega), List.set_append_left _ _ (by simp; omega)]
  simp only [List.length_cons, List.length_nil, List.length_map, List.length_range]
  rw [show 15 + i - (0 + 1 + 1 + 1) - 12 = i by omega, set_map]
  have e : (List.range 12).map (fun j => if j = i then (aB a i, (.inl (c5 2, 12, .inl g) : va_E)) else ceB c5 a k j) = (List.range 12).map (ceB c5 a (kBs k i g)) := by
    apply List.map_congr_left
    intro j _
    by_cases h : j = i
    · subst h
      simp [ceB, kB_Bs]
    · simp [ceB, kB_Bs, h]
  rw [e]
  rfl
theorem KW_setK (c5 : Nat → ClassId) (a : KAd) (k : KSt) {j : Nat} (hj : j < kN k) (f : Nat) (hf : f < 5) (v : Int32) : (KW c5 a k).set (27 + j) (aK a j, .inr (0, (flK k j).set (f + 1) (.int v))) = KW c5 a (kKs k (f + 1) j v) := by
  unfold KW
  rw [List.set_append_right _ _ (by simp; omega), List.set_append_right _ _ (by simp; omega), List.set_append_right _ _ (by simp; omega)]
  simp only [List.length_cons, List.length_nil, List.length_map, List.length_range]
  rw [show 27 + j - (0 + 1 + 1 + 1) - 12 - 12 = j by omega, set_map]
  have e : (List.range (kN k)).map (fun i => if i = j then (aK a j, (.inr (0, (flK k j).set (f + 1) (.int v)) : va_E)) else ceK a k i) = (List.range (kN k)).map (ceK a (kKs k (f + 1) j v)) := by
    apply List.map_congr_left
    intro i _
    by_cases h : i = j
    · subst h
      rw [if_pos rfl]
      match f, hf with
      | 0, _ => simp [ceK, flK, kK_Ks]
      | 1, _ => simp [ceK, flK, kK_Ks]
      | 2, _ => simp [ceK, flK, kK_Ks]
      | 3, _ => simp [ceK, flK, kK_Ks]
      | 4, _ => simp [ceK, flK, kK_Ks]
    · rw [if_neg h]
      simp [ceK, flK, kK_Ks, h]
  rw [e]
  rfl
/-- the reference: its ints (thrown, time, way, putAll, movedAll, kinds), its arrays (size, got, owner, rim, bowls, since, kept, keptSince) -/
abbrev MSt : Type := (Nat → Int32) × (Nat → Nat → Int32)
def mF (m : MSt) (f : Nat) : Int32 := m.1 f
def mA (m : MSt) (n : Nat) : Nat → Int32 := m.2 n
def mFs (m : MSt) (f : Nat) (v : Int32) : MSt := (upd m.1 f v, m.2)
def mAs (m : MSt) (n : Nat) (g : Nat → Int32) : MSt := (m.1, fun x => if x = n then g else m.2 x)
theorem mF_Fs (m : MSt) (f : Nat) (v : Int32) (g : Nat) : mF (mFs m f v) g = if g = f then v else mF m g := rfl
theorem mA_Fs (m : MSt) (f : Nat) (v : Int32) (n : Nat) : mA (mFs m f v) n = mA m n := rfl
theorem mF_As (m : MSt) (n : Nat) (r : Nat → Int32) (g : Nat) : mF (mAs m n r) g = mF m g := rfl
theorem mA_As (m : MSt) (n : Nat) (r : Nat → Int32) (x : Nat) : mA (mAs m n r) x = if x = n then r else mA m x := rfl
def flM (b : Nat → Nat) (m : MSt) : List Value := [.int (mF m 0), .int (mF m 1), .int (mF m 2), .int (mF m 3), .int (mF m 4), .int (mF m 5), .ref (b 1), .ref (b 2), .ref (b 3), .ref (b 4), .ref (b 5), .ref (b 6), .ref (b 7), .ref (b 8)]
def MW (c5 : Nat → ClassId) (b : Nat → Nat) (m : MSt) : va_W := [(b 0, .inr (3, flM b m)), (b 1, .inl (c5 3, 5, .inl (mA m 0))), (b 2, .inl (c5 3, 5, .inl (mA m 1))), (b 3, .inl (c5 3, 12, .inl (mA m 2))), (b 4, .inl (c5 3, 12, .inl (mA m 3))), (b 5, .inl (c5 3, 12, .inl (mA m 4))), (b 6, .inl (c5 3, 12, .inl (mA m 5))), (b 7, .inl (c5 3, 12, .inl (mA m 6))), (b 8, .inl (c5 3, 12, .inl (mA m 7)))]
theorem MW_0 (c5 : Nat → ClassId) (b : Nat → Nat) (m : MSt) : (MW c5 b m)[0]? = some (b 0, .inr (3, flM b m)) := rfl
theorem MW_1 (c5 : Nat → ClassId) (b : Nat → Nat) (m : MSt) : (MW c5 b m)[1]? = some (b 1, .inl (c5 3, 5, .inl (mA m 0))) := rfl
theorem MW_2 (c5 : Nat → ClassId) (b : Nat → Nat) (m : MSt) : (MW c5 b m)[2]? = some (b 2, .inl (c5 3, 5, .inl (mA m 1))) := rfl
theorem MW_3 (c5 : Nat → ClassId) (b : Nat → Nat) (m : MSt) : (MW c5 b m)[3]? = some (b 3, .inl (c5 3, 12, .inl (mA m 2))) := rfl
theorem MW_4 (c5 : Nat → ClassId) (b : Nat → Nat) (m : MSt) : (MW c5 b m)[4]? = some (b 4, .inl (c5 3, 12, .inl (mA m 3))) := rfl
theorem MW_5 (c5 : Nat → ClassId) (b : Nat → Nat) (m : MSt) : (MW c5 b m)[5]? = some (b 5, .inl (c5 3, 12, .inl (mA m 4))) := rfl
theorem MW_6 (c5 : Nat → ClassId) (b : Nat → Nat) (m : MSt) : (MW c5 b m)[6]? = some (b 6, .inl (c5 3, 12, .inl (mA m 5))) := rfl
theorem MW_7 (c5 : Nat → ClassId) (b : Nat → Nat) (m : MSt) : (MW c5 b m)[7]? = some (b 7, .inl (c5 3, 12, .inl (mA m 6))) := rfl
theorem MW_8 (c5 : Nat → ClassId) (b : Nat → Nat) (m : MSt) : (MW c5 b m)[8]? = some (b 8, .inl (c5 3, 12, .inl (mA m 7))) := rfl
theorem MW_set0 (c5 : Nat → ClassId) (b : Nat → Nat) (m : MSt) (f : Nat) (hf : f < 6) (v : Int32) : (MW c5 b m).set 0 (b 0, .inr (3, (flM b m).set f (.int v))) = MW c5 b (mFs m f v) := by
  match f, hf with
  | 0, _ => rfl
  | 1, _ => rfl
  | 2, _ => rfl
  | 3, _ => rfl
  | 4, _ => rfl
  | 5, _ => rfl
theorem MW_set1 (c5 : Nat → ClassId) (b : Nat → Nat) (m : MSt) (g : Nat → Int32) : (MW c5 b m).set 1 (b 1, .inl (c5 3, 5, .inl g)) = MW c5 b (mAs m 0 g) := rfl
theorem MW_set2 (c5 : Nat → ClassId) (b : Nat → Nat) (m : MSt) (g : Nat → Int32) : (MW c5 b m).set 2 (b 2, .inl (c5 3, 5, .inl g)) = MW c5 b (mAs m 1 g) := rfl
theorem MW_set3 (c5 : Nat → ClassId) (b : Nat → Nat) (m : MSt) (g : Nat → Int32) : (MW c5 b m).set 3 (b 3, .inl (c5 3, 12, .inl g)) = MW c5 b (mAs m 2 g) := rfl
theorem MW_set4 (c5 : Nat → ClassId) (b : Nat → Nat) (m : MSt) (g : Nat → Int32) : (MW c5 b m).set 4 (b 4, .inl (c5 3, 12, .inl g)) = MW c5 b (mAs m 3 g) := rfl
theorem MW_set5 (c5 : Nat → ClassId) (b : Nat → Nat) (m : MSt) (g : Nat → Int32) : (MW c5 b m).set 5 (b 5, .inl (c5 3, 12, .inl g)) = MW c5 b (mAs m 4 g) := rfl
theorem MW_set6 (c5 : Nat → ClassId) (b : Nat → Nat) (m : MSt) (g : Nat → Int32) : (MW c5 b m).set 6 (b 6, .inl (c5 3, 12, .inl g)) = MW c5 b (mAs m 5 g) := rfl
theorem MW_set7 (c5 : Nat → ClassId) (b : Nat → Nat) (m : MSt) (g : Nat → Int32) : (MW c5 b m).set 7 (b 7, .inl (c5 3, 12, .inl g)) = MW c5 b (mAs m 6 g) := rfl
theorem MW_set8 (c5 : Nat → ClassId) (b : Nat → Nat) (m : MSt) (g : Nat → Int32) : (MW c5 b m).set 8 (b 8, .inl (c5 3, 12, .inl g)) = MW c5 b (mAs m 7 g) := rfl
end
section
/-! rows over these worlds: references that may be null, calls, ends; how the raw functions are taken apart -/
theorem iX0 : ∀ w ∈ u_ws RX0 TX0 6, w ∈ LA := by decide +kernel
theorem iX1 : ∀ w ∈ u_ws RX1 TX1 8, w ∈ LA := by decide +kernel
theorem iX2 : ∀ w ∈ u_ws RX2 TX2 7, w ∈ LA := by decide +kernel
theorem iX3 : ∀ w ∈ u_ws RX3 TX3 14, w ∈ LA := by decide +kernel
def FU : Nat := 2000
def inb (i : Int32) (n : Nat) : Bool := decide (0 ≤ i.toInt) && decide (i.toInt < (n : Int))
theorem inb_in {i : Int32} {n : Nat} (h : inb i n = true) : vp_in i n := by
  simp only [inb, Bool.and_eq_true, decide_eq_true_eq] at h
  exact vp_in_iff.mpr h
theorem inb_lt {i : Int32} {n : Nat} (h : inb i n = true) : i.toNatClampNeg < n := Nat.not_le.mp fun q => inb_in h (Or.inr q)
/-- a reference's place, where there is one, is in range -/
def obn (r : Option Nat) (n : Nat) : Bool := match r with
  | none => true
  | some j => decide (j < n)
theorem obn_some {r : Option Nat} {n j : Nat} (h : obn r n = true) (e : r = some j) : j < n := by
  subst e
  simpa [obn] using h
def bz (x : Int32) : Bool := decide (x = 0) || decide (x = 1)
theorem bz_nar {x : Int32} (h : bz x = true) : narrow .boolean (.int x) = .int x := by
  simp only [bz, Bool.or_eq_true, decide_eq_true_eq] at h
  rcases h with rfl | rfl <;> rfl
theorem o_if {α : Type} {c : Prop} [Decidable c] {x : Option α} {r : α} (h : (if c then x else none) = some r) : c ∧ x = some r := by
  by_cases hc : c
  · rw [if_pos hc] at h; exact ⟨hc, h⟩
  · rw [if_neg hc] at h; cases h
theorem o_t {α : Type} {c : Prop} [Decidable c] {x y z : α} (h : (if c then x else y) = z) (hc : c) : x = z := by rw [if_pos hc] at h; exact h
theorem o_f {α : Type} {c : Prop} [Decidable c] {x y z : α} (h : (if c then x else y) = z) (hc : ¬ c) : y = z := by rw [if_neg hc] at h; exact h
theorem o_t' {α : Type} {c : Prop} [Decidable c] {x y z : α} (h : (if ¬ c then x else y) = z) (hc : ¬ c) : x = z := by rw [if_pos hc] at h; exact h
theorem o_f' {α : Type} {c : Prop} [Decidable c] {x y z : α} (h : (if ¬ c then x else y) = z) (hc : c) : y = z := by rw [if_neg (fun q => q hc)] at h; exact h
theorem o_bind {α β : Type} {x : Option β} {f : β → Option α} {r : α} (h : x.bind f = some r) : ∃ v, x = some v ∧ f v = some r := by
  cases x with
  | none => cases h
  | some v => exact ⟨v, rfl, h⟩
/-- a call that may throw -/
def xb {α β : Type} (x : Option (Except String β)) (f : β → Option (Except String α)) : Option (Except String α) := match x with
  | none => none
  | some (.error e) => some (.error e)
  | some (.ok v) => f v
/-- .. where it must not -/
def yb {α β : Type} (x : Option (Except String β)) (f : β → Option α) : Option α := match x with
  | some (.ok v) => f v
  | _ => none
theorem xb_some {α β : Type} {x : Option (Except String β)} {f : β → Option (Except String α)} {r : Except String α} (h : xb x f = some r) : (∃ v, x = some (.ok v) ∧ f v = some r) ∨ ∃ e, x = some (.error e) ∧ r = .error e := by
  unfold xb at h
  split at h
  · cases h
  · exact Or.inr ⟨_, rfl, (Option.some.inj h).symm⟩
  · exact Or.inl ⟨_, rfl, h⟩
theorem xb_ok {α β : Type} {x : Option (Except String β)} {f : β → Option (Except String α)} {r : α} (h : xb x f = some (.ok r)) : ∃ v, x = some (.ok v) ∧ f v = some (.ok r) := by
  rcases xb_some h with h | ⟨e, -, h⟩
  · exact h
  · cases h
theorem yb_some {α β : Type} {x : Option (Except String β)} {f : β → Option α} {r : α} (h : yb x f = some r) : ∃ v, x = some (.ok v) ∧ f v = some r := by
  unfold yb at h
  split at h
  · exact ⟨_, rfl, h⟩
  · cases h
section HR
variable {p : Program} {l : Launch} {e : Env} {R : Room} {s : State} {m : MethodId} {args : Array Value} {below : List Frame} {meth : Method} {c : Code} {H : Heap} {locs : List Loc} {cells slots : Nat} {Q : State → Prop}
variable {cc : ByteArray} {pc : Nat} {ls : Array Slot} {rest : List Value}
theorem qv_aload_n (hexec : p.tables.exec = Jvm.exec) (hb : c.code = cc) {k : Fin 4} {i : Nat} {r : Option Nat} (hdg : decode cc pc = .ok (.aload_n k, 1)) (hi : (k : Nat) = i) (hl : ls[i]? = some (.val (va_rf r)))
    (kk : W p l e R s m args below meth c H locs cells slots Q (F0 m (pc + 1) ls (va_rf r :: rest))) : W p l e R s m args below meth c H locs cells slots Q (F0 m pc ls rest) := by
  cases r with
  | none => exact lv_aload_nN hexec hb hdg hi hl kk
  | some x => exact lv_aload_n hexec hb hdg hi hl kk
theorem qv_aload (hexec : p.tables.exec = Jvm.exec) (hb : c.code = cc) {i : Nat} {r : Option Nat} (hdg : decode cc pc = .ok (.aload i, 2)) (hl : ls[i]? = some (.val (va_rf r)))
    (kk : W p l e R s m args below meth c H locs cells slots Q (F0 m (pc + 2) ls (va_rf r :: rest))) : W p l e R s m args below meth c H locs cells slots Q (F0 m pc ls rest) := by
  cases r with
  | none => exact lv_aloadN hexec hb hdg hl kk
  | some x => exact lv_aload hexec hb hdg hl kk
theorem qv_astore_n (hexec : p.tables.exec = Jvm.exec) (hb : c.code = cc) {k : Fin 4} {i nL : Nat} {r : Option Nat} {lv lv' : List (Nat × Value)} (hdg : decode cc pc = .ok (.astore_n k, 1)) (hi : (k : Nat) = i) (h : lv_has ls nL lv) (hn : i < nL) (hl : (i, va_rf r) :: lv.filter (fun q => !(q.1 == i) && !(q.1 + 1 == i && q.2.category == 2)) = lv')
    (kk : ∀ ls' : Array Slot, lv_has ls' nL lv' → W p l e R s m args below meth c H locs cells slots Q (F0 m (pc + 1) ls' rest)) : W p l e R s m args below meth c H locs cells slots Q (F0 m pc ls (va_rf r :: rest)) := by
  cases r with
  | none => exact lv_astore_nN hexec hb hdg hi h hn hl kk
  | some x => exact lv_astore_n hexec hb hdg hi h hn hl kk
theorem qv_astore (hexec : p.tables.exec = Jvm.exec) (hb : c.code = cc) {i nL : Nat} {r : Option Nat} {lv lv' : List (Nat × Value)} (hdg : decode cc pc = .ok (.astore i, 2)) (h : lv_has ls nL lv) (hn : i < nL) (hl : (i, va_rf r) :: lv.filter (fun q => !(q.1 == i) && !(q.1 + 1 == i && q.2.category == 2)) = lv')
    (kk : ∀ ls' : Array Slot, lv_has ls' nL lv' → W p l e R s m args below meth c H locs cells slots Q (F0 m (pc + 2) ls' rest)) : W p l e R s m args below meth c H locs cells slots Q (F0 m pc ls (va_rf r :: rest)) := by
  cases r with
  | none => exact lv_astoreN hexec hb hdg h hn hl kk
  | some x => exact lv_astore hexec hb hdg h hn hl kk
/-- a world that is only read -/
abbrev roB (D : va_G) (tys : List (ClassId × FieldType)) (ws : va_W) : State → Prop := fun U => va_P D vwCl ws U.heap ∧ va_K D vwCl tys U
theorem roB_blind {D : va_G} {tys : List (ClassId × FieldType)} {ws : va_W} {As : List Value} : FrameBlind (va_Pc As (roB D tys ws)) := fun a U g mk q => ⟨q.1, q.2.1, va_K.moved (u := U) (U := U.calling g mk a) (Vm.Alike.refl U.vm) q.2.2⟩
/-- a world that is written -/
abbrev rwB (D : va_G) (tys : List (ClassId × FieldType)) (ws : va_W) (sz : Nat) : State → Prop := fun U => U.heap.size = sz ∧ va_P D vwCl ws U.heap ∧ va_K D vwCl tys U ∧ va_D (fun _ => True) ws
theorem rwB_blind {D : va_G} {tys : List (ClassId × FieldType)} {ws : va_W} {sz : Nat} {As : List Value} : FrameBlind (va_Pc As (rwB D tys ws sz)) := fun a U g mk q => ⟨q.1, q.2.1, q.2.2.1, va_K.moved (u := U) (U := U.calling g mk a) (Vm.Alike.refl U.vm) q.2.2.2.1, q.2.2.2.2⟩
abbrev rwE {S : Type} (D : va_G) (tys : List (ClassId × FieldType)) (A : Nat → Prop) (wf : S → va_W) : S → State → Prop := fun u t => va_P D vwCl (wf u) t.heap ∧ va_K D vwCl tys t ∧ va_D A (wf u)
variable {nL maxL index mc ms : Nat} {own C : String} {b : Addr} {y : MethodName} {yb : ByteArray} {ret : Option FieldType} {rm : Room} {D : va_G} {tys : List (ClassId × FieldType)} {ws : va_W} {As st0 : List Value} {Qc : Array Value → State → Outcome → State → Prop} {A : Nat → Prop} {H0 : Heap}
abbrev rcvr (s : State) (H : Heap) (C : String) (b : Addr) : Prop := ∃ cellB : Cell, H[b]? = some cellB ∧ cellB.vm.isStatics = false ∧ s.vm.findClass C = some cellB.cls
theorem ro_runV (S : CallFix p m c cc nL s args LA own) (hP : va_P D vwCl ws H) (hK : va_K D vwCl tys s) (hM : Met l y (ws_ y yb maxL ret) rm (va_Pc (.ref b :: As) (roB D tys ws)) Qc 0 0 (fun _ => False)) (hG : GoodIn LA (wsV own index C y (ws_ y yb maxL ret))) (hrc : rcvr s H C b)
    (hd : y.cls = C ∧ y.cls ≠ "java/lang/invoke/MethodHandle" ∧ y.cls ≠ "java/lang/invoke/VarHandle" ∧ (parseMethodDescriptor y.desc).map (fun d => d.parameters.length) = some As.length) (hR : rm.frames + 1 ≤ R.frames ∧ 8 + (maxL + 11) + rm.locals ≤ R.locals) (h0 : rm.cells = 0 ∧ rm.slots = 0) (hsz : ls.size = nL) (hw : (rest.map fun v => v.category).sum ≤ 8) (hdg : decode cc pc = .ok (.invokevirtual index, 3)) (hc : cells ≤ R.cells ∧ slots ≤ R.slots) (hst : st0 = As.reverse ++ .ref b :: rest) :
    CallRun p l e R s m args below meth c H locs cells slots 0 0 (F0 m pc ls st0) rest (Qc (Value.ref b :: As).toArray) (fun _ => False) :=
  (va_runV S hM (cwV As.length S.2.2.2.2 hG rfl h0.1 h0.2 hd hR) ⟨roB_blind, hrc, fun U hU hW => ⟨rfl, by rw [hU]; exact hP, va_K.moved hW.alike hK⟩⟩ rfl rfl hsz hst (lv_room hw) hdg ⟨by omega, by omega⟩).run
theorem ro_runS (S : CallFix p m c cc nL s args LA own) (hP : va_P D vwCl ws H) (hK : va_K D vwCl tys s) (hM : Met l y (ws_ y yb maxL ret) rm (va_Pc As (roB D tys ws)) Qc 0 0 (fun _ => False)) (hG : GoodIn LA (va_wsS own index y (ws_ y yb maxL ret)))
    (hd : y.cls ≠ "java/lang/invoke/MethodHandle" ∧ y.cls ≠ "java/lang/invoke/VarHandle" ∧ (parseMethodDescriptor y.desc).map (fun d => d.parameters.length) = some As.length) (hR : rm.frames + 1 ≤ R.frames ∧ 8 + (maxL + 11) + rm.locals ≤ R.locals) (h0 : rm.cells = 0 ∧ rm.slots = 0) (hsz : ls.size = nL) (hw : (rest.map fun v => v.category).sum ≤ 8) (hdg : decode cc pc = .ok (.invokestatic index, 3)) (hc : cells ≤ R.cells ∧ slots ≤ R.slots) (hst : st0 = As.reverse ++ rest) :
    CallRun p l e R s m args below meth c H locs cells slots 0 0 (F0 m pc ls st0) rest (Qc As.toArray) (fun _ => False) :=
  (va_runS S hM (va_cwS As.length S.2.2.2.2 hG rfl h0.1 h0.2 hd hR) ⟨roB_blind, fun U hU hW => ⟨rfl, by rw [hU]; exact hP, va_K.moved hW.alike hK⟩⟩ rfl rfl hsz hst (lv_room hw) hdg ⟨by omega, by omega⟩).run
theorem rw_runV (S : CallFix p m c cc nL s args LA own) (hP : va_P D vwCl ws H) (hK : va_K D vwCl tys s) (hD : va_D A ws) (hM : Met l y (ws_ y yb maxL ret) rm (va_Pc (.ref b :: As) (rwB D tys ws H.size)) Qc mc ms (va_A ws H.size)) (hG : GoodIn LA (wsV own index C y (ws_ y yb maxL ret))) (hrc : rcvr s H C b)
    (hd : y.cls = C ∧ y.cls ≠ "java/lang/invoke/MethodHandle" ∧ y.cls ≠ "java/lang/invoke/VarHandle" ∧ (parseMethodDescriptor y.desc).map (fun d => d.parameters.length) = some As.length) (hR : rm.frames + 1 ≤ R.frames ∧ 8 + (maxL + 11) + rm.locals ≤ R.locals) (h0 : rm.cells = mc ∧ rm.slots = ms) (hsz : ls.size = nL) (hw : (rest.map fun v => v.category).sum ≤ 8) (hdg : decode cc pc = .ok (.invokevirtual index, 3)) (hc : cells + mc ≤ R.cells ∧ slots + ms ≤ R.slots) (hst : st0 = As.reverse ++ .ref b :: rest) :
    va_Run p l e R s m args below meth c H locs cells slots mc ms (F0 m pc ls st0) rest (Qc (Value.ref b :: As).toArray) (va_A ws H.size) :=
  va_runV S hM (cwV As.length S.2.2.2.2 hG rfl h0.1 h0.2 hd hR) ⟨rwB_blind, hrc, fun U hU hW => ⟨rfl, by rw [hU], by rw [hU]; exact hP, va_K.moved hW.alike hK, hD.weaken (fun _ _ _ _ => trivial)⟩⟩ rfl rfl hsz hst (lv_room hw) hdg hc
theorem rw_free (hD : va_D A ws) (hS : va_S A H0 H locs) (hA : ∀ q : Nat, H0.size ≤ q → A q) : ∀ q : Nat, va_A ws H.size q → A q := by
  intro q h
  rcases h with ⟨k, x, h⟩ | h
  · exact hD.2 k _ h
  · exact hA q (Nat.le_trans hS.1 h)
theorem rw_calli {S : Type} {wf : S → va_W} {u' : S} {r : Int32} {a : Array Value} (hr : va_Run p l e R s m args below meth c H locs cells slots mc ms (F0 m pc ls st0) rest (va_Qi (fun x u => x = r ∧ u = u') (rwE D tys (va_A ws H.size) wf) (va_A ws H.size) a) (va_A ws H.size)) (hD : va_D A ws) (hS : va_S A H0 H locs) (hA : ∀ q : Nat, H0.size ≤ q → A q)
    (kk : ∀ (H1 : Heap) (locs1 : List Loc), va_P D vwCl (wf u') H1 → va_D A (wf u') → va_S A H0 H1 locs1 → W p l e R s m args below meth c H1 locs1 (cells + mc) (slots + ms) Q (F0 m (pc + 3) ls (.int r :: rest))) : W p l e R s m args below meth c H locs cells slots Q (F0 m pc ls st0) := by
  have hf : ∀ q : Nat, va_A ws H.size q → A q := rw_free hD hS hA
  refine va_calli hr hS (fun q _ h => hf q h) hf (fun r u t H1 locs ht hvm hw hB hz hk hS => ?_)
  obtain ⟨rfl, rfl⟩ := hw
  obtain ⟨h1, -, h3⟩ := hB
  rw [ht] at h1
  exact kk H1 locs h1 (h3.weaken (fun _ _ _ h => hf _ h)) hS
theorem rw_callv {S : Type} {wf : S → va_W} {u' : S} {a : Array Value} (hr : va_Run p l e R s m args below meth c H locs cells slots mc ms (F0 m pc ls st0) rest (va_Qv (fun u => u = u') (rwE D tys (va_A ws H.size) wf) (va_A ws H.size) a) (va_A ws H.size)) (hD : va_D A ws) (hS : va_S A H0 H locs) (hA : ∀ q : Nat, H0.size ≤ q → A q)
    (kk : ∀ (H1 : Heap) (locs1 : List Loc), va_P D vwCl (wf u') H1 → va_D A (wf u') → va_S A H0 H1 locs1 → W p l e R s m args below meth c H1 locs1 (cells + mc) (slots + ms) Q (F0 m (pc + 3) ls rest)) : W p l e R s m args below meth c H locs cells slots Q (F0 m pc ls st0) := by
  have hf : ∀ q : Nat, va_A ws H.size q → A q := rw_free hD hS hA
  refine va_callv hr hS (fun q _ h => hf q h) hf (fun u t H1 locs ht hvm hw hB hz hk hS => ?_)
  subst hw
  obtain ⟨h1, -, h3⟩ := hB
  rw [ht] at h1
  exact kk H1 locs h1 (h3.weaken (fun _ _ _ h => hf _ h)) hS
theorem no_locs {free : Addr → Prop} : ∀ q ∈ ([] : List Loc), free q.base := fun _ h => absurd h List.not_mem_nil
theorem ro_iret (hx : p.tables.exec = Jvm.exec) (hb : c.code = cc) (hr : meth.sig.returnType = some .int) (hlocks : meth.locks = false) (hdg : decode cc pc = .ok (.ireturn, 1)) {v r : Int32} (hv : v = r) : W p l e R s m args below meth c s.heap [] 0 0 (MQ below (vp_Si (fun x => x = r)) args s 0 0 (fun _ => False)) (F0 m pc ls [.int v]) :=
  W.iret hx hb hr (fun _ ht _ => ⟨v, rfl, hv, ht⟩) no_locs hdg hlocks
theorem ro_zret (hx : p.tables.exec = Jvm.exec) (hb : c.code = cc) (hr : meth.sig.returnType = some .boolean) (hlocks : meth.locks = false) (hdg : decode cc pc = .ok (.ireturn, 1)) {v r : Int32} (hn : bz v = true) (hv : v = r) : W p l e R s m args below meth c s.heap [] 0 0 (MQ below (vp_Si (fun x => x = r)) args s 0 0 (fun _ => False)) (F0 m pc ls [.int v]) :=
  W.zret hx hb hr (bz_nar hn) (fun _ ht _ => ⟨v, rfl, hv, ht⟩) no_locs hdg hlocks
theorem ro_lret (hx : p.tables.exec = Jvm.exec) (hb : c.code = cc) (hr : meth.sig.returnType = some .long) (hlocks : meth.locks = false) (hdg : decode cc pc = .ok (.lreturn, 1)) {v r : Int64} (hv : v = r) : W p l e R s m args below meth c s.heap [] 0 0 (MQ below (vp_Sl (fun x => x = r)) args s 0 0 (fun _ => False)) (F0 m pc ls [.long v]) :=
  W.lret hx hb hr (fun _ ht _ => ⟨v, rfl, hv, ht⟩) no_locs hdg hlocks
theorem ro_dret (hx : p.tables.exec = Jvm.exec) (hb : c.code = cc) (hr : meth.sig.returnType = some .double) (hlocks : meth.locks = false) (hdg : decode cc pc = .ok (.dreturn, 1)) {v r : UInt64} (hv : v = r) : W p l e R s m args below meth c s.heap [] 0 0 (MQ below (vp_Sd (fun x => x = r)) args s 0 0 (fun _ => False)) (F0 m pc ls [.double v]) :=
  W.dret hx hb hr (fun _ ht _ => ⟨v, rfl, hv, ht⟩) no_locs hdg hlocks
theorem ro_aret {rc : String} {ad : Nat → Nat} (hx : p.tables.exec = Jvm.exec) (hb : c.code = cc) (hr : meth.sig.returnType = some (.object rc)) (hlocks : meth.locks = false) (hdg : decode cc pc = .ok (.areturn, 1)) {v r : Option Nat} (hv : v = r) : W p l e R s m args below meth c s.heap [] 0 0 (MQ below (va_Se ad (fun x => x = r)) args s 0 0 (fun _ => False)) (F0 m pc ls [va_rf (v.map ad)]) :=
  W.aret hx hb hr (Or.inl ⟨_, rfl⟩) (va_rf_or _) (fun _ ht _ => ⟨v, rfl, hv, ht⟩) no_locs hdg hlocks
theorem ro_vret (hx : p.tables.exec = Jvm.exec) (hb : c.code = cc) (hr : meth.sig.returnType = none) (hlocks : meth.locks = false) (hdg : decode cc pc = .ok (.return_, 1)) : W p l e R s m args below meth c s.heap [] 0 0 (MQ below (va_Sv (fun _ => True)) args s 0 0 (fun _ => False)) (F0 m pc ls []) :=
  W.vret hx hb hr (fun _ ht _ => ⟨rfl, trivial, ht⟩) no_locs hdg hlocks
theorem rw_iret {S : Type} {wf : S → va_W} {u' : S} {r v : Int32} (hx : p.tables.exec = Jvm.exec) (hb : c.code = cc) (hr : meth.sig.returnType = some .int) (hlocks : meth.locks = false) (hP : va_P D vwCl (wf u') H) (hK : va_K D vwCl tys s) (hD : va_D A (wf u')) (hS : va_S A s.heap H locs) (hdg : decode cc pc = .ok (.ireturn, 1)) (hv : v = r) :
    W p l e R s m args below meth c H locs cells slots (MQ below (va_Qi (fun x u => x = r ∧ u = u') (rwE D tys A wf) A) args s cells slots A) (F0 m pc ls [.int v]) :=
  W.iret hx hb hr (fun t ht hW => ⟨⟨v, u', rfl, ⟨hv, rfl⟩, by rw [ht]; exact hP, va_K.moved hW.alike hK, hD⟩, hS.F ht⟩) hS.2.2 hdg hlocks
theorem rw_zret {S : Type} {wf : S → va_W} {u' : S} {r v : Int32} (hx : p.tables.exec = Jvm.exec) (hb : c.code = cc) (hr : meth.sig.returnType = some .boolean) (hlocks : meth.locks = false) (hn : bz v = true) (hP : va_P D vwCl (wf u') H) (hK : va_K D vwCl tys s) (hD : va_D A (wf u')) (hS : va_S A s.heap H locs) (hdg : decode cc pc = .ok (.ireturn, 1)) (hv : v = r) :
    W p l e R s m args below meth c H locs cells slots (MQ below (va_Qi (fun x u => x = r ∧ u = u') (rwE D tys A wf) A) args s cells slots A) (F0 m pc ls [.int v]) :=
  W.zret hx hb hr (bz_nar hn) (fun t ht hW => ⟨⟨v, u', rfl, ⟨hv, rfl⟩, by rw [ht]; exact hP, va_K.moved hW.alike hK, hD⟩, hS.F ht⟩) hS.2.2 hdg hlocks
theorem rw_vret {S : Type} {wf : S → va_W} {u' : S} (hx : p.tables.exec = Jvm.exec) (hb : c.code = cc) (hr : meth.sig.returnType = none) (hlocks : meth.locks = false) (hP : va_P D vwCl (wf u') H) (hK : va_K D vwCl tys s) (hD : va_D A (wf u')) (hS : va_S A s.heap H locs) (hdg : decode cc pc = .ok (.return_, 1)) :
    W p l e R s m args below meth c H locs cells slots (MQ below (va_Qv (fun u => u = u') (rwE D tys A wf) A) args s cells slots A) (F0 m pc ls []) :=
  W.vret hx hb hr (fun t ht hW => ⟨⟨u', rfl, rfl, by rw [ht]; exact hP, va_K.moved hW.alike hK, hD⟩, hS.F ht⟩) hS.2.2 hdg hlocks
end HR
theorem oe_sif {α : Type} {n j : Nat} {x : Option α} {f : Nat → Option α} {r : α} (h : Option.elim (some j) x (fun j => if j < n then f j else none) = some r) : j < n ∧ f j = some r := o_if h
theorem oe_n {α : Type} {x : Option α} {f : Nat → Option α} {r : α} (h : Option.elim (none : Option Nat) x f = some r) : x = some r := h
theorem tb_out {x : Int32} {lo hi : Int} (h : ¬ (lo ≤ x.toInt ∧ x.toInt ≤ hi)) : x.toInt < lo ∨ hi < x.toInt := by omega
def n64b (x : UInt64) : Bool := decide (x &&& 0x7fffffffffffffff ≤ 0x7ff0000000000000)
theorem n64b_ok {x : UInt64} (h : n64b x = true) : vf_n64 x := by simpa [n64b, vf_n64] using h
section HR2
variable {p : Program} {l : Launch} {e : Env} {R : Room} {s : State} {m : MethodId} {args : Array Value} {below : List Frame} {meth : Method} {c : Code} {H : Heap} {locs : List Loc} {cells slots : Nat} {Q : State → Prop}
variable {cc : ByteArray} {pc : Nat} {ls : Array Slot} {rest st0 : List Value} {D : va_G} {tys : List (ClassId × FieldType)} {ws : va_W} {A : Nat → Prop} {H0 : Heap} {mc ms : Nat}
/-- a call that answers a reference that isn't null -/
theorem ro_calle1 {ad : Nat → Nat} {r : Nat} {a : Array Value} (hr : CallRun p l e R s m args below meth c H locs cells slots 0 0 (F0 m pc ls st0) rest (va_Se ad (fun x => x = some r) a) (fun _ => False))
    (kk : W p l e R s m args below meth c H locs cells slots Q (F0 m (pc + 3) ls (.ref (ad r) :: rest))) : W p l e R s m args below meth c H locs cells slots Q (F0 m pc ls st0) :=
  va_cse hr (fun x hx => by subst hx; exact kk)
theorem ro_calle {ad : Nat → Nat} {r : Option Nat} {a : Array Value} (hr : CallRun p l e R s m args below meth c H locs cells slots 0 0 (F0 m pc ls st0) rest (va_Se ad (fun x => x = r) a) (fun _ => False))
    (kk : W p l e R s m args below meth c H locs cells slots Q (F0 m (pc + 3) ls (va_rf (r.map ad) :: rest))) : W p l e R s m args below meth c H locs cells slots Q (F0 m pc ls st0) :=
  va_cse hr (fun x hx => by subst hx; exact kk)
theorem ro_calli {r : Int32} {a : Array Value} (hr : CallRun p l e R s m args below meth c H locs cells slots 0 0 (F0 m pc ls st0) rest (vp_Si (fun x => x = r) a) (fun _ => False))
    (kk : W p l e R s m args below meth c H locs cells slots Q (F0 m (pc + 3) ls (.int r :: rest))) : W p l e R s m args below meth c H locs cells slots Q (F0 m pc ls st0) :=
  vp_callSi hr (fun x hx => by subst hx; exact kk)
theorem ro_calll {r : Int64} {a : Array Value} (hr : CallRun p l e R s m args below meth c H locs cells slots 0 0 (F0 m pc ls st0) rest (vp_Sl (fun x => x = r) a) (fun _ => False))
    (kk : W p l e R s m args below meth c H locs cells slots Q (F0 m (pc + 3) ls (.long r :: rest))) : W p l e R s m args below meth c H locs cells slots Q (F0 m pc ls st0) :=
  vp_callSl hr (fun x hx => by subst hx; exact kk)
theorem ro_callv {a : Array Value} (hr : CallRun p l e R s m args below meth c H locs cells slots 0 0 (F0 m pc ls st0) rest (va_Sv (fun _ => True) a) (fun _ => False))
    (kk : W p l e R s m args below meth c H locs cells slots Q (F0 m (pc + 3) ls rest)) : W p l e R s m args below meth c H locs cells slots Q (F0 m pc ls st0) :=
  va_csv hr (fun _ => kk)
theorem ro_aret1 {rc : String} {ad : Nat → Nat} (hx : p.tables.exec = Jvm.exec) (hb : c.code = cc) (hr : meth.sig.returnType = some (.object rc)) (hlocks : meth.locks = false) (hdg : decode cc pc = .ok (.areturn, 1)) {v r : Nat} (hv : v = r) : W p l e R s m args below meth c s.heap [] 0 0 (MQ below (va_Se ad (fun x => x = some r)) args s 0 0 (fun _ => False)) (F0 m pc ls [.ref (ad v)]) :=
  ro_aret (v := some v) hx hb hr hlocks hdg (congrArg some hv)
theorem rw_lret {S : Type} {wf : S → va_W} {u' : S} {r v : Int64} (hx : p.tables.exec = Jvm.exec) (hb : c.code = cc) (hr : meth.sig.returnType = some .long) (hlocks : meth.locks = false) (hP : va_P D vwCl (wf u') H) (hK : va_K D vwCl tys s) (hD : va_D A (wf u')) (hS : va_S A s.heap H locs) (hdg : decode cc pc = .ok (.lreturn, 1)) (hv : v = r) :
    W p l e R s m args below meth c H locs cells slots (MQ below (va_Ql (fun x u => x = r ∧ u = u') (rwE D tys A wf) A) args s cells slots A) (F0 m pc ls [.long v]) :=
  W.lret hx hb hr (fun t ht hW => ⟨⟨v, u', rfl, ⟨hv, rfl⟩, by rw [ht]; exact hP, va_K.moved hW.alike hK, hD⟩, hS.F ht⟩) hS.2.2 hdg hlocks
theorem rw_dret {S : Type} {wf : S → va_W} {u' : S} {r v : UInt64} (hx : p.tables.exec = Jvm.exec) (hb : c.code = cc) (hr : meth.sig.returnType = some .double) (hlocks : meth.locks = false) (hP : va_P D vwCl (wf u') H) (hK : va_K D vwCl tys s) (hD : va_D A (wf u')) (hS : va_S A s.heap H locs) (hdg : decode cc pc = .ok (.dreturn, 1)) (hv : v = r) :
    W p l e R s m args below meth c H locs cells slots (MQ below (va_Qd (fun x u => x = r ∧ u = u') (rwE D tys A wf) A) args s cells slots A) (F0 m pc ls [.double v]) :=
  W.dret hx hb hr (fun t ht hW => ⟨⟨v, u', rfl, ⟨hv, rfl⟩, by rw [ht]; exact hP, va_K.moved hW.alike hK, hD⟩, hS.F ht⟩) hS.2.2 hdg hlocks
end HR2
def KI (a : KAd) : Prop := ∀ i j : Nat, i < 12 → j < 12 → aS a i = aS a j → i = j
theorem wP {D : va_G} {ws ws' : va_W} {H : Heap} (e : ws = ws') (h : va_P D vwCl ws H) : va_P D vwCl ws' H := e ▸ h
theorem wD {A : Nat → Prop} {ws ws' : va_W} (e : ws = ws') (h : va_D A ws) : va_D A ws' := e ▸ h
section HR3
variable {p : Program} {l : Launch} {e : Env} {R : Room} {s : State} {m : MethodId} {args : Array Value} {below : List Frame} {meth : Method} {c : Code} {H : Heap} {locs : List Loc} {cells slots : Nat} {Q : State → Prop}
variable {cc : ByteArray} {pc : Nat} {ls : Array Slot} {rest st0 : List Value} {D : va_G} {c5 : Nat → ClassId} {a : KAd} {k : KSt} {A : Nat → Prop} {H0 : Heap}
theorem va_aldS (hx : p.tables.exec = Jvm.exec) (hb : c.code = cc) (hK : va_K D vwCl (tyG c5) s) (hP : va_P D vwCl (KW c5 a k) H) {i : Int32} (hin : inb i 12 = true) (hdg : decode cc pc = .ok (.aaload, 1))
    (kk : W p l e R s m args below meth c H locs cells slots Q (F0 m (pc + 1) ls (.ref (aS a (i.toNatClampNeg)) :: rest))) : W p l e R s m args below meth c H locs cells slots Q (F0 m pc ls (.int i :: .ref (aO a 1) :: rest)) :=
  va_aldq (C := RX1) hx hb hK hP 1 0 (KW_1 c5 a k) rfl (inb_in hin) hdg kk
theorem va_aldK (hx : p.tables.exec = Jvm.exec) (hb : c.code = cc) (hK : va_K D vwCl (tyG c5) s) (hP : va_P D vwCl (KW c5 a k) H) {i : Int32} (hin : inb i 5 = true) (hdg : decode cc pc = .ok (.aaload, 1))
    (kk : W p l e R s m args below meth c H locs cells slots Q (F0 m (pc + 1) ls (va_rf ((knd k (i.toNatClampNeg)).map (aK a)) :: rest))) : W p l e R s m args below meth c H locs cells slots Q (F0 m pc ls (.int i :: .ref (aO a 2) :: rest)) :=
  va_aldq (C := RX0) hx hb hK hP 2 1 (KW_2 c5 a k) rfl (inb_in hin) hdg kk
theorem va_aldK1 (hx : p.tables.exec = Jvm.exec) (hb : c.code = cc) (hK : va_K D vwCl (tyG c5) s) (hP : va_P D vwCl (KW c5 a k) H) {i : Int32} (hin : inb i 5 = true) {j : Nat} (hq : knd k (i.toNatClampNeg) = some j) (hdg : decode cc pc = .ok (.aaload, 1))
    (kk : W p l e R s m args below meth c H locs cells slots Q (F0 m (pc + 1) ls (.ref (aK a j) :: rest))) : W p l e R s m args below meth c H locs cells slots Q (F0 m pc ls (.int i :: .ref (aO a 2) :: rest)) := by
  refine va_aldK hx hb hK hP hin hdg ?_
  rw [hq]
  exact kk
end HR3
theorem va_rf_cat (r : Option Nat) : (va_rf r).category = 1 := by cases r <;> rfl
end
section
def R_X0_countShelf (k : KSt) (j : Nat) : Option (KSt) := if (kK (kKs k 4 j ((kK k 4 j) + (1 : Int32))) 3 j) ≤ (kK (kKs k 4 j ((kK k 4 j) + (1 : Int32))) 5 j) then some (kKs (kKs k 4 j ((kK k 4 j) + (1 : Int32))) 5 j (0 : Int32)) else some (kKs (kKs k 4 j ((kK k 4 j) + (1 : Int32))) 5 j ((kK (kKs k 4 j ((kK k 4 j) + (1 : Int32))) 5 j) + (1 : Int32)))

def R_X0_shelvesFor (k : KSt) (j : Nat) (p1 : Int32) : Option (Int32) := if (1 : Int32) ≤ (kK k 2 j) then if ¬ (kK k 2 j) = 0 then some (((p1 + (kK k 2 j)) - (1 : Int32)) / (kK k 2 j)) else none else some (0 : Int32)

def R_X1_standsOn (k : KSt) (i : Nat) (p1 : Int32) : Option (Int32) := if p1 < 0 then some (0 : Int32) else if (12 : Int32) ≤ p1 then some (0 : Int32) else if inb p1 12 = true then if (kB k i (p1.toNatClampNeg)) = 0 then some (0 : Int32) else some (1 : Int32) else none

def R_X1_firstGap_L2 (k : KSt) (i : Nat) : Nat → Int32 → Option (Int32)
  | 0, _ => none
  | n + 1, x1_2 => if (kS k 4 i) ≤ x1_2 then some (-1 : Int32) else (R_X1_standsOn k i x1_2).bind fun v12 => if ¬ v12 = 0 then R_X1_firstGap_L2 k i n (x1_2 + (1 : Int32)) else some x1_2
def R_X1_firstGap (k : KSt) (i : Nat) : Option (Int32) := R_X1_firstGap_L2 k i FU (0 : Int32)

def R_X1_answer (k : KSt) (i : Nat) (p1 : Int32) : Option (Int32) := if p1 = 0 then some (kS k 2 i) else if p1 = 1 then some (kS k 6 i) else if p1 = 2 then some (kS k 5 i) else if p1 = 3 then some (kS k 4 i) else if p1 = 4 then (R_X1_firstGap k i).bind fun v57 => some v57 else some (kS k 7 i)

def R_X1_state (k : KSt) (i : Nat) : Option (Int32) := if ¬ (kS k 2 i) = (-1 : Int32) then if ¬ (kS k 6 i) = 0 then if (kS k 4 i) ≤ (kS k 6 i) then some (3 : Int32) else some (2 : Int32) else some (1 : Int32) else some (0 : Int32)

def R_X1_isOf (k : KSt) (i : Nat) (j1 : Nat) : Option (Int32) := if ¬ (kS k 2 i) = (nI j1) then some (0 : Int32) else some (1 : Int32)

def R_X1_comeTo (k : KSt) (i : Nat) (j1 : Nat) : Option (KSt) := (R_X0_countShelf (kSs (kSs (kSs (kSs k 2 i (nI j1)) 3 i (kK (kSs k 2 i (nI j1)) 1 j1)) 4 i (kK (kSs (kSs k 2 i (nI j1)) 3 i (kK (kSs k 2 i (nI j1)) 1 j1)) 2 j1)) 5 i (kK (kSs (kSs (kSs k 2 i (nI j1)) 3 i (kK (kSs k 2 i (nI j1)) 1 j1)) 4 i (kK (kSs (kSs k 2 i (nI j1)) 3 i (kK (kSs k 2 i (nI j1)) 1 j1)) 2 j1)) 5 j1)) j1).bind fun v33 => some v33

def R_X1_becomeFree (k : KSt) (i : Nat) : Option (KSt) := some (kSs (kSs (kSs (kSs (kSs k 2 i (-1 : Int32)) 3 i (0 : Int32)) 4 i (0 : Int32)) 5 i (0 : Int32)) 7 i (-1 : Int32))

def R_X1_addBowl (k : KSt) (i : Nat) (p1 : Int32) : Option (KSt) := if p1 < 0 then some k else if (12 : Int32) ≤ p1 then some k else if inb p1 12 = true then some (kSs (kSs (kBs k i (upd (kB k i) (p1.toNatClampNeg) (vp_nar .boolean (1 : Int32)))) 6 i ((kS (kBs k i (upd (kB k i) (p1.toNatClampNeg) (vp_nar .boolean (1 : Int32)))) 6 i) + (1 : Int32))) 7 i (-1 : Int32)) else none

def R_X1_removeBowl (k : KSt) (i : Nat) (p1 : Int32) (p2 : Int32) : Option (KSt) := if p1 < 0 then some k else if (12 : Int32) ≤ p1 then some k else if inb p1 12 = true then if ¬ (kS (kSs (kBs k i (upd (kB k i) (p1.toNatClampNeg) (vp_nar .boolean (0 : Int32)))) 6 i ((kS (kBs k i (upd (kB k i) (p1.toNatClampNeg) (vp_nar .boolean (0 : Int32)))) 6 i) - (1 : Int32))) 6 i) = 0 then some (kSs (kSs (kBs k i (upd (kB k i) (p1.toNatClampNeg) (vp_nar .boolean (0 : Int32)))) 6 i ((kS (kBs k i (upd (kB k i) (p1.toNatClampNeg) (vp_nar .boolean (0 : Int32)))) 6 i) - (1 : Int32))) 7 i (-1 : Int32)) else some (kSs (kSs (kBs k i (upd (kB k i) (p1.toNatClampNeg) (vp_nar .boolean (0 : Int32)))) 6 i ((kS (kBs k i (upd (kB k i) (p1.toNatClampNeg) (vp_nar .boolean (0 : Int32)))) 6 i) - (1 : Int32))) 7 i p2) else none

def R_X1_lastBowl_L7 (k : KSt) (i : Nat) : Nat → Int32 → Option (Int32)
  | 0, _ => none
  | n + 1, x1_7 => if x1_7 < 0 then some (-1 : Int32) else (R_X1_standsOn k i x1_7).bind fun v13 => if v13 = 0 then R_X1_lastBowl_L7 k i n (x1_7 + (-1 : Int32)) else some x1_7
def R_X1_lastBowl (k : KSt) (i : Nat) : Option (Int32) := R_X1_lastBowl_L7 k i FU ((kS k 4 i) - (1 : Int32))

def R_X1_beginOf (k : KSt) (i : Nat) (p1 : Int32) : Option (Int32) := some (((nI (24 * i)) + (kS k 5 i)) + (p1 * (kS k 3 i)))

def R_X1_placeAt (k : KSt) (i : Nat) (p1 : Int32) : Option (Int32) := if (kS k 3 i) < (1 : Int32) then some (-1 : Int32) else if ((p1 - (nI (24 * i))) - (kS k 5 i)) < 0 then some (-1 : Int32) else if ((p1 - (nI (24 * i))) - (kS k 5 i)) < ((kS k 4 i) * (kS k 3 i)) then if ¬ (kS k 3 i) = 0 then some (((p1 - (nI (24 * i))) - (kS k 5 i)) / (kS k 3 i)) else none else some (-1 : Int32)

def R_X2_setWay (k : KSt) (p1 : Int32) : Option (Except String (Int32 × KSt)) := if p1 < 0 then some (.error "java/lang/IndexOutOfBoundsException") else if p1 ≤ (2 : Int32) then some (.ok ((kG k 1), (kGs k 1 p1))) else some (.error "java/lang/IndexOutOfBoundsException")

def R_X2_kindOf (k : KSt) (p1 : Int32) : Option (Except String (Nat)) := if p1 < 0 then some (.error "java/lang/IndexOutOfBoundsException") else if (5 : Int32) ≤ p1 then some (.error "java/lang/IndexOutOfBoundsException") else if inb p1 5 = true then Option.elim (knd k (p1.toNatClampNeg)) (some (.error "java/lang/IndexOutOfBoundsException")) (fun j19 => if j19 < kN k then if inb p1 5 = true then some (.ok j19) else none else none) else none

def R_X2_mostBowls_L16 (k : KSt) (j1 : Nat) (o2 : Option Nat) : Nat → Option Nat → Int32 → Option (Option Nat)
  | 0, _, _ => none
  | n + 1, x3_16, x6_16 => if (12 : Int32) ≤ x6_16 then some x3_16 else if inb x6_16 12 = true then if (some (x6_16.toNatClampNeg) : Option Nat) = o2 then R_X2_mostBowls_L16 k j1 o2 n x3_16 (x6_16 + (1 : Int32)) else (R_X1_isOf k (x6_16.toNatClampNeg) j1).bind fun v39 => if v39 = 0 then R_X2_mostBowls_L16 k j1 o2 n x3_16 (x6_16 + (1 : Int32)) else (R_X1_state k (x6_16.toNatClampNeg)).bind fun v47 => if ¬ v47 = (2 : Int32) then R_X2_mostBowls_L16 k j1 o2 n x3_16 (x6_16 + (1 : Int32)) else Option.elim x3_16 (R_X2_mostBowls_L16 k j1 o2 n (some (x6_16.toNatClampNeg)) (x6_16 + (1 : Int32))) (fun j55 => if j55 < 12 then if (kS k 6 (x6_16.toNatClampNeg)) ≤ (kS k 6 j55) then R_X2_mostBowls_L16 k j1 o2 n (some j55) (x6_16 + (1 : Int32)) else R_X2_mostBowls_L16 k j1 o2 n (some (x6_16.toNatClampNeg)) (x6_16 + (1 : Int32)) else none) else none
def R_X2_mostBowls (k : KSt) (j1 : Nat) (o2 : Option Nat) : Option (Option Nat) := R_X2_mostBowls_L16 k j1 o2 FU none (0 : Int32)

def R_X2_fewestBowls_L14 (k : KSt) (j1 : Nat) : Nat → Option Nat → Int32 → Option (Option Nat)
  | 0, _, _ => none
  | n + 1, x2_14, x5_14 => if (12 : Int32) ≤ x5_14 then some x2_14 else if inb x5_14 12 = true then (R_X1_isOf k (x5_14.toNatClampNeg) j1).bind fun v30 => if v30 = 0 then R_X2_fewestBowls_L14 k j1 n x2_14 (x5_14 + (1 : Int32)) else (R_X1_state k (x5_14.toNatClampNeg)).bind fun v38 => if ¬ v38 = (2 : Int32) then R_X2_fewestBowls_L14 k j1 n x2_14 (x5_14 + (1 : Int32)) else Option.elim x2_14 (R_X2_fewestBowls_L14 k j1 n (some (x5_14.toNatClampNeg)) (x5_14 + (1 : Int32))) (fun j46 => if j46 < 12 then if (kS k 6 j46) ≤ (kS k 6 (x5_14.toNatClampNeg)) then R_X2_fewestBowls_L14 k j1 n (some j46) (x5_14 + (1 : Int32)) else R_X2_fewestBowls_L14 k j1 n (some (x5_14.toNatClampNeg)) (x5_14 + (1 : Int32)) else none) else none
def R_X2_fewestBowls (k : KSt) (j1 : Nat) : Option (Option Nat) := R_X2_fewestBowls_L14 k j1 FU none (0 : Int32)

def R_X2_firstInState_L12 (k : KSt) (j1 : Nat) (p2 : Int32) : Nat → Int32 → Option (Option Nat)
  | 0, _ => none
  | n + 1, x5_12 => if (12 : Int32) ≤ x5_12 then some none else if inb x5_12 12 = true then (R_X1_isOf k (x5_12.toNatClampNeg) j1).bind fun v28 => if v28 = 0 then R_X2_firstInState_L12 k j1 p2 n (x5_12 + (1 : Int32)) else (R_X1_state k (x5_12.toNatClampNeg)).bind fun v36 => if ¬ v36 = p2 then R_X2_firstInState_L12 k j1 p2 n (x5_12 + (1 : Int32)) else some (some (x5_12.toNatClampNeg)) else none
def R_X2_firstInState (k : KSt) (j1 : Nat) (p2 : Int32) : Option (Option Nat) := R_X2_firstInState_L12 k j1 p2 FU (0 : Int32)

def R_X2_inUseByWay (k : KSt) (j1 : Nat) : Option (Option Nat) := if (kG k 1) = 1 then (R_X2_mostBowls k j1 none).bind fun v35 => some v35 else if (kG k 1) = 2 then (R_X2_fewestBowls k j1).bind fun v41 => some v41 else (R_X2_firstInState k j1 (2 : Int32)).bind fun v48 => some v48

def R_X2_firstFree_L10 (k : KSt) : Nat → Int32 → Option (Option Nat)
  | 0, _ => none
  | n + 1, x3_10 => if (12 : Int32) ≤ x3_10 then some none else if inb x3_10 12 = true then (R_X1_state k (x3_10.toNatClampNeg)).bind fun v22 => if ¬ v22 = 0 then R_X2_firstFree_L10 k n (x3_10 + (1 : Int32)) else some (some (x3_10.toNatClampNeg)) else none
def R_X2_firstFree (k : KSt) : Option (Option Nat) := R_X2_firstFree_L10 k FU (0 : Int32)

def R_X2_shelfToPut (k : KSt) (j1 : Nat) : Option (Option Nat) := (R_X2_inUseByWay k j1).bind fun v2 => Option.elim v2 ((R_X2_firstInState k j1 (1 : Int32)).bind fun v13 => Option.elim v13 ((R_X2_firstFree k).bind fun v22 => some v22) (fun j18 => if j18 < 12 then some (some j18) else none)) (fun j7 => if j7 < 12 then some (some j7) else none)

def R_X2_put (k : KSt) (p1 : Int32) : Option (Except String (Int32 × KSt)) := xb (R_X2_kindOf k p1) fun v2 => if v2 < kN k then (R_X2_shelfToPut k v2).bind fun v8 => Option.elim v8 (some (.error "java/lang/IllegalStateException")) (fun j13 => if j13 < 12 then (R_X1_state k j13).bind fun v27 => if ¬ v27 = 0 then (R_X1_firstGap k j13).bind fun v39 => (R_X1_addBowl k j13 v39).bind fun v47 => (R_X1_beginOf (kGs (kGs v47 2 ((kG v47 2) + (1 : Int32))) 3 ((kG (kGs v47 2 ((kG v47 2) + (1 : Int32))) 3) + (1 : Int32))) j13 v39).bind fun v73 => some (.ok (v73, (kGs (kGs v47 2 ((kG v47 2) + (1 : Int32))) 3 ((kG (kGs v47 2 ((kG v47 2) + (1 : Int32))) 3) + (1 : Int32))))) else (R_X1_comeTo k j13 v2).bind fun v35 => (R_X1_firstGap v35 j13).bind fun v39 => (R_X1_addBowl v35 j13 v39).bind fun v47 => (R_X1_beginOf (kGs (kGs v47 2 ((kG v47 2) + (1 : Int32))) 3 ((kG (kGs v47 2 ((kG v47 2) + (1 : Int32))) 3) + (1 : Int32))) j13 v39).bind fun v73 => some (.ok (v73, (kGs (kGs v47 2 ((kG v47 2) + (1 : Int32))) 3 ((kG (kGs v47 2 ((kG v47 2) + (1 : Int32))) 3) + (1 : Int32))))) else none) else none

def R_X2_shelfAt (k : KSt) (p1 : Int32) : Option (Except String (Nat)) := if p1 < 0 then some (.error "java/lang/IndexOutOfBoundsException") else if p1 < (288 : Int32) then if inb (p1 / (24 : Int32)) 12 = true then some (.ok ((p1 / (24 : Int32)).toNatClampNeg)) else none else some (.error "java/lang/IndexOutOfBoundsException")

def R_X2_take (k : KSt) (p1 : Int32) : Option (Except String (Int32 × KSt)) := xb (R_X2_shelfAt k p1) fun v2 => if v2 < 12 then (R_X1_placeAt k v2 p1).bind fun v8 => (R_X1_standsOn k v2 v8).bind fun v14 => if v14 = 0 then some (.error "java/lang/IllegalArgumentException") else (R_X1_beginOf k v2 v8).bind fun v22 => if v22 = p1 then (R_X1_removeBowl (kGs k 2 ((kG k 2) + (1 : Int32))) v2 v8 (kG (kGs k 2 ((kG k 2) + (1 : Int32))) 2)).bind fun v55 => some (.ok ((kS v55 6 v2), v55)) else some (.error "java/lang/IllegalArgumentException") else none

def R_X2_reap_L34 (p1 : Int32) : Nat → KSt → Int32 → Int32 → Option (Except String (Int32 × KSt))
  | 0, _, _, _ => none
  | n + 1, k, x2_34, x5_34 => if (12 : Int32) ≤ x5_34 then some (.ok (x2_34, k)) else if inb x5_34 12 = true then (R_X1_state k (x5_34.toNatClampNeg)).bind fun v49 => if ¬ v49 = (1 : Int32) then R_X2_reap_L34 p1 n k x2_34 (x5_34 + (1 : Int32)) else if ((kG k 2) - (kS k 7 (x5_34.toNatClampNeg))) < p1 then R_X2_reap_L34 p1 n k x2_34 (x5_34 + (1 : Int32)) else (R_X1_becomeFree k (x5_34.toNatClampNeg)).bind fun v72 => R_X2_reap_L34 p1 n v72 (x2_34 + (1 : Int32)) (x5_34 + (1 : Int32)) else none
def R_X2_reap (k : KSt) (p1 : Int32) : Option (Except String (Int32 × KSt)) := if p1 < 0 then some (.error "java/lang/IllegalArgumentException") else if p1 ≤ (99 : Int32) then R_X2_reap_L34 p1 FU k (0 : Int32) (0 : Int32) else some (.error "java/lang/IllegalArgumentException")

def R_X2_lastFewestBowls_L14 (k : KSt) (j1 : Nat) : Nat → Option Nat → Int32 → Option (Option Nat)
  | 0, _, _ => none
  | n + 1, x2_14, x5_14 => if (12 : Int32) ≤ x5_14 then some x2_14 else if inb x5_14 12 = true then (R_X1_isOf k (x5_14.toNatClampNeg) j1).bind fun v30 => if v30 = 0 then R_X2_lastFewestBowls_L14 k j1 n x2_14 (x5_14 + (1 : Int32)) else (R_X1_state k (x5_14.toNatClampNeg)).bind fun v38 => if ¬ v38 = (2 : Int32) then R_X2_lastFewestBowls_L14 k j1 n x2_14 (x5_14 + (1 : Int32)) else Option.elim x2_14 (R_X2_lastFewestBowls_L14 k j1 n (some (x5_14.toNatClampNeg)) (x5_14 + (1 : Int32))) (fun j46 => if j46 < 12 then if (kS k 6 j46) < (kS k 6 (x5_14.toNatClampNeg)) then R_X2_lastFewestBowls_L14 k j1 n (some j46) (x5_14 + (1 : Int32)) else R_X2_lastFewestBowls_L14 k j1 n (some (x5_14.toNatClampNeg)) (x5_14 + (1 : Int32)) else none) else none
def R_X2_lastFewestBowls (k : KSt) (j1 : Nat) : Option (Option Nat) := R_X2_lastFewestBowls_L14 k j1 FU none (0 : Int32)

def R_X2_moveToPack (k : KSt) (j1 : Nat) : Option (Int32 × KSt) := (R_X2_lastFewestBowls k j1).bind fun v2 => if obn v2 12 = true then (R_X2_mostBowls k j1 v2).bind fun v9 => Option.elim v2 (some ((0 : Int32), k)) (fun j14 => if j14 < 12 then Option.elim v9 (some ((0 : Int32), k)) (fun j18 => if j18 < 12 then (R_X1_lastBowl k j14).bind fun v25 => (R_X1_removeBowl k j14 v25 (kG k 2)).bind fun v32 => (R_X1_firstGap v32 j18).bind fun v37 => (R_X1_addBowl v32 j18 v37).bind fun v40 => some ((1 : Int32), v40) else none) else none) else none

def R_X2_pack_L8 (v2 : Nat) : Nat → KSt → Int32 → Option (Except String (Int32 × KSt))
  | 0, _, _ => none
  | n + 1, k, x3_8 => if (1000 : Int32) ≤ x3_8 then some (.ok (x3_8, (kGs k 4 ((kG k 4) + x3_8)))) else (R_X2_moveToPack k v2).bind fun v17 => if v17.1 = 0 then some (.ok (x3_8, (kGs v17.2 4 ((kG v17.2 4) + x3_8)))) else R_X2_pack_L8 v2 n v17.2 (x3_8 + (1 : Int32))
def R_X2_pack (k : KSt) (p1 : Int32) : Option (Except String (Int32 × KSt)) := xb (R_X2_kindOf k p1) fun v2 => if v2 < kN k then R_X2_pack_L8 v2 FU k (0 : Int32) else none

def R_X2_requireAnswer (p0 : Int32) (p1 : Int32) : Option (Except String (Unit)) := if p0 < 0 then some (.error "java/lang/IndexOutOfBoundsException") else if p0 < p1 then some (.ok ()) else some (.error "java/lang/IndexOutOfBoundsException")

def R_X2_shelf (k : KSt) (p1 : Int32) (p2 : Int32) : Option (Except String (Int32)) := if p1 < 0 then some (.error "java/lang/IndexOutOfBoundsException") else if p1 < (12 : Int32) then xb (R_X2_requireAnswer p2 (6 : Int32)) fun v26 => if inb p1 12 = true then (R_X1_answer k (p1.toNatClampNeg) p2).bind fun v36 => some (.ok v36) else none else some (.error "java/lang/IndexOutOfBoundsException")

def R_X2_shelvesOf_L14 (k : KSt) (j1 : Nat) : Nat → Int32 → Int32 → Option (Int32)
  | 0, _, _ => none
  | n + 1, x2_14, x5_14 => if (12 : Int32) ≤ x5_14 then some x2_14 else if inb x5_14 12 = true then (R_X1_isOf k (x5_14.toNatClampNeg) j1).bind fun v30 => if v30 = 0 then R_X2_shelvesOf_L14 k j1 n x2_14 (x5_14 + (1 : Int32)) else R_X2_shelvesOf_L14 k j1 n (x2_14 + (1 : Int32)) (x5_14 + (1 : Int32)) else none
def R_X2_shelvesOf (k : KSt) (j1 : Nat) : Option (Int32) := R_X2_shelvesOf_L14 k j1 FU (0 : Int32) (0 : Int32)

def R_X2_shelvesInState_L16 (k : KSt) (j1 : Nat) (p2 : Int32) : Nat → Int32 → Int32 → Option (Int32)
  | 0, _, _ => none
  | n + 1, x3_16, x6_16 => if (12 : Int32) ≤ x6_16 then some x3_16 else if inb x6_16 12 = true then (R_X1_isOf k (x6_16.toNatClampNeg) j1).bind fun v33 => if v33 = 0 then R_X2_shelvesInState_L16 k j1 p2 n x3_16 (x6_16 + (1 : Int32)) else (R_X1_state k (x6_16.toNatClampNeg)).bind fun v41 => if ¬ v41 = p2 then R_X2_shelvesInState_L16 k j1 p2 n x3_16 (x6_16 + (1 : Int32)) else R_X2_shelvesInState_L16 k j1 p2 n (x3_16 + (1 : Int32)) (x6_16 + (1 : Int32)) else none
def R_X2_shelvesInState (k : KSt) (j1 : Nat) (p2 : Int32) : Option (Int32) := R_X2_shelvesInState_L16 k j1 p2 FU (0 : Int32) (0 : Int32)

def R_X2_bowlsOf_L14 (k : KSt) (j1 : Nat) : Nat → Int32 → Int32 → Option (Int32)
  | 0, _, _ => none
  | n + 1, x2_14, x5_14 => if (12 : Int32) ≤ x5_14 then some x2_14 else if inb x5_14 12 = true then (R_X1_isOf k (x5_14.toNatClampNeg) j1).bind fun v30 => if v30 = 0 then R_X2_bowlsOf_L14 k j1 n x2_14 (x5_14 + (1 : Int32)) else R_X2_bowlsOf_L14 k j1 n (x2_14 + (kS k 6 (x5_14.toNatClampNeg))) (x5_14 + (1 : Int32)) else none
def R_X2_bowlsOf (k : KSt) (j1 : Nat) : Option (Int32) := R_X2_bowlsOf_L14 k j1 FU (0 : Int32) (0 : Int32)

def R_X2_answerAbout (k : KSt) (j1 : Nat) (p2 : Int32) : Option (Int32) := if p2 = 0 then some (kK k 1 j1) else if p2 = 1 then some (kK k 2 j1) else if p2 = 2 then some (kK k 3 j1) else if p2 = 3 then (R_X2_shelvesOf k j1).bind fun v65 => some v65 else if p2 = 4 then (R_X2_shelvesInState k j1 (3 : Int32)).bind fun v72 => some v72 else if p2 = 5 then (R_X2_shelvesInState k j1 (2 : Int32)).bind fun v79 => some v79 else if p2 = 6 then (R_X2_shelvesInState k j1 (1 : Int32)).bind fun v86 => some v86 else if p2 = 7 then (R_X2_bowlsOf k j1).bind fun v92 => some v92 else some (kK k 4 j1)

def R_X2_about (k : KSt) (p1 : Int32) (p2 : Int32) : Option (Except String (Int32)) := xb (R_X2_kindOf k p1) fun v2 => if v2 < kN k then xb (R_X2_requireAnswer p2 (9 : Int32)) fun v9 => (R_X2_answerAbout k v2 p2).bind fun v15 => some (.ok v15) else none

def R_X2_place (k : KSt) (p1 : Int32) (p2 : Int32) : Option (Except String (Int32)) := xb (R_X2_shelfAt k p1) fun v2 => if v2 < 12 then xb (R_X2_requireAnswer p2 (4 : Int32)) fun v8 => (R_X1_placeAt k v2 p1).bind fun v13 => if ¬ v13 = (-1 : Int32) then if p2 = 0 then some (.ok (kS k 2 v2)) else if p2 = 1 then some (.ok v13) else if p2 = 2 then (R_X1_standsOn k v2 v13).bind fun v63 => if v63 = 0 then some (.ok (0 : Int32)) else some (.ok (1 : Int32)) else (R_X1_beginOf k v2 v13).bind fun v78 => some (.ok v78) else some (.ok (-1 : Int32)) else none

def R_X2_freeShelves_L13 (k : KSt) : Nat → Int32 → Int32 → Option (Int32)
  | 0, _, _ => none
  | n + 1, x1_13, x4_13 => if (12 : Int32) ≤ x4_13 then some x1_13 else if inb x4_13 12 = true then (R_X1_state k (x4_13.toNatClampNeg)).bind fun v27 => if ¬ v27 = 0 then R_X2_freeShelves_L13 k n x1_13 (x4_13 + (1 : Int32)) else R_X2_freeShelves_L13 k n (x1_13 + (1 : Int32)) (x4_13 + (1 : Int32)) else none
def R_X2_freeShelves (k : KSt) : Option (Int32) := R_X2_freeShelves_L13 k FU (0 : Int32) (0 : Int32)

def R_X2_bowlsInAll_L13 (k : KSt) : Nat → Int32 → Int32 → Option (Int32)
  | 0, _, _ => none
  | n + 1, x1_13, x4_13 => if (12 : Int32) ≤ x4_13 then some x1_13 else if inb x4_13 12 = true then R_X2_bowlsInAll_L13 k n (x1_13 + (kS k 6 (x4_13.toNatClampNeg))) (x4_13 + (1 : Int32)) else none
def R_X2_bowlsInAll (k : KSt) : Option (Int32) := R_X2_bowlsInAll_L13 k FU (0 : Int32) (0 : Int32)

def R_X2_spansUnderBowls_L13 (k : KSt) : Nat → Int32 → Int32 → Option (Int32)
  | 0, _, _ => none
  | n + 1, x1_13, x4_13 => if (12 : Int32) ≤ x4_13 then some x1_13 else if inb x4_13 12 = true then R_X2_spansUnderBowls_L13 k n (x1_13 + ((kS k 6 (x4_13.toNatClampNeg)) * (kS k 3 (x4_13.toNatClampNeg)))) (x4_13 + (1 : Int32)) else none
def R_X2_spansUnderBowls (k : KSt) : Option (Int32) := R_X2_spansUnderBowls_L13 k FU (0 : Int32) (0 : Int32)

def R_X2_takenShelves (k : KSt) : Option (Int32) := (R_X2_freeShelves k).bind fun v3 => some ((12 : Int32) - v3)

def R_X2_spansOfNoPlace_L13 (k : KSt) : Nat → Int32 → Int32 → Option (Int32)
  | 0, _, _ => none
  | n + 1, x1_13, x4_13 => if (12 : Int32) ≤ x4_13 then some x1_13 else if inb x4_13 12 = true then (R_X1_state k (x4_13.toNatClampNeg)).bind fun v27 => if v27 = 0 then R_X2_spansOfNoPlace_L13 k n x1_13 (x4_13 + (1 : Int32)) else R_X2_spansOfNoPlace_L13 k n (x1_13 + ((24 : Int32) - ((kS k 4 (x4_13.toNatClampNeg)) * (kS k 3 (x4_13.toNatClampNeg))))) (x4_13 + (1 : Int32)) else none
def R_X2_spansOfNoPlace (k : KSt) : Option (Int32) := R_X2_spansOfNoPlace_L13 k FU (0 : Int32) (0 : Int32)

def R_X2_count (k : KSt) (p1 : Int32) : Option (Except String (Int32)) := xb (R_X2_requireAnswer p1 (10 : Int32)) fun v3 => if p1 = 0 then some (.ok (kG k 2)) else if p1 = 1 then some (.ok (kG k 0)) else if p1 = 2 then (R_X2_freeShelves k).bind fun v67 => some (.ok v67) else if p1 = 3 then (R_X2_bowlsInAll k).bind fun v72 => some (.ok v72) else if p1 = 4 then (R_X2_spansUnderBowls k).bind fun v77 => some (.ok v77) else if p1 = 5 then (R_X2_takenShelves k).bind fun v82 => (R_X2_spansUnderBowls k).bind fun v89 => some (.ok ((v82 * (24 : Int32)) - v89)) else if p1 = 6 then (R_X2_spansOfNoPlace k).bind fun v95 => some (.ok v95) else if p1 = 7 then some (.ok (kG k 3)) else if p1 = 8 then some (.ok (kG k 4)) else some (.ok (kG k 1))

def R_X2_nextSpot (k : KSt) (j1 : Nat) : Option (Int32) := (R_X2_shelfToPut k j1).bind fun v2 => Option.elim v2 (some (-1 : Int32)) (fun j7 => if j7 < 12 then (R_X1_state k j7).bind fun v13 => if ¬ v13 = 0 then (R_X1_firstGap k j7).bind fun v31 => (R_X1_beginOf k j7 v31).bind fun v34 => some v34 else some ((nI (24 * j7)) + (kK k 5 j1)) else none)

def R_X2_next (k : KSt) (p1 : Int32) : Option (Except String (Int32)) := xb (R_X2_kindOf k p1) fun v3 => if v3 < kN k then (R_X2_nextSpot k v3).bind fun v6 => some (.ok v6) else none

def R_X2_gapsOf (k : KSt) (j1 : Nat) : Option (Int32) := (R_X2_shelvesOf k j1).bind fun v2 => (R_X2_bowlsOf k j1).bind fun v12 => some ((v2 * (kK k 2 j1)) - v12)

def R_X2_fits (k : KSt) (p1 : Int32) : Option (Except String (Int32)) := xb (R_X2_kindOf k p1) fun v2 => if v2 < kN k then (R_X2_gapsOf k v2).bind fun v8 => (R_X2_freeShelves k).bind fun v12 => some (.ok (v8 + (v12 * (kK k 2 v2)))) else none

def R_X2_would (k : KSt) (p1 : Int32) (p2 : Int32) : Option (Except String (Int32)) := xb (R_X2_kindOf k p1) fun v2 => if v2 < kN k then if p2 < (1 : Int32) then some (.error "java/lang/IllegalArgumentException") else if p2 ≤ (150 : Int32) then (R_X2_gapsOf k v2).bind fun v31 => if 0 < (p2 - v31) then (R_X0_shelvesFor k v2 (p2 - v31)).bind fun v47 => (R_X2_freeShelves k).bind fun v55 => if v47 ≤ v55 then some (.ok v47) else some (.ok (-1 : Int32)) else some (.ok (0 : Int32)) else some (.error "java/lang/IllegalArgumentException") else none

def R_X2_gainsOf_L18 (k : KSt) (j1 : Nat) : Nat → Int32 → Int32 → Int32 → Option (Int32)
  | 0, _, _, _ => none
  | n + 1, x2_18, x3_18, x6_18 => if (12 : Int32) ≤ x6_18 then (R_X0_shelvesFor k j1 x2_18).bind fun v70 => some (x3_18 - v70) else if inb x6_18 12 = true then (R_X1_isOf k (x6_18.toNatClampNeg) j1).bind fun v35 => if v35 = 0 then R_X2_gainsOf_L18 k j1 n x2_18 x3_18 (x6_18 + (1 : Int32)) else (R_X1_state k (x6_18.toNatClampNeg)).bind fun v43 => if ¬ v43 = (2 : Int32) then R_X2_gainsOf_L18 k j1 n x2_18 x3_18 (x6_18 + (1 : Int32)) else R_X2_gainsOf_L18 k j1 n (x2_18 + (kS k 6 (x6_18.toNatClampNeg))) (x3_18 + (1 : Int32)) (x6_18 + (1 : Int32)) else none
def R_X2_gainsOf (k : KSt) (j1 : Nat) : Option (Int32) := R_X2_gainsOf_L18 k j1 FU (0 : Int32) (0 : Int32) (0 : Int32)

def R_X2_gains (k : KSt) (p1 : Int32) : Option (Except String (Int32)) := xb (R_X2_kindOf k p1) fun v3 => if v3 < kN k then (R_X2_gainsOf k v3).bind fun v6 => some (.ok v6) else none

def R_X2_advise_L16 (k : KSt) : Nat → Int32 → Int32 → Int32 → Option (Int32)
  | 0, _, _, _ => none
  | n + 1, x1_16, x2_16, x5_16 => if (5 : Int32) ≤ x5_16 then some x1_16 else if inb x5_16 5 = true then Option.elim (knd k (x5_16.toNatClampNeg)) (R_X2_advise_L16 k n x1_16 x2_16 (x5_16 + (1 : Int32))) (fun j31 => if j31 < kN k then (R_X2_gainsOf k j31).bind fun v37 => if v37 ≤ x2_16 then R_X2_advise_L16 k n x1_16 x2_16 (x5_16 + (1 : Int32)) else (R_X2_gainsOf k j31).bind fun v53 => R_X2_advise_L16 k n (nI j31) v53 (x5_16 + (1 : Int32)) else none) else none
def R_X2_advise (k : KSt) : Option (Int32) := R_X2_advise_L16 k FU (-1 : Int32) (-1 : Int32) (0 : Int32)

def R_X2_mean (k : KSt) : Option (UInt64) := (R_X2_takenShelves k).bind fun v1 => if ¬ v1 = 0 then (R_X2_bowlsInAll k).bind fun v12 => if n64b (FP.ddiv (FP.i2d v12) (FP.i2d v1)) = true then some (FP.ddiv (FP.i2d v12) (FP.i2d v1)) else none else some FP.dconst0

def R_X2_mixed (p0 : Int64) (p2 : Int64) : Option (Int64) := some ((p0 * (31 : Int64)) + p2)

def R_X2_mixedWithShelf_L33 (k : KSt) (i2 : Nat) : Nat → Int64 → Int32 → Option (Int64)
  | 0, _, _ => none
  | n + 1, x3_33, x5_33 => if (kS k 4 i2) ≤ x5_33 then some x3_33 else (R_X1_standsOn k i2 x5_33).bind fun v46 => if v46 = 0 then (R_X2_mixed x3_33 (0 : Int64)).bind fun v57 => R_X2_mixedWithShelf_L33 k i2 n v57 (x5_33 + (1 : Int32)) else (R_X2_mixed x3_33 (1 : Int64)).bind fun v57 => R_X2_mixedWithShelf_L33 k i2 n v57 (x5_33 + (1 : Int32))
def R_X2_mixedWithShelf_L5 (k : KSt) (i2 : Nat) : Nat → Int64 → Int32 → Option (Int64)
  | 0, _, _ => none
  | n + 1, x3_5, x5_5 => if (6 : Int32) ≤ x5_5 then R_X2_mixedWithShelf_L33 k i2 FU x3_5 (0 : Int32) else (R_X1_answer k i2 x5_5).bind fun v16 => (R_X2_mixed x3_5 v16.toInt64).bind fun v20 => R_X2_mixedWithShelf_L5 k i2 n v20 (x5_5 + (1 : Int32))
def R_X2_mixedWithShelf (k : KSt) (p0 : Int64) (i2 : Nat) : Option (Int64) := R_X2_mixedWithShelf_L5 k i2 FU p0 (0 : Int32)

def R_X2_mixedWithKind_L6 (k : KSt) (j3 : Nat) : Nat → Int64 → Int32 → Option (Int64)
  | 0, _, _ => none
  | n + 1, x4_6, x6_6 => if (9 : Int32) ≤ x6_6 then (R_X2_nextSpot k j3).bind fun v38 => (R_X2_mixed x4_6 v38.toInt64).bind fun v42 => some v42 else (R_X2_answerAbout k j3 x6_6).bind fun v19 => (R_X2_mixed x4_6 v19.toInt64).bind fun v23 => R_X2_mixedWithKind_L6 k j3 n v23 (x6_6 + (1 : Int32))
def R_X2_mixedWithKind (k : KSt) (p1 : Int64) (j3 : Nat) : Option (Int64) := R_X2_mixedWithKind_L6 k j3 FU p1 (0 : Int32)

def R_X2_digest_L79 (k : KSt) : Nat → Int64 → Int32 → Option (Int64)
  | 0, _, _ => none
  | n + 1, x1_79, x5_79 => if (5 : Int32) ≤ x5_79 then some x1_79 else if inb x5_79 5 = true then Option.elim (knd k (x5_79.toNatClampNeg)) (R_X2_digest_L79 k n x1_79 (x5_79 + (1 : Int32))) (fun j94 => if j94 < kN k then (R_X2_mixedWithKind k x1_79 j94).bind fun v101 => R_X2_digest_L79 k n v101 (x5_79 + (1 : Int32)) else none) else none
def R_X2_digest_L41 (k : KSt) : Nat → Int64 → Int32 → Option (Int64)
  | 0, _, _ => none
  | n + 1, x1_41, x5_41 => if (12 : Int32) ≤ x5_41 then R_X2_digest_L79 k FU x1_41 (0 : Int32) else if inb x5_41 12 = true then (R_X2_mixedWithShelf k x1_41 (x5_41.toNatClampNeg)).bind fun v57 => R_X2_digest_L41 k n v57 (x5_41 + (1 : Int32)) else none
def R_X2_digest_L6 (k : KSt) : Nat → Int64 → Int32 → Option (Int64)
  | 0, _, _ => none
  | n + 1, x1_6, x3_6 => if (10 : Int32) ≤ x3_6 then R_X2_digest_L41 k FU x1_6 (0 : Int32) else yb (R_X2_count k x3_6) fun v15 => (R_X2_mixed x1_6 v15.toInt64).bind fun v19 => R_X2_digest_L6 k n v19 (x3_6 + (1 : Int32))
def R_X2_digest (k : KSt) : Option (Int64) := R_X2_digest_L6 k FU (1733 : Int64) (0 : Int32)

def R_X3_thrown (m : MSt) : Option (Int32) := some (mF m 0)

def R_X3_no (m : MSt) (p1 : Int32) : Option (Int32 × MSt) := some ((0 : Int32), (mFs m 0 p1))

def R_X3_isIn (p0 : Int32) (p1 : Int32) (p2 : Int32) : Option (Int32) := if p0 < p1 then some (0 : Int32) else if p2 < p0 then some (0 : Int32) else some (1 : Int32)

def R_X3_isKind (m : MSt) (p1 : Int32) : Option (Int32) := (R_X3_isIn p1 (0 : Int32) ((mF m 5) - (1 : Int32))).bind fun v8 => if bz v8 = true then some v8 else none

def R_X3_isSpot (p0 : Int32) : Option (Int32) := (R_X3_isIn p0 (0 : Int32) (287 : Int32)).bind fun v5 => if bz v5 = true then some v5 else none

def R_X3_places (m : MSt) (p1 : Int32) : Option (Int32) := if inb p1 5 = true then if ¬ (mA m 0 (p1.toNatClampNeg)) = 0 then some ((24 : Int32) / (mA m 0 (p1.toNatClampNeg))) else none else none

def R_X3_rest (m : MSt) (p1 : Int32) : Option (Int32) := if inb p1 5 = true then if ¬ (mA m 0 (p1.toNatClampNeg)) = 0 then some ((24 : Int32) - (24 : Int32) / (mA m 0 (p1.toNatClampNeg)) * (mA m 0 (p1.toNatClampNeg))) else none else none

def R_X3_isFree (m : MSt) (p1 : Int32) : Option (Int32) := if inb p1 12 = true then if ¬ (mA m 2 (p1.toNatClampNeg)) = (-1 : Int32) then some (0 : Int32) else some (1 : Int32) else none

def R_J6_bitCount_0f7a4 (p0 : Int32) : Option (Int32) := some ((((((((p0 - (((p0.toUInt32 >>> ((1 : Int32).toUInt32 &&& Int32.toUInt32 31)).toInt32) &&& (1431655765 : Int32))) &&& (858993459 : Int32)) + ((((p0 - (((p0.toUInt32 >>> ((1 : Int32).toUInt32 &&& Int32.toUInt32 31)).toInt32) &&& (1431655765 : Int32))).toUInt32 >>> ((2 : Int32).toUInt32 &&& Int32.toUInt32 31)).toInt32) &&& (858993459 : Int32))) + (((((p0 - (((p0.toUInt32 >>> ((1 : Int32).toUInt32 &&& Int32.toUInt32 31)).toInt32) &&& (1431655765 : Int32))) &&& (858993459 : Int32)) + ((((p0 - (((p0.toUInt32 >>> ((1 : Int32).toUInt32 &&& Int32.toUInt32 31)).toInt32) &&& (1431655765 : Int32))).toUInt32 >>> ((2 : Int32).toUInt32 &&& Int32.toUInt32 31)).toInt32) &&& (858993459 : Int32))).toUInt32 >>> ((4 : Int32).toUInt32 &&& Int32.toUInt32 31)).toInt32)) &&& (252645135 : Int32)) + (((((((p0 - (((p0.toUInt32 >>> ((1 : Int32).toUInt32 &&& Int32.toUInt32 31)).toInt32) &&& (1431655765 : Int32))) &&& (858993459 : Int32)) + ((((p0 - (((p0.toUInt32 >>> ((1 : Int32).toUInt32 &&& Int32.toUInt32 31)).toInt32) &&& (1431655765 : Int32))).toUInt32 >>> ((2 : Int32).toUInt32 &&& Int32.toUInt32 31)).toInt32) &&& (858993459 : Int32))) + (((((p0 - (((p0.toUInt32 >>> ((1 : Int32).toUInt32 &&& Int32.toUInt32 31)).toInt32) &&& (1431655765 : Int32))) &&& (858993459 : Int32)) + ((((p0 - (((p0.toUInt32 >>> ((1 : Int32).toUInt32 &&& Int32.toUInt32 31)).toInt32) &&& (1431655765 : Int32))).toUInt32 >>> ((2 : Int32).toUInt32 &&& Int32.toUInt32 31)).toInt32) &&& (858993459 : Int32))).toUInt32 >>> ((4 : Int32).toUInt32 &&& Int32.toUInt32 31)).toInt32)) &&& (252645135 : Int32)).toUInt32 >>> ((8 : Int32).toUInt32 &&& Int32.toUInt32 31)).toInt32)) + ((((((((p0 - (((p0.toUInt32 >>> ((1 : Int32).toUInt32 &&& Int32.toUInt32 31)).toInt32) &&& (1431655765 : Int32))) &&& (858993459 : Int32)) + ((((p0 - (((p0.toUInt32 >>> ((1 : Int32).toUInt32 &&& Int32.toUInt32 31)).toInt32) &&& (1431655765 : Int32))).toUInt32 >>> ((2 : Int32).toUInt32 &&& Int32.toUInt32 31)).toInt32) &&& (858993459 : Int32))) + (((((p0 - (((p0.toUInt32 >>> ((1 : Int32).toUInt32 &&& Int32.toUInt32 31)).toInt32) &&& (1431655765 : Int32))) &&& (858993459 : Int32)) + ((((p0 - (((p0.toUInt32 >>> ((1 : Int32).toUInt32 &&& Int32.toUInt32 31)).toInt32) &&& (1431655765 : Int32))).toUInt32 >>> ((2 : Int32).toUInt32 &&& Int32.toUInt32 31)).toInt32) &&& (858993459 : Int32))).toUInt32 >>> ((4 : Int32).toUInt32 &&& Int32.toUInt32 31)).toInt32)) &&& (252645135 : Int32)) + (((((((p0 - (((p0.toUInt32 >>> ((1 : Int32).toUInt32 &&& Int32.toUInt32 31)).toInt32) &&& (1431655765 : Int32))) &&& (858993459 : Int32)) + ((((p0 - (((p0.toUInt32 >>> ((1 : Int32).toUInt32 &&& Int32.toUInt32 31)).toInt32) &&& (1431655765 : Int32))).toUInt32 >>> ((2 : Int32).toUInt32 &&& Int32.toUInt32 31)).toInt32) &&& (858993459 : Int32))) + (((((p0 - (((p0.toUInt32 >>> ((1 : Int32).toUInt32 &&& Int32.toUInt32 31)).toInt32) &&& (1431655765 : Int32))) &&& (858993459 : Int32)) + ((((p0 - (((p0.toUInt32 >>> ((1 : Int32).toUInt32 &&& Int32.toUInt32 31)).toInt32) &&& (1431655765 : Int32))).toUInt32 >>> ((2 : Int32).toUInt32 &&& Int32.toUInt32 31)).toInt32) &&& (858993459 : Int32))).toUInt32 >>> ((4 : Int32).toUInt32 &&& Int32.toUInt32 31)).toInt32)) &&& (252645135 : Int32)).toUInt32 >>> ((8 : Int32).toUInt32 &&& Int32.toUInt32 31)).toInt32)).toUInt32 >>> ((16 : Int32).toUInt32 &&& Int32.toUInt32 31)).toInt32)) &&& (63 : Int32))

def R_X3_many (m : MSt) (p1 : Int32) : Option (Int32) := if inb p1 12 = true then (R_J6_bitCount_0f7a4 (mA m 4 (p1.toNatClampNeg))).bind fun v6 => some v6 else none

def R_X3_isFull (m : MSt) (p1 : Int32) : Option (Int32) := (R_X3_many m p1).bind fun v2 => if inb p1 12 = true then (R_X3_places m (mA m 2 (p1.toNatClampNeg))).bind fun v12 => if ¬ v2 = v12 then some (0 : Int32) else some (1 : Int32) else none

def R_X3_isUsed (m : MSt) (p1 : Int32) (p2 : Int32) : Option (Int32) := if inb p1 12 = true then if ¬ (mA m 2 (p1.toNatClampNeg)) = p2 then some (0 : Int32) else if inb p1 12 = true then if (mA m 4 (p1.toNatClampNeg)) = 0 then some (0 : Int32) else (R_X3_isFull m p1).bind fun v21 => if ¬ v21 = 0 then some (0 : Int32) else some (1 : Int32) else none else none

def R_X3_isEmpty (m : MSt) (p1 : Int32) (p2 : Int32) : Option (Int32) := if inb p1 12 = true then if ¬ (mA m 2 (p1.toNatClampNeg)) = p2 then some (0 : Int32) else if inb p1 12 = true then if ¬ (mA m 4 (p1.toNatClampNeg)) = 0 then some (0 : Int32) else some (1 : Int32) else none else none

def R_X3_hole_L2 (m : MSt) (p1 : Int32) : Nat → Int32 → Option (Int32)
  | 0, _ => none
  | n + 1, x2_2 => if inb p1 12 = true then (R_X3_places m (mA m 2 (p1.toNatClampNeg))).bind fun v10 => if v10 ≤ x2_2 then some (-1 : Int32) else if inb p1 12 = true then if ¬ (((mA m 4 (p1.toNatClampNeg)) >>> (x2_2 &&& 31)) &&& (1 : Int32)) = 0 then R_X3_hole_L2 m p1 n (x2_2 + (1 : Int32)) else some x2_2 else none else none
def R_X3_hole (m : MSt) (p1 : Int32) : Option (Int32) := R_X3_hole_L2 m p1 FU (0 : Int32)

def R_X3_spotOf (m : MSt) (p1 : Int32) (p2 : Int32) : Option (Int32) := if inb p1 12 = true then if inb p1 12 = true then if inb (mA m 2 (p1.toNatClampNeg)) 5 = true then some ((((24 : Int32) * p1) + (mA m 3 (p1.toNatClampNeg))) + (p2 * (mA m 0 ((mA m 2 (p1.toNatClampNeg)).toNatClampNeg)))) else none else none else none

def R_X3_isBetter (m : MSt) (p1 : Int32) (p2 : Int32) : Option (Int32) := if ¬ p2 = (-1 : Int32) then if ¬ (mF m 2) = (1 : Int32) then if ¬ (mF m 2) = (2 : Int32) then some (0 : Int32) else (R_X3_many m p1).bind fun v38 => (R_X3_many m p2).bind fun v43 => if v43 ≤ v38 then some (0 : Int32) else some (1 : Int32) else (R_X3_many m p1).bind fun v17 => (R_X3_many m p2).bind fun v22 => if v22 < v17 then some (1 : Int32) else if ¬ (mF m 2) = (2 : Int32) then some (0 : Int32) else (R_X3_many m p1).bind fun v38 => (R_X3_many m p2).bind fun v43 => if v43 ≤ v38 then some (0 : Int32) else some (1 : Int32) else some (1 : Int32)

def R_X3_shelfFor_L68 (m : MSt) : Nat → Int32 → Int32 → Option (Int32)
  | 0, _, _ => none
  | n + 1, x2_68, x3_68 => if (12 : Int32) ≤ x3_68 then some x2_68 else if ¬ x2_68 = (-1 : Int32) then some x2_68 else (R_X3_isFree m x3_68).bind fun v81 => if v81 = 0 then R_X3_shelfFor_L68 m n x2_68 (x3_68 + (1 : Int32)) else R_X3_shelfFor_L68 m n x3_68 (x3_68 + (1 : Int32))
def R_X3_shelfFor_L38 (m : MSt) (p1 : Int32) : Nat → Int32 → Int32 → Option (Int32)
  | 0, _, _ => none
  | n + 1, x2_38, x3_38 => if (12 : Int32) ≤ x3_38 then R_X3_shelfFor_L68 m FU x2_38 (0 : Int32) else if ¬ x2_38 = (-1 : Int32) then R_X3_shelfFor_L68 m FU x2_38 (0 : Int32) else (R_X3_isEmpty m x3_38 p1).bind fun v52 => if v52 = 0 then R_X3_shelfFor_L38 m p1 n x2_38 (x3_38 + (1 : Int32)) else R_X3_shelfFor_L38 m p1 n x3_38 (x3_38 + (1 : Int32))
def R_X3_shelfFor_L4 (m : MSt) (p1 : Int32) : Nat → Int32 → Int32 → Option (Int32)
  | 0, _, _ => none
  | n + 1, x2_4, x3_4 => if (12 : Int32) ≤ x3_4 then R_X3_shelfFor_L38 m p1 FU x2_4 (0 : Int32) else (R_X3_isUsed m x3_4 p1).bind fun v13 => if v13 = 0 then R_X3_shelfFor_L4 m p1 n x2_4 (x3_4 + (1 : Int32)) else (R_X3_isBetter m x3_4 x2_4).bind fun v22 => if v22 = 0 then R_X3_shelfFor_L4 m p1 n x2_4 (x3_4 + (1 : Int32)) else R_X3_shelfFor_L4 m p1 n x3_4 (x3_4 + (1 : Int32))
def R_X3_shelfFor (m : MSt) (p1 : Int32) : Option (Int32) := R_X3_shelfFor_L4 m p1 FU (-1 : Int32) (0 : Int32)

def R_X3_nextRim (m : MSt) (p1 : Int32) : Option (Int32) := if inb p1 5 = true then (R_X3_rest m p1).bind fun v8 => if ¬ (v8 + (1 : Int32)) = 0 then some ((mA m 1 (p1.toNatClampNeg)) - (mA m 1 (p1.toNatClampNeg)) / (v8 + (1 : Int32)) * (v8 + (1 : Int32))) else none else none

def R_X3_spotFor (m : MSt) (p1 : Int32) : Option (Int32) := (R_X3_shelfFor m p1).bind fun v2 => if ¬ v2 = (-1 : Int32) then (R_X3_isFree m v2).bind fun v15 => if v15 = 0 then (R_X3_hole m v2).bind fun v38 => (R_X3_spotOf m v2 v38).bind fun v41 => some v41 else (R_X3_nextRim m p1).bind fun v27 => some (((24 : Int32) * v2) + v27) else some (-1 : Int32)

def R_X3_own (m : MSt) (p1 : Int32) (p2 : Int32) : Option (MSt) := if inb p1 12 = true then (R_X3_nextRim (mAs m 2 (upd (mA m 2) (p1.toNatClampNeg) p2)) p2).bind fun v14 => if inb p1 12 = true then if inb p2 5 = true then if inb p2 5 = true then some (mAs (mAs (mAs m 2 (upd (mA m 2) (p1.toNatClampNeg) p2)) 3 (upd (mA (mAs m 2 (upd (mA m 2) (p1.toNatClampNeg) p2)) 3) (p1.toNatClampNeg) v14)) 1 (upd (mA (mAs (mAs m 2 (upd (mA m 2) (p1.toNatClampNeg) p2)) 3 (upd (mA (mAs m 2 (upd (mA m 2) (p1.toNatClampNeg) p2)) 3) (p1.toNatClampNeg) v14)) 1) (p2.toNatClampNeg) ((mA (mAs (mAs m 2 (upd (mA m 2) (p1.toNatClampNeg) p2)) 3 (upd (mA (mAs m 2 (upd (mA m 2) (p1.toNatClampNeg) p2)) 3) (p1.toNatClampNeg) v14)) 1 (p2.toNatClampNeg)) + (1 : Int32)))) else none else none else none else none

def R_X3_placed (m : MSt) (p1 : Int32) (p2 : Int32) : Option (Int32 × MSt) := (R_X3_isFree m p2).bind fun v2 => if v2 = 0 then (R_X3_hole m p2).bind fun v16 => if inb p2 12 = true then if inb p2 12 = true then if inb p2 12 = true then (R_X3_spotOf (mFs (mFs (mAs (mAs m 4 (upd (mA m 4) (p2.toNatClampNeg) ((mA m 4 (p2.toNatClampNeg)) ||| ((1 : Int32) <<< (v16 &&& 31))))) 5 (upd (mA (mAs m 4 (upd (mA m 4) (p2.toNatClampNeg) ((mA m 4 (p2.toNatClampNeg)) ||| ((1 : Int32) <<< (v16 &&& 31))))) 5) (p2.toNatClampNeg) (-1 : Int32))) 1 ((mF (mAs (mAs m 4 (upd (mA m 4) (p2.toNatClampNeg) ((mA m 4 (p2.toNatClampNeg)) ||| ((1 : Int32) <<< (v16 &&& 31))))) 5 (upd (mA (mAs m 4 (upd (mA m 4) (p2.toNatClampNeg) ((mA m 4 (p2.toNatClampNeg)) ||| ((1 : Int32) <<< (v16 &&& 31))))) 5) (p2.toNatClampNeg) (-1 : Int32))) 1) + (1 : Int32))) 3 ((mF (mFs (mAs (mAs m 4 (upd (mA m 4) (p2.toNatClampNeg) ((mA m 4 (p2.toNatClampNeg)) ||| ((1 : Int32) <<< (v16 &&& 31))))) 5 (upd (mA (mAs m 4 (upd (mA m 4) (p2.toNatClampNeg) ((mA m 4 (p2.toNatClampNeg)) ||| ((1 : Int32) <<< (v16 &&& 31))))) 5) (p2.toNatClampNeg) (-1 : Int32))) 1 ((mF (mAs (mAs m 4 (upd (mA m 4) (p2.toNatClampNeg) ((mA m 4 (p2.toNatClampNeg)) ||| ((1 : Int32) <<< (v16 &&& 31))))) 5 (upd (mA (mAs m 4 (upd (mA m 4) (p2.toNatClampNeg) ((mA m 4 (p2.toNatClampNeg)) ||| ((1 : Int32) <<< (v16 &&& 31))))) 5) (p2.toNatClampNeg) (-1 : Int32))) 1) + (1 : Int32))) 3) + (1 : Int32))) p2 v16).bind fun v62 => some (v62, (mFs (mFs (mAs (mAs m 4 (upd (mA m 4) (p2.toNatClampNeg) ((mA m 4 (p2.toNatClampNeg)) ||| ((1 : Int32) <<< (v16 &&& 31))))) 5 (upd (mA (mAs m 4 (upd (mA m 4) (p2.toNatClampNeg) ((mA m 4 (p2.toNatClampNeg)) ||| ((1 : Int32) <<< (v16 &&& 31))))) 5) (p2.toNatClampNeg) (-1 : Int32))) 1 ((mF (mAs (mAs m 4 (upd (mA m 4) (p2.toNatClampNeg) ((mA m 4 (p2.toNatClampNeg)) ||| ((1 : Int32) <<< (v16 &&& 31))))) 5 (upd (mA (mAs m 4 (upd (mA m 4) (p2.toNatClampNeg) ((mA m 4 (p2.toNatClampNeg)) ||| ((1 : Int32) <<< (v16 &&& 31))))) 5) (p2.toNatClampNeg) (-1 : Int32))) 1) + (1 : Int32))) 3 ((mF (mFs (mAs (mAs m 4 (upd (mA m 4) (p2.toNatClampNeg) ((mA m 4 (p2.toNatClampNeg)) ||| ((1 : Int32) <<< (v16 &&& 31))))) 5 (upd (mA (mAs m 4 (upd (mA m 4) (p2.toNatClampNeg) ((mA m 4 (p2.toNatClampNeg)) ||| ((1 : Int32) <<< (v16 &&& 31))))) 5) (p2.toNatClampNeg) (-1 : Int32))) 1 ((mF (mAs (mAs m 4 (upd (mA m 4) (p2.toNatClampNeg) ((mA m 4 (p2.toNatClampNeg)) ||| ((1 : Int32) <<< (v16 &&& 31))))) 5 (upd (mA (mAs m 4 (upd (mA m 4) (p2.toNatClampNeg) ((mA m 4 (p2.toNatClampNeg)) ||| ((1 : Int32) <<< (v16 &&& 31))))) 5) (p2.toNatClampNeg) (-1 : Int32))) 1) + (1 : Int32))) 3) + (1 : Int32)))) else none else none else none else (R_X3_own m p2 p1).bind fun v11 => (R_X3_hole v11 p2).bind fun v16 => if inb p2 12 = true then if inb p2 12 = true then if inb p2 12 = true then (R_X3_spotOf (mFs (mFs (mAs (mAs v11 4 (upd (mA v11 4) (p2.toNatClampNeg) ((mA v11 4 (p2.toNatClampNeg)) ||| ((1 : Int32) <<< (v16 &&& 31))))) 5 (upd (mA (mAs v11 4 (upd (mA v11 4) (p2.toNatClampNeg) ((mA v11 4 (p2.toNatClampNeg)) ||| ((1 : Int32) <<< (v16 &&& 31))))) 5) (p2.toNatClampNeg) (-1 : Int32))) 1 ((mF (mAs (mAs v11 4 (upd (mA v11 4) (p2.toNatClampNeg) ((mA v11 4 (p2.toNatClampNeg)) ||| ((1 : Int32) <<< (v16 &&& 31))))) 5 (upd (mA (mAs v11 4 (upd (mA v11 4) (p2.toNatClampNeg) ((mA v11 4 (p2.toNatClampNeg)) ||| ((1 : Int32) <<< (v16 &&& 31))))) 5) (p2.toNatClampNeg) (-1 : Int32))) 1) + (1 : Int32))) 3 ((mF (mFs (mAs (mAs v11 4 (upd (mA v11 4) (p2.toNatClampNeg) ((mA v11 4 (p2.toNatClampNeg)) ||| ((1 : Int32) <<< (v16 &&& 31))))) 5 (upd (mA (mAs v11 4 (upd (mA v11 4) (p2.toNatClampNeg) ((mA v11 4 (p2.toNatClampNeg)) ||| ((1 : Int32) <<< (v16 &&& 31))))) 5) (p2.toNatClampNeg) (-1 : Int32))) 1 ((mF (mAs (mAs v11 4 (upd (mA v11 4) (p2.toNatClampNeg) ((mA v11 4 (p2.toNatClampNeg)) ||| ((1 : Int32) <<< (v16 &&& 31))))) 5 (upd (mA (mAs v11 4 (upd (mA v11 4) (p2.toNatClampNeg) ((mA v11 4 (p2.toNatClampNeg)) ||| ((1 : Int32) <<< (v16 &&& 31))))) 5) (p2.toNatClampNeg) (-1 : Int32))) 1) + (1 : Int32))) 3) + (1 : Int32))) p2 v16).bind fun v62 => some (v62, (mFs (mFs (mAs (mAs v11 4 (upd (mA v11 4) (p2.toNatClampNeg) ((mA v11 4 (p2.toNatClampNeg)) ||| ((1 : Int32) <<< (v16 &&& 31))))) 5 (upd (mA (mAs v11 4 (upd (mA v11 4) (p2.toNatClampNeg) ((mA v11 4 (p2.toNatClampNeg)) ||| ((1 : Int32) <<< (v16 &&& 31))))) 5) (p2.toNatClampNeg) (-1 : Int32))) 1 ((mF (mAs (mAs v11 4 (upd (mA v11 4) (p2.toNatClampNeg) ((mA v11 4 (p2.toNatClampNeg)) ||| ((1 : Int32) <<< (v16 &&& 31))))) 5 (upd (mA (mAs v11 4 (upd (mA v11 4) (p2.toNatClampNeg) ((mA v11 4 (p2.toNatClampNeg)) ||| ((1 : Int32) <<< (v16 &&& 31))))) 5) (p2.toNatClampNeg) (-1 : Int32))) 1) + (1 : Int32))) 3 ((mF (mFs (mAs (mAs v11 4 (upd (mA v11 4) (p2.toNatClampNeg) ((mA v11 4 (p2.toNatClampNeg)) ||| ((1 : Int32) <<< (v16 &&& 31))))) 5 (upd (mA (mAs v11 4 (upd (mA v11 4) (p2.toNatClampNeg) ((mA v11 4 (p2.toNatClampNeg)) ||| ((1 : Int32) <<< (v16 &&& 31))))) 5) (p2.toNatClampNeg) (-1 : Int32))) 1 ((mF (mAs (mAs v11 4 (upd (mA v11 4) (p2.toNatClampNeg) ((mA v11 4 (p2.toNatClampNeg)) ||| ((1 : Int32) <<< (v16 &&& 31))))) 5 (upd (mA (mAs v11 4 (upd (mA v11 4) (p2.toNatClampNeg) ((mA v11 4 (p2.toNatClampNeg)) ||| ((1 : Int32) <<< (v16 &&& 31))))) 5) (p2.toNatClampNeg) (-1 : Int32))) 1) + (1 : Int32))) 3) + (1 : Int32)))) else none else none else none

def R_X3_placeOf (m : MSt) (p1 : Int32) : Option (Int32) := (R_X3_isFree m (p1 / (24 : Int32))).bind fun v7 => if v7 = 0 then if inb (p1 / (24 : Int32)) 12 = true then if ((p1 - p1 / (24 : Int32) * (24 : Int32)) - (mA m 3 ((p1 / (24 : Int32)).toNatClampNeg))) < 0 then some (-1 : Int32) else if inb (p1 / (24 : Int32)) 12 = true then (R_X3_places m (mA m 2 ((p1 / (24 : Int32)).toNatClampNeg))).bind fun v39 => if inb (p1 / (24 : Int32)) 12 = true then if inb (mA m 2 ((p1 / (24 : Int32)).toNatClampNeg)) 5 = true then if ((p1 - p1 / (24 : Int32) * (24 : Int32)) - (mA m 3 ((p1 / (24 : Int32)).toNatClampNeg))) < (v39 * (mA m 0 ((mA m 2 ((p1 / (24 : Int32)).toNatClampNeg)).toNatClampNeg))) then if inb (p1 / (24 : Int32)) 12 = true then if inb (mA m 2 ((p1 / (24 : Int32)).toNatClampNeg)) 5 = true then if ¬ (mA m 0 ((mA m 2 ((p1 / (24 : Int32)).toNatClampNeg)).toNatClampNeg)) = 0 then some (((p1 - p1 / (24 : Int32) * (24 : Int32)) - (mA m 3 ((p1 / (24 : Int32)).toNatClampNeg))) / (mA m 0 ((mA m 2 ((p1 / (24 : Int32)).toNatClampNeg)).toNatClampNeg))) else none else none else none else some (-1 : Int32) else none else none else none else none else some (-1 : Int32)

def R_X3_fewest_L4 (m : MSt) (p1 : Int32) : Nat → Int32 → Int32 → Option (Int32)
  | 0, _, _ => none
  | n + 1, x2_4, x3_4 => if (12 : Int32) ≤ x3_4 then some x2_4 else (R_X3_isUsed m x3_4 p1).bind fun v13 => if v13 = 0 then R_X3_fewest_L4 m p1 n x2_4 (x3_4 + (1 : Int32)) else if x2_4 = (-1 : Int32) then R_X3_fewest_L4 m p1 n x3_4 (x3_4 + (1 : Int32)) else (R_X3_many m x3_4).bind fun v26 => (R_X3_many m x2_4).bind fun v31 => if v31 < v26 then R_X3_fewest_L4 m p1 n x2_4 (x3_4 + (1 : Int32)) else R_X3_fewest_L4 m p1 n x3_4 (x3_4 + (1 : Int32))
def R_X3_fewest (m : MSt) (p1 : Int32) : Option (Int32) := R_X3_fewest_L4 m p1 FU (-1 : Int32) (0 : Int32)

def R_X3_most_L5 (m : MSt) (p1 : Int32) (p2 : Int32) : Nat → Int32 → Int32 → Option (Int32)
  | 0, _, _ => none
  | n + 1, x3_5, x4_5 => if (12 : Int32) ≤ x4_5 then some x3_5 else if x4_5 = p2 then R_X3_most_L5 m p1 p2 n x3_5 (x4_5 + (1 : Int32)) else (R_X3_isUsed m x4_5 p1).bind fun v22 => if v22 = 0 then R_X3_most_L5 m p1 p2 n x3_5 (x4_5 + (1 : Int32)) else if x3_5 = (-1 : Int32) then R_X3_most_L5 m p1 p2 n x4_5 (x4_5 + (1 : Int32)) else (R_X3_many m x4_5).bind fun v36 => (R_X3_many m x3_5).bind fun v41 => if v36 ≤ v41 then R_X3_most_L5 m p1 p2 n x3_5 (x4_5 + (1 : Int32)) else R_X3_most_L5 m p1 p2 n x4_5 (x4_5 + (1 : Int32))
def R_X3_most (m : MSt) (p1 : Int32) (p2 : Int32) : Option (Int32) := R_X3_most_L5 m p1 p2 FU (-1 : Int32) (0 : Int32)

def R_J6_numberOfLeadingZeros_0f7a4 (p0 : Int32) : Option (Int32) := if 0 < p0 then if p0 < (65536 : Int32) then if p0 < (256 : Int32) then if p0 < (16 : Int32) then if p0 < (4 : Int32) then some ((31 : Int32) - ((p0.toUInt32 >>> ((1 : Int32).toUInt32 &&& Int32.toUInt32 31)).toInt32)) else some (((31 : Int32) + (-2 : Int32)) - ((((p0.toUInt32 >>> ((2 : Int32).toUInt32 &&& Int32.toUInt32 31)).toInt32).toUInt32 >>> ((1 : Int32).toUInt32 &&& Int32.toUInt32 31)).toInt32)) else if ((p0.toUInt32 >>> ((4 : Int32).toUInt32 &&& Int32.toUInt32 31)).toInt32) < (4 : Int32) then some (((31 : Int32) + (-4 : Int32)) - ((((p0.toUInt32 >>> ((4 : Int32).toUInt32 &&& Int32.toUInt32 31)).toInt32).toUInt32 >>> ((1 : Int32).toUInt32 &&& Int32.toUInt32 31)).toInt32)) else some ((((31 : Int32) + (-4 : Int32)) + (-2 : Int32)) - ((((((p0.toUInt32 >>> ((4 : Int32).toUInt32 &&& Int32.toUInt32 31)).toInt32).toUInt32 >>> ((2 : Int32).toUInt32 &&& Int32.toUInt32 31)).toInt32).toUInt32 >>> ((1 : Int32).toUInt32 &&& Int32.toUInt32 31)).toInt32)) else if ((p0.toUInt32 >>> ((8 : Int32).toUInt32 &&& Int32.toUInt32 31)).toInt32) < (16 : Int32) then if ((p0.toUInt32 >>> ((8 : Int32).toUInt32 &&& Int32.toUInt32 31)).toInt32) < (4 : Int32) then some (((31 : Int32) + (-8 : Int32)) - ((((p0.toUInt32 >>> ((8 : Int32).toUInt32 &&& Int32.toUInt32 31)).toInt32).toUInt32 >>> ((1 : Int32).toUInt32 &&& Int32.toUInt32 31)).toInt32)) else some ((((31 : Int32) + (-8 : Int32)) + (-2 : Int32)) - ((((((p0.toUInt32 >>> ((8 : Int32).toUInt32 &&& Int32.toUInt32 31)).toInt32).toUInt32 >>> ((2 : Int32).toUInt32 &&& Int32.toUInt32 31)).toInt32).toUInt32 >>> ((1 : Int32).toUInt32 &&& Int32.toUInt32 31)).toInt32)) else if ((((p0.toUInt32 >>> ((8 : Int32).toUInt32 &&& Int32.toUInt32 31)).toInt32).toUInt32 >>> ((4 : Int32).toUInt32 &&& Int32.toUInt32 31)).toInt32) < (4 : Int32) then some ((((31 : Int32) + (-8 : Int32)) + (-4 : Int32)) - ((((((p0.toUInt32 >>> ((8 : Int32).toUInt32 &&& Int32.toUInt32 31)).toInt32).toUInt32 >>> ((4 : Int32).toUInt32 &&& Int32.toUInt32 31)).toInt32).toUInt32 >>> ((1 : Int32).toUInt32 &&& Int32.toUInt32 31)).toInt32)) else some (((((31 : Int32) + (-8 : Int32)) + (-4 : Int32)) + (-2 : Int32)) - ((((((((p0.toUInt32 >>> ((8 : Int32).toUInt32 &&& Int32.toUInt32 31)).toInt32).toUInt32 >>> ((4 : Int32).toUInt32 &&& Int32.toUInt32 31)).toInt32).toUInt32 >>> ((2 : Int32).toUInt32 &&& Int32.toUInt32 31)).toInt32).toUInt32 >>> ((1 : Int32).toUInt32 &&& Int32.toUInt32 31)).toInt32)) else if ((p0.toUInt32 >>> ((16 : Int32).toUInt32 &&& Int32.toUInt32 31)).toInt32) < (256 : Int32) then if ((p0.toUInt32 >>> ((16 : Int32).toUInt32 &&& Int32.toUInt32 31)).toInt32) < (16 : Int32) then if ((p0.toUInt32 >>> ((16 : Int32).toUInt32 &&& Int32.toUInt32 31)).toInt32) < (4 : Int32) then some (((31 : Int32) + (-16 : Int32)) - ((((p0.toUInt32 >>> ((16 : Int32).toUInt32 &&& Int32.toUInt32 31)).toInt32).toUInt32 >>> ((1 : Int32).toUInt32 &&& Int32.toUInt32 31)).toInt32)) else some ((((31 : Int32) + (-16 : Int32)) + (-2 : Int32)) - ((((((p0.toUInt32 >>> ((16 : Int32).toUInt32 &&& Int32.toUInt32 31)).toInt32).toUInt32 >>> ((2 : Int32).toUInt32 &&& Int32.toUInt32 31)).toInt32).toUInt32 >>> ((1 : Int32).toUInt32 &&& Int32.toUInt32 31)).toInt32)) else if ((((p0.toUInt32 >>> ((16 : Int32).toUInt32 &&& Int32.toUInt32 31)).toInt32).toUInt32 >>> ((4 : Int32).toUInt32 &&& Int32.toUInt32 31)).toInt32) < (4 : Int32) then some ((((31 : Int32) + (-16 : Int32)) + (-4 : Int32)) - ((((((p0.toUInt32 >>> ((16 : Int32).toUInt32 &&& Int32.toUInt32 31)).toInt32).toUInt32 >>> ((4 : Int32).toUInt32 &&& Int32.toUInt32 31)).toInt32).toUInt32 >>> ((1 : Int32).toUInt32 &&& Int32.toUInt32 31)).toInt32)) else some (((((31 : Int32) + (-16 : Int32)) + (-4 : Int32)) + (-2 : Int32)) - ((((((((p0.toUInt32 >>> ((16 : Int32).toUInt32 &&& Int32.toUInt32 31)).toInt32).toUInt32 >>> ((4 : Int32).toUInt32 &&& Int32.toUInt32 31)).toInt32).toUInt32 >>> ((2 : Int32).toUInt32 &&& Int32.toUInt32 31)).toInt32).toUInt32 >>> ((1 : Int32).toUInt32 &&& Int32.toUInt32 31)).toInt32)) else if ((((p0.toUInt32 >>> ((16 : Int32).toUInt32 &&& Int32.toUInt32 31)).toInt32).toUInt32 >>> ((8 : Int32).toUInt32 &&& Int32.toUInt32 31)).toInt32) < (16 : Int32) then if ((((p0.toUInt32 >>> ((16 : Int32).toUInt32 &&& Int32.toUInt32 31)).toInt32).toUInt32 >>> ((8 : Int32).toUInt32 &&& Int32.toUInt32 31)).toInt32) < (4 : Int32) then some ((((31 : Int32) + (-16 : Int32)) + (-8 : Int32)) - ((((((p0.toUInt32 >>> ((16 : Int32).toUInt32 &&& Int32.toUInt32 31)).toInt32).toUInt32 >>> ((8 : Int32).toUInt32 &&& Int32.toUInt32 31)).toInt32).toUInt32 >>> ((1 : Int32).toUInt32 &&& Int32.toUInt32 31)).toInt32)) else some (((((31 : Int32) + (-16 : Int32)) + (-8 : Int32)) + (-2 : Int32)) - ((((((((p0.toUInt32 >>> ((16 : Int32).toUInt32 &&& Int32.toUInt32 31)).toInt32).toUInt32 >>> ((8 : Int32).toUInt32 &&& Int32.toUInt32 31)).toInt32).toUInt32 >>> ((2 : Int32).toUInt32 &&& Int32.toUInt32 31)).toInt32).toUInt32 >>> ((1 : Int32).toUInt32 &&& Int32.toUInt32 31)).toInt32)) else if ((((((p0.toUInt32 >>> ((16 : Int32).toUInt32 &&& Int32.toUInt32 31)).toInt32).toUInt32 >>> ((8 : Int32).toUInt32 &&& Int32.toUInt32 31)).toInt32).toUInt32 >>> ((4 : Int32).toUInt32 &&& Int32.toUInt32 31)).toInt32) < (4 : Int32) then some (((((31 : Int32) + (-16 : Int32)) + (-8 : Int32)) + (-4 : Int32)) - ((((((((p0.toUInt32 >>> ((16 : Int32).toUInt32 &&& Int32.toUInt32 31)).toInt32).toUInt32 >>> ((8 : Int32).toUInt32 &&& Int32.toUInt32 31)).toInt32).toUInt32 >>> ((4 : Int32).toUInt32 &&& Int32.toUInt32 31)).toInt32).toUInt32 >>> ((1 : Int32).toUInt32 &&& Int32.toUInt32 31)).toInt32)) else some ((((((31 : Int32) + (-16 : Int32)) + (-8 : Int32)) + (-4 : Int32)) + (-2 : Int32)) - ((((((((((p0.toUInt32 >>> ((16 : Int32).toUInt32 &&& Int32.toUInt32 31)).toInt32).toUInt32 >>> ((8 : Int32).toUInt32 &&& Int32.toUInt32 31)).toInt32).toUInt32 >>> ((4 : Int32).toUInt32 &&& Int32.toUInt32 31)).toInt32).toUInt32 >>> ((2 : Int32).toUInt32 &&& Int32.toUInt32 31)).toInt32).toUInt32 >>> ((1 : Int32).toUInt32 &&& Int32.toUInt32 31)).toInt32)) else if ¬ p0 = 0 then some (0 : Int32) else some (32 : Int32)

def R_J6_highestOneBit_0f7a4 (p0 : Int32) : Option (Int32) := (R_J6_numberOfLeadingZeros_0f7a4 p0).bind fun v4 => some (p0 &&& (((-2147483648 : Int32).toUInt32 >>> (v4.toUInt32 &&& Int32.toUInt32 31)).toInt32))

def R_X3_move (m : MSt) (p1 : Int32) (p2 : Int32) : Option (MSt) := if inb p1 12 = true then (R_J6_highestOneBit_0f7a4 (mA m 4 (p1.toNatClampNeg))).bind fun v6 => if inb p2 12 = true then (R_X3_hole m p2).bind fun v20 => if inb p2 12 = true then if inb p1 12 = true then if inb p1 12 = true then if inb p1 12 = true then if ¬ (mA (mAs (mAs m 4 (upd (mA m 4) (p2.toNatClampNeg) ((mA m 4 (p2.toNatClampNeg)) ||| ((1 : Int32) <<< (v20 &&& 31))))) 4 (upd (mA (mAs m 4 (upd (mA m 4) (p2.toNatClampNeg) ((mA m 4 (p2.toNatClampNeg)) ||| ((1 : Int32) <<< (v20 &&& 31))))) 4) (p1.toNatClampNeg) ((mA (mAs m 4 (upd (mA m 4) (p2.toNatClampNeg) ((mA m 4 (p2.toNatClampNeg)) ||| ((1 : Int32) <<< (v20 &&& 31))))) 4 (p1.toNatClampNeg)) - v6))) 4 (p1.toNatClampNeg)) = 0 then some (mAs (mAs m 4 (upd (mA m 4) (p2.toNatClampNeg) ((mA m 4 (p2.toNatClampNeg)) ||| ((1 : Int32) <<< (v20 &&& 31))))) 4 (upd (mA (mAs m 4 (upd (mA m 4) (p2.toNatClampNeg) ((mA m 4 (p2.toNatClampNeg)) ||| ((1 : Int32) <<< (v20 &&& 31))))) 4) (p1.toNatClampNeg) ((mA (mAs m 4 (upd (mA m 4) (p2.toNatClampNeg) ((mA m 4 (p2.toNatClampNeg)) ||| ((1 : Int32) <<< (v20 &&& 31))))) 4 (p1.toNatClampNeg)) - v6))) else if inb p1 12 = true then some (mAs (mAs (mAs m 4 (upd (mA m 4) (p2.toNatClampNeg) ((mA m 4 (p2.toNatClampNeg)) ||| ((1 : Int32) <<< (v20 &&& 31))))) 4 (upd (mA (mAs m 4 (upd (mA m 4) (p2.toNatClampNeg) ((mA m 4 (p2.toNatClampNeg)) ||| ((1 : Int32) <<< (v20 &&& 31))))) 4) (p1.toNatClampNeg) ((mA (mAs m 4 (upd (mA m 4) (p2.toNatClampNeg) ((mA m 4 (p2.toNatClampNeg)) ||| ((1 : Int32) <<< (v20 &&& 31))))) 4 (p1.toNatClampNeg)) - v6))) 5 (upd (mA (mAs (mAs m 4 (upd (mA m 4) (p2.toNatClampNeg) ((mA m 4 (p2.toNatClampNeg)) ||| ((1 : Int32) <<< (v20 &&& 31))))) 4 (upd (mA (mAs m 4 (upd (mA m 4) (p2.toNatClampNeg) ((mA m 4 (p2.toNatClampNeg)) ||| ((1 : Int32) <<< (v20 &&& 31))))) 4) (p1.toNatClampNeg) ((mA (mAs m 4 (upd (mA m 4) (p2.toNatClampNeg) ((mA m 4 (p2.toNatClampNeg)) ||| ((1 : Int32) <<< (v20 &&& 31))))) 4 (p1.toNatClampNeg)) - v6))) 5) (p1.toNatClampNeg) (mF (mAs (mAs m 4 (upd (mA m 4) (p2.toNatClampNeg) ((mA m 4 (p2.toNatClampNeg)) ||| ((1 : Int32) <<< (v20 &&& 31))))) 4 (upd (mA (mAs m 4 (upd (mA m 4) (p2.toNatClampNeg) ((mA m 4 (p2.toNatClampNeg)) ||| ((1 : Int32) <<< (v20 &&& 31))))) 4) (p1.toNatClampNeg) ((mA (mAs m 4 (upd (mA m 4) (p2.toNatClampNeg) ((mA m 4 (p2.toNatClampNeg)) ||| ((1 : Int32) <<< (v20 &&& 31))))) 4 (p1.toNatClampNeg)) - v6))) 1))) else none else none else none else none else none else none else none

def R_X3_packed_L16 (p1 : Int32) : Nat → MSt → Int32 → Int32 → Int32 → Option (Int32 × MSt)
  | 0, _, _, _, _ => none
  | n + 1, m, x2_16, x3_16, x4_16 => if x4_16 = (-1 : Int32) then some (x2_16, m) else (R_X3_move m x3_16 x4_16).bind fun v26 => (R_X3_fewest v26 p1).bind fun v34 => (R_X3_most v26 p1 v34).bind fun v41 => R_X3_packed_L16 p1 n v26 (x2_16 + (1 : Int32)) v34 v41
def R_X3_packed (m : MSt) (p1 : Int32) : Option (Int32 × MSt) := (R_X3_fewest m p1).bind fun v4 => (R_X3_most m p1 v4).bind fun v11 => R_X3_packed_L16 p1 FU m (0 : Int32) v4 v11

def R_X3_shelvesOf_L5 (m : MSt) (p1 : Int32) (p2 : Int32) : Nat → Int32 → Int32 → Option (Int32)
  | 0, _, _ => none
  | n + 1, x3_5, x4_5 => if (12 : Int32) ≤ x4_5 then some x3_5 else if inb x4_5 12 = true then if (mA m 2 (x4_5.toNatClampNeg)) = p1 then if p2 = 0 then R_X3_shelvesOf_L5 m p1 p2 n (x3_5 + (1 : Int32)) (x4_5 + (1 : Int32)) else if ¬ p2 = (1 : Int32) then if ¬ p2 = (2 : Int32) then if ¬ p2 = (3 : Int32) then R_X3_shelvesOf_L5 m p1 p2 n (x3_5 + (0 : Int32)) (x4_5 + (1 : Int32)) else if inb x4_5 12 = true then if ¬ (mA m 4 (x4_5.toNatClampNeg)) = 0 then R_X3_shelvesOf_L5 m p1 p2 n (x3_5 + (0 : Int32)) (x4_5 + (1 : Int32)) else R_X3_shelvesOf_L5 m p1 p2 n (x3_5 + (1 : Int32)) (x4_5 + (1 : Int32)) else none else (R_X3_isUsed m x4_5 p1).bind fun v54 => if ¬ v54 = 0 then R_X3_shelvesOf_L5 m p1 p2 n (x3_5 + (1 : Int32)) (x4_5 + (1 : Int32)) else if ¬ p2 = (3 : Int32) then R_X3_shelvesOf_L5 m p1 p2 n (x3_5 + (0 : Int32)) (x4_5 + (1 : Int32)) else if inb x4_5 12 = true then if ¬ (mA m 4 (x4_5.toNatClampNeg)) = 0 then R_X3_shelvesOf_L5 m p1 p2 n (x3_5 + (0 : Int32)) (x4_5 + (1 : Int32)) else R_X3_shelvesOf_L5 m p1 p2 n (x3_5 + (1 : Int32)) (x4_5 + (1 : Int32)) else none else (R_X3_isFull m x4_5).bind fun v39 => if ¬ v39 = 0 then R_X3_shelvesOf_L5 m p1 p2 n (x3_5 + (1 : Int32)) (x4_5 + (1 : Int32)) else if ¬ p2 = (2 : Int32) then if ¬ p2 = (3 : Int32) then R_X3_shelvesOf_L5 m p1 p2 n (x3_5 + (0 : Int32)) (x4_5 + (1 : Int32)) else if inb x4_5 12 = true then if ¬ (mA m 4 (x4_5.toNatClampNeg)) = 0 then R_X3_shelvesOf_L5 m p1 p2 n (x3_5 + (0 : Int32)) (x4_5 + (1 : Int32)) else R_X3_shelvesOf_L5 m p1 p2 n (x3_5 + (1 : Int32)) (x4_5 + (1 : Int32)) else none else (R_X3_isUsed m x4_5 p1).bind fun v54 => if ¬ v54 = 0 then R_X3_shelvesOf_L5 m p1 p2 n (x3_5 + (1 : Int32)) (x4_5 + (1 : Int32)) else if ¬ p2 = (3 : Int32) then R_X3_shelvesOf_L5 m p1 p2 n (x3_5 + (0 : Int32)) (x4_5 + (1 : Int32)) else if inb x4_5 12 = true then if ¬ (mA m 4 (x4_5.toNatClampNeg)) = 0 then R_X3_shelvesOf_L5 m p1 p2 n (x3_5 + (0 : Int32)) (x4_5 + (1 : Int32)) else R_X3_shelvesOf_L5 m p1 p2 n (x3_5 + (1 : Int32)) (x4_5 + (1 : Int32)) else none else R_X3_shelvesOf_L5 m p1 p2 n x3_5 (x4_5 + (1 : Int32)) else none
def R_X3_shelvesOf (m : MSt) (p1 : Int32) (p2 : Int32) : Option (Int32) := R_X3_shelvesOf_L5 m p1 p2 FU (0 : Int32) (0 : Int32)

def R_X3_gained (m : MSt) (p1 : Int32) : Option (Int32 × MSt) := (R_X3_shelvesOf (mAs (mAs m 6 (va_cpy (mA m 4) (mA m 6) 0 0 12)) 7 (va_cpy (mA (mAs m 6 (va_cpy (mA m 4) (mA m 6) 0 0 12)) 5) (mA (mAs m 6 (va_cpy (mA m 4) (mA m 6) 0 0 12)) 7) 0 0 12)) p1 (3 : Int32)).bind fun v33 => (R_X3_packed (mAs (mAs m 6 (va_cpy (mA m 4) (mA m 6) 0 0 12)) 7 (va_cpy (mA (mAs m 6 (va_cpy (mA m 4) (mA m 6) 0 0 12)) 5) (mA (mAs m 6 (va_cpy (mA m 4) (mA m 6) 0 0 12)) 7) 0 0 12)) p1).bind fun v39 => (R_X3_shelvesOf v39.2 p1 (3 : Int32)).bind fun v46 => some ((v46 - v33), (mAs (mAs v39.2 4 (va_cpy (mA v39.2 6) (mA v39.2 4) 0 0 12)) 5 (va_cpy (mA (mAs v39.2 4 (va_cpy (mA v39.2 6) (mA v39.2 4) 0 0 12)) 7) (mA (mAs v39.2 4 (va_cpy (mA v39.2 6) (mA v39.2 4) 0 0 12)) 5) 0 0 12)))

def R_X3_kind (m : MSt) (p1 : Int32) : Option (Int32 × MSt) := (R_X3_isIn p1 (2 : Int32) (12 : Int32)).bind fun v9 => if ¬ v9 = 0 then if ¬ (mF (mFs m 0 (0 : Int32)) 5) = (5 : Int32) then if inb (mF (mFs m 0 (0 : Int32)) 5) 5 = true then some (((mF (mFs (mAs (mFs m 0 (0 : Int32)) 0 (upd (mA (mFs m 0 (0 : Int32)) 0) ((mF (mFs m 0 (0 : Int32)) 5).toNatClampNeg) p1)) 5 ((mF (mAs (mFs m 0 (0 : Int32)) 0 (upd (mA (mFs m 0 (0 : Int32)) 0) ((mF (mFs m 0 (0 : Int32)) 5).toNatClampNeg) p1)) 5) + (1 : Int32))) 5) - (1 : Int32)), (mFs (mAs (mFs m 0 (0 : Int32)) 0 (upd (mA (mFs m 0 (0 : Int32)) 0) ((mF (mFs m 0 (0 : Int32)) 5).toNatClampNeg) p1)) 5 ((mF (mAs (mFs m 0 (0 : Int32)) 0 (upd (mA (mFs m 0 (0 : Int32)) 0) ((mF (mFs m 0 (0 : Int32)) 5).toNatClampNeg) p1)) 5) + (1 : Int32)))) else none else (R_X3_no (mFs m 0 (0 : Int32)) (2 : Int32)).bind fun v31 => some (v31.1, v31.2) else (R_X3_no (mFs m 0 (0 : Int32)) (1 : Int32)).bind fun v17 => some (v17.1, v17.2)

def R_X3_setWay (m : MSt) (p1 : Int32) : Option (Int32 × MSt) := (R_X3_isIn p1 (0 : Int32) (2 : Int32)).bind fun v8 => if ¬ v8 = 0 then some ((mF (mFs m 0 (0 : Int32)) 2), (mFs (mFs m 0 (0 : Int32)) 2 p1)) else (R_X3_no (mFs m 0 (0 : Int32)) (1 : Int32)).bind fun v16 => some (v16.1, v16.2)

def R_X3_put (m : MSt) (p1 : Int32) : Option (Int32 × MSt) := (R_X3_isKind (mFs m 0 (0 : Int32)) p1).bind fun v7 => if ¬ v7 = 0 then (R_X3_shelfFor (mFs m 0 (0 : Int32)) p1).bind fun v21 => if ¬ v21 = (-1 : Int32) then (R_X3_placed (mFs m 0 (0 : Int32)) p1 v21).bind fun v41 => some (v41.1, v41.2) else (R_X3_no (mFs m 0 (0 : Int32)) (2 : Int32)).bind fun v32 => some (v32.1, v32.2) else (R_X3_no (mFs m 0 (0 : Int32)) (1 : Int32)).bind fun v15 => some (v15.1, v15.2)

def R_X3_take (m : MSt) (p1 : Int32) : Option (Int32 × MSt) := (R_X3_isSpot p1).bind fun v6 => if ¬ v6 = 0 then (R_X3_placeOf (mFs m 0 (0 : Int32)) p1).bind fun v25 => if v25 = (-1 : Int32) then (R_X3_no (mFs m 0 (0 : Int32)) (2 : Int32)).bind fun v59 => some (v59.1, v59.2) else (R_X3_spotOf (mFs m 0 (0 : Int32)) (p1 / (24 : Int32)) v25).bind fun v37 => if ¬ v37 = p1 then (R_X3_no (mFs m 0 (0 : Int32)) (2 : Int32)).bind fun v59 => some (v59.1, v59.2) else if inb (p1 / (24 : Int32)) 12 = true then if ¬ (((mA (mFs m 0 (0 : Int32)) 4 ((p1 / (24 : Int32)).toNatClampNeg)) >>> (v25 &&& 31)) &&& (1 : Int32)) = 0 then if inb (p1 / (24 : Int32)) 12 = true then if inb (p1 / (24 : Int32)) 12 = true then if inb (p1 / (24 : Int32)) 12 = true then if ¬ (mA (mFs (mAs (mFs m 0 (0 : Int32)) 4 (upd (mA (mFs m 0 (0 : Int32)) 4) ((p1 / (24 : Int32)).toNatClampNeg) ((mA (mFs m 0 (0 : Int32)) 4 ((p1 / (24 : Int32)).toNatClampNeg)) - ((1 : Int32) <<< (v25 &&& 31))))) 1 ((mF (mAs (mFs m 0 (0 : Int32)) 4 (upd (mA (mFs m 0 (0 : Int32)) 4) ((p1 / (24 : Int32)).toNatClampNeg) ((mA (mFs m 0 (0 : Int32)) 4 ((p1 / (24 : Int32)).toNatClampNeg)) - ((1 : Int32) <<< (v25 &&& 31))))) 1) + (1 : Int32))) 4 ((p1 / (24 : Int32)).toNatClampNeg)) = 0 then (R_X3_many (mFs (mAs (mFs m 0 (0 : Int32)) 4 (upd (mA (mFs m 0 (0 : Int32)) 4) ((p1 / (24 : Int32)).toNatClampNeg) ((mA (mFs m 0 (0 : Int32)) 4 ((p1 / (24 : Int32)).toNatClampNeg)) - ((1 : Int32) <<< (v25 &&& 31))))) 1 ((mF (mAs (mFs m 0 (0 : Int32)) 4 (upd (mA (mFs m 0 (0 : Int32)) 4) ((p1 / (24 : Int32)).toNatClampNeg) ((mA (mFs m 0 (0 : Int32)) 4 ((p1 / (24 : Int32)).toNatClampNeg)) - ((1 : Int32) <<< (v25 &&& 31))))) 1) + (1 : Int32))) (p1 / (24 : Int32))).bind fun v106 => some (v106, (mFs (mAs (mFs m 0 (0 : Int32)) 4 (upd (mA (mFs m 0 (0 : Int32)) 4) ((p1 / (24 : Int32)).toNatClampNeg) ((mA (mFs m 0 (0 : Int32)) 4 ((p1 / (24 : Int32)).toNatClampNeg)) - ((1 : Int32) <<< (v25 &&& 31))))) 1 ((mF (mAs (mFs m 0 (0 : Int32)) 4 (upd (mA (mFs m 0 (0 : Int32)) 4) ((p1 / (24 : Int32)).toNatClampNeg) ((mA (mFs m 0 (0 : Int32)) 4 ((p1 / (24 : Int32)).toNatClampNeg)) - ((1 : Int32) <<< (v25 &&& 31))))) 1) + (1 : Int32)))) else if inb (p1 / (24 : Int32)) 12 = true then (R_X3_many (mAs (mFs (mAs (mFs m 0 (0 : Int32)) 4 (upd (mA (mFs m 0 (0 : Int32)) 4) ((p1 / (24 : Int32)).toNatClampNeg) ((mA (mFs m 0 (0 : Int32)) 4 ((p1 / (24 : Int32)).toNatClampNeg)) - ((1 : Int32) <<< (v25 &&& 31))))) 1 ((mF (mAs (mFs m 0 (0 : Int32)) 4 (upd (mA (mFs m 0 (0 : Int32)) 4) ((p1 / (24 : Int32)).toNatClampNeg) ((mA (mFs m 0 (0 : Int32)) 4 ((p1 / (24 : Int32)).toNatClampNeg)) - ((1 : Int32) <<< (v25 &&& 31))))) 1) + (1 : Int32))) 5 (upd (mA (mFs (mAs (mFs m 0 (0 : Int32)) 4 (upd (mA (mFs m 0 (0 : Int32)) 4) ((p1 / (24 : Int32)).toNatClampNeg) ((mA (mFs m 0 (0 : Int32)) 4 ((p1 / (24 : Int32)).toNatClampNeg)) - ((1 : Int32) <<< (v25 &&& 31))))) 1 ((mF (mAs (mFs m 0 (0 : Int32)) 4 (upd (mA (mFs m 0 (0 : Int32)) 4) ((p1 / (24 : Int32)).toNatClampNeg) ((mA (mFs m 0 (0 : Int32)) 4 ((p1 / (24 : Int32)).toNatClampNeg)) - ((1 : Int32) <<< (v25 &&& 31))))) 1) + (1 : Int32))) 5) ((p1 / (24 : Int32)).toNatClampNeg) (mF (mFs (mAs (mFs m 0 (0 : Int32)) 4 (upd (mA (mFs m 0 (0 : Int32)) 4) ((p1 / (24 : Int32)).toNatClampNeg) ((mA (mFs m 0 (0 : Int32)) 4 ((p1 / (24 : Int32)).toNatClampNeg)) - ((1 : Int32) <<< (v25 &&& 31))))) 1 ((mF (mAs (mFs m 0 (0 : Int32)) 4 (upd (mA (mFs m 0 (0 : Int32)) 4) ((p1 / (24 : Int32)).toNatClampNeg) ((mA (mFs m 0 (0 : Int32)) 4 ((p1 / (24 : Int32)).toNatClampNeg)) - ((1 : Int32) <<< (v25 &&& 31))))) 1) + (1 : Int32))) 1))) (p1 / (24 : Int32))).bind fun v106 => some (v106, (mAs (mFs (mAs (mFs m 0 (0 : Int32)) 4 (upd (mA (mFs m 0 (0 : Int32)) 4) ((p1 / (24 : Int32)).toNatClampNeg) ((mA (mFs m 0 (0 : Int32)) 4 ((p1 / (24 : Int32)).toNatClampNeg)) - ((1 : Int32) <<< (v25 &&& 31))))) 1 ((mF (mAs (mFs m 0 (0 : Int32)) 4 (upd (mA (mFs m 0 (0 : Int32)) 4) ((p1 / (24 : Int32)).toNatClampNeg) ((mA (mFs m 0 (0 : Int32)) 4 ((p1 / (24 : Int32)).toNatClampNeg)) - ((1 : Int32) <<< (v25 &&& 31))))) 1) + (1 : Int32))) 5 (upd (mA (mFs (mAs (mFs m 0 (0 : Int32)) 4 (upd (mA (mFs m 0 (0 : Int32)) 4) ((p1 / (24 : Int32)).toNatClampNeg) ((mA (mFs m 0 (0 : Int32)) 4 ((p1 / (24 : Int32)).toNatClampNeg)) - ((1 : Int32) <<< (v25 &&& 31))))) 1 ((mF (mAs (mFs m 0 (0 : Int32)) 4 (upd (mA (mFs m 0 (0 : Int32)) 4) ((p1 / (24 : Int32)).toNatClampNeg) ((mA (mFs m 0 (0 : Int32)) 4 ((p1 / (24 : Int32)).toNatClampNeg)) - ((1 : Int32) <<< (v25 &&& 31))))) 1) + (1 : Int32))) 5) ((p1 / (24 : Int32)).toNatClampNeg) (mF (mFs (mAs (mFs m 0 (0 : Int32)) 4 (upd (mA (mFs m 0 (0 : Int32)) 4) ((p1 / (24 : Int32)).toNatClampNeg) ((mA (mFs m 0 (0 : Int32)) 4 ((p1 / (24 : Int32)).toNatClampNeg)) - ((1 : Int32) <<< (v25 &&& 31))))) 1 ((mF (mAs (mFs m 0 (0 : Int32)) 4 (upd (mA (mFs m 0 (0 : Int32)) 4) ((p1 / (24 : Int32)).toNatClampNeg) ((mA (mFs m 0 (0 : Int32)) 4 ((p1 / (24 : Int32)).toNatClampNeg)) - ((1 : Int32) <<< (v25 &&& 31))))) 1) + (1 : Int32))) 1)))) else none else none else none else none else (R_X3_no (mFs m 0 (0 : Int32)) (2 : Int32)).bind fun v59 => some (v59.1, v59.2) else none else (R_X3_no (mFs m 0 (0 : Int32)) (1 : Int32)).bind fun v14 => some (v14.1, v14.2)

def R_X3_reap_L25 (p1 : Int32) : Nat → MSt → Int32 → Int32 → Option (Int32 × MSt)
  | 0, _, _, _ => none
  | n + 1, m, x2_25, x3_25 => if (12 : Int32) ≤ x3_25 then some (x2_25, m) else (R_X3_isFree m x3_25).bind fun v33 => if ¬ v33 = 0 then R_X3_reap_L25 p1 n m x2_25 (x3_25 + (1 : Int32)) else if inb x3_25 12 = true then if ¬ (mA m 4 (x3_25.toNatClampNeg)) = 0 then R_X3_reap_L25 p1 n m x2_25 (x3_25 + (1 : Int32)) else if inb x3_25 12 = true then if p1 ≤ ((mF m 1) - (mA m 5 (x3_25.toNatClampNeg))) then if inb x3_25 12 = true then if inb x3_25 12 = true then R_X3_reap_L25 p1 n (mAs (mAs m 2 (upd (mA m 2) (x3_25.toNatClampNeg) (-1 : Int32))) 5 (upd (mA (mAs m 2 (upd (mA m 2) (x3_25.toNatClampNeg) (-1 : Int32))) 5) (x3_25.toNatClampNeg) (-1 : Int32))) (x2_25 + (1 : Int32)) (x3_25 + (1 : Int32)) else none else none else R_X3_reap_L25 p1 n m x2_25 (x3_25 + (1 : Int32)) else none else none
def R_X3_reap (m : MSt) (p1 : Int32) : Option (Int32 × MSt) := (R_X3_isIn p1 (0 : Int32) (99 : Int32)).bind fun v9 => if ¬ v9 = 0 then R_X3_reap_L25 p1 FU (mFs m 0 (0 : Int32)) (0 : Int32) (0 : Int32) else (R_X3_no (mFs m 0 (0 : Int32)) (1 : Int32)).bind fun v17 => some (v17.1, v17.2)

def R_X3_pack (m : MSt) (p1 : Int32) : Option (Int32 × MSt) := (R_X3_isKind (mFs m 0 (0 : Int32)) p1).bind fun v7 => if ¬ v7 = 0 then (R_X3_packed (mFs m 0 (0 : Int32)) p1).bind fun v21 => some (v21.1, (mFs v21.2 4 ((mF v21.2 4) + v21.1))) else (R_X3_no (mFs m 0 (0 : Int32)) (1 : Int32)).bind fun v15 => some (v15.1, v15.2)

def R_X3_shelfTold (m : MSt) (p1 : Int32) (p2 : Int32) : Option (Int32) := (R_X3_isFree m p1).bind fun v2 => if v2 = 0 then if p2 = 0 then if inb p1 12 = true then some (mA m 2 (p1.toNatClampNeg)) else none else if p2 = 1 then (R_X3_many m p1).bind fun v69 => some v69 else if p2 = 2 then if inb p1 12 = true then some (mA m 3 (p1.toNatClampNeg)) else none else if p2 = 3 then if inb p1 12 = true then (R_X3_places m (mA m 2 (p1.toNatClampNeg))).bind fun v87 => some v87 else none else if p2 = 4 then (R_X3_hole m p1).bind fun v93 => some v93 else if inb p1 12 = true then some (mA m 5 (p1.toNatClampNeg)) else none else if p2 = 0 then some (-1 : Int32) else if p2 ≤ (3 : Int32) then some (0 : Int32) else some (-1 : Int32)

def R_X3_shelf (m : MSt) (p1 : Int32) (p2 : Int32) : Option (Int32 × MSt) := (R_X3_isIn p1 (0 : Int32) (11 : Int32)).bind fun v9 => if v9 = 0 then (R_X3_no (mFs m 0 (0 : Int32)) (1 : Int32)).bind fun v35 => some (v35.1, v35.2) else (R_X3_isIn p2 (0 : Int32) (5 : Int32)).bind fun v18 => if v18 = 0 then (R_X3_no (mFs m 0 (0 : Int32)) (1 : Int32)).bind fun v35 => some (v35.1, v35.2) else (R_X3_shelfTold (mFs m 0 (0 : Int32)) p1 p2).bind fun v27 => some (v27, (mFs m 0 (0 : Int32)))

def R_X3_bowlsOf_L4 (m : MSt) (p1 : Int32) : Nat → Int32 → Int32 → Option (Int32)
  | 0, _, _ => none
  | n + 1, x2_4, x3_4 => if (12 : Int32) ≤ x3_4 then some x2_4 else if inb x3_4 12 = true then if ¬ (mA m 2 (x3_4.toNatClampNeg)) = p1 then R_X3_bowlsOf_L4 m p1 n (x2_4 + (0 : Int32)) (x3_4 + (1 : Int32)) else (R_X3_many m x3_4).bind fun v23 => R_X3_bowlsOf_L4 m p1 n (x2_4 + v23) (x3_4 + (1 : Int32)) else none
def R_X3_bowlsOf (m : MSt) (p1 : Int32) : Option (Int32) := R_X3_bowlsOf_L4 m p1 FU (0 : Int32) (0 : Int32)

def R_X3_kindTold (m : MSt) (p1 : Int32) (p2 : Int32) : Option (Int32) := if p2 = 0 then if inb p1 5 = true then some (mA m 0 (p1.toNatClampNeg)) else none else if p2 = 1 then (R_X3_places m p1).bind fun v61 => some v61 else if p2 = 2 then (R_X3_rest m p1).bind fun v67 => some v67 else if p2 = 3 then (R_X3_shelvesOf m p1 (p2 - (3 : Int32))).bind fun v89 => some v89 else if p2 = 4 then (R_X3_shelvesOf m p1 (p2 - (3 : Int32))).bind fun v89 => some v89 else if p2 = 5 then (R_X3_shelvesOf m p1 (p2 - (3 : Int32))).bind fun v89 => some v89 else if p2 = 6 then (R_X3_shelvesOf m p1 (p2 - (3 : Int32))).bind fun v89 => some v89 else if p2 = 7 then (R_X3_bowlsOf m p1).bind fun v73 => some v73 else if p2 = 8 then if inb p1 5 = true then some (mA m 1 (p1.toNatClampNeg)) else none else (R_X3_shelvesOf m p1 (p2 - (3 : Int32))).bind fun v89 => some v89

def R_X3_about (m : MSt) (p1 : Int32) (p2 : Int32) : Option (Int32 × MSt) := (R_X3_isKind (mFs m 0 (0 : Int32)) p1).bind fun v7 => if v7 = 0 then (R_X3_no (mFs m 0 (0 : Int32)) (1 : Int32)).bind fun v34 => some (v34.1, v34.2) else (R_X3_isIn p2 (0 : Int32) (8 : Int32)).bind fun v17 => if v17 = 0 then (R_X3_no (mFs m 0 (0 : Int32)) (1 : Int32)).bind fun v34 => some (v34.1, v34.2) else (R_X3_kindTold (mFs m 0 (0 : Int32)) p1 p2).bind fun v26 => some (v26, (mFs m 0 (0 : Int32)))

def R_X3_placeTold (m : MSt) (p1 : Int32) (p2 : Int32) : Option (Int32) := (R_X3_placeOf m p1).bind fun v2 => if ¬ v2 = (-1 : Int32) then if ¬ p2 = 0 then if ¬ p2 = (1 : Int32) then if ¬ p2 = (2 : Int32) then (R_X3_spotOf m (p1 / (24 : Int32)) v2).bind fun v65 => some v65 else if inb (p1 / (24 : Int32)) 12 = true then some (((mA m 4 ((p1 / (24 : Int32)).toNatClampNeg)) >>> (v2 &&& 31)) &&& (1 : Int32)) else none else some v2 else if inb (p1 / (24 : Int32)) 12 = true then some (mA m 2 ((p1 / (24 : Int32)).toNatClampNeg)) else none else some (-1 : Int32)

def R_X3_place (m : MSt) (p1 : Int32) (p2 : Int32) : Option (Int32 × MSt) := (R_X3_isSpot p1).bind fun v6 => if v6 = 0 then (R_X3_no (mFs m 0 (0 : Int32)) (1 : Int32)).bind fun v32 => some (v32.1, v32.2) else (R_X3_isIn p2 (0 : Int32) (3 : Int32)).bind fun v15 => if v15 = 0 then (R_X3_no (mFs m 0 (0 : Int32)) (1 : Int32)).bind fun v32 => some (v32.1, v32.2) else (R_X3_placeTold (mFs m 0 (0 : Int32)) p1 p2).bind fun v24 => some (v24, (mFs m 0 (0 : Int32)))

def R_X3_sum_L4 (m : MSt) (p1 : Int32) : Nat → Int32 → Int32 → Option (Int32)
  | 0, _, _ => none
  | n + 1, x2_4, x3_4 => if (12 : Int32) ≤ x3_4 then some x2_4 else (R_X3_isFree m x3_4).bind fun v12 => if v12 = 0 then (R_X3_many m x3_4).bind fun v36 => if inb x3_4 12 = true then if inb (mA m 2 (x3_4.toNatClampNeg)) 5 = true then if ¬ p1 = (3 : Int32) then if ¬ p1 = (4 : Int32) then if ¬ p1 = (5 : Int32) then if ¬ p1 = (6 : Int32) then R_X3_sum_L4 m p1 n (x2_4 + (0 : Int32)) (x3_4 + (1 : Int32)) else if inb x3_4 12 = true then (R_X3_rest m (mA m 2 (x3_4.toNatClampNeg))).bind fun v103 => R_X3_sum_L4 m p1 n (x2_4 + v103) (x3_4 + (1 : Int32)) else none else R_X3_sum_L4 m p1 n (x2_4 + ((24 : Int32) - (v36 * (mA m 0 ((mA m 2 (x3_4.toNatClampNeg)).toNatClampNeg))))) (x3_4 + (1 : Int32)) else R_X3_sum_L4 m p1 n (x2_4 + (v36 * (mA m 0 ((mA m 2 (x3_4.toNatClampNeg)).toNatClampNeg)))) (x3_4 + (1 : Int32)) else (R_X3_many m x3_4).bind fun v61 => R_X3_sum_L4 m p1 n (x2_4 + v61) (x3_4 + (1 : Int32)) else none else none else if ¬ p1 = (2 : Int32) then R_X3_sum_L4 m p1 n (x2_4 + (0 : Int32)) (x3_4 + (1 : Int32)) else R_X3_sum_L4 m p1 n (x2_4 + (1 : Int32)) (x3_4 + (1 : Int32))
def R_X3_sum (m : MSt) (p1 : Int32) : Option (Int32) := R_X3_sum_L4 m p1 FU (0 : Int32) (0 : Int32)

def R_X3_counted (m : MSt) (p1 : Int32) : Option (Int32) := if p1 = 0 then some (mF m 1) else if p1 = 1 then some (mF m 5) else if p1 = 2 then (R_X3_sum m p1).bind fun v83 => some v83 else if p1 = 3 then (R_X3_sum m p1).bind fun v83 => some v83 else if p1 = 4 then (R_X3_sum m p1).bind fun v83 => some v83 else if p1 = 5 then (R_X3_sum m p1).bind fun v83 => some v83 else if p1 = 6 then (R_X3_sum m p1).bind fun v83 => some v83 else if p1 = 7 then some (mF m 3) else if p1 = 8 then some (mF m 4) else if p1 = 9 then some (mF m 2) else (R_X3_sum m p1).bind fun v83 => some v83

def R_X3_count (m : MSt) (p1 : Int32) : Option (Int32 × MSt) := (R_X3_isIn p1 (0 : Int32) (9 : Int32)).bind fun v9 => if v9 = 0 then (R_X3_no (mFs m 0 (0 : Int32)) (1 : Int32)).bind fun v25 => some (v25.1, v25.2) else (R_X3_counted (mFs m 0 (0 : Int32)) p1).bind fun v17 => some (v17, (mFs m 0 (0 : Int32)))

def R_X3_next (m : MSt) (p1 : Int32) : Option (Int32 × MSt) := (R_X3_isKind (mFs m 0 (0 : Int32)) p1).bind fun v7 => if v7 = 0 then (R_X3_no (mFs m 0 (0 : Int32)) (1 : Int32)).bind fun v23 => some (v23.1, v23.2) else (R_X3_spotFor (mFs m 0 (0 : Int32)) p1).bind fun v15 => some (v15, (mFs m 0 (0 : Int32)))

def R_X3_room (m : MSt) (p1 : Int32) : Option (Int32) := (R_X3_shelvesOf m p1 (0 : Int32)).bind fun v3 => (R_X3_places m p1).bind fun v8 => (R_X3_bowlsOf m p1).bind fun v14 => some ((v3 * v8) - v14)

def R_X3_fits (m : MSt) (p1 : Int32) : Option (Int32 × MSt) := (R_X3_isKind (mFs m 0 (0 : Int32)) p1).bind fun v7 => if v7 = 0 then (R_X3_no (mFs m 0 (0 : Int32)) (1 : Int32)).bind fun v35 => some (v35.1, v35.2) else (R_X3_room (mFs m 0 (0 : Int32)) p1).bind fun v15 => (R_X3_sum (mFs m 0 (0 : Int32)) (2 : Int32)).bind fun v20 => (R_X3_places (mFs m 0 (0 : Int32)) p1).bind fun v25 => some ((v15 + (v20 * v25)), (mFs m 0 (0 : Int32)))

def R_J9_max_7cf53 (p0 : Int32) (p1 : Int32) : Option (Int32) := if p0 < p1 then some p1 else some p0

def R_X3_wouldCome (m : MSt) (p1 : Int32) (p2 : Int32) : Option (Int32) := (R_X3_room m p1).bind fun v4 => (R_J9_max_7cf53 (0 : Int32) (p2 - v4)).bind fun v8 => (R_X3_places m p1).bind fun v15 => (R_X3_places m p1).bind fun v23 => if ¬ v23 = 0 then (R_X3_sum m (2 : Int32)).bind fun v33 => if (((v8 + v15) - (1 : Int32)) / v23) ≤ v33 then some (((v8 + v15) - (1 : Int32)) / v23) else some (-1 : Int32) else none

def R_X3_would (m : MSt) (p1 : Int32) (p2 : Int32) : Option (Int32 × MSt) := (R_X3_isKind (mFs m 0 (0 : Int32)) p1).bind fun v7 => if ¬ v7 = 0 then (R_X3_isIn p2 (1 : Int32) (150 : Int32)).bind fun v24 => if v24 = 0 then (R_X3_no (mFs m 0 (0 : Int32)) (2 : Int32)).bind fun v41 => some (v41.1, v41.2) else (R_X3_wouldCome (mFs m 0 (0 : Int32)) p1 p2).bind fun v33 => some (v33, (mFs m 0 (0 : Int32))) else (R_X3_no (mFs m 0 (0 : Int32)) (1 : Int32)).bind fun v15 => some (v15.1, v15.2)

def R_X3_gains (m : MSt) (p1 : Int32) : Option (Int32 × MSt) := (R_X3_isKind (mFs m 0 (0 : Int32)) p1).bind fun v7 => if v7 = 0 then (R_X3_no (mFs m 0 (0 : Int32)) (1 : Int32)).bind fun v23 => some (v23.1, v23.2) else (R_X3_gained (mFs m 0 (0 : Int32)) p1).bind fun v15 => some (v15.1, v15.2)

def R_X3_advise_L9 : Nat → MSt → Int32 → Int32 → Option (Int32 × MSt)
  | 0, _, _, _ => none
  | n + 1, m, x1_9, x2_9 => if (mF m 5) ≤ x2_9 then some (x1_9, m) else if x1_9 = (-1 : Int32) then R_X3_advise_L9 n m x2_9 (x2_9 + (1 : Int32)) else (R_X3_gained m x2_9).bind fun v24 => (R_X3_gained v24.2 x1_9).bind fun v29 => if v24.1 ≤ v29.1 then R_X3_advise_L9 n v29.2 x1_9 (x2_9 + (1 : Int32)) else R_X3_advise_L9 n v29.2 x2_9 (x2_9 + (1 : Int32))
def R_X3_advise (m : MSt) : Option (Int32 × MSt) := R_X3_advise_L9 FU (mFs m 0 (0 : Int32)) (-1 : Int32) (0 : Int32)

def R_X3_mean (m : MSt) : Option (UInt64 × MSt) := (R_X3_sum (mFs m 0 (0 : Int32)) (2 : Int32)).bind fun v9 => if ¬ ((12 : Int32) - v9) = 0 then (R_X3_sum (mFs m 0 (0 : Int32)) (3 : Int32)).bind fun v24 => if n64b (FP.ddiv (FP.i2d v24) (FP.i2d ((12 : Int32) - v9))) = true then some ((FP.ddiv (FP.i2d v24) (FP.i2d ((12 : Int32) - v9))), (mFs m 0 (0 : Int32))) else none else some (FP.dconst0, (mFs m 0 (0 : Int32)))

def R_X3_digest_L132 (m : MSt) (x3_121 : Int32) : Nat → Int64 → Int32 → Option (Int64 × Int32)
  | 0, _, _ => none
  | n + 1, x1_132, x4_132 => if (8 : Int32) < x4_132 then some (x1_132, x4_132) else (R_X3_kindTold (mFs m 0 (0 : Int32)) x3_121 x4_132).bind fun v148 => R_X3_digest_L132 m x3_121 n ((x1_132 * (31 : Int64)) + v148.toInt64) (x4_132 + (1 : Int32))
def R_X3_digest_L121 (m : MSt) : Nat → Int64 → Int32 → Option (Int64 × MSt)
  | 0, _, _ => none
  | n + 1, x1_121, x3_121 => if (mF (mFs m 0 (0 : Int32)) 5) ≤ x3_121 then some (x1_121, (mFs m 0 (0 : Int32))) else (R_X3_digest_L132 m x3_121 FU x1_121 (0 : Int32)).bind fun v132 => (R_X3_spotFor (mFs m 0 (0 : Int32)) x3_121).bind fun v167 => R_X3_digest_L121 m n ((v132.1 * (31 : Int64)) + v167.toInt64) (x3_121 + (1 : Int32))
def R_X3_digest_L47 (m : MSt) (x3_38 : Int32) : Nat → Int64 → Int32 → Option (Int64 × Int32)
  | 0, _, _ => none
  | n + 1, x1_47, x4_47 => if (5 : Int32) < x4_47 then some (x1_47, x4_47) else (R_X3_shelfTold (mFs m 0 (0 : Int32)) x3_38 x4_47).bind fun v62 => R_X3_digest_L47 m x3_38 n ((x1_47 * (31 : Int64)) + v62.toInt64) (x4_47 + (1 : Int32))
def R_X3_digest_L77 (m : MSt) (x3_38 : Int32) : Nat → Int64 → Int32 → Option (Int64 × Int32)
  | 0, _, _ => none
  | n + 1, x1_77, x4_77 => (R_X3_shelfTold (mFs m 0 (0 : Int32)) x3_38 (3 : Int32)).bind fun v82 => if v82 ≤ x4_77 then some (x1_77, x4_77) else if inb x3_38 12 = true then R_X3_digest_L77 m x3_38 n ((x1_77 * (31 : Int64)) + (((mA (mFs m 0 (0 : Int32)) 4 (x3_38.toNatClampNeg)) >>> (x4_77 &&& 31)) &&& (1 : Int32)).toInt64) (x4_77 + (1 : Int32)) else none
def R_X3_digest_L38 (m : MSt) : Nat → Int64 → Int32 → Option (Int64 × MSt)
  | 0, _, _ => none
  | n + 1, x1_38, x3_38 => if (12 : Int32) ≤ x3_38 then R_X3_digest_L121 m FU x1_38 (0 : Int32) else (R_X3_digest_L47 m x3_38 FU x1_38 (0 : Int32)).bind fun v47 => (R_X3_digest_L77 m x3_38 FU v47.1 (0 : Int32)).bind fun v77 => R_X3_digest_L38 m n v77.1 (x3_38 + (1 : Int32))
def R_X3_digest_L11 (m : MSt) : Nat → Int64 → Int32 → Option (Int64 × MSt)
  | 0, _, _ => none
  | n + 1, x1_11, x3_11 => if (9 : Int32) < x3_11 then R_X3_digest_L38 m FU x1_11 (0 : Int32) else (R_X3_counted (mFs m 0 (0 : Int32)) x3_11).bind fun v24 => R_X3_digest_L11 m n ((x1_11 * (31 : Int64)) + v24.toInt64) (x3_11 + (1 : Int32))
def R_X3_digest (m : MSt) : Option (Int64 × MSt) := R_X3_digest_L11 m FU (1733 : Int64) (0 : Int32)
end
section
theorem hd_J6_bitCount_0f7a4 : yJ6_bitCount_0f7a4.cls ≠ "java/lang/invoke/MethodHandle" ∧ yJ6_bitCount_0f7a4.cls ≠ "java/lang/invoke/VarHandle" ∧ (parseMethodDescriptor yJ6_bitCount_0f7a4.desc).map (fun d => d.parameters.length) = some 1 := by decide +kernel
theorem hd_J6_highestOneBit_0f7a4 : yJ6_highestOneBit_0f7a4.cls ≠ "java/lang/invoke/MethodHandle" ∧ yJ6_highestOneBit_0f7a4.cls ≠ "java/lang/invoke/VarHandle" ∧ (parseMethodDescriptor yJ6_highestOneBit_0f7a4.desc).map (fun d => d.parameters.length) = some 1 := by decide +kernel
theorem hd_J6_numberOfLeadingZeros_0f7a4 : yJ6_numberOfLeadingZeros_0f7a4.cls ≠ "java/lang/invoke/MethodHandle" ∧ yJ6_numberOfLeadingZeros_0f7a4.cls ≠ "java/lang/invoke/VarHandle" ∧ (parseMethodDescriptor yJ6_numberOfLeadingZeros_0f7a4.desc).map (fun d => d.parameters.length) = some 1 := by decide +kernel
theorem hd_J9_max_7cf53 : yJ9_max_7cf53.cls ≠ "java/lang/invoke/MethodHandle" ∧ yJ9_max_7cf53.cls ≠ "java/lang/invoke/VarHandle" ∧ (parseMethodDescriptor yJ9_max_7cf53.desc).map (fun d => d.parameters.length) = some 2 := by decide +kernel
theorem hd_X0_countShelf : yX0_countShelf.cls = RX0 ∧ yX0_countShelf.cls ≠ "java/lang/invoke/MethodHandle" ∧ yX0_countShelf.cls ≠ "java/lang/invoke/VarHandle" ∧ (parseMethodDescriptor yX0_countShelf.desc).map (fun d => d.parameters.length) = some 0 := by decide +kernel
theorem hd_X0_shelvesFor : yX0_shelvesFor.cls = RX0 ∧ yX0_shelvesFor.cls ≠ "java/lang/invoke/MethodHandle" ∧ yX0_shelvesFor.cls ≠ "java/lang/invoke/VarHandle" ∧ (parseMethodDescriptor yX0_shelvesFor.desc).map (fun d => d.parameters.length) = some 1 := by decide +kernel
theorem hd_X1_addBowl : yX1_addBowl.cls = RX1 ∧ yX1_addBowl.cls ≠ "java/lang/invoke/MethodHandle" ∧ yX1_addBowl.cls ≠ "java/lang/invoke/VarHandle" ∧ (parseMethodDescriptor yX1_addBowl.desc).map (fun d => d.parameters.length) = some 1 := by decide +kernel
theorem hd_X1_answer : yX1_answer.cls = RX1 ∧ yX1_answer.cls ≠ "java/lang/invoke/MethodHandle" ∧ yX1_answer.cls ≠ "java/lang/invoke/VarHandle" ∧ (parseMethodDescriptor yX1_answer.desc).map (fun d => d.parameters.length) = some 1 := by decide +kernel
theorem hd_X1_becomeFree : yX1_becomeFree.cls = RX1 ∧ yX1_becomeFree.cls ≠ "java/lang/invoke/MethodHandle" ∧ yX1_becomeFree.cls ≠ "java/lang/invoke/VarHandle" ∧ (parseMethodDescriptor yX1_becomeFree.desc).map (fun d => d.parameters.length) = some 0 := by decide +kernel
theorem hd_X1_beginOf : yX1_beginOf.cls = RX1 ∧ yX1_beginOf.cls ≠ "java/lang/invoke/MethodHandle" ∧ yX1_beginOf.cls ≠ "java/lang/invoke/VarHandle" ∧ (parseMethodDescriptor yX1_beginOf.desc).map (fun d => d.parameters.length) = some 1 := by decide +kernel
theorem hd_X1_comeTo : yX1_comeTo.cls = RX1 ∧ yX1_comeTo.cls ≠ "java/lang/invoke/MethodHandle" ∧ yX1_comeTo.cls ≠ "java/lang/invoke/VarHandle" ∧ (parseMethodDescriptor yX1_comeTo.desc).map (fun d => d.parameters.length) = some 1 := by decide +kernel
theorem hd_X1_firstGap : yX1_firstGap.cls = RX1 ∧ yX1_firstGap.cls ≠ "java/lang/invoke/MethodHandle" ∧ yX1_firstGap.cls ≠ "java/lang/invoke/VarHandle" ∧ (parseMethodDescriptor yX1_firstGap.desc).map (fun d => d.parameters.length) = some 0 := by decide +kernel
theorem hd_X1_isOf : yX1_isOf.cls = RX1 ∧ yX1_isOf.cls ≠ "java/lang/invoke/MethodHandle" ∧ yX1_isOf.cls ≠ "java/lang/invoke/VarHandle" ∧ (parseMethodDescriptor yX1_isOf.desc).map (fun d => d.parameters.length) = some 1 := by decide +kernel
theorem hd_X1_lastBowl : yX1_lastBowl.cls = RX1 ∧ yX1_lastBowl.cls ≠ "java/lang/invoke/MethodHandle" ∧ yX1_lastBowl.cls ≠ "java/lang/invoke/VarHandle" ∧ (parseMethodDescriptor yX1_lastBowl.desc).map (fun d => d.parameters.length) = some 0 := by decide +kernel
theorem hd_X1_placeAt : yX1_placeAt.cls = RX1 ∧ yX1_placeAt.cls ≠ "java/lang/invoke/MethodHandle" ∧ yX1_placeAt.cls ≠ "java/lang/invoke/VarHandle" ∧ (parseMethodDescriptor yX1_placeAt.desc).map (fun d => d.parameters.length) = some 1 := by decide +kernel
theorem hd_X1_removeBowl : yX1_removeBowl.cls = RX1 ∧ yX1_removeBowl.cls ≠ "java/lang/invoke/MethodHandle" ∧ yX1_removeBowl.cls ≠ "java/lang/invoke/VarHandle" ∧ (parseMethodDescriptor yX1_removeBowl.desc).map (fun d => d.parameters.length) = some 2 := by decide +kernel
theorem hd_X1_standsOn : yX1_standsOn.cls = RX1 ∧ yX1_standsOn.cls ≠ "java/lang/invoke/MethodHandle" ∧ yX1_standsOn.cls ≠ "java/lang/invoke/VarHandle" ∧ (parseMethodDescriptor yX1_standsOn.desc).map (fun d => d.parameters.length) = some 1 := by decide +kernel
theorem hd_X1_state : yX1_state.cls = RX1 ∧ yX1_state.cls ≠ "java/lang/invoke/MethodHandle" ∧ yX1_state.cls ≠ "java/lang/invoke/VarHandle" ∧ (parseMethodDescriptor yX1_state.desc).map (fun d => d.parameters.length) = some 0 := by decide +kernel
theorem hd_X2_answerAbout : yX2_answerAbout.cls = RX2 ∧ yX2_answerAbout.cls ≠ "java/lang/invoke/MethodHandle" ∧ yX2_answerAbout.cls ≠ "java/lang/invoke/VarHandle" ∧ (parseMethodDescriptor yX2_answerAbout.desc).map (fun d => d.parameters.length) = some 2 := by decide +kernel
theorem hd_X2_bowlsInAll : yX2_bowlsInAll.cls = RX2 ∧ yX2_bowlsInAll.cls ≠ "java/lang/invoke/MethodHandle" ∧ yX2_bowlsInAll.cls ≠ "java/lang/invoke/VarHandle" ∧ (parseMethodDescriptor yX2_bowlsInAll.desc).map (fun d => d.parameters.length) = some 0 := by decide +kernel
theorem hd_X2_bowlsOf : yX2_bowlsOf.cls = RX2 ∧ yX2_bowlsOf.cls ≠ "java/lang/invoke/MethodHandle" ∧ yX2_bowlsOf.cls ≠ "java/lang/invoke/VarHandle" ∧ (parseMethodDescriptor yX2_bowlsOf.desc).map (fun d => d.parameters.length) = some 1 := by decide +kernel
theorem hd_X2_count : yX2_count.cls = RX2 ∧ yX2_count.cls ≠ "java/lang/invoke/MethodHandle" ∧ yX2_count.cls ≠ "java/lang/invoke/VarHandle" ∧ (parseMethodDescriptor yX2_count.desc).map (fun d => d.parameters.length) = some 1 := by decide +kernel
theorem hd_X2_fewestBowls : yX2_fewestBowls.cls = RX2 ∧ yX2_fewestBowls.cls ≠ "java/lang/invoke/MethodHandle" ∧ yX2_fewestBowls.cls ≠ "java/lang/invoke/VarHandle" ∧ (parseMethodDescriptor yX2_fewestBowls.desc).map (fun d => d.parameters.length) = some 1 := by decide +kernel
theorem hd_X2_firstFree : yX2_firstFree.cls = RX2 ∧ yX2_firstFree.cls ≠ "java/lang/invoke/MethodHandle" ∧ yX2_firstFree.cls ≠ "java/lang/invoke/VarHandle" ∧ (parseMethodDescriptor yX2_firstFree.desc).map (fun d => d.parameters.length) = some 0 := by decide +kernel
theorem hd_X2_firstInState : yX2_firstInState.cls = RX2 ∧ yX2_firstInState.cls ≠ "java/lang/invoke/MethodHandle" ∧ yX2_firstInState.cls ≠ "java/lang/invoke/VarHandle" ∧ (parseMethodDescriptor yX2_firstInState.desc).map (fun d => d.parameters.length) = some 2 := by decide +kernel
theorem hd_X2_freeShelves : yX2_freeShelves.cls = RX2 ∧ yX2_freeShelves.cls ≠ "java/lang/invoke/MethodHandle" ∧ yX2_freeShelves.cls ≠ "java/lang/invoke/VarHandle" ∧ (parseMethodDescriptor yX2_freeShelves.desc).map (fun d => d.parameters.length) = some 0 := by decide +kernel
theorem hd_X2_gainsOf : yX2_gainsOf.cls = RX2 ∧ yX2_gainsOf.cls ≠ "java/lang/invoke/MethodHandle" ∧ yX2_gainsOf.cls ≠ "java/lang/invoke/VarHandle" ∧ (parseMethodDescriptor yX2_gainsOf.desc).map (fun d => d.parameters.length) = some 1 := by decide +kernel
theorem hd_X2_gapsOf : yX2_gapsOf.cls = RX2 ∧ yX2_gapsOf.cls ≠ "java/lang/invoke/MethodHandle" ∧ yX2_gapsOf.cls ≠ "java/lang/invoke/VarHandle" ∧ (parseMethodDescriptor yX2_gapsOf.desc).map (fun d => d.parameters.length) = some 1 := by decide +kernel
theorem hd_X2_inUseByWay : yX2_inUseByWay.cls = RX2 ∧ yX2_inUseByWay.cls ≠ "java/lang/invoke/MethodHandle" ∧ yX2_inUseByWay.cls ≠ "java/lang/invoke/VarHandle" ∧ (parseMethodDescriptor yX2_inUseByWay.desc).map (fun d => d.parameters.length) = some 1 := by decide +kernel
theorem hd_X2_kind : yX2_kind.cls = RX2 ∧ yX2_kind.cls ≠ "java/lang/invoke/MethodHandle" ∧ yX2_kind.cls ≠ "java/lang/invoke/VarHandle" ∧ (parseMethodDescriptor yX2_kind.desc).map (fun d => d.parameters.length) = some 1 := by decide +kernel
theorem hd_X2_kindOf : yX2_kindOf.cls = RX2 ∧ yX2_kindOf.cls ≠ "java/lang/invoke/MethodHandle" ∧ yX2_kindOf.cls ≠ "java/lang/invoke/VarHandle" ∧ (parseMethodDescriptor yX2_kindOf.desc).map (fun d => d.parameters.length) = some 1 := by decide +kernel
theorem hd_X2_lastFewestBowls : yX2_lastFewestBowls.cls = RX2 ∧ yX2_lastFewestBowls.cls ≠ "java/lang/invoke/MethodHandle" ∧ yX2_lastFewestBowls.cls ≠ "java/lang/invoke/VarHandle" ∧ (parseMethodDescriptor yX2_lastFewestBowls.desc).map (fun d => d.parameters.length) = some 1 := by decide +kernel
theorem hd_X2_mixed : yX2_mixed.cls ≠ "java/lang/invoke/MethodHandle" ∧ yX2_mixed.cls ≠ "java/lang/invoke/VarHandle" ∧ (parseMethodDescriptor yX2_mixed.desc).map (fun d => d.parameters.length) = some 2 := by decide +kernel
theorem hd_X2_mixedWithKind : yX2_mixedWithKind.cls = RX2 ∧ yX2_mixedWithKind.cls ≠ "java/lang/invoke/MethodHandle" ∧ yX2_mixedWithKind.cls ≠ "java/lang/invoke/VarHandle" ∧ (parseMethodDescriptor yX2_mixedWithKind.desc).map (fun d => d.parameters.length) = some 2 := by decide +kernel
theorem hd_X2_mixedWithShelf : yX2_mixedWithShelf.cls ≠ "java/lang/invoke/MethodHandle" ∧ yX2_mixedWithShelf.cls ≠ "java/lang/invoke/VarHandle" ∧ (parseMethodDescriptor yX2_mixedWithShelf.desc).map (fun d => d.parameters.length) = some 2 := by decide +kernel
theorem hd_X2_mostBowls : yX2_mostBowls.cls = RX2 ∧ yX2_mostBowls.cls ≠ "java/lang/invoke/MethodHandle" ∧ yX2_mostBowls.cls ≠ "java/lang/invoke/VarHandle" ∧ (parseMethodDescriptor yX2_mostBowls.desc).map (fun d => d.parameters.length) = some 2 := by decide +kernel
theorem hd_X2_moveToPack : yX2_moveToPack.cls = RX2 ∧ yX2_moveToPack.cls ≠ "java/lang/invoke/MethodHandle" ∧ yX2_moveToPack.cls ≠ "java/lang/invoke/VarHandle" ∧ (parseMethodDescriptor yX2_moveToPack.desc).map (fun d => d.parameters.length) = some 1 := by decide +kernel
theorem hd_X2_nextSpot : yX2_nextSpot.cls = RX2 ∧ yX2_nextSpot.cls ≠ "java/lang/invoke/MethodHandle" ∧ yX2_nextSpot.cls ≠ "java/lang/invoke/VarHandle" ∧ (parseMethodDescriptor yX2_nextSpot.desc).map (fun d => d.parameters.length) = some 1 := by decide +kernel
theorem hd_X2_requireAnswer : yX2_requireAnswer.cls ≠ "java/lang/invoke/MethodHandle" ∧ yX2_requireAnswer.cls ≠ "java/lang/invoke/VarHandle" ∧ (parseMethodDescriptor yX2_requireAnswer.desc).map (fun d => d.parameters.length) = some 2 := by decide +kernel
theorem hd_X2_shelfAt : yX2_shelfAt.cls = RX2 ∧ yX2_shelfAt.cls ≠ "java/lang/invoke/MethodHandle" ∧ yX2_shelfAt.cls ≠ "java/lang/invoke/VarHandle" ∧ (parseMethodDescriptor yX2_shelfAt.desc).map (fun d => d.parameters.length) = some 1 := by decide +kernel
theorem hd_X2_shelfToPut : yX2_shelfToPut.cls = RX2 ∧ yX2_shelfToPut.cls ≠ "java/lang/invoke/MethodHandle" ∧ yX2_shelfToPut.cls ≠ "java/lang/invoke/VarHandle" ∧ (parseMethodDescriptor yX2_shelfToPut.desc).map (fun d => d.parameters.length) = some 1 := by decide +kernel
theorem hd_X2_shelvesInState : yX2_shelvesInState.cls = RX2 ∧ yX2_shelvesInState.cls ≠ "java/lang/invoke/MethodHandle" ∧ yX2_shelvesInState.cls ≠ "java/lang/invoke/VarHandle" ∧ (parseMethodDescriptor yX2_shelvesInState.desc).map (fun d => d.parameters.length) = some 2 := by decide +kernel
theorem hd_X2_shelvesOf : yX2_shelvesOf.cls = RX2 ∧ yX2_shelvesOf.cls ≠ "java/lang/invoke/MethodHandle" ∧ yX2_shelvesOf.cls ≠ "java/lang/invoke/VarHandle" ∧ (parseMethodDescriptor yX2_shelvesOf.desc).map (fun d => d.parameters.length) = some 1 := by decide +kernel
theorem hd_X2_spansOfNoPlace : yX2_spansOfNoPlace.cls = RX2 ∧ yX2_spansOfNoPlace.cls ≠ "java/lang/invoke/MethodHandle" ∧ yX2_spansOfNoPlace.cls ≠ "java/lang/invoke/VarHandle" ∧ (parseMethodDescriptor yX2_spansOfNoPlace.desc).map (fun d => d.parameters.length) = some 0 := by decide +kernel
theorem hd_X2_spansUnderBowls : yX2_spansUnderBowls.cls = RX2 ∧ yX2_spansUnderBowls.cls ≠ "java/lang/invoke/MethodHandle" ∧ yX2_spansUnderBowls.cls ≠ "java/lang/invoke/VarHandle" ∧ (parseMethodDescriptor yX2_spansUnderBowls.desc).map (fun d => d.parameters.length) = some 0 := by decide +kernel
theorem hd_X2_takenShelves : yX2_takenShelves.cls = RX2 ∧ yX2_takenShelves.cls ≠ "java/lang/invoke/MethodHandle" ∧ yX2_takenShelves.cls ≠ "java/lang/invoke/VarHandle" ∧ (parseMethodDescriptor yX2_takenShelves.desc).map (fun d => d.parameters.length) = some 0 := by decide +kernel
theorem hd_X3_bowlsOf : yX3_bowlsOf.cls = RX3 ∧ yX3_bowlsOf.cls ≠ "java/lang/invoke/MethodHandle" ∧ yX3_bowlsOf.cls ≠ "java/lang/invoke/VarHandle" ∧ (parseMethodDescriptor yX3_bowlsOf.desc).map (fun d => d.parameters.length) = some 1 := by decide +kernel
theorem hd_X3_counted : yX3_counted.cls = RX3 ∧ yX3_counted.cls ≠ "java/lang/invoke/MethodHandle" ∧ yX3_counted.cls ≠ "java/lang/invoke/VarHandle" ∧ (parseMethodDescriptor yX3_counted.desc).map (fun d => d.parameters.length) = some 1 := by decide +kernel
theorem hd_X3_fewest : yX3_fewest.cls = RX3 ∧ yX3_fewest.cls ≠ "java/lang/invoke/MethodHandle" ∧ yX3_fewest.cls ≠ "java/lang/invoke/VarHandle" ∧ (parseMethodDescriptor yX3_fewest.desc).map (fun d => d.parameters.length) = some 1 := by decide +kernel
theorem hd_X3_gained : yX3_gained.cls = RX3 ∧ yX3_gained.cls ≠ "java/lang/invoke/MethodHandle" ∧ yX3_gained.cls ≠ "java/lang/invoke/VarHandle" ∧ (parseMethodDescriptor yX3_gained.desc).map (fun d => d.parameters.length) = some 1 := by decide +kernel
theorem hd_X3_hole : yX3_hole.cls = RX3 ∧ yX3_hole.cls ≠ "java/lang/invoke/MethodHandle" ∧ yX3_hole.cls ≠ "java/lang/invoke/VarHandle" ∧ (parseMethodDescriptor yX3_hole.desc).map (fun d => d.parameters.length) = some 1 := by decide +kernel
theorem hd_X3_isBetter : yX3_isBetter.cls = RX3 ∧ yX3_isBetter.cls ≠ "java/lang/invoke/MethodHandle" ∧ yX3_isBetter.cls ≠ "java/lang/invoke/VarHandle" ∧ (parseMethodDescriptor yX3_isBetter.desc).map (fun d => d.parameters.length) = some 2 := by decide +kernel
theorem hd_X3_isEmpty : yX3_isEmpty.cls = RX3 ∧ yX3_isEmpty.cls ≠ "java/lang/invoke/MethodHandle" ∧ yX3_isEmpty.cls ≠ "java/lang/invoke/VarHandle" ∧ (parseMethodDescriptor yX3_isEmpty.desc).map (fun d => d.parameters.length) = some 2 := by decide +kernel
theorem hd_X3_isFree : yX3_isFree.cls = RX3 ∧ yX3_isFree.cls ≠ "java/lang/invoke/MethodHandle" ∧ yX3_isFree.cls ≠ "java/lang/invoke/VarHandle" ∧ (parseMethodDescriptor yX3_isFree.desc).map (fun d => d.parameters.length) = some 1 := by decide +kernel
theorem hd_X3_isFull : yX3_isFull.cls = RX3 ∧ yX3_isFull.cls ≠ "java/lang/invoke/MethodHandle" ∧ yX3_isFull.cls ≠ "java/lang/invoke/VarHandle" ∧ (parseMethodDescriptor yX3_isFull.desc).map (fun d => d.parameters.length) = some 1 := by decide +kernel
theorem hd_X3_isIn : yX3_isIn.cls ≠ "java/lang/invoke/MethodHandle" ∧ yX3_isIn.cls ≠ "java/lang/invoke/VarHandle" ∧ (parseMethodDescriptor yX3_isIn.desc).map (fun d => d.parameters.length) = some 3 := by decide +kernel
theorem hd_X3_isKind : yX3_isKind.cls = RX3 ∧ yX3_isKind.cls ≠ "java/lang/invoke/MethodHandle" ∧ yX3_isKind.cls ≠ "java/lang/invoke/VarHandle" ∧ (parseMethodDescriptor yX3_isKind.desc).map (fun d => d.parameters.length) = some 1 := by decide +kernel
theorem hd_X3_isSpot : yX3_isSpot.cls ≠ "java/lang/invoke/MethodHandle" ∧ yX3_isSpot.cls ≠ "java/lang/invoke/VarHandle" ∧ (parseMethodDescriptor yX3_isSpot.desc).map (fun d => d.parameters.length) = some 1 := by decide +kernel
theorem hd_X3_isUsed : yX3_isUsed.cls = RX3 ∧ yX3_isUsed.cls ≠ "java/lang/invoke/MethodHandle" ∧ yX3_isUsed.cls ≠ "java/lang/invoke/VarHandle" ∧ (parseMethodDescriptor yX3_isUsed.desc).map (fun d => d.parameters.length) = some 2 := by decide +kernel
theorem hd_X3_kindTold : yX3_kindTold.cls = RX3 ∧ yX3_kindTold.cls ≠ "java/lang/invoke/MethodHandle" ∧ yX3_kindTold.cls ≠ "java/lang/invoke/VarHandle" ∧ (parseMethodDescriptor yX3_kindTold.desc).map (fun d => d.parameters.length) = some 2 := by decide +kernel
theorem hd_X3_many : yX3_many.cls = RX3 ∧ yX3_many.cls ≠ "java/lang/invoke/MethodHandle" ∧ yX3_many.cls ≠ "java/lang/invoke/VarHandle" ∧ (parseMethodDescriptor yX3_many.desc).map (fun d => d.parameters.length) = some 1 := by decide +kernel
theorem hd_X3_most : yX3_most.cls = RX3 ∧ yX3_most.cls ≠ "java/lang/invoke/MethodHandle" ∧ yX3_most.cls ≠ "java/lang/invoke/VarHandle" ∧ (parseMethodDescriptor yX3_most.desc).map (fun d => d.parameters.length) = some 2 := by decide +kernel
theorem hd_X3_move : yX3_move.cls = RX3 ∧ yX3_move.cls ≠ "java/lang/invoke/MethodHandle" ∧ yX3_move.cls ≠ "java/lang/invoke/VarHandle" ∧ (parseMethodDescriptor yX3_move.desc).map (fun d => d.parameters.length) = some 2 := by decide +kernel
theorem hd_X3_nextRim : yX3_nextRim.cls = RX3 ∧ yX3_nextRim.cls ≠ "java/lang/invoke/MethodHandle" ∧ yX3_nextRim.cls ≠ "java/lang/invoke/VarHandle" ∧ (parseMethodDescriptor yX3_nextRim.desc).map (fun d => d.parameters.length) = some 1 := by decide +kernel
theorem hd_X3_no : yX3_no.cls = RX3 ∧ yX3_no.cls ≠ "java/lang/invoke/MethodHandle" ∧ yX3_no.cls ≠ "java/lang/invoke/VarHandle" ∧ (parseMethodDescriptor yX3_no.desc).map (fun d => d.parameters.length) = some 1 := by decide +kernel
theorem hd_X3_own : yX3_own.cls = RX3 ∧ yX3_own.cls ≠ "java/lang/invoke/MethodHandle" ∧ yX3_own.cls ≠ "java/lang/invoke/VarHandle" ∧ (parseMethodDescriptor yX3_own.desc).map (fun d => d.parameters.length) = some 2 := by decide +kernel
theorem hd_X3_packed : yX3_packed.cls = RX3 ∧ yX3_packed.cls ≠ "java/lang/invoke/MethodHandle" ∧ yX3_packed.cls ≠ "java/lang/invoke/VarHandle" ∧ (parseMethodDescriptor yX3_packed.desc).map (fun d => d.parameters.length) = some 1 := by decide +kernel
theorem hd_X3_placeOf : yX3_placeOf.cls = RX3 ∧ yX3_placeOf.cls ≠ "java/lang/invoke/MethodHandle" ∧ yX3_placeOf.cls ≠ "java/lang/invoke/VarHandle" ∧ (parseMethodDescriptor yX3_placeOf.desc).map (fun d => d.parameters.length) = some 1 := by decide +kernel
theorem hd_X3_placeTold : yX3_placeTold.cls = RX3 ∧ yX3_placeTold.cls ≠ "java/lang/invoke/MethodHandle" ∧ yX3_placeTold.cls ≠ "java/lang/invoke/VarHandle" ∧ (parseMethodDescriptor yX3_placeTold.desc).map (fun d => d.parameters.length) = some 2 := by decide +kernel
theorem hd_X3_placed : yX3_placed.cls = RX3 ∧ yX3_placed.cls ≠ "java/lang/invoke/MethodHandle" ∧ yX3_placed.cls ≠ "java/lang/invoke/VarHandle" ∧ (parseMethodDescriptor yX3_placed.desc).map (fun d => d.parameters.length) = some 2 := by decide +kernel
theorem hd_X3_places : yX3_places.cls = RX3 ∧ yX3_places.cls ≠ "java/lang/invoke/MethodHandle" ∧ yX3_places.cls ≠ "java/lang/invoke/VarHandle" ∧ (parseMethodDescriptor yX3_places.desc).map (fun d => d.parameters.length) = some 1 := by decide +kernel
theorem hd_X3_rest : yX3_rest.cls = RX3 ∧ yX3_rest.cls ≠ "java/lang/invoke/MethodHandle" ∧ yX3_rest.cls ≠ "java/lang/invoke/VarHandle" ∧ (parseMethodDescriptor yX3_rest.desc).map (fun d => d.parameters.length) = some 1 := by decide +kernel
theorem hd_X3_room : yX3_room.cls = RX3 ∧ yX3_room.cls ≠ "java/lang/invoke/MethodHandle" ∧ yX3_room.cls ≠ "java/lang/invoke/VarHandle" ∧ (parseMethodDescriptor yX3_room.desc).map (fun d => d.parameters.length) = some 1 := by decide +kernel
theorem hd_X3_shelfFor : yX3_shelfFor.cls = RX3 ∧ yX3_shelfFor.cls ≠ "java/lang/invoke/MethodHandle" ∧ yX3_shelfFor.cls ≠ "java/lang/invoke/VarHandle" ∧ (parseMethodDescriptor yX3_shelfFor.desc).map (fun d => d.parameters.length) = some 1 := by decide +kernel
theorem hd_X3_shelfTold : yX3_shelfTold.cls = RX3 ∧ yX3_shelfTold.cls ≠ "java/lang/invoke/MethodHandle" ∧ yX3_shelfTold.cls ≠ "java/lang/invoke/VarHandle" ∧ (parseMethodDescriptor yX3_shelfTold.desc).map (fun d => d.parameters.length) = some 2 := by decide +kernel
theorem hd_X3_shelvesOf : yX3_shelvesOf.cls = RX3 ∧ yX3_shelvesOf.cls ≠ "java/lang/invoke/MethodHandle" ∧ yX3_shelvesOf.cls ≠ "java/lang/invoke/VarHandle" ∧ (parseMethodDescriptor yX3_shelvesOf.desc).map (fun d => d.parameters.length) = some 2 := by decide +kernel
theorem hd_X3_spotFor : yX3_spotFor.cls = RX3 ∧ yX3_spotFor.cls ≠ "java/lang/invoke/MethodHandle" ∧ yX3_spotFor.cls ≠ "java/lang/invoke/VarHandle" ∧ (parseMethodDescriptor yX3_spotFor.desc).map (fun d => d.parameters.length) = some 1 := by decide +kernel
theorem hd_X3_spotOf : yX3_spotOf.cls = RX3 ∧ yX3_spotOf.cls ≠ "java/lang/invoke/MethodHandle" ∧ yX3_spotOf.cls ≠ "java/lang/invoke/VarHandle" ∧ (parseMethodDescriptor yX3_spotOf.desc).map (fun d => d.parameters.length) = some 2 := by decide +kernel
theorem hd_X3_sum : yX3_sum.cls = RX3 ∧ yX3_sum.cls ≠ "java/lang/invoke/MethodHandle" ∧ yX3_sum.cls ≠ "java/lang/invoke/VarHandle" ∧ (parseMethodDescriptor yX3_sum.desc).map (fun d => d.parameters.length) = some 1 := by decide +kernel
theorem hd_X3_wouldCome : yX3_wouldCome.cls = RX3 ∧ yX3_wouldCome.cls ≠ "java/lang/invoke/MethodHandle" ∧ yX3_wouldCome.cls ≠ "java/lang/invoke/VarHandle" ∧ (parseMethodDescriptor yX3_wouldCome.desc).map (fun d => d.parameters.length) = some 2 := by decide +kernel
theorem gG_RJ6_51 : GoodIn LA (va_wsS RJ6 51 yJ6_numberOfLeadingZeros_0f7a4 (ws_ yJ6_numberOfLeadingZeros_0f7a4 cJ6_numberOfLeadingZeros_0f7a4 2 (some .int))) := la_S wT3_200 wT3_201 wT1_11 wT3_202
theorem gG_RX1_37 : GoodIn LA (wsV RX1 37 RX1 yX1_firstGap (ws_ yX1_firstGap cX1_firstGap 2 (some .int))) := la_V wT1_220 wT1_221 wT1_222 wT1_2 wT1_223
theorem gG_RX1_51 : GoodIn LA (wsV RX1 51 RX0 yX0_countShelf (ws_ yX0_countShelf cX0_countShelf 1 none)) := la_V wT2_143 wT2_144 wT2_145 wT1_9 wT2_146
theorem gG_RX1_54 : GoodIn LA (wsV RX1 54 RX1 yX1_standsOn (ws_ yX1_standsOn cX1_standsOn 2 (some .boolean))) := la_V wT1_224 wT1_225 wT1_226 wT1_2 wT1_227
theorem gG_RX2_60 : GoodIn LA (wsV RX2 60 RX2 yX2_kindOf (ws_ yX2_kindOf cX2_kindOf 2 (some (.object "SlabKitchen$Kind")))) := la_V wT2_133 wT2_135 wP19 wT1_1 wT2_136
theorem gG_RX2_64 : GoodIn LA (wsV RX2 64 RX2 yX2_shelfToPut (ws_ yX2_shelfToPut cX2_shelfToPut 3 (some (.object "SlabKitchen$Shelf")))) := la_V wT2_13 wT2_15 wP13 wT1_1 wT2_16
theorem gG_RX2_70 : GoodIn LA (wsV RX2 70 RX1 yX1_state (ws_ yX1_state cX1_state 1 (some .int))) := la_V wT1_97 wT1_98 wT1_99 wT1_2 wT1_100
theorem gG_RX2_74 : GoodIn LA (wsV RX2 74 RX1 yX1_comeTo (ws_ yX1_comeTo cX1_comeTo 2 none)) := la_V wT2_139 wT2_140 wT2_141 wT1_2 wT2_142
theorem gG_RX2_78 : GoodIn LA (wsV RX2 78 RX1 yX1_firstGap (ws_ yX1_firstGap cX1_firstGap 2 (some .int))) := la_V wT2_37 wT1_221 wT1_222 wT1_2 wT1_223
theorem gG_RX2_81 : GoodIn LA (wsV RX2 81 RX1 yX1_addBowl (ws_ yX1_addBowl cX1_addBowl 2 none)) := la_V wT2_147 wT2_148 wT2_149 wT1_2 wT2_150
theorem gG_RX2_84 : GoodIn LA (wsV RX2 84 RX1 yX1_beginOf (ws_ yX1_beginOf cX1_beginOf 2 (some .int))) := la_V wT2_38 wT2_39 wT2_40 wT1_2 wT2_41
theorem gG_RX2_88 : GoodIn LA (wsV RX2 88 RX2 yX2_shelfAt (ws_ yX2_shelfAt cX2_shelfAt 2 (some (.object "SlabKitchen$Shelf")))) := la_V wT2_158 wT2_160 wP20 wT1_1 wT2_161
theorem gG_RX2_92 : GoodIn LA (wsV RX2 92 RX1 yX1_placeAt (ws_ yX1_placeAt cX1_placeAt 3 (some .int))) := la_V wT2_163 wT2_164 wT2_165 wT1_2 wT2_166
theorem gG_RX2_95 : GoodIn LA (wsV RX2 95 RX1 yX1_standsOn (ws_ yX1_standsOn cX1_standsOn 2 (some .boolean))) := la_V wT1_228 wT1_225 wT1_226 wT1_2 wT1_227
theorem gG_RX2_101 : GoodIn LA (wsV RX2 101 RX1 yX1_removeBowl (ws_ yX1_removeBowl cX1_removeBowl 3 none)) := la_V wT2_168 wT2_169 wT2_170 wT1_2 wT2_171
theorem gG_RX2_112 : GoodIn LA (wsV RX2 112 RX1 yX1_becomeFree (ws_ yX1_becomeFree cX1_becomeFree 1 none)) := la_V wT2_180 wT2_181 wT2_182 wT1_2 wT2_183
theorem gG_RX2_115 : GoodIn LA (wsV RX2 115 RX2 yX2_moveToPack (ws_ yX2_moveToPack cX2_moveToPack 4 (some .boolean))) := la_V wT2_191 wT2_193 wP21 wT1_1 wT2_194
theorem gG_RX2_121 : GoodIn LA (va_wsS RX2 121 yX2_requireAnswer (ws_ yX2_requireAnswer cX2_requireAnswer 2 none)) := la_S wT1_130 wT1_131 wT1_1 wT1_132
theorem gG_RX2_124 : GoodIn LA (wsV RX2 124 RX1 yX1_answer (ws_ yX1_answer cX1_answer 2 (some .int))) := la_V wT1_216 wT1_217 wT1_218 wT1_2 wT1_219
theorem gG_RX2_127 : GoodIn LA (wsV RX2 127 RX2 yX2_answerAbout (ws_ yX2_answerAbout cX2_answerAbout 3 (some .int))) := la_V wT1_233 wT1_235 wP8 wT1_1 wT1_236
theorem gG_RX2_134 : GoodIn LA (wsV RX2 134 RX2 yX2_freeShelves (ws_ yX2_freeShelves cX2_freeShelves 6 (some .int))) := la_V wT1_113 wT1_115 wP2 wT1_1 wT1_116
theorem gG_RX2_137 : GoodIn LA (wsV RX2 137 RX2 yX2_bowlsInAll (ws_ yX2_bowlsInAll cX2_bowlsInAll 6 (some .int))) := la_V wT1_117 wT1_119 wP3 wT1_1 wT1_120
theorem gG_RX2_140 : GoodIn LA (wsV RX2 140 RX2 yX2_spansUnderBowls (ws_ yX2_spansUnderBowls cX2_spansUnderBowls 6 (some .int))) := la_V wT1_201 wT1_203 wP5 wT1_1 wT1_204
theorem gG_RX2_143 : GoodIn LA (wsV RX2 143 RX2 yX2_takenShelves (ws_ yX2_takenShelves cX2_takenShelves 1 (some .int))) := la_V wT1_109 wT1_111 wP1 wT1_1 wT1_112
theorem gG_RX2_146 : GoodIn LA (wsV RX2 146 RX2 yX2_spansOfNoPlace (ws_ yX2_spansOfNoPlace cX2_spansOfNoPlace 6 (some .int))) := la_V wT1_205 wT1_207 wP6 wT1_1 wT1_208
theorem gG_RX2_149 : GoodIn LA (wsV RX2 149 RX2 yX2_nextSpot (ws_ yX2_nextSpot cX2_nextSpot 3 (some .int))) := la_V wT2_9 wT2_11 wP12 wT1_1 wT2_12
theorem gG_RX2_153 : GoodIn LA (wsV RX2 153 RX2 yX2_gapsOf (ws_ yX2_gapsOf cX2_gapsOf 2 (some .int))) := la_V wT3_3 wT3_5 wP23 wT1_1 wT3_6
theorem gG_RX2_161 : GoodIn LA (wsV RX2 161 RX0 yX0_shelvesFor (ws_ yX0_shelvesFor cX0_shelvesFor 2 (some .int))) := la_V wT1_101 wT1_102 wT1_103 wT1_9 wT1_104
theorem gG_RX2_164 : GoodIn LA (wsV RX2 164 RX2 yX2_gainsOf (ws_ yX2_gainsOf cX2_gainsOf 8 (some .int))) := la_V wT1_89 wT1_91 wP0 wT1_1 wT1_92
theorem gG_RX2_172 : GoodIn LA (wsV RX2 172 RX2 yX2_count (ws_ yX2_count cX2_count 2 (some .int))) := la_V wT1_126 wT1_127 wT1_128 wT1_1 wT1_129
theorem gG_RX2_175 : GoodIn LA (va_wsS RX2 175 yX2_mixed (ws_ yX2_mixed cX2_mixed 4 (some .long))) := la_S wT1_209 wT1_210 wT1_1 wT1_211
theorem gG_RX2_179 : GoodIn LA (va_wsS RX2 179 yX2_mixedWithShelf (ws_ yX2_mixedWithShelf cX2_mixedWithShelf 6 (some .long))) := la_S wT1_213 wT1_214 wT1_1 wT1_215
theorem gG_RX2_183 : GoodIn LA (wsV RX2 183 RX2 yX2_mixedWithKind (ws_ yX2_mixedWithKind cX2_mixedWithKind 7 (some .long))) := la_V wT1_229 wT1_231 wP7 wT1_1 wT1_232
theorem gG_RX2_199 : GoodIn LA (wsV RX2 199 RX2 yX2_shelvesOf (ws_ yX2_shelvesOf cX2_shelvesOf 7 (some .int))) := la_V wT1_237 wT1_239 wP9 wT1_1 wT2_0
theorem gG_RX2_202 : GoodIn LA (wsV RX2 202 RX2 yX2_shelvesInState (ws_ yX2_shelvesInState cX2_shelvesInState 8 (some .int))) := la_V wT2_1 wT2_3 wP10 wT1_1 wT2_4
theorem gG_RX2_205 : GoodIn LA (wsV RX2 205 RX2 yX2_bowlsOf (ws_ yX2_bowlsOf cX2_bowlsOf 7 (some .int))) := la_V wT2_5 wT2_7 wP11 wT1_1 wT2_8
theorem gG_RX2_217 : GoodIn LA (wsV RX2 217 RX2 yX2_inUseByWay (ws_ yX2_inUseByWay cX2_inUseByWay 2 (some (.object "SlabKitchen$Shelf")))) := la_V wT2_17 wT2_19 wP14 wT1_1 wT2_20
theorem gG_RX2_220 : GoodIn LA (wsV RX2 220 RX2 yX2_firstInState (ws_ yX2_firstInState cX2_firstInState 7 (some (.object "SlabKitchen$Shelf")))) := la_V wT2_29 wT2_31 wP17 wT1_1 wT2_32
theorem gG_RX2_224 : GoodIn LA (wsV RX2 224 RX2 yX2_firstFree (ws_ yX2_firstFree cX2_firstFree 5 (some (.object "SlabKitchen$Shelf")))) := la_V wT2_33 wT2_35 wP18 wT1_1 wT2_36
theorem gG_RX2_228 : GoodIn LA (wsV RX2 228 RX2 yX2_mostBowls (ws_ yX2_mostBowls cX2_mostBowls 8 (some (.object "SlabKitchen$Shelf")))) := la_V wT2_21 wT2_23 wP15 wT1_1 wT2_24
theorem gG_RX2_232 : GoodIn LA (wsV RX2 232 RX2 yX2_fewestBowls (ws_ yX2_fewestBowls cX2_fewestBowls 7 (some (.object "SlabKitchen$Shelf")))) := la_V wT2_25 wT2_27 wP16 wT1_1 wT2_28
theorem gG_RX2_235 : GoodIn LA (wsV RX2 235 RX1 yX1_isOf (ws_ yX1_isOf cX1_isOf 2 (some .boolean))) := la_V wT1_93 wT1_94 wT1_95 wT1_2 wT1_96
theorem gG_RX2_238 : GoodIn LA (wsV RX2 238 RX2 yX2_lastFewestBowls (ws_ yX2_lastFewestBowls cX2_lastFewestBowls 7 (some (.object "SlabKitchen$Shelf")))) := la_V wT2_195 wT2_197 wP22 wT1_1 wT2_198
theorem gG_RX2_241 : GoodIn LA (wsV RX2 241 RX1 yX1_lastBowl (ws_ yX1_lastBowl cX1_lastBowl 2 (some .int))) := la_V wT2_199 wT2_200 wT2_201 wT1_2 wT2_202
theorem gG_RX3_41 : GoodIn LA (va_wsS RX3 41 yX3_isIn (ws_ yX3_isIn cX3_isIn 3 (some .boolean))) := la_S wT3_80 wT3_81 wT1_3 wT3_82
theorem gG_RX3_45 : GoodIn LA (va_wsS RX3 45 yJ6_bitCount_0f7a4 (ws_ yJ6_bitCount_0f7a4 cJ6_bitCount_0f7a4 1 (some .int))) := la_S wT3_115 wT3_116 wT1_11 wT3_117
theorem gG_RX3_51 : GoodIn LA (wsV RX3 51 RX3 yX3_many (ws_ yX3_many cX3_many 2 (some .int))) := la_V wT3_111 wT3_113 wP29 wT1_3 wT3_114
theorem gG_RX3_54 : GoodIn LA (wsV RX3 54 RX3 yX3_places (ws_ yX3_places cX3_places 2 (some .int))) := la_V wT3_121 wT3_123 wP30 wT1_3 wT3_124
theorem gG_RX3_57 : GoodIn LA (wsV RX3 57 RX3 yX3_isFull (ws_ yX3_isFull cX3_isFull 2 (some .boolean))) := la_V wT3_107 wT3_109 wP28 wT1_3 wT3_110
theorem gG_RX3_64 : GoodIn LA (wsV RX3 64 RX3 yX3_isUsed (ws_ yX3_isUsed cX3_isUsed 3 (some .boolean))) := la_V wT3_103 wT3_105 wP27 wT1_3 wT3_106
theorem gG_RX3_68 : GoodIn LA (wsV RX3 68 RX3 yX3_isBetter (ws_ yX3_isBetter cX3_isBetter 3 (some .boolean))) := la_V wT3_125 wT3_127 wP31 wT1_3 wT3_128
theorem gG_RX3_71 : GoodIn LA (wsV RX3 71 RX3 yX3_isEmpty (ws_ yX3_isEmpty cX3_isEmpty 3 (some .boolean))) := la_V wT3_129 wT3_131 wP32 wT1_3 wT3_132
theorem gG_RX3_74 : GoodIn LA (wsV RX3 74 RX3 yX3_isFree (ws_ yX3_isFree cX3_isFree 2 (some .boolean))) := la_V wT3_133 wT3_135 wP33 wT1_3 wT3_136
theorem gG_RX3_77 : GoodIn LA (wsV RX3 77 RX3 yX3_rest (ws_ yX3_rest cX3_rest 2 (some .int))) := la_V wT3_149 wT3_151 wP37 wT1_3 wT3_152
theorem gG_RX3_80 : GoodIn LA (wsV RX3 80 RX3 yX3_shelfFor (ws_ yX3_shelfFor cX3_shelfFor 4 (some .int))) := la_V wT3_99 wT3_101 wP26 wT1_3 wT3_102
theorem gG_RX3_83 : GoodIn LA (wsV RX3 83 RX3 yX3_nextRim (ws_ yX3_nextRim cX3_nextRim 2 (some .int))) := la_V wT3_145 wT3_147 wP36 wT1_3 wT3_148
theorem gG_RX3_86 : GoodIn LA (wsV RX3 86 RX3 yX3_hole (ws_ yX3_hole cX3_hole 3 (some .int))) := la_V wT3_153 wT3_155 wP38 wT1_3 wT3_156
theorem gG_RX3_89 : GoodIn LA (wsV RX3 89 RX3 yX3_spotOf (ws_ yX3_spotOf cX3_spotOf 3 (some .int))) := la_V wT3_157 wT3_159 wP39 wT1_3 wT3_160
theorem gG_RX3_93 : GoodIn LA (wsV RX3 93 RX3 yX3_own (ws_ yX3_own cX3_own 3 none)) := la_V wT3_141 wT3_143 wP35 wT1_3 wT3_144
theorem gG_RX3_103 : GoodIn LA (va_wsS RX3 103 yJ6_highestOneBit_0f7a4 (ws_ yJ6_highestOneBit_0f7a4 cJ6_highestOneBit_0f7a4 1 (some .int))) := la_S wT3_196 wT3_197 wT1_11 wT3_198
theorem gG_RX3_106 : GoodIn LA (wsV RX3 106 RX3 yX3_fewest (ws_ yX3_fewest cX3_fewest 4 (some .int))) := la_V wT3_184 wT3_186 wP42 wT1_3 wT3_187
theorem gG_RX3_109 : GoodIn LA (wsV RX3 109 RX3 yX3_most (ws_ yX3_most cX3_most 5 (some .int))) := la_V wT3_188 wT3_190 wP43 wT1_3 wT3_191
theorem gG_RX3_112 : GoodIn LA (wsV RX3 112 RX3 yX3_move (ws_ yX3_move cX3_move 4 none)) := la_V wT3_192 wT3_194 wP44 wT1_3 wT3_195
theorem gG_RX3_121 : GoodIn LA (wsV RX3 121 RX3 yX3_shelvesOf (ws_ yX3_shelvesOf cX3_shelvesOf 5 (some .int))) := la_V wT3_224 wT3_226 wP48 wT1_3 wT3_227
theorem gG_RX3_124 : GoodIn LA (wsV RX3 124 RX3 yX3_packed (ws_ yX3_packed cX3_packed 5 (some .int))) := la_V wT3_180 wT3_182 wP41 wT1_3 wT3_183
theorem gG_RX3_127 : GoodIn LA (wsV RX3 127 RX3 yX3_no (ws_ yX3_no cX3_no 2 (some .int))) := la_V wT3_83 wT3_85 wP24 wT1_3 wT3_86
theorem gG_RX3_130 : GoodIn LA (wsV RX3 130 RX3 yX3_isKind (ws_ yX3_isKind cX3_isKind 2 (some .boolean))) := la_V wT3_95 wT3_97 wP25 wT1_3 wT3_98
theorem gG_RX3_133 : GoodIn LA (wsV RX3 133 RX3 yX3_placed (ws_ yX3_placed cX3_placed 4 (some .int))) := la_V wT3_137 wT3_139 wP34 wT1_3 wT3_140
theorem gG_RX3_136 : GoodIn LA (va_wsS RX3 136 yX3_isSpot (ws_ yX3_isSpot cX3_isSpot 1 (some .boolean))) := la_S wT3_165 wT3_166 wT1_3 wT3_167
theorem gG_RX3_139 : GoodIn LA (wsV RX3 139 RX3 yX3_placeOf (ws_ yX3_placeOf cX3_placeOf 4 (some .int))) := la_V wT3_168 wT3_170 wP40 wT1_3 wT3_171
theorem gG_RX3_145 : GoodIn LA (wsV RX3 145 RX3 yX3_shelfTold (ws_ yX3_shelfTold cX3_shelfTold 3 (some .int))) := la_V wT3_208 wT3_210 wP45 wT1_3 wT3_211
theorem gG_RX3_148 : GoodIn LA (wsV RX3 148 RX3 yX3_bowlsOf (ws_ yX3_bowlsOf cX3_bowlsOf 4 (some .int))) := la_V wT3_220 wT3_222 wP47 wT1_3 wT3_223
theorem gG_RX3_151 : GoodIn LA (wsV RX3 151 RX3 yX3_kindTold (ws_ yX3_kindTold cX3_kindTold 3 (some .int))) := la_V wT3_216 wT3_218 wP46 wT1_3 wT3_219
theorem gG_RX3_154 : GoodIn LA (wsV RX3 154 RX3 yX3_placeTold (ws_ yX3_placeTold cX3_placeTold 5 (some .int))) := la_V wT3_232 wT3_234 wP49 wT1_3 wT3_235
theorem gG_RX3_157 : GoodIn LA (wsV RX3 157 RX3 yX3_sum (ws_ yX3_sum cX3_sum 5 (some .int))) := la_V wT4_4 wT4_6 wP51 wT1_3 wT4_7
theorem gG_RX3_160 : GoodIn LA (wsV RX3 160 RX3 yX3_counted (ws_ yX3_counted cX3_counted 2 (some .int))) := la_V wT4_0 wT4_2 wP50 wT1_3 wT4_3
theorem gG_RX3_163 : GoodIn LA (wsV RX3 163 RX3 yX3_spotFor (ws_ yX3_spotFor cX3_spotFor 3 (some .int))) := la_V wT4_12 wT4_14 wP52 wT1_3 wT4_15
theorem gG_RX3_166 : GoodIn LA (wsV RX3 166 RX3 yX3_room (ws_ yX3_room cX3_room 2 (some .int))) := la_V wT4_20 wT4_22 wP53 wT1_3 wT4_23
theorem gG_RX3_169 : GoodIn LA (va_wsS RX3 169 yJ9_max_7cf53 (ws_ yJ9_max_7cf53 cJ9_max_7cf53 2 (some .int))) := la_S wT4_32 wT4_33 wT1_12 wT4_34
theorem gG_RX3_174 : GoodIn LA (wsV RX3 174 RX3 yX3_wouldCome (ws_ yX3_wouldCome cX3_wouldCome 5 (some .int))) := la_V wT4_28 wT4_30 wP54 wT1_3 wT4_31
theorem gG_RX3_177 : GoodIn LA (wsV RX3 177 RX3 yX3_gained (ws_ yX3_gained cX3_gained 4 (some .int))) := la_V wT4_39 wT4_41 wP55 wT1_3 wT4_42
end
section
set_option maxHeartbeats 4000000 in
set_option maxRecDepth 100000 in
theorem c_X0_countShelf (l : Launch) (D : va_G) (c5 : Nat → ClassId) (a : KAd) (k : KSt) (hI : KI a) (sz : Nat) (j : Nat) (hj : j < kN k) (r : KSt) (h : R_X0_countShelf k j = some r) : Met l yX0_countShelf (ws_ yX0_countShelf cX0_countShelf 1 none) { frames := 0, cells := 0, slots := 0, locals := 0 } (va_Pc [.ref (aK a j)] (rwB D (tyG c5) (KW c5 a k) sz)) (va_Qv (fun u => u = r) (rwE D (tyG c5) (va_A (KW c5 a k) sz) (fun u => KW c5 a u)) (va_A (KW c5 a k) sz)) 0 0 (va_A (KW c5 a k) sz) := by
  refine Met.ofW (cc := cX0_countShelf) (maxL := 1) (ret := none) (by decide) rfl ?_
  intro p e s m args below meth c s₁ B hml hv
  obtain ⟨rfl, hsz, hP, hK, hD0⟩ := hv
  have hx := B.exec
  have hb := B.bytes
  have hr := B.returns
  have hts : ∀ w ∈ LA, w.before _ s = true := fun w hw => atoms_spec (ws := ws_ yX0_countShelf cX0_countShelf 1 none) B.pre w (List.mem_cons_of_mem _ hw)
  have hown : s.vm.findClass RX0 = some m.cls := findClass_of_methodNamed B.named
  have hlocks := B.notSynchronized
  subst hsz
  have hD := hD0.self (sz := s.heap.size)
  generalize hAe : va_A (KW c5 a k) s.heap.size = A at hD ⊢
  have hA : ∀ q : Nat, s.heap.size ≤ q → A q := fun q h => by rw [← hAe]; exact Or.inr h
  have hS : va_S A s.heap s.heap [] := va_S.rf
  have hl := lv_entry ([.ref (aK a j)] : List Value) (n := 1) (Nat.le_of_ble_eq_true rfl)
  rw [lg_entry_eq]
  generalize (lg_sl ([.ref (aK a j)] : List Value) ++ List.replicate (1 - (lg_sl ([.ref (aK a j)] : List Value)).length) Slot.unset).toArray = ls at hl ⊢
  have hl : lv_has ls 1 [(0, .ref (aK a j))] := hl
  unfold R_X0_countShelf at h
  refine lv_aload_n hx hb dX0_countShelf_0 rfl (lv_at hl 0 rfl) ?_
  refine lv_dup hx hb dX0_countShelf_1 rfl ?_
  refine va_get (D := D) (ci := 0) (v := .int (kK k 4 j)) (C := RX0) (T := TX0) (N := 6) hx hb hts iX0 hown hK hP (27 + j) (KW_K c5 a k hj) rfl 4 (by decide) (hts _ wT2_99) (fun _ h9 => h9) rfl dX0_countShelf_2 ?_
  refine lv_iconst (v := (1 : Int32)) hx hb dX0_countShelf_5 (by decide) ?_
  refine lv_iadd hx hb dX0_countShelf_6 ?_
  refine va_put (D := D) (ci := 0) (v := .int ((kK k 4 j) + (1 : Int32))) (ty := .int) (C := RX0) (T := TX0) (N := 6) hx hb hts iX0 tyX0 tyX0_ok nmX0 hown hK hP hD hS (27 + j) (KW_K c5 a k hj) rfl 4 (by decide) (hts _ wT2_99) (fun _ h9 => h9) rfl (by decide +kernel) rfl rfl (Nat.le_of_ble_eq_true rfl) dX0_countShelf_7 (fun H locs hP hD hS => ?_)
  have hP := wP (KW_setK c5 a k hj 3 (by decide) _) hP
  have hD := wD (KW_setK c5 a k hj 3 (by decide) _) hD
  refine lv_aload_n hx hb dX0_countShelf_10 rfl (lv_at hl 0 rfl) ?_
  refine lv_aload_n hx hb dX0_countShelf_11 rfl (lv_at hl 0 rfl) ?_
  refine va_get (D := D) (ci := 0) (v := .int (kK (kKs k 4 j ((kK k 4 j) + (1 : Int32))) 5 j)) (C := RX0) (T := TX0) (N := 6) hx hb hts iX0 hown hK hP (27 + j) (KW_K c5 a (kKs k 4 j ((kK k 4 j) + (1 : Int32))) hj) rfl 5 (by decide) (hts _ wT2_101) (fun _ h9 => h9) rfl dX0_countShelf_12 ?_
  refine lv_aload_n hx hb dX0_countShelf_15 rfl (lv_at hl 0 rfl) ?_
  refine va_get (D := D) (ci := 0) (v := .int (kK (kKs k 4 j ((kK k 4 j) + (1 : Int32))) 3 j)) (C := RX0) (T := TX0) (N := 6) hx hb hts iX0 hown hK hP (27 + j) (KW_K c5 a (kKs k 4 j ((kK k 4 j) + (1 : Int32))) hj) rfl 3 (by decide) (hts _ wT2_97) (fun _ h9 => h9) rfl dX0_countShelf_16 ?_
  refine lv_icmp_ge (tgt := 31) hx hb dX0_countShelf_19 (by decide) (fun q => ?_) (fun q => ?_)
  · have h := o_t h q
    refine lv_iconst (v := (0 : Int32)) hx hb dX0_countShelf_31 (by decide) ?_
    refine va_put (D := D) (ci := 0) (v := .int (0 : Int32)) (ty := .int) (C := RX0) (T := TX0) (N := 6) hx hb hts iX0 tyX0 tyX0_ok nmX0 hown hK hP hD hS (27 + j) (KW_K c5 a (kKs k 4 j ((kK k 4 j) + (1 : Int32))) hj) rfl 5 (by decide) (hts _ wT2_101) (fun _ h9 => h9) rfl (by decide +kernel) rfl rfl (Nat.le_of_ble_eq_true rfl) dX0_countShelf_32 (fun H locs hP hD hS => ?_)
    have hP := wP (KW_setK c5 a (kKs k 4 j ((kK k 4 j) + (1 : Int32))) hj 4 (by decide) _) hP
    have hD := wD (KW_setK c5 a (kKs k 4 j ((kK k 4 j) + (1 : Int32))) hj 4 (by decide) _) hD
    obtain rfl := (Option.some.inj h)
    exact rw_vret (wf := fun u => KW c5 a u) hx hb hr hlocks hP hK hD hS dX0_countShelf_35
  · have h := o_f h q
    refine lv_aload_n hx hb dX0_countShelf_22 rfl (lv_at hl 0 rfl) ?_
    refine va_get (D := D) (ci := 0) (v := .int (kK (kKs k 4 j ((kK k 4 j) + (1 : Int32))) 5 j)) (C := RX0) (T := TX0) (N := 6) hx hb hts iX0 hown hK hP (27 + j) (KW_K c5 a (kKs k 4 j ((kK k 4 j) + (1 : Int32))) hj) rfl 5 (by decide) (hts _ wT2_101) (fun _ h9 => h9) rfl dX0_countShelf_23 ?_
    refine lv_iconst (v := (1 : Int32)) hx hb dX0_countShelf_26 (by decide) ?_
    refine lv_iadd hx hb dX0_countShelf_27 ?_
    refine lv_goto (tgt := 32) hx hb dX0_countShelf_28 (by decide) ?_
    refine va_put (D := D) (ci := 0) (v := .int ((kK (kKs k 4 j ((kK k 4 j) + (1 : Int32))) 5 j) + (1 : Int32))) (ty := .int) (C := RX0) (T := TX0) (N := 6) hx hb hts iX0 tyX0 tyX0_ok nmX0 hown hK hP hD hS (27 + j) (KW_K c5 a (kKs k 4 j ((kK k 4 j) + (1 : Int32))) hj) rfl 5 (by decide) (hts _ wT2_101) (fun _ h9 => h9) rfl (by decide +kernel) rfl rfl (Nat.le_of_ble_eq_true rfl) dX0_countShelf_32 (fun H locs hP hD hS => ?_)
    have hP := wP (KW_setK c5 a (kKs k 4 j ((kK k 4 j) + (1 : Int32))) hj 4 (by decide) _) hP
    have hD := wD (KW_setK c5 a (kKs k 4 j ((kK k 4 j) + (1 : Int32))) hj 4 (by decide) _) hD
    obtain rfl := (Option.some.inj h)
    exact rw_vret (wf := fun u => KW c5 a u) hx hb hr hlocks hP hK hD hS dX0_countShelf_35
set_option maxHeartbeats 4000000 in
set_option maxRecDepth 100000 in
theorem c_X0_shelvesFor (l : Launch) (D : va_G) (c5 : Nat → ClassId) (a : KAd) (k : KSt) (hI : KI a) (j : Nat) (hj : j < kN k) (p1 : Int32) (r : Int32) (h : R_X0_shelvesFor k j p1 = some r) : Met l yX0_shelvesFor (ws_ yX0_shelvesFor cX0_shelvesFor 2 (some .int)) { frames := 0, cells := 0, slots := 0, locals := 0 } (va_Pc [.ref (aK a j), .int p1] (roB D (tyG c5) (KW c5 a k))) (vp_Si (fun x => x = r)) 0 0 (fun _ => False) := by
  refine Met.ofW (cc := cX0_shelvesFor) (maxL := 2) (ret := (some .int)) (by decide) rfl ?_
  intro p e s m args below meth c s₁ B hml hv
  obtain ⟨rfl, hP, hK⟩ := hv
  have hx := B.exec
  have hb := B.bytes
  have hr := B.returns
  have hts : ∀ w ∈ LA, w.before _ s = true := fun w hw => atoms_spec (ws := ws_ yX0_shelvesFor cX0_shelvesFor 2 (some .int)) B.pre w (List.mem_cons_of_mem _ hw)
  have hown : s.vm.findClass RX0 = some m.cls := findClass_of_methodNamed B.named
  have hlocks := B.notSynchronized
  have hl := lv_entry ([.ref (aK a j), .int p1] : List Value) (n := 2) (Nat.le_of_ble_eq_true rfl)
  rw [lg_entry_eq]
  generalize (lg_sl ([.ref (aK a j), .int p1] : List Value) ++ List.replicate (2 - (lg_sl ([.ref (aK a j), .int p1] : List Value)).length) Slot.unset).toArray = ls at hl ⊢
  have hl : lv_has ls 2 [(0, .ref (aK a j)), (1, .int p1)] := hl
  unfold R_X0_shelvesFor at h
  refine lv_aload_n hx hb dX0_shelvesFor_0 rfl (lv_at hl 0 rfl) ?_
  refine va_get (D := D) (ci := 0) (v := .int (kK k 2 j)) (C := RX0) (T := TX0) (N := 6) hx hb hts iX0 hown hK hP (27 + j) (KW_K c5 a k hj) rfl 2 (by decide) (hts _ wT2_94) (fun _ h9 => h9) rfl dX0_shelvesFor_1 ?_
  refine lv_iconst (v := (1 : Int32)) hx hb dX0_shelvesFor_4 (by decide) ?_
  refine lv_icmp_ge (tgt := 12) hx hb dX0_shelvesFor_5 (by decide) (fun q => ?_) (fun q => ?_)
  · have h := o_t h q
    refine lv_iload_n hx hb dX0_shelvesFor_12 rfl (lv_at hl 1 rfl) ?_
    refine lv_aload_n hx hb dX0_shelvesFor_13 rfl (lv_at hl 0 rfl) ?_
    refine va_get (D := D) (ci := 0) (v := .int (kK k 2 j)) (C := RX0) (T := TX0) (N := 6) hx hb hts iX0 hown hK hP (27 + j) (KW_K c5 a k hj) rfl 2 (by decide) (hts _ wT2_94) (fun _ h9 => h9) rfl dX0_shelvesFor_14 ?_
    refine lv_iadd hx hb dX0_shelvesFor_17 ?_
    refine lv_iconst (v := (1 : Int32)) hx hb dX0_shelvesFor_18 (by decide) ?_
    refine lv_isub hx hb dX0_shelvesFor_19 ?_
    refine lv_aload_n hx hb dX0_shelvesFor_20 rfl (lv_at hl 0 rfl) ?_
    refine va_get (D := D) (ci := 0) (v := .int (kK k 2 j)) (C := RX0) (T := TX0) (N := 6) hx hb hts iX0 hown hK hP (27 + j) (KW_K c5 a k hj) rfl 2 (by decide) (hts _ wT2_94) (fun _ h9 => h9) rfl dX0_shelvesFor_21 ?_
    obtain ⟨g24, h⟩ := o_if h
    refine lv_idiv hx hb dX0_shelvesFor_24 g24 ?_
    exact ro_iret hx hb hr hlocks dX0_shelvesFor_25 (Option.some.inj h)
  · have h := o_f h q
    refine lv_iconst (v := (0 : Int32)) hx hb dX0_shelvesFor_8 (by decide) ?_
    refine lv_goto (tgt := 25) hx hb dX0_shelvesFor_9 (by decide) ?_
    exact ro_iret hx hb hr hlocks dX0_shelvesFor_25 (Option.some.inj h)
set_option maxHeartbeats 4000000 in
set_option maxRecDepth 100000 in
theorem c_X1_standsOn (l : Launch) (D : va_G) (c5 : Nat → ClassId) (a : KAd) (k : KSt) (hI : KI a) (i : Nat) (hi : i < 12) (p1 : Int32) (r : Int32) (h : R_X1_standsOn k i p1 = some r) : Met l yX1_standsOn (ws_ yX1_standsOn cX1_standsOn 2 (some .boolean)) { frames := 0, cells := 0, slots := 0, locals := 0 } (va_Pc [.ref (aS a i), .int p1] (roB D (tyG c5) (KW c5 a k))) (vp_Si (fun x => x = r)) 0 0 (fun _ => False) := by
  refine Met.ofW (cc := cX1_standsOn) (maxL := 2) (ret := (some .boolean)) (by decide) rfl ?_
  intro p e s m args below meth c s₁ B hml hv
  obtain ⟨rfl, hP, hK⟩ := hv
  have hx := B.exec
  have hb := B.bytes
  have hr := B.returns
  have hts : ∀ w ∈ LA, w.before _ s = true := fun w hw => atoms_spec (ws := ws_ yX1_standsOn cX1_standsOn 2 (some .boolean)) B.pre w (List.mem_cons_of_mem _ hw)
  have hown : s.vm.findClass RX1 = some m.cls := findClass_of_methodNamed B.named
  have hlocks := B.notSynchronized
  have hl := lv_entry ([.ref (aS a i), .int p1] : List Value) (n := 2) (Nat.le_of_ble_eq_true rfl)
  rw [lg_entry_eq]
  generalize (lg_sl ([.ref (aS a i), .int p1] : List Value) ++ List.replicate (2 - (lg_sl ([.ref (aS a i), .int p1] : List Value)).length) Slot.unset).toArray = ls at hl ⊢
  have hl : lv_has ls 2 [(0, .ref (aS a i)), (1, .int p1)] := hl
  unfold R_X1_standsOn at h
  refine lv_iload_n hx hb dX1_standsOn_0 rfl (lv_at hl 1 rfl) ?_
  refine lv_if_lt (tgt := 26) hx hb dX1_standsOn_1 (by decide) (fun q => ?_) (fun q => ?_)
  · have h := o_t h q
    refine lv_iconst (v := (0 : Int32)) hx hb dX1_standsOn_26 (by decide) ?_
    exact ro_zret hx hb hr hlocks dX1_standsOn_27 rfl (Option.some.inj h)
  · have h := o_f h q
    refine lv_iload_n hx hb dX1_standsOn_4 rfl (lv_at hl 1 rfl) ?_
    refine lv_aload_n hx hb dX1_standsOn_5 rfl (lv_at hl 0 rfl) ?_
    refine va_get (D := D) (ci := 1) (v := .ref (aB a i)) (C := RX1) (T := TX1) (N := 8) hx hb hts iX1 hown hK hP (3 + i) (KW_S c5 a k hi) rfl 1 (by decide) (hts _ wT1_33) (fun _ h9 => h9) rfl dX1_standsOn_6 ?_
    refine va_alen (v := (12 : Int32)) hx hb hK hP (15 + i) 2 (KW_B c5 a k hi) rfl rfl dX1_standsOn_9 ?_
    refine lv_icmp_ge (tgt := 26) hx hb dX1_standsOn_10 (by decide) (fun q => ?_) (fun q => ?_)
    · have h := o_t h q
      refine lv_iconst (v := (0 : Int32)) hx hb dX1_standsOn_26 (by decide) ?_
      exact ro_zret hx hb hr hlocks dX1_standsOn_27 rfl (Option.some.inj h)
    · have h := o_f h q
      refine lv_aload_n hx hb dX1_standsOn_13 rfl (lv_at hl 0 rfl) ?_
      refine va_get (D := D) (ci := 1) (v := .ref (aB a i)) (C := RX1) (T := TX1) (N := 8) hx hb hts iX1 hown hK hP (3 + i) (KW_S c5 a k hi) rfl 1 (by decide) (hts _ wT1_33) (fun _ h9 => h9) rfl dX1_standsOn_14 ?_
      refine lv_iload_n hx hb dX1_standsOn_17 rfl (lv_at hl 1 rfl) ?_
      obtain ⟨g18, h⟩ := o_if h
      refine va_zald hx hb hK hP (15 + i) 2 (KW_B c5 a k hi) rfl (inb_in g18) dX1_standsOn_18 ?_
      refine lv_if_eq (tgt := 26) hx hb dX1_standsOn_19 (by decide) (fun q => ?_) (fun q => ?_)
      · have h := o_t h q
        refine lv_iconst (v := (0 : Int32)) hx hb dX1_standsOn_26 (by decide) ?_
        exact ro_zret hx hb hr hlocks dX1_standsOn_27 rfl (Option.some.inj h)
      · have h := o_f h q
        refine lv_iconst (v := (1 : Int32)) hx hb dX1_standsOn_22 (by decide) ?_
        refine lv_goto (tgt := 27) hx hb dX1_standsOn_23 (by decide) ?_
        exact ro_zret hx hb hr hlocks dX1_standsOn_27 rfl (Option.some.inj h)
set_option maxHeartbeats 4000000 in
set_option maxRecDepth 100000 in
theorem c_X1_firstGap (l : Launch) (D : va_G) (c5 : Nat → ClassId) (a : KAd) (k : KSt) (hI : KI a) (i : Nat) (hi : i < 12) (r : Int32) (h : R_X1_firstGap k i = some r) : Met l yX1_firstGap (ws_ yX1_firstGap cX1_firstGap 2 (some .int)) { frames := 1, cells := 0, slots := 0, locals := 21 } (va_Pc [.ref (aS a i)] (roB D (tyG c5) (KW c5 a k))) (vp_Si (fun x => x = r)) 0 0 (fun _ => False) := by
  refine Met.ofW (cc := cX1_firstGap) (maxL := 2) (ret := (some .int)) (by decide) rfl ?_
  intro p e s m args below meth c s₁ B hml hv
  obtain ⟨rfl, hP, hK⟩ := hv
  have hx := B.exec
  have hb := B.bytes
  have hr := B.returns
  have hts : ∀ w ∈ LA, w.before _ s = true := fun w hw => atoms_spec (ws := ws_ yX1_firstGap cX1_firstGap 2 (some .int)) B.pre w (List.mem_cons_of_mem _ hw)
  have hown : s.vm.findClass RX1 = some m.cls := findClass_of_methodNamed B.named
  have hlocks := B.notSynchronized
  have hl := lv_entry ([.ref (aS a i)] : List Value) (n := 2) (Nat.le_of_ble_eq_true rfl)
  rw [lg_entry_eq]
  generalize (lg_sl ([.ref (aS a i)] : List Value) ++ List.replicate (2 - (lg_sl ([.ref (aS a i)] : List Value)).length) Slot.unset).toArray = ls at hl ⊢
  have hl : lv_has ls 2 [(0, .ref (aS a i))] := hl
  unfold R_X1_firstGap at h
  refine lv_iconst (v := (0 : Int32)) hx hb dX1_firstGap_0 (by decide) ?_
  refine lv_istore_n (i := 1) (lv' := [(1, .int (0 : Int32)), (0, .ref (aS a i))]) hx hb dX1_firstGap_1 rfl hl (by decide) rfl (fun ls hl => ?_)
  have L2 : ∀ (n : Nat) (x1_2 : Int32) (ls : Array Slot), lv_has ls 2 [(0, .ref (aS a i)), (1, .int x1_2)] → R_X1_firstGap_L2 k i n x1_2 = some r → W p l e (headSpec (ws_ yX1_firstGap cX1_firstGap 2 (some .int)) { frames := 1, cells := 0, slots := 0, locals := 21 }).room s m ([.ref (aS a i)] : List Value).toArray below meth c s.heap [] 0 0 (MQ below (vp_Si (fun x => x = r)) ([.ref (aS a i)] : List Value).toArray s 0 0 (fun _ => False)) (F0 m 2 ls []) := by
    intro n
    induction n with
    | zero =>
      intro x1_2 ls hl h
      exact absurd h (by simp [R_X1_firstGap_L2])
    | succ n ih =>
      intro x1_2 ls hl h
      rw [R_X1_firstGap_L2] at h
      refine lv_iload_n hx hb dX1_firstGap_2 rfl (lv_at hl 1 rfl) ?_
      refine lv_aload_n hx hb dX1_firstGap_3 rfl (lv_at hl 0 rfl) ?_
      refine va_get (D := D) (ci := 1) (v := .int (kS k 4 i)) (C := RX1) (T := TX1) (N := 8) hx hb hts iX1 hown hK hP (3 + i) (KW_S c5 a k hi) rfl 4 (by decide) (hts _ wT1_38) (fun _ h9 => h9) rfl dX1_firstGap_4 ?_
      refine lv_icmp_ge (tgt := 26) hx hb dX1_firstGap_7 (by decide) (fun q => ?_) (fun q => ?_)
      · have h := o_t h q
        refine lv_iconst (v := (-1 : Int32)) hx hb dX1_firstGap_26 (by decide) ?_
        exact ro_iret hx hb hr hlocks dX1_firstGap_27 (Option.some.inj h)
      · have h := o_f h q
        refine lv_aload_n hx hb dX1_firstGap_10 rfl (lv_at hl 0 rfl) ?_
        refine lv_iload_n hx hb dX1_firstGap_11 rfl (lv_at hl 1 rfl) ?_
        obtain ⟨v12, e12, h⟩ := o_bind h
        refine ro_calli (ro_runV (As := [.int x1_2]) (rest := []) ⟨hx, hb, hml, hown, hts⟩ hP hK (c_X1_standsOn l D c5 a k hI i hi x1_2 v12 e12) gG_RX1_54 (va_recv hK hP (ci := 1) (q0 := (3 + i)) rfl (KW_S c5 a k hi)) hd_X1_standsOn ⟨Nat.le_of_ble_eq_true rfl, Nat.le_of_ble_eq_true rfl⟩ ⟨rfl, rfl⟩ hl.1 (Nat.le_of_ble_eq_true rfl) dX1_firstGap_12 ⟨Nat.zero_le _, Nat.zero_le _⟩ rfl) ?_
        refine lv_if_ne (tgt := 20) hx hb dX1_firstGap_15 (by decide) (fun q => ?_) (fun q => ?_)
        · have h := o_t' h q
          refine lv_iinc (v := (x1_2 + (1 : Int32))) (lv' := [(1, .int (x1_2 + (1 : Int32))), (0, .ref (aS a i))]) hx hb dX1_firstGap_20 hl (k := 1) rfl rfl (by decide) rfl (fun ls hl => ?_)
          refine lv_goto (tgt := 2) hx hb dX1_firstGap_23 (by decide) ?_
          exact ih (x1_2 + (1 : Int32))  ls (lv_sub hl [1, 0] rfl) h
        · have h := o_f' h q
          refine lv_iload_n hx hb dX1_firstGap_18 rfl (lv_at hl 1 rfl) ?_
          exact ro_iret hx hb hr hlocks dX1_firstGap_19 (Option.some.inj h)
  exact L2 FU (0 : Int32)  ls (lv_sub hl [1, 0] rfl) h
set_option maxHeartbeats 4000000 in
set_option maxRecDepth 100000 in
theorem c_X1_answer (l : Launch) (D : va_G) (c5 : Nat → ClassId) (a : KAd) (k : KSt) (hI : KI a) (i : Nat) (hi : i < 12) (p1 : Int32) (r : Int32) (h : R_X1_answer k i p1 = some r) : Met l yX1_answer (ws_ yX1_answer cX1_answer 2 (some .int)) { frames := 2, cells := 0, slots := 0, locals := 42 } (va_Pc [.ref (aS a i), .int p1] (roB D (tyG c5) (KW c5 a k))) (vp_Si (fun x => x = r)) 0 0 (fun _ => False) := by
  refine Met.ofW (cc := cX1_answer) (maxL := 2) (ret := (some .int)) (by decide) rfl ?_
  intro p e s m args below meth c s₁ B hml hv
  obtain ⟨rfl, hP, hK⟩ := hv
  have hx := B.exec
  have hb := B.bytes
  have hr := B.returns
  have hts : ∀ w ∈ LA, w.before _ s = true := fun w hw => atoms_spec (ws := ws_ yX1_answer cX1_answer 2 (some .int)) B.pre w (List.mem_cons_of_mem _ hw)
  have hown : s.vm.findClass RX1 = some m.cls := findClass_of_methodNamed B.named
  have hlocks := B.notSynchronized
  have hl := lv_entry ([.ref (aS a i), .int p1] : List Value) (n := 2) (Nat.le_of_ble_eq_true rfl)
  rw [lg_entry_eq]
  generalize (lg_sl ([.ref (aS a i), .int p1] : List Value) ++ List.replicate (2 - (lg_sl ([.ref (aS a i), .int p1] : List Value)).length) Slot.unset).toArray = ls at hl ⊢
  have hl : lv_has ls 2 [(0, .ref (aS a i)), (1, .int p1)] := hl
  unfold R_X1_answer at h
  refine lv_iload_n hx hb dX1_answer_0 rfl (lv_at hl 1 rfl) ?_
  rcases Decidable.em (p1 = 0) with c1_0 | c1_0
  · have h := o_t h c1_0
    refine lv_tableIn (off := 35) (tgt := 36) hx hb dX1_answer_1 (by rw [c1_0]; decide) (by rw [c1_0]; decide) (by rw [c1_0]; rfl) (by decide) ?_
    refine lv_aload_n hx hb dX1_answer_36 rfl (lv_at hl 0 rfl) ?_
    refine va_get (D := D) (ci := 1) (v := .int (kS k 2 i)) (C := RX1) (T := TX1) (N := 8) hx hb hts iX1 hown hK hP (3 + i) (KW_S c5 a k hi) rfl 2 (by decide) (hts _ wT1_34) (fun _ h9 => h9) rfl dX1_answer_37 ?_
    exact ro_iret hx hb hr hlocks dX1_answer_40 (Option.some.inj h)
  · have h := o_f h c1_0
    rcases Decidable.em (p1 = 1) with c1_1 | c1_1
    · have h := o_t h c1_1
      refine lv_tableIn (off := 40) (tgt := 41) hx hb dX1_answer_1 (by rw [c1_1]; decide) (by rw [c1_1]; decide) (by rw [c1_1]; rfl) (by decide) ?_
      refine lv_aload_n hx hb dX1_answer_41 rfl (lv_at hl 0 rfl) ?_
      refine va_get (D := D) (ci := 1) (v := .int (kS k 6 i)) (C := RX1) (T := TX1) (N := 8) hx hb hts iX1 hown hK hP (3 + i) (KW_S c5 a k hi) rfl 6 (by decide) (hts _ wT1_41) (fun _ h9 => h9) rfl dX1_answer_42 ?_
      exact ro_iret hx hb hr hlocks dX1_answer_45 (Option.some.inj h)
    · have h := o_f h c1_1
      rcases Decidable.em (p1 = 2) with c1_2 | c1_2
      · have h := o_t h c1_2
        refine lv_tableIn (off := 45) (tgt := 46) hx hb dX1_answer_1 (by rw [c1_2]; decide) (by rw [c1_2]; decide) (by rw [c1_2]; rfl) (by decide) ?_
        refine lv_aload_n hx hb dX1_answer_46 rfl (lv_at hl 0 rfl) ?_
        refine va_get (D := D) (ci := 1) (v := .int (kS k 5 i)) (C := RX1) (T := TX1) (N := 8) hx hb hts iX1 hown hK hP (3 + i) (KW_S c5 a k hi) rfl 5 (by decide) (hts _ wT1_40) (fun _ h9 => h9) rfl dX1_answer_47 ?_
        exact ro_iret hx hb hr hlocks dX1_answer_50 (Option.some.inj h)
      · have h := o_f h c1_2
        rcases Decidable.em (p1 = 3) with c1_3 | c1_3
        · have h := o_t h c1_3
          refine lv_tableIn (off := 50) (tgt := 51) hx hb dX1_answer_1 (by rw [c1_3]; decide) (by rw [c1_3]; decide) (by rw [c1_3]; rfl) (by decide) ?_
          refine lv_aload_n hx hb dX1_answer_51 rfl (lv_at hl 0 rfl) ?_
          refine va_get (D := D) (ci := 1) (v := .int (kS k 4 i)) (C := RX1) (T := TX1) (N := 8) hx hb hts iX1 hown hK hP (3 + i) (KW_S c5 a k hi) rfl 4 (by decide) (hts _ wT1_38) (fun _ h9 => h9) rfl dX1_answer_52 ?_
          exact ro_iret hx hb hr hlocks dX1_answer_55 (Option.some.inj h)
        · have h := o_f h c1_3
          rcases Decidable.em (p1 = 4) with c1_4 | c1_4
          · have h := o_t h c1_4
            refine lv_tableIn (off := 55) (tgt := 56) hx hb dX1_answer_1 (by rw [c1_4]; decide) (by rw [c1_4]; decide) (by rw [c1_4]; rfl) (by decide) ?_
            refine lv_aload_n hx hb dX1_answer_56 rfl (lv_at hl 0 rfl) ?_
            obtain ⟨v57, e57, h⟩ := o_bind h
            refine ro_calli (ro_runV (As := []) (rest := []) ⟨hx, hb, hml, hown, hts⟩ hP hK (c_X1_firstGap l D c5 a k hI i hi v57 e57) gG_RX1_37 (va_recv hK hP (ci := 1) (q0 := (3 + i)) rfl (KW_S c5 a k hi)) hd_X1_firstGap ⟨Nat.le_of_ble_eq_true rfl, Nat.le_of_ble_eq_true rfl⟩ ⟨rfl, rfl⟩ hl.1 (Nat.le_of_ble_eq_true rfl) dX1_answer_57 ⟨Nat.zero_le _, Nat.zero_le _⟩ rfl) ?_
            exact ro_iret hx hb hr hlocks dX1_answer_60 (Option.some.inj h)
          · have h := o_f h c1_4
            have n1_0 := lv_neT (a := 0) c1_0 rfl
            have n1_1 := lv_neT (a := 1) c1_1 rfl
            have n1_2 := lv_neT (a := 2) c1_2 rfl
            have n1_3 := lv_neT (a := 3) c1_3 rfl
            have n1_4 := lv_neT (a := 4) c1_4 rfl
            refine lv_tableOut (tgt := 61) hx hb dX1_answer_1 (by omega) (by decide) ?_
            refine lv_aload_n hx hb dX1_answer_61 rfl (lv_at hl 0 rfl) ?_
            refine va_get (D := D) (ci := 1) (v := .int (kS k 7 i)) (C := RX1) (T := TX1) (N := 8) hx hb hts iX1 hown hK hP (3 + i) (KW_S c5 a k hi) rfl 7 (by decide) (hts _ wT1_43) (fun _ h9 => h9) rfl dX1_answer_62 ?_
            exact ro_iret hx hb hr hlocks dX1_answer_65 (Option.some.inj h)
set_option maxHeartbeats 4000000 in
set_option maxRecDepth 100000 in
theorem c_X1_state (l : Launch) (D : va_G) (c5 : Nat → ClassId) (a : KAd) (k : KSt) (hI : KI a) (i : Nat) (hi : i < 12) (r : Int32) (h : R_X1_state k i = some r) : Met l yX1_state (ws_ yX1_state cX1_state 1 (some .int)) { frames := 0, cells := 0, slots := 0, locals := 0 } (va_Pc [.ref (aS a i)] (roB D (tyG c5) (KW c5 a k))) (vp_Si (fun x => x = r)) 0 0 (fun _ => False) := by
  refine Met.ofW (cc := cX1_state) (maxL := 1) (ret := (some .int)) (by decide) rfl ?_
  intro p e s m args below meth c s₁ B hml hv
  obtain ⟨rfl, hP, hK⟩ := hv
  have hx := B.exec
  have hb := B.bytes
  have hr := B.returns
  have hts : ∀ w ∈ LA, w.before _ s = true := fun w hw => atoms_spec (ws := ws_ yX1_state cX1_state 1 (some .int)) B.pre w (List.mem_cons_of_mem _ hw)
  have hown : s.vm.findClass RX1 = some m.cls := findClass_of_methodNamed B.named
  have hlocks := B.notSynchronized
  have hl := lv_entry ([.ref (aS a i)] : List Value) (n := 1) (Nat.le_of_ble_eq_true rfl)
  rw [lg_entry_eq]
  generalize (lg_sl ([.ref (aS a i)] : List Value) ++ List.replicate (1 - (lg_sl ([.ref (aS a i)] : List Value)).length) Slot.unset).toArray = ls at hl ⊢
  have hl : lv_has ls 1 [(0, .ref (aS a i))] := hl
  unfold R_X1_state at h
  refine lv_aload_n hx hb dX1_state_0 rfl (lv_at hl 0 rfl) ?_
  refine va_get (D := D) (ci := 1) (v := .int (kS k 2 i)) (C := RX1) (T := TX1) (N := 8) hx hb hts iX1 hown hK hP (3 + i) (KW_S c5 a k hi) rfl 2 (by decide) (hts _ wT1_34) (fun _ h9 => h9) rfl dX1_state_1 ?_
  refine lv_iconst (v := (-1 : Int32)) hx hb dX1_state_4 (by decide) ?_
  refine lv_icmp_ne (tgt := 10) hx hb dX1_state_5 (by decide) (fun q => ?_) (fun q => ?_)
  · have h := o_t' h q
    refine lv_aload_n hx hb dX1_state_10 rfl (lv_at hl 0 rfl) ?_
    refine va_get (D := D) (ci := 1) (v := .int (kS k 6 i)) (C := RX1) (T := TX1) (N := 8) hx hb hts iX1 hown hK hP (3 + i) (KW_S c5 a k hi) rfl 6 (by decide) (hts _ wT1_41) (fun _ h9 => h9) rfl dX1_state_11 ?_
    refine lv_if_ne (tgt := 19) hx hb dX1_state_14 (by decide) (fun q => ?_) (fun q => ?_)
    · have h := o_t' h q
      refine lv_aload_n hx hb dX1_state_19 rfl (lv_at hl 0 rfl) ?_
      refine va_get (D := D) (ci := 1) (v := .int (kS k 6 i)) (C := RX1) (T := TX1) (N := 8) hx hb hts iX1 hown hK hP (3 + i) (KW_S c5 a k hi) rfl 6 (by decide) (hts _ wT1_41) (fun _ h9 => h9) rfl dX1_state_20 ?_
      refine lv_aload_n hx hb dX1_state_23 rfl (lv_at hl 0 rfl) ?_
      refine va_get (D := D) (ci := 1) (v := .int (kS k 4 i)) (C := RX1) (T := TX1) (N := 8) hx hb hts iX1 hown hK hP (3 + i) (KW_S c5 a k hi) rfl 4 (by decide) (hts _ wT1_38) (fun _ h9 => h9) rfl dX1_state_24 ?_
      refine lv_icmp_ge (tgt := 34) hx hb dX1_state_27 (by decide) (fun q => ?_) (fun q => ?_)
      · have h := o_t h q
        refine lv_iconst (v := (3 : Int32)) hx hb dX1_state_34 (by decide) ?_
        exact ro_iret hx hb hr hlocks dX1_state_35 (Option.some.inj h)
      · have h := o_f h q
        refine lv_iconst (v := (2 : Int32)) hx hb dX1_state_30 (by decide) ?_
        refine lv_goto (tgt := 35) hx hb dX1_state_31 (by decide) ?_
        exact ro_iret hx hb hr hlocks dX1_state_35 (Option.some.inj h)
    · have h := o_f' h q
      refine lv_iconst (v := (1 : Int32)) hx hb dX1_state_17 (by decide) ?_
      exact ro_iret hx hb hr hlocks dX1_state_18 (Option.some.inj h)
  · have h := o_f' h q
    refine lv_iconst (v := (0 : Int32)) hx hb dX1_state_8 (by decide) ?_
    exact ro_iret hx hb hr hlocks dX1_state_9 (Option.some.inj h)
set_option maxHeartbeats 4000000 in
set_option maxRecDepth 100000 in
theorem c_X1_isOf (l : Launch) (D : va_G) (c5 : Nat → ClassId) (a : KAd) (k : KSt) (hI : KI a) (i : Nat) (hi : i < 12) (j1 : Nat) (hj1 : j1 < kN k) (r : Int32) (h : R_X1_isOf k i j1 = some r) : Met l yX1_isOf (ws_ yX1_isOf cX1_isOf 2 (some .boolean)) { frames := 0, cells := 0, slots := 0, locals := 0 } (va_Pc [.ref (aS a i), .ref (aK a j1)] (roB D (tyG c5) (KW c5 a k))) (vp_Si (fun x => x = r)) 0 0 (fun _ => False) := by
  refine Met.ofW (cc := cX1_isOf) (maxL := 2) (ret := (some .boolean)) (by decide) rfl ?_
  intro p e s m args below meth c s₁ B hml hv
  obtain ⟨rfl, hP, hK⟩ := hv
  have hx := B.exec
  have hb := B.bytes
  have hr := B.returns
  have hts : ∀ w ∈ LA, w.before _ s = true := fun w hw => atoms_spec (ws := ws_ yX1_isOf cX1_isOf 2 (some .boolean)) B.pre w (List.mem_cons_of_mem _ hw)
  have hown : s.vm.findClass RX1 = some m.cls := findClass_of_methodNamed B.named
  have hlocks := B.notSynchronized
  have hl := lv_entry ([.ref (aS a i), .ref (aK a j1)] : List Value) (n := 2) (Nat.le_of_ble_eq_true rfl)
  rw [lg_entry_eq]
  generalize (lg_sl ([.ref (aS a i), .ref (aK a j1)] : List Value) ++ List.replicate (2 - (lg_sl ([.ref (aS a i), .ref (aK a j1)] : List Value)).length) Slot.unset).toArray = ls at hl ⊢
  have hl : lv_has ls 2 [(0, .ref (aS a i)), (1, .ref (aK a j1))] := hl
  unfold R_X1_isOf at h
  refine lv_aload_n hx hb dX1_isOf_0 rfl (lv_at hl 0 rfl) ?_
  refine va_get (D := D) (ci := 1) (v := .int (kS k 2 i)) (C := RX1) (T := TX1) (N := 8) hx hb hts iX1 hown hK hP (3 + i) (KW_S c5 a k hi) rfl 2 (by decide) (hts _ wT1_34) (fun _ h9 => h9) rfl dX1_isOf_1 ?_
  refine lv_aload_n hx hb dX1_isOf_4 rfl (lv_at hl 1 rfl) ?_
  refine va_get (D := D) (ci := 0) (v := .int (nI j1)) (C := RX0) (T := TX0) (N := 6) hx hb hts iX0 hown hK hP (27 + j1) (KW_K c5 a k hj1) rfl 0 (by decide) (hts _ wT2_89) (fun _ h9 => h9) rfl dX1_isOf_5 ?_
  refine lv_icmp_ne (tgt := 15) hx hb dX1_isOf_8 (by decide) (fun q => ?_) (fun q => ?_)
  · have h := o_t' h q
    refine lv_iconst (v := (0 : Int32)) hx hb dX1_isOf_15 (by decide) ?_
    exact ro_zret hx hb hr hlocks dX1_isOf_16 rfl (Option.some.inj h)
  · have h := o_f' h q
    refine lv_iconst (v := (1 : Int32)) hx hb dX1_isOf_11 (by decide) ?_
    refine lv_goto (tgt := 16) hx hb dX1_isOf_12 (by decide) ?_
    exact ro_zret hx hb hr hlocks dX1_isOf_16 rfl (Option.some.inj h)
set_option maxHeartbeats 4000000 in
set_option maxRecDepth 100000 in
theorem c_X1_comeTo (l : Launch) (D : va_G) (c5 : Nat → ClassId) (a : KAd) (k : KSt) (hI : KI a) (sz : Nat) (i : Nat) (hi : i < 12) (j1 : Nat) (hj1 : j1 < kN k) (r : KSt) (h : R_X1_comeTo k i j1 = some r) : Met l yX1_comeTo (ws_ yX1_comeTo cX1_comeTo 2 none) { frames := 1, cells := 0, slots := 0, locals := 20 } (va_Pc [.ref (aS a i), .ref (aK a j1)] (rwB D (tyG c5) (KW c5 a k) sz)) (va_Qv (fun u => u = r) (rwE D (tyG c5) (va_A (KW c5 a k) sz) (fun u => KW c5 a u)) (va_A (KW c5 a k) sz)) 0 0 (va_A (KW c5 a k) sz) := by
  refine Met.ofW (cc := cX1_comeTo) (maxL := 2) (ret := none) (by decide) rfl ?_
  intro p e s m args below meth c s₁ B hml hv
  obtain ⟨rfl, hsz, hP, hK, hD0⟩ := hv
  have hx := B.exec
  have hb := B.bytes
  have hr := B.returns
  have hts : ∀ w ∈ LA, w.before _ s = true := fun w hw => atoms_spec (ws := ws_ yX1_comeTo cX1_comeTo 2 none) B.pre w (List.mem_cons_of_mem _ hw)
  have hown : s.vm.findClass RX1 = some m.cls := findClass_of_methodNamed B.named
  have hlocks := B.notSynchronized
  subst hsz
  have hD := hD0.self (sz := s.heap.size)
  generalize hAe : va_A (KW c5 a k) s.heap.size = A at hD ⊢
  have hA : ∀ q : Nat, s.heap.size ≤ q → A q := fun q h => by rw [← hAe]; exact Or.inr h
  have hS : va_S A s.heap s.heap [] := va_S.rf
  have hl := lv_entry ([.ref (aS a i), .ref (aK a j1)] : List Value) (n := 2) (Nat.le_of_ble_eq_true rfl)
  rw [lg_entry_eq]
  generalize (lg_sl ([.ref (aS a i), .ref (aK a j1)] : List Value) ++ List.replicate (2 - (lg_sl ([.ref (aS a i), .ref (aK a j1)] : List Value)).length) Slot.unset).toArray = ls at hl ⊢
  have hl : lv_has ls 2 [(0, .ref (aS a i)), (1, .ref (aK a j1))] := hl
  unfold R_X1_comeTo at h
  refine lv_aload_n hx hb dX1_comeTo_0 rfl (lv_at hl 0 rfl) ?_
  refine lv_aload_n hx hb dX1_comeTo_1 rfl (lv_at hl 1 rfl) ?_
  refine va_get (D := D) (ci := 0) (v := .int (nI j1)) (C := RX0) (T := TX0) (N := 6) hx hb hts iX0 hown hK hP (27 + j1) (KW_K c5 a k hj1) rfl 0 (by decide) (hts _ wT2_89) (fun _ h9 => h9) rfl dX1_comeTo_2 ?_
  refine va_put (D := D) (ci := 1) (v := .int (nI j1)) (ty := .int) (C := RX1) (T := TX1) (N := 8) hx hb hts iX1 tyX1 tyX1_ok nmX1 hown hK hP hD hS (3 + i) (KW_S c5 a k hi) rfl 2 (by decide) (hts _ wT1_34) (fun _ h9 => h9) rfl (by decide +kernel) rfl rfl (Nat.le_of_ble_eq_true rfl) dX1_comeTo_5 (fun H locs hP hD hS => ?_)
  have hP := wP (KW_setS c5 a k hi 0 (by decide) _) hP
  have hD := wD (KW_setS c5 a k hi 0 (by decide) _) hD
  refine lv_aload_n hx hb dX1_comeTo_8 rfl (lv_at hl 0 rfl) ?_
  refine lv_aload_n hx hb dX1_comeTo_9 rfl (lv_at hl 1 rfl) ?_
  refine va_get (D := D) (ci := 0) (v := .int (kK (kSs k 2 i (nI j1)) 1 j1)) (C := RX0) (T := TX0) (N := 6) hx hb hts iX0 hown hK hP (27 + j1) (KW_K c5 a (kSs k 2 i (nI j1)) hj1) rfl 1 (by decide) (hts _ wT2_92) (fun _ h9 => h9) rfl dX1_comeTo_10 ?_
  refine va_put (D := D) (ci := 1) (v := .int (kK (kSs k 2 i (nI j1)) 1 j1)) (ty := .int) (C := RX1) (T := TX1) (N := 8) hx hb hts iX1 tyX1 tyX1_ok nmX1 hown hK hP hD hS (3 + i) (KW_S c5 a (kSs k 2 i (nI j1)) hi) rfl 3 (by decide) (hts _ wT1_36) (fun _ h9 => h9) rfl (by decide +kernel) rfl rfl (Nat.le_of_ble_eq_true rfl) dX1_comeTo_13 (fun H locs hP hD hS => ?_)
  have hP := wP (KW_setS c5 a (kSs k 2 i (nI j1)) hi 1 (by decide) _) hP
  have hD := wD (KW_setS c5 a (kSs k 2 i (nI j1)) hi 1 (by decide) _) hD
  refine lv_aload_n hx hb dX1_comeTo_16 rfl (lv_at hl 0 rfl) ?_
  refine lv_aload_n hx hb dX1_comeTo_17 rfl (lv_at hl 1 rfl) ?_
  refine va_get (D := D) (ci := 0) (v := .int (kK (kSs (kSs k 2 i (nI j1)) 3 i (kK (kSs k 2 i (nI j1)) 1 j1)) 2 j1)) (C := RX0) (T := TX0) (N := 6) hx hb hts iX0 hown hK hP (27 + j1) (KW_K c5 a (kSs (kSs k 2 i (nI j1)) 3 i (kK (kSs k 2 i (nI j1)) 1 j1)) hj1) rfl 2 (by decide) (hts _ wT2_95) (fun _ h9 => h9) rfl dX1_comeTo_18 ?_
  refine va_put (D := D) (ci := 1) (v := .int (kK (kSs (kSs k 2 i (nI j1)) 3 i (kK (kSs k 2 i (nI j1)) 1 j1)) 2 j1)) (ty := .int) (C := RX1) (T := TX1) (N := 8) hx hb hts iX1 tyX1 tyX1_ok nmX1 hown hK hP hD hS (3 + i) (KW_S c5 a (kSs (kSs k 2 i (nI j1)) 3 i (kK (kSs k 2 i (nI j1)) 1 j1)) hi) rfl 4 (by decide) (hts _ wT1_38) (fun _ h9 => h9) rfl (by decide +kernel) rfl rfl (Nat.le_of_ble_eq_true rfl) dX1_comeTo_21 (fun H locs hP hD hS => ?_)
  have hP := wP (KW_setS c5 a (kSs (kSs k 2 i (nI j1)) 3 i (kK (kSs k 2 i (nI j1)) 1 j1)) hi 2 (by decide) _) hP
  have hD := wD (KW_setS c5 a (kSs (kSs k 2 i (nI j1)) 3 i (kK (kSs k 2 i (nI j1)) 1 j1)) hi 2 (by decide) _) hD
  refine lv_aload_n hx hb dX1_comeTo_24 rfl (lv_at hl 0 rfl) ?_
  refine lv_aload_n hx hb dX1_comeTo_25 rfl (lv_at hl 1 rfl) ?_
  refine va_get (D := D) (ci := 0) (v := .int (kK (kSs (kSs (kSs k 2 i (nI j1)) 3 i (kK (kSs k 2 i (nI j1)) 1 j1)) 4 i (kK (kSs (kSs k 2 i (nI j1)) 3 i (kK (kSs k 2 i (nI j1)) 1 j1)) 2 j1)) 5 j1)) (C := RX0) (T := TX0) (N := 6) hx hb hts iX0 hown hK hP (27 + j1) (KW_K c5 a (kSs (kSs (kSs k 2 i (nI j1)) 3 i (kK (kSs k 2 i (nI j1)) 1 j1)) 4 i (kK (kSs (kSs k 2 i (nI j1)) 3 i (kK (kSs k 2 i (nI j1)) 1 j1)) 2 j1)) hj1) rfl 5 (by decide) (hts _ wT2_102) (fun _ h9 => h9) rfl dX1_comeTo_26 ?_
  refine va_put (D := D) (ci := 1) (v := .int (kK (kSs (kSs (kSs k 2 i (nI j1)) 3 i (kK (kSs k 2 i (nI j1)) 1 j1)) 4 i (kK (kSs (kSs k 2 i (nI j1)) 3 i (kK (kSs k 2 i (nI j1)) 1 j1)) 2 j1)) 5 j1)) (ty := .int) (C := RX1) (T := TX1) (N := 8) hx hb hts iX1 tyX1 tyX1_ok nmX1 hown hK hP hD hS (3 + i) (KW_S c5 a (kSs (kSs (kSs k 2 i (nI j1)) 3 i (kK (kSs k 2 i (nI j1)) 1 j1)) 4 i (kK (kSs (kSs k 2 i (nI j1)) 3 i (kK (kSs k 2 i (nI j1)) 1 j1)) 2 j1)) hi) rfl 5 (by decide) (hts _ wT1_40) (fun _ h9 => h9) rfl (by decide +kernel) rfl rfl (Nat.le_of_ble_eq_true rfl) dX1_comeTo_29 (fun H locs hP hD hS => ?_)
  have hP := wP (KW_setS c5 a (kSs (kSs (kSs k 2 i (nI j1)) 3 i (kK (kSs k 2 i (nI j1)) 1 j1)) 4 i (kK (kSs (kSs k 2 i (nI j1)) 3 i (kK (kSs k 2 i (nI j1)) 1 j1)) 2 j1)) hi 3 (by decide) _) hP
  have hD := wD (KW_setS c5 a (kSs (kSs (kSs k 2 i (nI j1)) 3 i (kK (kSs k 2 i (nI j1)) 1 j1)) 4 i (kK (kSs (kSs k 2 i (nI j1)) 3 i (kK (kSs k 2 i (nI j1)) 1 j1)) 2 j1)) hi 3 (by decide) _) hD
  refine lv_aload_n hx hb dX1_comeTo_32 rfl (lv_at hl 1 rfl) ?_
  obtain ⟨v33, e33, h⟩ := o_bind h
  refine rw_callv (rw_runV (As := []) (rest := []) ⟨hx, hb, hml, hown, hts⟩ hP hK hD (c_X0_countShelf l D c5 a (kSs (kSs (kSs (kSs k 2 i (nI j1)) 3 i (kK (kSs k 2 i (nI j1)) 1 j1)) 4 i (kK (kSs (kSs k 2 i (nI j1)) 3 i (kK (kSs k 2 i (nI j1)) 1 j1)) 2 j1)) 5 i (kK (kSs (kSs (kSs k 2 i (nI j1)) 3 i (kK (kSs k 2 i (nI j1)) 1 j1)) 4 i (kK (kSs (kSs k 2 i (nI j1)) 3 i (kK (kSs k 2 i (nI j1)) 1 j1)) 2 j1)) 5 j1)) hI H.size j1 hj1 v33 e33) gG_RX1_51 (va_recv hK hP (ci := 0) (q0 := (27 + j1)) rfl (KW_K c5 a (kSs (kSs (kSs (kSs k 2 i (nI j1)) 3 i (kK (kSs k 2 i (nI j1)) 1 j1)) 4 i (kK (kSs (kSs k 2 i (nI j1)) 3 i (kK (kSs k 2 i (nI j1)) 1 j1)) 2 j1)) 5 i (kK (kSs (kSs (kSs k 2 i (nI j1)) 3 i (kK (kSs k 2 i (nI j1)) 1 j1)) 4 i (kK (kSs (kSs k 2 i (nI j1)) 3 i (kK (kSs k 2 i (nI j1)) 1 j1)) 2 j1)) 5 j1)) hj1)) hd_X0_countShelf ⟨Nat.le_of_ble_eq_true rfl, Nat.le_of_ble_eq_true rfl⟩ ⟨rfl, rfl⟩ hl.1 (Nat.le_of_ble_eq_true rfl) dX1_comeTo_33 ⟨Nat.le_of_ble_eq_true rfl, Nat.le_of_ble_eq_true rfl⟩ rfl) hD hS hA (fun H locs hP hD hS => ?_)
  obtain rfl := (Option.some.inj h)
  exact rw_vret (wf := fun u => KW c5 a u) hx hb hr hlocks hP hK hD hS dX1_comeTo_36
set_option maxHeartbeats 4000000 in
set_option maxRecDepth 100000 in
theorem c_X1_becomeFree (l : Launch) (D : va_G) (c5 : Nat → ClassId) (a : KAd) (k : KSt) (hI : KI a) (sz : Nat) (i : Nat) (hi : i < 12) (r : KSt) (h : R_X1_becomeFree k i = some r) : Met l yX1_becomeFree (ws_ yX1_becomeFree cX1_becomeFree 1 none) { frames := 0, cells := 0, slots := 0, locals := 0 } (va_Pc [.ref (aS a i)] (rwB D (tyG c5) (KW c5 a k) sz)) (va_Qv (fun u => u = r) (rwE D (tyG c5) (va_A (KW c5 a k) sz) (fun u => KW c5 a u)) (va_A (KW c5 a k) sz)) 0 0 (va_A (KW c5 a k) sz) := by
  refine Met.ofW (cc := cX1_becomeFree) (maxL := 1) (ret := none) (by decide) rfl ?_
  intro p e s m args below meth c s₁ B hml hv
  obtain ⟨rfl, hsz, hP, hK, hD0⟩ := hv
  have hx := B.exec
  have hb := B.bytes
  have hr := B.returns
  have hts : ∀ w ∈ LA, w.before _ s = true := fun w hw => atoms_spec (ws := ws_ yX1_becomeFree cX1_becomeFree 1 none) B.pre w (List.mem_cons_of_mem _ hw)
  have hown : s.vm.findClass RX1 = some m.cls := findClass_of_methodNamed B.named
  have hlocks := B.notSynchronized
  subst hsz
  have hD := hD0.self (sz := s.heap.size)
  generalize hAe : va_A (KW c5 a k) s.heap.size = A at hD ⊢
  have hA : ∀ q : Nat, s.heap.size ≤ q → A q := fun q h => by rw [← hAe]; exact Or.inr h
  have hS : va_S A s.heap s.heap [] := va_S.rf
  have hl := lv_entry ([.ref (aS a i)] : List Value) (n := 1) (Nat.le_of_ble_eq_true rfl)
  rw [lg_entry_eq]
  generalize (lg_sl ([.ref (aS a i)] : List Value) ++ List.replicate (1 - (lg_sl ([.ref (aS a i)] : List Value)).length) Slot.unset).toArray = ls at hl ⊢
  have hl : lv_has ls 1 [(0, .ref (aS a i))] := hl
  unfold R_X1_becomeFree at h
  refine lv_aload_n hx hb dX1_becomeFree_0 rfl (lv_at hl 0 rfl) ?_
  refine lv_iconst (v := (-1 : Int32)) hx hb dX1_becomeFree_1 (by decide) ?_
  refine va_put (D := D) (ci := 1) (v := .int (-1 : Int32)) (ty := .int) (C := RX1) (T := TX1) (N := 8) hx hb hts iX1 tyX1 tyX1_ok nmX1 hown hK hP hD hS (3 + i) (KW_S c5 a k hi) rfl 2 (by decide) (hts _ wT1_34) (fun _ h9 => h9) rfl (by decide +kernel) rfl rfl (Nat.le_of_ble_eq_true rfl) dX1_becomeFree_2 (fun H locs hP hD hS => ?_)
  have hP := wP (KW_setS c5 a k hi 0 (by decide) _) hP
  have hD := wD (KW_setS c5 a k hi 0 (by decide) _) hD
  refine lv_aload_n hx hb dX1_becomeFree_5 rfl (lv_at hl 0 rfl) ?_
  refine lv_iconst (v := (0 : Int32)) hx hb dX1_becomeFree_6 (by decide) ?_
  refine va_put (D := D) (ci := 1) (v := .int (0 : Int32)) (ty := .int) (C := RX1) (T := TX1) (N := 8) hx hb hts iX1 tyX1 tyX1_ok nmX1 hown hK hP hD hS (3 + i) (KW_S c5 a (kSs k 2 i (-1 : Int32)) hi) rfl 3 (by decide) (hts _ wT1_36) (fun _ h9 => h9) rfl (by decide +kernel) rfl rfl (Nat.le_of_ble_eq_true rfl) dX1_becomeFree_7 (fun H locs hP hD hS => ?_)
  have hP := wP (KW_setS c5 a (kSs k 2 i (-1 : Int32)) hi 1 (by decide) _) hP
  have hD := wD (KW_setS c5 a (kSs k 2 i (-1 : Int32)) hi 1 (by decide) _) hD
  refine lv_aload_n hx hb dX1_becomeFree_10 rfl (lv_at hl 0 rfl) ?_
  refine lv_iconst (v := (0 : Int32)) hx hb dX1_becomeFree_11 (by decide) ?_
  refine va_put (D := D) (ci := 1) (v := .int (0 : Int32)) (ty := .int) (C := RX1) (T := TX1) (N := 8) hx hb hts iX1 tyX1 tyX1_ok nmX1 hown hK hP hD hS (3 + i) (KW_S c5 a (kSs (kSs k 2 i (-1 : Int32)) 3 i (0 : Int32)) hi) rfl 4 (by decide) (hts _ wT1_38) (fun _ h9 => h9) rfl (by decide +kernel) rfl rfl (Nat.le_of_ble_eq_true rfl) dX1_becomeFree_12 (fun H locs hP hD hS => ?_)
  have hP := wP (KW_setS c5 a (kSs (kSs k 2 i (-1 : Int32)) 3 i (0 : Int32)) hi 2 (by decide) _) hP
  have hD := wD (KW_setS c5 a (kSs (kSs k 2 i (-1 : Int32)) 3 i (0 : Int32)) hi 2 (by decide) _) hD
  refine lv_aload_n hx hb dX1_becomeFree_15 rfl (lv_at hl 0 rfl) ?_
  refine lv_iconst (v := (0 : Int32)) hx hb dX1_becomeFree_16 (by decide) ?_
  refine va_put (D := D) (ci := 1) (v := .int (0 : Int32)) (ty := .int) (C := RX1) (T := TX1) (N := 8) hx hb hts iX1 tyX1 tyX1_ok nmX1 hown hK hP hD hS (3 + i) (KW_S c5 a (kSs (kSs (kSs k 2 i (-1 : Int32)) 3 i (0 : Int32)) 4 i (0 : Int32)) hi) rfl 5 (by decide) (hts _ wT1_40) (fun _ h9 => h9) rfl (by decide +kernel) rfl rfl (Nat.le_of_ble_eq_true rfl) dX1_becomeFree_17 (fun H locs hP hD hS => ?_)
  have hP := wP (KW_setS c5 a (kSs (kSs (kSs k 2 i (-1 : Int32)) 3 i (0 : Int32)) 4 i (0 : Int32)) hi 3 (by decide) _) hP
  have hD := wD (KW_setS c5 a (kSs (kSs (kSs k 2 i (-1 : Int32)) 3 i (0 : Int32)) 4 i (0 : Int32)) hi 3 (by decide) _) hD
  refine lv_aload_n hx hb dX1_becomeFree_20 rfl (lv_at hl 0 rfl) ?_
  refine lv_iconst (v := (-1 : Int32)) hx hb dX1_becomeFree_21 (by decide) ?_
  refine va_put (D := D) (ci := 1) (v := .int (-1 : Int32)) (ty := .int) (C := RX1) (T := TX1) (N := 8) hx hb hts iX1 tyX1 tyX1_ok nmX1 hown hK hP hD hS (3 + i) (KW_S c5 a (kSs (kSs (kSs (kSs k 2 i (-1 : Int32)) 3 i (0 : Int32)) 4 i (0 : Int32)) 5 i (0 : Int32)) hi) rfl 7 (by decide) (hts _ wT1_43) (fun _ h9 => h9) rfl (by decide +kernel) rfl rfl (Nat.le_of_ble_eq_true rfl) dX1_becomeFree_22 (fun H locs hP hD hS => ?_)
  have hP := wP (KW_setS c5 a (kSs (kSs (kSs (kSs k 2 i (-1 : Int32)) 3 i (0 : Int32)) 4 i (0 : Int32)) 5 i (0 : Int32)) hi 5 (by decide) _) hP
  have hD := wD (KW_setS c5 a (kSs (kSs (kSs (kSs k 2 i (-1 : Int32)) 3 i (0 : Int32)) 4 i (0 : Int32)) 5 i (0 : Int32)) hi 5 (by decide) _) hD
  obtain rfl := (Option.some.inj h)
  exact rw_vret (wf := fun u => KW c5 a u) hx hb hr hlocks hP hK hD hS dX1_becomeFree_25
set_option maxHeartbeats 4000000 in
set_option maxRecDepth 100000 in
theorem c_X1_addBowl (l : Launch) (D : va_G) (c5 : Nat → ClassId) (a : KAd) (k : KSt) (hI : KI a) (sz : Nat) (i : Nat) (hi : i < 12) (p1 : Int32) (r : KSt) (h : R_X1_addBowl k i p1 = some r) : Met l yX1_addBowl (ws_ yX1_addBowl cX1_addBowl 2 none) { frames := 0, cells := 0, slots := 0, locals := 0 } (va_Pc [.ref (aS a i), .int p1] (rwB D (tyG c5) (KW c5 a k) sz)) (va_Qv (fun u => u = r) (rwE D (tyG c5) (va_A (KW c5 a k) sz) (fun u => KW c5 a u)) (va_A (KW c5 a k) sz)) 0 0 (va_A (KW c5 a k) sz) := by
  refine Met.ofW (cc := cX1_addBowl) (maxL := 2) (ret := none) (by decide) rfl ?_
  intro p e s m args below meth c s₁ B hml hv
  obtain ⟨rfl, hsz, hP, hK, hD0⟩ := hv
  have hx := B.exec
  have hb := B.bytes
  have hr := B.returns
  have hts : ∀ w ∈ LA, w.before _ s = true := fun w hw => atoms_spec (ws := ws_ yX1_addBowl cX1_addBowl 2 none) B.pre w (List.mem_cons_of_mem _ hw)
  have hown : s.vm.findClass RX1 = some m.cls := findClass_of_methodNamed B.named
  have hlocks := B.notSynchronized
  subst hsz
  have hD := hD0.self (sz := s.heap.size)
  generalize hAe : va_A (KW c5 a k) s.heap.size = A at hD ⊢
  have hA : ∀ q : Nat, s.heap.size ≤ q → A q := fun q h => by rw [← hAe]; exact Or.inr h
  have hS : va_S A s.heap s.heap [] := va_S.rf
  have hl := lv_entry ([.ref (aS a i), .int p1] : List Value) (n := 2) (Nat.le_of_ble_eq_true rfl)
  rw [lg_entry_eq]
  generalize (lg_sl ([.ref (aS a i), .int p1] : List Value) ++ List.replicate (2 - (lg_sl ([.ref (aS a i), .int p1] : List Value)).length) Slot.unset).toArray = ls at hl ⊢
  have hl : lv_has ls 2 [(0, .ref (aS a i)), (1, .int p1)] := hl
  unfold R_X1_addBowl at h
  refine lv_iload_n hx hb dX1_addBowl_0 rfl (lv_at hl 1 rfl) ?_
  refine lv_if_lt (tgt := 35) hx hb dX1_addBowl_1 (by decide) (fun q => ?_) (fun q => ?_)
  · have h := o_t h q
    obtain rfl := (Option.some.inj h)
    exact rw_vret (wf := fun u => KW c5 a u) hx hb hr hlocks hP hK hD hS dX1_addBowl_35
  · have h := o_f h q
    refine lv_iload_n hx hb dX1_addBowl_4 rfl (lv_at hl 1 rfl) ?_
    refine lv_aload_n hx hb dX1_addBowl_5 rfl (lv_at hl 0 rfl) ?_
    refine va_get (D := D) (ci := 1) (v := .ref (aB a i)) (C := RX1) (T := TX1) (N := 8) hx hb hts iX1 hown hK hP (3 + i) (KW_S c5 a k hi) rfl 1 (by decide) (hts _ wT1_33) (fun _ h9 => h9) rfl dX1_addBowl_6 ?_
    refine va_alen (v := (12 : Int32)) hx hb hK hP (15 + i) 2 (KW_B c5 a k hi) rfl rfl dX1_addBowl_9 ?_
    refine lv_icmp_ge (tgt := 35) hx hb dX1_addBowl_10 (by decide) (fun q => ?_) (fun q => ?_)
    · have h := o_t h q
      obtain rfl := (Option.some.inj h)
      exact rw_vret (wf := fun u => KW c5 a u) hx hb hr hlocks hP hK hD hS dX1_addBowl_35
    · have h := o_f h q
      refine lv_aload_n hx hb dX1_addBowl_13 rfl (lv_at hl 0 rfl) ?_
      refine va_get (D := D) (ci := 1) (v := .ref (aB a i)) (C := RX1) (T := TX1) (N := 8) hx hb hts iX1 hown hK hP (3 + i) (KW_S c5 a k hi) rfl 1 (by decide) (hts _ wT1_33) (fun _ h9 => h9) rfl dX1_addBowl_14 ?_
      refine lv_iload_n hx hb dX1_addBowl_17 rfl (lv_at hl 1 rfl) ?_
      refine lv_iconst (v := (1 : Int32)) hx hb dX1_addBowl_18 (by decide) ?_
      obtain ⟨g19, h⟩ := o_if h
      refine va_zast hx hb hK hP hD hS (15 + i) 2 (KW_B c5 a k hi) rfl (inb_in g19) dX1_addBowl_19 (fun H locs hP hD hS => ?_)
      have hP := wP (KW_setB c5 a k hi _) hP
      have hD := wD (KW_setB c5 a k hi _) hD
      refine lv_aload_n hx hb dX1_addBowl_20 rfl (lv_at hl 0 rfl) ?_
      refine lv_dup hx hb dX1_addBowl_21 rfl ?_
      refine va_get (D := D) (ci := 1) (v := .int (kS (kBs k i (upd (kB k i) (p1.toNatClampNeg) (vp_nar .boolean (1 : Int32)))) 6 i)) (C := RX1) (T := TX1) (N := 8) hx hb hts iX1 hown hK hP (3 + i) (KW_S c5 a (kBs k i (upd (kB k i) (p1.toNatClampNeg) (vp_nar .boolean (1 : Int32)))) hi) rfl 6 (by decide) (hts _ wT1_41) (fun _ h9 => h9) rfl dX1_addBowl_22 ?_
      refine lv_iconst (v := (1 : Int32)) hx hb dX1_addBowl_25 (by decide) ?_
      refine lv_iadd hx hb dX1_addBowl_26 ?_
      refine va_put (D := D) (ci := 1) (v := .int ((kS (kBs k i (upd (kB k i) (p1.toNatClampNeg) (vp_nar .boolean (1 : Int32)))) 6 i) + (1 : Int32))) (ty := .int) (C := RX1) (T := TX1) (N := 8) hx hb hts iX1 tyX1 tyX1_ok nmX1 hown hK hP hD hS (3 + i) (KW_S c5 a (kBs k i (upd (kB k i) (p1.toNatClampNeg) (vp_nar .boolean (1 : Int32)))) hi) rfl 6 (by decide) (hts _ wT1_41) (fun _ h9 => h9) rfl (by decide +kernel) rfl rfl (Nat.le_of_ble_eq_true rfl) dX1_addBowl_27 (fun H locs hP hD hS => ?_)
      have hP := wP (KW_setS c5 a (kBs k i (upd (kB k i) (p1.toNatClampNeg) (vp_nar .boolean (1 : Int32)))) hi 4 (by decide) _) hP
      have hD := wD (KW_setS c5 a (kBs k i (upd (kB k i) (p1.toNatClampNeg) (vp_nar .boolean (1 : Int32)))) hi 4 (by decide) _) hD
      refine lv_aload_n hx hb dX1_addBowl_30 rfl (lv_at hl 0 rfl) ?_
      refine lv_iconst (v := (-1 : Int32)) hx hb dX1_addBowl_31 (by decide) ?_
      refine va_put (D := D) (ci := 1) (v := .int (-1 : Int32)) (ty := .int) (C := RX1) (T := TX1) (N := 8) hx hb hts iX1 tyX1 tyX1_ok nmX1 hown hK hP hD hS (3 + i) (KW_S c5 a (kSs (kBs k i (upd (kB k i) (p1.toNatClampNeg) (vp_nar .boolean (1 : Int32)))) 6 i ((kS (kBs k i (upd (kB k i) (p1.toNatClampNeg) (vp_nar .boolean (1 : Int32)))) 6 i) + (1 : Int32))) hi) rfl 7 (by decide) (hts _ wT1_43) (fun _ h9 => h9) rfl (by decide +kernel) rfl rfl (Nat.le_of_ble_eq_true rfl) dX1_addBowl_32 (fun H locs hP hD hS => ?_)
      have hP := wP (KW_setS c5 a (kSs (kBs k i (upd (kB k i) (p1.toNatClampNeg) (vp_nar .boolean (1 : Int32)))) 6 i ((kS (kBs k i (upd (kB k i) (p1.toNatClampNeg) (vp_nar .boolean (1 : Int32)))) 6 i) + (1 : Int32))) hi 5 (by decide) _) hP
      have hD := wD (KW_setS c5 a (kSs (kBs k i (upd (kB k i) (p1.toNatClampNeg) (vp_nar .boolean (1 : Int32)))) 6 i ((kS (kBs k i (upd (kB k i) (p1.toNatClampNeg) (vp_nar .boolean (1 : Int32)))) 6 i) + (1 : Int32))) hi 5 (by decide) _) hD
      obtain rfl := (Option.some.inj h)
      exact rw_vret (wf := fun u => KW c5 a u) hx hb hr hlocks hP hK hD hS dX1_addBowl_35
set_option maxHeartbeats 4000000 in
set_option maxRecDepth 100000 in
theorem c_X1_removeBowl (l : Launch) (D : va_G) (c5 : Nat → ClassId) (a : KAd) (k : KSt) (hI : KI a) (sz : Nat) (i : Nat) (hi : i < 12) (p1 : Int32) (p2 : Int32) (r : KSt) (h : R_X1_removeBowl k i p1 p2 = some r) : Met l yX1_removeBowl (ws_ yX1_removeBowl cX1_removeBowl 3 none) { frames := 0, cells := 0, slots := 0, locals := 0 } (va_Pc [.ref (aS a i), .int p1, .int p2] (rwB D (tyG c5) (KW c5 a k) sz)) (va_Qv (fun u => u = r) (rwE D (tyG c5) (va_A (KW c5 a k) sz) (fun u => KW c5 a u)) (va_A (KW c5 a k) sz)) 0 0 (va_A (KW c5 a k) sz) := by
  refine Met.ofW (cc := cX1_removeBowl) (maxL := 3) (ret := none) (by decide) rfl ?_
  intro p e s m args below meth c s₁ B hml hv
  obtain ⟨rfl, hsz, hP, hK, hD0⟩ := hv
  have hx := B.exec
  have hb := B.bytes
  have hr := B.returns
  have hts : ∀ w ∈ LA, w.before _ s = true := fun w hw => atoms_spec (ws := ws_ yX1_removeBowl cX1_removeBowl 3 none) B.pre w (List.mem_cons_of_mem _ hw)
  have hown : s.vm.findClass RX1 = some m.cls := findClass_of_methodNamed B.named
  have hlocks := B.notSynchronized
  subst hsz
  have hD := hD0.self (sz := s.heap.size)
  generalize hAe : va_A (KW c5 a k) s.heap.size = A at hD ⊢
  have hA : ∀ q : Nat, s.heap.size ≤ q → A q := fun q h => by rw [← hAe]; exact Or.inr h
  have hS : va_S A s.heap s.heap [] := va_S.rf
  have hl := lv_entry ([.ref (aS a i), .int p1, .int p2] : List Value) (n := 3) (Nat.le_of_ble_eq_true rfl)
  rw [lg_entry_eq]
  generalize (lg_sl ([.ref (aS a i), .int p1, .int p2] : List Value) ++ List.replicate (3 - (lg_sl ([.ref (aS a i), .int p1, .int p2] : List Value)).length) Slot.unset).toArray = ls at hl ⊢
  have hl : lv_has ls 3 [(0, .ref (aS a i)), (1, .int p1), (2, .int p2)] := hl
  unfold R_X1_removeBowl at h
  refine lv_iload_n hx hb dX1_removeBowl_0 rfl (lv_at hl 1 rfl) ?_
  refine lv_if_lt (tgt := 46) hx hb dX1_removeBowl_1 (by decide) (fun q => ?_) (fun q => ?_)
  · have h := o_t h q
    obtain rfl := (Option.some.inj h)
    exact rw_vret (wf := fun u => KW c5 a u) hx hb hr hlocks hP hK hD hS dX1_removeBowl_46
  · have h := o_f h q
    refine lv_iload_n hx hb dX1_removeBowl_4 rfl (lv_at hl 1 rfl) ?_
    refine lv_aload_n hx hb dX1_removeBowl_5 rfl (lv_at hl 0 rfl) ?_
    refine va_get (D := D) (ci := 1) (v := .ref (aB a i)) (C := RX1) (T := TX1) (N := 8) hx hb hts iX1 hown hK hP (3 + i) (KW_S c5 a k hi) rfl 1 (by decide) (hts _ wT1_33) (fun _ h9 => h9) rfl dX1_removeBowl_6 ?_
    refine va_alen (v := (12 : Int32)) hx hb hK hP (15 + i) 2 (KW_B c5 a k hi) rfl rfl dX1_removeBowl_9 ?_
    refine lv_icmp_ge (tgt := 46) hx hb dX1_removeBowl_10 (by decide) (fun q => ?_) (fun q => ?_)
    · have h := o_t h q
      obtain rfl := (Option.some.inj h)
      exact rw_vret (wf := fun u => KW c5 a u) hx hb hr hlocks hP hK hD hS dX1_removeBowl_46
    · have h := o_f h q
      refine lv_aload_n hx hb dX1_removeBowl_13 rfl (lv_at hl 0 rfl) ?_
      refine va_get (D := D) (ci := 1) (v := .ref (aB a i)) (C := RX1) (T := TX1) (N := 8) hx hb hts iX1 hown hK hP (3 + i) (KW_S c5 a k hi) rfl 1 (by decide) (hts _ wT1_33) (fun _ h9 => h9) rfl dX1_removeBowl_14 ?_
      refine lv_iload_n hx hb dX1_removeBowl_17 rfl (lv_at hl 1 rfl) ?_
      refine lv_iconst (v := (0 : Int32)) hx hb dX1_removeBowl_18 (by decide) ?_
      obtain ⟨g19, h⟩ := o_if h
      refine va_zast hx hb hK hP hD hS (15 + i) 2 (KW_B c5 a k hi) rfl (inb_in g19) dX1_removeBowl_19 (fun H locs hP hD hS => ?_)
      have hP := wP (KW_setB c5 a k hi _) hP
      have hD := wD (KW_setB c5 a k hi _) hD
      refine lv_aload_n hx hb dX1_removeBowl_20 rfl (lv_at hl 0 rfl) ?_
      refine lv_dup hx hb dX1_removeBowl_21 rfl ?_
      refine va_get (D := D) (ci := 1) (v := .int (kS (kBs k i (upd (kB k i) (p1.toNatClampNeg) (vp_nar .boolean (0 : Int32)))) 6 i)) (C := RX1) (T := TX1) (N := 8) hx hb hts iX1 hown hK hP (3 + i) (KW_S c5 a (kBs k i (upd (kB k i) (p1.toNatClampNeg) (vp_nar .boolean (0 : Int32)))) hi) rfl 6 (by decide) (hts _ wT1_41) (fun _ h9 => h9) rfl dX1_removeBowl_22 ?_
      refine lv_iconst (v := (1 : Int32)) hx hb dX1_removeBowl_25 (by decide) ?_
      refine lv_isub hx hb dX1_removeBowl_26 ?_
      refine va_put (D := D) (ci := 1) (v := .int ((kS (kBs k i (upd (kB k i) (p1.toNatClampNeg) (vp_nar .boolean (0 : Int32)))) 6 i) - (1 : Int32))) (ty := .int) (C := RX1) (T := TX1) (N := 8) hx hb hts iX1 tyX1 tyX1_ok nmX1 hown hK hP hD hS (3 + i) (KW_S c5 a (kBs k i (upd (kB k i) (p1.toNatClampNeg) (vp_nar .boolean (0 : Int32)))) hi) rfl 6 (by decide) (hts _ wT1_41) (fun _ h9 => h9) rfl (by decide +kernel) rfl rfl (Nat.le_of_ble_eq_true rfl) dX1_removeBowl_27 (fun H locs hP hD hS => ?_)
      have hP := wP (KW_setS c5 a (kBs k i (upd (kB k i) (p1.toNatClampNeg) (vp_nar .boolean (0 : Int32)))) hi 4 (by decide) _) hP
      have hD := wD (KW_setS c5 a (kBs k i (upd (kB k i) (p1.toNatClampNeg) (vp_nar .boolean (0 : Int32)))) hi 4 (by decide) _) hD
      refine lv_aload_n hx hb dX1_removeBowl_30 rfl (lv_at hl 0 rfl) ?_
      refine lv_aload_n hx hb dX1_removeBowl_31 rfl (lv_at hl 0 rfl) ?_
      refine va_get (D := D) (ci := 1) (v := .int (kS (kSs (kBs k i (upd (kB k i) (p1.toNatClampNeg) (vp_nar .boolean (0 : Int32)))) 6 i ((kS (kBs k i (upd (kB k i) (p1.toNatClampNeg) (vp_nar .boolean (0 : Int32)))) 6 i) - (1 : Int32))) 6 i)) (C := RX1) (T := TX1) (N := 8) hx hb hts iX1 hown hK hP (3 + i) (KW_S c5 a (kSs (kBs k i (upd (kB k i) (p1.toNatClampNeg) (vp_nar .boolean (0 : Int32)))) 6 i ((kS (kBs k i (upd (kB k i) (p1.toNatClampNeg) (vp_nar .boolean (0 : Int32)))) 6 i) - (1 : Int32))) hi) rfl 6 (by decide) (hts _ wT1_41) (fun _ h9 => h9) rfl dX1_removeBowl_32 ?_
      refine lv_if_ne (tgt := 42) hx hb dX1_removeBowl_35 (by decide) (fun q => ?_) (fun q => ?_)
      · have h := o_t' h q
        refine lv_iconst (v := (-1 : Int32)) hx hb dX1_removeBowl_42 (by decide) ?_
        refine va_put (D := D) (ci := 1) (v := .int (-1 : Int32)) (ty := .int) (C := RX1) (T := TX1) (N := 8) hx hb hts iX1 tyX1 tyX1_ok nmX1 hown hK hP hD hS (3 + i) (KW_S c5 a (kSs (kBs k i (upd (kB k i) (p1.toNatClampNeg) (vp_nar .boolean (0 : Int32)))) 6 i ((kS (kBs k i (upd (kB k i) (p1.toNatClampNeg) (vp_nar .boolean (0 : Int32)))) 6 i) - (1 : Int32))) hi) rfl 7 (by decide) (hts _ wT1_43) (fun _ h9 => h9) rfl (by decide +kernel) rfl rfl (Nat.le_of_ble_eq_true rfl) dX1_removeBowl_43 (fun H locs hP hD hS => ?_)
        have hP := wP (KW_setS c5 a (kSs (kBs k i (upd (kB k i) (p1.toNatClampNeg) (vp_nar .boolean (0 : Int32)))) 6 i ((kS (kBs k i (upd (kB k i) (p1.toNatClampNeg) (vp_nar .boolean (0 : Int32)))) 6 i) - (1 : Int32))) hi 5 (by decide) _) hP
        have hD := wD (KW_setS c5 a (kSs (kBs k i (upd (kB k i) (p1.toNatClampNeg) (vp_nar .boolean (0 : Int32)))) 6 i ((kS (kBs k i (upd (kB k i) (p1.toNatClampNeg) (vp_nar .boolean (0 : Int32)))) 6 i) - (1 : Int32))) hi 5 (by decide) _) hD
        obtain rfl := (Option.some.inj h)
        exact rw_vret (wf := fun u => KW c5 a u) hx hb hr hlocks hP hK hD hS dX1_removeBowl_46
      · have h := o_f' h q
        refine lv_iload_n hx hb dX1_removeBowl_38 rfl (lv_at hl 2 rfl) ?_
        refine lv_goto (tgt := 43) hx hb dX1_removeBowl_39 (by decide) ?_
        refine va_put (D := D) (ci := 1) (v := .int p2) (ty := .int) (C := RX1) (T := TX1) (N := 8) hx hb hts iX1 tyX1 tyX1_ok nmX1 hown hK hP hD hS (3 + i) (KW_S c5 a (kSs (kBs k i (upd (kB k i) (p1.toNatClampNeg) (vp_nar .boolean (0 : Int32)))) 6 i ((kS (kBs k i (upd (kB k i) (p1.toNatClampNeg) (vp_nar .boolean (0 : Int32)))) 6 i) - (1 : Int32))) hi) rfl 7 (by decide) (hts _ wT1_43) (fun _ h9 => h9) rfl (by decide +kernel) rfl rfl (Nat.le_of_ble_eq_true rfl) dX1_removeBowl_43 (fun H locs hP hD hS => ?_)
        have hP := wP (KW_setS c5 a (kSs (kBs k i (upd (kB k i) (p1.toNatClampNeg) (vp_nar .boolean (0 : Int32)))) 6 i ((kS (kBs k i (upd (kB k i) (p1.toNatClampNeg) (vp_nar .boolean (0 : Int32)))) 6 i) - (1 : Int32))) hi 5 (by decide) _) hP
        have hD := wD (KW_setS c5 a (kSs (kBs k i (upd (kB k i) (p1.toNatClampNeg) (vp_nar .boolean (0 : Int32)))) 6 i ((kS (kBs k i (upd (kB k i) (p1.toNatClampNeg) (vp_nar .boolean (0 : Int32)))) 6 i) - (1 : Int32))) hi 5 (by decide) _) hD
        obtain rfl := (Option.some.inj h)
        exact rw_vret (wf := fun u => KW c5 a u) hx hb hr hlocks hP hK hD hS dX1_removeBowl_46
set_option maxHeartbeats 4000000 in
set_option maxRecDepth 100000 in
theorem c_X1_lastBowl (l : Launch) (D : va_G) (c5 : Nat → ClassId) (a : KAd) (k : KSt) (hI : KI a) (i : Nat) (hi : i < 12) (r : Int32) (h : R_X1_lastBowl k i = some r) : Met l yX1_lastBowl (ws_ yX1_lastBowl cX1_lastBowl 2 (some .int)) { frames := 1, cells := 0, slots := 0, locals := 21 } (va_Pc [.ref (aS a i)] (roB D (tyG c5) (KW c5 a k))) (vp_Si (fun x => x = r)) 0 0 (fun _ => False) := by
  refine Met.ofW (cc := cX1_lastBowl) (maxL := 2) (ret := (some .int)) (by decide) rfl ?_
  intro p e s m args below meth c s₁ B hml hv
  obtain ⟨rfl, hP, hK⟩ := hv
  have hx := B.exec
  have hb := B.bytes
  have hr := B.returns
  have hts : ∀ w ∈ LA, w.before _ s = true := fun w hw => atoms_spec (ws := ws_ yX1_lastBowl cX1_lastBowl 2 (some .int)) B.pre w (List.mem_cons_of_mem _ hw)
  have hown : s.vm.findClass RX1 = some m.cls := findClass_of_methodNamed B.named
  have hlocks := B.notSynchronized
  have hl := lv_entry ([.ref (aS a i)] : List Value) (n := 2) (Nat.le_of_ble_eq_true rfl)
  rw [lg_entry_eq]
  generalize (lg_sl ([.ref (aS a i)] : List Value) ++ List.replicate (2 - (lg_sl ([.ref (aS a i)] : List Value)).length) Slot.unset).toArray = ls at hl ⊢
  have hl : lv_has ls 2 [(0, .ref (aS a i))] := hl
  unfold R_X1_lastBowl at h
  refine lv_aload_n hx hb dX1_lastBowl_0 rfl (lv_at hl 0 rfl) ?_
  refine va_get (D := D) (ci := 1) (v := .int (kS k 4 i)) (C := RX1) (T := TX1) (N := 8) hx hb hts iX1 hown hK hP (3 + i) (KW_S c5 a k hi) rfl 4 (by decide) (hts _ wT1_38) (fun _ h9 => h9) rfl dX1_lastBowl_1 ?_
  refine lv_iconst (v := (1 : Int32)) hx hb dX1_lastBowl_4 (by decide) ?_
  refine lv_isub hx hb dX1_lastBowl_5 ?_
  refine lv_istore_n (i := 1) (lv' := [(1, .int ((kS k 4 i) - (1 : Int32))), (0, .ref (aS a i))]) hx hb dX1_lastBowl_6 rfl hl (by decide) rfl (fun ls hl => ?_)
  have L7 : ∀ (n : Nat) (x1_7 : Int32) (ls : Array Slot), lv_has ls 2 [(0, .ref (aS a i)), (1, .int x1_7)] → R_X1_lastBowl_L7 k i n x1_7 = some r → W p l e (headSpec (ws_ yX1_lastBowl cX1_lastBowl 2 (some .int)) { frames := 1, cells := 0, slots := 0, locals := 21 }).room s m ([.ref (aS a i)] : List Value).toArray below meth c s.heap [] 0 0 (MQ below (vp_Si (fun x => x = r)) ([.ref (aS a i)] : List Value).toArray s 0 0 (fun _ => False)) (F0 m 7 ls []) := by
    intro n
    induction n with
    | zero =>
      intro x1_7 ls hl h
      exact absurd h (by simp [R_X1_lastBowl_L7])
    | succ n ih =>
      intro x1_7 ls hl h
      rw [R_X1_lastBowl_L7] at h
      refine lv_iload_n hx hb dX1_lastBowl_7 rfl (lv_at hl 1 rfl) ?_
      refine lv_if_lt (tgt := 27) hx hb dX1_lastBowl_8 (by decide) (fun q => ?_) (fun q => ?_)
      · have h := o_t h q
        refine lv_iconst (v := (-1 : Int32)) hx hb dX1_lastBowl_27 (by decide) ?_
        exact ro_iret hx hb hr hlocks dX1_lastBowl_28 (Option.some.inj h)
      · have h := o_f h q
        refine lv_aload_n hx hb dX1_lastBowl_11 rfl (lv_at hl 0 rfl) ?_
        refine lv_iload_n hx hb dX1_lastBowl_12 rfl (lv_at hl 1 rfl) ?_
        obtain ⟨v13, e13, h⟩ := o_bind h
        refine ro_calli (ro_runV (As := [.int x1_7]) (rest := []) ⟨hx, hb, hml, hown, hts⟩ hP hK (c_X1_standsOn l D c5 a k hI i hi x1_7 v13 e13) gG_RX1_54 (va_recv hK hP (ci := 1) (q0 := (3 + i)) rfl (KW_S c5 a k hi)) hd_X1_standsOn ⟨Nat.le_of_ble_eq_true rfl, Nat.le_of_ble_eq_true rfl⟩ ⟨rfl, rfl⟩ hl.1 (Nat.le_of_ble_eq_true rfl) dX1_lastBowl_13 ⟨Nat.zero_le _, Nat.zero_le _⟩ rfl) ?_
        refine lv_if_eq (tgt := 21) hx hb dX1_lastBowl_16 (by decide) (fun q => ?_) (fun q => ?_)
        · have h := o_t h q
          refine lv_iinc (v := (x1_7 + (-1 : Int32))) (lv' := [(1, .int (x1_7 + (-1 : Int32))), (0, .ref (aS a i))]) hx hb dX1_lastBowl_21 hl (k := 1) rfl rfl (by decide) rfl (fun ls hl => ?_)
          refine lv_goto (tgt := 7) hx hb dX1_lastBowl_24 (by decide) ?_
          exact ih (x1_7 + (-1 : Int32))  ls (lv_sub hl [1, 0] rfl) h
        · have h := o_f h q
          refine lv_iload_n hx hb dX1_lastBowl_19 rfl (lv_at hl 1 rfl) ?_
          exact ro_iret hx hb hr hlocks dX1_lastBowl_20 (Option.some.inj h)
  exact L7 FU ((kS k 4 i) - (1 : Int32))  ls (lv_sub hl [1, 0] rfl) h
set_option maxHeartbeats 4000000 in
set_option maxRecDepth 100000 in
theorem c_X1_beginOf (l : Launch) (D : va_G) (c5 : Nat → ClassId) (a : KAd) (k : KSt) (hI : KI a) (i : Nat) (hi : i < 12) (p1 : Int32) (r : Int32) (h : R_X1_beginOf k i p1 = some r) : Met l yX1_beginOf (ws_ yX1_beginOf cX1_beginOf 2 (some .int)) { frames := 0, cells := 0, slots := 0, locals := 0 } (va_Pc [.ref (aS a i), .int p1] (roB D (tyG c5) (KW c5 a k))) (vp_Si (fun x => x = r)) 0 0 (fun _ => False) := by
  refine Met.ofW (cc := cX1_beginOf) (maxL := 2) (ret := (some .int)) (by decide) rfl ?_
  intro p e s m args below meth c s₁ B hml hv
  obtain ⟨rfl, hP, hK⟩ := hv
  have hx := B.exec
  have hb := B.bytes
  have hr := B.returns
  have hts : ∀ w ∈ LA, w.before _ s = true := fun w hw => atoms_spec (ws := ws_ yX1_beginOf cX1_beginOf 2 (some .int)) B.pre w (List.mem_cons_of_mem _ hw)
  have hown : s.vm.findClass RX1 = some m.cls := findClass_of_methodNamed B.named
  have hlocks := B.notSynchronized
  have hl := lv_entry ([.ref (aS a i), .int p1] : List Value) (n := 2) (Nat.le_of_ble_eq_true rfl)
  rw [lg_entry_eq]
  generalize (lg_sl ([.ref (aS a i), .int p1] : List Value) ++ List.replicate (2 - (lg_sl ([.ref (aS a i), .int p1] : List Value)).length) Slot.unset).toArray = ls at hl ⊢
  have hl : lv_has ls 2 [(0, .ref (aS a i)), (1, .int p1)] := hl
  unfold R_X1_beginOf at h
  refine lv_aload_n hx hb dX1_beginOf_0 rfl (lv_at hl 0 rfl) ?_
  refine va_get (D := D) (ci := 1) (v := .int (nI (24 * i))) (C := RX1) (T := TX1) (N := 8) hx hb hts iX1 hown hK hP (3 + i) (KW_S c5 a k hi) rfl 0 (by decide) (hts _ wT1_31) (fun _ h9 => h9) rfl dX1_beginOf_1 ?_
  refine lv_aload_n hx hb dX1_beginOf_4 rfl (lv_at hl 0 rfl) ?_
  refine va_get (D := D) (ci := 1) (v := .int (kS k 5 i)) (C := RX1) (T := TX1) (N := 8) hx hb hts iX1 hown hK hP (3 + i) (KW_S c5 a k hi) rfl 5 (by decide) (hts _ wT1_40) (fun _ h9 => h9) rfl dX1_beginOf_5 ?_
  refine lv_iadd hx hb dX1_beginOf_8 ?_
  refine lv_iload_n hx hb dX1_beginOf_9 rfl (lv_at hl 1 rfl) ?_
  refine lv_aload_n hx hb dX1_beginOf_10 rfl (lv_at hl 0 rfl) ?_
  refine va_get (D := D) (ci := 1) (v := .int (kS k 3 i)) (C := RX1) (T := TX1) (N := 8) hx hb hts iX1 hown hK hP (3 + i) (KW_S c5 a k hi) rfl 3 (by decide) (hts _ wT1_36) (fun _ h9 => h9) rfl dX1_beginOf_11 ?_
  refine lv_imul hx hb dX1_beginOf_14 ?_
  refine lv_iadd hx hb dX1_beginOf_15 ?_
  exact ro_iret hx hb hr hlocks dX1_beginOf_16 (Option.some.inj h)
set_option maxHeartbeats 4000000 in
set_option maxRecDepth 100000 in
theorem c_X1_placeAt (l : Launch) (D : va_G) (c5 : Nat → ClassId) (a : KAd) (k : KSt) (hI : KI a) (i : Nat) (hi : i < 12) (p1 : Int32) (r : Int32) (h : R_X1_placeAt k i p1 = some r) : Met l yX1_placeAt (ws_ yX1_placeAt cX1_placeAt 3 (some .int)) { frames := 0, cells := 0, slots := 0, locals := 0 } (va_Pc [.ref (aS a i), .int p1] (roB D (tyG c5) (KW c5 a k))) (vp_Si (fun x => x = r)) 0 0 (fun _ => False) := by
  refine Met.ofW (cc := cX1_placeAt) (maxL := 3) (ret := (some .int)) (by decide) rfl ?_
  intro p e s m args below meth c s₁ B hml hv
  obtain ⟨rfl, hP, hK⟩ := hv
  have hx := B.exec
  have hb := B.bytes
  have hr := B.returns
  have hts : ∀ w ∈ LA, w.before _ s = true := fun w hw => atoms_spec (ws := ws_ yX1_placeAt cX1_placeAt 3 (some .int)) B.pre w (List.mem_cons_of_mem _ hw)
  have hown : s.vm.findClass RX1 = some m.cls := findClass_of_methodNamed B.named
  have hlocks := B.notSynchronized
  have hl := lv_entry ([.ref (aS a i), .int p1] : List Value) (n := 3) (Nat.le_of_ble_eq_true rfl)
  rw [lg_entry_eq]
  generalize (lg_sl ([.ref (aS a i), .int p1] : List Value) ++ List.replicate (3 - (lg_sl ([.ref (aS a i), .int p1] : List Value)).length) Slot.unset).toArray = ls at hl ⊢
  have hl : lv_has ls 3 [(0, .ref (aS a i)), (1, .int p1)] := hl
  unfold R_X1_placeAt at h
  refine lv_iload_n hx hb dX1_placeAt_0 rfl (lv_at hl 1 rfl) ?_
  refine lv_aload_n hx hb dX1_placeAt_1 rfl (lv_at hl 0 rfl) ?_
  refine va_get (D := D) (ci := 1) (v := .int (nI (24 * i))) (C := RX1) (T := TX1) (N := 8) hx hb hts iX1 hown hK hP (3 + i) (KW_S c5 a k hi) rfl 0 (by decide) (hts _ wT1_31) (fun _ h9 => h9) rfl dX1_placeAt_2 ?_
  refine lv_isub hx hb dX1_placeAt_5 ?_
  refine lv_aload_n hx hb dX1_placeAt_6 rfl (lv_at hl 0 rfl) ?_
  refine va_get (D := D) (ci := 1) (v := .int (kS k 5 i)) (C := RX1) (T := TX1) (N := 8) hx hb hts iX1 hown hK hP (3 + i) (KW_S c5 a k hi) rfl 5 (by decide) (hts _ wT1_40) (fun _ h9 => h9) rfl dX1_placeAt_7 ?_
  refine lv_isub hx hb dX1_placeAt_10 ?_
  refine lv_istore_n (i := 2) (lv' := [(2, .int ((p1 - (nI (24 * i))) - (kS k 5 i))), (0, .ref (aS a i)), (1, .int p1)]) hx hb dX1_placeAt_11 rfl hl (by decide) rfl (fun ls hl => ?_)
  refine lv_aload_n hx hb dX1_placeAt_12 rfl (lv_at hl 1 rfl) ?_
  refine va_get (D := D) (ci := 1) (v := .int (kS k 3 i)) (C := RX1) (T := TX1) (N := 8) hx hb hts iX1 hown hK hP (3 + i) (KW_S c5 a k hi) rfl 3 (by decide) (hts _ wT1_36) (fun _ h9 => h9) rfl dX1_placeAt_13 ?_
  refine lv_iconst (v := (1 : Int32)) hx hb dX1_placeAt_16 (by decide) ?_
  refine lv_icmp_lt (tgt := 37) hx hb dX1_placeAt_17 (by decide) (fun q => ?_) (fun q => ?_)
  · have h := o_t h q
    refine lv_iconst (v := (-1 : Int32)) hx hb dX1_placeAt_37 (by decide) ?_
    exact ro_iret hx hb hr hlocks dX1_placeAt_38 (Option.some.inj h)
  · have h := o_f h q
    refine lv_iload_n hx hb dX1_placeAt_20 rfl (lv_at hl 0 rfl) ?_
    refine lv_if_lt (tgt := 37) hx hb dX1_placeAt_21 (by decide) (fun q => ?_) (fun q => ?_)
    · have h := o_t h q
      refine lv_iconst (v := (-1 : Int32)) hx hb dX1_placeAt_37 (by decide) ?_
      exact ro_iret hx hb hr hlocks dX1_placeAt_38 (Option.some.inj h)
    · have h := o_f h q
      refine lv_iload_n hx hb dX1_placeAt_24 rfl (lv_at hl 0 rfl) ?_
      refine lv_aload_n hx hb dX1_placeAt_25 rfl (lv_at hl 1 rfl) ?_
      refine va_get (D := D) (ci := 1) (v := .int (kS k 4 i)) (C := RX1) (T := TX1) (N := 8) hx hb hts iX1 hown hK hP (3 + i) (KW_S c5 a k hi) rfl 4 (by decide) (hts _ wT1_38) (fun _ h9 => h9) rfl dX1_placeAt_26 ?_
      refine lv_aload_n hx hb dX1_placeAt_29 rfl (lv_at hl 1 rfl) ?_
      refine va_get (D := D) (ci := 1) (v := .int (kS k 3 i)) (C := RX1) (T := TX1) (N := 8) hx hb hts iX1 hown hK hP (3 + i) (KW_S c5 a k hi) rfl 3 (by decide) (hts _ wT1_36) (fun _ h9 => h9) rfl dX1_placeAt_30 ?_
      refine lv_imul hx hb dX1_placeAt_33 ?_
      refine lv_icmp_lt (tgt := 39) hx hb dX1_placeAt_34 (by decide) (fun q => ?_) (fun q => ?_)
      · have h := o_t h q
        refine lv_iload_n hx hb dX1_placeAt_39 rfl (lv_at hl 0 rfl) ?_
        refine lv_aload_n hx hb dX1_placeAt_40 rfl (lv_at hl 1 rfl) ?_
        refine va_get (D := D) (ci := 1) (v := .int (kS k 3 i)) (C := RX1) (T := TX1) (N := 8) hx hb hts iX1 hown hK hP (3 + i) (KW_S c5 a k hi) rfl 3 (by decide) (hts _ wT1_36) (fun _ h9 => h9) rfl dX1_placeAt_41 ?_
        obtain ⟨g44, h⟩ := o_if h
        refine lv_idiv hx hb dX1_placeAt_44 g44 ?_
        exact ro_iret hx hb hr hlocks dX1_placeAt_45 (Option.some.inj h)
      · have h := o_f h q
        refine lv_iconst (v := (-1 : Int32)) hx hb dX1_placeAt_37 (by decide) ?_
        exact ro_iret hx hb hr hlocks dX1_placeAt_38 (Option.some.inj h)
end
section
set_option maxHeartbeats 4000000 in
set_option maxRecDepth 100000 in
theorem c_X2_mostBowls_n (l : Launch) (D : va_G) (c5 : Nat → ClassId) (a : KAd) (k : KSt) (hI : KI a) (j1 : Nat) (hj1 : j1 < kN k) (r : Option Nat) (h : R_X2_mostBowls k j1 none = some r) : Met l yX2_mostBowls (ws_ yX2_mostBowls cX2_mostBowls 8 (some (.object "SlabKitchen$Shelf"))) { frames := 1, cells := 0, slots := 0, locals := 21 } (va_Pc [.ref (aO a 0), .ref (aK a j1), .null] (roB D (tyG c5) (KW c5 a k))) (va_Se (aS a) (fun x => x = r)) 0 0 (fun _ => False) := by
  refine Met.ofW (cc := cX2_mostBowls) (maxL := 8) (ret := (some (.object "SlabKitchen$Shelf"))) (by decide) rfl ?_
  intro p e s m args below meth c s₁ B hml hv
  obtain ⟨rfl, hP, hK⟩ := hv
  have hx := B.exec
  have hb := B.bytes
  have hr := B.returns
  have hts : ∀ w ∈ LA, w.before _ s = true := fun w hw => atoms_spec (ws := ws_ yX2_mostBowls cX2_mostBowls 8 (some (.object "SlabKitchen$Shelf"))) B.pre w (List.mem_cons_of_mem _ hw)
  have hown : s.vm.findClass RX2 = some m.cls := findClass_of_methodNamed B.named
  have hlocks := B.notSynchronized
  have hl := lv_entry ([.ref (aO a 0), .ref (aK a j1), .null] : List Value) (n := 8) (Nat.le_of_ble_eq_true rfl)
  rw [lg_entry_eq]
  generalize (lg_sl ([.ref (aO a 0), .ref (aK a j1), .null] : List Value) ++ List.replicate (8 - (lg_sl ([.ref (aO a 0), .ref (aK a j1), .null] : List Value)).length) Slot.unset).toArray = ls at hl ⊢
  have hl : lv_has ls 8 [(0, .ref (aO a 0)), (1, .ref (aK a j1)), (2, .null)] := hl
  unfold R_X2_mostBowls at h
  refine lv_null hx hb dX2_mostBowls_0 ?_
  refine lv_astore_nN (i := 3) (lv' := [(3, .null), (0, .ref (aO a 0)), (1, .ref (aK a j1)), (2, .null)]) hx hb dX2_mostBowls_1 rfl hl (by decide) rfl (fun ls hl => ?_)
  refine lv_aload_n hx hb dX2_mostBowls_2 rfl (lv_at hl 1 rfl) ?_
  refine va_get (D := D) (ci := 2) (v := .ref (aO a 1)) (C := RX2) (T := TX2) (N := 7) hx hb hts iX2 hown hK hP 0 (KW_0 c5 a k) rfl 0 (by decide) (hts _ wT1_63) (fun _ h9 => h9) rfl dX2_mostBowls_3 ?_
  refine lv_astore (i := 4) (lv' := [(4, .ref (aO a 1)), (3, .null), (0, .ref (aO a 0)), (1, .ref (aK a j1)), (2, .null)]) hx hb dX2_mostBowls_6 hl (by decide) rfl (fun ls hl => ?_)
  refine lv_aload hx hb dX2_mostBowls_8 (lv_at hl 0 rfl) ?_
  refine va_alen (v := (12 : Int32)) hx hb hK hP 1 0 (KW_1 c5 a k) rfl rfl dX2_mostBowls_10 ?_
  refine lv_istore (i := 5) (lv' := [(5, .int (12 : Int32)), (4, .ref (aO a 1)), (3, .null), (0, .ref (aO a 0)), (1, .ref (aK a j1)), (2, .null)]) hx hb dX2_mostBowls_11 hl (by decide) rfl (fun ls hl => ?_)
  refine lv_iconst (v := (0 : Int32)) hx hb dX2_mostBowls_13 (by decide) ?_
  refine lv_istore (i := 6) (lv' := [(6, .int (0 : Int32)), (5, .int (12 : Int32)), (4, .ref (aO a 1)), (3, .null), (0, .ref (aO a 0)), (1, .ref (aK a j1)), (2, .null)]) hx hb dX2_mostBowls_14 hl (by decide) rfl (fun ls hl => ?_)
  have L16 : ∀ (n : Nat) (x3_16 : Option Nat) (x6_16 : Int32) (ls : Array Slot), lv_has ls 8 [(0, .ref (aO a 0)), (1, .ref (aK a j1)), (2, .null), (3, va_rf (x3_16.map (aS a))), (4, .ref (aO a 1)), (5, .int (12 : Int32)), (6, .int x6_16)] → R_X2_mostBowls_L16 k j1 none n x3_16 x6_16 = some r → W p l e (headSpec (ws_ yX2_mostBowls cX2_mostBowls 8 (some (.object "SlabKitchen$Shelf"))) { frames := 1, cells := 0, slots := 0, locals := 21 }).room s m ([.ref (aO a 0), .ref (aK a j1), .null] : List Value).toArray below meth c s.heap [] 0 0 (MQ below (va_Se (aS a) (fun x => x = r)) ([.ref (aO a 0), .ref (aK a j1), .null] : List Value).toArray s 0 0 (fun _ => False)) (F0 m 16 ls []) := by
    intro n
    induction n with
    | zero =>
      intro x3_16 x6_16 ls hl h
      exact absurd h (by simp [R_X2_mostBowls_L16])
    | succ n ih =>
      intro x3_16 x6_16 ls hl h
      rw [R_X2_mostBowls_L16] at h
      refine lv_iload hx hb dX2_mostBowls_16 (lv_at hl 6 rfl) ?_
      refine lv_iload hx hb dX2_mostBowls_18 (lv_at hl 5 rfl) ?_
      refine lv_icmp_ge (tgt := 79) hx hb dX2_mostBowls_20 (by decide) (fun q => ?_) (fun q => ?_)
      · have h := o_t h q
        refine qv_aload_n hx hb dX2_mostBowls_79 rfl (lv_at hl 3 rfl) ?_
        exact ro_aret (ad := aS a) (v := x3_16) hx hb hr hlocks dX2_mostBowls_80 (Option.some.inj h)
      · have h := o_f h q
        refine lv_aload hx hb dX2_mostBowls_23 (lv_at hl 4 rfl) ?_
        refine lv_iload hx hb dX2_mostBowls_25 (lv_at hl 6 rfl) ?_
        obtain ⟨g27, h⟩ := o_if h
        refine va_aldS hx hb hK hP g27 dX2_mostBowls_27 ?_
        refine lv_astore (i := 7) (lv' := [(7, .ref (aS a (x6_16.toNatClampNeg))), (0, .ref (aO a 0)), (1, .ref (aK a j1)), (2, .null), (3, va_rf (x3_16.map (aS a))), (4, .ref (aO a 1)), (5, .int (12 : Int32)), (6, .int x6_16)]) hx hb dX2_mostBowls_28 hl (by decide) rfl (fun ls hl => ?_)
        refine lv_aload hx hb dX2_mostBowls_30 (lv_at hl 0 rfl) ?_
        refine lv_aload_nN hx hb dX2_mostBowls_32 rfl (lv_at hl 3 rfl) ?_
        refine lv_acmp_eq (rx := some (aS a (x6_16.toNatClampNeg))) (ry := none) (tgt := 73) hx hb dX2_mostBowls_33 (by decide) (fun q => ?_) (fun q => ?_)
        · exact absurd q (by simp)
        · have h := o_f h (by simp)
          refine lv_aload hx hb dX2_mostBowls_36 (lv_at hl 0 rfl) ?_
          refine lv_aload_n hx hb dX2_mostBowls_38 rfl (lv_at hl 2 rfl) ?_
          obtain ⟨v39, e39, h⟩ := o_bind h
          refine ro_calli (ro_runV (As := [.ref (aK a j1)]) (rest := []) ⟨hx, hb, hml, hown, hts⟩ hP hK (c_X1_isOf l D c5 a k hI (x6_16.toNatClampNeg) (inb_lt g27) j1 hj1 v39 e39) gG_RX2_235 (va_recv hK hP (ci := 1) (q0 := (3 + (x6_16.toNatClampNeg))) rfl (KW_S c5 a k (inb_lt g27))) hd_X1_isOf ⟨Nat.le_of_ble_eq_true rfl, Nat.le_of_ble_eq_true rfl⟩ ⟨rfl, rfl⟩ hl.1 (Nat.le_of_ble_eq_true rfl) dX2_mostBowls_39 ⟨Nat.zero_le _, Nat.zero_le _⟩ rfl) ?_
          refine lv_if_eq (tgt := 73) hx hb dX2_mostBowls_42 (by decide) (fun q => ?_) (fun q => ?_)
          · have h := o_t h q
            refine lv_iinc (v := (x6_16 + (1 : Int32))) (lv' := [(6, .int (x6_16 + (1 : Int32))), (7, .ref (aS a (x6_16.toNatClampNeg))), (0, .ref (aO a 0)), (1, .ref (aK a j1)), (2, .null), (3, va_rf (x3_16.map (aS a))), (4, .ref (aO a 1)), (5, .int (12 : Int32))]) hx hb dX2_mostBowls_73 hl (k := 7) rfl rfl (by decide) rfl (fun ls hl => ?_)
            refine lv_goto (tgt := 16) hx hb dX2_mostBowls_76 (by decide) ?_
            exact ih x3_16 (x6_16 + (1 : Int32))  ls (lv_sub hl [2, 3, 4, 5, 6, 7, 0] rfl) h
          · have h := o_f h q
            refine lv_aload hx hb dX2_mostBowls_45 (lv_at hl 0 rfl) ?_
            obtain ⟨v47, e47, h⟩ := o_bind h
            refine ro_calli (ro_runV (As := []) (rest := []) ⟨hx, hb, hml, hown, hts⟩ hP hK (c_X1_state l D c5 a k hI (x6_16.toNatClampNeg) (inb_lt g27) v47 e47) gG_RX2_70 (va_recv hK hP (ci := 1) (q0 := (3 + (x6_16.toNatClampNeg))) rfl (KW_S c5 a k (inb_lt g27))) hd_X1_state ⟨Nat.le_of_ble_eq_true rfl, Nat.le_of_ble_eq_true rfl⟩ ⟨rfl, rfl⟩ hl.1 (Nat.le_of_ble_eq_true rfl) dX2_mostBowls_47 ⟨Nat.zero_le _, Nat.zero_le _⟩ rfl) ?_
            refine lv_iconst (v := (2 : Int32)) hx hb dX2_mostBowls_50 (by decide) ?_
            refine lv_icmp_ne (tgt := 73) hx hb dX2_mostBowls_51 (by decide) (fun q => ?_) (fun q => ?_)
            · have h := o_t' h q
              refine lv_iinc (v := (x6_16 + (1 : Int32))) (lv' := [(6, .int (x6_16 + (1 : Int32))), (7, .ref (aS a (x6_16.toNatClampNeg))), (0, .ref (aO a 0)), (1, .ref (aK a j1)), (2, .null), (3, va_rf (x3_16.map (aS a))), (4, .ref (aO a 1)), (5, .int (12 : Int32))]) hx hb dX2_mostBowls_73 hl (k := 7) rfl rfl (by decide) rfl (fun ls hl => ?_)
              refine lv_goto (tgt := 16) hx hb dX2_mostBowls_76 (by decide) ?_
              exact ih x3_16 (x6_16 + (1 : Int32))  ls (lv_sub hl [2, 3, 4, 5, 6, 7, 0] rfl) h
            · have h := o_f' h q
              refine qv_aload_n hx hb dX2_mostBowls_54 rfl (lv_at hl 4 rfl) ?_
              cases x3_16 with
              | none =>
                have h := oe_n h
                have hl : lv_has ls 8 [(7, .ref (aS a (x6_16.toNatClampNeg))), (0, .ref (aO a 0)), (1, .ref (aK a j1)), (2, .null), (3, .null), (4, .ref (aO a 1)), (5, .int (12 : Int32)), (6, .int x6_16)] := hl
                refine lv_ifnullN (tgt := 70) hx hb dX2_mostBowls_55 (by decide) ?_
                refine lv_aload hx hb dX2_mostBowls_70 (lv_at hl 0 rfl) ?_
                refine lv_astore_n (i := 3) (lv' := [(3, .ref (aS a (x6_16.toNatClampNeg))), (7, .ref (aS a (x6_16.toNatClampNeg))), (0, .ref (aO a 0)), (1, .ref (aK a j1)), (2, .null), (4, .ref (aO a 1)), (5, .int (12 : Int32)), (6, .int x6_16)]) hx hb dX2_mostBowls_72 rfl hl (by decide) rfl (fun ls hl => ?_)
                refine lv_iinc (v := (x6_16 + (1 : Int32))) (lv' := [(6, .int (x6_16 + (1 : Int32))), (3, .ref (aS a (x6_16.toNatClampNeg))), (7, .ref (aS a (x6_16.toNatClampNeg))), (0, .ref (aO a 0)), (1, .ref (aK a j1)), (2, .null), (4, .ref (aO a 1)), (5, .int (12 : Int32))]) hx hb dX2_mostBowls_73 hl (k := 7) rfl rfl (by decide) rfl (fun ls hl => ?_)
                refine lv_goto (tgt := 16) hx hb dX2_mostBowls_76 (by decide) ?_
                exact ih (some (x6_16.toNatClampNeg)) (x6_16 + (1 : Int32))  ls (lv_sub hl [3, 4, 5, 1, 6, 7, 0] rfl) h
              | some j55 =>
                obtain ⟨hj55, h⟩ := oe_sif h
                have hl : lv_has ls 8 [(7, .ref (aS a (x6_16.toNatClampNeg))), (0, .ref (aO a 0)), (1, .ref (aK a j1)), (2, .null), (3, .ref (aS a j55)), (4, .ref (aO a 1)), (5, .int (12 : Int32)), (6, .int x6_16)] := hl
                refine lv_ifnull hx hb dX2_mostBowls_55 ?_
                refine lv_aload hx hb dX2_mostBowls_58 (lv_at hl 0 rfl) ?_
                refine va_get (D := D) (ci := 1) (v := .int (kS k 6 (x6_16.toNatClampNeg))) (C := RX1) (T := TX1) (N := 8) hx hb hts iX1 hown hK hP (3 + (x6_16.toNatClampNeg)) (KW_S c5 a k (inb_lt g27)) rfl 6 (by decide) (hts _ wT1_42) (fun _ h9 => h9) rfl dX2_mostBowls_60 ?_
                refine lv_aload_n hx hb dX2_mostBowls_63 rfl (lv_at hl 4 rfl) ?_
                refine va_get (D := D) (ci := 1) (v := .int (kS k 6 j55)) (C := RX1) (T := TX1) (N := 8) hx hb hts iX1 hown hK hP (3 + j55) (KW_S c5 a k hj55) rfl 6 (by decide) (hts _ wT1_42) (fun _ h9 => h9) rfl dX2_mostBowls_64 ?_
                refine lv_icmp_le (tgt := 73) hx hb dX2_mostBowls_67 (by decide) (fun q => ?_) (fun q => ?_)
                · have h := o_t h q
                  refine lv_iinc (v := (x6_16 + (1 : Int32))) (lv' := [(6, .int (x6_16 + (1 : Int32))), (7, .ref (aS a (x6_16.toNatClampNeg))), (0, .ref (aO a 0)), (1, .ref (aK a j1)), (2, .null), (3, .ref (aS a j55)), (4, .ref (aO a 1)), (5, .int (12 : Int32))]) hx hb dX2_mostBowls_73 hl (k := 7) rfl rfl (by decide) rfl (fun ls hl => ?_)
                  refine lv_goto (tgt := 16) hx hb dX2_mostBowls_76 (by decide) ?_
                  exact ih (some j55) (x6_16 + (1 : Int32))  ls (lv_sub hl [2, 3, 4, 5, 6, 7, 0] rfl) h
                · have h := o_f h q
                  refine lv_aload hx hb dX2_mostBowls_70 (lv_at hl 0 rfl) ?_
                  refine lv_astore_n (i := 3) (lv' := [(3, .ref (aS a (x6_16.toNatClampNeg))), (7, .ref (aS a (x6_16.toNatClampNeg))), (0, .ref (aO a 0)), (1, .ref (aK a j1)), (2, .null), (4, .ref (aO a 1)), (5, .int (12 : Int32)), (6, .int x6_16)]) hx hb dX2_mostBowls_72 rfl hl (by decide) rfl (fun ls hl => ?_)
                  refine lv_iinc (v := (x6_16 + (1 : Int32))) (lv' := [(6, .int (x6_16 + (1 : Int32))), (3, .ref (aS a (x6_16.toNatClampNeg))), (7, .ref (aS a (x6_16.toNatClampNeg))), (0, .ref (aO a 0)), (1, .ref (aK a j1)), (2, .null), (4, .ref (aO a 1)), (5, .int (12 : Int32))]) hx hb dX2_mostBowls_73 hl (k := 7) rfl rfl (by decide) rfl (fun ls hl => ?_)
                  refine lv_goto (tgt := 16) hx hb dX2_mostBowls_76 (by decide) ?_
                  exact ih (some (x6_16.toNatClampNeg)) (x6_16 + (1 : Int32))  ls (lv_sub hl [3, 4, 5, 1, 6, 7, 0] rfl) h
  exact L16 FU none (0 : Int32)  ls (lv_sub hl [4, 5, 6, 3, 2, 1, 0] rfl) h

set_option maxHeartbeats 4000000 in
set_option maxRecDepth 100000 in
theorem c_X2_mostBowls_s (l : Launch) (D : va_G) (c5 : Nat → ClassId) (a : KAd) (k : KSt) (hI : KI a) (j1 : Nat) (hj1 : j1 < kN k) (bj : Nat) (hbj : bj < 12) (r : Option Nat) (h : R_X2_mostBowls k j1 (some bj) = some r) : Met l yX2_mostBowls (ws_ yX2_mostBowls cX2_mostBowls 8 (some (.object "SlabKitchen$Shelf"))) { frames := 1, cells := 0, slots := 0, locals := 21 } (va_Pc [.ref (aO a 0), .ref (aK a j1), .ref (aS a bj)] (roB D (tyG c5) (KW c5 a k))) (va_Se (aS a) (fun x => x = r)) 0 0 (fun _ => False) := by
  refine Met.ofW (cc := cX2_mostBowls) (maxL := 8) (ret := (some (.object "SlabKitchen$Shelf"))) (by decide) rfl ?_
  intro p e s m args below meth c s₁ B hml hv
  obtain ⟨rfl, hP, hK⟩ := hv
  have hx := B.exec
  have hb := B.bytes
  have hr := B.returns
  have hts : ∀ w ∈ LA, w.before _ s = true := fun w hw => atoms_spec (ws := ws_ yX2_mostBowls cX2_mostBowls 8 (some (.object "SlabKitchen$Shelf"))) B.pre w (List.mem_cons_of_mem _ hw)
  have hown : s.vm.findClass RX2 = some m.cls := findClass_of_methodNamed B.named
  have hlocks := B.notSynchronized
  have hl := lv_entry ([.ref (aO a 0), .ref (aK a j1), .ref (aS a bj)] : List Value) (n := 8) (Nat.le_of_ble_eq_true rfl)
  rw [lg_entry_eq]
  generalize (lg_sl ([.ref (aO a 0), .ref (aK a j1), .ref (aS a bj)] : List Value) ++ List.replicate (8 - (lg_sl ([.ref (aO a 0), .ref (aK a j1), .ref (aS a bj)] : List Value)).length) Slot.unset).toArray = ls at hl ⊢
  have hl : lv_has ls 8 [(0, .ref (aO a 0)), (1, .ref (aK a j1)), (2, .ref (aS a bj))] := hl
  unfold R_X2_mostBowls at h
  refine lv_null hx hb dX2_mostBowls_0 ?_
  refine lv_astore_nN (i := 3) (lv' := [(3, .null), (0, .ref (aO a 0)), (1, .ref (aK a j1)), (2, .ref (aS a bj))]) hx hb dX2_mostBowls_1 rfl hl (by decide) rfl (fun ls hl => ?_)
  refine lv_aload_n hx hb dX2_mostBowls_2 rfl (lv_at hl 1 rfl) ?_
  refine va_get (D := D) (ci := 2) (v := .ref (aO a 1)) (C := RX2) (T := TX2) (N := 7) hx hb hts iX2 hown hK hP 0 (KW_0 c5 a k) rfl 0 (by decide) (hts _ wT1_63) (fun _ h9 => h9) rfl dX2_mostBowls_3 ?_
  refine lv_astore (i := 4) (lv' := [(4, .ref (aO a 1)), (3, .null), (0, .ref (aO a 0)), (1, .ref (aK a j1)), (2, .ref (aS a bj))]) hx hb dX2_mostBowls_6 hl (by decide) rfl (fun ls hl => ?_)
  refine lv_aload hx hb dX2_mostBowls_8 (lv_at hl 0 rfl) ?_
  refine va_alen (v := (12 : Int32)) hx hb hK hP 1 0 (KW_1 c5 a k) rfl rfl dX2_mostBowls_10 ?_
  refine lv_istore (i := 5) (lv' := [(5, .int (12 : Int32)), (4, .ref (aO a 1)), (3, .null), (0, .ref (aO a 0)), (1, .ref (aK a j1)), (2, .ref (aS a bj))]) hx hb dX2_mostBowls_11 hl (by decide) rfl (fun ls hl => ?_)
  refine lv_iconst (v := (0 : Int32)) hx hb dX2_mostBowls_13 (by decide) ?_
  refine lv_istore (i := 6) (lv' := [(6, .int (0 : Int32)), (5, .int (12 : Int32)), (4, .ref (aO a 1)), (3, .null), (0, .ref (aO a 0)), (1, .ref (aK a j1)), (2, .ref (aS a bj))]) hx hb dX2_mostBowls_14 hl (by decide) rfl (fun ls hl => ?_)
  have L16 : ∀ (n : Nat) (x3_16 : Option Nat) (x6_16 : Int32) (ls : Array Slot), lv_has ls 8 [(0, .ref (aO a 0)), (1, .ref (aK a j1)), (2, .ref (aS a bj)), (3, va_rf (x3_16.map (aS a))), (4, .ref (aO a 1)), (5, .int (12 : Int32)), (6, .int x6_16)] → R_X2_mostBowls_L16 k j1 (some bj) n x3_16 x6_16 = some r → W p l e (headSpec (ws_ yX2_mostBowls cX2_mostBowls 8 (some (.object "SlabKitchen$Shelf"))) { frames := 1, cells := 0, slots := 0, locals := 21 }).room s m ([.ref (aO a 0), .ref (aK a j1), .ref (aS a bj)] : List Value).toArray below meth c s.heap [] 0 0 (MQ below (va_Se (aS a) (fun x => x = r)) ([.ref (aO a 0), .ref (aK a j1), .ref (aS a bj)] : List Value).toArray s 0 0 (fun _ => False)) (F0 m 16 ls []) := by
    intro n
    induction n with
    | zero =>
      intro x3_16 x6_16 ls hl h
      exact absurd h (by simp [R_X2_mostBowls_L16])
    | succ n ih =>
      intro x3_16 x6_16 ls hl h
      rw [R_X2_mostBowls_L16] at h
      refine lv_iload hx hb dX2_mostBowls_16 (lv_at hl 6 rfl) ?_
      refine lv_iload hx hb dX2_mostBowls_18 (lv_at hl 5 rfl) ?_
      refine lv_icmp_ge (tgt := 79) hx hb dX2_mostBowls_20 (by decide) (fun q => ?_) (fun q => ?_)
      · have h := o_t h q
        refine qv_aload_n hx hb dX2_mostBowls_79 rfl (lv_at hl 3 rfl) ?_
        exact ro_aret (ad := aS a) (v := x3_16) hx hb hr hlocks dX2_mostBowls_80 (Option.some.inj h)
      · have h := o_f h q
        refine lv_aload hx hb dX2_mostBowls_23 (lv_at hl 4 rfl) ?_
        refine lv_iload hx hb dX2_mostBowls_25 (lv_at hl 6 rfl) ?_
        obtain ⟨g27, h⟩ := o_if h
        refine va_aldS hx hb hK hP g27 dX2_mostBowls_27 ?_
        refine lv_astore (i := 7) (lv' := [(7, .ref (aS a (x6_16.toNatClampNeg))), (0, .ref (aO a 0)), (1, .ref (aK a j1)), (2, .ref (aS a bj)), (3, va_rf (x3_16.map (aS a))), (4, .ref (aO a 1)), (5, .int (12 : Int32)), (6, .int x6_16)]) hx hb dX2_mostBowls_28 hl (by decide) rfl (fun ls hl => ?_)
        refine lv_aload hx hb dX2_mostBowls_30 (lv_at hl 0 rfl) ?_
        refine lv_aload_n hx hb dX2_mostBowls_32 rfl (lv_at hl 3 rfl) ?_
        refine lv_acmp_eq (rx := some (aS a (x6_16.toNatClampNeg))) (ry := some (aS a bj)) (tgt := 73) hx hb dX2_mostBowls_33 (by decide) (fun q => ?_) (fun q => ?_)
        · have h := o_t h (congrArg some (hI _ _ (inb_lt g27) hbj (Option.some.inj q)))
          refine lv_iinc (v := (x6_16 + (1 : Int32))) (lv' := [(6, .int (x6_16 + (1 : Int32))), (7, .ref (aS a (x6_16.toNatClampNeg))), (0, .ref (aO a 0)), (1, .ref (aK a j1)), (2, .ref (aS a bj)), (3, va_rf (x3_16.map (aS a))), (4, .ref (aO a 1)), (5, .int (12 : Int32))]) hx hb dX2_mostBowls_73 hl (k := 7) rfl rfl (by decide) rfl (fun ls hl => ?_)
          refine lv_goto (tgt := 16) hx hb dX2_mostBowls_76 (by decide) ?_
          exact ih x3_16 (x6_16 + (1 : Int32))  ls (lv_sub hl [2, 3, 4, 5, 6, 7, 0] rfl) h
        · have h := o_f h (fun z => q (by cases z; rfl))
          refine lv_aload hx hb dX2_mostBowls_36 (lv_at hl 0 rfl) ?_
          refine lv_aload_n hx hb dX2_mostBowls_38 rfl (lv_at hl 2 rfl) ?_
          obtain ⟨v39, e39, h⟩ := o_bind h
          refine ro_calli (ro_runV (As := [.ref (aK a j1)]) (rest := []) ⟨hx, hb, hml, hown, hts⟩ hP hK (c_X1_isOf l D c5 a k hI (x6_16.toNatClampNeg) (inb_lt g27) j1 hj1 v39 e39) gG_RX2_235 (va_recv hK hP (ci := 1) (q0 := (3 + (x6_16.toNatClampNeg))) rfl (KW_S c5 a k (inb_lt g27))) hd_X1_isOf ⟨Nat.le_of_ble_eq_true rfl, Nat.le_of_ble_eq_true rfl⟩ ⟨rfl, rfl⟩ hl.1 (Nat.le_of_ble_eq_true rfl) dX2_mostBowls_39 ⟨Nat.zero_le _, Nat.zero_le _⟩ rfl) ?_
          refine lv_if_eq (tgt := 73) hx hb dX2_mostBowls_42 (by decide) (fun q => ?_) (fun q => ?_)
          · have h := o_t h q
            refine lv_iinc (v := (x6_16 + (1 : Int32))) (lv' := [(6, .int (x6_16 + (1 : Int32))), (7, .ref (aS a (x6_16.toNatClampNeg))), (0, .ref (aO a 0)), (1, .ref (aK a j1)), (2, .ref (aS a bj)), (3, va_rf (x3_16.map (aS a))), (4, .ref (aO a 1)), (5, .int (12 : Int32))]) hx hb dX2_mostBowls_73 hl (k := 7) rfl rfl (by decide) rfl (fun ls hl => ?_)
            refine lv_goto (tgt := 16) hx hb dX2_mostBowls_76 (by decide) ?_
            exact ih x3_16 (x6_16 + (1 : Int32))  ls (lv_sub hl [2, 3, 4, 5, 6, 7, 0] rfl) h
          · have h := o_f h q
            refine lv_aload hx hb dX2_mostBowls_45 (lv_at hl 0 rfl) ?_
            obtain ⟨v47, e47, h⟩ := o_bind h
            refine ro_calli (ro_runV (As := []) (rest := []) ⟨hx, hb, hml, hown, hts⟩ hP hK (c_X1_state l D c5 a k hI (x6_16.toNatClampNeg) (inb_lt g27) v47 e47) gG_RX2_70 (va_recv hK hP (ci := 1) (q0 := (3 + (x6_16.toNatClampNeg))) rfl (KW_S c5 a k (inb_lt g27))) hd_X1_state ⟨Nat.le_of_ble_eq_true rfl, Nat.le_of_ble_eq_true rfl⟩ ⟨rfl, rfl⟩ hl.1 (Nat.le_of_ble_eq_true rfl) dX2_mostBowls_47 ⟨Nat.zero_le _, Nat.zero_le _⟩ rfl) ?_
            refine lv_iconst (v := (2 : Int32)) hx hb dX2_mostBowls_50 (by decide) ?_
            refine lv_icmp_ne (tgt := 73) hx hb dX2_mostBowls_51 (by decide) (fun q => ?_) (fun q => ?_)
            · have h := o_t' h q
              refine lv_iinc (v := (x6_16 + (1 : Int32))) (lv' := [(6, .int (x6_16 + (1 : Int32))), (7, .ref (aS a (x6_16.toNatClampNeg))), (0, .ref (aO a 0)), (1, .ref (aK a j1)), (2, .ref (aS a bj)), (3, va_rf (x3_16.map (aS a))), (4, .ref (aO a 1)), (5, .int (12 : Int32))]) hx hb dX2_mostBowls_73 hl (k := 7) rfl rfl (by decide) rfl (fun ls hl => ?_)
              refine lv_goto (tgt := 16) hx hb dX2_mostBowls_76 (by decide) ?_
              exact ih x3_16 (x6_16 + (1 : Int32))  ls (lv_sub hl [2, 3, 4, 5, 6, 7, 0] rfl) h
            · have h := o_f' h q
              refine qv_aload_n hx hb dX2_mostBowls_54 rfl (lv_at hl 4 rfl) ?_
              cases x3_16 with
              | none =>
                have h := oe_n h
                have hl : lv_has ls 8 [(7, .ref (aS a (x6_16.toNatClampNeg))), (0, .ref (aO a 0)), (1, .ref (aK a j1)), (2, .ref (aS a bj)), (3, .null), (4, .ref (aO a 1)), (5, .int (12 : Int32)), (6, .int x6_16)] := hl
                refine lv_ifnullN (tgt := 70) hx hb dX2_mostBowls_55 (by decide) ?_
                refine lv_aload hx hb dX2_mostBowls_70 (lv_at hl 0 rfl) ?_
                refine lv_astore_n (i := 3) (lv' := [(3, .ref (aS a (x6_16.toNatClampNeg))), (7, .ref (aS a (x6_16.toNatClampNeg))), (0, .ref (aO a 0)), (1, .ref (aK a j1)), (2, .ref (aS a bj)), (4, .ref (aO a 1)), (5, .int (12 : Int32)), (6, .int x6_16)]) hx hb dX2_mostBowls_72 rfl hl (by decide) rfl (fun ls hl => ?_)
                refine lv_iinc (v := (x6_16 + (1 : Int32))) (lv' := [(6, .int (x6_16 + (1 : Int32))), (3, .ref (aS a (x6_16.toNatClampNeg))), (7, .ref (aS a (x6_16.toNatClampNeg))), (0, .ref (aO a 0)), (1, .ref (aK a j1)), (2, .ref (aS a bj)), (4, .ref (aO a 1)), (5, .int (12 : Int32))]) hx hb dX2_mostBowls_73 hl (k := 7) rfl rfl (by decide) rfl (fun ls hl => ?_)
                refine lv_goto (tgt := 16) hx hb dX2_mostBowls_76 (by decide) ?_
                exact ih (some (x6_16.toNatClampNeg)) (x6_16 + (1 : Int32))  ls (lv_sub hl [3, 4, 5, 1, 6, 7, 0] rfl) h
              | some j55 =>
                obtain ⟨hj55, h⟩ := oe_sif h
                have hl : lv_has ls 8 [(7, .ref (aS a (x6_16.toNatClampNeg))), (0, .ref (aO a 0)), (1, .ref (aK a j1)), (2, .ref (aS a bj)), (3, .ref (aS a j55)), (4, .ref (aO a 1)), (5, .int (12 : Int32)), (6, .int x6_16)] := hl
                refine lv_ifnull hx hb dX2_mostBowls_55 ?_
                refine lv_aload hx hb dX2_mostBowls_58 (lv_at hl 0 rfl) ?_
                refine va_get (D := D) (ci := 1) (v := .int (kS k 6 (x6_16.toNatClampNeg))) (C := RX1) (T := TX1) (N := 8) hx hb hts iX1 hown hK hP (3 + (x6_16.toNatClampNeg)) (KW_S c5 a k (inb_lt g27)) rfl 6 (by decide) (hts _ wT1_42) (fun _ h9 => h9) rfl dX2_mostBowls_60 ?_
                refine lv_aload_n hx hb dX2_mostBowls_63 rfl (lv_at hl 4 rfl) ?_
                refine va_get (D := D) (ci := 1) (v := .int (kS k 6 j55)) (C := RX1) (T := TX1) (N := 8) hx hb hts iX1 hown hK hP (3 + j55) (KW_S c5 a k hj55) rfl 6 (by decide) (hts _ wT1_42) (fun _ h9 => h9) rfl dX2_mostBowls_64 ?_
                refine lv_icmp_le (tgt := 73) hx hb dX2_mostBowls_67 (by decide) (fun q => ?_) (fun q => ?_)
                · have h := o_t h q
                  refine lv_iinc (v := (x6_16 + (1 : Int32))) (lv' := [(6, .int (x6_16 + (1 : Int32))), (7, .ref (aS a (x6_16.toNatClampNeg))), (0, .ref (aO a 0)), (1, .ref (aK a j1)), (2, .ref (aS a bj)), (3, .ref (aS a j55)), (4, .ref (aO a 1)), (5, .int (12 : Int32))]) hx hb dX2_mostBowls_73 hl (k := 7) rfl rfl (by decide) rfl (fun ls hl => ?_)
                  refine lv_goto (tgt := 16) hx hb dX2_mostBowls_76 (by decide) ?_
                  exact ih (some j55) (x6_16 + (1 : Int32))  ls (lv_sub hl [2, 3, 4, 5, 6, 7, 0] rfl) h
                · have h := o_f h q
                  refine lv_aload hx hb dX2_mostBowls_70 (lv_at hl 0 rfl) ?_
                  refine lv_astore_n (i := 3) (lv' := [(3, .ref (aS a (x6_16.toNatClampNeg))), (7, .ref (aS a (x6_16.toNatClampNeg))), (0, .ref (aO a 0)), (1, .ref (aK a j1)), (2, .ref (aS a bj)), (4, .ref (aO a 1)), (5, .int (12 : Int32)), (6, .int x6_16)]) hx hb dX2_mostBowls_72 rfl hl (by decide) rfl (fun ls hl => ?_)
                  refine lv_iinc (v := (x6_16 + (1 : Int32))) (lv' := [(6, .int (x6_16 + (1 : Int32))), (3, .ref (aS a (x6_16.toNatClampNeg))), (7, .ref (aS a (x6_16.toNatClampNeg))), (0, .ref (aO a 0)), (1, .ref (aK a j1)), (2, .ref (aS a bj)), (4, .ref (aO a 1)), (5, .int (12 : Int32))]) hx hb dX2_mostBowls_73 hl (k := 7) rfl rfl (by decide) rfl (fun ls hl => ?_)
                  refine lv_goto (tgt := 16) hx hb dX2_mostBowls_76 (by decide) ?_
                  exact ih (some (x6_16.toNatClampNeg)) (x6_16 + (1 : Int32))  ls (lv_sub hl [3, 4, 5, 1, 6, 7, 0] rfl) h
  exact L16 FU none (0 : Int32)  ls (lv_sub hl [4, 5, 6, 3, 2, 1, 0] rfl) h

theorem c_X2_mostBowls (l : Launch) (D : va_G) (c5 : Nat → ClassId) (a : KAd) (k : KSt) (hI : KI a) (j1 : Nat) (hj1 : j1 < kN k) (o2 : Option Nat) (ho2 : obn o2 12 = true) (r : Option Nat) (h : R_X2_mostBowls k j1 o2 = some r) : Met l yX2_mostBowls (ws_ yX2_mostBowls cX2_mostBowls 8 (some (.object "SlabKitchen$Shelf"))) { frames := 1, cells := 0, slots := 0, locals := 21 } (va_Pc [.ref (aO a 0), .ref (aK a j1), va_rf (o2.map (aS a))] (roB D (tyG c5) (KW c5 a k))) (va_Se (aS a) (fun x => x = r)) 0 0 (fun _ => False) := by
  cases o2 with
  | none => exact c_X2_mostBowls_n l D c5 a k hI j1 hj1 r h
  | some bj => exact c_X2_mostBowls_s l D c5 a k hI j1 hj1 bj (obn_some ho2 rfl) r h
set_option maxHeartbeats 4000000 in
set_option maxRecDepth 100000 in
theorem c_X2_fewestBowls (l : Launch) (D : va_G) (c5 : Nat → ClassId) (a : KAd) (k : KSt) (hI : KI a) (j1 : Nat) (hj1 : j1 < kN k) (r : Option Nat) (h : R_X2_fewestBowls k j1 = some r) : Met l yX2_fewestBowls (ws_ yX2_fewestBowls cX2_fewestBowls 7 (some (.object "SlabKitchen$Shelf"))) { frames := 1, cells := 0, slots := 0, locals := 21 } (va_Pc [.ref (aO a 0), .ref (aK a j1)] (roB D (tyG c5) (KW c5 a k))) (va_Se (aS a) (fun x => x = r)) 0 0 (fun _ => False) := by
  refine Met.ofW (cc := cX2_fewestBowls) (maxL := 7) (ret := (some (.object "SlabKitchen$Shelf"))) (by decide) rfl ?_
  intro p e s m args below meth c s₁ B hml hv
  obtain ⟨rfl, hP, hK⟩ := hv
  have hx := B.exec
  have hb := B.bytes
  have hr := B.returns
  have hts : ∀ w ∈ LA, w.before _ s = true := fun w hw => atoms_spec (ws := ws_ yX2_fewestBowls cX2_fewestBowls 7 (some (.object "SlabKitchen$Shelf"))) B.pre w (List.mem_cons_of_mem _ hw)
  have hown : s.vm.findClass RX2 = some m.cls := findClass_of_methodNamed B.named
  have hlocks := B.notSynchronized
  have hl := lv_entry ([.ref (aO a 0), .ref (aK a j1)] : List Value) (n := 7) (Nat.le_of_ble_eq_true rfl)
  rw [lg_entry_eq]
  generalize (lg_sl ([.ref (aO a 0), .ref (aK a j1)] : List Value) ++ List.replicate (7 - (lg_sl ([.ref (aO a 0), .ref (aK a j1)] : List Value)).length) Slot.unset).toArray = ls at hl ⊢
  have hl : lv_has ls 7 [(0, .ref (aO a 0)), (1, .ref (aK a j1))] := hl
  unfold R_X2_fewestBowls at h
  refine lv_null hx hb dX2_fewestBowls_0 ?_
  refine lv_astore_nN (i := 2) (lv' := [(2, .null), (0, .ref (aO a 0)), (1, .ref (aK a j1))]) hx hb dX2_fewestBowls_1 rfl hl (by decide) rfl (fun ls hl => ?_)
  refine lv_aload_n hx hb dX2_fewestBowls_2 rfl (lv_at hl 1 rfl) ?_
  refine va_get (D := D) (ci := 2) (v := .ref (aO a 1)) (C := RX2) (T := TX2) (N := 7) hx hb hts iX2 hown hK hP 0 (KW_0 c5 a k) rfl 0 (by decide) (hts _ wT1_63) (fun _ h9 => h9) rfl dX2_fewestBowls_3 ?_
  refine lv_astore_n (i := 3) (lv' := [(3, .ref (aO a 1)), (2, .null), (0, .ref (aO a 0)), (1, .ref (aK a j1))]) hx hb dX2_fewestBowls_6 rfl hl (by decide) rfl (fun ls hl => ?_)
  refine lv_aload_n hx hb dX2_fewestBowls_7 rfl (lv_at hl 0 rfl) ?_
  refine va_alen (v := (12 : Int32)) hx hb hK hP 1 0 (KW_1 c5 a k) rfl rfl dX2_fewestBowls_8 ?_
  refine lv_istore (i := 4) (lv' := [(4, .int (12 : Int32)), (3, .ref (aO a 1)), (2, .null), (0, .ref (aO a 0)), (1, .ref (aK a j1))]) hx hb dX2_fewestBowls_9 hl (by decide) rfl (fun ls hl => ?_)
  refine lv_iconst (v := (0 : Int32)) hx hb dX2_fewestBowls_11 (by decide) ?_
  refine lv_istore (i := 5) (lv' := [(5, .int (0 : Int32)), (4, .int (12 : Int32)), (3, .ref (aO a 1)), (2, .null), (0, .ref (aO a 0)), (1, .ref (aK a j1))]) hx hb dX2_fewestBowls_12 hl (by decide) rfl (fun ls hl => ?_)
  have L14 : ∀ (n : Nat) (x2_14 : Option Nat) (x5_14 : Int32) (ls : Array Slot), lv_has ls 7 [(0, .ref (aO a 0)), (1, .ref (aK a j1)), (2, va_rf (x2_14.map (aS a))), (3, .ref (aO a 1)), (4, .int (12 : Int32)), (5, .int x5_14)] → R_X2_fewestBowls_L14 k j1 n x2_14 x5_14 = some r → W p l e (headSpec (ws_ yX2_fewestBowls cX2_fewestBowls 7 (some (.object "SlabKitchen$Shelf"))) { frames := 1, cells := 0, slots := 0, locals := 21 }).room s m ([.ref (aO a 0), .ref (aK a j1)] : List Value).toArray below meth c s.heap [] 0 0 (MQ below (va_Se (aS a) (fun x => x = r)) ([.ref (aO a 0), .ref (aK a j1)] : List Value).toArray s 0 0 (fun _ => False)) (F0 m 14 ls []) := by
    intro n
    induction n with
    | zero =>
      intro x2_14 x5_14 ls hl h
      exact absurd h (by simp [R_X2_fewestBowls_L14])
    | succ n ih =>
      intro x2_14 x5_14 ls hl h
      rw [R_X2_fewestBowls_L14] at h
      refine lv_iload hx hb dX2_fewestBowls_14 (lv_at hl 5 rfl) ?_
      refine lv_iload hx hb dX2_fewestBowls_16 (lv_at hl 4 rfl) ?_
      refine lv_icmp_ge (tgt := 70) hx hb dX2_fewestBowls_18 (by decide) (fun q => ?_) (fun q => ?_)
      · have h := o_t h q
        refine qv_aload_n hx hb dX2_fewestBowls_70 rfl (lv_at hl 2 rfl) ?_
        exact ro_aret (ad := aS a) (v := x2_14) hx hb hr hlocks dX2_fewestBowls_71 (Option.some.inj h)
      · have h := o_f h q
        refine lv_aload_n hx hb dX2_fewestBowls_21 rfl (lv_at hl 3 rfl) ?_
        refine lv_iload hx hb dX2_fewestBowls_22 (lv_at hl 5 rfl) ?_
        obtain ⟨g24, h⟩ := o_if h
        refine va_aldS hx hb hK hP g24 dX2_fewestBowls_24 ?_
        refine lv_astore (i := 6) (lv' := [(6, .ref (aS a (x5_14.toNatClampNeg))), (0, .ref (aO a 0)), (1, .ref (aK a j1)), (2, va_rf (x2_14.map (aS a))), (3, .ref (aO a 1)), (4, .int (12 : Int32)), (5, .int x5_14)]) hx hb dX2_fewestBowls_25 hl (by decide) rfl (fun ls hl => ?_)
        refine lv_aload hx hb dX2_fewestBowls_27 (lv_at hl 0 rfl) ?_
        refine lv_aload_n hx hb dX2_fewestBowls_29 rfl (lv_at hl 2 rfl) ?_
        obtain ⟨v30, e30, h⟩ := o_bind h
        refine ro_calli (ro_runV (As := [.ref (aK a j1)]) (rest := []) ⟨hx, hb, hml, hown, hts⟩ hP hK (c_X1_isOf l D c5 a k hI (x5_14.toNatClampNeg) (inb_lt g24) j1 hj1 v30 e30) gG_RX2_235 (va_recv hK hP (ci := 1) (q0 := (3 + (x5_14.toNatClampNeg))) rfl (KW_S c5 a k (inb_lt g24))) hd_X1_isOf ⟨Nat.le_of_ble_eq_true rfl, Nat.le_of_ble_eq_true rfl⟩ ⟨rfl, rfl⟩ hl.1 (Nat.le_of_ble_eq_true rfl) dX2_fewestBowls_30 ⟨Nat.zero_le _, Nat.zero_le _⟩ rfl) ?_
        refine lv_if_eq (tgt := 64) hx hb dX2_fewestBowls_33 (by decide) (fun q => ?_) (fun q => ?_)
        · have h := o_t h q
          refine lv_iinc (v := (x5_14 + (1 : Int32))) (lv' := [(5, .int (x5_14 + (1 : Int32))), (6, .ref (aS a (x5_14.toNatClampNeg))), (0, .ref (aO a 0)), (1, .ref (aK a j1)), (2, va_rf (x2_14.map (aS a))), (3, .ref (aO a 1)), (4, .int (12 : Int32))]) hx hb dX2_fewestBowls_64 hl (k := 6) rfl rfl (by decide) rfl (fun ls hl => ?_)
          refine lv_goto (tgt := 14) hx hb dX2_fewestBowls_67 (by decide) ?_
          exact ih x2_14 (x5_14 + (1 : Int32))  ls (lv_sub hl [2, 3, 4, 5, 6, 0] rfl) h
        · have h := o_f h q
          refine lv_aload hx hb dX2_fewestBowls_36 (lv_at hl 0 rfl) ?_
          obtain ⟨v38, e38, h⟩ := o_bind h
          refine ro_calli (ro_runV (As := []) (rest := []) ⟨hx, hb, hml, hown, hts⟩ hP hK (c_X1_state l D c5 a k hI (x5_14.toNatClampNeg) (inb_lt g24) v38 e38) gG_RX2_70 (va_recv hK hP (ci := 1) (q0 := (3 + (x5_14.toNatClampNeg))) rfl (KW_S c5 a k (inb_lt g24))) hd_X1_state ⟨Nat.le_of_ble_eq_true rfl, Nat.le_of_ble_eq_true rfl⟩ ⟨rfl, rfl⟩ hl.1 (Nat.le_of_ble_eq_true rfl) dX2_fewestBowls_38 ⟨Nat.zero_le _, Nat.zero_le _⟩ rfl) ?_
          refine lv_iconst (v := (2 : Int32)) hx hb dX2_fewestBowls_41 (by decide) ?_
          refine lv_icmp_ne (tgt := 64) hx hb dX2_fewestBowls_42 (by decide) (fun q => ?_) (fun q => ?_)
          · have h := o_t' h q
            refine lv_iinc (v := (x5_14 + (1 : Int32))) (lv' := [(5, .int (x5_14 + (1 : Int32))), (6, .ref (aS a (x5_14.toNatClampNeg))), (0, .ref (aO a 0)), (1, .ref (aK a j1)), (2, va_rf (x2_14.map (aS a))), (3, .ref (aO a 1)), (4, .int (12 : Int32))]) hx hb dX2_fewestBowls_64 hl (k := 6) rfl rfl (by decide) rfl (fun ls hl => ?_)
            refine lv_goto (tgt := 14) hx hb dX2_fewestBowls_67 (by decide) ?_
            exact ih x2_14 (x5_14 + (1 : Int32))  ls (lv_sub hl [2, 3, 4, 5, 6, 0] rfl) h
          · have h := o_f' h q
            refine qv_aload_n hx hb dX2_fewestBowls_45 rfl (lv_at hl 3 rfl) ?_
            cases x2_14 with
            | none =>
              have h := oe_n h
              have hl : lv_has ls 7 [(6, .ref (aS a (x5_14.toNatClampNeg))), (0, .ref (aO a 0)), (1, .ref (aK a j1)), (2, .null), (3, .ref (aO a 1)), (4, .int (12 : Int32)), (5, .int x5_14)] := hl
              refine lv_ifnullN (tgt := 61) hx hb dX2_fewestBowls_46 (by decide) ?_
              refine lv_aload hx hb dX2_fewestBowls_61 (lv_at hl 0 rfl) ?_
              refine lv_astore_n (i := 2) (lv' := [(2, .ref (aS a (x5_14.toNatClampNeg))), (6, .ref (aS a (x5_14.toNatClampNeg))), (0, .ref (aO a 0)), (1, .ref (aK a j1)), (3, .ref (aO a 1)), (4, .int (12 : Int32)), (5, .int x5_14)]) hx hb dX2_fewestBowls_63 rfl hl (by decide) rfl (fun ls hl => ?_)
              refine lv_iinc (v := (x5_14 + (1 : Int32))) (lv' := [(5, .int (x5_14 + (1 : Int32))), (2, .ref (aS a (x5_14.toNatClampNeg))), (6, .ref (aS a (x5_14.toNatClampNeg))), (0, .ref (aO a 0)), (1, .ref (aK a j1)), (3, .ref (aO a 1)), (4, .int (12 : Int32))]) hx hb dX2_fewestBowls_64 hl (k := 6) rfl rfl (by decide) rfl (fun ls hl => ?_)
              refine lv_goto (tgt := 14) hx hb dX2_fewestBowls_67 (by decide) ?_
              exact ih (some (x5_14.toNatClampNeg)) (x5_14 + (1 : Int32))  ls (lv_sub hl [3, 4, 1, 5, 6, 0] rfl) h
            | some j46 =>
              obtain ⟨hj46, h⟩ := oe_sif h
              have hl : lv_has ls 7 [(6, .ref (aS a (x5_14.toNatClampNeg))), (0, .ref (aO a 0)), (1, .ref (aK a j1)), (2, .ref (aS a j46)), (3, .ref (aO a 1)), (4, .int (12 : Int32)), (5, .int x5_14)] := hl
              refine lv_ifnull hx hb dX2_fewestBowls_46 ?_
              refine lv_aload hx hb dX2_fewestBowls_49 (lv_at hl 0 rfl) ?_
              refine va_get (D := D) (ci := 1) (v := .int (kS k 6 (x5_14.toNatClampNeg))) (C := RX1) (T := TX1) (N := 8) hx hb hts iX1 hown hK hP (3 + (x5_14.toNatClampNeg)) (KW_S c5 a k (inb_lt g24)) rfl 6 (by decide) (hts _ wT1_42) (fun _ h9 => h9) rfl dX2_fewestBowls_51 ?_
              refine lv_aload_n hx hb dX2_fewestBowls_54 rfl (lv_at hl 3 rfl) ?_
              refine va_get (D := D) (ci := 1) (v := .int (kS k 6 j46)) (C := RX1) (T := TX1) (N := 8) hx hb hts iX1 hown hK hP (3 + j46) (KW_S c5 a k hj46) rfl 6 (by decide) (hts _ wT1_42) (fun _ h9 => h9) rfl dX2_fewestBowls_55 ?_
              refine lv_icmp_ge (tgt := 64) hx hb dX2_fewestBowls_58 (by decide) (fun q => ?_) (fun q => ?_)
              · have h := o_t h q
                refine lv_iinc (v := (x5_14 + (1 : Int32))) (lv' := [(5, .int (x5_14 + (1 : Int32))), (6, .ref (aS a (x5_14.toNatClampNeg))), (0, .ref (aO a 0)), (1, .ref (aK a j1)), (2, .ref (aS a j46)), (3, .ref (aO a 1)), (4, .int (12 : Int32))]) hx hb dX2_fewestBowls_64 hl (k := 6) rfl rfl (by decide) rfl (fun ls hl => ?_)
                refine lv_goto (tgt := 14) hx hb dX2_fewestBowls_67 (by decide) ?_
                exact ih (some j46) (x5_14 + (1 : Int32))  ls (lv_sub hl [2, 3, 4, 5, 6, 0] rfl) h
              · have h := o_f h q
                refine lv_aload hx hb dX2_fewestBowls_61 (lv_at hl 0 rfl) ?_
                refine lv_astore_n (i := 2) (lv' := [(2, .ref (aS a (x5_14.toNatClampNeg))), (6, .ref (aS a (x5_14.toNatClampNeg))), (0, .ref (aO a 0)), (1, .ref (aK a j1)), (3, .ref (aO a 1)), (4, .int (12 : Int32)), (5, .int x5_14)]) hx hb dX2_fewestBowls_63 rfl hl (by decide) rfl (fun ls hl => ?_)
                refine lv_iinc (v := (x5_14 + (1 : Int32))) (lv' := [(5, .int (x5_14 + (1 : Int32))), (2, .ref (aS a (x5_14.toNatClampNeg))), (6, .ref (aS a (x5_14.toNatClampNeg))), (0, .ref (aO a 0)), (1, .ref (aK a j1)), (3, .ref (aO a 1)), (4, .int (12 : Int32))]) hx hb dX2_fewestBowls_64 hl (k := 6) rfl rfl (by decide) rfl (fun ls hl => ?_)
                refine lv_goto (tgt := 14) hx hb dX2_fewestBowls_67 (by decide) ?_
                exact ih (some (x5_14.toNatClampNeg)) (x5_14 + (1 : Int32))  ls (lv_sub hl [3, 4, 1, 5, 6, 0] rfl) h
  exact L14 FU none (0 : Int32)  ls (lv_sub hl [4, 5, 3, 2, 1, 0] rfl) h
set_option maxHeartbeats 4000000 in
set_option maxRecDepth 100000 in
theorem c_X2_firstInState (l : Launch) (D : va_G) (c5 : Nat → ClassId) (a : KAd) (k : KSt) (hI : KI a) (j1 : Nat) (hj1 : j1 < kN k) (p2 : Int32) (r : Option Nat) (h : R_X2_firstInState k j1 p2 = some r) : Met l yX2_firstInState (ws_ yX2_firstInState cX2_firstInState 7 (some (.object "SlabKitchen$Shelf"))) { frames := 1, cells := 0, slots := 0, locals := 21 } (va_Pc [.ref (aO a 0), .ref (aK a j1), .int p2] (roB D (tyG c5) (KW c5 a k))) (va_Se (aS a) (fun x => x = r)) 0 0 (fun _ => False) := by
  refine Met.ofW (cc := cX2_firstInState) (maxL := 7) (ret := (some (.object "SlabKitchen$Shelf"))) (by decide) rfl ?_
  intro p e s m args below meth c s₁ B hml hv
  obtain ⟨rfl, hP, hK⟩ := hv
  have hx := B.exec
  have hb := B.bytes
  have hr := B.returns
  have hts : ∀ w ∈ LA, w.before _ s = true := fun w hw => atoms_spec (ws := ws_ yX2_firstInState cX2_firstInState 7 (some (.object "SlabKitchen$Shelf"))) B.pre w (List.mem_cons_of_mem _ hw)
  have hown : s.vm.findClass RX2 = some m.cls := findClass_of_methodNamed B.named
  have hlocks := B.notSynchronized
  have hl := lv_entry ([.ref (aO a 0), .ref (aK a j1), .int p2] : List Value) (n := 7) (Nat.le_of_ble_eq_true rfl)
  rw [lg_entry_eq]
  generalize (lg_sl ([.ref (aO a 0), .ref (aK a j1), .int p2] : List Value) ++ List.replicate (7 - (lg_sl ([.ref (aO a 0), .ref (aK a j1), .int p2] : List Value)).length) Slot.unset).toArray = ls at hl ⊢
  have hl : lv_has ls 7 [(0, .ref (aO a 0)), (1, .ref (aK a j1)), (2, .int p2)] := hl
  unfold R_X2_firstInState at h
  refine lv_aload_n hx hb dX2_firstInState_0 rfl (lv_at hl 0 rfl) ?_
  refine va_get (D := D) (ci := 2) (v := .ref (aO a 1)) (C := RX2) (T := TX2) (N := 7) hx hb hts iX2 hown hK hP 0 (KW_0 c5 a k) rfl 0 (by decide) (hts _ wT1_63) (fun _ h9 => h9) rfl dX2_firstInState_1 ?_
  refine lv_astore_n (i := 3) (lv' := [(3, .ref (aO a 1)), (0, .ref (aO a 0)), (1, .ref (aK a j1)), (2, .int p2)]) hx hb dX2_firstInState_4 rfl hl (by decide) rfl (fun ls hl => ?_)
  refine lv_aload_n hx hb dX2_firstInState_5 rfl (lv_at hl 0 rfl) ?_
  refine va_alen (v := (12 : Int32)) hx hb hK hP 1 0 (KW_1 c5 a k) rfl rfl dX2_firstInState_6 ?_
  refine lv_istore (i := 4) (lv' := [(4, .int (12 : Int32)), (3, .ref (aO a 1)), (0, .ref (aO a 0)), (1, .ref (aK a j1)), (2, .int p2)]) hx hb dX2_firstInState_7 hl (by decide) rfl (fun ls hl => ?_)
  refine lv_iconst (v := (0 : Int32)) hx hb dX2_firstInState_9 (by decide) ?_
  refine lv_istore (i := 5) (lv' := [(5, .int (0 : Int32)), (4, .int (12 : Int32)), (3, .ref (aO a 1)), (0, .ref (aO a 0)), (1, .ref (aK a j1)), (2, .int p2)]) hx hb dX2_firstInState_10 hl (by decide) rfl (fun ls hl => ?_)
  have L12 : ∀ (n : Nat) (x5_12 : Int32) (ls : Array Slot), lv_has ls 7 [(0, .ref (aO a 0)), (1, .ref (aK a j1)), (2, .int p2), (3, .ref (aO a 1)), (4, .int (12 : Int32)), (5, .int x5_12)] → R_X2_firstInState_L12 k j1 p2 n x5_12 = some r → W p l e (headSpec (ws_ yX2_firstInState cX2_firstInState 7 (some (.object "SlabKitchen$Shelf"))) { frames := 1, cells := 0, slots := 0, locals := 21 }).room s m ([.ref (aO a 0), .ref (aK a j1), .int p2] : List Value).toArray below meth c s.heap [] 0 0 (MQ below (va_Se (aS a) (fun x => x = r)) ([.ref (aO a 0), .ref (aK a j1), .int p2] : List Value).toArray s 0 0 (fun _ => False)) (F0 m 12 ls []) := by
    intro n
    induction n with
    | zero =>
      intro x5_12 ls hl h
      exact absurd h (by simp [R_X2_firstInState_L12])
    | succ n ih =>
      intro x5_12 ls hl h
      rw [R_X2_firstInState_L12] at h
      refine lv_iload hx hb dX2_firstInState_12 (lv_at hl 5 rfl) ?_
      refine lv_iload hx hb dX2_firstInState_14 (lv_at hl 4 rfl) ?_
      refine lv_icmp_ge (tgt := 52) hx hb dX2_firstInState_16 (by decide) (fun q => ?_) (fun q => ?_)
      · have h := o_t h q
        refine lv_null hx hb dX2_firstInState_52 ?_
        exact ro_aret (ad := aS a) (v := none) hx hb hr hlocks dX2_firstInState_53 (Option.some.inj h)
      · have h := o_f h q
        refine lv_aload_n hx hb dX2_firstInState_19 rfl (lv_at hl 3 rfl) ?_
        refine lv_iload hx hb dX2_firstInState_20 (lv_at hl 5 rfl) ?_
        obtain ⟨g22, h⟩ := o_if h
        refine va_aldS hx hb hK hP g22 dX2_firstInState_22 ?_
        refine lv_astore (i := 6) (lv' := [(6, .ref (aS a (x5_12.toNatClampNeg))), (0, .ref (aO a 0)), (1, .ref (aK a j1)), (2, .int p2), (3, .ref (aO a 1)), (4, .int (12 : Int32)), (5, .int x5_12)]) hx hb dX2_firstInState_23 hl (by decide) rfl (fun ls hl => ?_)
        refine lv_aload hx hb dX2_firstInState_25 (lv_at hl 0 rfl) ?_
        refine lv_aload_n hx hb dX2_firstInState_27 rfl (lv_at hl 2 rfl) ?_
        obtain ⟨v28, e28, h⟩ := o_bind h
        refine ro_calli (ro_runV (As := [.ref (aK a j1)]) (rest := []) ⟨hx, hb, hml, hown, hts⟩ hP hK (c_X1_isOf l D c5 a k hI (x5_12.toNatClampNeg) (inb_lt g22) j1 hj1 v28 e28) gG_RX2_235 (va_recv hK hP (ci := 1) (q0 := (3 + (x5_12.toNatClampNeg))) rfl (KW_S c5 a k (inb_lt g22))) hd_X1_isOf ⟨Nat.le_of_ble_eq_true rfl, Nat.le_of_ble_eq_true rfl⟩ ⟨rfl, rfl⟩ hl.1 (Nat.le_of_ble_eq_true rfl) dX2_firstInState_28 ⟨Nat.zero_le _, Nat.zero_le _⟩ rfl) ?_
        refine lv_if_eq (tgt := 46) hx hb dX2_firstInState_31 (by decide) (fun q => ?_) (fun q => ?_)
        · have h := o_t h q
          refine lv_iinc (v := (x5_12 + (1 : Int32))) (lv' := [(5, .int (x5_12 + (1 : Int32))), (6, .ref (aS a (x5_12.toNatClampNeg))), (0, .ref (aO a 0)), (1, .ref (aK a j1)), (2, .int p2), (3, .ref (aO a 1)), (4, .int (12 : Int32))]) hx hb dX2_firstInState_46 hl (k := 6) rfl rfl (by decide) rfl (fun ls hl => ?_)
          refine lv_goto (tgt := 12) hx hb dX2_firstInState_49 (by decide) ?_
          exact ih (x5_12 + (1 : Int32))  ls (lv_sub hl [2, 3, 4, 5, 6, 0] rfl) h
        · have h := o_f h q
          refine lv_aload hx hb dX2_firstInState_34 (lv_at hl 0 rfl) ?_
          obtain ⟨v36, e36, h⟩ := o_bind h
          refine ro_calli (ro_runV (As := []) (rest := []) ⟨hx, hb, hml, hown, hts⟩ hP hK (c_X1_state l D c5 a k hI (x5_12.toNatClampNeg) (inb_lt g22) v36 e36) gG_RX2_70 (va_recv hK hP (ci := 1) (q0 := (3 + (x5_12.toNatClampNeg))) rfl (KW_S c5 a k (inb_lt g22))) hd_X1_state ⟨Nat.le_of_ble_eq_true rfl, Nat.le_of_ble_eq_true rfl⟩ ⟨rfl, rfl⟩ hl.1 (Nat.le_of_ble_eq_true rfl) dX2_firstInState_36 ⟨Nat.zero_le _, Nat.zero_le _⟩ rfl) ?_
          refine lv_iload_n hx hb dX2_firstInState_39 rfl (lv_at hl 3 rfl) ?_
          refine lv_icmp_ne (tgt := 46) hx hb dX2_firstInState_40 (by decide) (fun q => ?_) (fun q => ?_)
          · have h := o_t' h q
            refine lv_iinc (v := (x5_12 + (1 : Int32))) (lv' := [(5, .int (x5_12 + (1 : Int32))), (6, .ref (aS a (x5_12.toNatClampNeg))), (0, .ref (aO a 0)), (1, .ref (aK a j1)), (2, .int p2), (3, .ref (aO a 1)), (4, .int (12 : Int32))]) hx hb dX2_firstInState_46 hl (k := 6) rfl rfl (by decide) rfl (fun ls hl => ?_)
            refine lv_goto (tgt := 12) hx hb dX2_firstInState_49 (by decide) ?_
            exact ih (x5_12 + (1 : Int32))  ls (lv_sub hl [2, 3, 4, 5, 6, 0] rfl) h
          · have h := o_f' h q
            refine lv_aload hx hb dX2_firstInState_43 (lv_at hl 0 rfl) ?_
            exact ro_aret (ad := aS a) (v := (some (x5_12.toNatClampNeg))) hx hb hr hlocks dX2_firstInState_45 (Option.some.inj h)
  exact L12 FU (0 : Int32)  ls (lv_sub hl [3, 4, 5, 2, 1, 0] rfl) h
set_option maxHeartbeats 4000000 in
set_option maxRecDepth 100000 in
theorem c_X2_inUseByWay (l : Launch) (D : va_G) (c5 : Nat → ClassId) (a : KAd) (k : KSt) (hI : KI a) (j1 : Nat) (hj1 : j1 < kN k) (r : Option Nat) (h : R_X2_inUseByWay k j1 = some r) : Met l yX2_inUseByWay (ws_ yX2_inUseByWay cX2_inUseByWay 2 (some (.object "SlabKitchen$Shelf"))) { frames := 2, cells := 0, slots := 0, locals := 48 } (va_Pc [.ref (aO a 0), .ref (aK a j1)] (roB D (tyG c5) (KW c5 a k))) (va_Se (aS a) (fun x => x = r)) 0 0 (fun _ => False) := by
  refine Met.ofW (cc := cX2_inUseByWay) (maxL := 2) (ret := (some (.object "SlabKitchen$Shelf"))) (by decide) rfl ?_
  intro p e s m args below meth c s₁ B hml hv
  obtain ⟨rfl, hP, hK⟩ := hv
  have hx := B.exec
  have hb := B.bytes
  have hr := B.returns
  have hts : ∀ w ∈ LA, w.before _ s = true := fun w hw => atoms_spec (ws := ws_ yX2_inUseByWay cX2_inUseByWay 2 (some (.object "SlabKitchen$Shelf"))) B.pre w (List.mem_cons_of_mem _ hw)
  have hown : s.vm.findClass RX2 = some m.cls := findClass_of_methodNamed B.named
  have hlocks := B.notSynchronized
  have hl := lv_entry ([.ref (aO a 0), .ref (aK a j1)] : List Value) (n := 2) (Nat.le_of_ble_eq_true rfl)
  rw [lg_entry_eq]
  generalize (lg_sl ([.ref (aO a 0), .ref (aK a j1)] : List Value) ++ List.replicate (2 - (lg_sl ([.ref (aO a 0), .ref (aK a j1)] : List Value)).length) Slot.unset).toArray = ls at hl ⊢
  have hl : lv_has ls 2 [(0, .ref (aO a 0)), (1, .ref (aK a j1))] := hl
  unfold R_X2_inUseByWay at h
  refine lv_aload_n hx hb dX2_inUseByWay_0 rfl (lv_at hl 0 rfl) ?_
  refine va_get (D := D) (ci := 2) (v := .int (kG k 1)) (C := RX2) (T := TX2) (N := 7) hx hb hts iX2 hown hK hP 0 (KW_0 c5 a k) rfl 3 (by decide) (hts _ wT1_66) (fun _ h9 => h9) rfl dX2_inUseByWay_1 ?_
  rcases Decidable.em ((kG k 1) = 1) with c4_0 | c4_0
  · have h := o_t h c4_0
    refine lv_lookup (off := 28) (tgt := 32) hx hb dX2_inUseByWay_4 (by decide) (by rw [c4_0]; rfl) (by decide) ?_
    refine lv_aload_n hx hb dX2_inUseByWay_32 rfl (lv_at hl 0 rfl) ?_
    refine lv_aload_n hx hb dX2_inUseByWay_33 rfl (lv_at hl 1 rfl) ?_
    refine lv_null hx hb dX2_inUseByWay_34 ?_
    obtain ⟨v35, e35, h⟩ := o_bind h
    refine ro_calle (ro_runV (As := [.ref (aK a j1), .null]) (rest := []) ⟨hx, hb, hml, hown, hts⟩ hP hK (c_X2_mostBowls l D c5 a k hI j1 hj1 none rfl v35 e35) gG_RX2_228 (va_recv hK hP (ci := 2) (q0 := 0) rfl (KW_0 c5 a k)) hd_X2_mostBowls ⟨Nat.le_of_ble_eq_true rfl, Nat.le_of_ble_eq_true rfl⟩ ⟨rfl, rfl⟩ hl.1 (Nat.le_of_ble_eq_true rfl) dX2_inUseByWay_35 ⟨Nat.zero_le _, Nat.zero_le _⟩ rfl) ?_
    exact ro_aret (ad := aS a) (v := v35) hx hb hr hlocks dX2_inUseByWay_38 (Option.some.inj h)
  · have h := o_f h c4_0
    rcases Decidable.em ((kG k 1) = 2) with c4_1 | c4_1
    · have h := o_t h c4_1
      refine lv_lookup (off := 35) (tgt := 39) hx hb dX2_inUseByWay_4 (by decide) (by rw [c4_1]; rfl) (by decide) ?_
      refine lv_aload_n hx hb dX2_inUseByWay_39 rfl (lv_at hl 0 rfl) ?_
      refine lv_aload_n hx hb dX2_inUseByWay_40 rfl (lv_at hl 1 rfl) ?_
      obtain ⟨v41, e41, h⟩ := o_bind h
      refine ro_calle (ro_runV (As := [.ref (aK a j1)]) (rest := []) ⟨hx, hb, hml, hown, hts⟩ hP hK (c_X2_fewestBowls l D c5 a k hI j1 hj1 v41 e41) gG_RX2_232 (va_recv hK hP (ci := 2) (q0 := 0) rfl (KW_0 c5 a k)) hd_X2_fewestBowls ⟨Nat.le_of_ble_eq_true rfl, Nat.le_of_ble_eq_true rfl⟩ ⟨rfl, rfl⟩ hl.1 (Nat.le_of_ble_eq_true rfl) dX2_inUseByWay_41 ⟨Nat.zero_le _, Nat.zero_le _⟩ rfl) ?_
      exact ro_aret (ad := aS a) (v := v41) hx hb hr hlocks dX2_inUseByWay_44 (Option.some.inj h)
    · have h := o_f h c4_1
      refine lv_lookup (off := 41) (tgt := 45) hx hb dX2_inUseByWay_4 (by decide) (by simp only []; rw [lv_osw (a := 1) c4_0 rfl, lv_osw (a := 2) c4_1 rfl]; rfl) (by decide) ?_
      refine lv_aload_n hx hb dX2_inUseByWay_45 rfl (lv_at hl 0 rfl) ?_
      refine lv_aload_n hx hb dX2_inUseByWay_46 rfl (lv_at hl 1 rfl) ?_
      refine lv_iconst (v := (2 : Int32)) hx hb dX2_inUseByWay_47 (by decide) ?_
      obtain ⟨v48, e48, h⟩ := o_bind h
      refine ro_calle (ro_runV (As := [.ref (aK a j1), .int (2 : Int32)]) (rest := []) ⟨hx, hb, hml, hown, hts⟩ hP hK (c_X2_firstInState l D c5 a k hI j1 hj1 (2 : Int32) v48 e48) gG_RX2_220 (va_recv hK hP (ci := 2) (q0 := 0) rfl (KW_0 c5 a k)) hd_X2_firstInState ⟨Nat.le_of_ble_eq_true rfl, Nat.le_of_ble_eq_true rfl⟩ ⟨rfl, rfl⟩ hl.1 (Nat.le_of_ble_eq_true rfl) dX2_inUseByWay_48 ⟨Nat.zero_le _, Nat.zero_le _⟩ rfl) ?_
      exact ro_aret (ad := aS a) (v := v48) hx hb hr hlocks dX2_inUseByWay_51 (Option.some.inj h)
set_option maxHeartbeats 4000000 in
set_option maxRecDepth 100000 in
theorem c_X2_firstFree (l : Launch) (D : va_G) (c5 : Nat → ClassId) (a : KAd) (k : KSt) (hI : KI a) (r : Option Nat) (h : R_X2_firstFree k = some r) : Met l yX2_firstFree (ws_ yX2_firstFree cX2_firstFree 5 (some (.object "SlabKitchen$Shelf"))) { frames := 1, cells := 0, slots := 0, locals := 20 } (va_Pc [.ref (aO a 0)] (roB D (tyG c5) (KW c5 a k))) (va_Se (aS a) (fun x => x = r)) 0 0 (fun _ => False) := by
  refine Met.ofW (cc := cX2_firstFree) (maxL := 5) (ret := (some (.object "SlabKitchen$Shelf"))) (by decide) rfl ?_
  intro p e s m args below meth c s₁ B hml hv
  obtain ⟨rfl, hP, hK⟩ := hv
  have hx := B.exec
  have hb := B.bytes
  have hr := B.returns
  have hts : ∀ w ∈ LA, w.before _ s = true := fun w hw => atoms_spec (ws := ws_ yX2_firstFree cX2_firstFree 5 (some (.object "SlabKitchen$Shelf"))) B.pre w (List.mem_cons_of_mem _ hw)
  have hown : s.vm.findClass RX2 = some m.cls := findClass_of_methodNamed B.named
  have hlocks := B.notSynchronized
  have hl := lv_entry ([.ref (aO a 0)] : List Value) (n := 5) (Nat.le_of_ble_eq_true rfl)
  rw [lg_entry_eq]
  generalize (lg_sl ([.ref (aO a 0)] : List Value) ++ List.replicate (5 - (lg_sl ([.ref (aO a 0)] : List Value)).length) Slot.unset).toArray = ls at hl ⊢
  have hl : lv_has ls 5 [(0, .ref (aO a 0))] := hl
  unfold R_X2_firstFree at h
  refine lv_aload_n hx hb dX2_firstFree_0 rfl (lv_at hl 0 rfl) ?_
  refine va_get (D := D) (ci := 2) (v := .ref (aO a 1)) (C := RX2) (T := TX2) (N := 7) hx hb hts iX2 hown hK hP 0 (KW_0 c5 a k) rfl 0 (by decide) (hts _ wT1_63) (fun _ h9 => h9) rfl dX2_firstFree_1 ?_
  refine lv_astore_n (i := 1) (lv' := [(1, .ref (aO a 1)), (0, .ref (aO a 0))]) hx hb dX2_firstFree_4 rfl hl (by decide) rfl (fun ls hl => ?_)
  refine lv_aload_n hx hb dX2_firstFree_5 rfl (lv_at hl 0 rfl) ?_
  refine va_alen (v := (12 : Int32)) hx hb hK hP 1 0 (KW_1 c5 a k) rfl rfl dX2_firstFree_6 ?_
  refine lv_istore_n (i := 2) (lv' := [(2, .int (12 : Int32)), (1, .ref (aO a 1)), (0, .ref (aO a 0))]) hx hb dX2_firstFree_7 rfl hl (by decide) rfl (fun ls hl => ?_)
  refine lv_iconst (v := (0 : Int32)) hx hb dX2_firstFree_8 (by decide) ?_
  refine lv_istore_n (i := 3) (lv' := [(3, .int (0 : Int32)), (2, .int (12 : Int32)), (1, .ref (aO a 1)), (0, .ref (aO a 0))]) hx hb dX2_firstFree_9 rfl hl (by decide) rfl (fun ls hl => ?_)
  have L10 : ∀ (n : Nat) (x3_10 : Int32) (ls : Array Slot), lv_has ls 5 [(0, .ref (aO a 0)), (1, .ref (aO a 1)), (2, .int (12 : Int32)), (3, .int x3_10)] → R_X2_firstFree_L10 k n x3_10 = some r → W p l e (headSpec (ws_ yX2_firstFree cX2_firstFree 5 (some (.object "SlabKitchen$Shelf"))) { frames := 1, cells := 0, slots := 0, locals := 20 }).room s m ([.ref (aO a 0)] : List Value).toArray below meth c s.heap [] 0 0 (MQ below (va_Se (aS a) (fun x => x = r)) ([.ref (aO a 0)] : List Value).toArray s 0 0 (fun _ => False)) (F0 m 10 ls []) := by
    intro n
    induction n with
    | zero =>
      intro x3_10 ls hl h
      exact absurd h (by simp [R_X2_firstFree_L10])
    | succ n ih =>
      intro x3_10 ls hl h
      rw [R_X2_firstFree_L10] at h
      refine lv_iload_n hx hb dX2_firstFree_10 rfl (lv_at hl 3 rfl) ?_
      refine lv_iload_n hx hb dX2_firstFree_11 rfl (lv_at hl 2 rfl) ?_
      refine lv_icmp_ge (tgt := 37) hx hb dX2_firstFree_12 (by decide) (fun q => ?_) (fun q => ?_)
      · have h := o_t h q
        refine lv_null hx hb dX2_firstFree_37 ?_
        exact ro_aret (ad := aS a) (v := none) hx hb hr hlocks dX2_firstFree_38 (Option.some.inj h)
      · have h := o_f h q
        refine lv_aload_n hx hb dX2_firstFree_15 rfl (lv_at hl 1 rfl) ?_
        refine lv_iload_n hx hb dX2_firstFree_16 rfl (lv_at hl 3 rfl) ?_
        obtain ⟨g17, h⟩ := o_if h
        refine va_aldS hx hb hK hP g17 dX2_firstFree_17 ?_
        refine lv_astore (i := 4) (lv' := [(4, .ref (aS a (x3_10.toNatClampNeg))), (0, .ref (aO a 0)), (1, .ref (aO a 1)), (2, .int (12 : Int32)), (3, .int x3_10)]) hx hb dX2_firstFree_18 hl (by decide) rfl (fun ls hl => ?_)
        refine lv_aload hx hb dX2_firstFree_20 (lv_at hl 0 rfl) ?_
        obtain ⟨v22, e22, h⟩ := o_bind h
        refine ro_calli (ro_runV (As := []) (rest := []) ⟨hx, hb, hml, hown, hts⟩ hP hK (c_X1_state l D c5 a k hI (x3_10.toNatClampNeg) (inb_lt g17) v22 e22) gG_RX2_70 (va_recv hK hP (ci := 1) (q0 := (3 + (x3_10.toNatClampNeg))) rfl (KW_S c5 a k (inb_lt g17))) hd_X1_state ⟨Nat.le_of_ble_eq_true rfl, Nat.le_of_ble_eq_true rfl⟩ ⟨rfl, rfl⟩ hl.1 (Nat.le_of_ble_eq_true rfl) dX2_firstFree_22 ⟨Nat.zero_le _, Nat.zero_le _⟩ rfl) ?_
        refine lv_if_ne (tgt := 31) hx hb dX2_firstFree_25 (by decide) (fun q => ?_) (fun q => ?_)
        · have h := o_t' h q
          refine lv_iinc (v := (x3_10 + (1 : Int32))) (lv' := [(3, .int (x3_10 + (1 : Int32))), (4, .ref (aS a (x3_10.toNatClampNeg))), (0, .ref (aO a 0)), (1, .ref (aO a 1)), (2, .int (12 : Int32))]) hx hb dX2_firstFree_31 hl (k := 4) rfl rfl (by decide) rfl (fun ls hl => ?_)
          refine lv_goto (tgt := 10) hx hb dX2_firstFree_34 (by decide) ?_
          exact ih (x3_10 + (1 : Int32))  ls (lv_sub hl [2, 3, 4, 0] rfl) h
        · have h := o_f' h q
          refine lv_aload hx hb dX2_firstFree_28 (lv_at hl 0 rfl) ?_
          exact ro_aret (ad := aS a) (v := (some (x3_10.toNatClampNeg))) hx hb hr hlocks dX2_firstFree_30 (Option.some.inj h)
  exact L10 FU (0 : Int32)  ls (lv_sub hl [3, 2, 1, 0] rfl) h
set_option maxHeartbeats 4000000 in
set_option maxRecDepth 100000 in
theorem c_X2_shelfToPut (l : Launch) (D : va_G) (c5 : Nat → ClassId) (a : KAd) (k : KSt) (hI : KI a) (j1 : Nat) (hj1 : j1 < kN k) (r : Option Nat) (h : R_X2_shelfToPut k j1 = some r) : Met l yX2_shelfToPut (ws_ yX2_shelfToPut cX2_shelfToPut 3 (some (.object "SlabKitchen$Shelf"))) { frames := 3, cells := 0, slots := 0, locals := 69 } (va_Pc [.ref (aO a 0), .ref (aK a j1)] (roB D (tyG c5) (KW c5 a k))) (va_Se (aS a) (fun x => x = r)) 0 0 (fun _ => False) := by
  refine Met.ofW (cc := cX2_shelfToPut) (maxL := 3) (ret := (some (.object "SlabKitchen$Shelf"))) (by decide) rfl ?_
  intro p e s m args below meth c s₁ B hml hv
  obtain ⟨rfl, hP, hK⟩ := hv
  have hx := B.exec
  have hb := B.bytes
  have hr := B.returns
  have hts : ∀ w ∈ LA, w.before _ s = true := fun w hw => atoms_spec (ws := ws_ yX2_shelfToPut cX2_shelfToPut 3 (some (.object "SlabKitchen$Shelf"))) B.pre w (List.mem_cons_of_mem _ hw)
  have hown : s.vm.findClass RX2 = some m.cls := findClass_of_methodNamed B.named
  have hlocks := B.notSynchronized
  have hl := lv_entry ([.ref (aO a 0), .ref (aK a j1)] : List Value) (n := 3) (Nat.le_of_ble_eq_true rfl)
  rw [lg_entry_eq]
  generalize (lg_sl ([.ref (aO a 0), .ref (aK a j1)] : List Value) ++ List.replicate (3 - (lg_sl ([.ref (aO a 0), .ref (aK a j1)] : List Value)).length) Slot.unset).toArray = ls at hl ⊢
  have hl : lv_has ls 3 [(0, .ref (aO a 0)), (1, .ref (aK a j1))] := hl
  unfold R_X2_shelfToPut at h
  refine lv_aload_n hx hb dX2_shelfToPut_0 rfl (lv_at hl 0 rfl) ?_
  refine lv_aload_n hx hb dX2_shelfToPut_1 rfl (lv_at hl 1 rfl) ?_
  obtain ⟨v2, e2, h⟩ := o_bind h
  refine ro_calle (ro_runV (As := [.ref (aK a j1)]) (rest := []) ⟨hx, hb, hml, hown, hts⟩ hP hK (c_X2_inUseByWay l D c5 a k hI j1 hj1 v2 e2) gG_RX2_217 (va_recv hK hP (ci := 2) (q0 := 0) rfl (KW_0 c5 a k)) hd_X2_inUseByWay ⟨Nat.le_of_ble_eq_true rfl, Nat.le_of_ble_eq_true rfl⟩ ⟨rfl, rfl⟩ hl.1 (Nat.le_of_ble_eq_true rfl) dX2_shelfToPut_2 ⟨Nat.zero_le _, Nat.zero_le _⟩ rfl) ?_
  refine qv_astore_n (i := 2) (lv' := [(2, va_rf (v2.map (aS a))), (0, .ref (aO a 0)), (1, .ref (aK a j1))]) hx hb dX2_shelfToPut_5 rfl hl (by decide) rfl (fun ls hl => ?_)
  refine qv_aload_n hx hb dX2_shelfToPut_6 rfl (lv_at hl 0 rfl) ?_
  cases v2 with
  | none =>
    have h := oe_n h
    have hl : lv_has ls 3 [(2, .null), (0, .ref (aO a 0)), (1, .ref (aK a j1))] := hl
    refine lv_ifnonnullN hx hb dX2_shelfToPut_7 ?_
    refine lv_aload_n hx hb dX2_shelfToPut_10 rfl (lv_at hl 1 rfl) ?_
    refine lv_aload_n hx hb dX2_shelfToPut_11 rfl (lv_at hl 2 rfl) ?_
    refine lv_iconst (v := (1 : Int32)) hx hb dX2_shelfToPut_12 (by decide) ?_
    obtain ⟨v13, e13, h⟩ := o_bind h
    refine ro_calle (ro_runV (As := [.ref (aK a j1), .int (1 : Int32)]) (rest := []) ⟨hx, hb, hml, hown, hts⟩ hP hK (c_X2_firstInState l D c5 a k hI j1 hj1 (1 : Int32) v13 e13) gG_RX2_220 (va_recv hK hP (ci := 2) (q0 := 0) rfl (KW_0 c5 a k)) hd_X2_firstInState ⟨Nat.le_of_ble_eq_true rfl, Nat.le_of_ble_eq_true rfl⟩ ⟨rfl, rfl⟩ hl.1 (Nat.le_of_ble_eq_true rfl) dX2_shelfToPut_13 ⟨Nat.zero_le _, Nat.zero_le _⟩ rfl) ?_
    refine qv_astore_n (i := 2) (lv' := [(2, va_rf (v13.map (aS a))), (0, .ref (aO a 0)), (1, .ref (aK a j1))]) hx hb dX2_shelfToPut_16 rfl hl (by decide) rfl (fun ls hl => ?_)
    refine qv_aload_n hx hb dX2_shelfToPut_17 rfl (lv_at hl 0 rfl) ?_
    cases v13 with
    | none =>
      have h := oe_n h
      have hl : lv_has ls 3 [(2, .null), (0, .ref (aO a 0)), (1, .ref (aK a j1))] := hl
      refine lv_ifnonnullN hx hb dX2_shelfToPut_18 ?_
      refine lv_aload_n hx hb dX2_shelfToPut_21 rfl (lv_at hl 1 rfl) ?_
      obtain ⟨v22, e22, h⟩ := o_bind h
      refine ro_calle (ro_runV (As := []) (rest := []) ⟨hx, hb, hml, hown, hts⟩ hP hK (c_X2_firstFree l D c5 a k hI  v22 e22) gG_RX2_224 (va_recv hK hP (ci := 2) (q0 := 0) rfl (KW_0 c5 a k)) hd_X2_firstFree ⟨Nat.le_of_ble_eq_true rfl, Nat.le_of_ble_eq_true rfl⟩ ⟨rfl, rfl⟩ hl.1 (Nat.le_of_ble_eq_true rfl) dX2_shelfToPut_22 ⟨Nat.zero_le _, Nat.zero_le _⟩ rfl) ?_
      refine lv_goto (tgt := 29) hx hb dX2_shelfToPut_25 (by decide) ?_
      exact ro_aret (ad := aS a) (v := v22) hx hb hr hlocks dX2_shelfToPut_29 (Option.some.inj h)
    | some j18 =>
      obtain ⟨hj18, h⟩ := oe_sif h
      have hl : lv_has ls 3 [(2, .ref (aS a j18)), (0, .ref (aO a 0)), (1, .ref (aK a j1))] := hl
      refine lv_ifnonnull (tgt := 28) hx hb dX2_shelfToPut_18 (by decide) ?_
      refine lv_aload_n hx hb dX2_shelfToPut_28 rfl (lv_at hl 0 rfl) ?_
      exact ro_aret (ad := aS a) (v := (some j18)) hx hb hr hlocks dX2_shelfToPut_29 (Option.some.inj h)
  | some j7 =>
    obtain ⟨hj7, h⟩ := oe_sif h
    have hl : lv_has ls 3 [(2, .ref (aS a j7)), (0, .ref (aO a 0)), (1, .ref (aK a j1))] := hl
    refine lv_ifnonnull (tgt := 17) hx hb dX2_shelfToPut_7 (by decide) ?_
    refine lv_aload_n hx hb dX2_shelfToPut_17 rfl (lv_at hl 0 rfl) ?_
    refine lv_ifnonnull (tgt := 28) hx hb dX2_shelfToPut_18 (by decide) ?_
    refine lv_aload_n hx hb dX2_shelfToPut_28 rfl (lv_at hl 0 rfl) ?_
    exact ro_aret (ad := aS a) (v := (some j7)) hx hb hr hlocks dX2_shelfToPut_29 (Option.some.inj h)
set_option maxHeartbeats 4000000 in
set_option maxRecDepth 100000 in
theorem c_X2_lastFewestBowls (l : Launch) (D : va_G) (c5 : Nat → ClassId) (a : KAd) (k : KSt) (hI : KI a) (j1 : Nat) (hj1 : j1 < kN k) (r : Option Nat) (h : R_X2_lastFewestBowls k j1 = some r) : Met l yX2_lastFewestBowls (ws_ yX2_lastFewestBowls cX2_lastFewestBowls 7 (some (.object "SlabKitchen$Shelf"))) { frames := 1, cells := 0, slots := 0, locals := 21 } (va_Pc [.ref (aO a 0), .ref (aK a j1)] (roB D (tyG c5) (KW c5 a k))) (va_Se (aS a) (fun x => x = r)) 0 0 (fun _ => False) := by
  refine Met.ofW (cc := cX2_lastFewestBowls) (maxL := 7) (ret := (some (.object "SlabKitchen$Shelf"))) (by decide) rfl ?_
  intro p e s m args below meth c s₁ B hml hv
  obtain ⟨rfl, hP, hK⟩ := hv
  have hx := B.exec
  have hb := B.bytes
  have hr := B.returns
  have hts : ∀ w ∈ LA, w.before _ s = true := fun w hw => atoms_spec (ws := ws_ yX2_lastFewestBowls cX2_lastFewestBowls 7 (some (.object "SlabKitchen$Shelf"))) B.pre w (List.mem_cons_of_mem _ hw)
  have hown : s.vm.findClass RX2 = some m.cls := findClass_of_methodNamed B.named
  have hlocks := B.notSynchronized
  have hl := lv_entry ([.ref (aO a 0), .ref (aK a j1)] : List Value) (n := 7) (Nat.le_of_ble_eq_true rfl)
  rw [lg_entry_eq]
  generalize (lg_sl ([.ref (aO a 0), .ref (aK a j1)] : List Value) ++ List.replicate (7 - (lg_sl ([.ref (aO a 0), .ref (aK a j1)] : List Value)).length) Slot.unset).toArray = ls at hl ⊢
  have hl : lv_has ls 7 [(0, .ref (aO a 0)), (1, .ref (aK a j1))] := hl
  unfold R_X2_lastFewestBowls at h
  refine lv_null hx hb dX2_lastFewestBowls_0 ?_
  refine lv_astore_nN (i := 2) (lv' := [(2, .null), (0, .ref (aO a 0)), (1, .ref (aK a j1))]) hx hb dX2_lastFewestBowls_1 rfl hl (by decide) rfl (fun ls hl => ?_)
  refine lv_aload_n hx hb dX2_lastFewestBowls_2 rfl (lv_at hl 1 rfl) ?_
  refine va_get (D := D) (ci := 2) (v := .ref (aO a 1)) (C := RX2) (T := TX2) (N := 7) hx hb hts iX2 hown hK hP 0 (KW_0 c5 a k) rfl 0 (by decide) (hts _ wT1_63) (fun _ h9 => h9) rfl dX2_lastFewestBowls_3 ?_
  refine lv_astore_n (i := 3) (lv' := [(3, .ref (aO a 1)), (2, .null), (0, .ref (aO a 0)), (1, .ref (aK a j1))]) hx hb dX2_lastFewestBowls_6 rfl hl (by decide) rfl (fun ls hl => ?_)
  refine lv_aload_n hx hb dX2_lastFewestBowls_7 rfl (lv_at hl 0 rfl) ?_
  refine va_alen (v := (12 : Int32)) hx hb hK hP 1 0 (KW_1 c5 a k) rfl rfl dX2_lastFewestBowls_8 ?_
  refine lv_istore (i := 4) (lv' := [(4, .int (12 : Int32)), (3, .ref (aO a 1)), (2, .null), (0, .ref (aO a 0)), (1, .ref (aK a j1))]) hx hb dX2_lastFewestBowls_9 hl (by decide) rfl (fun ls hl => ?_)
  refine lv_iconst (v := (0 : Int32)) hx hb dX2_lastFewestBowls_11 (by decide) ?_
  refine lv_istore (i := 5) (lv' := [(5, .int (0 : Int32)), (4, .int (12 : Int32)), (3, .ref (aO a 1)), (2, .null), (0, .ref (aO a 0)), (1, .ref (aK a j1))]) hx hb dX2_lastFewestBowls_12 hl (by decide) rfl (fun ls hl => ?_)
  have L14 : ∀ (n : Nat) (x2_14 : Option Nat) (x5_14 : Int32) (ls : Array Slot), lv_has ls 7 [(0, .ref (aO a 0)), (1, .ref (aK a j1)), (2, va_rf (x2_14.map (aS a))), (3, .ref (aO a 1)), (4, .int (12 : Int32)), (5, .int x5_14)] → R_X2_lastFewestBowls_L14 k j1 n x2_14 x5_14 = some r → W p l e (headSpec (ws_ yX2_lastFewestBowls cX2_lastFewestBowls 7 (some (.object "SlabKitchen$Shelf"))) { frames := 1, cells := 0, slots := 0, locals := 21 }).room s m ([.ref (aO a 0), .ref (aK a j1)] : List Value).toArray below meth c s.heap [] 0 0 (MQ below (va_Se (aS a) (fun x => x = r)) ([.ref (aO a 0), .ref (aK a j1)] : List Value).toArray s 0 0 (fun _ => False)) (F0 m 14 ls []) := by
    intro n
    induction n with
    | zero =>
      intro x2_14 x5_14 ls hl h
      exact absurd h (by simp [R_X2_lastFewestBowls_L14])
    | succ n ih =>
      intro x2_14 x5_14 ls hl h
      rw [R_X2_lastFewestBowls_L14] at h
      refine lv_iload hx hb dX2_lastFewestBowls_14 (lv_at hl 5 rfl) ?_
      refine lv_iload hx hb dX2_lastFewestBowls_16 (lv_at hl 4 rfl) ?_
      refine lv_icmp_ge (tgt := 70) hx hb dX2_lastFewestBowls_18 (by decide) (fun q => ?_) (fun q => ?_)
      · have h := o_t h q
        refine qv_aload_n hx hb dX2_lastFewestBowls_70 rfl (lv_at hl 2 rfl) ?_
        exact ro_aret (ad := aS a) (v := x2_14) hx hb hr hlocks dX2_lastFewestBowls_71 (Option.some.inj h)
      · have h := o_f h q
        refine lv_aload_n hx hb dX2_lastFewestBowls_21 rfl (lv_at hl 3 rfl) ?_
        refine lv_iload hx hb dX2_lastFewestBowls_22 (lv_at hl 5 rfl) ?_
        obtain ⟨g24, h⟩ := o_if h
        refine va_aldS hx hb hK hP g24 dX2_lastFewestBowls_24 ?_
        refine lv_astore (i := 6) (lv' := [(6, .ref (aS a (x5_14.toNatClampNeg))), (0, .ref (aO a 0)), (1, .ref (aK a j1)), (2, va_rf (x2_14.map (aS a))), (3, .ref (aO a 1)), (4, .int (12 : Int32)), (5, .int x5_14)]) hx hb dX2_lastFewestBowls_25 hl (by decide) rfl (fun ls hl => ?_)
        refine lv_aload hx hb dX2_lastFewestBowls_27 (lv_at hl 0 rfl) ?_
        refine lv_aload_n hx hb dX2_lastFewestBowls_29 rfl (lv_at hl 2 rfl) ?_
        obtain ⟨v30, e30, h⟩ := o_bind h
        refine ro_calli (ro_runV (As := [.ref (aK a j1)]) (rest := []) ⟨hx, hb, hml, hown, hts⟩ hP hK (c_X1_isOf l D c5 a k hI (x5_14.toNatClampNeg) (inb_lt g24) j1 hj1 v30 e30) gG_RX2_235 (va_recv hK hP (ci := 1) (q0 := (3 + (x5_14.toNatClampNeg))) rfl (KW_S c5 a k (inb_lt g24))) hd_X1_isOf ⟨Nat.le_of_ble_eq_true rfl, Nat.le_of_ble_eq_true rfl⟩ ⟨rfl, rfl⟩ hl.1 (Nat.le_of_ble_eq_true rfl) dX2_lastFewestBowls_30 ⟨Nat.zero_le _, Nat.zero_le _⟩ rfl) ?_
        refine lv_if_eq (tgt := 64) hx hb dX2_lastFewestBowls_33 (by decide) (fun q => ?_) (fun q => ?_)
        · have h := o_t h q
          refine lv_iinc (v := (x5_14 + (1 : Int32))) (lv' := [(5, .int (x5_14 + (1 : Int32))), (6, .ref (aS a (x5_14.toNatClampNeg))), (0, .ref (aO a 0)), (1, .ref (aK a j1)), (2, va_rf (x2_14.map (aS a))), (3, .ref (aO a 1)), (4, .int (12 : Int32))]) hx hb dX2_lastFewestBowls_64 hl (k := 6) rfl rfl (by decide) rfl (fun ls hl => ?_)
          refine lv_goto (tgt := 14) hx hb dX2_lastFewestBowls_67 (by decide) ?_
          exact ih x2_14 (x5_14 + (1 : Int32))  ls (lv_sub hl [2, 3, 4, 5, 6, 0] rfl) h
        · have h := o_f h q
          refine lv_aload hx hb dX2_lastFewestBowls_36 (lv_at hl 0 rfl) ?_
          obtain ⟨v38, e38, h⟩ := o_bind h
          refine ro_calli (ro_runV (As := []) (rest := []) ⟨hx, hb, hml, hown, hts⟩ hP hK (c_X1_state l D c5 a k hI (x5_14.toNatClampNeg) (inb_lt g24) v38 e38) gG_RX2_70 (va_recv hK hP (ci := 1) (q0 := (3 + (x5_14.toNatClampNeg))) rfl (KW_S c5 a k (inb_lt g24))) hd_X1_state ⟨Nat.le_of_ble_eq_true rfl, Nat.le_of_ble_eq_true rfl⟩ ⟨rfl, rfl⟩ hl.1 (Nat.le_of_ble_eq_true rfl) dX2_lastFewestBowls_38 ⟨Nat.zero_le _, Nat.zero_le _⟩ rfl) ?_
          refine lv_iconst (v := (2 : Int32)) hx hb dX2_lastFewestBowls_41 (by decide) ?_
          refine lv_icmp_ne (tgt := 64) hx hb dX2_lastFewestBowls_42 (by decide) (fun q => ?_) (fun q => ?_)
          · have h := o_t' h q
            refine lv_iinc (v := (x5_14 + (1 : Int32))) (lv' := [(5, .int (x5_14 + (1 : Int32))), (6, .ref (aS a (x5_14.toNatClampNeg))), (0, .ref (aO a 0)), (1, .ref (aK a j1)), (2, va_rf (x2_14.map (aS a))), (3, .ref (aO a 1)), (4, .int (12 : Int32))]) hx hb dX2_lastFewestBowls_64 hl (k := 6) rfl rfl (by decide) rfl (fun ls hl => ?_)
            refine lv_goto (tgt := 14) hx hb dX2_lastFewestBowls_67 (by decide) ?_
            exact ih x2_14 (x5_14 + (1 : Int32))  ls (lv_sub hl [2, 3, 4, 5, 6, 0] rfl) h
          · have h := o_f' h q
            refine qv_aload_n hx hb dX2_lastFewestBowls_45 rfl (lv_at hl 3 rfl) ?_
            cases x2_14 with
            | none =>
              have h := oe_n h
              have hl : lv_has ls 7 [(6, .ref (aS a (x5_14.toNatClampNeg))), (0, .ref (aO a 0)), (1, .ref (aK a j1)), (2, .null), (3, .ref (aO a 1)), (4, .int (12 : Int32)), (5, .int x5_14)] := hl
              refine lv_ifnullN (tgt := 61) hx hb dX2_lastFewestBowls_46 (by decide) ?_
              refine lv_aload hx hb dX2_lastFewestBowls_61 (lv_at hl 0 rfl) ?_
              refine lv_astore_n (i := 2) (lv' := [(2, .ref (aS a (x5_14.toNatClampNeg))), (6, .ref (aS a (x5_14.toNatClampNeg))), (0, .ref (aO a 0)), (1, .ref (aK a j1)), (3, .ref (aO a 1)), (4, .int (12 : Int32)), (5, .int x5_14)]) hx hb dX2_lastFewestBowls_63 rfl hl (by decide) rfl (fun ls hl => ?_)
              refine lv_iinc (v := (x5_14 + (1 : Int32))) (lv' := [(5, .int (x5_14 + (1 : Int32))), (2, .ref (aS a (x5_14.toNatClampNeg))), (6, .ref (aS a (x5_14.toNatClampNeg))), (0, .ref (aO a 0)), (1, .ref (aK a j1)), (3, .ref (aO a 1)), (4, .int (12 : Int32))]) hx hb dX2_lastFewestBowls_64 hl (k := 6) rfl rfl (by decide) rfl (fun ls hl => ?_)
              refine lv_goto (tgt := 14) hx hb dX2_lastFewestBowls_67 (by decide) ?_
              exact ih (some (x5_14.toNatClampNeg)) (x5_14 + (1 : Int32))  ls (lv_sub hl [3, 4, 1, 5, 6, 0] rfl) h
            | some j46 =>
              obtain ⟨hj46, h⟩ := oe_sif h
              have hl : lv_has ls 7 [(6, .ref (aS a (x5_14.toNatClampNeg))), (0, .ref (aO a 0)), (1, .ref (aK a j1)), (2, .ref (aS a j46)), (3, .ref (aO a 1)), (4, .int (12 : Int32)), (5, .int x5_14)] := hl
              refine lv_ifnull hx hb dX2_lastFewestBowls_46 ?_
              refine lv_aload hx hb dX2_lastFewestBowls_49 (lv_at hl 0 rfl) ?_
              refine va_get (D := D) (ci := 1) (v := .int (kS k 6 (x5_14.toNatClampNeg))) (C := RX1) (T := TX1) (N := 8) hx hb hts iX1 hown hK hP (3 + (x5_14.toNatClampNeg)) (KW_S c5 a k (inb_lt g24)) rfl 6 (by decide) (hts _ wT1_42) (fun _ h9 => h9) rfl dX2_lastFewestBowls_51 ?_
              refine lv_aload_n hx hb dX2_lastFewestBowls_54 rfl (lv_at hl 3 rfl) ?_
              refine va_get (D := D) (ci := 1) (v := .int (kS k 6 j46)) (C := RX1) (T := TX1) (N := 8) hx hb hts iX1 hown hK hP (3 + j46) (KW_S c5 a k hj46) rfl 6 (by decide) (hts _ wT1_42) (fun _ h9 => h9) rfl dX2_lastFewestBowls_55 ?_
              refine lv_icmp_gt (tgt := 64) hx hb dX2_lastFewestBowls_58 (by decide) (fun q => ?_) (fun q => ?_)
              · have h := o_t h q
                refine lv_iinc (v := (x5_14 + (1 : Int32))) (lv' := [(5, .int (x5_14 + (1 : Int32))), (6, .ref (aS a (x5_14.toNatClampNeg))), (0, .ref (aO a 0)), (1, .ref (aK a j1)), (2, .ref (aS a j46)), (3, .ref (aO a 1)), (4, .int (12 : Int32))]) hx hb dX2_lastFewestBowls_64 hl (k := 6) rfl rfl (by decide) rfl (fun ls hl => ?_)
                refine lv_goto (tgt := 14) hx hb dX2_lastFewestBowls_67 (by decide) ?_
                exact ih (some j46) (x5_14 + (1 : Int32))  ls (lv_sub hl [2, 3, 4, 5, 6, 0] rfl) h
              · have h := o_f h q
                refine lv_aload hx hb dX2_lastFewestBowls_61 (lv_at hl 0 rfl) ?_
                refine lv_astore_n (i := 2) (lv' := [(2, .ref (aS a (x5_14.toNatClampNeg))), (6, .ref (aS a (x5_14.toNatClampNeg))), (0, .ref (aO a 0)), (1, .ref (aK a j1)), (3, .ref (aO a 1)), (4, .int (12 : Int32)), (5, .int x5_14)]) hx hb dX2_lastFewestBowls_63 rfl hl (by decide) rfl (fun ls hl => ?_)
                refine lv_iinc (v := (x5_14 + (1 : Int32))) (lv' := [(5, .int (x5_14 + (1 : Int32))), (2, .ref (aS a (x5_14.toNatClampNeg))), (6, .ref (aS a (x5_14.toNatClampNeg))), (0, .ref (aO a 0)), (1, .ref (aK a j1)), (3, .ref (aO a 1)), (4, .int (12 : Int32))]) hx hb dX2_lastFewestBowls_64 hl (k := 6) rfl rfl (by decide) rfl (fun ls hl => ?_)
                refine lv_goto (tgt := 14) hx hb dX2_lastFewestBowls_67 (by decide) ?_
                exact ih (some (x5_14.toNatClampNeg)) (x5_14 + (1 : Int32))  ls (lv_sub hl [3, 4, 1, 5, 6, 0] rfl) h
  exact L14 FU none (0 : Int32)  ls (lv_sub hl [4, 5, 3, 2, 1, 0] rfl) h
set_option maxHeartbeats 4000000 in
set_option maxRecDepth 100000 in
theorem c_X2_moveToPack (l : Launch) (D : va_G) (c5 : Nat → ClassId) (a : KAd) (k : KSt) (hI : KI a) (sz : Nat) (j1 : Nat) (hj1 : j1 < kN k) (r : Int32 × KSt) (h : R_X2_moveToPack k j1 = some r) : Met l yX2_moveToPack (ws_ yX2_moveToPack cX2_moveToPack 4 (some .boolean)) { frames := 2, cells := 0, slots := 0, locals := 48 } (va_Pc [.ref (aO a 0), .ref (aK a j1)] (rwB D (tyG c5) (KW c5 a k) sz)) (va_Qi (fun x u => x = r.1 ∧ u = r.2) (rwE D (tyG c5) (va_A (KW c5 a k) sz) (fun u => KW c5 a u)) (va_A (KW c5 a k) sz)) 0 0 (va_A (KW c5 a k) sz) := by
  refine Met.ofW (cc := cX2_moveToPack) (maxL := 4) (ret := (some .boolean)) (by decide) rfl ?_
  intro p e s m args below meth c s₁ B hml hv
  obtain ⟨rfl, hsz, hP, hK, hD0⟩ := hv
  have hx := B.exec
  have hb := B.bytes
  have hr := B.returns
  have hts : ∀ w ∈ LA, w.before _ s = true := fun w hw => atoms_spec (ws := ws_ yX2_moveToPack cX2_moveToPack 4 (some .boolean)) B.pre w (List.mem_cons_of_mem _ hw)
  have hown : s.vm.findClass RX2 = some m.cls := findClass_of_methodNamed B.named
  have hlocks := B.notSynchronized
  subst hsz
  have hD := hD0.self (sz := s.heap.size)
  generalize hAe : va_A (KW c5 a k) s.heap.size = A at hD ⊢
  have hA : ∀ q : Nat, s.heap.size ≤ q → A q := fun q h => by rw [← hAe]; exact Or.inr h
  have hS : va_S A s.heap s.heap [] := va_S.rf
  have hl := lv_entry ([.ref (aO a 0), .ref (aK a j1)] : List Value) (n := 4) (Nat.le_of_ble_eq_true rfl)
  rw [lg_entry_eq]
  generalize (lg_sl ([.ref (aO a 0), .ref (aK a j1)] : List Value) ++ List.replicate (4 - (lg_sl ([.ref (aO a 0), .ref (aK a j1)] : List Value)).length) Slot.unset).toArray = ls at hl ⊢
  have hl : lv_has ls 4 [(0, .ref (aO a 0)), (1, .ref (aK a j1))] := hl
  unfold R_X2_moveToPack at h
  refine lv_aload_n hx hb dX2_moveToPack_0 rfl (lv_at hl 0 rfl) ?_
  refine lv_aload_n hx hb dX2_moveToPack_1 rfl (lv_at hl 1 rfl) ?_
  obtain ⟨v2, e2, h⟩ := o_bind h
  refine ro_calle (ro_runV (As := [.ref (aK a j1)]) (rest := []) ⟨hx, hb, hml, hown, hts⟩ hP hK (c_X2_lastFewestBowls l D c5 a k hI j1 hj1 v2 e2) gG_RX2_238 (va_recv hK hP (ci := 2) (q0 := 0) rfl (KW_0 c5 a k)) hd_X2_lastFewestBowls ⟨Nat.le_of_ble_eq_true rfl, Nat.le_of_ble_eq_true rfl⟩ ⟨rfl, rfl⟩ hl.1 (Nat.le_of_ble_eq_true rfl) dX2_moveToPack_2 ⟨Nat.zero_le _, Nat.zero_le _⟩ rfl) ?_
  refine qv_astore_n (i := 2) (lv' := [(2, va_rf (v2.map (aS a))), (0, .ref (aO a 0)), (1, .ref (aK a j1))]) hx hb dX2_moveToPack_5 rfl hl (by decide) rfl (fun ls hl => ?_)
  refine lv_aload_n hx hb dX2_moveToPack_6 rfl (lv_at hl 1 rfl) ?_
  refine lv_aload_n hx hb dX2_moveToPack_7 rfl (lv_at hl 2 rfl) ?_
  refine qv_aload_n hx hb dX2_moveToPack_8 rfl (lv_at hl 0 rfl) ?_
  obtain ⟨g9, h⟩ := o_if h
  obtain ⟨v9, e9, h⟩ := o_bind h
  refine ro_calle (ro_runV (As := [.ref (aK a j1), va_rf (v2.map (aS a))]) (rest := []) ⟨hx, hb, hml, hown, hts⟩ hP hK (c_X2_mostBowls l D c5 a k hI j1 hj1 v2 g9 v9 e9) gG_RX2_228 (va_recv hK hP (ci := 2) (q0 := 0) rfl (KW_0 c5 a k)) hd_X2_mostBowls ⟨Nat.le_of_ble_eq_true rfl, Nat.le_of_ble_eq_true rfl⟩ ⟨rfl, rfl⟩ hl.1 (Nat.le_of_ble_eq_true rfl) dX2_moveToPack_9 ⟨Nat.zero_le _, Nat.zero_le _⟩ rfl) ?_
  refine qv_astore_n (i := 3) (lv' := [(3, va_rf (v9.map (aS a))), (2, va_rf (v2.map (aS a))), (0, .ref (aO a 0)), (1, .ref (aK a j1))]) hx hb dX2_moveToPack_12 rfl hl (by decide) (by simp [va_rf_cat]) (fun ls hl => ?_)
  refine qv_aload_n hx hb dX2_moveToPack_13 rfl (lv_at hl 1 rfl) ?_
  cases v2 with
  | none =>
    have h := oe_n h
    have hl : lv_has ls 4 [(3, va_rf (v9.map (aS a))), (2, .null), (0, .ref (aO a 0)), (1, .ref (aK a j1))] := hl
    refine lv_ifnullN (tgt := 21) hx hb dX2_moveToPack_14 (by decide) ?_
    refine lv_iconst (v := (0 : Int32)) hx hb dX2_moveToPack_21 (by decide) ?_
    obtain rfl := (Option.some.inj h)
    exact rw_zret (wf := fun u => KW c5 a u) hx hb hr hlocks rfl hP hK hD hS dX2_moveToPack_22 rfl
  | some j14 =>
    obtain ⟨hj14, h⟩ := oe_sif h
    have hl : lv_has ls 4 [(3, va_rf (v9.map (aS a))), (2, .ref (aS a j14)), (0, .ref (aO a 0)), (1, .ref (aK a j1))] := hl
    refine lv_ifnull hx hb dX2_moveToPack_14 ?_
    refine qv_aload_n hx hb dX2_moveToPack_17 rfl (lv_at hl 0 rfl) ?_
    cases v9 with
    | none =>
      have h := oe_n h
      have hl : lv_has ls 4 [(3, .null), (2, .ref (aS a j14)), (0, .ref (aO a 0)), (1, .ref (aK a j1))] := hl
      refine lv_ifnonnullN hx hb dX2_moveToPack_18 ?_
      refine lv_iconst (v := (0 : Int32)) hx hb dX2_moveToPack_21 (by decide) ?_
      obtain rfl := (Option.some.inj h)
      exact rw_zret (wf := fun u => KW c5 a u) hx hb hr hlocks rfl hP hK hD hS dX2_moveToPack_22 rfl
    | some j18 =>
      obtain ⟨hj18, h⟩ := oe_sif h
      have hl : lv_has ls 4 [(3, .ref (aS a j18)), (2, .ref (aS a j14)), (0, .ref (aO a 0)), (1, .ref (aK a j1))] := hl
      refine lv_ifnonnull (tgt := 23) hx hb dX2_moveToPack_18 (by decide) ?_
      refine lv_aload_n hx hb dX2_moveToPack_23 rfl (lv_at hl 1 rfl) ?_
      refine lv_aload_n hx hb dX2_moveToPack_24 rfl (lv_at hl 1 rfl) ?_
      obtain ⟨v25, e25, h⟩ := o_bind h
      refine ro_calli (ro_runV (As := []) (rest := [.ref (aS a j14)]) ⟨hx, hb, hml, hown, hts⟩ hP hK (c_X1_lastBowl l D c5 a k hI j14 hj14 v25 e25) gG_RX2_241 (va_recv hK hP (ci := 1) (q0 := (3 + j14)) rfl (KW_S c5 a k hj14)) hd_X1_lastBowl ⟨Nat.le_of_ble_eq_true rfl, Nat.le_of_ble_eq_true rfl⟩ ⟨rfl, rfl⟩ hl.1 (Nat.le_of_ble_eq_true rfl) dX2_moveToPack_25 ⟨Nat.zero_le _, Nat.zero_le _⟩ rfl) ?_
      refine lv_aload_n hx hb dX2_moveToPack_28 rfl (lv_at hl 2 rfl) ?_
      refine va_get (D := D) (ci := 2) (v := .int (kG k 2)) (C := RX2) (T := TX2) (N := 7) hx hb hts iX2 hown hK hP 0 (KW_0 c5 a k) rfl 4 (by decide) (hts _ wT1_67) (fun _ h9 => h9) rfl dX2_moveToPack_29 ?_
      obtain ⟨v32, e32, h⟩ := o_bind h
      refine rw_callv (rw_runV (As := [.int v25, .int (kG k 2)]) (rest := []) ⟨hx, hb, hml, hown, hts⟩ hP hK hD (c_X1_removeBowl l D c5 a k hI s.heap.size j14 hj14 v25 (kG k 2) v32 e32) gG_RX2_101 (va_recv hK hP (ci := 1) (q0 := (3 + j14)) rfl (KW_S c5 a k hj14)) hd_X1_removeBowl ⟨Nat.le_of_ble_eq_true rfl, Nat.le_of_ble_eq_true rfl⟩ ⟨rfl, rfl⟩ hl.1 (Nat.le_of_ble_eq_true rfl) dX2_moveToPack_32 ⟨Nat.le_of_ble_eq_true rfl, Nat.le_of_ble_eq_true rfl⟩ rfl) hD hS hA (fun H locs hP hD hS => ?_)
      refine lv_aload_n hx hb dX2_moveToPack_35 rfl (lv_at hl 0 rfl) ?_
      refine lv_aload_n hx hb dX2_moveToPack_36 rfl (lv_at hl 0 rfl) ?_
      obtain ⟨v37, e37, h⟩ := o_bind h
      refine ro_calli (ro_runV (As := []) (rest := [.ref (aS a j18)]) ⟨hx, hb, hml, hown, hts⟩ hP hK (c_X1_firstGap l D c5 a v32 hI j18 hj18 v37 e37) gG_RX2_78 (va_recv hK hP (ci := 1) (q0 := (3 + j18)) rfl (KW_S c5 a v32 hj18)) hd_X1_firstGap ⟨Nat.le_of_ble_eq_true rfl, Nat.le_of_ble_eq_true rfl⟩ ⟨rfl, rfl⟩ hl.1 (Nat.le_of_ble_eq_true rfl) dX2_moveToPack_37 ⟨Nat.zero_le _, Nat.zero_le _⟩ rfl) ?_
      obtain ⟨v40, e40, h⟩ := o_bind h
      refine rw_callv (rw_runV (As := [.int v37]) (rest := []) ⟨hx, hb, hml, hown, hts⟩ hP hK hD (c_X1_addBowl l D c5 a v32 hI H.size j18 hj18 v37 v40 e40) gG_RX2_81 (va_recv hK hP (ci := 1) (q0 := (3 + j18)) rfl (KW_S c5 a v32 hj18)) hd_X1_addBowl ⟨Nat.le_of_ble_eq_true rfl, Nat.le_of_ble_eq_true rfl⟩ ⟨rfl, rfl⟩ hl.1 (Nat.le_of_ble_eq_true rfl) dX2_moveToPack_40 ⟨Nat.le_of_ble_eq_true rfl, Nat.le_of_ble_eq_true rfl⟩ rfl) hD hS hA (fun H locs hP hD hS => ?_)
      refine lv_iconst (v := (1 : Int32)) hx hb dX2_moveToPack_43 (by decide) ?_
      obtain rfl := (Option.some.inj h)
      exact rw_zret (wf := fun u => KW c5 a u) hx hb hr hlocks rfl hP hK hD hS dX2_moveToPack_44 rfl
set_option maxHeartbeats 4000000 in
set_option maxRecDepth 100000 in
theorem c_X2_shelvesOf (l : Launch) (D : va_G) (c5 : Nat → ClassId) (a : KAd) (k : KSt) (hI : KI a) (j1 : Nat) (hj1 : j1 < kN k) (r : Int32) (h : R_X2_shelvesOf k j1 = some r) : Met l yX2_shelvesOf (ws_ yX2_shelvesOf cX2_shelvesOf 7 (some .int)) { frames := 1, cells := 0, slots := 0, locals := 21 } (va_Pc [.ref (aO a 0), .ref (aK a j1)] (roB D (tyG c5) (KW c5 a k))) (vp_Si (fun x => x = r)) 0 0 (fun _ => False) := by
  refine Met.ofW (cc := cX2_shelvesOf) (maxL := 7) (ret := (some .int)) (by decide) rfl ?_
  intro p e s m args below meth c s₁ B hml hv
  obtain ⟨rfl, hP, hK⟩ := hv
  have hx := B.exec
  have hb := B.bytes
  have hr := B.returns
  have hts : ∀ w ∈ LA, w.before _ s = true := fun w hw => atoms_spec (ws := ws_ yX2_shelvesOf cX2_shelvesOf 7 (some .int)) B.pre w (List.mem_cons_of_mem _ hw)
  have hown : s.vm.findClass RX2 = some m.cls := findClass_of_methodNamed B.named
  have hlocks := B.notSynchronized
  have hl := lv_entry ([.ref (aO a 0), .ref (aK a j1)] : List Value) (n := 7) (Nat.le_of_ble_eq_true rfl)
  rw [lg_entry_eq]
  generalize (lg_sl ([.ref (aO a 0), .ref (aK a j1)] : List Value) ++ List.replicate (7 - (lg_sl ([.ref (aO a 0), .ref (aK a j1)] : List Value)).length) Slot.unset).toArray = ls at hl ⊢
  have hl : lv_has ls 7 [(0, .ref (aO a 0)), (1, .ref (aK a j1))] := hl
  unfold R_X2_shelvesOf at h
  refine lv_iconst (v := (0 : Int32)) hx hb dX2_shelvesOf_0 (by decide) ?_
  refine lv_istore_n (i := 2) (lv' := [(2, .int (0 : Int32)), (0, .ref (aO a 0)), (1, .ref (aK a j1))]) hx hb dX2_shelvesOf_1 rfl hl (by decide) rfl (fun ls hl => ?_)
  refine lv_aload_n hx hb dX2_shelvesOf_2 rfl (lv_at hl 1 rfl) ?_
  refine va_get (D := D) (ci := 2) (v := .ref (aO a 1)) (C := RX2) (T := TX2) (N := 7) hx hb hts iX2 hown hK hP 0 (KW_0 c5 a k) rfl 0 (by decide) (hts _ wT1_63) (fun _ h9 => h9) rfl dX2_shelvesOf_3 ?_
  refine lv_astore_n (i := 3) (lv' := [(3, .ref (aO a 1)), (2, .int (0 : Int32)), (0, .ref (aO a 0)), (1, .ref (aK a j1))]) hx hb dX2_shelvesOf_6 rfl hl (by decide) rfl (fun ls hl => ?_)
  refine lv_aload_n hx hb dX2_shelvesOf_7 rfl (lv_at hl 0 rfl) ?_
  refine va_alen (v := (12 : Int32)) hx hb hK hP 1 0 (KW_1 c5 a k) rfl rfl dX2_shelvesOf_8 ?_
  refine lv_istore (i := 4) (lv' := [(4, .int (12 : Int32)), (3, .ref (aO a 1)), (2, .int (0 : Int32)), (0, .ref (aO a 0)), (1, .ref (aK a j1))]) hx hb dX2_shelvesOf_9 hl (by decide) rfl (fun ls hl => ?_)
  refine lv_iconst (v := (0 : Int32)) hx hb dX2_shelvesOf_11 (by decide) ?_
  refine lv_istore (i := 5) (lv' := [(5, .int (0 : Int32)), (4, .int (12 : Int32)), (3, .ref (aO a 1)), (2, .int (0 : Int32)), (0, .ref (aO a 0)), (1, .ref (aK a j1))]) hx hb dX2_shelvesOf_12 hl (by decide) rfl (fun ls hl => ?_)
  have L14 : ∀ (n : Nat) (x2_14 : Int32) (x5_14 : Int32) (ls : Array Slot), lv_has ls 7 [(0, .ref (aO a 0)), (1, .ref (aK a j1)), (2, .int x2_14), (3, .ref (aO a 1)), (4, .int (12 : Int32)), (5, .int x5_14)] → R_X2_shelvesOf_L14 k j1 n x2_14 x5_14 = some r → W p l e (headSpec (ws_ yX2_shelvesOf cX2_shelvesOf 7 (some .int)) { frames := 1, cells := 0, slots := 0, locals := 21 }).room s m ([.ref (aO a 0), .ref (aK a j1)] : List Value).toArray below meth c s.heap [] 0 0 (MQ below (vp_Si (fun x => x = r)) ([.ref (aO a 0), .ref (aK a j1)] : List Value).toArray s 0 0 (fun _ => False)) (F0 m 14 ls []) := by
    intro n
    induction n with
    | zero =>
      intro x2_14 x5_14 ls hl h
      exact absurd h (by simp [R_X2_shelvesOf_L14])
    | succ n ih =>
      intro x2_14 x5_14 ls hl h
      rw [R_X2_shelvesOf_L14] at h
      refine lv_iload hx hb dX2_shelvesOf_14 (lv_at hl 5 rfl) ?_
      refine lv_iload hx hb dX2_shelvesOf_16 (lv_at hl 4 rfl) ?_
      refine lv_icmp_ge (tgt := 45) hx hb dX2_shelvesOf_18 (by decide) (fun q => ?_) (fun q => ?_)
      · have h := o_t h q
        refine lv_iload_n hx hb dX2_shelvesOf_45 rfl (lv_at hl 2 rfl) ?_
        exact ro_iret hx hb hr hlocks dX2_shelvesOf_46 (Option.some.inj h)
      · have h := o_f h q
        refine lv_aload_n hx hb dX2_shelvesOf_21 rfl (lv_at hl 3 rfl) ?_
        refine lv_iload hx hb dX2_shelvesOf_22 (lv_at hl 5 rfl) ?_
        obtain ⟨g24, h⟩ := o_if h
        refine va_aldS hx hb hK hP g24 dX2_shelvesOf_24 ?_
        refine lv_astore (i := 6) (lv' := [(6, .ref (aS a (x5_14.toNatClampNeg))), (0, .ref (aO a 0)), (1, .ref (aK a j1)), (2, .int x2_14), (3, .ref (aO a 1)), (4, .int (12 : Int32)), (5, .int x5_14)]) hx hb dX2_shelvesOf_25 hl (by decide) rfl (fun ls hl => ?_)
        refine lv_aload hx hb dX2_shelvesOf_27 (lv_at hl 0 rfl) ?_
        refine lv_aload_n hx hb dX2_shelvesOf_29 rfl (lv_at hl 2 rfl) ?_
        obtain ⟨v30, e30, h⟩ := o_bind h
        refine ro_calli (ro_runV (As := [.ref (aK a j1)]) (rest := []) ⟨hx, hb, hml, hown, hts⟩ hP hK (c_X1_isOf l D c5 a k hI (x5_14.toNatClampNeg) (inb_lt g24) j1 hj1 v30 e30) gG_RX2_235 (va_recv hK hP (ci := 1) (q0 := (3 + (x5_14.toNatClampNeg))) rfl (KW_S c5 a k (inb_lt g24))) hd_X1_isOf ⟨Nat.le_of_ble_eq_true rfl, Nat.le_of_ble_eq_true rfl⟩ ⟨rfl, rfl⟩ hl.1 (Nat.le_of_ble_eq_true rfl) dX2_shelvesOf_30 ⟨Nat.zero_le _, Nat.zero_le _⟩ rfl) ?_
        refine lv_if_eq (tgt := 39) hx hb dX2_shelvesOf_33 (by decide) (fun q => ?_) (fun q => ?_)
        · have h := o_t h q
          refine lv_iinc (v := (x5_14 + (1 : Int32))) (lv' := [(5, .int (x5_14 + (1 : Int32))), (6, .ref (aS a (x5_14.toNatClampNeg))), (0, .ref (aO a 0)), (1, .ref (aK a j1)), (2, .int x2_14), (3, .ref (aO a 1)), (4, .int (12 : Int32))]) hx hb dX2_shelvesOf_39 hl (k := 6) rfl rfl (by decide) rfl (fun ls hl => ?_)
          refine lv_goto (tgt := 14) hx hb dX2_shelvesOf_42 (by decide) ?_
          exact ih x2_14 (x5_14 + (1 : Int32))  ls (lv_sub hl [2, 3, 4, 5, 6, 0] rfl) h
        · have h := o_f h q
          refine lv_iinc (v := (x2_14 + (1 : Int32))) (lv' := [(2, .int (x2_14 + (1 : Int32))), (6, .ref (aS a (x5_14.toNatClampNeg))), (0, .ref (aO a 0)), (1, .ref (aK a j1)), (3, .ref (aO a 1)), (4, .int (12 : Int32)), (5, .int x5_14)]) hx hb dX2_shelvesOf_36 hl (k := 3) rfl rfl (by decide) rfl (fun ls hl => ?_)
          refine lv_iinc (v := (x5_14 + (1 : Int32))) (lv' := [(5, .int (x5_14 + (1 : Int32))), (2, .int (x2_14 + (1 : Int32))), (6, .ref (aS a (x5_14.toNatClampNeg))), (0, .ref (aO a 0)), (1, .ref (aK a j1)), (3, .ref (aO a 1)), (4, .int (12 : Int32))]) hx hb dX2_shelvesOf_39 hl (k := 6) rfl rfl (by decide) rfl (fun ls hl => ?_)
          refine lv_goto (tgt := 14) hx hb dX2_shelvesOf_42 (by decide) ?_
          exact ih (x2_14 + (1 : Int32)) (x5_14 + (1 : Int32))  ls (lv_sub hl [3, 4, 1, 5, 6, 0] rfl) h
  exact L14 FU (0 : Int32) (0 : Int32)  ls (lv_sub hl [4, 5, 3, 2, 1, 0] rfl) h
set_option maxHeartbeats 4000000 in
set_option maxRecDepth 100000 in
theorem c_X2_shelvesInState (l : Launch) (D : va_G) (c5 : Nat → ClassId) (a : KAd) (k : KSt) (hI : KI a) (j1 : Nat) (hj1 : j1 < kN k) (p2 : Int32) (r : Int32) (h : R_X2_shelvesInState k j1 p2 = some r) : Met l yX2_shelvesInState (ws_ yX2_shelvesInState cX2_shelvesInState 8 (some .int)) { frames := 1, cells := 0, slots := 0, locals := 21 } (va_Pc [.ref (aO a 0), .ref (aK a j1), .int p2] (roB D (tyG c5) (KW c5 a k))) (vp_Si (fun x => x = r)) 0 0 (fun _ => False) := by
  refine Met.ofW (cc := cX2_shelvesInState) (maxL := 8) (ret := (some .int)) (by decide) rfl ?_
  intro p e s m args below meth c s₁ B hml hv
  obtain ⟨rfl, hP, hK⟩ := hv
  have hx := B.exec
  have hb := B.bytes
  have hr := B.returns
  have hts : ∀ w ∈ LA, w.before _ s = true := fun w hw => atoms_spec (ws := ws_ yX2_shelvesInState cX2_shelvesInState 8 (some .int)) B.pre w (List.mem_cons_of_mem _ hw)
  have hown : s.vm.findClass RX2 = some m.cls := findClass_of_methodNamed B.named
  have hlocks := B.notSynchronized
  have hl := lv_entry ([.ref (aO a 0), .ref (aK a j1), .int p2] : List Value) (n := 8) (Nat.le_of_ble_eq_true rfl)
  rw [lg_entry_eq]
  generalize (lg_sl ([.ref (aO a 0), .ref (aK a j1), .int p2] : List Value) ++ List.replicate (8 - (lg_sl ([.ref (aO a 0), .ref (aK a j1), .int p2] : List Value)).length) Slot.unset).toArray = ls at hl ⊢
  have hl : lv_has ls 8 [(0, .ref (aO a 0)), (1, .ref (aK a j1)), (2, .int p2)] := hl
  unfold R_X2_shelvesInState at h
  refine lv_iconst (v := (0 : Int32)) hx hb dX2_shelvesInState_0 (by decide) ?_
  refine lv_istore_n (i := 3) (lv' := [(3, .int (0 : Int32)), (0, .ref (aO a 0)), (1, .ref (aK a j1)), (2, .int p2)]) hx hb dX2_shelvesInState_1 rfl hl (by decide) rfl (fun ls hl => ?_)
  refine lv_aload_n hx hb dX2_shelvesInState_2 rfl (lv_at hl 1 rfl) ?_
  refine va_get (D := D) (ci := 2) (v := .ref (aO a 1)) (C := RX2) (T := TX2) (N := 7) hx hb hts iX2 hown hK hP 0 (KW_0 c5 a k) rfl 0 (by decide) (hts _ wT1_63) (fun _ h9 => h9) rfl dX2_shelvesInState_3 ?_
  refine lv_astore (i := 4) (lv' := [(4, .ref (aO a 1)), (3, .int (0 : Int32)), (0, .ref (aO a 0)), (1, .ref (aK a j1)), (2, .int p2)]) hx hb dX2_shelvesInState_6 hl (by decide) rfl (fun ls hl => ?_)
  refine lv_aload hx hb dX2_shelvesInState_8 (lv_at hl 0 rfl) ?_
  refine va_alen (v := (12 : Int32)) hx hb hK hP 1 0 (KW_1 c5 a k) rfl rfl dX2_shelvesInState_10 ?_
  refine lv_istore (i := 5) (lv' := [(5, .int (12 : Int32)), (4, .ref (aO a 1)), (3, .int (0 : Int32)), (0, .ref (aO a 0)), (1, .ref (aK a j1)), (2, .int p2)]) hx hb dX2_shelvesInState_11 hl (by decide) rfl (fun ls hl => ?_)
  refine lv_iconst (v := (0 : Int32)) hx hb dX2_shelvesInState_13 (by decide) ?_
  refine lv_istore (i := 6) (lv' := [(6, .int (0 : Int32)), (5, .int (12 : Int32)), (4, .ref (aO a 1)), (3, .int (0 : Int32)), (0, .ref (aO a 0)), (1, .ref (aK a j1)), (2, .int p2)]) hx hb dX2_shelvesInState_14 hl (by decide) rfl (fun ls hl => ?_)
  have L16 : ∀ (n : Nat) (x3_16 : Int32) (x6_16 : Int32) (ls : Array Slot), lv_has ls 8 [(0, .ref (aO a 0)), (1, .ref (aK a j1)), (2, .int p2), (3, .int x3_16), (4, .ref (aO a 1)), (5, .int (12 : Int32)), (6, .int x6_16)] → R_X2_shelvesInState_L16 k j1 p2 n x3_16 x6_16 = some r → W p l e (headSpec (ws_ yX2_shelvesInState cX2_shelvesInState 8 (some .int)) { frames := 1, cells := 0, slots := 0, locals := 21 }).room s m ([.ref (aO a 0), .ref (aK a j1), .int p2] : List Value).toArray below meth c s.heap [] 0 0 (MQ below (vp_Si (fun x => x = r)) ([.ref (aO a 0), .ref (aK a j1), .int p2] : List Value).toArray s 0 0 (fun _ => False)) (F0 m 16 ls []) := by
    intro n
    induction n with
    | zero =>
      intro x3_16 x6_16 ls hl h
      exact absurd h (by simp [R_X2_shelvesInState_L16])
    | succ n ih =>
      intro x3_16 x6_16 ls hl h
      rw [R_X2_shelvesInState_L16] at h
      refine lv_iload hx hb dX2_shelvesInState_16 (lv_at hl 6 rfl) ?_
      refine lv_iload hx hb dX2_shelvesInState_18 (lv_at hl 5 rfl) ?_
      refine lv_icmp_ge (tgt := 57) hx hb dX2_shelvesInState_20 (by decide) (fun q => ?_) (fun q => ?_)
      · have h := o_t h q
        refine lv_iload_n hx hb dX2_shelvesInState_57 rfl (lv_at hl 3 rfl) ?_
        exact ro_iret hx hb hr hlocks dX2_shelvesInState_58 (Option.some.inj h)
      · have h := o_f h q
        refine lv_aload hx hb dX2_shelvesInState_23 (lv_at hl 4 rfl) ?_
        refine lv_iload hx hb dX2_shelvesInState_25 (lv_at hl 6 rfl) ?_
        obtain ⟨g27, h⟩ := o_if h
        refine va_aldS hx hb hK hP g27 dX2_shelvesInState_27 ?_
        refine lv_astore (i := 7) (lv' := [(7, .ref (aS a (x6_16.toNatClampNeg))), (0, .ref (aO a 0)), (1, .ref (aK a j1)), (2, .int p2), (3, .int x3_16), (4, .ref (aO a 1)), (5, .int (12 : Int32)), (6, .int x6_16)]) hx hb dX2_shelvesInState_28 hl (by decide) rfl (fun ls hl => ?_)
        refine lv_aload hx hb dX2_shelvesInState_30 (lv_at hl 0 rfl) ?_
        refine lv_aload_n hx hb dX2_shelvesInState_32 rfl (lv_at hl 2 rfl) ?_
        obtain ⟨v33, e33, h⟩ := o_bind h
        refine ro_calli (ro_runV (As := [.ref (aK a j1)]) (rest := []) ⟨hx, hb, hml, hown, hts⟩ hP hK (c_X1_isOf l D c5 a k hI (x6_16.toNatClampNeg) (inb_lt g27) j1 hj1 v33 e33) gG_RX2_235 (va_recv hK hP (ci := 1) (q0 := (3 + (x6_16.toNatClampNeg))) rfl (KW_S c5 a k (inb_lt g27))) hd_X1_isOf ⟨Nat.le_of_ble_eq_true rfl, Nat.le_of_ble_eq_true rfl⟩ ⟨rfl, rfl⟩ hl.1 (Nat.le_of_ble_eq_true rfl) dX2_shelvesInState_33 ⟨Nat.zero_le _, Nat.zero_le _⟩ rfl) ?_
        refine lv_if_eq (tgt := 51) hx hb dX2_shelvesInState_36 (by decide) (fun q => ?_) (fun q => ?_)
        · have h := o_t h q
          refine lv_iinc (v := (x6_16 + (1 : Int32))) (lv' := [(6, .int (x6_16 + (1 : Int32))), (7, .ref (aS a (x6_16.toNatClampNeg))), (0, .ref (aO a 0)), (1, .ref (aK a j1)), (2, .int p2), (3, .int x3_16), (4, .ref (aO a 1)), (5, .int (12 : Int32))]) hx hb dX2_shelvesInState_51 hl (k := 7) rfl rfl (by decide) rfl (fun ls hl => ?_)
          refine lv_goto (tgt := 16) hx hb dX2_shelvesInState_54 (by decide) ?_
          exact ih x3_16 (x6_16 + (1 : Int32))  ls (lv_sub hl [2, 3, 4, 5, 6, 7, 0] rfl) h
        · have h := o_f h q
          refine lv_aload hx hb dX2_shelvesInState_39 (lv_at hl 0 rfl) ?_
          obtain ⟨v41, e41, h⟩ := o_bind h
          refine ro_calli (ro_runV (As := []) (rest := []) ⟨hx, hb, hml, hown, hts⟩ hP hK (c_X1_state l D c5 a k hI (x6_16.toNatClampNeg) (inb_lt g27) v41 e41) gG_RX2_70 (va_recv hK hP (ci := 1) (q0 := (3 + (x6_16.toNatClampNeg))) rfl (KW_S c5 a k (inb_lt g27))) hd_X1_state ⟨Nat.le_of_ble_eq_true rfl, Nat.le_of_ble_eq_true rfl⟩ ⟨rfl, rfl⟩ hl.1 (Nat.le_of_ble_eq_true rfl) dX2_shelvesInState_41 ⟨Nat.zero_le _, Nat.zero_le _⟩ rfl) ?_
          refine lv_iload_n hx hb dX2_shelvesInState_44 rfl (lv_at hl 3 rfl) ?_
          refine lv_icmp_ne (tgt := 51) hx hb dX2_shelvesInState_45 (by decide) (fun q => ?_) (fun q => ?_)
          · have h := o_t' h q
            refine lv_iinc (v := (x6_16 + (1 : Int32))) (lv' := [(6, .int (x6_16 + (1 : Int32))), (7, .ref (aS a (x6_16.toNatClampNeg))), (0, .ref (aO a 0)), (1, .ref (aK a j1)), (2, .int p2), (3, .int x3_16), (4, .ref (aO a 1)), (5, .int (12 : Int32))]) hx hb dX2_shelvesInState_51 hl (k := 7) rfl rfl (by decide) rfl (fun ls hl => ?_)
            refine lv_goto (tgt := 16) hx hb dX2_shelvesInState_54 (by decide) ?_
            exact ih x3_16 (x6_16 + (1 : Int32))  ls (lv_sub hl [2, 3, 4, 5, 6, 7, 0] rfl) h
          · have h := o_f' h q
            refine lv_iinc (v := (x3_16 + (1 : Int32))) (lv' := [(3, .int (x3_16 + (1 : Int32))), (7, .ref (aS a (x6_16.toNatClampNeg))), (0, .ref (aO a 0)), (1, .ref (aK a j1)), (2, .int p2), (4, .ref (aO a 1)), (5, .int (12 : Int32)), (6, .int x6_16)]) hx hb dX2_shelvesInState_48 hl (k := 4) rfl rfl (by decide) rfl (fun ls hl => ?_)
            refine lv_iinc (v := (x6_16 + (1 : Int32))) (lv' := [(6, .int (x6_16 + (1 : Int32))), (3, .int (x3_16 + (1 : Int32))), (7, .ref (aS a (x6_16.toNatClampNeg))), (0, .ref (aO a 0)), (1, .ref (aK a j1)), (2, .int p2), (4, .ref (aO a 1)), (5, .int (12 : Int32))]) hx hb dX2_shelvesInState_51 hl (k := 7) rfl rfl (by decide) rfl (fun ls hl => ?_)
            refine lv_goto (tgt := 16) hx hb dX2_shelvesInState_54 (by decide) ?_
            exact ih (x3_16 + (1 : Int32)) (x6_16 + (1 : Int32))  ls (lv_sub hl [3, 4, 5, 1, 6, 7, 0] rfl) h
  exact L16 FU (0 : Int32) (0 : Int32)  ls (lv_sub hl [4, 5, 6, 3, 2, 1, 0] rfl) h
set_option maxHeartbeats 4000000 in
set_option maxRecDepth 100000 in
theorem c_X2_bowlsOf (l : Launch) (D : va_G) (c5 : Nat → ClassId) (a : KAd) (k : KSt) (hI : KI a) (j1 : Nat) (hj1 : j1 < kN k) (r : Int32) (h : R_X2_bowlsOf k j1 = some r) : Met l yX2_bowlsOf (ws_ yX2_bowlsOf cX2_bowlsOf 7 (some .int)) { frames := 1, cells := 0, slots := 0, locals := 21 } (va_Pc [.ref (aO a 0), .ref (aK a j1)] (roB D (tyG c5) (KW c5 a k))) (vp_Si (fun x => x = r)) 0 0 (fun _ => False) := by
  refine Met.ofW (cc := cX2_bowlsOf) (maxL := 7) (ret := (some .int)) (by decide) rfl ?_
  intro p e s m args below meth c s₁ B hml hv
  obtain ⟨rfl, hP, hK⟩ := hv
  have hx := B.exec
  have hb := B.bytes
  have hr := B.returns
  have hts : ∀ w ∈ LA, w.before _ s = true := fun w hw => atoms_spec (ws := ws_ yX2_bowlsOf cX2_bowlsOf 7 (some .int)) B.pre w (List.mem_cons_of_mem _ hw)
  have hown : s.vm.findClass RX2 = some m.cls := findClass_of_methodNamed B.named
  have hlocks := B.notSynchronized
  have hl := lv_entry ([.ref (aO a 0), .ref (aK a j1)] : List Value) (n := 7) (Nat.le_of_ble_eq_true rfl)
  rw [lg_entry_eq]
  generalize (lg_sl ([.ref (aO a 0), .ref (aK a j1)] : List Value) ++ List.replicate (7 - (lg_sl ([.ref (aO a 0), .ref (aK a j1)] : List Value)).length) Slot.unset).toArray = ls at hl ⊢
  have hl : lv_has ls 7 [(0, .ref (aO a 0)), (1, .ref (aK a j1))] := hl
  unfold R_X2_bowlsOf at h
  refine lv_iconst (v := (0 : Int32)) hx hb dX2_bowlsOf_0 (by decide) ?_
  refine lv_istore_n (i := 2) (lv' := [(2, .int (0 : Int32)), (0, .ref (aO a 0)), (1, .ref (aK a j1))]) hx hb dX2_bowlsOf_1 rfl hl (by decide) rfl (fun ls hl => ?_)
  refine lv_aload_n hx hb dX2_bowlsOf_2 rfl (lv_at hl 1 rfl) ?_
  refine va_get (D := D) (ci := 2) (v := .ref (aO a 1)) (C := RX2) (T := TX2) (N := 7) hx hb hts iX2 hown hK hP 0 (KW_0 c5 a k) rfl 0 (by decide) (hts _ wT1_63) (fun _ h9 => h9) rfl dX2_bowlsOf_3 ?_
  refine lv_astore_n (i := 3) (lv' := [(3, .ref (aO a 1)), (2, .int (0 : Int32)), (0, .ref (aO a 0)), (1, .ref (aK a j1))]) hx hb dX2_bowlsOf_6 rfl hl (by decide) rfl (fun ls hl => ?_)
  refine lv_aload_n hx hb dX2_bowlsOf_7 rfl (lv_at hl 0 rfl) ?_
  refine va_alen (v := (12 : Int32)) hx hb hK hP 1 0 (KW_1 c5 a k) rfl rfl dX2_bowlsOf_8 ?_
  refine lv_istore (i := 4) (lv' := [(4, .int (12 : Int32)), (3, .ref (aO a 1)), (2, .int (0 : Int32)), (0, .ref (aO a 0)), (1, .ref (aK a j1))]) hx hb dX2_bowlsOf_9 hl (by decide) rfl (fun ls hl => ?_)
  refine lv_iconst (v := (0 : Int32)) hx hb dX2_bowlsOf_11 (by decide) ?_
  refine lv_istore (i := 5) (lv' := [(5, .int (0 : Int32)), (4, .int (12 : Int32)), (3, .ref (aO a 1)), (2, .int (0 : Int32)), (0, .ref (aO a 0)), (1, .ref (aK a j1))]) hx hb dX2_bowlsOf_12 hl (by decide) rfl (fun ls hl => ?_)
  have L14 : ∀ (n : Nat) (x2_14 : Int32) (x5_14 : Int32) (ls : Array Slot), lv_has ls 7 [(0, .ref (aO a 0)), (1, .ref (aK a j1)), (2, .int x2_14), (3, .ref (aO a 1)), (4, .int (12 : Int32)), (5, .int x5_14)] → R_X2_bowlsOf_L14 k j1 n x2_14 x5_14 = some r → W p l e (headSpec (ws_ yX2_bowlsOf cX2_bowlsOf 7 (some .int)) { frames := 1, cells := 0, slots := 0, locals := 21 }).room s m ([.ref (aO a 0), .ref (aK a j1)] : List Value).toArray below meth c s.heap [] 0 0 (MQ below (vp_Si (fun x => x = r)) ([.ref (aO a 0), .ref (aK a j1)] : List Value).toArray s 0 0 (fun _ => False)) (F0 m 14 ls []) := by
    intro n
    induction n with
    | zero =>
      intro x2_14 x5_14 ls hl h
      exact absurd h (by simp [R_X2_bowlsOf_L14])
    | succ n ih =>
      intro x2_14 x5_14 ls hl h
      rw [R_X2_bowlsOf_L14] at h
      refine lv_iload hx hb dX2_bowlsOf_14 (lv_at hl 5 rfl) ?_
      refine lv_iload hx hb dX2_bowlsOf_16 (lv_at hl 4 rfl) ?_
      refine lv_icmp_ge (tgt := 50) hx hb dX2_bowlsOf_18 (by decide) (fun q => ?_) (fun q => ?_)
      · have h := o_t h q
        refine lv_iload_n hx hb dX2_bowlsOf_50 rfl (lv_at hl 2 rfl) ?_
        exact ro_iret hx hb hr hlocks dX2_bowlsOf_51 (Option.some.inj h)
      · have h := o_f h q
        refine lv_aload_n hx hb dX2_bowlsOf_21 rfl (lv_at hl 3 rfl) ?_
        refine lv_iload hx hb dX2_bowlsOf_22 (lv_at hl 5 rfl) ?_
        obtain ⟨g24, h⟩ := o_if h
        refine va_aldS hx hb hK hP g24 dX2_bowlsOf_24 ?_
        refine lv_astore (i := 6) (lv' := [(6, .ref (aS a (x5_14.toNatClampNeg))), (0, .ref (aO a 0)), (1, .ref (aK a j1)), (2, .int x2_14), (3, .ref (aO a 1)), (4, .int (12 : Int32)), (5, .int x5_14)]) hx hb dX2_bowlsOf_25 hl (by decide) rfl (fun ls hl => ?_)
        refine lv_aload hx hb dX2_bowlsOf_27 (lv_at hl 0 rfl) ?_
        refine lv_aload_n hx hb dX2_bowlsOf_29 rfl (lv_at hl 2 rfl) ?_
        obtain ⟨v30, e30, h⟩ := o_bind h
        refine ro_calli (ro_runV (As := [.ref (aK a j1)]) (rest := []) ⟨hx, hb, hml, hown, hts⟩ hP hK (c_X1_isOf l D c5 a k hI (x5_14.toNatClampNeg) (inb_lt g24) j1 hj1 v30 e30) gG_RX2_235 (va_recv hK hP (ci := 1) (q0 := (3 + (x5_14.toNatClampNeg))) rfl (KW_S c5 a k (inb_lt g24))) hd_X1_isOf ⟨Nat.le_of_ble_eq_true rfl, Nat.le_of_ble_eq_true rfl⟩ ⟨rfl, rfl⟩ hl.1 (Nat.le_of_ble_eq_true rfl) dX2_bowlsOf_30 ⟨Nat.zero_le _, Nat.zero_le _⟩ rfl) ?_
        refine lv_if_eq (tgt := 44) hx hb dX2_bowlsOf_33 (by decide) (fun q => ?_) (fun q => ?_)
        · have h := o_t h q
          refine lv_iinc (v := (x5_14 + (1 : Int32))) (lv' := [(5, .int (x5_14 + (1 : Int32))), (6, .ref (aS a (x5_14.toNatClampNeg))), (0, .ref (aO a 0)), (1, .ref (aK a j1)), (2, .int x2_14), (3, .ref (aO a 1)), (4, .int (12 : Int32))]) hx hb dX2_bowlsOf_44 hl (k := 6) rfl rfl (by decide) rfl (fun ls hl => ?_)
          refine lv_goto (tgt := 14) hx hb dX2_bowlsOf_47 (by decide) ?_
          exact ih x2_14 (x5_14 + (1 : Int32))  ls (lv_sub hl [2, 3, 4, 5, 6, 0] rfl) h
        · have h := o_f h q
          refine lv_iload_n hx hb dX2_bowlsOf_36 rfl (lv_at hl 3 rfl) ?_
          refine lv_aload hx hb dX2_bowlsOf_37 (lv_at hl 0 rfl) ?_
          refine va_get (D := D) (ci := 1) (v := .int (kS k 6 (x5_14.toNatClampNeg))) (C := RX1) (T := TX1) (N := 8) hx hb hts iX1 hown hK hP (3 + (x5_14.toNatClampNeg)) (KW_S c5 a k (inb_lt g24)) rfl 6 (by decide) (hts _ wT1_42) (fun _ h9 => h9) rfl dX2_bowlsOf_39 ?_
          refine lv_iadd hx hb dX2_bowlsOf_42 ?_
          refine lv_istore_n (i := 2) (lv' := [(2, .int (x2_14 + (kS k 6 (x5_14.toNatClampNeg)))), (6, .ref (aS a (x5_14.toNatClampNeg))), (0, .ref (aO a 0)), (1, .ref (aK a j1)), (3, .ref (aO a 1)), (4, .int (12 : Int32)), (5, .int x5_14)]) hx hb dX2_bowlsOf_43 rfl hl (by decide) rfl (fun ls hl => ?_)
          refine lv_iinc (v := (x5_14 + (1 : Int32))) (lv' := [(5, .int (x5_14 + (1 : Int32))), (2, .int (x2_14 + (kS k 6 (x5_14.toNatClampNeg)))), (6, .ref (aS a (x5_14.toNatClampNeg))), (0, .ref (aO a 0)), (1, .ref (aK a j1)), (3, .ref (aO a 1)), (4, .int (12 : Int32))]) hx hb dX2_bowlsOf_44 hl (k := 6) rfl rfl (by decide) rfl (fun ls hl => ?_)
          refine lv_goto (tgt := 14) hx hb dX2_bowlsOf_47 (by decide) ?_
          exact ih (x2_14 + (kS k 6 (x5_14.toNatClampNeg))) (x5_14 + (1 : Int32))  ls (lv_sub hl [3, 4, 1, 5, 6, 0] rfl) h
  exact L14 FU (0 : Int32) (0 : Int32)  ls (lv_sub hl [4, 5, 3, 2, 1, 0] rfl) h
set_option maxHeartbeats 4000000 in
set_option maxRecDepth 100000 in
theorem c_X2_answerAbout (l : Launch) (D : va_G) (c5 : Nat → ClassId) (a : KAd) (k : KSt) (hI : KI a) (j1 : Nat) (hj1 : j1 < kN k) (p2 : Int32) (r : Int32) (h : R_X2_answerAbout k j1 p2 = some r) : Met l yX2_answerAbout (ws_ yX2_answerAbout cX2_answerAbout 3 (some .int)) { frames := 2, cells := 0, slots := 0, locals := 48 } (va_Pc [.ref (aO a 0), .ref (aK a j1), .int p2] (roB D (tyG c5) (KW c5 a k))) (vp_Si (fun x => x = r)) 0 0 (fun _ => False) := by
  refine Met.ofW (cc := cX2_answerAbout) (maxL := 3) (ret := (some .int)) (by decide) rfl ?_
  intro p e s m args below meth c s₁ B hml hv
  obtain ⟨rfl, hP, hK⟩ := hv
  have hx := B.exec
  have hb := B.bytes
  have hr := B.returns
  have hts : ∀ w ∈ LA, w.before _ s = true := fun w hw => atoms_spec (ws := ws_ yX2_answerAbout cX2_answerAbout 3 (some .int)) B.pre w (List.mem_cons_of_mem _ hw)
  have hown : s.vm.findClass RX2 = some m.cls := findClass_of_methodNamed B.named
  have hlocks := B.notSynchronized
  have hl := lv_entry ([.ref (aO a 0), .ref (aK a j1), .int p2] : List Value) (n := 3) (Nat.le_of_ble_eq_true rfl)
  rw [lg_entry_eq]
  generalize (lg_sl ([.ref (aO a 0), .ref (aK a j1), .int p2] : List Value) ++ List.replicate (3 - (lg_sl ([.ref (aO a 0), .ref (aK a j1), .int p2] : List Value)).length) Slot.unset).toArray = ls at hl ⊢
  have hl : lv_has ls 3 [(0, .ref (aO a 0)), (1, .ref (aK a j1)), (2, .int p2)] := hl
  unfold R_X2_answerAbout at h
  refine lv_iload_n hx hb dX2_answerAbout_0 rfl (lv_at hl 2 rfl) ?_
  rcases Decidable.em (p2 = 0) with c1_0 | c1_0
  · have h := o_t h c1_0
    refine lv_tableIn (off := 47) (tgt := 48) hx hb dX2_answerAbout_1 (by rw [c1_0]; decide) (by rw [c1_0]; decide) (by rw [c1_0]; rfl) (by decide) ?_
    refine lv_aload_n hx hb dX2_answerAbout_48 rfl (lv_at hl 1 rfl) ?_
    refine va_get (D := D) (ci := 0) (v := .int (kK k 1 j1)) (C := RX0) (T := TX0) (N := 6) hx hb hts iX0 hown hK hP (27 + j1) (KW_K c5 a k hj1) rfl 1 (by decide) (hts _ wT2_93) (fun _ h9 => h9) rfl dX2_answerAbout_49 ?_
    exact ro_iret hx hb hr hlocks dX2_answerAbout_52 (Option.some.inj h)
  · have h := o_f h c1_0
    rcases Decidable.em (p2 = 1) with c1_1 | c1_1
    · have h := o_t h c1_1
      refine lv_tableIn (off := 52) (tgt := 53) hx hb dX2_answerAbout_1 (by rw [c1_1]; decide) (by rw [c1_1]; decide) (by rw [c1_1]; rfl) (by decide) ?_
      refine lv_aload_n hx hb dX2_answerAbout_53 rfl (lv_at hl 1 rfl) ?_
      refine va_get (D := D) (ci := 0) (v := .int (kK k 2 j1)) (C := RX0) (T := TX0) (N := 6) hx hb hts iX0 hown hK hP (27 + j1) (KW_K c5 a k hj1) rfl 2 (by decide) (hts _ wT2_96) (fun _ h9 => h9) rfl dX2_answerAbout_54 ?_
      exact ro_iret hx hb hr hlocks dX2_answerAbout_57 (Option.some.inj h)
    · have h := o_f h c1_1
      rcases Decidable.em (p2 = 2) with c1_2 | c1_2
      · have h := o_t h c1_2
        refine lv_tableIn (off := 57) (tgt := 58) hx hb dX2_answerAbout_1 (by rw [c1_2]; decide) (by rw [c1_2]; decide) (by rw [c1_2]; rfl) (by decide) ?_
        refine lv_aload_n hx hb dX2_answerAbout_58 rfl (lv_at hl 1 rfl) ?_
        refine va_get (D := D) (ci := 0) (v := .int (kK k 3 j1)) (C := RX0) (T := TX0) (N := 6) hx hb hts iX0 hown hK hP (27 + j1) (KW_K c5 a k hj1) rfl 3 (by decide) (hts _ wT2_98) (fun _ h9 => h9) rfl dX2_answerAbout_59 ?_
        exact ro_iret hx hb hr hlocks dX2_answerAbout_62 (Option.some.inj h)
      · have h := o_f h c1_2
        rcases Decidable.em (p2 = 3) with c1_3 | c1_3
        · have h := o_t h c1_3
          refine lv_tableIn (off := 62) (tgt := 63) hx hb dX2_answerAbout_1 (by rw [c1_3]; decide) (by rw [c1_3]; decide) (by rw [c1_3]; rfl) (by decide) ?_
          refine lv_aload_n hx hb dX2_answerAbout_63 rfl (lv_at hl 0 rfl) ?_
          refine lv_aload_n hx hb dX2_answerAbout_64 rfl (lv_at hl 1 rfl) ?_
          obtain ⟨v65, e65, h⟩ := o_bind h
          refine ro_calli (ro_runV (As := [.ref (aK a j1)]) (rest := []) ⟨hx, hb, hml, hown, hts⟩ hP hK (c_X2_shelvesOf l D c5 a k hI j1 hj1 v65 e65) gG_RX2_199 (va_recv hK hP (ci := 2) (q0 := 0) rfl (KW_0 c5 a k)) hd_X2_shelvesOf ⟨Nat.le_of_ble_eq_true rfl, Nat.le_of_ble_eq_true rfl⟩ ⟨rfl, rfl⟩ hl.1 (Nat.le_of_ble_eq_true rfl) dX2_answerAbout_65 ⟨Nat.zero_le _, Nat.zero_le _⟩ rfl) ?_
          exact ro_iret hx hb hr hlocks dX2_answerAbout_68 (Option.some.inj h)
        · have h := o_f h c1_3
          rcases Decidable.em (p2 = 4) with c1_4 | c1_4
          · have h := o_t h c1_4
            refine lv_tableIn (off := 68) (tgt := 69) hx hb dX2_answerAbout_1 (by rw [c1_4]; decide) (by rw [c1_4]; decide) (by rw [c1_4]; rfl) (by decide) ?_
            refine lv_aload_n hx hb dX2_answerAbout_69 rfl (lv_at hl 0 rfl) ?_
            refine lv_aload_n hx hb dX2_answerAbout_70 rfl (lv_at hl 1 rfl) ?_
            refine lv_iconst (v := (3 : Int32)) hx hb dX2_answerAbout_71 (by decide) ?_
            obtain ⟨v72, e72, h⟩ := o_bind h
            refine ro_calli (ro_runV (As := [.ref (aK a j1), .int (3 : Int32)]) (rest := []) ⟨hx, hb, hml, hown, hts⟩ hP hK (c_X2_shelvesInState l D c5 a k hI j1 hj1 (3 : Int32) v72 e72) gG_RX2_202 (va_recv hK hP (ci := 2) (q0 := 0) rfl (KW_0 c5 a k)) hd_X2_shelvesInState ⟨Nat.le_of_ble_eq_true rfl, Nat.le_of_ble_eq_true rfl⟩ ⟨rfl, rfl⟩ hl.1 (Nat.le_of_ble_eq_true rfl) dX2_answerAbout_72 ⟨Nat.zero_le _, Nat.zero_le _⟩ rfl) ?_
            exact ro_iret hx hb hr hlocks dX2_answerAbout_75 (Option.some.inj h)
          · have h := o_f h c1_4
            rcases Decidable.em (p2 = 5) with c1_5 | c1_5
            · have h := o_t h c1_5
              refine lv_tableIn (off := 75) (tgt := 76) hx hb dX2_answerAbout_1 (by rw [c1_5]; decide) (by rw [c1_5]; decide) (by rw [c1_5]; rfl) (by decide) ?_
              refine lv_aload_n hx hb dX2_answerAbout_76 rfl (lv_at hl 0 rfl) ?_
              refine lv_aload_n hx hb dX2_answerAbout_77 rfl (lv_at hl 1 rfl) ?_
              refine lv_iconst (v := (2 : Int32)) hx hb dX2_answerAbout_78 (by decide) ?_
              obtain ⟨v79, e79, h⟩ := o_bind h
              refine ro_calli (ro_runV (As := [.ref (aK a j1), .int (2 : Int32)]) (rest := []) ⟨hx, hb, hml, hown, hts⟩ hP hK (c_X2_shelvesInState l D c5 a k hI j1 hj1 (2 : Int32) v79 e79) gG_RX2_202 (va_recv hK hP (ci := 2) (q0 := 0) rfl (KW_0 c5 a k)) hd_X2_shelvesInState ⟨Nat.le_of_ble_eq_true rfl, Nat.le_of_ble_eq_true rfl⟩ ⟨rfl, rfl⟩ hl.1 (Nat.le_of_ble_eq_true rfl) dX2_answerAbout_79 ⟨Nat.zero_le _, Nat.zero_le _⟩ rfl) ?_
              exact ro_iret hx hb hr hlocks dX2_answerAbout_82 (Option.some.inj h)
            · have h := o_f h c1_5
              rcases Decidable.em (p2 = 6) with c1_6 | c1_6
              · have h := o_t h c1_6
                refine lv_tableIn (off := 82) (tgt := 83) hx hb dX2_answerAbout_1 (by rw [c1_6]; decide) (by rw [c1_6]; decide) (by rw [c1_6]; rfl) (by decide) ?_
                refine lv_aload_n hx hb dX2_answerAbout_83 rfl (lv_at hl 0 rfl) ?_
                refine lv_aload_n hx hb dX2_answerAbout_84 rfl (lv_at hl 1 rfl) ?_
                refine lv_iconst (v := (1 : Int32)) hx hb dX2_answerAbout_85 (by decide) ?_
                obtain ⟨v86, e86, h⟩ := o_bind h
                refine ro_calli (ro_runV (As := [.ref (aK a j1), .int (1 : Int32)]) (rest := []) ⟨hx, hb, hml, hown, hts⟩ hP hK (c_X2_shelvesInState l D c5 a k hI j1 hj1 (1 : Int32) v86 e86) gG_RX2_202 (va_recv hK hP (ci := 2) (q0 := 0) rfl (KW_0 c5 a k)) hd_X2_shelvesInState ⟨Nat.le_of_ble_eq_true rfl, Nat.le_of_ble_eq_true rfl⟩ ⟨rfl, rfl⟩ hl.1 (Nat.le_of_ble_eq_true rfl) dX2_answerAbout_86 ⟨Nat.zero_le _, Nat.zero_le _⟩ rfl) ?_
                exact ro_iret hx hb hr hlocks dX2_answerAbout_89 (Option.some.inj h)
              · have h := o_f h c1_6
                rcases Decidable.em (p2 = 7) with c1_7 | c1_7
                · have h := o_t h c1_7
                  refine lv_tableIn (off := 89) (tgt := 90) hx hb dX2_answerAbout_1 (by rw [c1_7]; decide) (by rw [c1_7]; decide) (by rw [c1_7]; rfl) (by decide) ?_
                  refine lv_aload_n hx hb dX2_answerAbout_90 rfl (lv_at hl 0 rfl) ?_
                  refine lv_aload_n hx hb dX2_answerAbout_91 rfl (lv_at hl 1 rfl) ?_
                  obtain ⟨v92, e92, h⟩ := o_bind h
                  refine ro_calli (ro_runV (As := [.ref (aK a j1)]) (rest := []) ⟨hx, hb, hml, hown, hts⟩ hP hK (c_X2_bowlsOf l D c5 a k hI j1 hj1 v92 e92) gG_RX2_205 (va_recv hK hP (ci := 2) (q0 := 0) rfl (KW_0 c5 a k)) hd_X2_bowlsOf ⟨Nat.le_of_ble_eq_true rfl, Nat.le_of_ble_eq_true rfl⟩ ⟨rfl, rfl⟩ hl.1 (Nat.le_of_ble_eq_true rfl) dX2_answerAbout_92 ⟨Nat.zero_le _, Nat.zero_le _⟩ rfl) ?_
                  exact ro_iret hx hb hr hlocks dX2_answerAbout_95 (Option.some.inj h)
                · have h := o_f h c1_7
                  have n1_0 := lv_neT (a := 0) c1_0 rfl
                  have n1_1 := lv_neT (a := 1) c1_1 rfl
                  have n1_2 := lv_neT (a := 2) c1_2 rfl
                  have n1_3 := lv_neT (a := 3) c1_3 rfl
                  have n1_4 := lv_neT (a := 4) c1_4 rfl
                  have n1_5 := lv_neT (a := 5) c1_5 rfl
                  have n1_6 := lv_neT (a := 6) c1_6 rfl
                  have n1_7 := lv_neT (a := 7) c1_7 rfl
                  refine lv_tableOut (tgt := 96) hx hb dX2_answerAbout_1 (by omega) (by decide) ?_
                  refine lv_aload_n hx hb dX2_answerAbout_96 rfl (lv_at hl 1 rfl) ?_
                  refine va_get (D := D) (ci := 0) (v := .int (kK k 4 j1)) (C := RX0) (T := TX0) (N := 6) hx hb hts iX0 hown hK hP (27 + j1) (KW_K c5 a k hj1) rfl 4 (by decide) (hts _ wT2_100) (fun _ h9 => h9) rfl dX2_answerAbout_97 ?_
                  exact ro_iret hx hb hr hlocks dX2_answerAbout_100 (Option.some.inj h)
set_option maxHeartbeats 4000000 in
set_option maxRecDepth 100000 in
theorem c_X2_freeShelves (l : Launch) (D : va_G) (c5 : Nat → ClassId) (a : KAd) (k : KSt) (hI : KI a) (r : Int32) (h : R_X2_freeShelves k = some r) : Met l yX2_freeShelves (ws_ yX2_freeShelves cX2_freeShelves 6 (some .int)) { frames := 1, cells := 0, slots := 0, locals := 20 } (va_Pc [.ref (aO a 0)] (roB D (tyG c5) (KW c5 a k))) (vp_Si (fun x => x = r)) 0 0 (fun _ => False) := by
  refine Met.ofW (cc := cX2_freeShelves) (maxL := 6) (ret := (some .int)) (by decide) rfl ?_
  intro p e s m args below meth c s₁ B hml hv
  obtain ⟨rfl, hP, hK⟩ := hv
  have hx := B.exec
  have hb := B.bytes
  have hr := B.returns
  have hts : ∀ w ∈ LA, w.before _ s = true := fun w hw => atoms_spec (ws := ws_ yX2_freeShelves cX2_freeShelves 6 (some .int)) B.pre w (List.mem_cons_of_mem _ hw)
  have hown : s.vm.findClass RX2 = some m.cls := findClass_of_methodNamed B.named
  have hlocks := B.notSynchronized
  have hl := lv_entry ([.ref (aO a 0)] : List Value) (n := 6) (Nat.le_of_ble_eq_true rfl)
  rw [lg_entry_eq]
  generalize (lg_sl ([.ref (aO a 0)] : List Value) ++ List.replicate (6 - (lg_sl ([.ref (aO a 0)] : List Value)).length) Slot.unset).toArray = ls at hl ⊢
  have hl : lv_has ls 6 [(0, .ref (aO a 0))] := hl
  unfold R_X2_freeShelves at h
  refine lv_iconst (v := (0 : Int32)) hx hb dX2_freeShelves_0 (by decide) ?_
  refine lv_istore_n (i := 1) (lv' := [(1, .int (0 : Int32)), (0, .ref (aO a 0))]) hx hb dX2_freeShelves_1 rfl hl (by decide) rfl (fun ls hl => ?_)
  refine lv_aload_n hx hb dX2_freeShelves_2 rfl (lv_at hl 1 rfl) ?_
  refine va_get (D := D) (ci := 2) (v := .ref (aO a 1)) (C := RX2) (T := TX2) (N := 7) hx hb hts iX2 hown hK hP 0 (KW_0 c5 a k) rfl 0 (by decide) (hts _ wT1_63) (fun _ h9 => h9) rfl dX2_freeShelves_3 ?_
  refine lv_astore_n (i := 2) (lv' := [(2, .ref (aO a 1)), (1, .int (0 : Int32)), (0, .ref (aO a 0))]) hx hb dX2_freeShelves_6 rfl hl (by decide) rfl (fun ls hl => ?_)
  refine lv_aload_n hx hb dX2_freeShelves_7 rfl (lv_at hl 0 rfl) ?_
  refine va_alen (v := (12 : Int32)) hx hb hK hP 1 0 (KW_1 c5 a k) rfl rfl dX2_freeShelves_8 ?_
  refine lv_istore_n (i := 3) (lv' := [(3, .int (12 : Int32)), (2, .ref (aO a 1)), (1, .int (0 : Int32)), (0, .ref (aO a 0))]) hx hb dX2_freeShelves_9 rfl hl (by decide) rfl (fun ls hl => ?_)
  refine lv_iconst (v := (0 : Int32)) hx hb dX2_freeShelves_10 (by decide) ?_
  refine lv_istore (i := 4) (lv' := [(4, .int (0 : Int32)), (3, .int (12 : Int32)), (2, .ref (aO a 1)), (1, .int (0 : Int32)), (0, .ref (aO a 0))]) hx hb dX2_freeShelves_11 hl (by decide) rfl (fun ls hl => ?_)
  have L13 : ∀ (n : Nat) (x1_13 : Int32) (x4_13 : Int32) (ls : Array Slot), lv_has ls 6 [(0, .ref (aO a 0)), (1, .int x1_13), (2, .ref (aO a 1)), (3, .int (12 : Int32)), (4, .int x4_13)] → R_X2_freeShelves_L13 k n x1_13 x4_13 = some r → W p l e (headSpec (ws_ yX2_freeShelves cX2_freeShelves 6 (some .int)) { frames := 1, cells := 0, slots := 0, locals := 20 }).room s m ([.ref (aO a 0)] : List Value).toArray below meth c s.heap [] 0 0 (MQ below (vp_Si (fun x => x = r)) ([.ref (aO a 0)] : List Value).toArray s 0 0 (fun _ => False)) (F0 m 13 ls []) := by
    intro n
    induction n with
    | zero =>
      intro x1_13 x4_13 ls hl h
      exact absurd h (by simp [R_X2_freeShelves_L13])
    | succ n ih =>
      intro x1_13 x4_13 ls hl h
      rw [R_X2_freeShelves_L13] at h
      refine lv_iload hx hb dX2_freeShelves_13 (lv_at hl 4 rfl) ?_
      refine lv_iload_n hx hb dX2_freeShelves_15 rfl (lv_at hl 3 rfl) ?_
      refine lv_icmp_ge (tgt := 42) hx hb dX2_freeShelves_16 (by decide) (fun q => ?_) (fun q => ?_)
      · have h := o_t h q
        refine lv_iload_n hx hb dX2_freeShelves_42 rfl (lv_at hl 1 rfl) ?_
        exact ro_iret hx hb hr hlocks dX2_freeShelves_43 (Option.some.inj h)
      · have h := o_f h q
        refine lv_aload_n hx hb dX2_freeShelves_19 rfl (lv_at hl 2 rfl) ?_
        refine lv_iload hx hb dX2_freeShelves_20 (lv_at hl 4 rfl) ?_
        obtain ⟨g22, h⟩ := o_if h
        refine va_aldS hx hb hK hP g22 dX2_freeShelves_22 ?_
        refine lv_astore (i := 5) (lv' := [(5, .ref (aS a (x4_13.toNatClampNeg))), (0, .ref (aO a 0)), (1, .int x1_13), (2, .ref (aO a 1)), (3, .int (12 : Int32)), (4, .int x4_13)]) hx hb dX2_freeShelves_23 hl (by decide) rfl (fun ls hl => ?_)
        refine lv_aload hx hb dX2_freeShelves_25 (lv_at hl 0 rfl) ?_
        obtain ⟨v27, e27, h⟩ := o_bind h
        refine ro_calli (ro_runV (As := []) (rest := []) ⟨hx, hb, hml, hown, hts⟩ hP hK (c_X1_state l D c5 a k hI (x4_13.toNatClampNeg) (inb_lt g22) v27 e27) gG_RX2_70 (va_recv hK hP (ci := 1) (q0 := (3 + (x4_13.toNatClampNeg))) rfl (KW_S c5 a k (inb_lt g22))) hd_X1_state ⟨Nat.le_of_ble_eq_true rfl, Nat.le_of_ble_eq_true rfl⟩ ⟨rfl, rfl⟩ hl.1 (Nat.le_of_ble_eq_true rfl) dX2_freeShelves_27 ⟨Nat.zero_le _, Nat.zero_le _⟩ rfl) ?_
        refine lv_if_ne (tgt := 36) hx hb dX2_freeShelves_30 (by decide) (fun q => ?_) (fun q => ?_)
        · have h := o_t' h q
          refine lv_iinc (v := (x4_13 + (1 : Int32))) (lv' := [(4, .int (x4_13 + (1 : Int32))), (5, .ref (aS a (x4_13.toNatClampNeg))), (0, .ref (aO a 0)), (1, .int x1_13), (2, .ref (aO a 1)), (3, .int (12 : Int32))]) hx hb dX2_freeShelves_36 hl (k := 5) rfl rfl (by decide) rfl (fun ls hl => ?_)
          refine lv_goto (tgt := 13) hx hb dX2_freeShelves_39 (by decide) ?_
          exact ih x1_13 (x4_13 + (1 : Int32))  ls (lv_sub hl [2, 3, 4, 5, 0] rfl) h
        · have h := o_f' h q
          refine lv_iinc (v := (x1_13 + (1 : Int32))) (lv' := [(1, .int (x1_13 + (1 : Int32))), (5, .ref (aS a (x4_13.toNatClampNeg))), (0, .ref (aO a 0)), (2, .ref (aO a 1)), (3, .int (12 : Int32)), (4, .int x4_13)]) hx hb dX2_freeShelves_33 hl (k := 2) rfl rfl (by decide) rfl (fun ls hl => ?_)
          refine lv_iinc (v := (x4_13 + (1 : Int32))) (lv' := [(4, .int (x4_13 + (1 : Int32))), (1, .int (x1_13 + (1 : Int32))), (5, .ref (aS a (x4_13.toNatClampNeg))), (0, .ref (aO a 0)), (2, .ref (aO a 1)), (3, .int (12 : Int32))]) hx hb dX2_freeShelves_36 hl (k := 5) rfl rfl (by decide) rfl (fun ls hl => ?_)
          refine lv_goto (tgt := 13) hx hb dX2_freeShelves_39 (by decide) ?_
          exact ih (x1_13 + (1 : Int32)) (x4_13 + (1 : Int32))  ls (lv_sub hl [3, 1, 4, 5, 0] rfl) h
  exact L13 FU (0 : Int32) (0 : Int32)  ls (lv_sub hl [4, 3, 2, 1, 0] rfl) h
set_option maxHeartbeats 4000000 in
set_option maxRecDepth 100000 in
theorem c_X2_bowlsInAll (l : Launch) (D : va_G) (c5 : Nat → ClassId) (a : KAd) (k : KSt) (hI : KI a) (r : Int32) (h : R_X2_bowlsInAll k = some r) : Met l yX2_bowlsInAll (ws_ yX2_bowlsInAll cX2_bowlsInAll 6 (some .int)) { frames := 0, cells := 0, slots := 0, locals := 0 } (va_Pc [.ref (aO a 0)] (roB D (tyG c5) (KW c5 a k))) (vp_Si (fun x => x = r)) 0 0 (fun _ => False) := by
  refine Met.ofW (cc := cX2_bowlsInAll) (maxL := 6) (ret := (some .int)) (by decide) rfl ?_
  intro p e s m args below meth c s₁ B hml hv
  obtain ⟨rfl, hP, hK⟩ := hv
  have hx := B.exec
  have hb := B.bytes
  have hr := B.returns
  have hts : ∀ w ∈ LA, w.before _ s = true := fun w hw => atoms_spec (ws := ws_ yX2_bowlsInAll cX2_bowlsInAll 6 (some .int)) B.pre w (List.mem_cons_of_mem _ hw)
  have hown : s.vm.findClass RX2 = some m.cls := findClass_of_methodNamed B.named
  have hlocks := B.notSynchronized
  have hl := lv_entry ([.ref (aO a 0)] : List Value) (n := 6) (Nat.le_of_ble_eq_true rfl)
  rw [lg_entry_eq]
  generalize (lg_sl ([.ref (aO a 0)] : List Value) ++ List.replicate (6 - (lg_sl ([.ref (aO a 0)] : List Value)).length) Slot.unset).toArray = ls at hl ⊢
  have hl : lv_has ls 6 [(0, .ref (aO a 0))] := hl
  unfold R_X2_bowlsInAll at h
  refine lv_iconst (v := (0 : Int32)) hx hb dX2_bowlsInAll_0 (by decide) ?_
  refine lv_istore_n (i := 1) (lv' := [(1, .int (0 : Int32)), (0, .ref (aO a 0))]) hx hb dX2_bowlsInAll_1 rfl hl (by decide) rfl (fun ls hl => ?_)
  refine lv_aload_n hx hb dX2_bowlsInAll_2 rfl (lv_at hl 1 rfl) ?_
  refine va_get (D := D) (ci := 2) (v := .ref (aO a 1)) (C := RX2) (T := TX2) (N := 7) hx hb hts iX2 hown hK hP 0 (KW_0 c5 a k) rfl 0 (by decide) (hts _ wT1_63) (fun _ h9 => h9) rfl dX2_bowlsInAll_3 ?_
  refine lv_astore_n (i := 2) (lv' := [(2, .ref (aO a 1)), (1, .int (0 : Int32)), (0, .ref (aO a 0))]) hx hb dX2_bowlsInAll_6 rfl hl (by decide) rfl (fun ls hl => ?_)
  refine lv_aload_n hx hb dX2_bowlsInAll_7 rfl (lv_at hl 0 rfl) ?_
  refine va_alen (v := (12 : Int32)) hx hb hK hP 1 0 (KW_1 c5 a k) rfl rfl dX2_bowlsInAll_8 ?_
  refine lv_istore_n (i := 3) (lv' := [(3, .int (12 : Int32)), (2, .ref (aO a 1)), (1, .int (0 : Int32)), (0, .ref (aO a 0))]) hx hb dX2_bowlsInAll_9 rfl hl (by decide) rfl (fun ls hl => ?_)
  refine lv_iconst (v := (0 : Int32)) hx hb dX2_bowlsInAll_10 (by decide) ?_
  refine lv_istore (i := 4) (lv' := [(4, .int (0 : Int32)), (3, .int (12 : Int32)), (2, .ref (aO a 1)), (1, .int (0 : Int32)), (0, .ref (aO a 0))]) hx hb dX2_bowlsInAll_11 hl (by decide) rfl (fun ls hl => ?_)
  have L13 : ∀ (n : Nat) (x1_13 : Int32) (x4_13 : Int32) (ls : Array Slot), lv_has ls 6 [(0, .ref (aO a 0)), (1, .int x1_13), (2, .ref (aO a 1)), (3, .int (12 : Int32)), (4, .int x4_13)] → R_X2_bowlsInAll_L13 k n x1_13 x4_13 = some r → W p l e (headSpec (ws_ yX2_bowlsInAll cX2_bowlsInAll 6 (some .int)) { frames := 0, cells := 0, slots := 0, locals := 0 }).room s m ([.ref (aO a 0)] : List Value).toArray below meth c s.heap [] 0 0 (MQ below (vp_Si (fun x => x = r)) ([.ref (aO a 0)] : List Value).toArray s 0 0 (fun _ => False)) (F0 m 13 ls []) := by
    intro n
    induction n with
    | zero =>
      intro x1_13 x4_13 ls hl h
      exact absurd h (by simp [R_X2_bowlsInAll_L13])
    | succ n ih =>
      intro x1_13 x4_13 ls hl h
      rw [R_X2_bowlsInAll_L13] at h
      refine lv_iload hx hb dX2_bowlsInAll_13 (lv_at hl 4 rfl) ?_
      refine lv_iload_n hx hb dX2_bowlsInAll_15 rfl (lv_at hl 3 rfl) ?_
      refine lv_icmp_ge (tgt := 39) hx hb dX2_bowlsInAll_16 (by decide) (fun q => ?_) (fun q => ?_)
      · have h := o_t h q
        refine lv_iload_n hx hb dX2_bowlsInAll_39 rfl (lv_at hl 1 rfl) ?_
        exact ro_iret hx hb hr hlocks dX2_bowlsInAll_40 (Option.some.inj h)
      · have h := o_f h q
        refine lv_aload_n hx hb dX2_bowlsInAll_19 rfl (lv_at hl 2 rfl) ?_
        refine lv_iload hx hb dX2_bowlsInAll_20 (lv_at hl 4 rfl) ?_
        obtain ⟨g22, h⟩ := o_if h
        refine va_aldS hx hb hK hP g22 dX2_bowlsInAll_22 ?_
        refine lv_astore (i := 5) (lv' := [(5, .ref (aS a (x4_13.toNatClampNeg))), (0, .ref (aO a 0)), (1, .int x1_13), (2, .ref (aO a 1)), (3, .int (12 : Int32)), (4, .int x4_13)]) hx hb dX2_bowlsInAll_23 hl (by decide) rfl (fun ls hl => ?_)
        refine lv_iload_n hx hb dX2_bowlsInAll_25 rfl (lv_at hl 2 rfl) ?_
        refine lv_aload hx hb dX2_bowlsInAll_26 (lv_at hl 0 rfl) ?_
        refine va_get (D := D) (ci := 1) (v := .int (kS k 6 (x4_13.toNatClampNeg))) (C := RX1) (T := TX1) (N := 8) hx hb hts iX1 hown hK hP (3 + (x4_13.toNatClampNeg)) (KW_S c5 a k (inb_lt g22)) rfl 6 (by decide) (hts _ wT1_42) (fun _ h9 => h9) rfl dX2_bowlsInAll_28 ?_
        refine lv_iadd hx hb dX2_bowlsInAll_31 ?_
        refine lv_istore_n (i := 1) (lv' := [(1, .int (x1_13 + (kS k 6 (x4_13.toNatClampNeg)))), (5, .ref (aS a (x4_13.toNatClampNeg))), (0, .ref (aO a 0)), (2, .ref (aO a 1)), (3, .int (12 : Int32)), (4, .int x4_13)]) hx hb dX2_bowlsInAll_32 rfl hl (by decide) rfl (fun ls hl => ?_)
        refine lv_iinc (v := (x4_13 + (1 : Int32))) (lv' := [(4, .int (x4_13 + (1 : Int32))), (1, .int (x1_13 + (kS k 6 (x4_13.toNatClampNeg)))), (5, .ref (aS a (x4_13.toNatClampNeg))), (0, .ref (aO a 0)), (2, .ref (aO a 1)), (3, .int (12 : Int32))]) hx hb dX2_bowlsInAll_33 hl (k := 5) rfl rfl (by decide) rfl (fun ls hl => ?_)
        refine lv_goto (tgt := 13) hx hb dX2_bowlsInAll_36 (by decide) ?_
        exact ih (x1_13 + (kS k 6 (x4_13.toNatClampNeg))) (x4_13 + (1 : Int32))  ls (lv_sub hl [3, 1, 4, 5, 0] rfl) h
  exact L13 FU (0 : Int32) (0 : Int32)  ls (lv_sub hl [4, 3, 2, 1, 0] rfl) h
set_option maxHeartbeats 4000000 in
set_option maxRecDepth 100000 in
theorem c_X2_spansUnderBowls (l : Launch) (D : va_G) (c5 : Nat → ClassId) (a : KAd) (k : KSt) (hI : KI a) (r : Int32) (h : R_X2_spansUnderBowls k = some r) : Met l yX2_spansUnderBowls (ws_ yX2_spansUnderBowls cX2_spansUnderBowls 6 (some .int)) { frames := 0, cells := 0, slots := 0, locals := 0 } (va_Pc [.ref (aO a 0)] (roB D (tyG c5) (KW c5 a k))) (vp_Si (fun x => x = r)) 0 0 (fun _ => False) := by
  refine Met.ofW (cc := cX2_spansUnderBowls) (maxL := 6) (ret := (some .int)) (by decide) rfl ?_
  intro p e s m args below meth c s₁ B hml hv
  obtain ⟨rfl, hP, hK⟩ := hv
  have hx := B.exec
  have hb := B.bytes
  have hr := B.returns
  have hts : ∀ w ∈ LA, w.before _ s = true := fun w hw => atoms_spec (ws := ws_ yX2_spansUnderBowls cX2_spansUnderBowls 6 (some .int)) B.pre w (List.mem_cons_of_mem _ hw)
  have hown : s.vm.findClass RX2 = some m.cls := findClass_of_methodNamed B.named
  have hlocks := B.notSynchronized
  have hl := lv_entry ([.ref (aO a 0)] : List Value) (n := 6) (Nat.le_of_ble_eq_true rfl)
  rw [lg_entry_eq]
  generalize (lg_sl ([.ref (aO a 0)] : List Value) ++ List.replicate (6 - (lg_sl ([.ref (aO a 0)] : List Value)).length) Slot.unset).toArray = ls at hl ⊢
  have hl : lv_has ls 6 [(0, .ref (aO a 0))] := hl
  unfold R_X2_spansUnderBowls at h
  refine lv_iconst (v := (0 : Int32)) hx hb dX2_spansUnderBowls_0 (by decide) ?_
  refine lv_istore_n (i := 1) (lv' := [(1, .int (0 : Int32)), (0, .ref (aO a 0))]) hx hb dX2_spansUnderBowls_1 rfl hl (by decide) rfl (fun ls hl => ?_)
  refine lv_aload_n hx hb dX2_spansUnderBowls_2 rfl (lv_at hl 1 rfl) ?_
  refine va_get (D := D) (ci := 2) (v := .ref (aO a 1)) (C := RX2) (T := TX2) (N := 7) hx hb hts iX2 hown hK hP 0 (KW_0 c5 a k) rfl 0 (by decide) (hts _ wT1_63) (fun _ h9 => h9) rfl dX2_spansUnderBowls_3 ?_
  refine lv_astore_n (i := 2) (lv' := [(2, .ref (aO a 1)), (1, .int (0 : Int32)), (0, .ref (aO a 0))]) hx hb dX2_spansUnderBowls_6 rfl hl (by decide) rfl (fun ls hl => ?_)
  refine lv_aload_n hx hb dX2_spansUnderBowls_7 rfl (lv_at hl 0 rfl) ?_
  refine va_alen (v := (12 : Int32)) hx hb hK hP 1 0 (KW_1 c5 a k) rfl rfl dX2_spansUnderBowls_8 ?_
  refine lv_istore_n (i := 3) (lv' := [(3, .int (12 : Int32)), (2, .ref (aO a 1)), (1, .int (0 : Int32)), (0, .ref (aO a 0))]) hx hb dX2_spansUnderBowls_9 rfl hl (by decide) rfl (fun ls hl => ?_)
  refine lv_iconst (v := (0 : Int32)) hx hb dX2_spansUnderBowls_10 (by decide) ?_
  refine lv_istore (i := 4) (lv' := [(4, .int (0 : Int32)), (3, .int (12 : Int32)), (2, .ref (aO a 1)), (1, .int (0 : Int32)), (0, .ref (aO a 0))]) hx hb dX2_spansUnderBowls_11 hl (by decide) rfl (fun ls hl => ?_)
  have L13 : ∀ (n : Nat) (x1_13 : Int32) (x4_13 : Int32) (ls : Array Slot), lv_has ls 6 [(0, .ref (aO a 0)), (1, .int x1_13), (2, .ref (aO a 1)), (3, .int (12 : Int32)), (4, .int x4_13)] → R_X2_spansUnderBowls_L13 k n x1_13 x4_13 = some r → W p l e (headSpec (ws_ yX2_spansUnderBowls cX2_spansUnderBowls 6 (some .int)) { frames := 0, cells := 0, slots := 0, locals := 0 }).room s m ([.ref (aO a 0)] : List Value).toArray below meth c s.heap [] 0 0 (MQ below (vp_Si (fun x => x = r)) ([.ref (aO a 0)] : List Value).toArray s 0 0 (fun _ => False)) (F0 m 13 ls []) := by
    intro n
    induction n with
    | zero =>
      intro x1_13 x4_13 ls hl h
      exact absurd h (by simp [R_X2_spansUnderBowls_L13])
    | succ n ih =>
      intro x1_13 x4_13 ls hl h
      rw [R_X2_spansUnderBowls_L13] at h
      refine lv_iload hx hb dX2_spansUnderBowls_13 (lv_at hl 4 rfl) ?_
      refine lv_iload_n hx hb dX2_spansUnderBowls_15 rfl (lv_at hl 3 rfl) ?_
      refine lv_icmp_ge (tgt := 45) hx hb dX2_spansUnderBowls_16 (by decide) (fun q => ?_) (fun q => ?_)
      · have h := o_t h q
        refine lv_iload_n hx hb dX2_spansUnderBowls_45 rfl (lv_at hl 1 rfl) ?_
        exact ro_iret hx hb hr hlocks dX2_spansUnderBowls_46 (Option.some.inj h)
      · have h := o_f h q
        refine lv_aload_n hx hb dX2_spansUnderBowls_19 rfl (lv_at hl 2 rfl) ?_
        refine lv_iload hx hb dX2_spansUnderBowls_20 (lv_at hl 4 rfl) ?_
        obtain ⟨g22, h⟩ := o_if h
        refine va_aldS hx hb hK hP g22 dX2_spansUnderBowls_22 ?_
        refine lv_astore (i := 5) (lv' := [(5, .ref (aS a (x4_13.toNatClampNeg))), (0, .ref (aO a 0)), (1, .int x1_13), (2, .ref (aO a 1)), (3, .int (12 : Int32)), (4, .int x4_13)]) hx hb dX2_spansUnderBowls_23 hl (by decide) rfl (fun ls hl => ?_)
        refine lv_iload_n hx hb dX2_spansUnderBowls_25 rfl (lv_at hl 2 rfl) ?_
        refine lv_aload hx hb dX2_spansUnderBowls_26 (lv_at hl 0 rfl) ?_
        refine va_get (D := D) (ci := 1) (v := .int (kS k 6 (x4_13.toNatClampNeg))) (C := RX1) (T := TX1) (N := 8) hx hb hts iX1 hown hK hP (3 + (x4_13.toNatClampNeg)) (KW_S c5 a k (inb_lt g22)) rfl 6 (by decide) (hts _ wT1_42) (fun _ h9 => h9) rfl dX2_spansUnderBowls_28 ?_
        refine lv_aload hx hb dX2_spansUnderBowls_31 (lv_at hl 0 rfl) ?_
        refine va_get (D := D) (ci := 1) (v := .int (kS k 3 (x4_13.toNatClampNeg))) (C := RX1) (T := TX1) (N := 8) hx hb hts iX1 hown hK hP (3 + (x4_13.toNatClampNeg)) (KW_S c5 a k (inb_lt g22)) rfl 3 (by decide) (hts _ wT1_37) (fun _ h9 => h9) rfl dX2_spansUnderBowls_33 ?_
        refine lv_imul hx hb dX2_spansUnderBowls_36 ?_
        refine lv_iadd hx hb dX2_spansUnderBowls_37 ?_
        refine lv_istore_n (i := 1) (lv' := [(1, .int (x1_13 + ((kS k 6 (x4_13.toNatClampNeg)) * (kS k 3 (x4_13.toNatClampNeg))))), (5, .ref (aS a (x4_13.toNatClampNeg))), (0, .ref (aO a 0)), (2, .ref (aO a 1)), (3, .int (12 : Int32)), (4, .int x4_13)]) hx hb dX2_spansUnderBowls_38 rfl hl (by decide) rfl (fun ls hl => ?_)
        refine lv_iinc (v := (x4_13 + (1 : Int32))) (lv' := [(4, .int (x4_13 + (1 : Int32))), (1, .int (x1_13 + ((kS k 6 (x4_13.toNatClampNeg)) * (kS k 3 (x4_13.toNatClampNeg))))), (5, .ref (aS a (x4_13.toNatClampNeg))), (0, .ref (aO a 0)), (2, .ref (aO a 1)), (3, .int (12 : Int32))]) hx hb dX2_spansUnderBowls_39 hl (k := 5) rfl rfl (by decide) rfl (fun ls hl => ?_)
        refine lv_goto (tgt := 13) hx hb dX2_spansUnderBowls_42 (by decide) ?_
        exact ih (x1_13 + ((kS k 6 (x4_13.toNatClampNeg)) * (kS k 3 (x4_13.toNatClampNeg)))) (x4_13 + (1 : Int32))  ls (lv_sub hl [3, 1, 4, 5, 0] rfl) h
  exact L13 FU (0 : Int32) (0 : Int32)  ls (lv_sub hl [4, 3, 2, 1, 0] rfl) h
set_option maxHeartbeats 4000000 in
set_option maxRecDepth 100000 in
theorem c_X2_takenShelves (l : Launch) (D : va_G) (c5 : Nat → ClassId) (a : KAd) (k : KSt) (hI : KI a) (r : Int32) (h : R_X2_takenShelves k = some r) : Met l yX2_takenShelves (ws_ yX2_takenShelves cX2_takenShelves 1 (some .int)) { frames := 2, cells := 0, slots := 0, locals := 45 } (va_Pc [.ref (aO a 0)] (roB D (tyG c5) (KW c5 a k))) (vp_Si (fun x => x = r)) 0 0 (fun _ => False) := by
  refine Met.ofW (cc := cX2_takenShelves) (maxL := 1) (ret := (some .int)) (by decide) rfl ?_
  intro p e s m args below meth c s₁ B hml hv
  obtain ⟨rfl, hP, hK⟩ := hv
  have hx := B.exec
  have hb := B.bytes
  have hr := B.returns
  have hts : ∀ w ∈ LA, w.before _ s = true := fun w hw => atoms_spec (ws := ws_ yX2_takenShelves cX2_takenShelves 1 (some .int)) B.pre w (List.mem_cons_of_mem _ hw)
  have hown : s.vm.findClass RX2 = some m.cls := findClass_of_methodNamed B.named
  have hlocks := B.notSynchronized
  have hl := lv_entry ([.ref (aO a 0)] : List Value) (n := 1) (Nat.le_of_ble_eq_true rfl)
  rw [lg_entry_eq]
  generalize (lg_sl ([.ref (aO a 0)] : List Value) ++ List.replicate (1 - (lg_sl ([.ref (aO a 0)] : List Value)).length) Slot.unset).toArray = ls at hl ⊢
  have hl : lv_has ls 1 [(0, .ref (aO a 0))] := hl
  unfold R_X2_takenShelves at h
  refine lv_bipush (v := (12 : Int32)) hx hb dX2_takenShelves_0 (by decide) ?_
  refine lv_aload_n hx hb dX2_takenShelves_2 rfl (lv_at hl 0 rfl) ?_
  obtain ⟨v3, e3, h⟩ := o_bind h
  refine ro_calli (ro_runV (As := []) (rest := [.int (12 : Int32)]) ⟨hx, hb, hml, hown, hts⟩ hP hK (c_X2_freeShelves l D c5 a k hI  v3 e3) gG_RX2_134 (va_recv hK hP (ci := 2) (q0 := 0) rfl (KW_0 c5 a k)) hd_X2_freeShelves ⟨Nat.le_of_ble_eq_true rfl, Nat.le_of_ble_eq_true rfl⟩ ⟨rfl, rfl⟩ hl.1 (Nat.le_of_ble_eq_true rfl) dX2_takenShelves_3 ⟨Nat.zero_le _, Nat.zero_le _⟩ rfl) ?_
  refine lv_isub hx hb dX2_takenShelves_6 ?_
  exact ro_iret hx hb hr hlocks dX2_takenShelves_7 (Option.some.inj h)
set_option maxHeartbeats 4000000 in
set_option maxRecDepth 100000 in
theorem c_X2_spansOfNoPlace (l : Launch) (D : va_G) (c5 : Nat → ClassId) (a : KAd) (k : KSt) (hI : KI a) (r : Int32) (h : R_X2_spansOfNoPlace k = some r) : Met l yX2_spansOfNoPlace (ws_ yX2_spansOfNoPlace cX2_spansOfNoPlace 6 (some .int)) { frames := 1, cells := 0, slots := 0, locals := 20 } (va_Pc [.ref (aO a 0)] (roB D (tyG c5) (KW c5 a k))) (vp_Si (fun x => x = r)) 0 0 (fun _ => False) := by
  refine Met.ofW (cc := cX2_spansOfNoPlace) (maxL := 6) (ret := (some .int)) (by decide) rfl ?_
  intro p e s m args below meth c s₁ B hml hv
  obtain ⟨rfl, hP, hK⟩ := hv
  have hx := B.exec
  have hb := B.bytes
  have hr := B.returns
  have hts : ∀ w ∈ LA, w.before _ s = true := fun w hw => atoms_spec (ws := ws_ yX2_spansOfNoPlace cX2_spansOfNoPlace 6 (some .int)) B.pre w (List.mem_cons_of_mem _ hw)
  have hown : s.vm.findClass RX2 = some m.cls := findClass_of_methodNamed B.named
  have hlocks := B.notSynchronized
  have hl := lv_entry ([.ref (aO a 0)] : List Value) (n := 6) (Nat.le_of_ble_eq_true rfl)
  rw [lg_entry_eq]
  generalize (lg_sl ([.ref (aO a 0)] : List Value) ++ List.replicate (6 - (lg_sl ([.ref (aO a 0)] : List Value)).length) Slot.unset).toArray = ls at hl ⊢
  have hl : lv_has ls 6 [(0, .ref (aO a 0))] := hl
  unfold R_X2_spansOfNoPlace at h
  refine lv_iconst (v := (0 : Int32)) hx hb dX2_spansOfNoPlace_0 (by decide) ?_
  refine lv_istore_n (i := 1) (lv' := [(1, .int (0 : Int32)), (0, .ref (aO a 0))]) hx hb dX2_spansOfNoPlace_1 rfl hl (by decide) rfl (fun ls hl => ?_)
  refine lv_aload_n hx hb dX2_spansOfNoPlace_2 rfl (lv_at hl 1 rfl) ?_
  refine va_get (D := D) (ci := 2) (v := .ref (aO a 1)) (C := RX2) (T := TX2) (N := 7) hx hb hts iX2 hown hK hP 0 (KW_0 c5 a k) rfl 0 (by decide) (hts _ wT1_63) (fun _ h9 => h9) rfl dX2_spansOfNoPlace_3 ?_
  refine lv_astore_n (i := 2) (lv' := [(2, .ref (aO a 1)), (1, .int (0 : Int32)), (0, .ref (aO a 0))]) hx hb dX2_spansOfNoPlace_6 rfl hl (by decide) rfl (fun ls hl => ?_)
  refine lv_aload_n hx hb dX2_spansOfNoPlace_7 rfl (lv_at hl 0 rfl) ?_
  refine va_alen (v := (12 : Int32)) hx hb hK hP 1 0 (KW_1 c5 a k) rfl rfl dX2_spansOfNoPlace_8 ?_
  refine lv_istore_n (i := 3) (lv' := [(3, .int (12 : Int32)), (2, .ref (aO a 1)), (1, .int (0 : Int32)), (0, .ref (aO a 0))]) hx hb dX2_spansOfNoPlace_9 rfl hl (by decide) rfl (fun ls hl => ?_)
  refine lv_iconst (v := (0 : Int32)) hx hb dX2_spansOfNoPlace_10 (by decide) ?_
  refine lv_istore (i := 4) (lv' := [(4, .int (0 : Int32)), (3, .int (12 : Int32)), (2, .ref (aO a 1)), (1, .int (0 : Int32)), (0, .ref (aO a 0))]) hx hb dX2_spansOfNoPlace_11 hl (by decide) rfl (fun ls hl => ?_)
  have L13 : ∀ (n : Nat) (x1_13 : Int32) (x4_13 : Int32) (ls : Array Slot), lv_has ls 6 [(0, .ref (aO a 0)), (1, .int x1_13), (2, .ref (aO a 1)), (3, .int (12 : Int32)), (4, .int x4_13)] → R_X2_spansOfNoPlace_L13 k n x1_13 x4_13 = some r → W p l e (headSpec (ws_ yX2_spansOfNoPlace cX2_spansOfNoPlace 6 (some .int)) { frames := 1, cells := 0, slots := 0, locals := 20 }).room s m ([.ref (aO a 0)] : List Value).toArray below meth c s.heap [] 0 0 (MQ below (vp_Si (fun x => x = r)) ([.ref (aO a 0)] : List Value).toArray s 0 0 (fun _ => False)) (F0 m 13 ls []) := by
    intro n
    induction n with
    | zero =>
      intro x1_13 x4_13 ls hl h
      exact absurd h (by simp [R_X2_spansOfNoPlace_L13])
    | succ n ih =>
      intro x1_13 x4_13 ls hl h
      rw [R_X2_spansOfNoPlace_L13] at h
      refine lv_iload hx hb dX2_spansOfNoPlace_13 (lv_at hl 4 rfl) ?_
      refine lv_iload_n hx hb dX2_spansOfNoPlace_15 rfl (lv_at hl 3 rfl) ?_
      refine lv_icmp_ge (tgt := 56) hx hb dX2_spansOfNoPlace_16 (by decide) (fun q => ?_) (fun q => ?_)
      · have h := o_t h q
        refine lv_iload_n hx hb dX2_spansOfNoPlace_56 rfl (lv_at hl 1 rfl) ?_
        exact ro_iret hx hb hr hlocks dX2_spansOfNoPlace_57 (Option.some.inj h)
      · have h := o_f h q
        refine lv_aload_n hx hb dX2_spansOfNoPlace_19 rfl (lv_at hl 2 rfl) ?_
        refine lv_iload hx hb dX2_spansOfNoPlace_20 (lv_at hl 4 rfl) ?_
        obtain ⟨g22, h⟩ := o_if h
        refine va_aldS hx hb hK hP g22 dX2_spansOfNoPlace_22 ?_
        refine lv_astore (i := 5) (lv' := [(5, .ref (aS a (x4_13.toNatClampNeg))), (0, .ref (aO a 0)), (1, .int x1_13), (2, .ref (aO a 1)), (3, .int (12 : Int32)), (4, .int x4_13)]) hx hb dX2_spansOfNoPlace_23 hl (by decide) rfl (fun ls hl => ?_)
        refine lv_aload hx hb dX2_spansOfNoPlace_25 (lv_at hl 0 rfl) ?_
        obtain ⟨v27, e27, h⟩ := o_bind h
        refine ro_calli (ro_runV (As := []) (rest := []) ⟨hx, hb, hml, hown, hts⟩ hP hK (c_X1_state l D c5 a k hI (x4_13.toNatClampNeg) (inb_lt g22) v27 e27) gG_RX2_70 (va_recv hK hP (ci := 1) (q0 := (3 + (x4_13.toNatClampNeg))) rfl (KW_S c5 a k (inb_lt g22))) hd_X1_state ⟨Nat.le_of_ble_eq_true rfl, Nat.le_of_ble_eq_true rfl⟩ ⟨rfl, rfl⟩ hl.1 (Nat.le_of_ble_eq_true rfl) dX2_spansOfNoPlace_27 ⟨Nat.zero_le _, Nat.zero_le _⟩ rfl) ?_
        refine lv_if_eq (tgt := 50) hx hb dX2_spansOfNoPlace_30 (by decide) (fun q => ?_) (fun q => ?_)
        · have h := o_t h q
          refine lv_iinc (v := (x4_13 + (1 : Int32))) (lv' := [(4, .int (x4_13 + (1 : Int32))), (5, .ref (aS a (x4_13.toNatClampNeg))), (0, .ref (aO a 0)), (1, .int x1_13), (2, .ref (aO a 1)), (3, .int (12 : Int32))]) hx hb dX2_spansOfNoPlace_50 hl (k := 5) rfl rfl (by decide) rfl (fun ls hl => ?_)
          refine lv_goto (tgt := 13) hx hb dX2_spansOfNoPlace_53 (by decide) ?_
          exact ih x1_13 (x4_13 + (1 : Int32))  ls (lv_sub hl [2, 3, 4, 5, 0] rfl) h
        · have h := o_f h q
          refine lv_iload_n hx hb dX2_spansOfNoPlace_33 rfl (lv_at hl 2 rfl) ?_
          refine lv_bipush (v := (24 : Int32)) hx hb dX2_spansOfNoPlace_34 (by decide) ?_
          refine lv_aload hx hb dX2_spansOfNoPlace_36 (lv_at hl 0 rfl) ?_
          refine va_get (D := D) (ci := 1) (v := .int (kS k 4 (x4_13.toNatClampNeg))) (C := RX1) (T := TX1) (N := 8) hx hb hts iX1 hown hK hP (3 + (x4_13.toNatClampNeg)) (KW_S c5 a k (inb_lt g22)) rfl 4 (by decide) (hts _ wT1_39) (fun _ h9 => h9) rfl dX2_spansOfNoPlace_38 ?_
          refine lv_aload hx hb dX2_spansOfNoPlace_41 (lv_at hl 0 rfl) ?_
          refine va_get (D := D) (ci := 1) (v := .int (kS k 3 (x4_13.toNatClampNeg))) (C := RX1) (T := TX1) (N := 8) hx hb hts iX1 hown hK hP (3 + (x4_13.toNatClampNeg)) (KW_S c5 a k (inb_lt g22)) rfl 3 (by decide) (hts _ wT1_37) (fun _ h9 => h9) rfl dX2_spansOfNoPlace_43 ?_
          refine lv_imul hx hb dX2_spansOfNoPlace_46 ?_
          refine lv_isub hx hb dX2_spansOfNoPlace_47 ?_
          refine lv_iadd hx hb dX2_spansOfNoPlace_48 ?_
          refine lv_istore_n (i := 1) (lv' := [(1, .int (x1_13 + ((24 : Int32) - ((kS k 4 (x4_13.toNatClampNeg)) * (kS k 3 (x4_13.toNatClampNeg)))))), (5, .ref (aS a (x4_13.toNatClampNeg))), (0, .ref (aO a 0)), (2, .ref (aO a 1)), (3, .int (12 : Int32)), (4, .int x4_13)]) hx hb dX2_spansOfNoPlace_49 rfl hl (by decide) rfl (fun ls hl => ?_)
          refine lv_iinc (v := (x4_13 + (1 : Int32))) (lv' := [(4, .int (x4_13 + (1 : Int32))), (1, .int (x1_13 + ((24 : Int32) - ((kS k 4 (x4_13.toNatClampNeg)) * (kS k 3 (x4_13.toNatClampNeg)))))), (5, .ref (aS a (x4_13.toNatClampNeg))), (0, .ref (aO a 0)), (2, .ref (aO a 1)), (3, .int (12 : Int32))]) hx hb dX2_spansOfNoPlace_50 hl (k := 5) rfl rfl (by decide) rfl (fun ls hl => ?_)
          refine lv_goto (tgt := 13) hx hb dX2_spansOfNoPlace_53 (by decide) ?_
          exact ih (x1_13 + ((24 : Int32) - ((kS k 4 (x4_13.toNatClampNeg)) * (kS k 3 (x4_13.toNatClampNeg))))) (x4_13 + (1 : Int32))  ls (lv_sub hl [3, 1, 4, 5, 0] rfl) h
  exact L13 FU (0 : Int32) (0 : Int32)  ls (lv_sub hl [4, 3, 2, 1, 0] rfl) h
set_option maxHeartbeats 4000000 in
set_option maxRecDepth 100000 in
theorem c_X2_nextSpot (l : Launch) (D : va_G) (c5 : Nat → ClassId) (a : KAd) (k : KSt) (hI : KI a) (j1 : Nat) (hj1 : j1 < kN k) (r : Int32) (h : R_X2_nextSpot k j1 = some r) : Met l yX2_nextSpot (ws_ yX2_nextSpot cX2_nextSpot 3 (some .int)) { frames := 4, cells := 0, slots := 0, locals := 91 } (va_Pc [.ref (aO a 0), .ref (aK a j1)] (roB D (tyG c5) (KW c5 a k))) (vp_Si (fun x => x = r)) 0 0 (fun _ => False) := by
  refine Met.ofW (cc := cX2_nextSpot) (maxL := 3) (ret := (some .int)) (by decide) rfl ?_
  intro p e s m args below meth c s₁ B hml hv
  obtain ⟨rfl, hP, hK⟩ := hv
  have hx := B.exec
  have hb := B.bytes
  have hr := B.returns
  have hts : ∀ w ∈ LA, w.before _ s = true := fun w hw => atoms_spec (ws := ws_ yX2_nextSpot cX2_nextSpot 3 (some .int)) B.pre w (List.mem_cons_of_mem _ hw)
  have hown : s.vm.findClass RX2 = some m.cls := findClass_of_methodNamed B.named
  have hlocks := B.notSynchronized
  have hl := lv_entry ([.ref (aO a 0), .ref (aK a j1)] : List Value) (n := 3) (Nat.le_of_ble_eq_true rfl)
  rw [lg_entry_eq]
  generalize (lg_sl ([.ref (aO a 0), .ref (aK a j1)] : List Value) ++ List.replicate (3 - (lg_sl ([.ref (aO a 0), .ref (aK a j1)] : List Value)).length) Slot.unset).toArray = ls at hl ⊢
  have hl : lv_has ls 3 [(0, .ref (aO a 0)), (1, .ref (aK a j1))] := hl
  unfold R_X2_nextSpot at h
  refine lv_aload_n hx hb dX2_nextSpot_0 rfl (lv_at hl 0 rfl) ?_
  refine lv_aload_n hx hb dX2_nextSpot_1 rfl (lv_at hl 1 rfl) ?_
  obtain ⟨v2, e2, h⟩ := o_bind h
  refine ro_calle (ro_runV (As := [.ref (aK a j1)]) (rest := []) ⟨hx, hb, hml, hown, hts⟩ hP hK (c_X2_shelfToPut l D c5 a k hI j1 hj1 v2 e2) gG_RX2_64 (va_recv hK hP (ci := 2) (q0 := 0) rfl (KW_0 c5 a k)) hd_X2_shelfToPut ⟨Nat.le_of_ble_eq_true rfl, Nat.le_of_ble_eq_true rfl⟩ ⟨rfl, rfl⟩ hl.1 (Nat.le_of_ble_eq_true rfl) dX2_nextSpot_2 ⟨Nat.zero_le _, Nat.zero_le _⟩ rfl) ?_
  refine qv_astore_n (i := 2) (lv' := [(2, va_rf (v2.map (aS a))), (0, .ref (aO a 0)), (1, .ref (aK a j1))]) hx hb dX2_nextSpot_5 rfl hl (by decide) rfl (fun ls hl => ?_)
  refine qv_aload_n hx hb dX2_nextSpot_6 rfl (lv_at hl 0 rfl) ?_
  cases v2 with
  | none =>
    have h := oe_n h
    have hl : lv_has ls 3 [(2, .null), (0, .ref (aO a 0)), (1, .ref (aK a j1))] := hl
    refine lv_ifnonnullN hx hb dX2_nextSpot_7 ?_
    refine lv_iconst (v := (-1 : Int32)) hx hb dX2_nextSpot_10 (by decide) ?_
    exact ro_iret hx hb hr hlocks dX2_nextSpot_11 (Option.some.inj h)
  | some j7 =>
    obtain ⟨hj7, h⟩ := oe_sif h
    have hl : lv_has ls 3 [(2, .ref (aS a j7)), (0, .ref (aO a 0)), (1, .ref (aK a j1))] := hl
    refine lv_ifnonnull (tgt := 12) hx hb dX2_nextSpot_7 (by decide) ?_
    refine lv_aload_n hx hb dX2_nextSpot_12 rfl (lv_at hl 0 rfl) ?_
    obtain ⟨v13, e13, h⟩ := o_bind h
    refine ro_calli (ro_runV (As := []) (rest := []) ⟨hx, hb, hml, hown, hts⟩ hP hK (c_X1_state l D c5 a k hI j7 hj7 v13 e13) gG_RX2_70 (va_recv hK hP (ci := 1) (q0 := (3 + j7)) rfl (KW_S c5 a k hj7)) hd_X1_state ⟨Nat.le_of_ble_eq_true rfl, Nat.le_of_ble_eq_true rfl⟩ ⟨rfl, rfl⟩ hl.1 (Nat.le_of_ble_eq_true rfl) dX2_nextSpot_13 ⟨Nat.zero_le _, Nat.zero_le _⟩ rfl) ?_
    refine lv_if_ne (tgt := 29) hx hb dX2_nextSpot_16 (by decide) (fun q => ?_) (fun q => ?_)
    · have h := o_t' h q
      refine lv_aload_n hx hb dX2_nextSpot_29 rfl (lv_at hl 0 rfl) ?_
      refine lv_aload_n hx hb dX2_nextSpot_30 rfl (lv_at hl 0 rfl) ?_
      obtain ⟨v31, e31, h⟩ := o_bind h
      refine ro_calli (ro_runV (As := []) (rest := [.ref (aS a j7)]) ⟨hx, hb, hml, hown, hts⟩ hP hK (c_X1_firstGap l D c5 a k hI j7 hj7 v31 e31) gG_RX2_78 (va_recv hK hP (ci := 1) (q0 := (3 + j7)) rfl (KW_S c5 a k hj7)) hd_X1_firstGap ⟨Nat.le_of_ble_eq_true rfl, Nat.le_of_ble_eq_true rfl⟩ ⟨rfl, rfl⟩ hl.1 (Nat.le_of_ble_eq_true rfl) dX2_nextSpot_31 ⟨Nat.zero_le _, Nat.zero_le _⟩ rfl) ?_
      obtain ⟨v34, e34, h⟩ := o_bind h
      refine ro_calli (ro_runV (As := [.int v31]) (rest := []) ⟨hx, hb, hml, hown, hts⟩ hP hK (c_X1_beginOf l D c5 a k hI j7 hj7 v31 v34 e34) gG_RX2_84 (va_recv hK hP (ci := 1) (q0 := (3 + j7)) rfl (KW_S c5 a k hj7)) hd_X1_beginOf ⟨Nat.le_of_ble_eq_true rfl, Nat.le_of_ble_eq_true rfl⟩ ⟨rfl, rfl⟩ hl.1 (Nat.le_of_ble_eq_true rfl) dX2_nextSpot_34 ⟨Nat.zero_le _, Nat.zero_le _⟩ rfl) ?_
      exact ro_iret hx hb hr hlocks dX2_nextSpot_37 (Option.some.inj h)
    · have h := o_f' h q
      refine lv_aload_n hx hb dX2_nextSpot_19 rfl (lv_at hl 0 rfl) ?_
      refine va_get (D := D) (ci := 1) (v := .int (nI (24 * j7))) (C := RX1) (T := TX1) (N := 8) hx hb hts iX1 hown hK hP (3 + j7) (KW_S c5 a k hj7) rfl 0 (by decide) (hts _ wT1_32) (fun _ h9 => h9) rfl dX2_nextSpot_20 ?_
      refine lv_aload_n hx hb dX2_nextSpot_23 rfl (lv_at hl 2 rfl) ?_
      refine va_get (D := D) (ci := 0) (v := .int (kK k 5 j1)) (C := RX0) (T := TX0) (N := 6) hx hb hts iX0 hown hK hP (27 + j1) (KW_K c5 a k hj1) rfl 5 (by decide) (hts _ wT2_103) (fun _ h9 => h9) rfl dX2_nextSpot_24 ?_
      refine lv_iadd hx hb dX2_nextSpot_27 ?_
      exact ro_iret hx hb hr hlocks dX2_nextSpot_28 (Option.some.inj h)
set_option maxHeartbeats 4000000 in
set_option maxRecDepth 100000 in
theorem c_X2_gapsOf (l : Launch) (D : va_G) (c5 : Nat → ClassId) (a : KAd) (k : KSt) (hI : KI a) (j1 : Nat) (hj1 : j1 < kN k) (r : Int32) (h : R_X2_gapsOf k j1 = some r) : Met l yX2_gapsOf (ws_ yX2_gapsOf cX2_gapsOf 2 (some .int)) { frames := 2, cells := 0, slots := 0, locals := 47 } (va_Pc [.ref (aO a 0), .ref (aK a j1)] (roB D (tyG c5) (KW c5 a k))) (vp_Si (fun x => x = r)) 0 0 (fun _ => False) := by
  refine Met.ofW (cc := cX2_gapsOf) (maxL := 2) (ret := (some .int)) (by decide) rfl ?_
  intro p e s m args below meth c s₁ B hml hv
  obtain ⟨rfl, hP, hK⟩ := hv
  have hx := B.exec
  have hb := B.bytes
  have hr := B.returns
  have hts : ∀ w ∈ LA, w.before _ s = true := fun w hw => atoms_spec (ws := ws_ yX2_gapsOf cX2_gapsOf 2 (some .int)) B.pre w (List.mem_cons_of_mem _ hw)
  have hown : s.vm.findClass RX2 = some m.cls := findClass_of_methodNamed B.named
  have hlocks := B.notSynchronized
  have hl := lv_entry ([.ref (aO a 0), .ref (aK a j1)] : List Value) (n := 2) (Nat.le_of_ble_eq_true rfl)
  rw [lg_entry_eq]
  generalize (lg_sl ([.ref (aO a 0), .ref (aK a j1)] : List Value) ++ List.replicate (2 - (lg_sl ([.ref (aO a 0), .ref (aK a j1)] : List Value)).length) Slot.unset).toArray = ls at hl ⊢
  have hl : lv_has ls 2 [(0, .ref (aO a 0)), (1, .ref (aK a j1))] := hl
  unfold R_X2_gapsOf at h
  refine lv_aload_n hx hb dX2_gapsOf_0 rfl (lv_at hl 0 rfl) ?_
  refine lv_aload_n hx hb dX2_gapsOf_1 rfl (lv_at hl 1 rfl) ?_
  obtain ⟨v2, e2, h⟩ := o_bind h
  refine ro_calli (ro_runV (As := [.ref (aK a j1)]) (rest := []) ⟨hx, hb, hml, hown, hts⟩ hP hK (c_X2_shelvesOf l D c5 a k hI j1 hj1 v2 e2) gG_RX2_199 (va_recv hK hP (ci := 2) (q0 := 0) rfl (KW_0 c5 a k)) hd_X2_shelvesOf ⟨Nat.le_of_ble_eq_true rfl, Nat.le_of_ble_eq_true rfl⟩ ⟨rfl, rfl⟩ hl.1 (Nat.le_of_ble_eq_true rfl) dX2_gapsOf_2 ⟨Nat.zero_le _, Nat.zero_le _⟩ rfl) ?_
  refine lv_aload_n hx hb dX2_gapsOf_5 rfl (lv_at hl 1 rfl) ?_
  refine va_get (D := D) (ci := 0) (v := .int (kK k 2 j1)) (C := RX0) (T := TX0) (N := 6) hx hb hts iX0 hown hK hP (27 + j1) (KW_K c5 a k hj1) rfl 2 (by decide) (hts _ wT2_96) (fun _ h9 => h9) rfl dX2_gapsOf_6 ?_
  refine lv_imul hx hb dX2_gapsOf_9 ?_
  refine lv_aload_n hx hb dX2_gapsOf_10 rfl (lv_at hl 0 rfl) ?_
  refine lv_aload_n hx hb dX2_gapsOf_11 rfl (lv_at hl 1 rfl) ?_
  obtain ⟨v12, e12, h⟩ := o_bind h
  refine ro_calli (ro_runV (As := [.ref (aK a j1)]) (rest := [.int (v2 * (kK k 2 j1))]) ⟨hx, hb, hml, hown, hts⟩ hP hK (c_X2_bowlsOf l D c5 a k hI j1 hj1 v12 e12) gG_RX2_205 (va_recv hK hP (ci := 2) (q0 := 0) rfl (KW_0 c5 a k)) hd_X2_bowlsOf ⟨Nat.le_of_ble_eq_true rfl, Nat.le_of_ble_eq_true rfl⟩ ⟨rfl, rfl⟩ hl.1 (Nat.le_of_ble_eq_true rfl) dX2_gapsOf_12 ⟨Nat.zero_le _, Nat.zero_le _⟩ rfl) ?_
  refine lv_isub hx hb dX2_gapsOf_15 ?_
  exact ro_iret hx hb hr hlocks dX2_gapsOf_16 (Option.some.inj h)
set_option maxHeartbeats 4000000 in
set_option maxRecDepth 100000 in
theorem c_X2_gainsOf (l : Launch) (D : va_G) (c5 : Nat → ClassId) (a : KAd) (k : KSt) (hI : KI a) (j1 : Nat) (hj1 : j1 < kN k) (r : Int32) (h : R_X2_gainsOf k j1 = some r) : Met l yX2_gainsOf (ws_ yX2_gainsOf cX2_gainsOf 8 (some .int)) { frames := 1, cells := 0, slots := 0, locals := 21 } (va_Pc [.ref (aO a 0), .ref (aK a j1)] (roB D (tyG c5) (KW c5 a k))) (vp_Si (fun x => x = r)) 0 0 (fun _ => False) := by
  refine Met.ofW (cc := cX2_gainsOf) (maxL := 8) (ret := (some .int)) (by decide) rfl ?_
  intro p e s m args below meth c s₁ B hml hv
  obtain ⟨rfl, hP, hK⟩ := hv
  have hx := B.exec
  have hb := B.bytes
  have hr := B.returns
  have hts : ∀ w ∈ LA, w.before _ s = true := fun w hw => atoms_spec (ws := ws_ yX2_gainsOf cX2_gainsOf 8 (some .int)) B.pre w (List.mem_cons_of_mem _ hw)
  have hown : s.vm.findClass RX2 = some m.cls := findClass_of_methodNamed B.named
  have hlocks := B.notSynchronized
  have hl := lv_entry ([.ref (aO a 0), .ref (aK a j1)] : List Value) (n := 8) (Nat.le_of_ble_eq_true rfl)
  rw [lg_entry_eq]
  generalize (lg_sl ([.ref (aO a 0), .ref (aK a j1)] : List Value) ++ List.replicate (8 - (lg_sl ([.ref (aO a 0), .ref (aK a j1)] : List Value)).length) Slot.unset).toArray = ls at hl ⊢
  have hl : lv_has ls 8 [(0, .ref (aO a 0)), (1, .ref (aK a j1))] := hl
  unfold R_X2_gainsOf at h
  refine lv_iconst (v := (0 : Int32)) hx hb dX2_gainsOf_0 (by decide) ?_
  refine lv_istore_n (i := 2) (lv' := [(2, .int (0 : Int32)), (0, .ref (aO a 0)), (1, .ref (aK a j1))]) hx hb dX2_gainsOf_1 rfl hl (by decide) rfl (fun ls hl => ?_)
  refine lv_iconst (v := (0 : Int32)) hx hb dX2_gainsOf_2 (by decide) ?_
  refine lv_istore_n (i := 3) (lv' := [(3, .int (0 : Int32)), (2, .int (0 : Int32)), (0, .ref (aO a 0)), (1, .ref (aK a j1))]) hx hb dX2_gainsOf_3 rfl hl (by decide) rfl (fun ls hl => ?_)
  refine lv_aload_n hx hb dX2_gainsOf_4 rfl (lv_at hl 2 rfl) ?_
  refine va_get (D := D) (ci := 2) (v := .ref (aO a 1)) (C := RX2) (T := TX2) (N := 7) hx hb hts iX2 hown hK hP 0 (KW_0 c5 a k) rfl 0 (by decide) (hts _ wT1_63) (fun _ h9 => h9) rfl dX2_gainsOf_5 ?_
  refine lv_astore (i := 4) (lv' := [(4, .ref (aO a 1)), (3, .int (0 : Int32)), (2, .int (0 : Int32)), (0, .ref (aO a 0)), (1, .ref (aK a j1))]) hx hb dX2_gainsOf_8 hl (by decide) rfl (fun ls hl => ?_)
  refine lv_aload hx hb dX2_gainsOf_10 (lv_at hl 0 rfl) ?_
  refine va_alen (v := (12 : Int32)) hx hb hK hP 1 0 (KW_1 c5 a k) rfl rfl dX2_gainsOf_12 ?_
  refine lv_istore (i := 5) (lv' := [(5, .int (12 : Int32)), (4, .ref (aO a 1)), (3, .int (0 : Int32)), (2, .int (0 : Int32)), (0, .ref (aO a 0)), (1, .ref (aK a j1))]) hx hb dX2_gainsOf_13 hl (by decide) rfl (fun ls hl => ?_)
  refine lv_iconst (v := (0 : Int32)) hx hb dX2_gainsOf_15 (by decide) ?_
  refine lv_istore (i := 6) (lv' := [(6, .int (0 : Int32)), (5, .int (12 : Int32)), (4, .ref (aO a 1)), (3, .int (0 : Int32)), (2, .int (0 : Int32)), (0, .ref (aO a 0)), (1, .ref (aK a j1))]) hx hb dX2_gainsOf_16 hl (by decide) rfl (fun ls hl => ?_)
  have L18 : ∀ (n : Nat) (x2_18 : Int32) (x3_18 : Int32) (x6_18 : Int32) (ls : Array Slot), lv_has ls 8 [(0, .ref (aO a 0)), (1, .ref (aK a j1)), (2, .int x2_18), (3, .int x3_18), (4, .ref (aO a 1)), (5, .int (12 : Int32)), (6, .int x6_18)] → R_X2_gainsOf_L18 k j1 n x2_18 x3_18 x6_18 = some r → W p l e (headSpec (ws_ yX2_gainsOf cX2_gainsOf 8 (some .int)) { frames := 1, cells := 0, slots := 0, locals := 21 }).room s m ([.ref (aO a 0), .ref (aK a j1)] : List Value).toArray below meth c s.heap [] 0 0 (MQ below (vp_Si (fun x => x = r)) ([.ref (aO a 0), .ref (aK a j1)] : List Value).toArray s 0 0 (fun _ => False)) (F0 m 18 ls []) := by
    intro n
    induction n with
    | zero =>
      intro x2_18 x3_18 x6_18 ls hl h
      exact absurd h (by simp [R_X2_gainsOf_L18])
    | succ n ih =>
      intro x2_18 x3_18 x6_18 ls hl h
      rw [R_X2_gainsOf_L18] at h
      refine lv_iload hx hb dX2_gainsOf_18 (lv_at hl 6 rfl) ?_
      refine lv_iload hx hb dX2_gainsOf_20 (lv_at hl 5 rfl) ?_
      refine lv_icmp_ge (tgt := 67) hx hb dX2_gainsOf_22 (by decide) (fun q => ?_) (fun q => ?_)
      · have h := o_t h q
        refine lv_iload_n hx hb dX2_gainsOf_67 rfl (lv_at hl 3 rfl) ?_
        refine lv_aload_n hx hb dX2_gainsOf_68 rfl (lv_at hl 1 rfl) ?_
        refine lv_iload_n hx hb dX2_gainsOf_69 rfl (lv_at hl 2 rfl) ?_
        obtain ⟨v70, e70, h⟩ := o_bind h
        refine ro_calli (ro_runV (As := [.int x2_18]) (rest := [.int x3_18]) ⟨hx, hb, hml, hown, hts⟩ hP hK (c_X0_shelvesFor l D c5 a k hI j1 hj1 x2_18 v70 e70) gG_RX2_161 (va_recv hK hP (ci := 0) (q0 := (27 + j1)) rfl (KW_K c5 a k hj1)) hd_X0_shelvesFor ⟨Nat.le_of_ble_eq_true rfl, Nat.le_of_ble_eq_true rfl⟩ ⟨rfl, rfl⟩ hl.1 (Nat.le_of_ble_eq_true rfl) dX2_gainsOf_70 ⟨Nat.zero_le _, Nat.zero_le _⟩ rfl) ?_
        refine lv_isub hx hb dX2_gainsOf_73 ?_
        exact ro_iret hx hb hr hlocks dX2_gainsOf_74 (Option.some.inj h)
      · have h := o_f h q
        refine lv_aload hx hb dX2_gainsOf_25 (lv_at hl 4 rfl) ?_
        refine lv_iload hx hb dX2_gainsOf_27 (lv_at hl 6 rfl) ?_
        obtain ⟨g29, h⟩ := o_if h
        refine va_aldS hx hb hK hP g29 dX2_gainsOf_29 ?_
        refine lv_astore (i := 7) (lv' := [(7, .ref (aS a (x6_18.toNatClampNeg))), (0, .ref (aO a 0)), (1, .ref (aK a j1)), (2, .int x2_18), (3, .int x3_18), (4, .ref (aO a 1)), (5, .int (12 : Int32)), (6, .int x6_18)]) hx hb dX2_gainsOf_30 hl (by decide) rfl (fun ls hl => ?_)
        refine lv_aload hx hb dX2_gainsOf_32 (lv_at hl 0 rfl) ?_
        refine lv_aload_n hx hb dX2_gainsOf_34 rfl (lv_at hl 2 rfl) ?_
        obtain ⟨v35, e35, h⟩ := o_bind h
        refine ro_calli (ro_runV (As := [.ref (aK a j1)]) (rest := []) ⟨hx, hb, hml, hown, hts⟩ hP hK (c_X1_isOf l D c5 a k hI (x6_18.toNatClampNeg) (inb_lt g29) j1 hj1 v35 e35) gG_RX2_235 (va_recv hK hP (ci := 1) (q0 := (3 + (x6_18.toNatClampNeg))) rfl (KW_S c5 a k (inb_lt g29))) hd_X1_isOf ⟨Nat.le_of_ble_eq_true rfl, Nat.le_of_ble_eq_true rfl⟩ ⟨rfl, rfl⟩ hl.1 (Nat.le_of_ble_eq_true rfl) dX2_gainsOf_35 ⟨Nat.zero_le _, Nat.zero_le _⟩ rfl) ?_
        refine lv_if_eq (tgt := 61) hx hb dX2_gainsOf_38 (by decide) (fun q => ?_) (fun q => ?_)
        · have h := o_t h q
          refine lv_iinc (v := (x6_18 + (1 : Int32))) (lv' := [(6, .int (x6_18 + (1 : Int32))), (7, .ref (aS a (x6_18.toNatClampNeg))), (0, .ref (aO a 0)), (1, .ref (aK a j1)), (2, .int x2_18), (3, .int x3_18), (4, .ref (aO a 1)), (5, .int (12 : Int32))]) hx hb dX2_gainsOf_61 hl (k := 7) rfl rfl (by decide) rfl (fun ls hl => ?_)
          refine lv_goto (tgt := 18) hx hb dX2_gainsOf_64 (by decide) ?_
          exact ih x2_18 x3_18 (x6_18 + (1 : Int32))  ls (lv_sub hl [2, 3, 4, 5, 6, 7, 0] rfl) h
        · have h := o_f h q
          refine lv_aload hx hb dX2_gainsOf_41 (lv_at hl 0 rfl) ?_
          obtain ⟨v43, e43, h⟩ := o_bind h
          refine ro_calli (ro_runV (As := []) (rest := []) ⟨hx, hb, hml, hown, hts⟩ hP hK (c_X1_state l D c5 a k hI (x6_18.toNatClampNeg) (inb_lt g29) v43 e43) gG_RX2_70 (va_recv hK hP (ci := 1) (q0 := (3 + (x6_18.toNatClampNeg))) rfl (KW_S c5 a k (inb_lt g29))) hd_X1_state ⟨Nat.le_of_ble_eq_true rfl, Nat.le_of_ble_eq_true rfl⟩ ⟨rfl, rfl⟩ hl.1 (Nat.le_of_ble_eq_true rfl) dX2_gainsOf_43 ⟨Nat.zero_le _, Nat.zero_le _⟩ rfl) ?_
          refine lv_iconst (v := (2 : Int32)) hx hb dX2_gainsOf_46 (by decide) ?_
          refine lv_icmp_ne (tgt := 61) hx hb dX2_gainsOf_47 (by decide) (fun q => ?_) (fun q => ?_)
          · have h := o_t' h q
            refine lv_iinc (v := (x6_18 + (1 : Int32))) (lv' := [(6, .int (x6_18 + (1 : Int32))), (7, .ref (aS a (x6_18.toNatClampNeg))), (0, .ref (aO a 0)), (1, .ref (aK a j1)), (2, .int x2_18), (3, .int x3_18), (4, .ref (aO a 1)), (5, .int (12 : Int32))]) hx hb dX2_gainsOf_61 hl (k := 7) rfl rfl (by decide) rfl (fun ls hl => ?_)
            refine lv_goto (tgt := 18) hx hb dX2_gainsOf_64 (by decide) ?_
            exact ih x2_18 x3_18 (x6_18 + (1 : Int32))  ls (lv_sub hl [2, 3, 4, 5, 6, 7, 0] rfl) h
          · have h := o_f' h q
            refine lv_iload_n hx hb dX2_gainsOf_50 rfl (lv_at hl 3 rfl) ?_
            refine lv_aload hx hb dX2_gainsOf_51 (lv_at hl 0 rfl) ?_
            refine va_get (D := D) (ci := 1) (v := .int (kS k 6 (x6_18.toNatClampNeg))) (C := RX1) (T := TX1) (N := 8) hx hb hts iX1 hown hK hP (3 + (x6_18.toNatClampNeg)) (KW_S c5 a k (inb_lt g29)) rfl 6 (by decide) (hts _ wT1_42) (fun _ h9 => h9) rfl dX2_gainsOf_53 ?_
            refine lv_iadd hx hb dX2_gainsOf_56 ?_
            refine lv_istore_n (i := 2) (lv' := [(2, .int (x2_18 + (kS k 6 (x6_18.toNatClampNeg)))), (7, .ref (aS a (x6_18.toNatClampNeg))), (0, .ref (aO a 0)), (1, .ref (aK a j1)), (3, .int x3_18), (4, .ref (aO a 1)), (5, .int (12 : Int32)), (6, .int x6_18)]) hx hb dX2_gainsOf_57 rfl hl (by decide) rfl (fun ls hl => ?_)
            refine lv_iinc (v := (x3_18 + (1 : Int32))) (lv' := [(3, .int (x3_18 + (1 : Int32))), (2, .int (x2_18 + (kS k 6 (x6_18.toNatClampNeg)))), (7, .ref (aS a (x6_18.toNatClampNeg))), (0, .ref (aO a 0)), (1, .ref (aK a j1)), (4, .ref (aO a 1)), (5, .int (12 : Int32)), (6, .int x6_18)]) hx hb dX2_gainsOf_58 hl (k := 4) rfl rfl (by decide) rfl (fun ls hl => ?_)
            refine lv_iinc (v := (x6_18 + (1 : Int32))) (lv' := [(6, .int (x6_18 + (1 : Int32))), (3, .int (x3_18 + (1 : Int32))), (2, .int (x2_18 + (kS k 6 (x6_18.toNatClampNeg)))), (7, .ref (aS a (x6_18.toNatClampNeg))), (0, .ref (aO a 0)), (1, .ref (aK a j1)), (4, .ref (aO a 1)), (5, .int (12 : Int32))]) hx hb dX2_gainsOf_61 hl (k := 7) rfl rfl (by decide) rfl (fun ls hl => ?_)
            refine lv_goto (tgt := 18) hx hb dX2_gainsOf_64 (by decide) ?_
            exact ih (x2_18 + (kS k 6 (x6_18.toNatClampNeg))) (x3_18 + (1 : Int32)) (x6_18 + (1 : Int32))  ls (lv_sub hl [4, 5, 2, 1, 6, 7, 0] rfl) h
  exact L18 FU (0 : Int32) (0 : Int32) (0 : Int32)  ls (lv_sub hl [5, 6, 4, 3, 2, 1, 0] rfl) h
set_option maxHeartbeats 4000000 in
set_option maxRecDepth 100000 in
theorem c_X2_mixed (l : Launch) (D : va_G) (tys : List (ClassId × FieldType)) (ws : va_W) (p0 : Int64) (p2 : Int64) (r : Int64) (h : R_X2_mixed p0 p2 = some r) : Met l yX2_mixed (ws_ yX2_mixed cX2_mixed 4 (some .long)) { frames := 0, cells := 0, slots := 0, locals := 0 } (va_Pc [.long p0, .long p2] (roB D (tys) (ws))) (vp_Sl (fun x => x = r)) 0 0 (fun _ => False) := by
  refine Met.ofW (cc := cX2_mixed) (maxL := 4) (ret := (some .long)) (by decide) rfl ?_
  intro p e s m args below meth c s₁ B hml hv
  obtain ⟨rfl, hP, hK⟩ := hv
  have hx := B.exec
  have hb := B.bytes
  have hr := B.returns
  have hts : ∀ w ∈ LA, w.before _ s = true := fun w hw => atoms_spec (ws := ws_ yX2_mixed cX2_mixed 4 (some .long)) B.pre w (List.mem_cons_of_mem _ hw)
  have hown : s.vm.findClass RX2 = some m.cls := findClass_of_methodNamed B.named
  have hlocks := B.notSynchronized
  have hl := lv_entry ([.long p0, .long p2] : List Value) (n := 4) (Nat.le_of_ble_eq_true rfl)
  rw [lg_entry_eq]
  generalize (lg_sl ([.long p0, .long p2] : List Value) ++ List.replicate (4 - (lg_sl ([.long p0, .long p2] : List Value)).length) Slot.unset).toArray = ls at hl ⊢
  have hl : lv_has ls 4 [(0, .long p0), (2, .long p2)] := hl
  unfold R_X2_mixed at h
  refine lv_lload_n hx hb dX2_mixed_0 rfl (lv_at hl 0 rfl) ?_
  refine lv_ldc2 (v := 31) hx hb hown (hts _ wT1_212) dX2_mixed_1 ?_
  refine lv_lmul hx hb dX2_mixed_4 ?_
  refine lv_lload_n hx hb dX2_mixed_5 rfl (lv_at hl 1 rfl) ?_
  refine lv_ladd hx hb dX2_mixed_6 ?_
  exact ro_lret hx hb hr hlocks dX2_mixed_7 (Option.some.inj h)
set_option maxHeartbeats 4000000 in
set_option maxRecDepth 100000 in
theorem c_X2_mixedWithShelf (l : Launch) (D : va_G) (c5 : Nat → ClassId) (a : KAd) (k : KSt) (hI : KI a) (p0 : Int64) (i2 : Nat) (hi2 : i2 < 12) (r : Int64) (h : R_X2_mixedWithShelf k p0 i2 = some r) : Met l yX2_mixedWithShelf (ws_ yX2_mixedWithShelf cX2_mixedWithShelf 6 (some .long)) { frames := 3, cells := 0, slots := 0, locals := 63 } (va_Pc [.long p0, .ref (aS a i2)] (roB D (tyG c5) (KW c5 a k))) (vp_Sl (fun x => x = r)) 0 0 (fun _ => False) := by
  refine Met.ofW (cc := cX2_mixedWithShelf) (maxL := 6) (ret := (some .long)) (by decide) rfl ?_
  intro p e s m args below meth c s₁ B hml hv
  obtain ⟨rfl, hP, hK⟩ := hv
  have hx := B.exec
  have hb := B.bytes
  have hr := B.returns
  have hts : ∀ w ∈ LA, w.before _ s = true := fun w hw => atoms_spec (ws := ws_ yX2_mixedWithShelf cX2_mixedWithShelf 6 (some .long)) B.pre w (List.mem_cons_of_mem _ hw)
  have hown : s.vm.findClass RX2 = some m.cls := findClass_of_methodNamed B.named
  have hlocks := B.notSynchronized
  have hl := lv_entry ([.long p0, .ref (aS a i2)] : List Value) (n := 6) (Nat.le_of_ble_eq_true rfl)
  rw [lg_entry_eq]
  generalize (lg_sl ([.long p0, .ref (aS a i2)] : List Value) ++ List.replicate (6 - (lg_sl ([.long p0, .ref (aS a i2)] : List Value)).length) Slot.unset).toArray = ls at hl ⊢
  have hl : lv_has ls 6 [(0, .long p0), (2, .ref (aS a i2))] := hl
  unfold R_X2_mixedWithShelf at h
  refine lv_lload_n hx hb dX2_mixedWithShelf_0 rfl (lv_at hl 0 rfl) ?_
  refine lv_lstore_n (i := 3) (lv' := [(3, .long p0), (0, .long p0), (2, .ref (aS a i2))]) hx hb dX2_mixedWithShelf_1 rfl hl (by decide) rfl (fun ls hl => ?_)
  refine lv_iconst (v := (0 : Int32)) hx hb dX2_mixedWithShelf_2 (by decide) ?_
  refine lv_istore (i := 5) (lv' := [(5, .int (0 : Int32)), (3, .long p0), (0, .long p0), (2, .ref (aS a i2))]) hx hb dX2_mixedWithShelf_3 hl (by decide) rfl (fun ls hl => ?_)
  have L33 : ∀ (n : Nat) (x3_33 : Int64) (x5_33 : Int32) (ls : Array Slot), lv_has ls 6 [(0, .long p0), (2, .ref (aS a i2)), (3, .long x3_33), (5, .int x5_33)] → R_X2_mixedWithShelf_L33 k i2 n x3_33 x5_33 = some r → W p l e (headSpec (ws_ yX2_mixedWithShelf cX2_mixedWithShelf 6 (some .long)) { frames := 3, cells := 0, slots := 0, locals := 63 }).room s m ([.long p0, .ref (aS a i2)] : List Value).toArray below meth c s.heap [] 0 0 (MQ below (vp_Sl (fun x => x = r)) ([.long p0, .ref (aS a i2)] : List Value).toArray s 0 0 (fun _ => False)) (F0 m 33 ls []) := by
    intro n
    induction n with
    | zero =>
      intro x3_33 x5_33 ls hl h
      exact absurd h (by simp [R_X2_mixedWithShelf_L33])
    | succ n ih =>
      intro x3_33 x5_33 ls hl h
      rw [R_X2_mixedWithShelf_L33] at h
      refine lv_iload hx hb dX2_mixedWithShelf_33 (lv_at hl 3 rfl) ?_
      refine lv_aload_n hx hb dX2_mixedWithShelf_35 rfl (lv_at hl 1 rfl) ?_
      refine va_get (D := D) (ci := 1) (v := .int (kS k 4 i2)) (C := RX1) (T := TX1) (N := 8) hx hb hts iX1 hown hK hP (3 + i2) (KW_S c5 a k hi2) rfl 4 (by decide) (hts _ wT1_39) (fun _ h9 => h9) rfl dX2_mixedWithShelf_36 ?_
      refine lv_icmp_ge (tgt := 67) hx hb dX2_mixedWithShelf_39 (by decide) (fun q => ?_) (fun q => ?_)
      · have h := o_t h q
        refine lv_lload_n hx hb dX2_mixedWithShelf_67 rfl (lv_at hl 2 rfl) ?_
        exact ro_lret hx hb hr hlocks dX2_mixedWithShelf_68 (Option.some.inj h)
      · have h := o_f h q
        refine lv_lload_n hx hb dX2_mixedWithShelf_42 rfl (lv_at hl 2 rfl) ?_
        refine lv_aload_n hx hb dX2_mixedWithShelf_43 rfl (lv_at hl 1 rfl) ?_
        refine lv_iload hx hb dX2_mixedWithShelf_44 (lv_at hl 3 rfl) ?_
        obtain ⟨v46, e46, h⟩ := o_bind h
        refine ro_calli (ro_runV (As := [.int x5_33]) (rest := [.long x3_33]) ⟨hx, hb, hml, hown, hts⟩ hP hK (c_X1_standsOn l D c5 a k hI i2 hi2 x5_33 v46 e46) gG_RX2_95 (va_recv hK hP (ci := 1) (q0 := (3 + i2)) rfl (KW_S c5 a k hi2)) hd_X1_standsOn ⟨Nat.le_of_ble_eq_true rfl, Nat.le_of_ble_eq_true rfl⟩ ⟨rfl, rfl⟩ hl.1 (Nat.le_of_ble_eq_true rfl) dX2_mixedWithShelf_46 ⟨Nat.zero_le _, Nat.zero_le _⟩ rfl) ?_
        refine lv_if_eq (tgt := 56) hx hb dX2_mixedWithShelf_49 (by decide) (fun q => ?_) (fun q => ?_)
        · have h := o_t h q
          refine lv_lconst (v := 0) hx hb dX2_mixedWithShelf_56 (by decide) ?_
          obtain ⟨v57, e57, h⟩ := o_bind h
          refine ro_calll (ro_runS (As := [.long x3_33, .long (0 : Int64)]) (rest := []) ⟨hx, hb, hml, hown, hts⟩ hP hK (c_X2_mixed l D (tyG c5) (KW c5 a k) x3_33 (0 : Int64) v57 e57) gG_RX2_175 hd_X2_mixed ⟨Nat.le_of_ble_eq_true rfl, Nat.le_of_ble_eq_true rfl⟩ ⟨rfl, rfl⟩ hl.1 (Nat.le_of_ble_eq_true rfl) dX2_mixedWithShelf_57 ⟨Nat.zero_le _, Nat.zero_le _⟩ rfl) ?_
          refine lv_lstore_n (i := 3) (lv' := [(3, .long v57), (0, .long p0), (2, .ref (aS a i2)), (5, .int x5_33)]) hx hb dX2_mixedWithShelf_60 rfl hl (by decide) rfl (fun ls hl => ?_)
          refine lv_iinc (v := (x5_33 + (1 : Int32))) (lv' := [(5, .int (x5_33 + (1 : Int32))), (3, .long v57), (0, .long p0), (2, .ref (aS a i2))]) hx hb dX2_mixedWithShelf_61 hl (k := 3) rfl rfl (by decide) rfl (fun ls hl => ?_)
          refine lv_goto (tgt := 33) hx hb dX2_mixedWithShelf_64 (by decide) ?_
          exact ih v57 (x5_33 + (1 : Int32))  ls (lv_sub hl [2, 3, 1, 0] rfl) h
        · have h := o_f h q
          refine lv_lconst (v := 1) hx hb dX2_mixedWithShelf_52 (by decide) ?_
          refine lv_goto (tgt := 57) hx hb dX2_mixedWithShelf_53 (by decide) ?_
          obtain ⟨v57, e57, h⟩ := o_bind h
          refine ro_calll (ro_runS (As := [.long x3_33, .long (1 : Int64)]) (rest := []) ⟨hx, hb, hml, hown, hts⟩ hP hK (c_X2_mixed l D (tyG c5) (KW c5 a k) x3_33 (1 : Int64) v57 e57) gG_RX2_175 hd_X2_mixed ⟨Nat.le_of_ble_eq_true rfl, Nat.le_of_ble_eq_true rfl⟩ ⟨rfl, rfl⟩ hl.1 (Nat.le_of_ble_eq_true rfl) dX2_mixedWithShelf_57 ⟨Nat.zero_le _, Nat.zero_le _⟩ rfl) ?_
          refine lv_lstore_n (i := 3) (lv' := [(3, .long v57), (0, .long p0), (2, .ref (aS a i2)), (5, .int x5_33)]) hx hb dX2_mixedWithShelf_60 rfl hl (by decide) rfl (fun ls hl => ?_)
          refine lv_iinc (v := (x5_33 + (1 : Int32))) (lv' := [(5, .int (x5_33 + (1 : Int32))), (3, .long v57), (0, .long p0), (2, .ref (aS a i2))]) hx hb dX2_mixedWithShelf_61 hl (k := 3) rfl rfl (by decide) rfl (fun ls hl => ?_)
          refine lv_goto (tgt := 33) hx hb dX2_mixedWithShelf_64 (by decide) ?_
          exact ih v57 (x5_33 + (1 : Int32))  ls (lv_sub hl [2, 3, 1, 0] rfl) h
  have L5 : ∀ (n : Nat) (x3_5 : Int64) (x5_5 : Int32) (ls : Array Slot), lv_has ls 6 [(0, .long p0), (2, .ref (aS a i2)), (3, .long x3_5), (5, .int x5_5)] → R_X2_mixedWithShelf_L5 k i2 n x3_5 x5_5 = some r → W p l e (headSpec (ws_ yX2_mixedWithShelf cX2_mixedWithShelf 6 (some .long)) { frames := 3, cells := 0, slots := 0, locals := 63 }).room s m ([.long p0, .ref (aS a i2)] : List Value).toArray below meth c s.heap [] 0 0 (MQ below (vp_Sl (fun x => x = r)) ([.long p0, .ref (aS a i2)] : List Value).toArray s 0 0 (fun _ => False)) (F0 m 5 ls []) := by
    intro n
    induction n with
    | zero =>
      intro x3_5 x5_5 ls hl h
      exact absurd h (by simp [R_X2_mixedWithShelf_L5])
    | succ n ih =>
      intro x3_5 x5_5 ls hl h
      rw [R_X2_mixedWithShelf_L5] at h
      refine lv_iload hx hb dX2_mixedWithShelf_5 (lv_at hl 3 rfl) ?_
      refine lv_bipush (v := (6 : Int32)) hx hb dX2_mixedWithShelf_7 (by decide) ?_
      refine lv_icmp_ge (tgt := 30) hx hb dX2_mixedWithShelf_9 (by decide) (fun q => ?_) (fun q => ?_)
      · have h := o_t h q
        refine lv_iconst (v := (0 : Int32)) hx hb dX2_mixedWithShelf_30 (by decide) ?_
        refine lv_istore (i := 5) (lv' := [(5, .int (0 : Int32)), (0, .long p0), (2, .ref (aS a i2)), (3, .long x3_5)]) hx hb dX2_mixedWithShelf_31 hl (by decide) rfl (fun ls hl => ?_)
        exact L33 FU x3_5 (0 : Int32)  ls (lv_sub hl [1, 2, 3, 0] rfl) h
      · have h := o_f h q
        refine lv_lload_n hx hb dX2_mixedWithShelf_12 rfl (lv_at hl 2 rfl) ?_
        refine lv_aload_n hx hb dX2_mixedWithShelf_13 rfl (lv_at hl 1 rfl) ?_
        refine lv_iload hx hb dX2_mixedWithShelf_14 (lv_at hl 3 rfl) ?_
        obtain ⟨v16, e16, h⟩ := o_bind h
        refine ro_calli (ro_runV (As := [.int x5_5]) (rest := [.long x3_5]) ⟨hx, hb, hml, hown, hts⟩ hP hK (c_X1_answer l D c5 a k hI i2 hi2 x5_5 v16 e16) gG_RX2_124 (va_recv hK hP (ci := 1) (q0 := (3 + i2)) rfl (KW_S c5 a k hi2)) hd_X1_answer ⟨Nat.le_of_ble_eq_true rfl, Nat.le_of_ble_eq_true rfl⟩ ⟨rfl, rfl⟩ hl.1 (Nat.le_of_ble_eq_true rfl) dX2_mixedWithShelf_16 ⟨Nat.zero_le _, Nat.zero_le _⟩ rfl) ?_
        refine lv_i2l (v := v16.toInt64) hx hb dX2_mixedWithShelf_19 rfl ?_
        obtain ⟨v20, e20, h⟩ := o_bind h
        refine ro_calll (ro_runS (As := [.long x3_5, .long v16.toInt64]) (rest := []) ⟨hx, hb, hml, hown, hts⟩ hP hK (c_X2_mixed l D (tyG c5) (KW c5 a k) x3_5 v16.toInt64 v20 e20) gG_RX2_175 hd_X2_mixed ⟨Nat.le_of_ble_eq_true rfl, Nat.le_of_ble_eq_true rfl⟩ ⟨rfl, rfl⟩ hl.1 (Nat.le_of_ble_eq_true rfl) dX2_mixedWithShelf_20 ⟨Nat.zero_le _, Nat.zero_le _⟩ rfl) ?_
        refine lv_lstore_n (i := 3) (lv' := [(3, .long v20), (0, .long p0), (2, .ref (aS a i2)), (5, .int x5_5)]) hx hb dX2_mixedWithShelf_23 rfl hl (by decide) rfl (fun ls hl => ?_)
        refine lv_iinc (v := (x5_5 + (1 : Int32))) (lv' := [(5, .int (x5_5 + (1 : Int32))), (3, .long v20), (0, .long p0), (2, .ref (aS a i2))]) hx hb dX2_mixedWithShelf_24 hl (k := 3) rfl rfl (by decide) rfl (fun ls hl => ?_)
        refine lv_goto (tgt := 5) hx hb dX2_mixedWithShelf_27 (by decide) ?_
        exact ih v20 (x5_5 + (1 : Int32))  ls (lv_sub hl [2, 3, 1, 0] rfl) h
  exact L5 FU p0 (0 : Int32)  ls (lv_sub hl [2, 3, 1, 0] rfl) h
set_option maxHeartbeats 4000000 in
set_option maxRecDepth 100000 in
theorem c_X2_mixedWithKind (l : Launch) (D : va_G) (c5 : Nat → ClassId) (a : KAd) (k : KSt) (hI : KI a) (p1 : Int64) (j3 : Nat) (hj3 : j3 < kN k) (r : Int64) (h : R_X2_mixedWithKind k p1 j3 = some r) : Met l yX2_mixedWithKind (ws_ yX2_mixedWithKind cX2_mixedWithKind 7 (some .long)) { frames := 5, cells := 0, slots := 0, locals := 113 } (va_Pc [.ref (aO a 0), .long p1, .ref (aK a j3)] (roB D (tyG c5) (KW c5 a k))) (vp_Sl (fun x => x = r)) 0 0 (fun _ => False) := by
  refine Met.ofW (cc := cX2_mixedWithKind) (maxL := 7) (ret := (some .long)) (by decide) rfl ?_
  intro p e s m args below meth c s₁ B hml hv
  obtain ⟨rfl, hP, hK⟩ := hv
  have hx := B.exec
  have hb := B.bytes
  have hr := B.returns
  have hts : ∀ w ∈ LA, w.before _ s = true := fun w hw => atoms_spec (ws := ws_ yX2_mixedWithKind cX2_mixedWithKind 7 (some .long)) B.pre w (List.mem_cons_of_mem _ hw)
  have hown : s.vm.findClass RX2 = some m.cls := findClass_of_methodNamed B.named
  have hlocks := B.notSynchronized
  have hl := lv_entry ([.ref (aO a 0), .long p1, .ref (aK a j3)] : List Value) (n := 7) (Nat.le_of_ble_eq_true rfl)
  rw [lg_entry_eq]
  generalize (lg_sl ([.ref (aO a 0), .long p1, .ref (aK a j3)] : List Value) ++ List.replicate (7 - (lg_sl ([.ref (aO a 0), .long p1, .ref (aK a j3)] : List Value)).length) Slot.unset).toArray = ls at hl ⊢
  have hl : lv_has ls 7 [(0, .ref (aO a 0)), (1, .long p1), (3, .ref (aK a j3))] := hl
  unfold R_X2_mixedWithKind at h
  refine lv_lload_n hx hb dX2_mixedWithKind_0 rfl (lv_at hl 1 rfl) ?_
  refine lv_lstore (i := 4) (lv' := [(4, .long p1), (0, .ref (aO a 0)), (1, .long p1), (3, .ref (aK a j3))]) hx hb dX2_mixedWithKind_1 hl (by decide) rfl (fun ls hl => ?_)
  refine lv_iconst (v := (0 : Int32)) hx hb dX2_mixedWithKind_3 (by decide) ?_
  refine lv_istore (i := 6) (lv' := [(6, .int (0 : Int32)), (4, .long p1), (0, .ref (aO a 0)), (1, .long p1), (3, .ref (aK a j3))]) hx hb dX2_mixedWithKind_4 hl (by decide) rfl (fun ls hl => ?_)
  have L6 : ∀ (n : Nat) (x4_6 : Int64) (x6_6 : Int32) (ls : Array Slot), lv_has ls 7 [(0, .ref (aO a 0)), (1, .long p1), (3, .ref (aK a j3)), (4, .long x4_6), (6, .int x6_6)] → R_X2_mixedWithKind_L6 k j3 n x4_6 x6_6 = some r → W p l e (headSpec (ws_ yX2_mixedWithKind cX2_mixedWithKind 7 (some .long)) { frames := 5, cells := 0, slots := 0, locals := 113 }).room s m ([.ref (aO a 0), .long p1, .ref (aK a j3)] : List Value).toArray below meth c s.heap [] 0 0 (MQ below (vp_Sl (fun x => x = r)) ([.ref (aO a 0), .long p1, .ref (aK a j3)] : List Value).toArray s 0 0 (fun _ => False)) (F0 m 6 ls []) := by
    intro n
    induction n with
    | zero =>
      intro x4_6 x6_6 ls hl h
      exact absurd h (by simp [R_X2_mixedWithKind_L6])
    | succ n ih =>
      intro x4_6 x6_6 ls hl h
      rw [R_X2_mixedWithKind_L6] at h
      refine lv_iload hx hb dX2_mixedWithKind_6 (lv_at hl 4 rfl) ?_
      refine lv_bipush (v := (9 : Int32)) hx hb dX2_mixedWithKind_8 (by decide) ?_
      refine lv_icmp_ge (tgt := 34) hx hb dX2_mixedWithKind_10 (by decide) (fun q => ?_) (fun q => ?_)
      · have h := o_t h q
        refine lv_lload hx hb dX2_mixedWithKind_34 (lv_at hl 3 rfl) ?_
        refine lv_aload_n hx hb dX2_mixedWithKind_36 rfl (lv_at hl 0 rfl) ?_
        refine lv_aload_n hx hb dX2_mixedWithKind_37 rfl (lv_at hl 2 rfl) ?_
        obtain ⟨v38, e38, h⟩ := o_bind h
        refine ro_calli (ro_runV (As := [.ref (aK a j3)]) (rest := [.long x4_6]) ⟨hx, hb, hml, hown, hts⟩ hP hK (c_X2_nextSpot l D c5 a k hI j3 hj3 v38 e38) gG_RX2_149 (va_recv hK hP (ci := 2) (q0 := 0) rfl (KW_0 c5 a k)) hd_X2_nextSpot ⟨Nat.le_of_ble_eq_true rfl, Nat.le_of_ble_eq_true rfl⟩ ⟨rfl, rfl⟩ hl.1 (Nat.le_of_ble_eq_true rfl) dX2_mixedWithKind_38 ⟨Nat.zero_le _, Nat.zero_le _⟩ rfl) ?_
        refine lv_i2l (v := v38.toInt64) hx hb dX2_mixedWithKind_41 rfl ?_
        obtain ⟨v42, e42, h⟩ := o_bind h
        refine ro_calll (ro_runS (As := [.long x4_6, .long v38.toInt64]) (rest := []) ⟨hx, hb, hml, hown, hts⟩ hP hK (c_X2_mixed l D (tyG c5) (KW c5 a k) x4_6 v38.toInt64 v42 e42) gG_RX2_175 hd_X2_mixed ⟨Nat.le_of_ble_eq_true rfl, Nat.le_of_ble_eq_true rfl⟩ ⟨rfl, rfl⟩ hl.1 (Nat.le_of_ble_eq_true rfl) dX2_mixedWithKind_42 ⟨Nat.zero_le _, Nat.zero_le _⟩ rfl) ?_
        exact ro_lret hx hb hr hlocks dX2_mixedWithKind_45 (Option.some.inj h)
      · have h := o_f h q
        refine lv_lload hx hb dX2_mixedWithKind_13 (lv_at hl 3 rfl) ?_
        refine lv_aload_n hx hb dX2_mixedWithKind_15 rfl (lv_at hl 0 rfl) ?_
        refine lv_aload_n hx hb dX2_mixedWithKind_16 rfl (lv_at hl 2 rfl) ?_
        refine lv_iload hx hb dX2_mixedWithKind_17 (lv_at hl 4 rfl) ?_
        obtain ⟨v19, e19, h⟩ := o_bind h
        refine ro_calli (ro_runV (As := [.ref (aK a j3), .int x6_6]) (rest := [.long x4_6]) ⟨hx, hb, hml, hown, hts⟩ hP hK (c_X2_answerAbout l D c5 a k hI j3 hj3 x6_6 v19 e19) gG_RX2_127 (va_recv hK hP (ci := 2) (q0 := 0) rfl (KW_0 c5 a k)) hd_X2_answerAbout ⟨Nat.le_of_ble_eq_true rfl, Nat.le_of_ble_eq_true rfl⟩ ⟨rfl, rfl⟩ hl.1 (Nat.le_of_ble_eq_true rfl) dX2_mixedWithKind_19 ⟨Nat.zero_le _, Nat.zero_le _⟩ rfl) ?_
        refine lv_i2l (v := v19.toInt64) hx hb dX2_mixedWithKind_22 rfl ?_
        obtain ⟨v23, e23, h⟩ := o_bind h
        refine ro_calll (ro_runS (As := [.long x4_6, .long v19.toInt64]) (rest := []) ⟨hx, hb, hml, hown, hts⟩ hP hK (c_X2_mixed l D (tyG c5) (KW c5 a k) x4_6 v19.toInt64 v23 e23) gG_RX2_175 hd_X2_mixed ⟨Nat.le_of_ble_eq_true rfl, Nat.le_of_ble_eq_true rfl⟩ ⟨rfl, rfl⟩ hl.1 (Nat.le_of_ble_eq_true rfl) dX2_mixedWithKind_23 ⟨Nat.zero_le _, Nat.zero_le _⟩ rfl) ?_
        refine lv_lstore (i := 4) (lv' := [(4, .long v23), (0, .ref (aO a 0)), (1, .long p1), (3, .ref (aK a j3)), (6, .int x6_6)]) hx hb dX2_mixedWithKind_26 hl (by decide) rfl (fun ls hl => ?_)
        refine lv_iinc (v := (x6_6 + (1 : Int32))) (lv' := [(6, .int (x6_6 + (1 : Int32))), (4, .long v23), (0, .ref (aO a 0)), (1, .long p1), (3, .ref (aK a j3))]) hx hb dX2_mixedWithKind_28 hl (k := 4) rfl rfl (by decide) rfl (fun ls hl => ?_)
        refine lv_goto (tgt := 6) hx hb dX2_mixedWithKind_31 (by decide) ?_
        exact ih v23 (x6_6 + (1 : Int32))  ls (lv_sub hl [2, 3, 4, 1, 0] rfl) h
  exact L6 FU p1 (0 : Int32)  ls (lv_sub hl [2, 3, 4, 1, 0] rfl) h
end
