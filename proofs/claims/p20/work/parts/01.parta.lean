-- ===== PART A: goes FIRST, ahead of the names: the tables' words, and 'selects' of the private methods out of them =====
/-- a private method of a class that the tables say can be made, by its rows of tables_1 -/
def lw_okq (q : MethodName × Nat) : Prop := (q.1.cls ≠ "java/lang/invoke/MethodHandle" ∧ q.1.cls ≠ "java/lang/invoke/VarHandle") ∧ Cond.instantiable q.1.cls q.2 ∈ tables_1 ∧ Cond.privateMethod q.1 ∈ tables_1 ∧ Cond.instanceMethod q.1 ∈ tables_1
theorem lw_p0 : lw_okq (⟨"SlabKitchen", "kindOf", "(I)LSlabKitchen$Kind;"⟩, 7) := ⟨⟨by decide +kernel, by decide +kernel⟩, List.mem_of_getElem? (i := 12) (by decide +kernel), List.mem_of_getElem? (i := 87) (by decide +kernel), List.mem_of_getElem? (i := 88) (by decide +kernel)⟩
theorem lw_p1 : lw_okq (⟨"java/lang/Throwable", "fillInStackTrace", "(I)Ljava/lang/Throwable;"⟩, 6) := ⟨⟨by decide +kernel, by decide +kernel⟩, List.mem_of_getElem? (i := 129) (by decide +kernel), List.mem_of_getElem? (i := 127) (by decide +kernel), List.mem_of_getElem? (i := 128) (by decide +kernel)⟩
theorem lw_p2 : lw_okq (⟨"SlabKitchen", "shelfToPut", "(LSlabKitchen$Kind;)LSlabKitchen$Shelf;"⟩, 7) := ⟨⟨by decide +kernel, by decide +kernel⟩, List.mem_of_getElem? (i := 12) (by decide +kernel), List.mem_of_getElem? (i := 159) (by decide +kernel), List.mem_of_getElem? (i := 160) (by decide +kernel)⟩
theorem lw_p3 : lw_okq (⟨"SlabKitchen", "inUseByWay", "(LSlabKitchen$Kind;)LSlabKitchen$Shelf;"⟩, 7) := ⟨⟨by decide +kernel, by decide +kernel⟩, List.mem_of_getElem? (i := 12) (by decide +kernel), List.mem_of_getElem? (i := 163) (by decide +kernel), List.mem_of_getElem? (i := 164) (by decide +kernel)⟩
theorem lw_p4 : lw_okq (⟨"SlabKitchen", "mostBowls", "(LSlabKitchen$Kind;LSlabKitchen$Shelf;)LSlabKitchen$Shelf;"⟩, 7) := ⟨⟨by decide +kernel, by decide +kernel⟩, List.mem_of_getElem? (i := 12) (by decide +kernel), List.mem_of_getElem? (i := 167) (by decide +kernel), List.mem_of_getElem? (i := 168) (by decide +kernel)⟩
theorem lw_p5 : lw_okq (⟨"SlabKitchen", "fewestBowls", "(LSlabKitchen$Kind;)LSlabKitchen$Shelf;"⟩, 7) := ⟨⟨by decide +kernel, by decide +kernel⟩, List.mem_of_getElem? (i := 12) (by decide +kernel), List.mem_of_getElem? (i := 179) (by decide +kernel), List.mem_of_getElem? (i := 180) (by decide +kernel)⟩
theorem lw_p6 : lw_okq (⟨"SlabKitchen", "firstInState", "(LSlabKitchen$Kind;I)LSlabKitchen$Shelf;"⟩, 7) := ⟨⟨by decide +kernel, by decide +kernel⟩, List.mem_of_getElem? (i := 12) (by decide +kernel), List.mem_of_getElem? (i := 183) (by decide +kernel), List.mem_of_getElem? (i := 184) (by decide +kernel)⟩
theorem lw_p7 : lw_okq (⟨"SlabKitchen", "firstFree", "()LSlabKitchen$Shelf;"⟩, 7) := ⟨⟨by decide +kernel, by decide +kernel⟩, List.mem_of_getElem? (i := 12) (by decide +kernel), List.mem_of_getElem? (i := 187) (by decide +kernel), List.mem_of_getElem? (i := 188) (by decide +kernel)⟩
theorem lw_p8 : lw_okq (⟨"SlabKitchen", "shelfAt", "(I)LSlabKitchen$Shelf;"⟩, 7) := ⟨⟨by decide +kernel, by decide +kernel⟩, List.mem_of_getElem? (i := 12) (by decide +kernel), List.mem_of_getElem? (i := 235) (by decide +kernel), List.mem_of_getElem? (i := 236) (by decide +kernel)⟩
theorem lw_p9 : lw_okq (⟨"SlabKitchen", "moveToPack", "(LSlabKitchen$Kind;)Z"⟩, 7) := ⟨⟨by decide +kernel, by decide +kernel⟩, List.mem_of_getElem? (i := 12) (by decide +kernel), List.mem_of_getElem? (i := 278) (by decide +kernel), List.mem_of_getElem? (i := 279) (by decide +kernel)⟩
theorem lw_p10 : lw_okq (⟨"SlabKitchen", "lastFewestBowls", "(LSlabKitchen$Kind;)LSlabKitchen$Shelf;"⟩, 7) := ⟨⟨by decide +kernel, by decide +kernel⟩, List.mem_of_getElem? (i := 12) (by decide +kernel), List.mem_of_getElem? (i := 282) (by decide +kernel), List.mem_of_getElem? (i := 283) (by decide +kernel)⟩
theorem lw_p11 : lw_okq (⟨"SlabKitchen", "answerAbout", "(LSlabKitchen$Kind;I)I"⟩, 7) := ⟨⟨by decide +kernel, by decide +kernel⟩, List.mem_of_getElem? (i := 12) (by decide +kernel), List.mem_of_getElem? (i := 298) (by decide +kernel), List.mem_of_getElem? (i := 299) (by decide +kernel)⟩
theorem lw_p12 : lw_okq (⟨"SlabKitchen", "shelvesOf", "(LSlabKitchen$Kind;)I"⟩, 7) := ⟨⟨by decide +kernel, by decide +kernel⟩, List.mem_of_getElem? (i := 12) (by decide +kernel), List.mem_of_getElem? (i := 302) (by decide +kernel), List.mem_of_getElem? (i := 303) (by decide +kernel)⟩
theorem lw_p13 : lw_okq (⟨"SlabKitchen", "shelvesInState", "(LSlabKitchen$Kind;I)I"⟩, 7) := ⟨⟨by decide +kernel, by decide +kernel⟩, List.mem_of_getElem? (i := 12) (by decide +kernel), List.mem_of_getElem? (i := 306) (by decide +kernel), List.mem_of_getElem? (i := 307) (by decide +kernel)⟩
theorem lw_p14 : lw_okq (⟨"SlabKitchen", "bowlsOf", "(LSlabKitchen$Kind;)I"⟩, 7) := ⟨⟨by decide +kernel, by decide +kernel⟩, List.mem_of_getElem? (i := 12) (by decide +kernel), List.mem_of_getElem? (i := 310) (by decide +kernel), List.mem_of_getElem? (i := 311) (by decide +kernel)⟩
theorem lw_p15 : lw_okq (⟨"SlabKitchen", "freeShelves", "()I"⟩, 7) := ⟨⟨by decide +kernel, by decide +kernel⟩, List.mem_of_getElem? (i := 12) (by decide +kernel), List.mem_of_getElem? (i := 322) (by decide +kernel), List.mem_of_getElem? (i := 323) (by decide +kernel)⟩
def lw_privs_1 : List (MethodName × Nat) := [(⟨"SlabKitchen", "kindOf", "(I)LSlabKitchen$Kind;"⟩, 7), (⟨"java/lang/Throwable", "fillInStackTrace", "(I)Ljava/lang/Throwable;"⟩, 6), (⟨"SlabKitchen", "shelfToPut", "(LSlabKitchen$Kind;)LSlabKitchen$Shelf;"⟩, 7), (⟨"SlabKitchen", "inUseByWay", "(LSlabKitchen$Kind;)LSlabKitchen$Shelf;"⟩, 7), (⟨"SlabKitchen", "mostBowls", "(LSlabKitchen$Kind;LSlabKitchen$Shelf;)LSlabKitchen$Shelf;"⟩, 7), (⟨"SlabKitchen", "fewestBowls", "(LSlabKitchen$Kind;)LSlabKitchen$Shelf;"⟩, 7), (⟨"SlabKitchen", "firstInState", "(LSlabKitchen$Kind;I)LSlabKitchen$Shelf;"⟩, 7), (⟨"SlabKitchen", "firstFree", "()LSlabKitchen$Shelf;"⟩, 7), (⟨"SlabKitchen", "shelfAt", "(I)LSlabKitchen$Shelf;"⟩, 7), (⟨"SlabKitchen", "moveToPack", "(LSlabKitchen$Kind;)Z"⟩, 7), (⟨"SlabKitchen", "lastFewestBowls", "(LSlabKitchen$Kind;)LSlabKitchen$Shelf;"⟩, 7), (⟨"SlabKitchen", "answerAbout", "(LSlabKitchen$Kind;I)I"⟩, 7), (⟨"SlabKitchen", "shelvesOf", "(LSlabKitchen$Kind;)I"⟩, 7), (⟨"SlabKitchen", "shelvesInState", "(LSlabKitchen$Kind;I)I"⟩, 7), (⟨"SlabKitchen", "bowlsOf", "(LSlabKitchen$Kind;)I"⟩, 7), (⟨"SlabKitchen", "freeShelves", "()I"⟩, 7)]
theorem lw_r1 : ∀ q ∈ lw_privs_1, lw_okq q := List.forall_mem_cons.mpr ⟨lw_p0, List.forall_mem_cons.mpr ⟨lw_p1, List.forall_mem_cons.mpr ⟨lw_p2, List.forall_mem_cons.mpr ⟨lw_p3, List.forall_mem_cons.mpr ⟨lw_p4, List.forall_mem_cons.mpr ⟨lw_p5, List.forall_mem_cons.mpr ⟨lw_p6, List.forall_mem_cons.mpr ⟨lw_p7, List.forall_mem_cons.mpr ⟨lw_p8, List.forall_mem_cons.mpr ⟨lw_p9, List.forall_mem_cons.mpr ⟨lw_p10, List.forall_mem_cons.mpr ⟨lw_p11, List.forall_mem_cons.mpr ⟨lw_p12, List.forall_mem_cons.mpr ⟨lw_p13, List.forall_mem_cons.mpr ⟨lw_p14, List.forall_mem_cons.mpr ⟨lw_p15, fun _ h => absurd h List.not_mem_nil⟩⟩⟩⟩⟩⟩⟩⟩⟩⟩⟩⟩⟩⟩⟩⟩
theorem lw_p16 : lw_okq (⟨"SlabKitchen", "bowlsInAll", "()I"⟩, 7) := ⟨⟨by decide +kernel, by decide +kernel⟩, List.mem_of_getElem? (i := 12) (by decide +kernel), List.mem_of_getElem? (i := 326) (by decide +kernel), List.mem_of_getElem? (i := 327) (by decide +kernel)⟩
theorem lw_p17 : lw_okq (⟨"SlabKitchen", "spansUnderBowls", "()I"⟩, 7) := ⟨⟨by decide +kernel, by decide +kernel⟩, List.mem_of_getElem? (i := 12) (by decide +kernel), List.mem_of_getElem? (i := 330) (by decide +kernel), List.mem_of_getElem? (i := 331) (by decide +kernel)⟩
theorem lw_p18 : lw_okq (⟨"SlabKitchen", "takenShelves", "()I"⟩, 7) := ⟨⟨by decide +kernel, by decide +kernel⟩, List.mem_of_getElem? (i := 12) (by decide +kernel), List.mem_of_getElem? (i := 334) (by decide +kernel), List.mem_of_getElem? (i := 335) (by decide +kernel)⟩
theorem lw_p19 : lw_okq (⟨"SlabKitchen", "spansOfNoPlace", "()I"⟩, 7) := ⟨⟨by decide +kernel, by decide +kernel⟩, List.mem_of_getElem? (i := 12) (by decide +kernel), List.mem_of_getElem? (i := 338) (by decide +kernel), List.mem_of_getElem? (i := 339) (by decide +kernel)⟩
theorem lw_p20 : lw_okq (⟨"SlabKitchen", "nextSpot", "(LSlabKitchen$Kind;)I"⟩, 7) := ⟨⟨by decide +kernel, by decide +kernel⟩, List.mem_of_getElem? (i := 12) (by decide +kernel), List.mem_of_getElem? (i := 346) (by decide +kernel), List.mem_of_getElem? (i := 347) (by decide +kernel)⟩
theorem lw_p21 : lw_okq (⟨"SlabKitchen", "gapsOf", "(LSlabKitchen$Kind;)I"⟩, 7) := ⟨⟨by decide +kernel, by decide +kernel⟩, List.mem_of_getElem? (i := 12) (by decide +kernel), List.mem_of_getElem? (i := 354) (by decide +kernel), List.mem_of_getElem? (i := 355) (by decide +kernel)⟩
theorem lw_p22 : lw_okq (⟨"SlabKitchen", "gainsOf", "(LSlabKitchen$Kind;)I"⟩, 7) := ⟨⟨by decide +kernel, by decide +kernel⟩, List.mem_of_getElem? (i := 12) (by decide +kernel), List.mem_of_getElem? (i := 371) (by decide +kernel), List.mem_of_getElem? (i := 372) (by decide +kernel)⟩
theorem lw_p23 : lw_okq (⟨"SlabKitchen", "mixedWithKind", "(JLSlabKitchen$Kind;)J"⟩, 7) := ⟨⟨by decide +kernel, by decide +kernel⟩, List.mem_of_getElem? (i := 12) (by decide +kernel), List.mem_of_getElem? (i := 397) (by decide +kernel), List.mem_of_getElem? (i := 398) (by decide +kernel)⟩
def lw_privs_2 : List (MethodName × Nat) := [(⟨"SlabKitchen", "bowlsInAll", "()I"⟩, 7), (⟨"SlabKitchen", "spansUnderBowls", "()I"⟩, 7), (⟨"SlabKitchen", "takenShelves", "()I"⟩, 7), (⟨"SlabKitchen", "spansOfNoPlace", "()I"⟩, 7), (⟨"SlabKitchen", "nextSpot", "(LSlabKitchen$Kind;)I"⟩, 7), (⟨"SlabKitchen", "gapsOf", "(LSlabKitchen$Kind;)I"⟩, 7), (⟨"SlabKitchen", "gainsOf", "(LSlabKitchen$Kind;)I"⟩, 7), (⟨"SlabKitchen", "mixedWithKind", "(JLSlabKitchen$Kind;)J"⟩, 7)]
theorem lw_r2 : ∀ q ∈ lw_privs_2, lw_okq q := List.forall_mem_cons.mpr ⟨lw_p16, List.forall_mem_cons.mpr ⟨lw_p17, List.forall_mem_cons.mpr ⟨lw_p18, List.forall_mem_cons.mpr ⟨lw_p19, List.forall_mem_cons.mpr ⟨lw_p20, List.forall_mem_cons.mpr ⟨lw_p21, List.forall_mem_cons.mpr ⟨lw_p22, List.forall_mem_cons.mpr ⟨lw_p23, fun _ h => absurd h List.not_mem_nil⟩⟩⟩⟩⟩⟩⟩⟩
def lw_privs : List (MethodName × Nat) := lw_privs_1 ++ (lw_privs_2)
def lw_tbl : List Cond := k2_sels lw_privs ++ tables_1
theorem lw_privs_ok : ∀ q ∈ lw_privs, lw_okq q := by
  show ∀ q ∈ lw_privs_1 ++ (lw_privs_2), lw_okq q
  exact List.forall_mem_append.mpr ⟨lw_r1, lw_r2⟩
/-- the streams that the claim lets the run draw from -/
abbrev lw_cs : List Choice := [Jvm.Choice.named "NaN.bits"]
theorem lw_bits : nanBits ∈ lw_cs := by first | decide | exact List.mem_cons_self | simp [lw_cs, nanBits]
-- ===== end of PART A; then your names; then what follows =====
/-! one list of words for every method: the tables' good words -/
def LA : List Cond := lw_tbl.filter goodWord
theorem la_in {w : Cond} (h : w ∈ lw_tbl) (g : goodWord w = true) : w ∈ LA := List.mem_filter.mpr ⟨h, g⟩
theorem la_p {w : Cond} (i : Nat) (h : (k2_sels lw_privs)[i]? = some w) (g : goodWord w = true) : w ∈ LA := la_in (List.mem_append_left _ (List.mem_of_getElem? h)) g
theorem la_1 {w : Cond} (i : Nat) (h : tables_1_1[i]? = some w) (g : goodWord w = true) : w ∈ LA := la_in (List.mem_append_right _ (List.mem_append_left _ (List.mem_of_getElem? h))) g
theorem la_2 {w : Cond} (i : Nat) (h : tables_1_2[i]? = some w) (g : goodWord w = true) : w ∈ LA := la_in (List.mem_append_right _ (List.mem_append_right _ (List.mem_append_left _ (List.mem_of_getElem? h)))) g
theorem la_3 {w : Cond} (i : Nat) (h : tables_1_3[i]? = some w) (g : goodWord w = true) : w ∈ LA := la_in (List.mem_append_right _ (List.mem_append_right _ (List.mem_append_right _ (List.mem_of_getElem? h)))) g
/-- the same of words that aren't good -/
theorem lt_1 {w : Cond} (i : Nat) (h : tables_1_1[i]? = some w) : w ∈ lw_tbl := List.mem_append_right _ (List.mem_append_left _ (List.mem_of_getElem? h))
theorem lt_2 {w : Cond} (i : Nat) (h : tables_1_2[i]? = some w) : w ∈ lw_tbl := List.mem_append_right _ (List.mem_append_right _ (List.mem_append_left _ (List.mem_of_getElem? h)))
theorem lt_3 {w : Cond} (i : Nat) (h : tables_1_3[i]? = some w) : w ∈ lw_tbl := List.mem_append_right _ (List.mem_append_right _ (List.mem_append_right _ (List.mem_of_getElem? h)))
theorem la_good {w : Cond} (h : w ∈ LA) : (w.onTables && w.keeps) = true ∨ ∃ ty, w = .arrayClass ty := good_of_word (List.mem_filter.mp h).2
/-- a method's words: its own code, and all -/
abbrev ws_ (y : MethodName) (c : ByteArray) (n : Nat) (ret : Option FieldType) : List Cond := Cond.code y c n ret :: LA
abbrev wsw_ (y : MethodName) (c : ByteArray) (n : Nat) (ret : Option FieldType) (hh : List (Nat × Nat × Nat × Nat)) : List Cond := Cond.codeWith y c n ret hh :: LA
theorem la_sub {y : MethodName} {c : ByteArray} {n : Nat} {ret : Option FieldType} (h : Cond.code y c n ret ∈ LA) : GoodIn LA (ws_ y c n ret) := fun w hw => (List.mem_cons.mp hw).elim (fun e => by subst e; exact ⟨h, la_good h⟩) (fun hw => ⟨hw, la_good hw⟩)
theorem la_V {own C : String} {idx : Nat} {y : MethodName} {c : ByteArray} {n : Nat} {ret : Option FieldType} (h1 : Cond.methodLink own idx y ∈ LA) (h2 : Cond.instanceMethod y ∈ LA) (h3 : Cond.selects C y y ∈ LA) (h4 : Cond.initialized C ∈ LA) (h5 : Cond.code y c n ret ∈ LA) : GoodIn LA (wsV own idx C y (ws_ y c n ret)) := by
  intro w hw
  have hm : w ∈ LA := by
    simp only [wsV, List.cons_append, List.nil_append, List.mem_cons] at hw
    rcases hw with e | e | e | e | e | hw
    · exact e ▸ h1
    · exact e ▸ h2
    · exact e ▸ h3
    · exact e ▸ h4
    · exact e ▸ h5
    · exact hw
  exact ⟨hm, la_good hm⟩
theorem la_S {own : String} {idx : Nat} {y : MethodName} {c : ByteArray} {n : Nat} {ret : Option FieldType} (h1 : Cond.methodLink own idx y ∈ LA) (h2 : Cond.static y ∈ LA) (h4 : Cond.initialized y.cls ∈ LA) (h5 : Cond.code y c n ret ∈ LA) : GoodIn LA (va_wsS own idx y (ws_ y c n ret)) := by
  intro w hw
  have hm : w ∈ LA := by
    simp only [va_wsS, List.cons_append, List.nil_append, List.mem_cons] at hw
    rcases hw with e | e | e | e | hw
    · exact e ▸ h1
    · exact e ▸ h2
    · exact e ▸ h4
    · exact e ▸ h5
    · exact hw
  exact ⟨hm, la_good hm⟩
