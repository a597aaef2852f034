/-! throwing: what the start says of it; the rows -/
def exNames : List String := ["java/lang/RuntimeException", "java/lang/Exception"]
def exIA : String := "java/lang/IllegalArgumentException"
def exIS : String := "java/lang/IllegalStateException"
def exIO : String := "java/lang/IndexOutOfBoundsException"
def strL : List (Nat × String) := [(42, "a size is 2 to 12"), (49, "there are 5 kinds"), (57, "a way is 0 to 2"), (68, "there is neither a place nor a free shelf"), (99, "no bowl's place begins there"), (107, "an age is 0 to 99"), (119, "a shelf is 0 to 11"), (159, "many is 1 to 150"), (187, "there is no such kind"), (189, "a spot is 0 to 287"), (191, "nothing is told under this number")]
def exSup : List String := ["java/lang/RuntimeException", "java/lang/Exception", "java/lang/Throwable"]
def exP (sx : Nat → Nat) (U : State) : Prop := vx_Zq Bundle.tN "UNASSIGNED_STACK" Bundle.steD (fun _ => False) U U.heap ∧ vx_Zq Bundle.tN "SUPPRESSED_SENTINEL" Bundle.listD (fun _ => False) U U.heap ∧ (∀ q ∈ strL, vk_R RX2 q.1 q.2 (sx q.1) U) ∧ (∀ E ∈ [exIA, exIS, exIO], va_Nw (.castable E E) U) ∧ ∀ C ∈ exSup, va_Nw (.declares ⟨C, "<init>", "(Ljava/lang/String;)V"⟩) U
theorem exP_calling {sx : Nat → Nat} {U : State} {g : JFrame} {mk : MethodId} {a : Array Value} (h : exP sx U) : exP sx (U.calling g mk a) :=
  ⟨vx_Zq.moved (u := U) (U := U.calling g mk a) (Vm.Alike.refl U.vm) h.1, vx_Zq.moved (u := U) (U := U.calling g mk a) (Vm.Alike.refl U.vm) h.2.1, fun q hq => vk_R.same (u := U) (U := U.calling g mk a) rfl (h.2.2.1 q hq), fun E hE => va_Nw.same (u := U) (U := U.calling g mk a) rfl rfl (h.2.2.2.1 E hE), fun C hC => va_Nw.same (u := U) (U := U.calling g mk a) rfl rfl (h.2.2.2.2 C hC)⟩
theorem exP_warm {sx : Nat → Nat} {s U : State} (h : exP sx s) (hW : s.WarmedH U.vm) (hh : U.heap = s.heap) : exP sx U := by
  refine ⟨?_, ?_, fun q hq => vk_R.warm hW (h.2.2.1 q hq), fun E hE => va_Nw.warmC hW (h.2.2.2.1 E hE), fun C hC => va_Nw.warmD hW (h.2.2.2.2 C hC)⟩
  · rw [hh]; exact vx_Zq.moved hW.alike h.1
  · rw [hh]; exact vx_Zq.moved hW.alike h.2.1
abbrev erB (D : va_G) (tys : List (ClassId × FieldType)) (ws : va_W) (sx : Nat → Nat) : State → Prop := fun U => va_P D vwCl ws U.heap ∧ va_K D vwCl tys U ∧ exP sx U
theorem erB_blind {D : va_G} {tys : List (ClassId × FieldType)} {ws : va_W} {sx : Nat → Nat} {As : List Value} : FrameBlind (va_Pc As (erB D tys ws sx)) := fun a U g mk q => ⟨q.1, q.2.1, va_K.moved (u := U) (U := U.calling g mk a) (Vm.Alike.refl U.vm) q.2.2.1, exP_calling q.2.2.2⟩
abbrev ErrQ : Array Value → State → Outcome → State → Prop := fun _ _ _ _ => False
abbrev ErrX (E : String) : String → State → State → Prop := fun E' st t => E' = E ∧ va_F (fun _ => False) st t
theorem flags_nt {l : Launch} (h : l.flags = flags0) : l.stackTraces = false := by
  unfold Launch.stackTraces
  rw [h]
  decide +kernel
theorem gd_44 : ∀ w ∈ Cond.classLink RX2 40 exIA :: Cond.initialized exIA :: vx_atS RX2 44 exIA exNames, vx_ot w = true := by decide +kernel
theorem gd_51 : ∀ w ∈ Cond.classLink RX2 47 exIS :: Cond.initialized exIS :: vx_atS RX2 51 exIS exNames, vx_ot w = true := by decide +kernel
theorem gd_59 : ∀ w ∈ Cond.classLink RX2 55 exIO :: Cond.initialized exIO :: vx_atS RX2 59 exIO exNames, vx_ot w = true := by decide +kernel
theorem ga_44 : ∀ w ∈ (vx_atS RX2 44 exIA exNames).filter goodWord, w ∈ LA := by decide +kernel
theorem ga_51 : ∀ w ∈ (vx_atS RX2 51 exIS exNames).filter goodWord, w ∈ LA := by decide +kernel
theorem ga_59 : ∀ w ∈ (vx_atS RX2 59 exIO exNames).filter goodWord, w ∈ LA := by decide +kernel
def exBad (E : String) : List Cond := [.castable E E, .declares ⟨"java/lang/RuntimeException", "<init>", "(Ljava/lang/String;)V"⟩, .declares ⟨"java/lang/Exception", "<init>", "(Ljava/lang/String;)V"⟩, .declares ⟨"java/lang/Throwable", "<init>", "(Ljava/lang/String;)V"⟩]
theorem gb_44 : ∀ w ∈ (vx_atS RX2 44 exIA exNames).filter (fun w => !goodWord w), w ∈ exBad exIA := by decide +kernel
theorem gb_51 : ∀ w ∈ (vx_atS RX2 51 exIS exNames).filter (fun w => !goodWord w), w ∈ exBad exIS := by decide +kernel
theorem gb_59 : ∀ w ∈ (vx_atS RX2 59 exIO exNames).filter (fun w => !goodWord w), w ∈ exBad exIO := by decide +kernel
theorem exBad_at {sx : Nat → Nat} {s : State} {args : Array Value} {E : String} (hE : E ∈ [exIA, exIS, exIO]) (hX : exP sx s) : ∀ w ∈ exBad E, w.before args s = true := by
  obtain ⟨-, -, -, h1, h2⟩ := hX
  intro w hw
  simp only [exBad, List.mem_cons, List.not_mem_nil, or_false] at hw
  rcases hw with rfl | rfl | rfl | rfl
  · exact va_Nw.use rfl (h1 E hE)
  · exact va_Nw.use rfl (h2 _ (by decide +kernel))
  · exact va_Nw.use rfl (h2 _ (by decide +kernel))
  · exact va_Nw.use rfl (h2 _ (by decide +kernel))
section ER
variable {p : Program} {l : Launch} {e : Env} {R : Room} {s : State} {m : MethodId} {args : Array Value} {below : List Frame} {meth : Method} {c : Code} {H : Heap} {locs : List Loc} {cells slots : Nat} {Q : State → Prop}
variable {cc : ByteArray} {pc : Nat} {ls : Array Slot} {rest st0 As : List Value} {D : va_G} {tys : List (ClassId × FieldType)} {ws : va_W} {sx : Nat → Nat}
theorem at_44 (hts : ∀ w ∈ LA, w.before args s = true) (hX : exP sx s) : ∀ w ∈ vx_atS RX2 44 exIA exNames, w.before args s = true := vx_hat (fun w hw => hts w (ga_44 w hw)) gb_44 (exBad_at (by decide +kernel) hX)
theorem at_51 (hts : ∀ w ∈ LA, w.before args s = true) (hX : exP sx s) : ∀ w ∈ vx_atS RX2 51 exIS exNames, w.before args s = true := vx_hat (fun w hw => hts w (ga_51 w hw)) gb_51 (exBad_at (by decide +kernel) hX)
theorem at_59 (hts : ∀ w ∈ LA, w.before args s = true) (hX : exP sx s) : ∀ w ∈ vx_atS RX2 59 exIO exNames, w.before args s = true := vx_hat (fun w hw => hts w (ga_59 w hw)) gb_59 (exBad_at (by decide +kernel) hX)
theorem st_42 (hX : exP sx s) : vk_R RX2 42 "a size is 2 to 12" (sx 42) s := hX.2.2.1 (42, "a size is 2 to 12") (by decide +kernel)
theorem st_49 (hX : exP sx s) : vk_R RX2 49 "there are 5 kinds" (sx 49) s := hX.2.2.1 (49, "there are 5 kinds") (by decide +kernel)
theorem st_57 (hX : exP sx s) : vk_R RX2 57 "a way is 0 to 2" (sx 57) s := hX.2.2.1 (57, "a way is 0 to 2") (by decide +kernel)
theorem st_68 (hX : exP sx s) : vk_R RX2 68 "there is neither a place nor a free shelf" (sx 68) s := hX.2.2.1 (68, "there is neither a place nor a free shelf") (by decide +kernel)
theorem st_99 (hX : exP sx s) : vk_R RX2 99 "no bowl's place begins there" (sx 99) s := hX.2.2.1 (99, "no bowl's place begins there") (by decide +kernel)
theorem st_107 (hX : exP sx s) : vk_R RX2 107 "an age is 0 to 99" (sx 107) s := hX.2.2.1 (107, "an age is 0 to 99") (by decide +kernel)
theorem st_119 (hX : exP sx s) : vk_R RX2 119 "a shelf is 0 to 11" (sx 119) s := hX.2.2.1 (119, "a shelf is 0 to 11") (by decide +kernel)
theorem st_159 (hX : exP sx s) : vk_R RX2 159 "many is 1 to 150" (sx 159) s := hX.2.2.1 (159, "many is 1 to 150") (by decide +kernel)
theorem st_187 (hX : exP sx s) : vk_R RX2 187 "there is no such kind" (sx 187) s := hX.2.2.1 (187, "there is no such kind") (by decide +kernel)
theorem st_189 (hX : exP sx s) : vk_R RX2 189 "a spot is 0 to 287" (sx 189) s := hX.2.2.1 (189, "a spot is 0 to 287") (by decide +kernel)
theorem st_191 (hX : exP sx s) : vk_R RX2 191 "nothing is told under this number" (sx 191) s := hX.2.2.1 (191, "nothing is told under this number") (by decide +kernel)
theorem err_throw (hx : p.tables.exec = Jvm.exec) (hb : c.code = cc) (hflags : l.flags = flags0) {own cls text : String} {ik is ic sa : Nat} (hown : s.vm.findClass own = some m.cls) (hX : exP sx s)
    (hk : (Cond.classLink own ik cls).before args s = true) (hini : (Cond.initialized cls).before args s = true) (hstr : vk_R own is text sa s) (hat : ∀ w ∈ vx_atS own ic cls exNames, w.before args s = true) (hgood : ∀ w ∈ Cond.classLink own ik cls :: Cond.initialized cls :: vx_atS own ic cls exNames, vx_ot w = true)
    (hs : va_S (fun _ => False) s.heap s.heap []) (hsize : ls.size = c.maxLocals) (d0 : decode cc pc = .ok (.new ik, 3)) (d3 : decode cc (pc + 3) = .ok (.dup, 1)) (d4 : decode cc (pc + 4) = .ok (.ldc is, 2)) (d6 : decode cc (pc + 6) = .ok (.invokespecial ic, 3)) (d9 : decode cc (pc + 9) = .ok (.athrow, 1))
    (ht : ∀ x ∈ c.exceptionTable.toList, False) (hlocks : meth.locks = false) (hRf : 6 ≤ R.frames) (hRl : (rest.map fun v => v.category).sum + 82 ≤ R.locals) (hRc : 1 ≤ R.cells ∧ 6 ≤ R.slots) (hcls : Bundle.fit cls = true) :
    W p l e R s m args below meth c s.heap [] 0 0 (vx_MQ below ErrQ (ErrX cls) args s 1 6 (fun _ => False)) (F0 m pc ls rest) :=
  vx_throwS (names := exNames) hx hb (flags_nt hflags) hown hcls (by decide +kernel) hk hini hstr hat hgood hX.1 hX.2.1 hs hsize d0 d3 d4 d6 d9 (fun x hx => (ht x hx).elim) hRf hRl (by omega) (by omega) hlocks (fun t _ h1 h2 => ⟨rfl, h1, fun q hq _ => h2 q hq⟩) (fun _ h => absurd h List.not_mem_nil) (Nat.le_refl _) (Nat.le_refl _)
theorem err_throwW (hx : p.tables.exec = Jvm.exec) (hb : c.code = cc) (hflags : l.flags = flags0) {own cls text : String} {ik is ic sa : Nat} (hown : s.vm.findClass own = some m.cls) (hX : exP sx s)
    (hk : (Cond.classLink own ik cls).before args s = true) (hini : (Cond.initialized cls).before args s = true) (hstr : vk_R own is text sa s) (hat : ∀ w ∈ vx_atS own ic cls exNames, w.before args s = true) (hgood : ∀ w ∈ Cond.classLink own ik cls :: Cond.initialized cls :: vx_atS own ic cls exNames, vx_ot w = true)
    (hs : va_S (fun _ => False) s.heap s.heap []) (hsize : ls.size = c.maxLocals) (d0 : decode cc pc = .ok (.new ik, 3)) (d3 : decode cc (pc + 3) = .ok (.dup, 1)) (d4 : decode cc (pc + 4) = .ok (.ldc_w is, 3)) (d6 : decode cc (pc + 7) = .ok (.invokespecial ic, 3)) (d9 : decode cc (pc + 10) = .ok (.athrow, 1))
    (ht : ∀ x ∈ c.exceptionTable.toList, False) (hlocks : meth.locks = false) (hRf : 6 ≤ R.frames) (hRl : (rest.map fun v => v.category).sum + 82 ≤ R.locals) (hRc : 1 ≤ R.cells ∧ 6 ≤ R.slots) (hcls : Bundle.fit cls = true) :
    W p l e R s m args below meth c s.heap [] 0 0 (vx_MQ below ErrQ (ErrX cls) args s 1 6 (fun _ => False)) (F0 m pc ls rest) :=
  vx_throwSW (names := exNames) hx hb (flags_nt hflags) hown hcls (by decide +kernel) hk hini hstr hat hgood hX.1 hX.2.1 hs hsize d0 d3 d4 d6 d9 (fun x hx => (ht x hx).elim) hRf hRl (by omega) (by omega) hlocks (fun t _ h1 h2 => ⟨rfl, h1, fun q hq _ => h2 q hq⟩) (fun _ h => absurd h List.not_mem_nil) (Nat.le_refl _) (Nat.le_refl _)
variable {index maxL : Nat} {own C : String} {b : Addr} {y : MethodName} {yb : ByteArray} {ret : Option FieldType} {rm : Room} {nL : Nat} {E : String}
theorem er_runV (S : CallFix p m c cc nL s args LA own) (hP : va_P D vwCl ws s.heap) (hK : va_K D vwCl tys s) (hX : exP sx s) (hM : vx_Met l y (ws_ y yb maxL ret) rm (va_Pc (.ref b :: As) (erB D tys ws sx)) ErrQ (ErrX E) 1 6 (fun _ => False)) (hG : GoodIn LA (wsV own index C y (ws_ y yb maxL ret))) (hrc : rcvr s s.heap C b)
    (hd : y.cls = C ∧ y.cls ≠ "java/lang/invoke/MethodHandle" ∧ y.cls ≠ "java/lang/invoke/VarHandle" ∧ (parseMethodDescriptor y.desc).map (fun d => d.parameters.length) = some As.length) (hR : rm.frames + 1 ≤ R.frames ∧ 8 + (maxL + 11) + rm.locals ≤ R.locals) (h0 : rm.cells = 1 ∧ rm.slots = 6) (hsz : ls.size = nL) (hw : (rest.map fun v => v.category).sum ≤ 8) (hdg : decode cc pc = .ok (.invokevirtual index, 3)) (hc : 1 ≤ R.cells ∧ 6 ≤ R.slots) (hst : st0 = As.reverse ++ .ref b :: rest) :
    vx_Run p l e R s m args below meth c s.heap [] 0 0 1 6 (F0 m pc ls st0) rest (ErrQ (Value.ref b :: As).toArray) (ErrX E) (fun _ => False) :=
  vx_runV S hM (cwV As.length S.2.2.2.2 hG rfl h0.1 h0.2 hd hR) ⟨erB_blind, hrc, fun U hU hW => ⟨rfl, by rw [hU]; exact hP, va_K.moved hW.alike hK, exP_warm hX hW hU⟩⟩ rfl rfl hsz hst (lv_room hw) hdg ⟨by omega, by omega⟩
theorem er_runS (S : CallFix p m c cc nL s args LA own) (hP : va_P D vwCl ws s.heap) (hK : va_K D vwCl tys s) (hX : exP sx s) (hM : vx_Met l y (ws_ y yb maxL ret) rm (va_Pc As (erB D tys ws sx)) ErrQ (ErrX E) 1 6 (fun _ => False)) (hG : GoodIn LA (va_wsS own index y (ws_ y yb maxL ret)))
    (hd : y.cls ≠ "java/lang/invoke/MethodHandle" ∧ y.cls ≠ "java/lang/invoke/VarHandle" ∧ (parseMethodDescriptor y.desc).map (fun d => d.parameters.length) = some As.length) (hR : rm.frames + 1 ≤ R.frames ∧ 8 + (maxL + 11) + rm.locals ≤ R.locals) (h0 : rm.cells = 1 ∧ rm.slots = 6) (hsz : ls.size = nL) (hw : (rest.map fun v => v.category).sum ≤ 8) (hdg : decode cc pc = .ok (.invokestatic index, 3)) (hc : 1 ≤ R.cells ∧ 6 ≤ R.slots) (hst : st0 = As.reverse ++ rest) :
    vx_Run p l e R s m args below meth c s.heap [] 0 0 1 6 (F0 m pc ls st0) rest (ErrQ As.toArray) (ErrX E) (fun _ => False) :=
  vx_runS S hM (va_cwS As.length S.2.2.2.2 hG rfl h0.1 h0.2 hd hR) ⟨erB_blind, fun U hU hW => ⟨rfl, by rw [hU]; exact hP, va_K.moved hW.alike hK, exP_warm hX hW hU⟩⟩ rfl rfl hsz hst (lv_room hw) hdg ⟨by omega, by omega⟩
/-- a call that throws, in a method that catches nothing -/
theorem er_call {a : Array Value} (hr : vx_Run p l e R s m args below meth c s.heap [] 0 0 1 6 (F0 m pc ls st0) rest (ErrQ a) (ErrX E) (fun _ => False)) (ht : ∀ x ∈ c.exceptionTable.toList, False) (hlocks : meth.locks = false) :
    W p l e R s m args below meth c s.heap [] 0 0 (vx_MQ below ErrQ (ErrX E) args s 1 6 (fun _ => False)) (F0 m pc ls st0) := by
  intro T hT X
  rcases hr T hT X with ⟨v, st₀, t, T', L, h0, X', hL, e1, e2, hq, st⟩ | ⟨q, st₀, t, T', L, E', ce, h0, X', hL, e1, e2, ⟨rfl, hF⟩, hce, hcv, hcl, st⟩
  · exact hq.elim
  · have hF' : ∀ t' : State, t'.heap = T'.heap → s.vm.Alike t'.vm → ErrX E' E' s t' := by
      intro t' ht' _
      refine ⟨rfl, ?_⟩
      obtain ⟨f1, f2⟩ := hF
      rw [h0] at f1 f2
      exact ⟨by rw [ht', e1]; exact f1, fun q h1 h2 => by rw [ht', e1]; exact f2 q h1 h2⟩
    have k : vx_W p l e R s m args below meth c T'.heap ([] ++ L) (0 + 1) (0 + 6) (vx_MQ below ErrQ (ErrX E') args s 1 6 (fun _ => False)) (F0 m pc ls rest) q :=
      vx_out (fun x hx => (ht x hx).elim) hlocks (by rw [e1]; exact hce) hcv hcl hF' (fun z hz => hL z (by simpa using hz)) (Nat.le_refl _) (Nat.le_refl _)
    obtain ⟨t2, a1, b1⟩ := k T' rfl X'
    exact ⟨t2, st.trans a1, b1⟩
end ER
