/-! the law -/
def R_law : String := "SlabKitchenLaw"
def lw_P (b : Addr) (xs : List Int32) (args : Array Value) (s : State) : Prop := args = #[.ref b] ∧ s.IntsAt b xs ∧ xs.length ≤ 260 ∧ (Jvm.Cond.and given_1 narrow_1).before args s = true
/-- what a walk over the start with the record d0 says of its end, said of the start itself -/
theorem lw_closed {s t : State} {o : Outcome} {d0 : Drawn} {L : List Loc} {k n : Nat} (hd0 : s.drawn.sameBut d0 lw_cs) (hv : ∃ v, o = .returned v) (hW : (s.setDrawn d0).WarmedH t.vm) (hs : (s.setDrawn d0).sameButNew ({ t with vm := s.vm } : State) L k n) : State.butDraws s t lw_cs (fun t1 => Framed s o t1 L k n) := by
  have h2 : t.drawn = d0 := congrArg State.drawn hs.1
  refine ⟨⟨hv, hW, State.sameButNew.setDrawn hs s.drawn⟩, ?_, by decide⟩
  rw [h2]
  exact hd0
def lw_Q (_ : Array Value) (s : State) (o : Outcome) (t : State) : Prop := o = .returned (some (.int 1)) ∧ State.butDraws s t lw_cs (fun t1 => Framed s o t1 [] 881861 6455599)
def lw_Z (below : List Frame) (a : Array Value) (s : State) : State → Prop := fun t => ∃ o, t.status = .running ∧ Ended t below o ∧ lw_Q a s o t
/-- the law's own end, with 1 on the stack, nothing written that was there before, its room as the claim has it; d0: the record of draws at this point (at the entry s.drawn: begin with 'refine W.base ?_' and 'have hd0 := Drawn.sameBut.refl s.drawn lw_cs') -/
theorem lw_ret {p : Program} {l : Launch} {e : Env} {s : State} {m : MethodId} {below : List Frame} {meth : Method} {c : Code} {b : Nat} {d0 : Drawn} (hd0 : s.drawn.sameBut d0 lw_cs) (hx : p.tables.exec = Jvm.exec) (hb : c.code = code) (hr : meth.sig.returnType = ret) (hlocks : meth.locks = false) {pc : Nat} {H : Heap} {ls : Array Slot} (hdg : decode code pc = .ok (.ireturn, 1)) : W p l e room_1 (s.setDrawn d0) m #[Value.ref b] below meth c H [] 881861 6455599 (lw_Z below #[Value.ref b] s) (F0 m pc ls [.int 1]) := by
  intro T hT X
  obtain ⟨fs, hret, hrun, hended, hW, hframe⟩ := X.leave (v := some (.int 1)) (hlocks := hlocks) (fun h => by rw [hr] at h; cases h)
  have hmeth' : T.vm.method? m = some meth := X.method'
  refine ⟨T.setFrames fs, ?_, .returned (some (.int 1)), hrun, hended, rfl, lw_closed hd0 ⟨_, rfl⟩ hW hframe⟩
  jvm_step X.here [X.here.top, hx, hb, hdg, hmeth', hr, ret, narrow_b1]
  (try refine ⟨rfl, ?_⟩); (try refine ⟨rfl, ?_⟩)
  first | (intro acts; rw [hret _ acts rfl rfl rfl]) | rw [hret _ _ rfl rfl rfl]
  exact Steps.refl _
/-- what holds at the law's entry: the machine, the code, the tables' words (any of lw_tbl by 'hts w (by decide +kernel)'), the script of L ints xs at the cell b, what the Statement gives of the start (any of its parts by flat_of_before) -/
def lw_At (p : Program) (s : State) (m : MethodId) (meth : Method) (c : Code) (b L : Nat) (xs : Nat → Int32) : Prop :=
  p.tables.exec = Jvm.exec ∧ c.code = code ∧ meth.sig.returnType = ret ∧ c.maxLocals = 24 ∧ s.vm.findClass R_law = some m.cls ∧ (∀ w ∈ lw_tbl, w.before #[Value.ref b] s = true) ∧ va_X b L xs s s.heap ∧ b < s.heap.size ∧ meth.locks = false ∧ (Jvm.Cond.and given_1 narrow_1).before #[Value.ref b] s = true
theorem hd_L_act : yL_act.cls ≠ "java/lang/invoke/MethodHandle" ∧ yL_act.cls ≠ "java/lang/invoke/VarHandle" ∧ (parseMethodDescriptor yL_act.desc).map (fun d => d.parameters.length) = some 3 := by decide +kernel
theorem hd_X2_advise : yX2_advise.cls = RX2 ∧ yX2_advise.cls ≠ "java/lang/invoke/MethodHandle" ∧ yX2_advise.cls ≠ "java/lang/invoke/VarHandle" ∧ (parseMethodDescriptor yX2_advise.desc).map (fun d => d.parameters.length) = some 0 := by decide +kernel
theorem hd_X2_digest : yX2_digest.cls = RX2 ∧ yX2_digest.cls ≠ "java/lang/invoke/MethodHandle" ∧ yX2_digest.cls ≠ "java/lang/invoke/VarHandle" ∧ (parseMethodDescriptor yX2_digest.desc).map (fun d => d.parameters.length) = some 0 := by decide +kernel
theorem hd_X2_fits : yX2_fits.cls = RX2 ∧ yX2_fits.cls ≠ "java/lang/invoke/MethodHandle" ∧ yX2_fits.cls ≠ "java/lang/invoke/VarHandle" ∧ (parseMethodDescriptor yX2_fits.desc).map (fun d => d.parameters.length) = some 1 := by decide +kernel
theorem hd_X2_gains : yX2_gains.cls = RX2 ∧ yX2_gains.cls ≠ "java/lang/invoke/MethodHandle" ∧ yX2_gains.cls ≠ "java/lang/invoke/VarHandle" ∧ (parseMethodDescriptor yX2_gains.desc).map (fun d => d.parameters.length) = some 1 := by decide +kernel
theorem hd_X2_next : yX2_next.cls = RX2 ∧ yX2_next.cls ≠ "java/lang/invoke/MethodHandle" ∧ yX2_next.cls ≠ "java/lang/invoke/VarHandle" ∧ (parseMethodDescriptor yX2_next.desc).map (fun d => d.parameters.length) = some 1 := by decide +kernel
theorem hd_X2_would : yX2_would.cls = RX2 ∧ yX2_would.cls ≠ "java/lang/invoke/MethodHandle" ∧ yX2_would.cls ≠ "java/lang/invoke/VarHandle" ∧ (parseMethodDescriptor yX2_would.desc).map (fun d => d.parameters.length) = some 2 := by decide +kernel
theorem hd_X3_isSame : yX3_isSame.cls = RX3 ∧ yX3_isSame.cls ≠ "java/lang/invoke/MethodHandle" ∧ yX3_isSame.cls ≠ "java/lang/invoke/VarHandle" ∧ (parseMethodDescriptor yX3_isSame.desc).map (fun d => d.parameters.length) = some 1 := by decide +kernel
theorem gG_RL_86 : GoodIn LA (wsV RL 86 RX2 yX2_count (ws_ yX2_count cX2_count 2 (some .int))) := la_V wT2_77 wT2_78 wT2_79 wT1_1 wT2_80
theorem gG_RL_89 : GoodIn LA (va_wsS RL 89 yL_act (wsw_ yL_act cL_act 9 (some .boolean) [(270, 278, 281, 59), (306, 313, 316, 67)])) := la_SW wT2_225 wT2_226 wT1_0 wW_act
theorem gG_RL_93 : GoodIn LA (wsV RL 93 RX2 yX2_digest (ws_ yX2_digest cX2_digest 7 (some .long))) := la_V wT2_138 wT2_139 wT2_140 wT1_1 wT2_141
theorem gG_RL_97 : GoodIn LA (wsV RL 97 RX2 yX2_next (ws_ yX2_next cX2_next 2 (some .int))) := la_V wT2_101 wT2_102 wT2_103 wT1_1 wT2_104
theorem gG_RL_100 : GoodIn LA (wsV RL 100 RX2 yX2_fits (ws_ yX2_fits cX2_fits 3 (some .int))) := la_V wT2_109 wT2_110 wT2_111 wT1_1 wT2_112
theorem gG_RL_103 : GoodIn LA (wsV RL 103 RX2 yX2_would (ws_ yX2_would cX2_would 6 (some .int))) := la_V wT2_117 wT2_118 wT2_119 wT1_1 wT2_120
theorem gG_RL_106 : GoodIn LA (wsV RL 106 RX2 yX2_about (ws_ yX2_about cX2_about 4 (some .int))) := la_V wT2_49 wT2_50 wT2_51 wT1_1 wT2_52
theorem gG_RL_109 : GoodIn LA (wsV RL 109 RX2 yX2_place (ws_ yX2_place cX2_place 5 (some .int))) := la_V wT2_73 wT2_74 wT2_75 wT1_1 wT2_76
theorem gG_RL_112 : GoodIn LA (wsV RL 112 RX2 yX2_gains (ws_ yX2_gains cX2_gains 2 (some .int))) := la_V wT2_126 wT2_127 wT2_128 wT1_1 wT2_129
theorem gG_RL_115 : GoodIn LA (wsV RL 115 RX2 yX2_advise (ws_ yX2_advise cX2_advise 7 (some .int))) := la_V wT2_134 wT2_135 wT2_136 wT1_1 wT2_137
theorem gG_RL_119 : GoodIn LA (wsV RL 119 RX3 yX3_isSame (ws_ yX3_isSame cX3_isSame 8 (some .boolean))) := la_V wT2_197 wT2_198 wT2_199 wT1_3 wT2_200
def R_L_law_L55 (x4_29 : Int32) (v39 : Int32) : Nat → KSt → SSt → Int32 → Option (KSt × SSt × Int32)
  | 0, _, _, _ => none
  | n + 1, k55, zs55, x6_55 => if (3 : Int32) ≤ x6_55 then some (k55, zs55, x6_55) else (R_L_act k55 zs55 ((((v39 >>> ((2 : Int32) &&& 31)) + ((53 : Int32) * x4_29)) >>> (((3 : Int32) * x6_55) &&& 31)) + ((29 : Int32) * x6_55))).bind fun v76 => if ¬ (1 : Int32) = 0 then R_L_law_L55 x4_29 v39 n v76.1 v76.2 (x6_55 + (1 : Int32)) else none
def R_L_law_L434 (k426 : KSt) (y3_426 : Int32) : Nat → (Nat → Int32) → Int32 → Option ((Nat → Int32) × Int32)
  | 0, _, _ => none
  | n + 1, gx0_434, x17_434 => if y3_426 ≤ x17_434 then some (gx0_434, x17_434) else yb (R_X2_about k426 x17_434 (7 : Int32)) fun v449 => if inb x17_434 ((y3_426.toNatClampNeg)) = true then (some (upd gx0_434 (x17_434.toNatClampNeg) v449) : Option (Nat → Int32)).bind fun gx452 => R_L_law_L434 k426 y3_426 n gx452 (x17_434 + (1 : Int32)) else none
def R_L_law_L588 (k585 : KSt) (y3_585 : Int32) (nx0_585 : Nat) (gx0_585 : Nat → Int32) : Nat → Int32 → Option (Int32)
  | 0, _ => none
  | n + 1, x21_588 => if y3_585 ≤ x21_588 then some x21_588 else yb (R_X2_about k585 x21_588 (7 : Int32)) fun v599 => if inb x21_588 (nx0_585) = true then if v599 = (gx0_585 (x21_588.toNatClampNeg)) then R_L_law_L588 k585 y3_585 nx0_585 gx0_585 n (x21_588 + (1 : Int32)) else none else none
def R_L_law_L706 (k703 : KSt) (y21_703 : Int32) (y3_703 : Int32) : Nat → Int32 → Option (Int32)
  | 0, _ => none
  | n + 1, x23_706 => if y3_703 ≤ x23_706 then some x23_706 else if ¬ y21_703 = 0 then some x23_706 else yb (R_X2_about k703 x23_706 (6 : Int32)) fun v722 => if v722 = 0 then R_L_law_L706 k703 y21_703 y3_703 n (x23_706 + (1 : Int32)) else none
def R_L_law_C703 (k703 : KSt) (zs703 : SSt) (y22_703 : Int32) (y21_703 : Int32) (y14_703 : Int32) (y13_703 : Int32) (y20_703 : Int32) (y19_703 : Int32) (y18_703 : Int32) (y17_703 : Int32) (y15_703 : Int32) (y12_703 : Int32) (y11_703 : Int32) (y10_703 : Int32) (y9_703 : Int32) (y8_703 : Int32) (y6_703 : Int64) (y5_703 : Int32) (y4_703 : Int32) (y3_703 : Int32) (nx0_703 : Nat) (gx0_703 : Nat → Int32) (K : KSt → SSt → Int32 → Option Unit) : Option Unit := (R_L_law_L706 k703 y21_703 y3_703 FU (0 : Int32)).bind fun v706 => (R_X3_isSame k703 zs703).bind fun v738 => if ¬ (1 : Int32) = 0 then K k703 zs703 (y4_703 + (1 : Int32)) else none
def R_L_law_C618 (k618 : KSt) (zs618 : SSt) (y21_618 : Int32) (y20_618 : Int32) (y19_618 : Int32) (y18_618 : Int32) (y17_618 : Int32) (y15_618 : Int32) (y14_618 : Int32) (y13_618 : Int32) (y12_618 : Int32) (y11_618 : Int32) (y10_618 : Int32) (y9_618 : Int32) (y8_618 : Int32) (y6_618 : Int64) (y5_618 : Int32) (y4_618 : Int32) (y3_618 : Int32) (nx0_618 : Nat) (gx0_618 : Nat → Int32) (K : KSt → SSt → Int32 → Option Unit) : Option Unit := yb (R_X2_count k618 (3 : Int32)) fun v620 => yb (R_X2_count k618 (2 : Int32)) fun v627 => if ¬ (3 : Int32) = 0 then ((if ¬ (bl_ (y5_618 >>> ((5 : Int32) &&& 31)) (3 : Int32)) = 0 then if ¬ (9 : Int32) = 0 then some (bl_ (y5_618 >>> ((7 : Int32) &&& 31)) (9 : Int32)) else none else some (0 : Int32)) : Option (Int32)).bind fun v640 => yb (R_X2_reap k618 v640) fun v662 => (R_X3_reaps zs618 v640).bind fun v670 => if ¬ v670.1 = v662.1 then none else yb (R_X2_count v662.2 (3 : Int32)) fun v680 => if ¬ v680 = v620 then none else yb (R_X2_count v662.2 (2 : Int32)) fun v690 => if v690 = (v627 + v662.1) then R_L_law_C703 v662.2 v670.2 v662.1 v640 v627 v620 y20_618 y19_618 y18_618 y17_618 y15_618 y12_618 y11_618 y10_618 y9_618 y8_618 y6_618 y5_618 y4_618 y3_618 nx0_618 gx0_618 (fun kk zz xx => K kk zz xx) else none else none
def R_L_law_C585 (k585 : KSt) (zs585 : SSt) (y20_585 : Int32) (y19_585 : Int32) (y18_585 : Int32) (y17_585 : Int32) (y15_585 : Int32) (y14_585 : Int32) (y13_585 : Int32) (y12_585 : Int32) (y11_585 : Int32) (y10_585 : Int32) (y9_585 : Int32) (y8_585 : Int32) (y6_585 : Int64) (y5_585 : Int32) (y4_585 : Int32) (y3_585 : Int32) (nx0_585 : Nat) (gx0_585 : Nat → Int32) (K : KSt → SSt → Int32 → Option Unit) : Option Unit := (R_L_law_L588 k585 y3_585 nx0_585 gx0_585 FU (0 : Int32)).bind fun v588 => R_L_law_C618 k585 zs585 v588 y20_585 y19_585 y18_585 y17_585 y15_585 y14_585 y13_585 y12_585 y11_585 y10_585 y9_585 y8_585 y6_585 y5_585 y4_585 y3_585 nx0_585 gx0_585 (fun kk zz xx => K kk zz xx)
def R_L_law_C505 (k505 : KSt) (zs505 : SSt) (y19_505 : Int32) (y18_505 : Int32) (y17_505 : Int32) (y15_505 : Int32) (y14_505 : Int32) (y13_505 : Int32) (y12_505 : Int32) (y11_505 : Int32) (y10_505 : Int32) (y9_505 : Int32) (y8_505 : Int32) (y6_505 : Int64) (y5_505 : Int32) (y4_505 : Int32) (y3_505 : Int32) (nx0_505 : Nat) (gx0_505 : Nat → Int32) (K : KSt → SSt → Int32 → Option Unit) : Option Unit := yb (R_X2_pack k505 y8_505) fun v508 => (R_X3_packs zs505 y8_505).bind fun v516 => if ¬ v516.1 = v508.1 then none else yb (R_X2_about v508.2 y8_505 (6 : Int32)) fun v529 => if ¬ v529 = (y17_505 + y18_505) then none else yb (R_X2_about v508.2 y8_505 (5 : Int32)) fun v544 => if (1 : Int32) < v544 then none else yb (R_X2_count v508.2 (8 : Int32)) fun v554 => if ¬ v554 = (y19_505 + v508.1) then none else yb (R_X2_pack v508.2 y8_505) fun v568 => if ¬ v568.1 = 0 then none else yb (R_X2_gains v568.2 y8_505) fun v577 => if v577 = 0 then R_L_law_C585 v568.2 v516.2 v508.1 y19_505 y18_505 y17_505 y15_505 y14_505 y13_505 y12_505 y11_505 y10_505 y9_505 y8_505 y6_505 y5_505 y4_505 y3_505 nx0_505 gx0_505 (fun kk zz xx => K kk zz xx) else none
def R_L_law_C426 (k426 : KSt) (zs426 : SSt) (y15_426 : Int32) (y14_426 : Int32) (y13_426 : Int32) (y12_426 : Int32) (y11_426 : Int32) (y10_426 : Int32) (y9_426 : Int32) (y8_426 : Int32) (y6_426 : Int64) (y5_426 : Int32) (y4_426 : Int32) (y3_426 : Int32) (K : KSt → SSt → Int32 → Option Unit) : Option Unit := if ¬ y3_426 < 0 ∧ y3_426.toNatClampNeg ≤ 24 then (R_L_law_L434 k426 y3_426 FU (fun _ => (0 : Int32)) (0 : Int32)).bind fun v434 => yb (R_X2_about k426 y8_426 (6 : Int32)) fun v464 => yb (R_X2_gains k426 y8_426) fun v472 => yb (R_X2_count k426 (8 : Int32)) fun v480 => if v472 < 0 then none else (R_X2_advise k426).bind fun v492 => yb (R_X2_gains k426 v492) fun v495 => if v472 ≤ v495 then R_L_law_C505 k426 zs426 v480 v472 v464 y15_426 y14_426 y13_426 y12_426 y11_426 y10_426 y9_426 y8_426 y6_426 y5_426 y4_426 y3_426 (y3_426.toNatClampNeg) v434.1 (fun kk zz xx => K kk zz xx) else none else none
def R_L_law_C220 (k220 : KSt) (zs220 : SSt) (y15_220 : Int32) (y14_220 : Int32) (y13_220 : Int32) (y12_220 : Int32) (y11_220 : Int32) (y10_220 : Int32) (y9_220 : Int32) (y8_220 : Int32) (y6_220 : Int64) (y5_220 : Int32) (y4_220 : Int32) (y3_220 : Int32) (K : KSt → SSt → Int32 → Option Unit) : Option Unit := ((if y9_220 < 0 then some (k220, zs220) else yb (R_X2_put k220 y8_220) fun v228 => if ¬ v228.1 = y9_220 then none else (R_X3_puts zs220 y8_220).bind fun v239 => if ¬ v239.1 = y9_220 then none else yb (R_X2_place v228.2 y9_220 (0 : Int32)) fun v251 => if ¬ v251 = y8_220 then none else yb (R_X2_place v228.2 y9_220 (2 : Int32)) fun v263 => if ¬ v263 = (1 : Int32) then none else yb (R_X2_place v228.2 y9_220 (3 : Int32)) fun v274 => if ¬ v274 = y9_220 then none else yb (R_X2_about v228.2 y8_220 (7 : Int32)) fun v287 => if ¬ v287 = (y12_220 + (1 : Int32)) then none else yb (R_X2_count v228.2 (3 : Int32)) fun v299 => if ¬ v299 = (y13_220 + (1 : Int32)) then none else yb (R_X2_count v228.2 (2 : Int32)) fun v311 => if ¬ v311 = (y14_220 - y11_220) then none else yb (R_X2_fits v228.2 y8_220) fun v325 => if v325 = (y10_220 - (1 : Int32)) then if ¬ (2 : Int32) = 0 then if ¬ (bl_ (y5_220 >>> ((6 : Int32) &&& 31)) (2 : Int32)) = 0 then some (v228.2, v239.2) else yb (R_X2_take v228.2 y9_220) fun v352 => (R_X3_takes v239.2 y9_220).bind fun v360 => if ¬ v360.1 = v352.1 then none else yb (R_X2_place v352.2 y9_220 (2 : Int32)) fun v372 => if ¬ v372 = 0 then none else yb (R_X2_about v352.2 y8_220 (7 : Int32)) fun v383 => if ¬ v383 = y12_220 then none else yb (R_X2_count v352.2 (3 : Int32)) fun v393 => if ¬ v393 = y13_220 then none else yb (R_X2_count v352.2 (0 : Int32)) fun v403 => if ¬ v403 = (y15_220 + (2 : Int32)) then none else yb (R_X2_fits v352.2 y8_220) fun v416 => if v416 = y10_220 then some (v352.2, v360.2) else none else none else none) : Option (KSt × SSt)).bind fun v222 => R_L_law_C426 v222.1 v222.2 y15_220 y14_220 y13_220 y12_220 y11_220 y10_220 y9_220 y8_220 y6_220 y5_220 y4_220 y3_220 (fun kk zz xx => K kk zz xx)
def R_L_law_C90 (k90 : KSt) (zs90 : SSt) (y6_90 : Int32) (y5_90 : Int32) (y4_90 : Int32) (y3_90 : Int32) (K : KSt → SSt → Int32 → Option Unit) : Option Unit := (R_X2_digest k90).bind fun v91 => if ¬ y3_90 = 0 then yb (R_X2_next k90 (bl_ (y5_90 >>> ((4 : Int32) &&& 31)) y3_90)) fun v109 => yb (R_X2_fits k90 (bl_ (y5_90 >>> ((4 : Int32) &&& 31)) y3_90)) fun v117 => yb (R_X2_would k90 (bl_ (y5_90 >>> ((4 : Int32) &&& 31)) y3_90) (1 : Int32)) fun v126 => yb (R_X2_about k90 (bl_ (y5_90 >>> ((4 : Int32) &&& 31)) y3_90) (7 : Int32)) fun v136 => yb (R_X2_count k90 (3 : Int32)) fun v143 => yb (R_X2_count k90 (2 : Int32)) fun v150 => yb (R_X2_count k90 (0 : Int32)) fun v157 => ((if 0 ≤ v109 then some (0 : Int32) else some (1 : Int32)) : Option (Int32)).bind fun v164 => ((if ¬ v117 = 0 then some (0 : Int32) else some (1 : Int32)) : Option (Int32)).bind fun v174 => if ¬ v164 = v174 then none else ((if 0 ≤ v109 then some (0 : Int32) else some (1 : Int32)) : Option (Int32)).bind fun v187 => ((if 0 ≤ v126 then some (0 : Int32) else some (1 : Int32)) : Option (Int32)).bind fun v197 => if ¬ v187 = v197 then none else (R_X2_digest k90).bind fun v209 => if (lg_cmp v209 v91) = 0 then R_L_law_C220 k90 zs90 v157 v150 v143 v136 v126 v117 v109 (bl_ (y5_90 >>> ((4 : Int32) &&& 31)) y3_90) v91 y5_90 y4_90 y3_90 (fun kk zz xx => K kk zz xx) else none else none
def R_L_law_L29 (L : Nat) (xs : Nat → Int32) (v22 : Int32) : Nat → KSt → SSt → Int32 → Option (Unit)
  | 0, _, _, _ => none
  | n + 1, k29, zs29, x4_29 => if (16 : Int32) ≤ x4_29 then some () else (cl_ L xs x4_29).bind fun v39 => (R_L_law_L55 x4_29 v39 4 k29 zs29 (0 : Int32)).bind fun v55 => R_L_law_C90 v55.1 v55.2.1 v55.2.2 ((v39 >>> ((2 : Int32) &&& 31)) + ((53 : Int32) * x4_29)) x4_29 v22 (fun kk zz xx => R_L_law_L29 L xs v22 n kk zz xx)
def R_L_law (L : Nat) (xs : Nat → Int32) (k : KSt) (zs : SSt) : Option Unit := yb (R_X2_count k (1 : Int32)) fun v22 => R_L_law_L29 L xs v22 17 k zs (0 : Int32)
set_option maxHeartbeats 8000000 in
set_option maxRecDepth 100000 in
theorem law_C703 {p : Program} {e : Env} {s : State} {m : MethodId} {below : List Frame} {meth : Method} {c : Code} (l : Launch) (hflags : l.flags = flags0) {D : va_G} {c5 : Nat → ClassId} {sx : Nat → Nat} {a : KAd} {bo : Nat → Nat} {b L : Nat} {xs : Nat → Int32} (hx : p.tables.exec = Jvm.exec) (hb : c.code = cL_law) (hr : meth.sig.returnType = ret) (hml : c.maxLocals = 24) (hown : s.vm.findClass RL = some m.cls) (hts : ∀ w ∈ LA, w.before #[Value.ref b] s = true) (hlocks : meth.locks = false) (hXs : va_X b L xs s s.heap) (hbl : b < s.heap.size) (hK : va_K D vwCl (tyG c5) s) (hOI : va_AOA .int s) (hOZ : va_AOA .boolean s) (hX : exL (lwA s) sx s) (r : Unit) (k703 : KSt) (zs703 : SSt) (y22_703 : Int32) (y21_703 : Int32) (y14_703 : Int32) (y13_703 : Int32) (y20_703 : Int32) (y19_703 : Int32) (y18_703 : Int32) (y17_703 : Int32) (y15_703 : Int32) (y12_703 : Int32) (y11_703 : Int32) (y10_703 : Int32) (y9_703 : Int32) (y8_703 : Int32) (y6_703 : Int64) (y5_703 : Int32) (y4_703 : Int32) (y3_703 : Int32) (nx0_703 : Nat) (gx0_703 : Nat → Int32) (K : KSt → SSt → Int32 → Option Unit) (bv703 : BV) {qn427 : Nat} (n29 cells703 slots703 : Nat) (hc703 : cells703 + 23 + n29 * 160 ≤ 4000 + 2720) (hn703 : slots703 + 150 + n29 * 420 ≤ 40000 + 7140) (ih29 : ∀ (cells29 slots29 : Nat) (bv29 : BV) (H : Heap) (locs : List Loc) (k29 : KSt) (zs29 : SSt) (x4_29 : Int32) (ls : Array Slot), lv_has ls 24 [(4, .int x4_29), (3, .int y3_703), (1, .ref (aO a 0)), (2, .ref (bo 0)), (0, .ref b)] → va_P D vwCl (KW c5 a k29 ++ (SW c5 bo bv29 zs29 ++ ([] : va_W))) H → va_D (lwA s) (KW c5 a k29 ++ (SW c5 bo bv29 zs29 ++ ([] : va_W))) → va_S (lwA s) s.heap H locs → cells29 + n29 * 160 ≤ 4000 + 2720 → slots29 + n29 * 420 ≤ 40000 + 7140 → K k29 zs29 x4_29 = some r → W p l e room_1 s m #[Value.ref b] below meth c H locs (cells29) (slots29) (lw_Z below #[Value.ref b] s) (F0 m 29 ls [])) {H : Heap} {locs : List Loc} {ls : Array Slot} (hl : lv_has ls 24 [(22, .int y22_703), (21, .int y21_703), (14, .int y14_703), (13, .int y13_703), (20, .int y20_703), (19, .int y19_703), (18, .int y18_703), (17, .int y17_703), (16, .ref qn427), (15, .int y15_703), (12, .int y12_703), (11, .int y11_703), (10, .int y10_703), (9, .int y9_703), (8, .int y8_703), (6, .long y6_703), (5, .int y5_703), (4, .int y4_703), (3, .int y3_703), (1, .ref (aO a 0)), (2, .ref (bo 0)), (0, .ref b)]) (hP : va_P D vwCl (KW c5 a k703 ++ (SW c5 bo bv703 zs703 ++ ([(qn427, .inl (c5 3, nx0_703, .inl gx0_703))] : va_W))) H) (hD : va_D (lwA s) (KW c5 a k703 ++ (SW c5 bo bv703 zs703 ++ ([(qn427, .inl (c5 3, nx0_703, .inl gx0_703))] : va_W)))) (hS : va_S (lwA s) s.heap H locs) (h : R_L_law_C703 k703 zs703 y22_703 y21_703 y14_703 y13_703 y20_703 y19_703 y18_703 y17_703 y15_703 y12_703 y11_703 y10_703 y9_703 y8_703 y6_703 y5_703 y4_703 y3_703 nx0_703 gx0_703 K = some r) : W p l e room_1 s m #[Value.ref b] below meth c H locs (cells703) (slots703) (lw_Z below #[Value.ref b] s) (F0 m 703 ls []) := by
  have hA : ∀ q : Nat, s.heap.size ≤ q → lwA s q := fun _ h => h
  have hbA : ¬ lwA s b := Nat.not_le.mpr hbl
  have hI : KI a := KI_of (fr_D (X := []) (Y := SW c5 bo bv703 zs703 ++ ([(qn427, .inl (c5 3, nx0_703, .inl gx0_703))] : va_W)) hD)
  unfold R_L_law_C703 at h
  refine lv_iconst (v := (0 : Int32)) hx hb dL_law_703 (by decide) ?_
  refine lv_istore (i := 23) (lv' := [(23, .int (0 : Int32)), (22, .int y22_703), (21, .int y21_703), (14, .int y14_703), (13, .int y13_703), (20, .int y20_703), (19, .int y19_703), (18, .int y18_703), (17, .int y17_703), (16, .ref qn427), (15, .int y15_703), (12, .int y12_703), (11, .int y11_703), (10, .int y10_703), (9, .int y9_703), (8, .int y8_703), (6, .long y6_703), (5, .int y5_703), (4, .int y4_703), (3, .int y3_703), (1, .ref (aO a 0)), (2, .ref (bo 0)), (0, .ref b)]) hx hb dL_law_704 hl (by decide) rfl (fun ls hl => ?_)
  obtain ⟨v706, e706, h⟩ := o_bind h
  have L706 : ∀ (n706 : Nat) (x23_706 : Int32) (v9 : Int32) (ls : Array Slot), lv_has ls 24 [(23, .int x23_706), (22, .int y22_703), (21, .int y21_703), (14, .int y14_703), (13, .int y13_703), (20, .int y20_703), (19, .int y19_703), (18, .int y18_703), (17, .int y17_703), (16, .ref qn427), (15, .int y15_703), (12, .int y12_703), (11, .int y11_703), (10, .int y10_703), (9, .int y9_703), (8, .int y8_703), (6, .long y6_703), (5, .int y5_703), (4, .int y4_703), (3, .int y3_703), (1, .ref (aO a 0)), (2, .ref (bo 0)), (0, .ref b)] → R_L_law_L706 k703 y21_703 y3_703 n706 x23_706 = some v9 → (∀ (ls : Array Slot), lv_has ls 24 [(23, .int v9), (22, .int y22_703), (21, .int y21_703), (14, .int y14_703), (13, .int y13_703), (20, .int y20_703), (19, .int y19_703), (18, .int y18_703), (17, .int y17_703), (16, .ref qn427), (15, .int y15_703), (12, .int y12_703), (11, .int y11_703), (10, .int y10_703), (9, .int y9_703), (8, .int y8_703), (6, .long y6_703), (5, .int y5_703), (4, .int y4_703), (3, .int y3_703), (1, .ref (aO a 0)), (2, .ref (bo 0)), (0, .ref b)] → W p l e room_1 s m #[Value.ref b] below meth c H locs (cells703) (slots703) (lw_Z below #[Value.ref b] s) (F0 m 736 ls [])) → W p l e room_1 s m #[Value.ref b] below meth c H locs (cells703) (slots703) (lw_Z below #[Value.ref b] s) (F0 m 706 ls []) := by
    intro n706
    induction n706 with
    | zero =>
      intro x23_706 v9 ls hl h kx
      exact absurd h (by simp [R_L_law_L706])
    | succ n706 ih706 =>
      intro x23_706 v9 ls hl h kx
      rw [R_L_law_L706] at h
      refine lv_iload hx hb dL_law_706 (lv_at hl 0 rfl) ?_
      refine lv_iload_n hx hb dL_law_708 rfl (lv_at hl 19 rfl) ?_
      refine lv_icmp_ge (tgt := 736) hx hb dL_law_709 (by decide) (fun q => ?_) (fun q => ?_)
      · have h := o_t h q
        obtain rfl := Option.some.inj h
        exact kx ls (lv_sub hl [0, 1, 2, 3, 4, 5, 6, 7, 8, 9, 10, 11, 12, 13, 14, 15, 16, 17, 18, 19, 20, 21, 22] rfl)
      · have h := o_f h q
        refine lv_iload hx hb dL_law_712 (lv_at hl 2 rfl) ?_
        refine lv_if_ne (tgt := 736) hx hb dL_law_714 (by decide) (fun q => ?_) (fun q => ?_)
        · have h := o_t' h q
          obtain rfl := Option.some.inj h
          exact kx ls (lv_sub hl [0, 1, 2, 3, 4, 5, 6, 7, 8, 9, 10, 11, 12, 13, 14, 15, 16, 17, 18, 19, 20, 21, 22] rfl)
        · have h := o_f' h q
          refine lv_aload_n hx hb dL_law_717 rfl (lv_at hl 20 rfl) ?_
          refine lv_iload hx hb dL_law_718 (lv_at hl 0 rfl) ?_
          refine lv_bipush (v := (6 : Int32)) hx hb dL_law_720 (by decide) ?_
          obtain ⟨v722, e722, h⟩ := yb_some h
          refine ro_calli (ro_runV (As := [.int x23_706, .int (6 : Int32)]) (rest := []) ⟨hx, hb, hml, hown, hts⟩ (fr_P (X := []) (Y := SW c5 bo bv703 zs703 ++ ([(qn427, .inl (c5 3, nx0_703, .inl gx0_703))] : va_W)) hP) hK (c_X2_about l D c5 a k703 hI x23_706 (6 : Int32) v722 e722) gG_RL_106 (va_recv hK hP (ci := 2) (q0 := 0) rfl (ap_l (KW_0 c5 a k703))) hd_X2_about ⟨Nat.le_of_ble_eq_true rfl, Nat.le_of_ble_eq_true rfl⟩ ⟨rfl, rfl⟩ hl.1 (Nat.le_of_ble_eq_true rfl) dL_law_722 ⟨show cells703 ≤ 881861 by omega, show slots703 ≤ 6455599 by omega⟩ rfl) ?_
          refine lv_if_eq (tgt := 730) hx hb dL_law_725 (by decide) (fun q => ?_) (fun q => ?_)
          · have h := o_t h q
            refine lv_iinc (v := (x23_706 + (1 : Int32))) (lv' := [(23, .int (x23_706 + (1 : Int32))), (22, .int y22_703), (21, .int y21_703), (14, .int y14_703), (13, .int y13_703), (20, .int y20_703), (19, .int y19_703), (18, .int y18_703), (17, .int y17_703), (16, .ref qn427), (15, .int y15_703), (12, .int y12_703), (11, .int y11_703), (10, .int y10_703), (9, .int y9_703), (8, .int y8_703), (6, .long y6_703), (5, .int y5_703), (4, .int y4_703), (3, .int y3_703), (1, .ref (aO a 0)), (2, .ref (bo 0)), (0, .ref b)]) hx hb dL_law_730 hl (k := 0) rfl rfl (by decide) rfl (fun ls hl => ?_)
            refine lv_goto (tgt := 706) hx hb dL_law_733 (by decide) ?_
            exact ih706 (x23_706 + (1 : Int32)) v9 ls (lv_sub hl [0, 1, 2, 3, 4, 5, 6, 7, 8, 9, 10, 11, 12, 13, 14, 15, 16, 17, 18, 19, 20, 21, 22] rfl) h kx
          · have h := o_f h q
            refine lv_iconst (v := (0 : Int32)) hx hb dL_law_728 (by decide) ?_
            cases h
  refine L706 FU (0 : Int32) v706 ls (lv_sub hl [0, 1, 2, 3, 4, 5, 6, 7, 8, 9, 10, 11, 12, 13, 14, 15, 16, 17, 18, 19, 20, 21, 22] rfl) e706 (fun ls hl => ?_)
  refine lv_aload_n hx hb dL_law_736 rfl (lv_at hl 21 rfl) ?_
  refine lv_aload_n hx hb dL_law_737 rfl (lv_at hl 20 rfl) ?_
  obtain ⟨v738, e738, h⟩ := o_bind h
  refine fr_calli (wc := KW c5 a k703 ++ SW c5 bo bv703 zs703) (X := []) (Y := [(qn427, .inl (c5 3, nx0_703, .inl gx0_703))]) (sw_runV (As := [.ref (aO a 0)]) (rest := []) ⟨hx, hb, hml, hown, hts⟩ (fr_P (X := []) (Y := [(qn427, .inl (c5 3, nx0_703, .inl gx0_703))]) (ra_P hP)) hK (fr_D (X := []) (Y := [(qn427, .inl (c5 3, nx0_703, .inl gx0_703))]) (ra_D hD)) hOI hOZ (c_X3_isSame l D c5 a k703 bo bv703 zs703 H.size v738 e738) gG_RL_119 (va_recv hK hP (ci := 3) (q0 := ((KW c5 a k703).length + 0)) rfl (ap_r (ap_l (SW_0 c5 bo bv703 zs703)))) hd_X3_isSame ⟨Nat.le_of_ble_eq_true rfl, Nat.le_of_ble_eq_true rfl⟩ ⟨rfl, rfl⟩ hl.1 (Nat.le_of_ble_eq_true rfl) dL_law_738 ⟨show cells703 + 20 ≤ 881861 by omega, show slots703 + 142 ≤ 6455599 by omega⟩ rfl) (ra_P hP) (ra_D hD) hS hA (fun x738 u738 H locs hpost hP hD hS => ?_)
  obtain rfl := hpost
  have hP := rb_P (V := KW c5 a k703) (W := SW c5 bo bv703 zs703) (X := [(qn427, .inl (c5 3, nx0_703, .inl gx0_703))]) hP
  have hD := rb_D (V := KW c5 a k703) (W := SW c5 bo bv703 zs703) (X := [(qn427, .inl (c5 3, nx0_703, .inl gx0_703))]) hD
  refine lv_if_ne (tgt := 746) hx hb dL_law_741 (by decide) (fun q => ?_) (fun q => ?_)
  · have h := o_t' h q
    refine lv_iinc (v := (y4_703 + (1 : Int32))) (lv' := [(4, .int (y4_703 + (1 : Int32))), (23, .int v706), (22, .int y22_703), (21, .int y21_703), (14, .int y14_703), (13, .int y13_703), (20, .int y20_703), (19, .int y19_703), (18, .int y18_703), (17, .int y17_703), (16, .ref qn427), (15, .int y15_703), (12, .int y12_703), (11, .int y11_703), (10, .int y10_703), (9, .int y9_703), (8, .int y8_703), (6, .long y6_703), (5, .int y5_703), (3, .int y3_703), (1, .ref (aO a 0)), (2, .ref (bo 0)), (0, .ref b)]) hx hb dL_law_746 hl (k := 18) rfl rfl (by decide) rfl (fun ls hl => ?_)
    refine lv_goto (tgt := 29) hx hb dL_law_749 (by decide) ?_
    have hP := dr2_P (A1 := []) (B1 := [(qn427, .inl (c5 3, nx0_703, .inl gx0_703))]) hP
    have hD := dr2_D (A1 := []) (B1 := [(qn427, .inl (c5 3, nx0_703, .inl gx0_703))]) hD
    exact ih29 (cells703 + 20) (slots703 + 142) bv703 H locs k703 zs703 (y4_703 + (1 : Int32)) ls (lv_sub hl [0, 19, 20, 21, 22] rfl) hP hD hS (by omega) (by omega) h
  · have h := o_f' h q
    refine lv_iconst (v := (0 : Int32)) hx hb dL_law_744 (by decide) ?_
    cases h
set_option maxHeartbeats 8000000 in
set_option maxRecDepth 100000 in
theorem law_C618 {p : Program} {e : Env} {s : State} {m : MethodId} {below : List Frame} {meth : Method} {c : Code} (l : Launch) (hflags : l.flags = flags0) {D : va_G} {c5 : Nat → ClassId} {sx : Nat → Nat} {a : KAd} {bo : Nat → Nat} {b L : Nat} {xs : Nat → Int32} (hx : p.tables.exec = Jvm.exec) (hb : c.code = cL_law) (hr : meth.sig.returnType = ret) (hml : c.maxLocals = 24) (hown : s.vm.findClass RL = some m.cls) (hts : ∀ w ∈ LA, w.before #[Value.ref b] s = true) (hlocks : meth.locks = false) (hXs : va_X b L xs s s.heap) (hbl : b < s.heap.size) (hK : va_K D vwCl (tyG c5) s) (hOI : va_AOA .int s) (hOZ : va_AOA .boolean s) (hX : exL (lwA s) sx s) (r : Unit) (k618 : KSt) (zs618 : SSt) (y21_618 : Int32) (y20_618 : Int32) (y19_618 : Int32) (y18_618 : Int32) (y17_618 : Int32) (y15_618 : Int32) (y14_618 : Int32) (y13_618 : Int32) (y12_618 : Int32) (y11_618 : Int32) (y10_618 : Int32) (y9_618 : Int32) (y8_618 : Int32) (y6_618 : Int64) (y5_618 : Int32) (y4_618 : Int32) (y3_618 : Int32) (nx0_618 : Nat) (gx0_618 : Nat → Int32) (K : KSt → SSt → Int32 → Option Unit) (bv618 : BV) {qn427 : Nat} (n29 cells618 slots618 : Nat) (hc618 : cells618 + 49 + n29 * 160 ≤ 4000 + 2720) (hn618 : slots618 + 189 + n29 * 420 ≤ 40000 + 7140) (ih29 : ∀ (cells29 slots29 : Nat) (bv29 : BV) (H : Heap) (locs : List Loc) (k29 : KSt) (zs29 : SSt) (x4_29 : Int32) (ls : Array Slot), lv_has ls 24 [(4, .int x4_29), (3, .int y3_618), (1, .ref (aO a 0)), (2, .ref (bo 0)), (0, .ref b)] → va_P D vwCl (KW c5 a k29 ++ (SW c5 bo bv29 zs29 ++ ([] : va_W))) H → va_D (lwA s) (KW c5 a k29 ++ (SW c5 bo bv29 zs29 ++ ([] : va_W))) → va_S (lwA s) s.heap H locs → cells29 + n29 * 160 ≤ 4000 + 2720 → slots29 + n29 * 420 ≤ 40000 + 7140 → K k29 zs29 x4_29 = some r → W p l e room_1 s m #[Value.ref b] below meth c H locs (cells29) (slots29) (lw_Z below #[Value.ref b] s) (F0 m 29 ls [])) {H : Heap} {locs : List Loc} {ls : Array Slot} (hl : lv_has ls 24 [(21, .int y21_618), (20, .int y20_618), (19, .int y19_618), (18, .int y18_618), (17, .int y17_618), (16, .ref qn427), (15, .int y15_618), (14, .int y14_618), (13, .int y13_618), (12, .int y12_618), (11, .int y11_618), (10, .int y10_618), (9, .int y9_618), (8, .int y8_618), (6, .long y6_618), (5, .int y5_618), (4, .int y4_618), (3, .int y3_618), (1, .ref (aO a 0)), (2, .ref (bo 0)), (0, .ref b)]) (hP : va_P D vwCl (KW c5 a k618 ++ (SW c5 bo bv618 zs618 ++ ([(qn427, .inl (c5 3, nx0_618, .inl gx0_618))] : va_W))) H) (hD : va_D (lwA s) (KW c5 a k618 ++ (SW c5 bo bv618 zs618 ++ ([(qn427, .inl (c5 3, nx0_618, .inl gx0_618))] : va_W)))) (hS : va_S (lwA s) s.heap H locs) (h : R_L_law_C618 k618 zs618 y21_618 y20_618 y19_618 y18_618 y17_618 y15_618 y14_618 y13_618 y12_618 y11_618 y10_618 y9_618 y8_618 y6_618 y5_618 y4_618 y3_618 nx0_618 gx0_618 K = some r) : W p l e room_1 s m #[Value.ref b] below meth c H locs (cells618) (slots618) (lw_Z below #[Value.ref b] s) (F0 m 618 ls []) := by
  have hA : ∀ q : Nat, s.heap.size ≤ q → lwA s q := fun _ h => h
  have hbA : ¬ lwA s b := Nat.not_le.mpr hbl
  have hI : KI a := KI_of (fr_D (X := []) (Y := SW c5 bo bv618 zs618 ++ ([(qn427, .inl (c5 3, nx0_618, .inl gx0_618))] : va_W)) hD)
  unfold R_L_law_C618 at h
  refine lv_aload_n hx hb dL_law_618 rfl (lv_at hl 18 rfl) ?_
  refine lv_iconst (v := (3 : Int32)) hx hb dL_law_619 (by decide) ?_
  obtain ⟨v620, e620, h⟩ := yb_some h
  refine ro_calli (ro_runV (As := [.int (3 : Int32)]) (rest := []) ⟨hx, hb, hml, hown, hts⟩ (fr_P (X := []) (Y := SW c5 bo bv618 zs618 ++ ([(qn427, .inl (c5 3, nx0_618, .inl gx0_618))] : va_W)) hP) hK (c_X2_count l D c5 a k618 hI (3 : Int32) v620 e620) gG_RL_86 (va_recv hK hP (ci := 2) (q0 := 0) rfl (ap_l (KW_0 c5 a k618))) hd_X2_count ⟨Nat.le_of_ble_eq_true rfl, Nat.le_of_ble_eq_true rfl⟩ ⟨rfl, rfl⟩ hl.1 (Nat.le_of_ble_eq_true rfl) dL_law_620 ⟨show cells618 ≤ 881861 by omega, show slots618 ≤ 6455599 by omega⟩ rfl) ?_
  refine lv_istore (i := 13) (lv' := [(13, .int v620), (21, .int y21_618), (20, .int y20_618), (19, .int y19_618), (18, .int y18_618), (17, .int y17_618), (16, .ref qn427), (15, .int y15_618), (14, .int y14_618), (12, .int y12_618), (11, .int y11_618), (10, .int y10_618), (9, .int y9_618), (8, .int y8_618), (6, .long y6_618), (5, .int y5_618), (4, .int y4_618), (3, .int y3_618), (1, .ref (aO a 0)), (2, .ref (bo 0)), (0, .ref b)]) hx hb dL_law_623 hl (by decide) rfl (fun ls hl => ?_)
  refine lv_aload_n hx hb dL_law_625 rfl (lv_at hl 18 rfl) ?_
  refine lv_iconst (v := (2 : Int32)) hx hb dL_law_626 (by decide) ?_
  obtain ⟨v627, e627, h⟩ := yb_some h
  refine ro_calli (ro_runV (As := [.int (2 : Int32)]) (rest := []) ⟨hx, hb, hml, hown, hts⟩ (fr_P (X := []) (Y := SW c5 bo bv618 zs618 ++ ([(qn427, .inl (c5 3, nx0_618, .inl gx0_618))] : va_W)) hP) hK (c_X2_count l D c5 a k618 hI (2 : Int32) v627 e627) gG_RL_86 (va_recv hK hP (ci := 2) (q0 := 0) rfl (ap_l (KW_0 c5 a k618))) hd_X2_count ⟨Nat.le_of_ble_eq_true rfl, Nat.le_of_ble_eq_true rfl⟩ ⟨rfl, rfl⟩ hl.1 (Nat.le_of_ble_eq_true rfl) dL_law_627 ⟨show cells618 ≤ 881861 by omega, show slots618 ≤ 6455599 by omega⟩ rfl) ?_
  refine lv_istore (i := 14) (lv' := [(14, .int v627), (13, .int v620), (21, .int y21_618), (20, .int y20_618), (19, .int y19_618), (18, .int y18_618), (17, .int y17_618), (16, .ref qn427), (15, .int y15_618), (12, .int y12_618), (11, .int y11_618), (10, .int y10_618), (9, .int y9_618), (8, .int y8_618), (6, .long y6_618), (5, .int y5_618), (4, .int y4_618), (3, .int y3_618), (1, .ref (aO a 0)), (2, .ref (bo 0)), (0, .ref b)]) hx hb dL_law_630 hl (by decide) rfl (fun ls hl => ?_)
  refine lv_iload hx hb dL_law_632 (lv_at hl 15 rfl) ?_
  refine lv_iconst (v := (5 : Int32)) hx hb dL_law_634 (by decide) ?_
  refine lv_ishr hx hb dL_law_635 ?_
  refine lv_iconst (v := (3 : Int32)) hx hb dL_law_636 (by decide) ?_
  obtain ⟨g637, h⟩ := o_if h
  refine ro_calli (ro_runS (As := [.int (y5_618 >>> ((5 : Int32) &&& 31)), .int (3 : Int32)]) (rest := []) ⟨hx, hb, hml, hown, hts⟩ hP hK (c_L_below l D (tyG c5) (KW c5 a k618 ++ (SW c5 bo bv618 zs618 ++ ([(qn427, .inl (c5 3, nx0_618, .inl gx0_618))] : va_W))) (y5_618 >>> ((5 : Int32) &&& 31)) (3 : Int32) g637) gG_RL_15 hd_L_below ⟨Nat.le_of_ble_eq_true rfl, Nat.le_of_ble_eq_true rfl⟩ ⟨rfl, rfl⟩ hl.1 (Nat.le_of_ble_eq_true rfl) dL_law_637 ⟨show cells618 ≤ 881861 by omega, show slots618 ≤ 6455599 by omega⟩ rfl) ?_
  obtain ⟨v640, e640, h⟩ := o_bind h
  have tn640 : ∀ (ls : Array Slot), lv_has ls 24 [(14, .int v627), (13, .int v620), (21, .int y21_618), (20, .int y20_618), (19, .int y19_618), (18, .int y18_618), (17, .int y17_618), (16, .ref qn427), (15, .int y15_618), (12, .int y12_618), (11, .int y11_618), (10, .int y10_618), (9, .int y9_618), (8, .int y8_618), (6, .long y6_618), (5, .int y5_618), (4, .int y4_618), (3, .int y3_618), (1, .ref (aO a 0)), (2, .ref (bo 0)), (0, .ref b)] → W p l e room_1 s m #[Value.ref b] below meth c H locs (cells618) (slots618) (lw_Z below #[Value.ref b] s) (F0 m 657 ls [.int v640]) := by
    intro ls hl
    refine lv_istore (i := 21) (lv' := [(21, .int v640), (14, .int v627), (13, .int v620), (20, .int y20_618), (19, .int y19_618), (18, .int y18_618), (17, .int y17_618), (16, .ref qn427), (15, .int y15_618), (12, .int y12_618), (11, .int y11_618), (10, .int y10_618), (9, .int y9_618), (8, .int y8_618), (6, .long y6_618), (5, .int y5_618), (4, .int y4_618), (3, .int y3_618), (1, .ref (aO a 0)), (2, .ref (bo 0)), (0, .ref b)]) hx hb dL_law_657 hl (by decide) rfl (fun ls hl => ?_)
    refine lv_aload_n hx hb dL_law_659 rfl (lv_at hl 18 rfl) ?_
    refine lv_iload hx hb dL_law_660 (lv_at hl 0 rfl) ?_
    obtain ⟨v662, e662, h⟩ := yb_some h
    refine fr_calli (wc := KW c5 a k618) (X := []) (Y := SW c5 bo bv618 zs618 ++ ([(qn427, .inl (c5 3, nx0_618, .inl gx0_618))] : va_W)) (rw_runV (As := [.int v640]) (rest := []) ⟨hx, hb, hml, hown, hts⟩ (fr_P (X := []) (Y := SW c5 bo bv618 zs618 ++ ([(qn427, .inl (c5 3, nx0_618, .inl gx0_618))] : va_W)) hP) hK (fr_D (X := []) (Y := SW c5 bo bv618 zs618 ++ ([(qn427, .inl (c5 3, nx0_618, .inl gx0_618))] : va_W)) hD) (c_X2_reap l D c5 a k618 hI H.size v640 v662 e662) gG_RL_31 (va_recv hK hP (ci := 2) (q0 := 0) rfl (ap_l (KW_0 c5 a k618))) hd_X2_reap ⟨Nat.le_of_ble_eq_true rfl, Nat.le_of_ble_eq_true rfl⟩ ⟨rfl, rfl⟩ hl.1 (Nat.le_of_ble_eq_true rfl) dL_law_662 ⟨show cells618 ≤ 881861 by omega, show slots618 ≤ 6455599 by omega⟩ rfl) hP hD hS hA (fun x662 u662 H locs hpost hP hD hS => ?_)
    obtain ⟨ex662, eu662⟩ := hpost
    subst ex662
    subst eu662
    refine lv_istore (i := 22) (lv' := [(22, .int v662.1), (21, .int v640), (14, .int v627), (13, .int v620), (20, .int y20_618), (19, .int y19_618), (18, .int y18_618), (17, .int y17_618), (16, .ref qn427), (15, .int y15_618), (12, .int y12_618), (11, .int y11_618), (10, .int y10_618), (9, .int y9_618), (8, .int y8_618), (6, .long y6_618), (5, .int y5_618), (4, .int y4_618), (3, .int y3_618), (1, .ref (aO a 0)), (2, .ref (bo 0)), (0, .ref b)]) hx hb dL_law_665 hl (by decide) rfl (fun ls hl => ?_)
    refine lv_aload_n hx hb dL_law_667 rfl (lv_at hl 20 rfl) ?_
    refine lv_iload hx hb dL_law_668 (lv_at hl 1 rfl) ?_
    obtain ⟨v670, e670, h⟩ := o_bind h
    refine fr_calli (wc := SW c5 bo bv618 zs618) (X := KW c5 a v662.2) (Y := [(qn427, .inl (c5 3, nx0_618, .inl gx0_618))]) (sw_runV (As := [.int v640]) (rest := []) ⟨hx, hb, hml, hown, hts⟩ (fr_P (X := KW c5 a v662.2) (Y := [(qn427, .inl (c5 3, nx0_618, .inl gx0_618))]) hP) hK (fr_D (X := KW c5 a v662.2) (Y := [(qn427, .inl (c5 3, nx0_618, .inl gx0_618))]) hD) hOI hOZ (c_X3_reaps l D c5 bo bv618 zs618 H.size v640 v670 e670) gG_RL_34 (va_recv hK hP (ci := 3) (q0 := ((KW c5 a v662.2).length + 0)) rfl (ap_r (ap_l (SW_0 c5 bo bv618 zs618)))) hd_X3_reaps ⟨Nat.le_of_ble_eq_true rfl, Nat.le_of_ble_eq_true rfl⟩ ⟨rfl, rfl⟩ hl.1 (Nat.le_of_ble_eq_true rfl) dL_law_670 ⟨show cells618 + 0 + 26 ≤ 881861 by omega, show slots618 + 0 + 39 ≤ 6455599 by omega⟩ rfl) hP hD hS hA (fun x670 u670 H locs hpost hP hD hS => ?_)
    obtain ⟨bv670, z670⟩ := u670
    obtain ⟨rfl, rfl⟩ := hpost
    refine lv_iload hx hb dL_law_673 (lv_at hl 0 rfl) ?_
    refine lv_icmp_ne (tgt := 701) hx hb dL_law_675 (by decide) (fun q => ?_) (fun q => ?_)
    · have h := o_t' h q
      refine lv_iconst (v := (0 : Int32)) hx hb dL_law_701 (by decide) ?_
      cases h
    · have h := o_f' h q
      refine lv_aload_n hx hb dL_law_678 rfl (lv_at hl 19 rfl) ?_
      refine lv_iconst (v := (3 : Int32)) hx hb dL_law_679 (by decide) ?_
      obtain ⟨v680, e680, h⟩ := yb_some h
      refine ro_calli (ro_runV (As := [.int (3 : Int32)]) (rest := []) ⟨hx, hb, hml, hown, hts⟩ (fr_P (X := []) (Y := SW c5 bo bv670 v670.2 ++ ([(qn427, .inl (c5 3, nx0_618, .inl gx0_618))] : va_W)) hP) hK (c_X2_count l D c5 a v662.2 hI (3 : Int32) v680 e680) gG_RL_86 (va_recv hK hP (ci := 2) (q0 := 0) rfl (ap_l (KW_0 c5 a v662.2))) hd_X2_count ⟨Nat.le_of_ble_eq_true rfl, Nat.le_of_ble_eq_true rfl⟩ ⟨rfl, rfl⟩ hl.1 (Nat.le_of_ble_eq_true rfl) dL_law_680 ⟨show cells618 + 0 + 26 ≤ 881861 by omega, show slots618 + 0 + 39 ≤ 6455599 by omega⟩ rfl) ?_
      refine lv_iload hx hb dL_law_683 (lv_at hl 3 rfl) ?_
      refine lv_icmp_ne (tgt := 701) hx hb dL_law_685 (by decide) (fun q => ?_) (fun q => ?_)
      · have h := o_t' h q
        refine lv_iconst (v := (0 : Int32)) hx hb dL_law_701 (by decide) ?_
        cases h
      · have h := o_f' h q
        refine lv_aload_n hx hb dL_law_688 rfl (lv_at hl 19 rfl) ?_
        refine lv_iconst (v := (2 : Int32)) hx hb dL_law_689 (by decide) ?_
        obtain ⟨v690, e690, h⟩ := yb_some h
        refine ro_calli (ro_runV (As := [.int (2 : Int32)]) (rest := []) ⟨hx, hb, hml, hown, hts⟩ (fr_P (X := []) (Y := SW c5 bo bv670 v670.2 ++ ([(qn427, .inl (c5 3, nx0_618, .inl gx0_618))] : va_W)) hP) hK (c_X2_count l D c5 a v662.2 hI (2 : Int32) v690 e690) gG_RL_86 (va_recv hK hP (ci := 2) (q0 := 0) rfl (ap_l (KW_0 c5 a v662.2))) hd_X2_count ⟨Nat.le_of_ble_eq_true rfl, Nat.le_of_ble_eq_true rfl⟩ ⟨rfl, rfl⟩ hl.1 (Nat.le_of_ble_eq_true rfl) dL_law_690 ⟨show cells618 + 0 + 26 ≤ 881861 by omega, show slots618 + 0 + 39 ≤ 6455599 by omega⟩ rfl) ?_
        refine lv_iload hx hb dL_law_693 (lv_at hl 2 rfl) ?_
        refine lv_iload hx hb dL_law_695 (lv_at hl 0 rfl) ?_
        refine lv_iadd hx hb dL_law_697 ?_
        refine lv_icmp_eq (tgt := 703) hx hb dL_law_698 (by decide) (fun q => ?_) (fun q => ?_)
        · have h := o_t h q
          exact law_C703 l hflags hx hb hr hml hown hts hlocks hXs hbl hK hOI hOZ hX r v662.2 v670.2 v662.1 v640 v627 v620 y20_618 y19_618 y18_618 y17_618 y15_618 y12_618 y11_618 y10_618 y9_618 y8_618 y6_618 y5_618 y4_618 y3_618 nx0_618 gx0_618 _ bv670 n29 (cells618 + 0 + 26) (slots618 + 0 + 39) (by omega) (by omega) ih29 hl hP hD hS h
        · have h := o_f h q
          refine lv_iconst (v := (0 : Int32)) hx hb dL_law_701 (by decide) ?_
          cases h
  have h := e640
  refine lv_if_ne (tgt := 647) hx hb dL_law_640 (by decide) (fun q => ?_) (fun q => ?_)
  · have h := o_t' h q
    refine lv_iload hx hb dL_law_647 (lv_at hl 15 rfl) ?_
    refine lv_bipush (v := (7 : Int32)) hx hb dL_law_649 (by decide) ?_
    refine lv_ishr hx hb dL_law_651 ?_
    refine lv_bipush (v := (9 : Int32)) hx hb dL_law_652 (by decide) ?_
    obtain ⟨g654, h⟩ := o_if h
    refine ro_calli (ro_runS (As := [.int (y5_618 >>> ((7 : Int32) &&& 31)), .int (9 : Int32)]) (rest := []) ⟨hx, hb, hml, hown, hts⟩ hP hK (c_L_below l D (tyG c5) (KW c5 a k618 ++ (SW c5 bo bv618 zs618 ++ ([(qn427, .inl (c5 3, nx0_618, .inl gx0_618))] : va_W))) (y5_618 >>> ((7 : Int32) &&& 31)) (9 : Int32) g654) gG_RL_15 hd_L_below ⟨Nat.le_of_ble_eq_true rfl, Nat.le_of_ble_eq_true rfl⟩ ⟨rfl, rfl⟩ hl.1 (Nat.le_of_ble_eq_true rfl) dL_law_654 ⟨show cells618 ≤ 881861 by omega, show slots618 ≤ 6455599 by omega⟩ rfl) ?_
    obtain rfl := Option.some.inj h
    exact tn640 ls (lv_sub hl [0, 1, 2, 3, 4, 5, 6, 7, 8, 9, 10, 11, 12, 13, 14, 15, 16, 17, 18, 19, 20] rfl)
  · have h := o_f' h q
    refine lv_iconst (v := (0 : Int32)) hx hb dL_law_643 (by decide) ?_
    refine lv_goto (tgt := 657) hx hb dL_law_644 (by decide) ?_
    obtain rfl := Option.some.inj h
    exact tn640 ls (lv_sub hl [0, 1, 2, 3, 4, 5, 6, 7, 8, 9, 10, 11, 12, 13, 14, 15, 16, 17, 18, 19, 20] rfl)
set_option maxHeartbeats 8000000 in
set_option maxRecDepth 100000 in
theorem law_C585 {p : Program} {e : Env} {s : State} {m : MethodId} {below : List Frame} {meth : Method} {c : Code} (l : Launch) (hflags : l.flags = flags0) {D : va_G} {c5 : Nat → ClassId} {sx : Nat → Nat} {a : KAd} {bo : Nat → Nat} {b L : Nat} {xs : Nat → Int32} (hx : p.tables.exec = Jvm.exec) (hb : c.code = cL_law) (hr : meth.sig.returnType = ret) (hml : c.maxLocals = 24) (hown : s.vm.findClass RL = some m.cls) (hts : ∀ w ∈ LA, w.before #[Value.ref b] s = true) (hlocks : meth.locks = false) (hXs : va_X b L xs s s.heap) (hbl : b < s.heap.size) (hK : va_K D vwCl (tyG c5) s) (hOI : va_AOA .int s) (hOZ : va_AOA .boolean s) (hX : exL (lwA s) sx s) (r : Unit) (k585 : KSt) (zs585 : SSt) (y20_585 : Int32) (y19_585 : Int32) (y18_585 : Int32) (y17_585 : Int32) (y15_585 : Int32) (y14_585 : Int32) (y13_585 : Int32) (y12_585 : Int32) (y11_585 : Int32) (y10_585 : Int32) (y9_585 : Int32) (y8_585 : Int32) (y6_585 : Int64) (y5_585 : Int32) (y4_585 : Int32) (y3_585 : Int32) (nx0_585 : Nat) (gx0_585 : Nat → Int32) (K : KSt → SSt → Int32 → Option Unit) (bv585 : BV) {qn427 : Nat} (n29 cells585 slots585 : Nat) (hc585 : cells585 + 49 + n29 * 160 ≤ 4000 + 2720) (hn585 : slots585 + 189 + n29 * 420 ≤ 40000 + 7140) (ih29 : ∀ (cells29 slots29 : Nat) (bv29 : BV) (H : Heap) (locs : List Loc) (k29 : KSt) (zs29 : SSt) (x4_29 : Int32) (ls : Array Slot), lv_has ls 24 [(4, .int x4_29), (3, .int y3_585), (1, .ref (aO a 0)), (2, .ref (bo 0)), (0, .ref b)] → va_P D vwCl (KW c5 a k29 ++ (SW c5 bo bv29 zs29 ++ ([] : va_W))) H → va_D (lwA s) (KW c5 a k29 ++ (SW c5 bo bv29 zs29 ++ ([] : va_W))) → va_S (lwA s) s.heap H locs → cells29 + n29 * 160 ≤ 4000 + 2720 → slots29 + n29 * 420 ≤ 40000 + 7140 → K k29 zs29 x4_29 = some r → W p l e room_1 s m #[Value.ref b] below meth c H locs (cells29) (slots29) (lw_Z below #[Value.ref b] s) (F0 m 29 ls [])) {H : Heap} {locs : List Loc} {ls : Array Slot} (hl : lv_has ls 24 [(20, .int y20_585), (19, .int y19_585), (18, .int y18_585), (17, .int y17_585), (16, .ref qn427), (15, .int y15_585), (14, .int y14_585), (13, .int y13_585), (12, .int y12_585), (11, .int y11_585), (10, .int y10_585), (9, .int y9_585), (8, .int y8_585), (6, .long y6_585), (5, .int y5_585), (4, .int y4_585), (3, .int y3_585), (1, .ref (aO a 0)), (2, .ref (bo 0)), (0, .ref b)]) (hP : va_P D vwCl (KW c5 a k585 ++ (SW c5 bo bv585 zs585 ++ ([(qn427, .inl (c5 3, nx0_585, .inl gx0_585))] : va_W))) H) (hD : va_D (lwA s) (KW c5 a k585 ++ (SW c5 bo bv585 zs585 ++ ([(qn427, .inl (c5 3, nx0_585, .inl gx0_585))] : va_W)))) (hS : va_S (lwA s) s.heap H locs) (h : R_L_law_C585 k585 zs585 y20_585 y19_585 y18_585 y17_585 y15_585 y14_585 y13_585 y12_585 y11_585 y10_585 y9_585 y8_585 y6_585 y5_585 y4_585 y3_585 nx0_585 gx0_585 K = some r) : W p l e room_1 s m #[Value.ref b] below meth c H locs (cells585) (slots585) (lw_Z below #[Value.ref b] s) (F0 m 585 ls []) := by
  have hA : ∀ q : Nat, s.heap.size ≤ q → lwA s q := fun _ h => h
  have hbA : ¬ lwA s b := Nat.not_le.mpr hbl
  have hI : KI a := KI_of (fr_D (X := []) (Y := SW c5 bo bv585 zs585 ++ ([(qn427, .inl (c5 3, nx0_585, .inl gx0_585))] : va_W)) hD)
  unfold R_L_law_C585 at h
  refine lv_iconst (v := (0 : Int32)) hx hb dL_law_585 (by decide) ?_
  refine lv_istore (i := 21) (lv' := [(21, .int (0 : Int32)), (20, .int y20_585), (19, .int y19_585), (18, .int y18_585), (17, .int y17_585), (16, .ref qn427), (15, .int y15_585), (14, .int y14_585), (13, .int y13_585), (12, .int y12_585), (11, .int y11_585), (10, .int y10_585), (9, .int y9_585), (8, .int y8_585), (6, .long y6_585), (5, .int y5_585), (4, .int y4_585), (3, .int y3_585), (1, .ref (aO a 0)), (2, .ref (bo 0)), (0, .ref b)]) hx hb dL_law_586 hl (by decide) rfl (fun ls hl => ?_)
  obtain ⟨v588, e588, h⟩ := o_bind h
  have L588 : ∀ (n588 : Nat) (x21_588 : Int32) (v9 : Int32) (ls : Array Slot), lv_has ls 24 [(21, .int x21_588), (20, .int y20_585), (19, .int y19_585), (18, .int y18_585), (17, .int y17_585), (16, .ref qn427), (15, .int y15_585), (14, .int y14_585), (13, .int y13_585), (12, .int y12_585), (11, .int y11_585), (10, .int y10_585), (9, .int y9_585), (8, .int y8_585), (6, .long y6_585), (5, .int y5_585), (4, .int y4_585), (3, .int y3_585), (1, .ref (aO a 0)), (2, .ref (bo 0)), (0, .ref b)] → R_L_law_L588 k585 y3_585 nx0_585 gx0_585 n588 x21_588 = some v9 → (∀ (ls : Array Slot), lv_has ls 24 [(21, .int v9), (20, .int y20_585), (19, .int y19_585), (18, .int y18_585), (17, .int y17_585), (16, .ref qn427), (15, .int y15_585), (14, .int y14_585), (13, .int y13_585), (12, .int y12_585), (11, .int y11_585), (10, .int y10_585), (9, .int y9_585), (8, .int y8_585), (6, .long y6_585), (5, .int y5_585), (4, .int y4_585), (3, .int y3_585), (1, .ref (aO a 0)), (2, .ref (bo 0)), (0, .ref b)] → W p l e room_1 s m #[Value.ref b] below meth c H locs (cells585) (slots585) (lw_Z below #[Value.ref b] s) (F0 m 618 ls [])) → W p l e room_1 s m #[Value.ref b] below meth c H locs (cells585) (slots585) (lw_Z below #[Value.ref b] s) (F0 m 588 ls []) := by
    intro n588
    induction n588 with
    | zero =>
      intro x21_588 v9 ls hl h kx
      exact absurd h (by simp [R_L_law_L588])
    | succ n588 ih588 =>
      intro x21_588 v9 ls hl h kx
      rw [R_L_law_L588] at h
      refine lv_iload hx hb dL_law_588 (lv_at hl 0 rfl) ?_
      refine lv_iload_n hx hb dL_law_590 rfl (lv_at hl 17 rfl) ?_
      refine lv_icmp_ge (tgt := 618) hx hb dL_law_591 (by decide) (fun q => ?_) (fun q => ?_)
      · have h := o_t h q
        obtain rfl := Option.some.inj h
        exact kx ls (lv_sub hl [0, 1, 2, 3, 4, 5, 6, 7, 8, 9, 10, 11, 12, 13, 14, 15, 16, 17, 18, 19, 20] rfl)
      · have h := o_f h q
        refine lv_aload_n hx hb dL_law_594 rfl (lv_at hl 18 rfl) ?_
        refine lv_iload hx hb dL_law_595 (lv_at hl 0 rfl) ?_
        refine lv_bipush (v := (7 : Int32)) hx hb dL_law_597 (by decide) ?_
        obtain ⟨v599, e599, h⟩ := yb_some h
        refine ro_calli (ro_runV (As := [.int x21_588, .int (7 : Int32)]) (rest := []) ⟨hx, hb, hml, hown, hts⟩ (fr_P (X := []) (Y := SW c5 bo bv585 zs585 ++ ([(qn427, .inl (c5 3, nx0_585, .inl gx0_585))] : va_W)) hP) hK (c_X2_about l D c5 a k585 hI x21_588 (7 : Int32) v599 e599) gG_RL_106 (va_recv hK hP (ci := 2) (q0 := 0) rfl (ap_l (KW_0 c5 a k585))) hd_X2_about ⟨Nat.le_of_ble_eq_true rfl, Nat.le_of_ble_eq_true rfl⟩ ⟨rfl, rfl⟩ hl.1 (Nat.le_of_ble_eq_true rfl) dL_law_599 ⟨show cells585 ≤ 881861 by omega, show slots585 ≤ 6455599 by omega⟩ rfl) ?_
        refine lv_aload hx hb dL_law_602 (lv_at hl 5 rfl) ?_
        refine lv_iload hx hb dL_law_604 (lv_at hl 0 rfl) ?_
        obtain ⟨g606, h⟩ := o_if h
        refine va_iald hx hb hK hP ((KW c5 a k585).length + ((SW c5 bo bv585 zs585).length + 0)) 3 (ap_r (ap_r (Y := [(qn427, .inl (c5 3, nx0_585, .inl gx0_585))]) rfl)) rfl (inb_in g606) dL_law_606 ?_
        refine lv_icmp_eq (tgt := 612) hx hb dL_law_607 (by decide) (fun q => ?_) (fun q => ?_)
        · have h := o_t h q
          refine lv_iinc (v := (x21_588 + (1 : Int32))) (lv' := [(21, .int (x21_588 + (1 : Int32))), (20, .int y20_585), (19, .int y19_585), (18, .int y18_585), (17, .int y17_585), (16, .ref qn427), (15, .int y15_585), (14, .int y14_585), (13, .int y13_585), (12, .int y12_585), (11, .int y11_585), (10, .int y10_585), (9, .int y9_585), (8, .int y8_585), (6, .long y6_585), (5, .int y5_585), (4, .int y4_585), (3, .int y3_585), (1, .ref (aO a 0)), (2, .ref (bo 0)), (0, .ref b)]) hx hb dL_law_612 hl (k := 0) rfl rfl (by decide) rfl (fun ls hl => ?_)
          refine lv_goto (tgt := 588) hx hb dL_law_615 (by decide) ?_
          exact ih588 (x21_588 + (1 : Int32)) v9 ls (lv_sub hl [0, 1, 2, 3, 4, 5, 6, 7, 8, 9, 10, 11, 12, 13, 14, 15, 16, 17, 18, 19, 20] rfl) h kx
        · have h := o_f h q
          refine lv_iconst (v := (0 : Int32)) hx hb dL_law_610 (by decide) ?_
          cases h
  refine L588 FU (0 : Int32) v588 ls (lv_sub hl [0, 1, 2, 3, 4, 5, 6, 7, 8, 9, 10, 11, 12, 13, 14, 15, 16, 17, 18, 19, 20] rfl) e588 (fun ls hl => ?_)
  exact law_C618 l hflags hx hb hr hml hown hts hlocks hXs hbl hK hOI hOZ hX r k585 zs585 v588 y20_585 y19_585 y18_585 y17_585 y15_585 y14_585 y13_585 y12_585 y11_585 y10_585 y9_585 y8_585 y6_585 y5_585 y4_585 y3_585 nx0_585 gx0_585 _ bv585 n29 (cells585) (slots585) (by omega) (by omega) ih29 hl hP hD hS h
set_option maxHeartbeats 8000000 in
set_option maxRecDepth 100000 in
theorem law_C505 {p : Program} {e : Env} {s : State} {m : MethodId} {below : List Frame} {meth : Method} {c : Code} (l : Launch) (hflags : l.flags = flags0) {D : va_G} {c5 : Nat → ClassId} {sx : Nat → Nat} {a : KAd} {bo : Nat → Nat} {b L : Nat} {xs : Nat → Int32} (hx : p.tables.exec = Jvm.exec) (hb : c.code = cL_law) (hr : meth.sig.returnType = ret) (hml : c.maxLocals = 24) (hown : s.vm.findClass RL = some m.cls) (hts : ∀ w ∈ LA, w.before #[Value.ref b] s = true) (hlocks : meth.locks = false) (hXs : va_X b L xs s s.heap) (hbl : b < s.heap.size) (hK : va_K D vwCl (tyG c5) s) (hOI : va_AOA .int s) (hOZ : va_AOA .boolean s) (hX : exL (lwA s) sx s) (r : Unit) (k505 : KSt) (zs505 : SSt) (y19_505 : Int32) (y18_505 : Int32) (y17_505 : Int32) (y15_505 : Int32) (y14_505 : Int32) (y13_505 : Int32) (y12_505 : Int32) (y11_505 : Int32) (y10_505 : Int32) (y9_505 : Int32) (y8_505 : Int32) (y6_505 : Int64) (y5_505 : Int32) (y4_505 : Int32) (y3_505 : Int32) (nx0_505 : Nat) (gx0_505 : Nat → Int32) (K : KSt → SSt → Int32 → Option Unit) (bv505 : BV) {qn427 : Nat} (n29 cells505 slots505 : Nat) (hc505 : cells505 + 49 + n29 * 160 ≤ 4000 + 2720) (hn505 : slots505 + 189 + n29 * 420 ≤ 40000 + 7140) (ih29 : ∀ (cells29 slots29 : Nat) (bv29 : BV) (H : Heap) (locs : List Loc) (k29 : KSt) (zs29 : SSt) (x4_29 : Int32) (ls : Array Slot), lv_has ls 24 [(4, .int x4_29), (3, .int y3_505), (1, .ref (aO a 0)), (2, .ref (bo 0)), (0, .ref b)] → va_P D vwCl (KW c5 a k29 ++ (SW c5 bo bv29 zs29 ++ ([] : va_W))) H → va_D (lwA s) (KW c5 a k29 ++ (SW c5 bo bv29 zs29 ++ ([] : va_W))) → va_S (lwA s) s.heap H locs → cells29 + n29 * 160 ≤ 4000 + 2720 → slots29 + n29 * 420 ≤ 40000 + 7140 → K k29 zs29 x4_29 = some r → W p l e room_1 s m #[Value.ref b] below meth c H locs (cells29) (slots29) (lw_Z below #[Value.ref b] s) (F0 m 29 ls [])) {H : Heap} {locs : List Loc} {ls : Array Slot} (hl : lv_has ls 24 [(19, .int y19_505), (18, .int y18_505), (17, .int y17_505), (16, .ref qn427), (15, .int y15_505), (14, .int y14_505), (13, .int y13_505), (12, .int y12_505), (11, .int y11_505), (10, .int y10_505), (9, .int y9_505), (8, .int y8_505), (6, .long y6_505), (5, .int y5_505), (4, .int y4_505), (3, .int y3_505), (1, .ref (aO a 0)), (2, .ref (bo 0)), (0, .ref b)]) (hP : va_P D vwCl (KW c5 a k505 ++ (SW c5 bo bv505 zs505 ++ ([(qn427, .inl (c5 3, nx0_505, .inl gx0_505))] : va_W))) H) (hD : va_D (lwA s) (KW c5 a k505 ++ (SW c5 bo bv505 zs505 ++ ([(qn427, .inl (c5 3, nx0_505, .inl gx0_505))] : va_W)))) (hS : va_S (lwA s) s.heap H locs) (h : R_L_law_C505 k505 zs505 y19_505 y18_505 y17_505 y15_505 y14_505 y13_505 y12_505 y11_505 y10_505 y9_505 y8_505 y6_505 y5_505 y4_505 y3_505 nx0_505 gx0_505 K = some r) : W p l e room_1 s m #[Value.ref b] below meth c H locs (cells505) (slots505) (lw_Z below #[Value.ref b] s) (F0 m 505 ls []) := by
  have hA : ∀ q : Nat, s.heap.size ≤ q → lwA s q := fun _ h => h
  have hbA : ¬ lwA s b := Nat.not_le.mpr hbl
  have hI : KI a := KI_of (fr_D (X := []) (Y := SW c5 bo bv505 zs505 ++ ([(qn427, .inl (c5 3, nx0_505, .inl gx0_505))] : va_W)) hD)
  unfold R_L_law_C505 at h
  refine lv_aload_n hx hb dL_law_505 rfl (lv_at hl 16 rfl) ?_
  refine lv_iload hx hb dL_law_506 (lv_at hl 11 rfl) ?_
  obtain ⟨v508, e508, h⟩ := yb_some h
  refine fr_calli (wc := KW c5 a k505) (X := []) (Y := SW c5 bo bv505 zs505 ++ ([(qn427, .inl (c5 3, nx0_505, .inl gx0_505))] : va_W)) (rw_runV (As := [.int y8_505]) (rest := []) ⟨hx, hb, hml, hown, hts⟩ (fr_P (X := []) (Y := SW c5 bo bv505 zs505 ++ ([(qn427, .inl (c5 3, nx0_505, .inl gx0_505))] : va_W)) hP) hK (fr_D (X := []) (Y := SW c5 bo bv505 zs505 ++ ([(qn427, .inl (c5 3, nx0_505, .inl gx0_505))] : va_W)) hD) (c_X2_pack l D c5 a k505 hI H.size y8_505 v508 e508) gG_RL_37 (va_recv hK hP (ci := 2) (q0 := 0) rfl (ap_l (KW_0 c5 a k505))) hd_X2_pack ⟨Nat.le_of_ble_eq_true rfl, Nat.le_of_ble_eq_true rfl⟩ ⟨rfl, rfl⟩ hl.1 (Nat.le_of_ble_eq_true rfl) dL_law_508 ⟨show cells505 ≤ 881861 by omega, show slots505 ≤ 6455599 by omega⟩ rfl) hP hD hS hA (fun x508 u508 H locs hpost hP hD hS => ?_)
  obtain ⟨ex508, eu508⟩ := hpost
  subst ex508
  subst eu508
  refine lv_istore (i := 20) (lv' := [(20, .int v508.1), (19, .int y19_505), (18, .int y18_505), (17, .int y17_505), (16, .ref qn427), (15, .int y15_505), (14, .int y14_505), (13, .int y13_505), (12, .int y12_505), (11, .int y11_505), (10, .int y10_505), (9, .int y9_505), (8, .int y8_505), (6, .long y6_505), (5, .int y5_505), (4, .int y4_505), (3, .int y3_505), (1, .ref (aO a 0)), (2, .ref (bo 0)), (0, .ref b)]) hx hb dL_law_511 hl (by decide) rfl (fun ls hl => ?_)
  refine lv_aload_n hx hb dL_law_513 rfl (lv_at hl 18 rfl) ?_
  refine lv_iload hx hb dL_law_514 (lv_at hl 12 rfl) ?_
  obtain ⟨v516, e516, h⟩ := o_bind h
  refine fr_calli (wc := SW c5 bo bv505 zs505) (X := KW c5 a v508.2) (Y := [(qn427, .inl (c5 3, nx0_505, .inl gx0_505))]) (sw_runV (As := [.int y8_505]) (rest := []) ⟨hx, hb, hml, hown, hts⟩ (fr_P (X := KW c5 a v508.2) (Y := [(qn427, .inl (c5 3, nx0_505, .inl gx0_505))]) hP) hK (fr_D (X := KW c5 a v508.2) (Y := [(qn427, .inl (c5 3, nx0_505, .inl gx0_505))]) hD) hOI hOZ (c_X3_packs l D c5 bo bv505 zs505 H.size y8_505 v516 e516) gG_RL_40 (va_recv hK hP (ci := 3) (q0 := ((KW c5 a v508.2).length + 0)) rfl (ap_r (ap_l (SW_0 c5 bo bv505 zs505)))) hd_X3_packs ⟨Nat.le_of_ble_eq_true rfl, Nat.le_of_ble_eq_true rfl⟩ ⟨rfl, rfl⟩ hl.1 (Nat.le_of_ble_eq_true rfl) dL_law_516 ⟨show cells505 + 0 ≤ 881861 by omega, show slots505 + 0 ≤ 6455599 by omega⟩ rfl) hP hD hS hA (fun x516 u516 H locs hpost hP hD hS => ?_)
  obtain ⟨bv516, z516⟩ := u516
  obtain ⟨rfl, rfl⟩ := hpost
  refine lv_iload hx hb dL_law_519 (lv_at hl 0 rfl) ?_
  refine lv_icmp_ne (tgt := 583) hx hb dL_law_521 (by decide) (fun q => ?_) (fun q => ?_)
  · have h := o_t' h q
    refine lv_iconst (v := (0 : Int32)) hx hb dL_law_583 (by decide) ?_
    cases h
  · have h := o_f' h q
    refine lv_aload_n hx hb dL_law_524 rfl (lv_at hl 17 rfl) ?_
    refine lv_iload hx hb dL_law_525 (lv_at hl 12 rfl) ?_
    refine lv_bipush (v := (6 : Int32)) hx hb dL_law_527 (by decide) ?_
    obtain ⟨v529, e529, h⟩ := yb_some h
    refine ro_calli (ro_runV (As := [.int y8_505, .int (6 : Int32)]) (rest := []) ⟨hx, hb, hml, hown, hts⟩ (fr_P (X := []) (Y := SW c5 bo bv516 v516.2 ++ ([(qn427, .inl (c5 3, nx0_505, .inl gx0_505))] : va_W)) hP) hK (c_X2_about l D c5 a v508.2 hI y8_505 (6 : Int32) v529 e529) gG_RL_106 (va_recv hK hP (ci := 2) (q0 := 0) rfl (ap_l (KW_0 c5 a v508.2))) hd_X2_about ⟨Nat.le_of_ble_eq_true rfl, Nat.le_of_ble_eq_true rfl⟩ ⟨rfl, rfl⟩ hl.1 (Nat.le_of_ble_eq_true rfl) dL_law_529 ⟨show cells505 + 0 + 0 ≤ 881861 by omega, show slots505 + 0 + 0 ≤ 6455599 by omega⟩ rfl) ?_
    refine lv_iload hx hb dL_law_532 (lv_at hl 3 rfl) ?_
    refine lv_iload hx hb dL_law_534 (lv_at hl 2 rfl) ?_
    refine lv_iadd hx hb dL_law_536 ?_
    refine lv_icmp_ne (tgt := 583) hx hb dL_law_537 (by decide) (fun q => ?_) (fun q => ?_)
    · have h := o_t' h q
      refine lv_iconst (v := (0 : Int32)) hx hb dL_law_583 (by decide) ?_
      cases h
    · have h := o_f' h q
      refine lv_aload_n hx hb dL_law_540 rfl (lv_at hl 17 rfl) ?_
      refine lv_iload hx hb dL_law_541 (lv_at hl 12 rfl) ?_
      refine lv_iconst (v := (5 : Int32)) hx hb dL_law_543 (by decide) ?_
      obtain ⟨v544, e544, h⟩ := yb_some h
      refine ro_calli (ro_runV (As := [.int y8_505, .int (5 : Int32)]) (rest := []) ⟨hx, hb, hml, hown, hts⟩ (fr_P (X := []) (Y := SW c5 bo bv516 v516.2 ++ ([(qn427, .inl (c5 3, nx0_505, .inl gx0_505))] : va_W)) hP) hK (c_X2_about l D c5 a v508.2 hI y8_505 (5 : Int32) v544 e544) gG_RL_106 (va_recv hK hP (ci := 2) (q0 := 0) rfl (ap_l (KW_0 c5 a v508.2))) hd_X2_about ⟨Nat.le_of_ble_eq_true rfl, Nat.le_of_ble_eq_true rfl⟩ ⟨rfl, rfl⟩ hl.1 (Nat.le_of_ble_eq_true rfl) dL_law_544 ⟨show cells505 + 0 + 0 ≤ 881861 by omega, show slots505 + 0 + 0 ≤ 6455599 by omega⟩ rfl) ?_
      refine lv_iconst (v := (1 : Int32)) hx hb dL_law_547 (by decide) ?_
      refine lv_icmp_gt (tgt := 583) hx hb dL_law_548 (by decide) (fun q => ?_) (fun q => ?_)
      · have h := o_t h q
        refine lv_iconst (v := (0 : Int32)) hx hb dL_law_583 (by decide) ?_
        cases h
      · have h := o_f h q
        refine lv_aload_n hx hb dL_law_551 rfl (lv_at hl 17 rfl) ?_
        refine lv_bipush (v := (8 : Int32)) hx hb dL_law_552 (by decide) ?_
        obtain ⟨v554, e554, h⟩ := yb_some h
        refine ro_calli (ro_runV (As := [.int (8 : Int32)]) (rest := []) ⟨hx, hb, hml, hown, hts⟩ (fr_P (X := []) (Y := SW c5 bo bv516 v516.2 ++ ([(qn427, .inl (c5 3, nx0_505, .inl gx0_505))] : va_W)) hP) hK (c_X2_count l D c5 a v508.2 hI (8 : Int32) v554 e554) gG_RL_86 (va_recv hK hP (ci := 2) (q0 := 0) rfl (ap_l (KW_0 c5 a v508.2))) hd_X2_count ⟨Nat.le_of_ble_eq_true rfl, Nat.le_of_ble_eq_true rfl⟩ ⟨rfl, rfl⟩ hl.1 (Nat.le_of_ble_eq_true rfl) dL_law_554 ⟨show cells505 + 0 + 0 ≤ 881861 by omega, show slots505 + 0 + 0 ≤ 6455599 by omega⟩ rfl) ?_
        refine lv_iload hx hb dL_law_557 (lv_at hl 1 rfl) ?_
        refine lv_iload hx hb dL_law_559 (lv_at hl 0 rfl) ?_
        refine lv_iadd hx hb dL_law_561 ?_
        refine lv_icmp_ne (tgt := 583) hx hb dL_law_562 (by decide) (fun q => ?_) (fun q => ?_)
        · have h := o_t' h q
          refine lv_iconst (v := (0 : Int32)) hx hb dL_law_583 (by decide) ?_
          cases h
        · have h := o_f' h q
          refine lv_aload_n hx hb dL_law_565 rfl (lv_at hl 17 rfl) ?_
          refine lv_iload hx hb dL_law_566 (lv_at hl 12 rfl) ?_
          obtain ⟨v568, e568, h⟩ := yb_some h
          refine fr_calli (wc := KW c5 a v508.2) (X := []) (Y := SW c5 bo bv516 v516.2 ++ ([(qn427, .inl (c5 3, nx0_505, .inl gx0_505))] : va_W)) (rw_runV (As := [.int y8_505]) (rest := []) ⟨hx, hb, hml, hown, hts⟩ (fr_P (X := []) (Y := SW c5 bo bv516 v516.2 ++ ([(qn427, .inl (c5 3, nx0_505, .inl gx0_505))] : va_W)) hP) hK (fr_D (X := []) (Y := SW c5 bo bv516 v516.2 ++ ([(qn427, .inl (c5 3, nx0_505, .inl gx0_505))] : va_W)) hD) (c_X2_pack l D c5 a v508.2 hI H.size y8_505 v568 e568) gG_RL_37 (va_recv hK hP (ci := 2) (q0 := 0) rfl (ap_l (KW_0 c5 a v508.2))) hd_X2_pack ⟨Nat.le_of_ble_eq_true rfl, Nat.le_of_ble_eq_true rfl⟩ ⟨rfl, rfl⟩ hl.1 (Nat.le_of_ble_eq_true rfl) dL_law_568 ⟨show cells505 + 0 + 0 ≤ 881861 by omega, show slots505 + 0 + 0 ≤ 6455599 by omega⟩ rfl) hP hD hS hA (fun x568 u568 H locs hpost hP hD hS => ?_)
          obtain ⟨ex568, eu568⟩ := hpost
          subst ex568
          subst eu568
          refine lv_if_ne (tgt := 583) hx hb dL_law_571 (by decide) (fun q => ?_) (fun q => ?_)
          · have h := o_t' h q
            refine lv_iconst (v := (0 : Int32)) hx hb dL_law_583 (by decide) ?_
            cases h
          · have h := o_f' h q
            refine lv_aload_n hx hb dL_law_574 rfl (lv_at hl 17 rfl) ?_
            refine lv_iload hx hb dL_law_575 (lv_at hl 12 rfl) ?_
            obtain ⟨v577, e577, h⟩ := yb_some h
            refine ro_calli (ro_runV (As := [.int y8_505]) (rest := []) ⟨hx, hb, hml, hown, hts⟩ (fr_P (X := []) (Y := SW c5 bo bv516 v516.2 ++ ([(qn427, .inl (c5 3, nx0_505, .inl gx0_505))] : va_W)) hP) hK (c_X2_gains l D c5 a v568.2 hI y8_505 v577 e577) gG_RL_112 (va_recv hK hP (ci := 2) (q0 := 0) rfl (ap_l (KW_0 c5 a v568.2))) hd_X2_gains ⟨Nat.le_of_ble_eq_true rfl, Nat.le_of_ble_eq_true rfl⟩ ⟨rfl, rfl⟩ hl.1 (Nat.le_of_ble_eq_true rfl) dL_law_577 ⟨show cells505 + 0 + 0 + 0 ≤ 881861 by omega, show slots505 + 0 + 0 + 0 ≤ 6455599 by omega⟩ rfl) ?_
            refine lv_if_eq (tgt := 585) hx hb dL_law_580 (by decide) (fun q => ?_) (fun q => ?_)
            · have h := o_t h q
              exact law_C585 l hflags hx hb hr hml hown hts hlocks hXs hbl hK hOI hOZ hX r v568.2 v516.2 v508.1 y19_505 y18_505 y17_505 y15_505 y14_505 y13_505 y12_505 y11_505 y10_505 y9_505 y8_505 y6_505 y5_505 y4_505 y3_505 nx0_505 gx0_505 _ bv516 n29 (cells505 + 0 + 0 + 0) (slots505 + 0 + 0 + 0) (by omega) (by omega) ih29 hl hP hD hS h
            · have h := o_f h q
              refine lv_iconst (v := (0 : Int32)) hx hb dL_law_583 (by decide) ?_
              cases h
set_option maxHeartbeats 8000000 in
set_option maxRecDepth 100000 in
theorem law_C426 {p : Program} {e : Env} {s : State} {m : MethodId} {below : List Frame} {meth : Method} {c : Code} (l : Launch) (hflags : l.flags = flags0) {D : va_G} {c5 : Nat → ClassId} {sx : Nat → Nat} {a : KAd} {bo : Nat → Nat} {b L : Nat} {xs : Nat → Int32} (hx : p.tables.exec = Jvm.exec) (hb : c.code = cL_law) (hr : meth.sig.returnType = ret) (hml : c.maxLocals = 24) (hown : s.vm.findClass RL = some m.cls) (hts : ∀ w ∈ LA, w.before #[Value.ref b] s = true) (hlocks : meth.locks = false) (hXs : va_X b L xs s s.heap) (hbl : b < s.heap.size) (hK : va_K D vwCl (tyG c5) s) (hOI : va_AOA .int s) (hOZ : va_AOA .boolean s) (hX : exL (lwA s) sx s) (r : Unit) (k426 : KSt) (zs426 : SSt) (y15_426 : Int32) (y14_426 : Int32) (y13_426 : Int32) (y12_426 : Int32) (y11_426 : Int32) (y10_426 : Int32) (y9_426 : Int32) (y8_426 : Int32) (y6_426 : Int64) (y5_426 : Int32) (y4_426 : Int32) (y3_426 : Int32) (K : KSt → SSt → Int32 → Option Unit) (bv426 : BV) (n29 cells426 slots426 : Nat) (hc426 : cells426 + 50 + n29 * 160 ≤ 4000 + 2720) (hn426 : slots426 + 213 + n29 * 420 ≤ 40000 + 7140) (ih29 : ∀ (cells29 slots29 : Nat) (bv29 : BV) (H : Heap) (locs : List Loc) (k29 : KSt) (zs29 : SSt) (x4_29 : Int32) (ls : Array Slot), lv_has ls 24 [(4, .int x4_29), (3, .int y3_426), (1, .ref (aO a 0)), (2, .ref (bo 0)), (0, .ref b)] → va_P D vwCl (KW c5 a k29 ++ (SW c5 bo bv29 zs29 ++ ([] : va_W))) H → va_D (lwA s) (KW c5 a k29 ++ (SW c5 bo bv29 zs29 ++ ([] : va_W))) → va_S (lwA s) s.heap H locs → cells29 + n29 * 160 ≤ 4000 + 2720 → slots29 + n29 * 420 ≤ 40000 + 7140 → K k29 zs29 x4_29 = some r → W p l e room_1 s m #[Value.ref b] below meth c H locs (cells29) (slots29) (lw_Z below #[Value.ref b] s) (F0 m 29 ls [])) {H : Heap} {locs : List Loc} {ls : Array Slot} (hl : lv_has ls 24 [(15, .int y15_426), (14, .int y14_426), (13, .int y13_426), (12, .int y12_426), (11, .int y11_426), (10, .int y10_426), (9, .int y9_426), (8, .int y8_426), (6, .long y6_426), (5, .int y5_426), (4, .int y4_426), (3, .int y3_426), (1, .ref (aO a 0)), (2, .ref (bo 0)), (0, .ref b)]) (hP : va_P D vwCl (KW c5 a k426 ++ (SW c5 bo bv426 zs426 ++ ([] : va_W))) H) (hD : va_D (lwA s) (KW c5 a k426 ++ (SW c5 bo bv426 zs426 ++ ([] : va_W)))) (hS : va_S (lwA s) s.heap H locs) (h : R_L_law_C426 k426 zs426 y15_426 y14_426 y13_426 y12_426 y11_426 y10_426 y9_426 y8_426 y6_426 y5_426 y4_426 y3_426 K = some r) : W p l e room_1 s m #[Value.ref b] below meth c H locs (cells426) (slots426) (lw_Z below #[Value.ref b] s) (F0 m 426 ls []) := by
  have hA : ∀ q : Nat, s.heap.size ≤ q → lwA s q := fun _ h => h
  have hbA : ¬ lwA s b := Nat.not_le.mpr hbl
  have hI : KI a := KI_of (fr_D (X := []) (Y := SW c5 bo bv426 zs426 ++ ([] : va_W)) hD)
  unfold R_L_law_C426 at h
  refine lv_iload_n hx hb dL_law_426 rfl (lv_at hl 11 rfl) ?_
  obtain ⟨g427, h⟩ := o_if h
  refine va_newa (atype := .int) (a0 := (y3_426.toNatClampNeg, .inl (fun _ => (0 : Int32)))) (N' := y3_426.toNatClampNeg) hx hb (hts _ wT2_184) rfl hK hP hD hS hA (fun _ => rfl) g427.1 rfl (by have := g427.2; show y3_426.toNatClampNeg * 4 ≤ 536870912; omega) (show cells426 + 1 ≤ 881861 by omega) (show slots426 + y3_426.toNatClampNeg ≤ 6455599 by have := g427.2; omega) dL_law_427 (fun qn427 cA H hK9 hP hD hS => ?_)
  obtain rfl : cA = c5 3 := ca_eq (i := 6) (j := 3) hK9 rfl rfl
  have hP := as2_P hP
  have hD := as2_D hD
  refine lv_astore (i := 16) (lv' := [(16, .ref qn427), (15, .int y15_426), (14, .int y14_426), (13, .int y13_426), (12, .int y12_426), (11, .int y11_426), (10, .int y10_426), (9, .int y9_426), (8, .int y8_426), (6, .long y6_426), (5, .int y5_426), (4, .int y4_426), (3, .int y3_426), (1, .ref (aO a 0)), (2, .ref (bo 0)), (0, .ref b)]) hx hb dL_law_429 hl (by decide) rfl (fun ls hl => ?_)
  refine lv_iconst (v := (0 : Int32)) hx hb dL_law_431 (by decide) ?_
  refine lv_istore (i := 17) (lv' := [(17, .int (0 : Int32)), (16, .ref qn427), (15, .int y15_426), (14, .int y14_426), (13, .int y13_426), (12, .int y12_426), (11, .int y11_426), (10, .int y10_426), (9, .int y9_426), (8, .int y8_426), (6, .long y6_426), (5, .int y5_426), (4, .int y4_426), (3, .int y3_426), (1, .ref (aO a 0)), (2, .ref (bo 0)), (0, .ref b)]) hx hb dL_law_432 hl (by decide) rfl (fun ls hl => ?_)
  obtain ⟨v434, e434, h⟩ := o_bind h
  have L434 : ∀ (n434 : Nat) (H : Heap) (locs : List Loc) (gx0_434 : Nat → Int32) (x17_434 : Int32) (v9 : (Nat → Int32) × Int32) (ls : Array Slot), lv_has ls 24 [(17, .int x17_434), (16, .ref qn427), (15, .int y15_426), (14, .int y14_426), (13, .int y13_426), (12, .int y12_426), (11, .int y11_426), (10, .int y10_426), (9, .int y9_426), (8, .int y8_426), (6, .long y6_426), (5, .int y5_426), (4, .int y4_426), (3, .int y3_426), (1, .ref (aO a 0)), (2, .ref (bo 0)), (0, .ref b)] → va_P D vwCl (KW c5 a k426 ++ (SW c5 bo bv426 zs426 ++ ([(qn427, .inl (c5 3, (y3_426.toNatClampNeg), .inl gx0_434))] : va_W))) H → va_D (lwA s) (KW c5 a k426 ++ (SW c5 bo bv426 zs426 ++ ([(qn427, .inl (c5 3, (y3_426.toNatClampNeg), .inl gx0_434))] : va_W))) → va_S (lwA s) s.heap H locs → R_L_law_L434 k426 y3_426 n434 gx0_434 x17_434 = some v9 → (∀ (H : Heap) (locs : List Loc) (ls : Array Slot), lv_has ls 24 [(17, .int v9.2), (16, .ref qn427), (15, .int y15_426), (14, .int y14_426), (13, .int y13_426), (12, .int y12_426), (11, .int y11_426), (10, .int y10_426), (9, .int y9_426), (8, .int y8_426), (6, .long y6_426), (5, .int y5_426), (4, .int y4_426), (3, .int y3_426), (1, .ref (aO a 0)), (2, .ref (bo 0)), (0, .ref b)] → va_P D vwCl (KW c5 a k426 ++ (SW c5 bo bv426 zs426 ++ ([(qn427, .inl (c5 3, (y3_426.toNatClampNeg), .inl v9.1))] : va_W))) H → va_D (lwA s) (KW c5 a k426 ++ (SW c5 bo bv426 zs426 ++ ([(qn427, .inl (c5 3, (y3_426.toNatClampNeg), .inl v9.1))] : va_W))) → va_S (lwA s) s.heap H locs → W p l e room_1 s m #[Value.ref b] below meth c H locs (cells426 + 1) (slots426 + y3_426.toNatClampNeg) (lw_Z below #[Value.ref b] s) (F0 m 459 ls [])) → W p l e room_1 s m #[Value.ref b] below meth c H locs (cells426 + 1) (slots426 + y3_426.toNatClampNeg) (lw_Z below #[Value.ref b] s) (F0 m 434 ls []) := by
    intro n434
    induction n434 with
    | zero =>
      intro H locs gx0_434 x17_434 v9 ls hl hP hD hS h kx
      exact absurd h (by simp [R_L_law_L434])
    | succ n434 ih434 =>
      intro H locs gx0_434 x17_434 v9 ls hl hP hD hS h kx
      rw [R_L_law_L434] at h
      refine lv_iload hx hb dL_law_434 (lv_at hl 0 rfl) ?_
      refine lv_iload_n hx hb dL_law_436 rfl (lv_at hl 13 rfl) ?_
      refine lv_icmp_ge (tgt := 459) hx hb dL_law_437 (by decide) (fun q => ?_) (fun q => ?_)
      · have h := o_t h q
        obtain rfl := Option.some.inj h
        exact kx H locs ls (lv_sub hl [0, 1, 2, 3, 4, 5, 6, 7, 8, 9, 10, 11, 12, 13, 14, 15, 16] rfl) hP hD hS
      · have h := o_f h q
        refine lv_aload hx hb dL_law_440 (lv_at hl 1 rfl) ?_
        refine lv_iload hx hb dL_law_442 (lv_at hl 0 rfl) ?_
        refine lv_aload_n hx hb dL_law_444 rfl (lv_at hl 14 rfl) ?_
        refine lv_iload hx hb dL_law_445 (lv_at hl 0 rfl) ?_
        refine lv_bipush (v := (7 : Int32)) hx hb dL_law_447 (by decide) ?_
        obtain ⟨v449, e449, h⟩ := yb_some h
        refine ro_calli (ro_runV (As := [.int x17_434, .int (7 : Int32)]) (rest := [.int x17_434, .ref qn427]) ⟨hx, hb, hml, hown, hts⟩ (fr_P (X := []) (Y := SW c5 bo bv426 zs426 ++ ([(qn427, .inl (c5 3, (y3_426.toNatClampNeg), .inl gx0_434))] : va_W)) hP) hK (c_X2_about l D c5 a k426 hI x17_434 (7 : Int32) v449 e449) gG_RL_106 (va_recv hK hP (ci := 2) (q0 := 0) rfl (ap_l (KW_0 c5 a k426))) hd_X2_about ⟨Nat.le_of_ble_eq_true rfl, Nat.le_of_ble_eq_true rfl⟩ ⟨rfl, rfl⟩ hl.1 (Nat.le_of_ble_eq_true rfl) dL_law_449 ⟨show cells426 + 1 ≤ 881861 by omega, show slots426 + y3_426.toNatClampNeg ≤ 6455599 by omega⟩ rfl) ?_
        obtain ⟨g452, h⟩ := o_if h
        obtain ⟨gx452, ez452, h⟩ := o_bind h
        refine va_iast hx hb hK hP hD hS ((KW c5 a k426).length + ((SW c5 bo bv426 zs426).length + 0)) 3 (ap_r (ap_r (Y := [(qn427, .inl (c5 3, (y3_426.toNatClampNeg), .inl gx0_434))]) rfl)) rfl (inb_in g452) dL_law_452 (fun H locs hP hD hS => ?_)
        have hP := wP (ap_sr (ap_sr rfl)) hP
        have hD := wD (ap_sr (ap_sr rfl)) hD
        have hP := wP (congrArg (fun y9 => KW c5 a k426 ++ (SW c5 bo bv426 zs426 ++ ([(qn427, .inl (c5 3, (y3_426.toNatClampNeg), .inl y9))] : va_W))) (Option.some.inj ez452)) hP
        have hD := wD (congrArg (fun y9 => KW c5 a k426 ++ (SW c5 bo bv426 zs426 ++ ([(qn427, .inl (c5 3, (y3_426.toNatClampNeg), .inl y9))] : va_W))) (Option.some.inj ez452)) hD
        refine lv_iinc (v := (x17_434 + (1 : Int32))) (lv' := [(17, .int (x17_434 + (1 : Int32))), (16, .ref qn427), (15, .int y15_426), (14, .int y14_426), (13, .int y13_426), (12, .int y12_426), (11, .int y11_426), (10, .int y10_426), (9, .int y9_426), (8, .int y8_426), (6, .long y6_426), (5, .int y5_426), (4, .int y4_426), (3, .int y3_426), (1, .ref (aO a 0)), (2, .ref (bo 0)), (0, .ref b)]) hx hb dL_law_453 hl (k := 0) rfl rfl (by decide) rfl (fun ls hl => ?_)
        refine lv_goto (tgt := 434) hx hb dL_law_456 (by decide) ?_
        exact ih434 H locs gx452 (x17_434 + (1 : Int32)) v9 ls (lv_sub hl [0, 1, 2, 3, 4, 5, 6, 7, 8, 9, 10, 11, 12, 13, 14, 15, 16] rfl) hP hD hS h kx
  refine L434 FU H locs (fun _ => (0 : Int32)) (0 : Int32) v434 ls (lv_sub hl [0, 1, 2, 3, 4, 5, 6, 7, 8, 9, 10, 11, 12, 13, 14, 15, 16] rfl) hP hD hS e434 (fun H locs ls hl hP hD hS => ?_)
  refine lv_aload_n hx hb dL_law_459 rfl (lv_at hl 14 rfl) ?_
  refine lv_iload hx hb dL_law_460 (lv_at hl 9 rfl) ?_
  refine lv_bipush (v := (6 : Int32)) hx hb dL_law_462 (by decide) ?_
  obtain ⟨v464, e464, h⟩ := yb_some h
  refine ro_calli (ro_runV (As := [.int y8_426, .int (6 : Int32)]) (rest := []) ⟨hx, hb, hml, hown, hts⟩ (fr_P (X := []) (Y := SW c5 bo bv426 zs426 ++ ([(qn427, .inl (c5 3, (y3_426.toNatClampNeg), .inl v434.1))] : va_W)) hP) hK (c_X2_about l D c5 a k426 hI y8_426 (6 : Int32) v464 e464) gG_RL_106 (va_recv hK hP (ci := 2) (q0 := 0) rfl (ap_l (KW_0 c5 a k426))) hd_X2_about ⟨Nat.le_of_ble_eq_true rfl, Nat.le_of_ble_eq_true rfl⟩ ⟨rfl, rfl⟩ hl.1 (Nat.le_of_ble_eq_true rfl) dL_law_464 ⟨show cells426 + 1 ≤ 881861 by omega, show slots426 + y3_426.toNatClampNeg ≤ 6455599 by omega⟩ rfl) ?_
  refine lv_istore (i := 17) (lv' := [(17, .int v464), (16, .ref qn427), (15, .int y15_426), (14, .int y14_426), (13, .int y13_426), (12, .int y12_426), (11, .int y11_426), (10, .int y10_426), (9, .int y9_426), (8, .int y8_426), (6, .long y6_426), (5, .int y5_426), (4, .int y4_426), (3, .int y3_426), (1, .ref (aO a 0)), (2, .ref (bo 0)), (0, .ref b)]) hx hb dL_law_467 hl (by decide) rfl (fun ls hl => ?_)
  refine lv_aload_n hx hb dL_law_469 rfl (lv_at hl 14 rfl) ?_
  refine lv_iload hx hb dL_law_470 (lv_at hl 9 rfl) ?_
  obtain ⟨v472, e472, h⟩ := yb_some h
  refine ro_calli (ro_runV (As := [.int y8_426]) (rest := []) ⟨hx, hb, hml, hown, hts⟩ (fr_P (X := []) (Y := SW c5 bo bv426 zs426 ++ ([(qn427, .inl (c5 3, (y3_426.toNatClampNeg), .inl v434.1))] : va_W)) hP) hK (c_X2_gains l D c5 a k426 hI y8_426 v472 e472) gG_RL_112 (va_recv hK hP (ci := 2) (q0 := 0) rfl (ap_l (KW_0 c5 a k426))) hd_X2_gains ⟨Nat.le_of_ble_eq_true rfl, Nat.le_of_ble_eq_true rfl⟩ ⟨rfl, rfl⟩ hl.1 (Nat.le_of_ble_eq_true rfl) dL_law_472 ⟨show cells426 + 1 ≤ 881861 by omega, show slots426 + y3_426.toNatClampNeg ≤ 6455599 by omega⟩ rfl) ?_
  refine lv_istore (i := 18) (lv' := [(18, .int v472), (17, .int v464), (16, .ref qn427), (15, .int y15_426), (14, .int y14_426), (13, .int y13_426), (12, .int y12_426), (11, .int y11_426), (10, .int y10_426), (9, .int y9_426), (8, .int y8_426), (6, .long y6_426), (5, .int y5_426), (4, .int y4_426), (3, .int y3_426), (1, .ref (aO a 0)), (2, .ref (bo 0)), (0, .ref b)]) hx hb dL_law_475 hl (by decide) rfl (fun ls hl => ?_)
  refine lv_aload_n hx hb dL_law_477 rfl (lv_at hl 15 rfl) ?_
  refine lv_bipush (v := (8 : Int32)) hx hb dL_law_478 (by decide) ?_
  obtain ⟨v480, e480, h⟩ := yb_some h
  refine ro_calli (ro_runV (As := [.int (8 : Int32)]) (rest := []) ⟨hx, hb, hml, hown, hts⟩ (fr_P (X := []) (Y := SW c5 bo bv426 zs426 ++ ([(qn427, .inl (c5 3, (y3_426.toNatClampNeg), .inl v434.1))] : va_W)) hP) hK (c_X2_count l D c5 a k426 hI (8 : Int32) v480 e480) gG_RL_86 (va_recv hK hP (ci := 2) (q0 := 0) rfl (ap_l (KW_0 c5 a k426))) hd_X2_count ⟨Nat.le_of_ble_eq_true rfl, Nat.le_of_ble_eq_true rfl⟩ ⟨rfl, rfl⟩ hl.1 (Nat.le_of_ble_eq_true rfl) dL_law_480 ⟨show cells426 + 1 ≤ 881861 by omega, show slots426 + y3_426.toNatClampNeg ≤ 6455599 by omega⟩ rfl) ?_
  refine lv_istore (i := 19) (lv' := [(19, .int v480), (18, .int v472), (17, .int v464), (16, .ref qn427), (15, .int y15_426), (14, .int y14_426), (13, .int y13_426), (12, .int y12_426), (11, .int y11_426), (10, .int y10_426), (9, .int y9_426), (8, .int y8_426), (6, .long y6_426), (5, .int y5_426), (4, .int y4_426), (3, .int y3_426), (1, .ref (aO a 0)), (2, .ref (bo 0)), (0, .ref b)]) hx hb dL_law_483 hl (by decide) rfl (fun ls hl => ?_)
  refine lv_iload hx hb dL_law_485 (lv_at hl 1 rfl) ?_
  refine lv_if_lt (tgt := 503) hx hb dL_law_487 (by decide) (fun q => ?_) (fun q => ?_)
  · have h := o_t h q
    refine lv_iconst (v := (0 : Int32)) hx hb dL_law_503 (by decide) ?_
    cases h
  · have h := o_f h q
    refine lv_aload_n hx hb dL_law_490 rfl (lv_at hl 16 rfl) ?_
    refine lv_aload_n hx hb dL_law_491 rfl (lv_at hl 16 rfl) ?_
    obtain ⟨v492, e492, h⟩ := o_bind h
    refine ro_calli (ro_runV (As := []) (rest := [.ref (aO a 0)]) ⟨hx, hb, hml, hown, hts⟩ (fr_P (X := []) (Y := SW c5 bo bv426 zs426 ++ ([(qn427, .inl (c5 3, (y3_426.toNatClampNeg), .inl v434.1))] : va_W)) hP) hK (c_X2_advise l D c5 a k426 hI  v492 e492) gG_RL_115 (va_recv hK hP (ci := 2) (q0 := 0) rfl (ap_l (KW_0 c5 a k426))) hd_X2_advise ⟨Nat.le_of_ble_eq_true rfl, Nat.le_of_ble_eq_true rfl⟩ ⟨rfl, rfl⟩ hl.1 (Nat.le_of_ble_eq_true rfl) dL_law_492 ⟨show cells426 + 1 ≤ 881861 by omega, show slots426 + y3_426.toNatClampNeg ≤ 6455599 by omega⟩ rfl) ?_
    obtain ⟨v495, e495, h⟩ := yb_some h
    refine ro_calli (ro_runV (As := [.int v492]) (rest := []) ⟨hx, hb, hml, hown, hts⟩ (fr_P (X := []) (Y := SW c5 bo bv426 zs426 ++ ([(qn427, .inl (c5 3, (y3_426.toNatClampNeg), .inl v434.1))] : va_W)) hP) hK (c_X2_gains l D c5 a k426 hI v492 v495 e495) gG_RL_112 (va_recv hK hP (ci := 2) (q0 := 0) rfl (ap_l (KW_0 c5 a k426))) hd_X2_gains ⟨Nat.le_of_ble_eq_true rfl, Nat.le_of_ble_eq_true rfl⟩ ⟨rfl, rfl⟩ hl.1 (Nat.le_of_ble_eq_true rfl) dL_law_495 ⟨show cells426 + 1 ≤ 881861 by omega, show slots426 + y3_426.toNatClampNeg ≤ 6455599 by omega⟩ rfl) ?_
    refine lv_iload hx hb dL_law_498 (lv_at hl 1 rfl) ?_
    refine lv_icmp_ge (tgt := 505) hx hb dL_law_500 (by decide) (fun q => ?_) (fun q => ?_)
    · have h := o_t h q
      exact law_C505 l hflags hx hb hr hml hown hts hlocks hXs hbl hK hOI hOZ hX r k426 zs426 v480 v472 v464 y15_426 y14_426 y13_426 y12_426 y11_426 y10_426 y9_426 y8_426 y6_426 y5_426 y4_426 y3_426 (y3_426.toNatClampNeg) v434.1 _ bv426 n29 (cells426 + 1) (slots426 + y3_426.toNatClampNeg) (by omega) (by omega) ih29 hl hP hD hS h
    · have h := o_f h q
      refine lv_iconst (v := (0 : Int32)) hx hb dL_law_503 (by decide) ?_
      cases h
set_option maxHeartbeats 8000000 in
set_option maxRecDepth 100000 in
theorem law_C220 {p : Program} {e : Env} {s : State} {m : MethodId} {below : List Frame} {meth : Method} {c : Code} (l : Launch) (hflags : l.flags = flags0) {D : va_G} {c5 : Nat → ClassId} {sx : Nat → Nat} {a : KAd} {bo : Nat → Nat} {b L : Nat} {xs : Nat → Int32} (hx : p.tables.exec = Jvm.exec) (hb : c.code = cL_law) (hr : meth.sig.returnType = ret) (hml : c.maxLocals = 24) (hown : s.vm.findClass RL = some m.cls) (hts : ∀ w ∈ LA, w.before #[Value.ref b] s = true) (hlocks : meth.locks = false) (hXs : va_X b L xs s s.heap) (hbl : b < s.heap.size) (hK : va_K D vwCl (tyG c5) s) (hOI : va_AOA .int s) (hOZ : va_AOA .boolean s) (hX : exL (lwA s) sx s) (r : Unit) (k220 : KSt) (zs220 : SSt) (y15_220 : Int32) (y14_220 : Int32) (y13_220 : Int32) (y12_220 : Int32) (y11_220 : Int32) (y10_220 : Int32) (y9_220 : Int32) (y8_220 : Int32) (y6_220 : Int64) (y5_220 : Int32) (y4_220 : Int32) (y3_220 : Int32) (K : KSt → SSt → Int32 → Option Unit) (bv220 : BV) (n29 cells220 slots220 : Nat) (hc220 : cells220 + 52 + n29 * 160 ≤ 4000 + 2720) (hn220 : slots220 + 240 + n29 * 420 ≤ 40000 + 7140) (ih29 : ∀ (cells29 slots29 : Nat) (bv29 : BV) (H : Heap) (locs : List Loc) (k29 : KSt) (zs29 : SSt) (x4_29 : Int32) (ls : Array Slot), lv_has ls 24 [(4, .int x4_29), (3, .int y3_220), (1, .ref (aO a 0)), (2, .ref (bo 0)), (0, .ref b)] → va_P D vwCl (KW c5 a k29 ++ (SW c5 bo bv29 zs29 ++ ([] : va_W))) H → va_D (lwA s) (KW c5 a k29 ++ (SW c5 bo bv29 zs29 ++ ([] : va_W))) → va_S (lwA s) s.heap H locs → cells29 + n29 * 160 ≤ 4000 + 2720 → slots29 + n29 * 420 ≤ 40000 + 7140 → K k29 zs29 x4_29 = some r → W p l e room_1 s m #[Value.ref b] below meth c H locs (cells29) (slots29) (lw_Z below #[Value.ref b] s) (F0 m 29 ls [])) {H : Heap} {locs : List Loc} {ls : Array Slot} (hl : lv_has ls 24 [(15, .int y15_220), (14, .int y14_220), (13, .int y13_220), (12, .int y12_220), (11, .int y11_220), (10, .int y10_220), (9, .int y9_220), (8, .int y8_220), (6, .long y6_220), (5, .int y5_220), (4, .int y4_220), (3, .int y3_220), (1, .ref (aO a 0)), (2, .ref (bo 0)), (0, .ref b)]) (hP : va_P D vwCl (KW c5 a k220 ++ (SW c5 bo bv220 zs220 ++ ([] : va_W))) H) (hD : va_D (lwA s) (KW c5 a k220 ++ (SW c5 bo bv220 zs220 ++ ([] : va_W)))) (hS : va_S (lwA s) s.heap H locs) (h : R_L_law_C220 k220 zs220 y15_220 y14_220 y13_220 y12_220 y11_220 y10_220 y9_220 y8_220 y6_220 y5_220 y4_220 y3_220 K = some r) : W p l e room_1 s m #[Value.ref b] below meth c H locs (cells220) (slots220) (lw_Z below #[Value.ref b] s) (F0 m 220 ls []) := by
  have hA : ∀ q : Nat, s.heap.size ≤ q → lwA s q := fun _ h => h
  have hbA : ¬ lwA s b := Nat.not_le.mpr hbl
  have hI : KI a := KI_of (fr_D (X := []) (Y := SW c5 bo bv220 zs220 ++ ([] : va_W)) hD)
  unfold R_L_law_C220 at h
  refine lv_iload hx hb dL_law_220 (lv_at hl 6 rfl) ?_
  obtain ⟨v222, e222, h⟩ := o_bind h
  have tn222 : ∀ (bv222 : BV) (H : Heap) (locs : List Loc) (ls : Array Slot), lv_has ls 24 [(15, .int y15_220), (14, .int y14_220), (13, .int y13_220), (12, .int y12_220), (11, .int y11_220), (10, .int y10_220), (9, .int y9_220), (8, .int y8_220), (6, .long y6_220), (5, .int y5_220), (4, .int y4_220), (3, .int y3_220), (1, .ref (aO a 0)), (2, .ref (bo 0)), (0, .ref b)] → va_P D vwCl (KW c5 a v222.1 ++ (SW c5 bo bv222 v222.2 ++ ([] : va_W))) H → va_D (lwA s) (KW c5 a v222.1 ++ (SW c5 bo bv222 v222.2 ++ ([] : va_W))) → va_S (lwA s) s.heap H locs → W p l e room_1 s m #[Value.ref b] below meth c H locs (cells220 + 2) (slots220 + 27) (lw_Z below #[Value.ref b] s) (F0 m 426 ls []) := by
    intro bv222 H locs ls hl hP hD hS
    exact law_C426 l hflags hx hb hr hml hown hts hlocks hXs hbl hK hOI hOZ hX r v222.1 v222.2 y15_220 y14_220 y13_220 y12_220 y11_220 y10_220 y9_220 y8_220 y6_220 y5_220 y4_220 y3_220 _ bv222 n29 (cells220 + 2) (slots220 + 27) (by omega) (by omega) ih29 hl hP hD hS h
  have h := e222
  refine lv_if_lt (tgt := 426) hx hb dL_law_222 (by decide) (fun q => ?_) (fun q => ?_)
  · have h := o_t h q
    obtain rfl := Option.some.inj h
    refine W.widen (k := cells220 + 2) (n := slots220 + 27) (by omega) (by omega) ?_
    exact tn222 bv220 H locs ls (lv_sub hl [0, 1, 2, 3, 4, 5, 6, 7, 8, 9, 10, 11, 12, 13, 14] rfl) hP hD hS
  · have h := o_f h q
    refine lv_aload_n hx hb dL_law_225 rfl (lv_at hl 12 rfl) ?_
    refine lv_iload hx hb dL_law_226 (lv_at hl 7 rfl) ?_
    obtain ⟨v228, e228, h⟩ := yb_some h
    refine fr_calli (wc := KW c5 a k220) (X := []) (Y := SW c5 bo bv220 zs220 ++ ([] : va_W)) (rw_runV (As := [.int y8_220]) (rest := []) ⟨hx, hb, hml, hown, hts⟩ (fr_P (X := []) (Y := SW c5 bo bv220 zs220 ++ ([] : va_W)) hP) hK (fr_D (X := []) (Y := SW c5 bo bv220 zs220 ++ ([] : va_W)) hD) (c_X2_put l D c5 a k220 hI H.size y8_220 v228 e228) gG_RL_64 (va_recv hK hP (ci := 2) (q0 := 0) rfl (ap_l (KW_0 c5 a k220))) hd_X2_put ⟨Nat.le_of_ble_eq_true rfl, Nat.le_of_ble_eq_true rfl⟩ ⟨rfl, rfl⟩ hl.1 (Nat.le_of_ble_eq_true rfl) dL_law_228 ⟨show cells220 ≤ 881861 by omega, show slots220 ≤ 6455599 by omega⟩ rfl) hP hD hS hA (fun x228 u228 H locs hpost hP hD hS => ?_)
    obtain ⟨ex228, eu228⟩ := hpost
    subst ex228
    subst eu228
    refine lv_iload hx hb dL_law_231 (lv_at hl 6 rfl) ?_
    refine lv_icmp_ne (tgt := 335) hx hb dL_law_233 (by decide) (fun q => ?_) (fun q => ?_)
    · have h := o_t' h q
      refine lv_iconst (v := (0 : Int32)) hx hb dL_law_335 (by decide) ?_
      cases h
    · have h := o_f' h q
      refine lv_aload_n hx hb dL_law_236 rfl (lv_at hl 13 rfl) ?_
      refine lv_iload hx hb dL_law_237 (lv_at hl 7 rfl) ?_
      obtain ⟨v239, e239, h⟩ := o_bind h
      refine fr_calli (wc := SW c5 bo bv220 zs220) (X := KW c5 a v228.2) (Y := []) (sw_runV (As := [.int y8_220]) (rest := []) ⟨hx, hb, hml, hown, hts⟩ (fr_P (X := KW c5 a v228.2) (Y := []) hP) hK (fr_D (X := KW c5 a v228.2) (Y := []) hD) hOI hOZ (c_X3_puts l D c5 bo bv220 zs220 H.size y8_220 v239 e239) gG_RL_61 (va_recv hK hP (ci := 3) (q0 := ((KW c5 a v228.2).length + 0)) rfl (ap_r (ap_l (SW_0 c5 bo bv220 zs220)))) hd_X3_puts ⟨Nat.le_of_ble_eq_true rfl, Nat.le_of_ble_eq_true rfl⟩ ⟨rfl, rfl⟩ hl.1 (Nat.le_of_ble_eq_true rfl) dL_law_239 ⟨show cells220 + 0 + 2 ≤ 881861 by omega, show slots220 + 0 + 27 ≤ 6455599 by omega⟩ rfl) hP hD hS hA (fun x239 u239 H locs hpost hP hD hS => ?_)
      obtain ⟨bv239, z239⟩ := u239
      obtain ⟨rfl, rfl⟩ := hpost
      refine lv_iload hx hb dL_law_242 (lv_at hl 6 rfl) ?_
      refine lv_icmp_ne (tgt := 335) hx hb dL_law_244 (by decide) (fun q => ?_) (fun q => ?_)
      · have h := o_t' h q
        refine lv_iconst (v := (0 : Int32)) hx hb dL_law_335 (by decide) ?_
        cases h
      · have h := o_f' h q
        refine lv_aload_n hx hb dL_law_247 rfl (lv_at hl 12 rfl) ?_
        refine lv_iload hx hb dL_law_248 (lv_at hl 6 rfl) ?_
        refine lv_iconst (v := (0 : Int32)) hx hb dL_law_250 (by decide) ?_
        obtain ⟨v251, e251, h⟩ := yb_some h
        refine ro_calli (ro_runV (As := [.int y9_220, .int (0 : Int32)]) (rest := []) ⟨hx, hb, hml, hown, hts⟩ (fr_P (X := []) (Y := SW c5 bo bv239 v239.2 ++ ([] : va_W)) hP) hK (c_X2_place l D c5 a v228.2 hI y9_220 (0 : Int32) v251 e251) gG_RL_109 (va_recv hK hP (ci := 2) (q0 := 0) rfl (ap_l (KW_0 c5 a v228.2))) hd_X2_place ⟨Nat.le_of_ble_eq_true rfl, Nat.le_of_ble_eq_true rfl⟩ ⟨rfl, rfl⟩ hl.1 (Nat.le_of_ble_eq_true rfl) dL_law_251 ⟨show cells220 + 0 + 2 ≤ 881861 by omega, show slots220 + 0 + 27 ≤ 6455599 by omega⟩ rfl) ?_
        refine lv_iload hx hb dL_law_254 (lv_at hl 7 rfl) ?_
        refine lv_icmp_ne (tgt := 335) hx hb dL_law_256 (by decide) (fun q => ?_) (fun q => ?_)
        · have h := o_t' h q
          refine lv_iconst (v := (0 : Int32)) hx hb dL_law_335 (by decide) ?_
          cases h
        · have h := o_f' h q
          refine lv_aload_n hx hb dL_law_259 rfl (lv_at hl 12 rfl) ?_
          refine lv_iload hx hb dL_law_260 (lv_at hl 6 rfl) ?_
          refine lv_iconst (v := (2 : Int32)) hx hb dL_law_262 (by decide) ?_
          obtain ⟨v263, e263, h⟩ := yb_some h
          refine ro_calli (ro_runV (As := [.int y9_220, .int (2 : Int32)]) (rest := []) ⟨hx, hb, hml, hown, hts⟩ (fr_P (X := []) (Y := SW c5 bo bv239 v239.2 ++ ([] : va_W)) hP) hK (c_X2_place l D c5 a v228.2 hI y9_220 (2 : Int32) v263 e263) gG_RL_109 (va_recv hK hP (ci := 2) (q0 := 0) rfl (ap_l (KW_0 c5 a v228.2))) hd_X2_place ⟨Nat.le_of_ble_eq_true rfl, Nat.le_of_ble_eq_true rfl⟩ ⟨rfl, rfl⟩ hl.1 (Nat.le_of_ble_eq_true rfl) dL_law_263 ⟨show cells220 + 0 + 2 ≤ 881861 by omega, show slots220 + 0 + 27 ≤ 6455599 by omega⟩ rfl) ?_
          refine lv_iconst (v := (1 : Int32)) hx hb dL_law_266 (by decide) ?_
          refine lv_icmp_ne (tgt := 335) hx hb dL_law_267 (by decide) (fun q => ?_) (fun q => ?_)
          · have h := o_t' h q
            refine lv_iconst (v := (0 : Int32)) hx hb dL_law_335 (by decide) ?_
            cases h
          · have h := o_f' h q
            refine lv_aload_n hx hb dL_law_270 rfl (lv_at hl 12 rfl) ?_
            refine lv_iload hx hb dL_law_271 (lv_at hl 6 rfl) ?_
            refine lv_iconst (v := (3 : Int32)) hx hb dL_law_273 (by decide) ?_
            obtain ⟨v274, e274, h⟩ := yb_some h
            refine ro_calli (ro_runV (As := [.int y9_220, .int (3 : Int32)]) (rest := []) ⟨hx, hb, hml, hown, hts⟩ (fr_P (X := []) (Y := SW c5 bo bv239 v239.2 ++ ([] : va_W)) hP) hK (c_X2_place l D c5 a v228.2 hI y9_220 (3 : Int32) v274 e274) gG_RL_109 (va_recv hK hP (ci := 2) (q0 := 0) rfl (ap_l (KW_0 c5 a v228.2))) hd_X2_place ⟨Nat.le_of_ble_eq_true rfl, Nat.le_of_ble_eq_true rfl⟩ ⟨rfl, rfl⟩ hl.1 (Nat.le_of_ble_eq_true rfl) dL_law_274 ⟨show cells220 + 0 + 2 ≤ 881861 by omega, show slots220 + 0 + 27 ≤ 6455599 by omega⟩ rfl) ?_
            refine lv_iload hx hb dL_law_277 (lv_at hl 6 rfl) ?_
            refine lv_icmp_ne (tgt := 335) hx hb dL_law_279 (by decide) (fun q => ?_) (fun q => ?_)
            · have h := o_t' h q
              refine lv_iconst (v := (0 : Int32)) hx hb dL_law_335 (by decide) ?_
              cases h
            · have h := o_f' h q
              refine lv_aload_n hx hb dL_law_282 rfl (lv_at hl 12 rfl) ?_
              refine lv_iload hx hb dL_law_283 (lv_at hl 7 rfl) ?_
              refine lv_bipush (v := (7 : Int32)) hx hb dL_law_285 (by decide) ?_
              obtain ⟨v287, e287, h⟩ := yb_some h
              refine ro_calli (ro_runV (As := [.int y8_220, .int (7 : Int32)]) (rest := []) ⟨hx, hb, hml, hown, hts⟩ (fr_P (X := []) (Y := SW c5 bo bv239 v239.2 ++ ([] : va_W)) hP) hK (c_X2_about l D c5 a v228.2 hI y8_220 (7 : Int32) v287 e287) gG_RL_106 (va_recv hK hP (ci := 2) (q0 := 0) rfl (ap_l (KW_0 c5 a v228.2))) hd_X2_about ⟨Nat.le_of_ble_eq_true rfl, Nat.le_of_ble_eq_true rfl⟩ ⟨rfl, rfl⟩ hl.1 (Nat.le_of_ble_eq_true rfl) dL_law_287 ⟨show cells220 + 0 + 2 ≤ 881861 by omega, show slots220 + 0 + 27 ≤ 6455599 by omega⟩ rfl) ?_
              refine lv_iload hx hb dL_law_290 (lv_at hl 3 rfl) ?_
              refine lv_iconst (v := (1 : Int32)) hx hb dL_law_292 (by decide) ?_
              refine lv_iadd hx hb dL_law_293 ?_
              refine lv_icmp_ne (tgt := 335) hx hb dL_law_294 (by decide) (fun q => ?_) (fun q => ?_)
              · have h := o_t' h q
                refine lv_iconst (v := (0 : Int32)) hx hb dL_law_335 (by decide) ?_
                cases h
              · have h := o_f' h q
                refine lv_aload_n hx hb dL_law_297 rfl (lv_at hl 12 rfl) ?_
                refine lv_iconst (v := (3 : Int32)) hx hb dL_law_298 (by decide) ?_
                obtain ⟨v299, e299, h⟩ := yb_some h
                refine ro_calli (ro_runV (As := [.int (3 : Int32)]) (rest := []) ⟨hx, hb, hml, hown, hts⟩ (fr_P (X := []) (Y := SW c5 bo bv239 v239.2 ++ ([] : va_W)) hP) hK (c_X2_count l D c5 a v228.2 hI (3 : Int32) v299 e299) gG_RL_86 (va_recv hK hP (ci := 2) (q0 := 0) rfl (ap_l (KW_0 c5 a v228.2))) hd_X2_count ⟨Nat.le_of_ble_eq_true rfl, Nat.le_of_ble_eq_true rfl⟩ ⟨rfl, rfl⟩ hl.1 (Nat.le_of_ble_eq_true rfl) dL_law_299 ⟨show cells220 + 0 + 2 ≤ 881861 by omega, show slots220 + 0 + 27 ≤ 6455599 by omega⟩ rfl) ?_
                refine lv_iload hx hb dL_law_302 (lv_at hl 2 rfl) ?_
                refine lv_iconst (v := (1 : Int32)) hx hb dL_law_304 (by decide) ?_
                refine lv_iadd hx hb dL_law_305 ?_
                refine lv_icmp_ne (tgt := 335) hx hb dL_law_306 (by decide) (fun q => ?_) (fun q => ?_)
                · have h := o_t' h q
                  refine lv_iconst (v := (0 : Int32)) hx hb dL_law_335 (by decide) ?_
                  cases h
                · have h := o_f' h q
                  refine lv_aload_n hx hb dL_law_309 rfl (lv_at hl 12 rfl) ?_
                  refine lv_iconst (v := (2 : Int32)) hx hb dL_law_310 (by decide) ?_
                  obtain ⟨v311, e311, h⟩ := yb_some h
                  refine ro_calli (ro_runV (As := [.int (2 : Int32)]) (rest := []) ⟨hx, hb, hml, hown, hts⟩ (fr_P (X := []) (Y := SW c5 bo bv239 v239.2 ++ ([] : va_W)) hP) hK (c_X2_count l D c5 a v228.2 hI (2 : Int32) v311 e311) gG_RL_86 (va_recv hK hP (ci := 2) (q0 := 0) rfl (ap_l (KW_0 c5 a v228.2))) hd_X2_count ⟨Nat.le_of_ble_eq_true rfl, Nat.le_of_ble_eq_true rfl⟩ ⟨rfl, rfl⟩ hl.1 (Nat.le_of_ble_eq_true rfl) dL_law_311 ⟨show cells220 + 0 + 2 ≤ 881861 by omega, show slots220 + 0 + 27 ≤ 6455599 by omega⟩ rfl) ?_
                  refine lv_iload hx hb dL_law_314 (lv_at hl 1 rfl) ?_
                  refine lv_iload hx hb dL_law_316 (lv_at hl 4 rfl) ?_
                  refine lv_isub hx hb dL_law_318 ?_
                  refine lv_icmp_ne (tgt := 335) hx hb dL_law_319 (by decide) (fun q => ?_) (fun q => ?_)
                  · have h := o_t' h q
                    refine lv_iconst (v := (0 : Int32)) hx hb dL_law_335 (by decide) ?_
                    cases h
                  · have h := o_f' h q
                    refine lv_aload_n hx hb dL_law_322 rfl (lv_at hl 12 rfl) ?_
                    refine lv_iload hx hb dL_law_323 (lv_at hl 7 rfl) ?_
                    obtain ⟨v325, e325, h⟩ := yb_some h
                    refine ro_calli (ro_runV (As := [.int y8_220]) (rest := []) ⟨hx, hb, hml, hown, hts⟩ (fr_P (X := []) (Y := SW c5 bo bv239 v239.2 ++ ([] : va_W)) hP) hK (c_X2_fits l D c5 a v228.2 hI y8_220 v325 e325) gG_RL_100 (va_recv hK hP (ci := 2) (q0 := 0) rfl (ap_l (KW_0 c5 a v228.2))) hd_X2_fits ⟨Nat.le_of_ble_eq_true rfl, Nat.le_of_ble_eq_true rfl⟩ ⟨rfl, rfl⟩ hl.1 (Nat.le_of_ble_eq_true rfl) dL_law_325 ⟨show cells220 + 0 + 2 ≤ 881861 by omega, show slots220 + 0 + 27 ≤ 6455599 by omega⟩ rfl) ?_
                    refine lv_iload hx hb dL_law_328 (lv_at hl 5 rfl) ?_
                    refine lv_iconst (v := (1 : Int32)) hx hb dL_law_330 (by decide) ?_
                    refine lv_isub hx hb dL_law_331 ?_
                    refine lv_icmp_eq (tgt := 337) hx hb dL_law_332 (by decide) (fun q => ?_) (fun q => ?_)
                    · have h := o_t h q
                      refine lv_iload hx hb dL_law_337 (lv_at hl 9 rfl) ?_
                      refine lv_bipush (v := (6 : Int32)) hx hb dL_law_339 (by decide) ?_
                      refine lv_ishr hx hb dL_law_341 ?_
                      refine lv_iconst (v := (2 : Int32)) hx hb dL_law_342 (by decide) ?_
                      obtain ⟨g343, h⟩ := o_if h
                      refine ro_calli (ro_runS (As := [.int (y5_220 >>> ((6 : Int32) &&& 31)), .int (2 : Int32)]) (rest := []) ⟨hx, hb, hml, hown, hts⟩ hP hK (c_L_below l D (tyG c5) (KW c5 a v228.2 ++ (SW c5 bo bv239 v239.2 ++ ([] : va_W))) (y5_220 >>> ((6 : Int32) &&& 31)) (2 : Int32) g343) gG_RL_15 hd_L_below ⟨Nat.le_of_ble_eq_true rfl, Nat.le_of_ble_eq_true rfl⟩ ⟨rfl, rfl⟩ hl.1 (Nat.le_of_ble_eq_true rfl) dL_law_343 ⟨show cells220 + 0 + 2 ≤ 881861 by omega, show slots220 + 0 + 27 ≤ 6455599 by omega⟩ rfl) ?_
                      refine lv_if_ne (tgt := 426) hx hb dL_law_346 (by decide) (fun q => ?_) (fun q => ?_)
                      · have h := o_t' h q
                        obtain rfl := Option.some.inj h
                        refine W.widen (k := cells220 + 2) (n := slots220 + 27) (by omega) (by omega) ?_
                        exact tn222 bv239 H locs ls (lv_sub hl [0, 1, 2, 3, 4, 5, 6, 7, 8, 9, 10, 11, 12, 13, 14] rfl) hP hD hS
                      · have h := o_f' h q
                        refine lv_aload_n hx hb dL_law_349 rfl (lv_at hl 12 rfl) ?_
                        refine lv_iload hx hb dL_law_350 (lv_at hl 6 rfl) ?_
                        obtain ⟨v352, e352, h⟩ := yb_some h
                        refine fr_calli (wc := KW c5 a v228.2) (X := []) (Y := SW c5 bo bv239 v239.2 ++ ([] : va_W)) (rw_runV (As := [.int y9_220]) (rest := []) ⟨hx, hb, hml, hown, hts⟩ (fr_P (X := []) (Y := SW c5 bo bv239 v239.2 ++ ([] : va_W)) hP) hK (fr_D (X := []) (Y := SW c5 bo bv239 v239.2 ++ ([] : va_W)) hD) (c_X2_take l D c5 a v228.2 hI H.size y9_220 v352 e352) gG_RL_56 (va_recv hK hP (ci := 2) (q0 := 0) rfl (ap_l (KW_0 c5 a v228.2))) hd_X2_take ⟨Nat.le_of_ble_eq_true rfl, Nat.le_of_ble_eq_true rfl⟩ ⟨rfl, rfl⟩ hl.1 (Nat.le_of_ble_eq_true rfl) dL_law_352 ⟨show cells220 + 0 + 2 ≤ 881861 by omega, show slots220 + 0 + 27 ≤ 6455599 by omega⟩ rfl) hP hD hS hA (fun x352 u352 H locs hpost hP hD hS => ?_)
                        obtain ⟨ex352, eu352⟩ := hpost
                        subst ex352
                        subst eu352
                        refine lv_istore (i := 16) (lv' := [(16, .int v352.1), (15, .int y15_220), (14, .int y14_220), (13, .int y13_220), (12, .int y12_220), (11, .int y11_220), (10, .int y10_220), (9, .int y9_220), (8, .int y8_220), (6, .long y6_220), (5, .int y5_220), (4, .int y4_220), (3, .int y3_220), (1, .ref (aO a 0)), (2, .ref (bo 0)), (0, .ref b)]) hx hb dL_law_355 hl (by decide) rfl (fun ls hl => ?_)
                        refine lv_aload_n hx hb dL_law_357 rfl (lv_at hl 14 rfl) ?_
                        refine lv_iload hx hb dL_law_358 (lv_at hl 7 rfl) ?_
                        obtain ⟨v360, e360, h⟩ := o_bind h
                        refine fr_calli (wc := SW c5 bo bv239 v239.2) (X := KW c5 a v352.2) (Y := []) (sw_runV (As := [.int y9_220]) (rest := []) ⟨hx, hb, hml, hown, hts⟩ (fr_P (X := KW c5 a v352.2) (Y := []) hP) hK (fr_D (X := KW c5 a v352.2) (Y := []) hD) hOI hOZ (c_X3_takes l D c5 bo bv239 v239.2 H.size y9_220 v360 e360) gG_RL_53 (va_recv hK hP (ci := 3) (q0 := ((KW c5 a v352.2).length + 0)) rfl (ap_r (ap_l (SW_0 c5 bo bv239 v239.2)))) hd_X3_takes ⟨Nat.le_of_ble_eq_true rfl, Nat.le_of_ble_eq_true rfl⟩ ⟨rfl, rfl⟩ hl.1 (Nat.le_of_ble_eq_true rfl) dL_law_360 ⟨show cells220 + 0 + 2 + 0 ≤ 881861 by omega, show slots220 + 0 + 27 + 0 ≤ 6455599 by omega⟩ rfl) hP hD hS hA (fun x360 u360 H locs hpost hP hD hS => ?_)
                        obtain ⟨bv360, z360⟩ := u360
                        obtain ⟨rfl, rfl⟩ := hpost
                        refine lv_iload hx hb dL_law_363 (lv_at hl 0 rfl) ?_
                        refine lv_icmp_ne (tgt := 424) hx hb dL_law_365 (by decide) (fun q => ?_) (fun q => ?_)
                        · have h := o_t' h q
                          refine lv_iconst (v := (0 : Int32)) hx hb dL_law_424 (by decide) ?_
                          cases h
                        · have h := o_f' h q
                          refine lv_aload_n hx hb dL_law_368 rfl (lv_at hl 13 rfl) ?_
                          refine lv_iload hx hb dL_law_369 (lv_at hl 7 rfl) ?_
                          refine lv_iconst (v := (2 : Int32)) hx hb dL_law_371 (by decide) ?_
                          obtain ⟨v372, e372, h⟩ := yb_some h
                          refine ro_calli (ro_runV (As := [.int y9_220, .int (2 : Int32)]) (rest := []) ⟨hx, hb, hml, hown, hts⟩ (fr_P (X := []) (Y := SW c5 bo bv360 v360.2 ++ ([] : va_W)) hP) hK (c_X2_place l D c5 a v352.2 hI y9_220 (2 : Int32) v372 e372) gG_RL_109 (va_recv hK hP (ci := 2) (q0 := 0) rfl (ap_l (KW_0 c5 a v352.2))) hd_X2_place ⟨Nat.le_of_ble_eq_true rfl, Nat.le_of_ble_eq_true rfl⟩ ⟨rfl, rfl⟩ hl.1 (Nat.le_of_ble_eq_true rfl) dL_law_372 ⟨show cells220 + 0 + 2 + 0 + 0 ≤ 881861 by omega, show slots220 + 0 + 27 + 0 + 0 ≤ 6455599 by omega⟩ rfl) ?_
                          refine lv_if_ne (tgt := 424) hx hb dL_law_375 (by decide) (fun q => ?_) (fun q => ?_)
                          · have h := o_t' h q
                            refine lv_iconst (v := (0 : Int32)) hx hb dL_law_424 (by decide) ?_
                            cases h
                          · have h := o_f' h q
                            refine lv_aload_n hx hb dL_law_378 rfl (lv_at hl 13 rfl) ?_
                            refine lv_iload hx hb dL_law_379 (lv_at hl 8 rfl) ?_
                            refine lv_bipush (v := (7 : Int32)) hx hb dL_law_381 (by decide) ?_
                            obtain ⟨v383, e383, h⟩ := yb_some h
                            refine ro_calli (ro_runV (As := [.int y8_220, .int (7 : Int32)]) (rest := []) ⟨hx, hb, hml, hown, hts⟩ (fr_P (X := []) (Y := SW c5 bo bv360 v360.2 ++ ([] : va_W)) hP) hK (c_X2_about l D c5 a v352.2 hI y8_220 (7 : Int32) v383 e383) gG_RL_106 (va_recv hK hP (ci := 2) (q0 := 0) rfl (ap_l (KW_0 c5 a v352.2))) hd_X2_about ⟨Nat.le_of_ble_eq_true rfl, Nat.le_of_ble_eq_true rfl⟩ ⟨rfl, rfl⟩ hl.1 (Nat.le_of_ble_eq_true rfl) dL_law_383 ⟨show cells220 + 0 + 2 + 0 + 0 ≤ 881861 by omega, show slots220 + 0 + 27 + 0 + 0 ≤ 6455599 by omega⟩ rfl) ?_
                            refine lv_iload hx hb dL_law_386 (lv_at hl 4 rfl) ?_
                            refine lv_icmp_ne (tgt := 424) hx hb dL_law_388 (by decide) (fun q => ?_) (fun q => ?_)
                            · have h := o_t' h q
                              refine lv_iconst (v := (0 : Int32)) hx hb dL_law_424 (by decide) ?_
                              cases h
                            · have h := o_f' h q
                              refine lv_aload_n hx hb dL_law_391 rfl (lv_at hl 13 rfl) ?_
                              refine lv_iconst (v := (3 : Int32)) hx hb dL_law_392 (by decide) ?_
                              obtain ⟨v393, e393, h⟩ := yb_some h
                              refine ro_calli (ro_runV (As := [.int (3 : Int32)]) (rest := []) ⟨hx, hb, hml, hown, hts⟩ (fr_P (X := []) (Y := SW c5 bo bv360 v360.2 ++ ([] : va_W)) hP) hK (c_X2_count l D c5 a v352.2 hI (3 : Int32) v393 e393) gG_RL_86 (va_recv hK hP (ci := 2) (q0 := 0) rfl (ap_l (KW_0 c5 a v352.2))) hd_X2_count ⟨Nat.le_of_ble_eq_true rfl, Nat.le_of_ble_eq_true rfl⟩ ⟨rfl, rfl⟩ hl.1 (Nat.le_of_ble_eq_true rfl) dL_law_393 ⟨show cells220 + 0 + 2 + 0 + 0 ≤ 881861 by omega, show slots220 + 0 + 27 + 0 + 0 ≤ 6455599 by omega⟩ rfl) ?_
                              refine lv_iload hx hb dL_law_396 (lv_at hl 3 rfl) ?_
                              refine lv_icmp_ne (tgt := 424) hx hb dL_law_398 (by decide) (fun q => ?_) (fun q => ?_)
                              · have h := o_t' h q
                                refine lv_iconst (v := (0 : Int32)) hx hb dL_law_424 (by decide) ?_
                                cases h
                              · have h := o_f' h q
                                refine lv_aload_n hx hb dL_law_401 rfl (lv_at hl 13 rfl) ?_
                                refine lv_iconst (v := (0 : Int32)) hx hb dL_law_402 (by decide) ?_
                                obtain ⟨v403, e403, h⟩ := yb_some h
                                refine ro_calli (ro_runV (As := [.int (0 : Int32)]) (rest := []) ⟨hx, hb, hml, hown, hts⟩ (fr_P (X := []) (Y := SW c5 bo bv360 v360.2 ++ ([] : va_W)) hP) hK (c_X2_count l D c5 a v352.2 hI (0 : Int32) v403 e403) gG_RL_86 (va_recv hK hP (ci := 2) (q0 := 0) rfl (ap_l (KW_0 c5 a v352.2))) hd_X2_count ⟨Nat.le_of_ble_eq_true rfl, Nat.le_of_ble_eq_true rfl⟩ ⟨rfl, rfl⟩ hl.1 (Nat.le_of_ble_eq_true rfl) dL_law_403 ⟨show cells220 + 0 + 2 + 0 + 0 ≤ 881861 by omega, show slots220 + 0 + 27 + 0 + 0 ≤ 6455599 by omega⟩ rfl) ?_
                                refine lv_iload hx hb dL_law_406 (lv_at hl 1 rfl) ?_
                                refine lv_iconst (v := (2 : Int32)) hx hb dL_law_408 (by decide) ?_
                                refine lv_iadd hx hb dL_law_409 ?_
                                refine lv_icmp_ne (tgt := 424) hx hb dL_law_410 (by decide) (fun q => ?_) (fun q => ?_)
                                · have h := o_t' h q
                                  refine lv_iconst (v := (0 : Int32)) hx hb dL_law_424 (by decide) ?_
                                  cases h
                                · have h := o_f' h q
                                  refine lv_aload_n hx hb dL_law_413 rfl (lv_at hl 13 rfl) ?_
                                  refine lv_iload hx hb dL_law_414 (lv_at hl 8 rfl) ?_
                                  obtain ⟨v416, e416, h⟩ := yb_some h
                                  refine ro_calli (ro_runV (As := [.int y8_220]) (rest := []) ⟨hx, hb, hml, hown, hts⟩ (fr_P (X := []) (Y := SW c5 bo bv360 v360.2 ++ ([] : va_W)) hP) hK (c_X2_fits l D c5 a v352.2 hI y8_220 v416 e416) gG_RL_100 (va_recv hK hP (ci := 2) (q0 := 0) rfl (ap_l (KW_0 c5 a v352.2))) hd_X2_fits ⟨Nat.le_of_ble_eq_true rfl, Nat.le_of_ble_eq_true rfl⟩ ⟨rfl, rfl⟩ hl.1 (Nat.le_of_ble_eq_true rfl) dL_law_416 ⟨show cells220 + 0 + 2 + 0 + 0 ≤ 881861 by omega, show slots220 + 0 + 27 + 0 + 0 ≤ 6455599 by omega⟩ rfl) ?_
                                  refine lv_iload hx hb dL_law_419 (lv_at hl 6 rfl) ?_
                                  refine lv_icmp_eq (tgt := 426) hx hb dL_law_421 (by decide) (fun q => ?_) (fun q => ?_)
                                  · have h := o_t h q
                                    obtain rfl := Option.some.inj h
                                    refine W.widen (k := cells220 + 2) (n := slots220 + 27) (by omega) (by omega) ?_
                                    exact tn222 bv360 H locs ls (lv_sub hl [1, 2, 3, 4, 5, 6, 7, 8, 9, 10, 11, 12, 13, 14, 15] rfl) hP hD hS
                                  · have h := o_f h q
                                    refine lv_iconst (v := (0 : Int32)) hx hb dL_law_424 (by decide) ?_
                                    cases h
                    · have h := o_f h q
                      refine lv_iconst (v := (0 : Int32)) hx hb dL_law_335 (by decide) ?_
                      cases h
set_option maxHeartbeats 8000000 in
set_option maxRecDepth 100000 in
theorem law_C90 {p : Program} {e : Env} {s : State} {m : MethodId} {below : List Frame} {meth : Method} {c : Code} (l : Launch) (hflags : l.flags = flags0) {D : va_G} {c5 : Nat → ClassId} {sx : Nat → Nat} {a : KAd} {bo : Nat → Nat} {b L : Nat} {xs : Nat → Int32} (hx : p.tables.exec = Jvm.exec) (hb : c.code = cL_law) (hr : meth.sig.returnType = ret) (hml : c.maxLocals = 24) (hown : s.vm.findClass RL = some m.cls) (hts : ∀ w ∈ LA, w.before #[Value.ref b] s = true) (hlocks : meth.locks = false) (hXs : va_X b L xs s s.heap) (hbl : b < s.heap.size) (hK : va_K D vwCl (tyG c5) s) (hOI : va_AOA .int s) (hOZ : va_AOA .boolean s) (hX : exL (lwA s) sx s) (r : Unit) (k90 : KSt) (zs90 : SSt) (y6_90 : Int32) (y5_90 : Int32) (y4_90 : Int32) (y3_90 : Int32) (K : KSt → SSt → Int32 → Option Unit) (bv90 : BV) (n29 cells90 slots90 : Nat) (hc90 : cells90 + 52 + n29 * 160 ≤ 4000 + 2720) (hn90 : slots90 + 240 + n29 * 420 ≤ 40000 + 7140) (ih29 : ∀ (cells29 slots29 : Nat) (bv29 : BV) (H : Heap) (locs : List Loc) (k29 : KSt) (zs29 : SSt) (x4_29 : Int32) (ls : Array Slot), lv_has ls 24 [(4, .int x4_29), (3, .int y3_90), (1, .ref (aO a 0)), (2, .ref (bo 0)), (0, .ref b)] → va_P D vwCl (KW c5 a k29 ++ (SW c5 bo bv29 zs29 ++ ([] : va_W))) H → va_D (lwA s) (KW c5 a k29 ++ (SW c5 bo bv29 zs29 ++ ([] : va_W))) → va_S (lwA s) s.heap H locs → cells29 + n29 * 160 ≤ 4000 + 2720 → slots29 + n29 * 420 ≤ 40000 + 7140 → K k29 zs29 x4_29 = some r → W p l e room_1 s m #[Value.ref b] below meth c H locs (cells29) (slots29) (lw_Z below #[Value.ref b] s) (F0 m 29 ls [])) {H : Heap} {locs : List Loc} {ls : Array Slot} (hl : lv_has ls 24 [(6, .int y6_90), (5, .int y5_90), (4, .int y4_90), (3, .int y3_90), (1, .ref (aO a 0)), (2, .ref (bo 0)), (0, .ref b)]) (hP : va_P D vwCl (KW c5 a k90 ++ (SW c5 bo bv90 zs90 ++ ([] : va_W))) H) (hD : va_D (lwA s) (KW c5 a k90 ++ (SW c5 bo bv90 zs90 ++ ([] : va_W)))) (hS : va_S (lwA s) s.heap H locs) (h : R_L_law_C90 k90 zs90 y6_90 y5_90 y4_90 y3_90 K = some r) : W p l e room_1 s m #[Value.ref b] below meth c H locs (cells90) (slots90) (lw_Z below #[Value.ref b] s) (F0 m 90 ls []) := by
  have hA : ∀ q : Nat, s.heap.size ≤ q → lwA s q := fun _ h => h
  have hbA : ¬ lwA s b := Nat.not_le.mpr hbl
  have hI : KI a := KI_of (fr_D (X := []) (Y := SW c5 bo bv90 zs90 ++ ([] : va_W)) hD)
  unfold R_L_law_C90 at h
  refine lv_aload_n hx hb dL_law_90 rfl (lv_at hl 4 rfl) ?_
  obtain ⟨v91, e91, h⟩ := o_bind h
  refine ro_calll (ro_runV (As := []) (rest := []) ⟨hx, hb, hml, hown, hts⟩ (fr_P (X := []) (Y := SW c5 bo bv90 zs90 ++ ([] : va_W)) hP) hK (c_X2_digest l D c5 a k90 hI  v91 e91) gG_RL_93 (va_recv hK hP (ci := 2) (q0 := 0) rfl (ap_l (KW_0 c5 a k90))) hd_X2_digest ⟨Nat.le_of_ble_eq_true rfl, Nat.le_of_ble_eq_true rfl⟩ ⟨rfl, rfl⟩ hl.1 (Nat.le_of_ble_eq_true rfl) dL_law_91 ⟨show cells90 ≤ 881861 by omega, show slots90 ≤ 6455599 by omega⟩ rfl) ?_
  refine lv_lstore (i := 6) (lv' := [(6, .long v91), (5, .int y5_90), (4, .int y4_90), (3, .int y3_90), (1, .ref (aO a 0)), (2, .ref (bo 0)), (0, .ref b)]) hx hb dL_law_94 hl (by decide) rfl (fun ls hl => ?_)
  refine lv_iload hx hb dL_law_96 (lv_at hl 1 rfl) ?_
  refine lv_iconst (v := (4 : Int32)) hx hb dL_law_98 (by decide) ?_
  refine lv_ishr hx hb dL_law_99 ?_
  refine lv_iload_n hx hb dL_law_100 rfl (lv_at hl 3 rfl) ?_
  obtain ⟨g101, h⟩ := o_if h
  refine ro_calli (ro_runS (As := [.int (y5_90 >>> ((4 : Int32) &&& 31)), .int y3_90]) (rest := []) ⟨hx, hb, hml, hown, hts⟩ hP hK (c_L_below l D (tyG c5) (KW c5 a k90 ++ (SW c5 bo bv90 zs90 ++ ([] : va_W))) (y5_90 >>> ((4 : Int32) &&& 31)) y3_90 g101) gG_RL_15 hd_L_below ⟨Nat.le_of_ble_eq_true rfl, Nat.le_of_ble_eq_true rfl⟩ ⟨rfl, rfl⟩ hl.1 (Nat.le_of_ble_eq_true rfl) dL_law_101 ⟨show cells90 ≤ 881861 by omega, show slots90 ≤ 6455599 by omega⟩ rfl) ?_
  refine lv_istore (i := 8) (lv' := [(8, .int (bl_ (y5_90 >>> ((4 : Int32) &&& 31)) y3_90)), (6, .long v91), (5, .int y5_90), (4, .int y4_90), (3, .int y3_90), (1, .ref (aO a 0)), (2, .ref (bo 0)), (0, .ref b)]) hx hb dL_law_104 hl (by decide) rfl (fun ls hl => ?_)
  refine lv_aload_n hx hb dL_law_106 rfl (lv_at hl 5 rfl) ?_
  refine lv_iload hx hb dL_law_107 (lv_at hl 0 rfl) ?_
  obtain ⟨v109, e109, h⟩ := yb_some h
  refine ro_calli (ro_runV (As := [.int (bl_ (y5_90 >>> ((4 : Int32) &&& 31)) y3_90)]) (rest := []) ⟨hx, hb, hml, hown, hts⟩ (fr_P (X := []) (Y := SW c5 bo bv90 zs90 ++ ([] : va_W)) hP) hK (c_X2_next l D c5 a k90 hI (bl_ (y5_90 >>> ((4 : Int32) &&& 31)) y3_90) v109 e109) gG_RL_97 (va_recv hK hP (ci := 2) (q0 := 0) rfl (ap_l (KW_0 c5 a k90))) hd_X2_next ⟨Nat.le_of_ble_eq_true rfl, Nat.le_of_ble_eq_true rfl⟩ ⟨rfl, rfl⟩ hl.1 (Nat.le_of_ble_eq_true rfl) dL_law_109 ⟨show cells90 ≤ 881861 by omega, show slots90 ≤ 6455599 by omega⟩ rfl) ?_
  refine lv_istore (i := 9) (lv' := [(9, .int v109), (8, .int (bl_ (y5_90 >>> ((4 : Int32) &&& 31)) y3_90)), (6, .long v91), (5, .int y5_90), (4, .int y4_90), (3, .int y3_90), (1, .ref (aO a 0)), (2, .ref (bo 0)), (0, .ref b)]) hx hb dL_law_112 hl (by decide) rfl (fun ls hl => ?_)
  refine lv_aload_n hx hb dL_law_114 rfl (lv_at hl 6 rfl) ?_
  refine lv_iload hx hb dL_law_115 (lv_at hl 1 rfl) ?_
  obtain ⟨v117, e117, h⟩ := yb_some h
  refine ro_calli (ro_runV (As := [.int (bl_ (y5_90 >>> ((4 : Int32) &&& 31)) y3_90)]) (rest := []) ⟨hx, hb, hml, hown, hts⟩ (fr_P (X := []) (Y := SW c5 bo bv90 zs90 ++ ([] : va_W)) hP) hK (c_X2_fits l D c5 a k90 hI (bl_ (y5_90 >>> ((4 : Int32) &&& 31)) y3_90) v117 e117) gG_RL_100 (va_recv hK hP (ci := 2) (q0 := 0) rfl (ap_l (KW_0 c5 a k90))) hd_X2_fits ⟨Nat.le_of_ble_eq_true rfl, Nat.le_of_ble_eq_true rfl⟩ ⟨rfl, rfl⟩ hl.1 (Nat.le_of_ble_eq_true rfl) dL_law_117 ⟨show cells90 ≤ 881861 by omega, show slots90 ≤ 6455599 by omega⟩ rfl) ?_
  refine lv_istore (i := 10) (lv' := [(10, .int v117), (9, .int v109), (8, .int (bl_ (y5_90 >>> ((4 : Int32) &&& 31)) y3_90)), (6, .long v91), (5, .int y5_90), (4, .int y4_90), (3, .int y3_90), (1, .ref (aO a 0)), (2, .ref (bo 0)), (0, .ref b)]) hx hb dL_law_120 hl (by decide) rfl (fun ls hl => ?_)
  refine lv_aload_n hx hb dL_law_122 rfl (lv_at hl 7 rfl) ?_
  refine lv_iload hx hb dL_law_123 (lv_at hl 2 rfl) ?_
  refine lv_iconst (v := (1 : Int32)) hx hb dL_law_125 (by decide) ?_
  obtain ⟨v126, e126, h⟩ := yb_some h
  refine ro_calli (ro_runV (As := [.int (bl_ (y5_90 >>> ((4 : Int32) &&& 31)) y3_90), .int (1 : Int32)]) (rest := []) ⟨hx, hb, hml, hown, hts⟩ (fr_P (X := []) (Y := SW c5 bo bv90 zs90 ++ ([] : va_W)) hP) hK (c_X2_would l D c5 a k90 hI (bl_ (y5_90 >>> ((4 : Int32) &&& 31)) y3_90) (1 : Int32) v126 e126) gG_RL_103 (va_recv hK hP (ci := 2) (q0 := 0) rfl (ap_l (KW_0 c5 a k90))) hd_X2_would ⟨Nat.le_of_ble_eq_true rfl, Nat.le_of_ble_eq_true rfl⟩ ⟨rfl, rfl⟩ hl.1 (Nat.le_of_ble_eq_true rfl) dL_law_126 ⟨show cells90 ≤ 881861 by omega, show slots90 ≤ 6455599 by omega⟩ rfl) ?_
  refine lv_istore (i := 11) (lv' := [(11, .int v126), (10, .int v117), (9, .int v109), (8, .int (bl_ (y5_90 >>> ((4 : Int32) &&& 31)) y3_90)), (6, .long v91), (5, .int y5_90), (4, .int y4_90), (3, .int y3_90), (1, .ref (aO a 0)), (2, .ref (bo 0)), (0, .ref b)]) hx hb dL_law_129 hl (by decide) rfl (fun ls hl => ?_)
  refine lv_aload_n hx hb dL_law_131 rfl (lv_at hl 8 rfl) ?_
  refine lv_iload hx hb dL_law_132 (lv_at hl 3 rfl) ?_
  refine lv_bipush (v := (7 : Int32)) hx hb dL_law_134 (by decide) ?_
  obtain ⟨v136, e136, h⟩ := yb_some h
  refine ro_calli (ro_runV (As := [.int (bl_ (y5_90 >>> ((4 : Int32) &&& 31)) y3_90), .int (7 : Int32)]) (rest := []) ⟨hx, hb, hml, hown, hts⟩ (fr_P (X := []) (Y := SW c5 bo bv90 zs90 ++ ([] : va_W)) hP) hK (c_X2_about l D c5 a k90 hI (bl_ (y5_90 >>> ((4 : Int32) &&& 31)) y3_90) (7 : Int32) v136 e136) gG_RL_106 (va_recv hK hP (ci := 2) (q0 := 0) rfl (ap_l (KW_0 c5 a k90))) hd_X2_about ⟨Nat.le_of_ble_eq_true rfl, Nat.le_of_ble_eq_true rfl⟩ ⟨rfl, rfl⟩ hl.1 (Nat.le_of_ble_eq_true rfl) dL_law_136 ⟨show cells90 ≤ 881861 by omega, show slots90 ≤ 6455599 by omega⟩ rfl) ?_
  refine lv_istore (i := 12) (lv' := [(12, .int v136), (11, .int v126), (10, .int v117), (9, .int v109), (8, .int (bl_ (y5_90 >>> ((4 : Int32) &&& 31)) y3_90)), (6, .long v91), (5, .int y5_90), (4, .int y4_90), (3, .int y3_90), (1, .ref (aO a 0)), (2, .ref (bo 0)), (0, .ref b)]) hx hb dL_law_139 hl (by decide) rfl (fun ls hl => ?_)
  refine lv_aload_n hx hb dL_law_141 rfl (lv_at hl 9 rfl) ?_
  refine lv_iconst (v := (3 : Int32)) hx hb dL_law_142 (by decide) ?_
  obtain ⟨v143, e143, h⟩ := yb_some h
  refine ro_calli (ro_runV (As := [.int (3 : Int32)]) (rest := []) ⟨hx, hb, hml, hown, hts⟩ (fr_P (X := []) (Y := SW c5 bo bv90 zs90 ++ ([] : va_W)) hP) hK (c_X2_count l D c5 a k90 hI (3 : Int32) v143 e143) gG_RL_86 (va_recv hK hP (ci := 2) (q0 := 0) rfl (ap_l (KW_0 c5 a k90))) hd_X2_count ⟨Nat.le_of_ble_eq_true rfl, Nat.le_of_ble_eq_true rfl⟩ ⟨rfl, rfl⟩ hl.1 (Nat.le_of_ble_eq_true rfl) dL_law_143 ⟨show cells90 ≤ 881861 by omega, show slots90 ≤ 6455599 by omega⟩ rfl) ?_
  refine lv_istore (i := 13) (lv' := [(13, .int v143), (12, .int v136), (11, .int v126), (10, .int v117), (9, .int v109), (8, .int (bl_ (y5_90 >>> ((4 : Int32) &&& 31)) y3_90)), (6, .long v91), (5, .int y5_90), (4, .int y4_90), (3, .int y3_90), (1, .ref (aO a 0)), (2, .ref (bo 0)), (0, .ref b)]) hx hb dL_law_146 hl (by decide) rfl (fun ls hl => ?_)
  refine lv_aload_n hx hb dL_law_148 rfl (lv_at hl 10 rfl) ?_
  refine lv_iconst (v := (2 : Int32)) hx hb dL_law_149 (by decide) ?_
  obtain ⟨v150, e150, h⟩ := yb_some h
  refine ro_calli (ro_runV (As := [.int (2 : Int32)]) (rest := []) ⟨hx, hb, hml, hown, hts⟩ (fr_P (X := []) (Y := SW c5 bo bv90 zs90 ++ ([] : va_W)) hP) hK (c_X2_count l D c5 a k90 hI (2 : Int32) v150 e150) gG_RL_86 (va_recv hK hP (ci := 2) (q0 := 0) rfl (ap_l (KW_0 c5 a k90))) hd_X2_count ⟨Nat.le_of_ble_eq_true rfl, Nat.le_of_ble_eq_true rfl⟩ ⟨rfl, rfl⟩ hl.1 (Nat.le_of_ble_eq_true rfl) dL_law_150 ⟨show cells90 ≤ 881861 by omega, show slots90 ≤ 6455599 by omega⟩ rfl) ?_
  refine lv_istore (i := 14) (lv' := [(14, .int v150), (13, .int v143), (12, .int v136), (11, .int v126), (10, .int v117), (9, .int v109), (8, .int (bl_ (y5_90 >>> ((4 : Int32) &&& 31)) y3_90)), (6, .long v91), (5, .int y5_90), (4, .int y4_90), (3, .int y3_90), (1, .ref (aO a 0)), (2, .ref (bo 0)), (0, .ref b)]) hx hb dL_law_153 hl (by decide) rfl (fun ls hl => ?_)
  refine lv_aload_n hx hb dL_law_155 rfl (lv_at hl 11 rfl) ?_
  refine lv_iconst (v := (0 : Int32)) hx hb dL_law_156 (by decide) ?_
  obtain ⟨v157, e157, h⟩ := yb_some h
  refine ro_calli (ro_runV (As := [.int (0 : Int32)]) (rest := []) ⟨hx, hb, hml, hown, hts⟩ (fr_P (X := []) (Y := SW c5 bo bv90 zs90 ++ ([] : va_W)) hP) hK (c_X2_count l D c5 a k90 hI (0 : Int32) v157 e157) gG_RL_86 (va_recv hK hP (ci := 2) (q0 := 0) rfl (ap_l (KW_0 c5 a k90))) hd_X2_count ⟨Nat.le_of_ble_eq_true rfl, Nat.le_of_ble_eq_true rfl⟩ ⟨rfl, rfl⟩ hl.1 (Nat.le_of_ble_eq_true rfl) dL_law_157 ⟨show cells90 ≤ 881861 by omega, show slots90 ≤ 6455599 by omega⟩ rfl) ?_
  refine lv_istore (i := 15) (lv' := [(15, .int v157), (14, .int v150), (13, .int v143), (12, .int v136), (11, .int v126), (10, .int v117), (9, .int v109), (8, .int (bl_ (y5_90 >>> ((4 : Int32) &&& 31)) y3_90)), (6, .long v91), (5, .int y5_90), (4, .int y4_90), (3, .int y3_90), (1, .ref (aO a 0)), (2, .ref (bo 0)), (0, .ref b)]) hx hb dL_law_160 hl (by decide) rfl (fun ls hl => ?_)
  refine lv_iload hx hb dL_law_162 (lv_at hl 6 rfl) ?_
  obtain ⟨v164, e164, h⟩ := o_bind h
  have tn164 : ∀ (ls : Array Slot), lv_has ls 24 [(15, .int v157), (14, .int v150), (13, .int v143), (12, .int v136), (11, .int v126), (10, .int v117), (9, .int v109), (8, .int (bl_ (y5_90 >>> ((4 : Int32) &&& 31)) y3_90)), (6, .long v91), (5, .int y5_90), (4, .int y4_90), (3, .int y3_90), (1, .ref (aO a 0)), (2, .ref (bo 0)), (0, .ref b)] → W p l e room_1 s m #[Value.ref b] below meth c H locs (cells90) (slots90) (lw_Z below #[Value.ref b] s) (F0 m 172 ls [.int v164]) := by
    intro ls hl
    refine lv_iload hx hb dL_law_172 (lv_at hl 5 rfl) ?_
    obtain ⟨v174, e174, h⟩ := o_bind h
    have tn174 : ∀ (ls : Array Slot), lv_has ls 24 [(15, .int v157), (14, .int v150), (13, .int v143), (12, .int v136), (11, .int v126), (10, .int v117), (9, .int v109), (8, .int (bl_ (y5_90 >>> ((4 : Int32) &&& 31)) y3_90)), (6, .long v91), (5, .int y5_90), (4, .int y4_90), (3, .int y3_90), (1, .ref (aO a 0)), (2, .ref (bo 0)), (0, .ref b)] → W p l e room_1 s m #[Value.ref b] below meth c H locs (cells90) (slots90) (lw_Z below #[Value.ref b] s) (F0 m 182 ls [.int v174, .int v164]) := by
      intro ls hl
      refine lv_icmp_ne (tgt := 218) hx hb dL_law_182 (by decide) (fun q => ?_) (fun q => ?_)
      · have h := o_t' h q
        refine lv_iconst (v := (0 : Int32)) hx hb dL_law_218 (by decide) ?_
        cases h
      · have h := o_f' h q
        refine lv_iload hx hb dL_law_185 (lv_at hl 6 rfl) ?_
        obtain ⟨v187, e187, h⟩ := o_bind h
        have tn187 : ∀ (ls : Array Slot), lv_has ls 24 [(15, .int v157), (14, .int v150), (13, .int v143), (12, .int v136), (11, .int v126), (10, .int v117), (9, .int v109), (8, .int (bl_ (y5_90 >>> ((4 : Int32) &&& 31)) y3_90)), (6, .long v91), (5, .int y5_90), (4, .int y4_90), (3, .int y3_90), (1, .ref (aO a 0)), (2, .ref (bo 0)), (0, .ref b)] → W p l e room_1 s m #[Value.ref b] below meth c H locs (cells90) (slots90) (lw_Z below #[Value.ref b] s) (F0 m 195 ls [.int v187]) := by
          intro ls hl
          refine lv_iload hx hb dL_law_195 (lv_at hl 4 rfl) ?_
          obtain ⟨v197, e197, h⟩ := o_bind h
          have tn197 : ∀ (ls : Array Slot), lv_has ls 24 [(15, .int v157), (14, .int v150), (13, .int v143), (12, .int v136), (11, .int v126), (10, .int v117), (9, .int v109), (8, .int (bl_ (y5_90 >>> ((4 : Int32) &&& 31)) y3_90)), (6, .long v91), (5, .int y5_90), (4, .int y4_90), (3, .int y3_90), (1, .ref (aO a 0)), (2, .ref (bo 0)), (0, .ref b)] → W p l e room_1 s m #[Value.ref b] below meth c H locs (cells90) (slots90) (lw_Z below #[Value.ref b] s) (F0 m 205 ls [.int v197, .int v187]) := by
            intro ls hl
            refine lv_icmp_ne (tgt := 218) hx hb dL_law_205 (by decide) (fun q => ?_) (fun q => ?_)
            · have h := o_t' h q
              refine lv_iconst (v := (0 : Int32)) hx hb dL_law_218 (by decide) ?_
              cases h
            · have h := o_f' h q
              refine lv_aload_n hx hb dL_law_208 rfl (lv_at hl 12 rfl) ?_
              obtain ⟨v209, e209, h⟩ := o_bind h
              refine ro_calll (ro_runV (As := []) (rest := []) ⟨hx, hb, hml, hown, hts⟩ (fr_P (X := []) (Y := SW c5 bo bv90 zs90 ++ ([] : va_W)) hP) hK (c_X2_digest l D c5 a k90 hI  v209 e209) gG_RL_93 (va_recv hK hP (ci := 2) (q0 := 0) rfl (ap_l (KW_0 c5 a k90))) hd_X2_digest ⟨Nat.le_of_ble_eq_true rfl, Nat.le_of_ble_eq_true rfl⟩ ⟨rfl, rfl⟩ hl.1 (Nat.le_of_ble_eq_true rfl) dL_law_209 ⟨show cells90 ≤ 881861 by omega, show slots90 ≤ 6455599 by omega⟩ rfl) ?_
              refine lv_lload hx hb dL_law_212 (lv_at hl 8 rfl) ?_
              refine W.lcmp hx hb dL_law_214 ?_
              refine lv_if_eq (tgt := 220) hx hb dL_law_215 (by decide) (fun q => ?_) (fun q => ?_)
              · have h := o_t h q
                exact law_C220 l hflags hx hb hr hml hown hts hlocks hXs hbl hK hOI hOZ hX r k90 zs90 v157 v150 v143 v136 v126 v117 v109 (bl_ (y5_90 >>> ((4 : Int32) &&& 31)) y3_90) v91 y5_90 y4_90 y3_90 _ bv90 n29 (cells90) (slots90) (by omega) (by omega) ih29 hl hP hD hS h
              · have h := o_f h q
                refine lv_iconst (v := (0 : Int32)) hx hb dL_law_218 (by decide) ?_
                cases h
          have h := e197
          refine lv_if_ge (tgt := 204) hx hb dL_law_197 (by decide) (fun q => ?_) (fun q => ?_)
          · have h := o_t h q
            refine lv_iconst (v := (0 : Int32)) hx hb dL_law_204 (by decide) ?_
            obtain rfl := Option.some.inj h
            exact tn197 ls (lv_sub hl [0, 1, 2, 3, 4, 5, 6, 7, 8, 9, 10, 11, 12, 13, 14] rfl)
          · have h := o_f h q
            refine lv_iconst (v := (1 : Int32)) hx hb dL_law_200 (by decide) ?_
            refine lv_goto (tgt := 205) hx hb dL_law_201 (by decide) ?_
            obtain rfl := Option.some.inj h
            exact tn197 ls (lv_sub hl [0, 1, 2, 3, 4, 5, 6, 7, 8, 9, 10, 11, 12, 13, 14] rfl)
        have h := e187
        refine lv_if_ge (tgt := 194) hx hb dL_law_187 (by decide) (fun q => ?_) (fun q => ?_)
        · have h := o_t h q
          refine lv_iconst (v := (0 : Int32)) hx hb dL_law_194 (by decide) ?_
          obtain rfl := Option.some.inj h
          exact tn187 ls (lv_sub hl [0, 1, 2, 3, 4, 5, 6, 7, 8, 9, 10, 11, 12, 13, 14] rfl)
        · have h := o_f h q
          refine lv_iconst (v := (1 : Int32)) hx hb dL_law_190 (by decide) ?_
          refine lv_goto (tgt := 195) hx hb dL_law_191 (by decide) ?_
          obtain rfl := Option.some.inj h
          exact tn187 ls (lv_sub hl [0, 1, 2, 3, 4, 5, 6, 7, 8, 9, 10, 11, 12, 13, 14] rfl)
    have h := e174
    refine lv_if_ne (tgt := 181) hx hb dL_law_174 (by decide) (fun q => ?_) (fun q => ?_)
    · have h := o_t' h q
      refine lv_iconst (v := (0 : Int32)) hx hb dL_law_181 (by decide) ?_
      obtain rfl := Option.some.inj h
      exact tn174 ls (lv_sub hl [0, 1, 2, 3, 4, 5, 6, 7, 8, 9, 10, 11, 12, 13, 14] rfl)
    · have h := o_f' h q
      refine lv_iconst (v := (1 : Int32)) hx hb dL_law_177 (by decide) ?_
      refine lv_goto (tgt := 182) hx hb dL_law_178 (by decide) ?_
      obtain rfl := Option.some.inj h
      exact tn174 ls (lv_sub hl [0, 1, 2, 3, 4, 5, 6, 7, 8, 9, 10, 11, 12, 13, 14] rfl)
  have h := e164
  refine lv_if_ge (tgt := 171) hx hb dL_law_164 (by decide) (fun q => ?_) (fun q => ?_)
  · have h := o_t h q
    refine lv_iconst (v := (0 : Int32)) hx hb dL_law_171 (by decide) ?_
    obtain rfl := Option.some.inj h
    exact tn164 ls (lv_sub hl [0, 1, 2, 3, 4, 5, 6, 7, 8, 9, 10, 11, 12, 13, 14] rfl)
  · have h := o_f h q
    refine lv_iconst (v := (1 : Int32)) hx hb dL_law_167 (by decide) ?_
    refine lv_goto (tgt := 172) hx hb dL_law_168 (by decide) ?_
    obtain rfl := Option.some.inj h
    exact tn164 ls (lv_sub hl [0, 1, 2, 3, 4, 5, 6, 7, 8, 9, 10, 11, 12, 13, 14] rfl)
set_option maxHeartbeats 8000000 in
set_option maxRecDepth 100000 in
theorem law_walk {p : Program} {e : Env} {s : State} {m : MethodId} {below : List Frame} {meth : Method} {c : Code} (l : Launch) (hflags : l.flags = flags0) {D : va_G} {c5 : Nat → ClassId} {sx : Nat → Nat} {a : KAd} {k : KSt} {bo : Nat → Nat} {bv : BV} {zs : SSt} {b L : Nat} {xs : Nat → Int32} (hx : p.tables.exec = Jvm.exec) (hb : c.code = cL_law) (hr : meth.sig.returnType = ret) (hml : c.maxLocals = 24) (hown : s.vm.findClass RL = some m.cls) (hts : ∀ w ∈ LA, w.before #[Value.ref b] s = true) (hlocks : meth.locks = false) (hXs : va_X b L xs s s.heap) (hbl : b < s.heap.size) (hK : va_K D vwCl (tyG c5) s) (hOI : va_AOA .int s) (hOZ : va_AOA .boolean s) (hX : exL (lwA s) sx s) (r : Unit) (h : R_L_law L xs k zs = some r) {H : Heap} {locs : List Loc} {ls : Array Slot} (hl : lv_has ls 24 [(1, .ref (aO a 0)), (2, .ref (bo 0)), (0, .ref b)]) (hP : va_P D vwCl (KW c5 a k ++ (SW c5 bo bv zs ++ ([] : va_W))) H) (hD : va_D (lwA s) (KW c5 a k ++ (SW c5 bo bv zs ++ ([] : va_W)))) (hS : va_S (lwA s) s.heap H locs) : W p l e room_1 s m #[Value.ref b] below meth c H locs 4000 40000 (lw_Z below #[Value.ref b] s) (F0 m 20 ls []) := by
  have hA : ∀ q : Nat, s.heap.size ≤ q → lwA s q := fun _ h => h
  have hbA : ¬ lwA s b := Nat.not_le.mpr hbl
  have hI : KI a := KI_of (fr_D (X := []) (Y := SW c5 bo bv zs ++ ([] : va_W)) hD)
  unfold R_L_law at h
  refine lv_aload_n hx hb dL_law_20 rfl (lv_at hl 0 rfl) ?_
  refine lv_iconst (v := (1 : Int32)) hx hb dL_law_21 (by decide) ?_
  obtain ⟨v22, e22, h⟩ := yb_some h
  refine ro_calli (ro_runV (As := [.int (1 : Int32)]) (rest := []) ⟨hx, hb, hml, hown, hts⟩ (fr_P (X := []) (Y := SW c5 bo bv zs ++ ([] : va_W)) hP) hK (c_X2_count l D c5 a k hI (1 : Int32) v22 e22) gG_RL_86 (va_recv hK hP (ci := 2) (q0 := 0) rfl (ap_l (KW_0 c5 a k))) hd_X2_count ⟨Nat.le_of_ble_eq_true rfl, Nat.le_of_ble_eq_true rfl⟩ ⟨rfl, rfl⟩ hl.1 (Nat.le_of_ble_eq_true rfl) dL_law_22 ⟨show 4000 ≤ 881861 by omega, show 40000 ≤ 6455599 by omega⟩ rfl) ?_
  refine lv_istore_n (i := 3) (lv' := [(3, .int v22), (1, .ref (aO a 0)), (2, .ref (bo 0)), (0, .ref b)]) hx hb dL_law_25 rfl hl (by decide) rfl (fun ls hl => ?_)
  refine lv_iconst (v := (0 : Int32)) hx hb dL_law_26 (by decide) ?_
  refine lv_istore (i := 4) (lv' := [(4, .int (0 : Int32)), (3, .int v22), (1, .ref (aO a 0)), (2, .ref (bo 0)), (0, .ref b)]) hx hb dL_law_27 hl (by decide) rfl (fun ls hl => ?_)
  have L29 : ∀ (n29 : Nat) (cells29 slots29 : Nat) (bv29 : BV) (H : Heap) (locs : List Loc) (k29 : KSt) (zs29 : SSt) (x4_29 : Int32) (ls : Array Slot), lv_has ls 24 [(4, .int x4_29), (3, .int v22), (1, .ref (aO a 0)), (2, .ref (bo 0)), (0, .ref b)] → va_P D vwCl (KW c5 a k29 ++ (SW c5 bo bv29 zs29 ++ ([] : va_W))) H → va_D (lwA s) (KW c5 a k29 ++ (SW c5 bo bv29 zs29 ++ ([] : va_W))) → va_S (lwA s) s.heap H locs → cells29 + n29 * 160 ≤ 4000 + 2720 → slots29 + n29 * 420 ≤ 40000 + 7140 → R_L_law_L29 L xs v22 n29 k29 zs29 x4_29 = some r → W p l e room_1 s m #[Value.ref b] below meth c H locs (cells29) (slots29) (lw_Z below #[Value.ref b] s) (F0 m 29 ls []) := by
    intro n29
    induction n29 with
    | zero =>
      intro cells29 slots29 bv29 H locs k29 zs29 x4_29 ls hl hP hD hS hc29 hn29 h
      exact absurd h (by simp [R_L_law_L29])
    | succ n29 ih29 =>
      intro cells29 slots29 bv29 H locs k29 zs29 x4_29 ls hl hP hD hS hc29 hn29 h
      rw [R_L_law_L29] at h
      refine lv_iload hx hb dL_law_29 (lv_at hl 0 rfl) ?_
      refine lv_bipush (v := (16 : Int32)) hx hb dL_law_31 (by decide) ?_
      refine lv_icmp_ge (tgt := 752) hx hb dL_law_33 (by decide) (fun q => ?_) (fun q => ?_)
      · have h := o_t h q
        refine lv_iconst (v := (1 : Int32)) hx hb dL_law_752 (by decide) ?_
        refine va_forget hS.2.2 ?_
        refine W.widen (k := 881861) (n := 6455599) (by omega) (by omega) ?_
        refine W.base ?_
        exact lw_ret (Drawn.sameBut.refl s.drawn lw_cs) hx hb hr hlocks dL_law_753
      · have h := o_f h q
        refine lv_aload_n hx hb dL_law_36 rfl (lv_at hl 4 rfl) ?_
        refine lv_iload hx hb dL_law_37 (lv_at hl 0 rfl) ?_
        obtain ⟨v39, e39, h⟩ := o_bind h
        refine sc_cell (rest := []) ⟨hx, hb, hml, hown, hts⟩ hXs hbl hbA hS e39 gG_RL_70 hd_L_cell ⟨Nat.le_of_ble_eq_true rfl, Nat.le_of_ble_eq_true rfl⟩ hl.1 (Nat.le_of_ble_eq_true rfl) dL_law_39 ⟨show cells29 ≤ 881861 by omega, show slots29 ≤ 6455599 by omega⟩ rfl ?_
        refine lv_iconst (v := (2 : Int32)) hx hb dL_law_42 (by decide) ?_
        refine lv_ishr hx hb dL_law_43 ?_
        refine lv_bipush (v := (53 : Int32)) hx hb dL_law_44 (by decide) ?_
        refine lv_iload hx hb dL_law_46 (lv_at hl 0 rfl) ?_
        refine lv_imul hx hb dL_law_48 ?_
        refine lv_iadd hx hb dL_law_49 ?_
        refine lv_istore (i := 5) (lv' := [(5, .int ((v39 >>> ((2 : Int32) &&& 31)) + ((53 : Int32) * x4_29))), (4, .int x4_29), (3, .int v22), (1, .ref (aO a 0)), (2, .ref (bo 0)), (0, .ref b)]) hx hb dL_law_50 hl (by decide) rfl (fun ls hl => ?_)
        refine lv_iconst (v := (0 : Int32)) hx hb dL_law_52 (by decide) ?_
        refine lv_istore (i := 6) (lv' := [(6, .int (0 : Int32)), (5, .int ((v39 >>> ((2 : Int32) &&& 31)) + ((53 : Int32) * x4_29))), (4, .int x4_29), (3, .int v22), (1, .ref (aO a 0)), (2, .ref (bo 0)), (0, .ref b)]) hx hb dL_law_53 hl (by decide) rfl (fun ls hl => ?_)
        obtain ⟨v55, e55, h⟩ := o_bind h
        have L55 : ∀ (n55 : Nat) (cells55 slots55 : Nat) (bv55 : BV) (H : Heap) (locs : List Loc) (k55 : KSt) (zs55 : SSt) (x6_55 : Int32) (v9 : KSt × SSt × Int32) (ls : Array Slot), lv_has ls 24 [(6, .int x6_55), (5, .int ((v39 >>> ((2 : Int32) &&& 31)) + ((53 : Int32) * x4_29))), (4, .int x4_29), (3, .int v22), (1, .ref (aO a 0)), (2, .ref (bo 0)), (0, .ref b)] → va_P D vwCl (KW c5 a k55 ++ (SW c5 bo bv55 zs55 ++ ([] : va_W))) H → va_D (lwA s) (KW c5 a k55 ++ (SW c5 bo bv55 zs55 ++ ([] : va_W))) → va_S (lwA s) s.heap H locs → cells55 + n55 * 27 ≤ cells29 + 108 → slots55 + n55 * 45 ≤ slots29 + 180 → R_L_law_L55 x4_29 v39 n55 k55 zs55 x6_55 = some v9 → (∀ (bv55 : BV) (H : Heap) (locs : List Loc) (ls : Array Slot), lv_has ls 24 [(6, .int v9.2.2), (5, .int ((v39 >>> ((2 : Int32) &&& 31)) + ((53 : Int32) * x4_29))), (4, .int x4_29), (3, .int v22), (1, .ref (aO a 0)), (2, .ref (bo 0)), (0, .ref b)] → va_P D vwCl (KW c5 a v9.1 ++ (SW c5 bo bv55 v9.2.1 ++ ([] : va_W))) H → va_D (lwA s) (KW c5 a v9.1 ++ (SW c5 bo bv55 v9.2.1 ++ ([] : va_W))) → va_S (lwA s) s.heap H locs → W p l e room_1 s m #[Value.ref b] below meth c H locs (cells29 + 108) (slots29 + 180) (lw_Z below #[Value.ref b] s) (F0 m 90 ls [])) → W p l e room_1 s m #[Value.ref b] below meth c H locs (cells55) (slots55) (lw_Z below #[Value.ref b] s) (F0 m 55 ls []) := by
          intro n55
          induction n55 with
          | zero =>
            intro cells55 slots55 bv55 H locs k55 zs55 x6_55 v9 ls hl hP hD hS hc55 hn55 h kx
            exact absurd h (by simp [R_L_law_L55])
          | succ n55 ih55 =>
            intro cells55 slots55 bv55 H locs k55 zs55 x6_55 v9 ls hl hP hD hS hc55 hn55 h kx
            rw [R_L_law_L55] at h
            refine lv_iload hx hb dL_law_55 (lv_at hl 0 rfl) ?_
            refine lv_iconst (v := (3 : Int32)) hx hb dL_law_57 (by decide) ?_
            refine lv_icmp_ge (tgt := 90) hx hb dL_law_58 (by decide) (fun q => ?_) (fun q => ?_)
            · have h := o_t h q
              obtain rfl := Option.some.inj h
              refine W.widen (k := cells29 + 108) (n := slots29 + 180) (by omega) (by omega) ?_
              exact kx bv55 H locs ls (lv_sub hl [0, 1, 2, 3, 4, 5, 6] rfl) hP hD hS
            · have h := o_f h q
              refine lv_aload_n hx hb dL_law_61 rfl (lv_at hl 4 rfl) ?_
              refine lv_aload_n hx hb dL_law_62 rfl (lv_at hl 5 rfl) ?_
              refine lv_iload hx hb dL_law_63 (lv_at hl 1 rfl) ?_
              refine lv_iconst (v := (3 : Int32)) hx hb dL_law_65 (by decide) ?_
              refine lv_iload hx hb dL_law_66 (lv_at hl 0 rfl) ?_
              refine lv_imul hx hb dL_law_68 ?_
              refine lv_ishr hx hb dL_law_69 ?_
              refine lv_bipush (v := (29 : Int32)) hx hb dL_law_70 (by decide) ?_
              refine lv_iload hx hb dL_law_72 (lv_at hl 0 rfl) ?_
              refine lv_imul hx hb dL_law_74 ?_
              refine lv_iadd hx hb dL_law_75 ?_
              obtain ⟨v76, e76, h⟩ := o_bind h
              refine fr_calli (wc := KW c5 a k55 ++ SW c5 bo bv55 zs55) (X := []) (Y := []) (lw_runSW (As := [.ref (aO a 0), .ref (bo 0), .int ((((v39 >>> ((2 : Int32) &&& 31)) + ((53 : Int32) * x4_29)) >>> (((3 : Int32) * x6_55) &&& 31)) + ((29 : Int32) * x6_55))]) (rest := []) ⟨hx, hb, hml, hown, hts⟩ (fr_P (X := []) (Y := []) (ra_P hP)) hK (fr_D (X := []) (Y := []) (ra_D hD)) hOI hOZ hX hS hA (c_L_act l D c5 a k55 bo bv55 zs55 sx hflags H.size ((((v39 >>> ((2 : Int32) &&& 31)) + ((53 : Int32) * x4_29)) >>> (((3 : Int32) * x6_55) &&& 31)) + ((29 : Int32) * x6_55)) v76 e76) gG_RL_89 hd_L_act ⟨Nat.le_of_ble_eq_true rfl, Nat.le_of_ble_eq_true rfl⟩ ⟨rfl, rfl⟩ hl.1 (Nat.le_of_ble_eq_true rfl) dL_law_76 ⟨show cells55 + 27 ≤ 881861 by omega, show slots55 + 45 ≤ 6455599 by omega⟩ rfl) (ra_P hP) (ra_D hD) hS hA (fun x76 u76 H locs hpost hP hD hS => ?_)
              obtain ⟨k76, bv76, z76⟩ := u76
              obtain ⟨rfl, rfl, rfl⟩ := hpost
              have hP := rb_P (V := KW c5 a v76.1) (W := SW c5 bo bv76 v76.2) (X := []) hP
              have hD := rb_D (V := KW c5 a v76.1) (W := SW c5 bo bv76 v76.2) (X := []) hD
              refine lv_if_ne (tgt := 84) hx hb dL_law_79 (by decide) (fun q => ?_) (fun q => ?_)
              · have h := o_t' h q
                refine lv_iinc (v := (x6_55 + (1 : Int32))) (lv' := [(6, .int (x6_55 + (1 : Int32))), (5, .int ((v39 >>> ((2 : Int32) &&& 31)) + ((53 : Int32) * x4_29))), (4, .int x4_29), (3, .int v22), (1, .ref (aO a 0)), (2, .ref (bo 0)), (0, .ref b)]) hx hb dL_law_84 hl (k := 0) rfl rfl (by decide) rfl (fun ls hl => ?_)
                refine lv_goto (tgt := 55) hx hb dL_law_87 (by decide) ?_
                exact ih55 (cells55 + 27) (slots55 + 45) bv76 H locs v76.1 v76.2 (x6_55 + (1 : Int32)) v9 ls (lv_sub hl [0, 1, 2, 3, 4, 5, 6] rfl) hP hD hS (by omega) (by omega) h kx
              · have h := o_f' h q
                refine lv_iconst (v := (0 : Int32)) hx hb dL_law_82 (by decide) ?_
                cases h
        refine L55 4 (cells29) (slots29) bv29 H locs k29 zs29 (0 : Int32) v55 ls (lv_sub hl [0, 1, 2, 3, 4, 5, 6] rfl) hP hD hS (by omega) (by omega) e55 (fun bv55 H locs ls hl hP hD hS => ?_)
        exact law_C90 l hflags hx hb hr hml hown hts hlocks hXs hbl hK hOI hOZ hX r v55.1 v55.2.1 v55.2.2 ((v39 >>> ((2 : Int32) &&& 31)) + ((53 : Int32) * x4_29)) x4_29 v22 _ bv55 n29 (cells29 + 108) (slots29 + 180) (by omega) (by omega) ih29 hl hP hD hS h
  exact L29 17 (4000) (40000) bv H locs k zs (0 : Int32) ls (lv_sub hl [0, 1, 2, 3, 4] rfl) hP hD hS (by omega) (by omega) h
