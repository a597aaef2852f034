def R_law : String := "SlabKitchenLaw"
def lw_P (b : Addr) (xs : List Int32) (args : Array Value) (s : State) : Prop := args = #[.ref b] ∧ s.IntsAt b xs ∧ xs.length ≤ 1536 ∧ (Jvm.Cond.and given_1 narrow_1).before args s = true
/-- what a walk over the start with the record d0 says of its end, said of the start itself -/
theorem lw_closed {s t : State} {o : Outcome} {d0 : Drawn} {L : List Loc} {k n : Nat} (hd0 : s.drawn.sameBut d0 lw_cs) (hv : ∃ v, o = .returned v) (hW : (s.setDrawn d0).WarmedH t.vm) (hs : (s.setDrawn d0).sameButNew ({ t with vm := s.vm } : State) L k n) : State.butDraws s t lw_cs (fun t1 => Framed s o t1 L k n) := by
  have h2 : t.drawn = d0 := congrArg State.drawn hs.1
  refine ⟨⟨hv, hW, State.sameButNew.setDrawn hs s.drawn⟩, ?_, by decide⟩
  rw [h2]
  exact hd0
def lw_Q (_ : Array Value) (s : State) (o : Outcome) (t : State) : Prop := o = .returned (some (.int 1)) ∧ State.butDraws s t lw_cs (fun t1 => Framed s o t1 [] 669600 7087305)
def lw_Z (below : List Frame) (a : Array Value) (s : State) : State → Prop := fun t => ∃ o, t.status = .running ∧ Ended t below o ∧ lw_Q a s o t
/-- the law's own end, with 1 on the stack, nothing written that was there before, its room as the claim has it; d0: the record of draws at this point (at the entry s.drawn: begin with 'refine W.base ?_' and 'have hd0 := Drawn.sameBut.refl s.drawn lw_cs') -/
theorem lw_ret {p : Program} {l : Launch} {e : Env} {s : State} {m : MethodId} {below : List Frame} {meth : Method} {c : Code} {b : Nat} {d0 : Drawn} (hd0 : s.drawn.sameBut d0 lw_cs) (hx : p.tables.exec = Jvm.exec) (hb : c.code = code) (hr : meth.sig.returnType = ret) (hlocks : meth.locks = false) {pc : Nat} {H : Heap} {ls : Array Slot} (hdg : decode code pc = .ok (.ireturn, 1)) : W p l e room_1 (s.setDrawn d0) m #[Value.ref b] below meth c H [] 669600 7087305 (lw_Z below #[Value.ref b] s) (F0 m pc ls [.int 1]) := by
  intro T hT X
  obtain ⟨fs, hret, hrun, hended, hW, hframe⟩ := X.leave (v := some (.int 1)) (hlocks := hlocks) (fun h => by rw [hr] at h; cases h)
  have hmeth' : T.vm.method? m = some meth := X.method'
  refine ⟨T.setFrames fs, ?_, .returned (some (.int 1)), hrun, hended, rfl, lw_closed hd0 ⟨_, rfl⟩ hW hframe⟩
  jvm_step X.here [X.here.top, hx, hb, hdg, hmeth', hr, ret, narrow_b1]
  (try refine ⟨rfl, ?_⟩); (try refine ⟨rfl, ?_⟩)
  first | (intro acts; rw [hret _ acts rfl rfl rfl]) | rw [hret _ _ rfl rfl rfl]
  exact Steps.refl _
/-- what holds at the law's entry: the machine, the code, the tables' words (any of lw_tbl by 'hts w (by decide +kernel)'), the script of L ints xs at the cell b, what the Statement gives of the start (any of its parts by flat_of_before) -/
def lw_At (p : Program) (s : State) (m : MethodId) (meth : Method) (c : Code) (b L : Nat) (xs : Nat → Int32) : Prop :=
  p.tables.exec = Jvm.exec ∧ c.code = code ∧ meth.sig.returnType = ret ∧ c.maxLocals = 9 ∧ s.vm.findClass R_law = some m.cls ∧ (∀ w ∈ lw_tbl, w.before #[Value.ref b] s = true) ∧ va_X b L xs s s.heap ∧ b < s.heap.size ∧ meth.locks = false ∧ (Jvm.Cond.and given_1 narrow_1).before #[Value.ref b] s = true
/-! the law's walk, over what the two sides' raw functions say of each other -/
def Agree (Rel : Nat → KSt → MSt → Prop) (n : Nat) (k : KSt) (cd : String → Int32) (hs : List String) (cl : Option (Except String (Int32 × KSt))) (rf : Option (Int32 × MSt)) : Prop :=
  ∃ (res : Except String (Int32 × KSt)) (rb : Int32) (m' : MSt), cl = some res ∧ rf = some (rb, m') ∧ (∀ E, res = .error E → E ∈ hs) ∧ match res with
    | .ok r => mF m' 0 = 0 ∧ r.1 = rb ∧ Rel (n + 1) r.2 m'
    | .error E => mF m' 0 = cd E ∧ cd E ≠ 0 ∧ Rel (n + 1) k m'
def AgreeR (Rel : Nat → KSt → MSt → Prop) (n : Nat) (k : KSt) (cd : String → Int32) (hs : List String) (cl : Option (Except String Int32)) (rf : Option (Int32 × MSt)) : Prop :=
  ∃ (res : Except String Int32) (rb : Int32) (m' : MSt), cl = some res ∧ rf = some (rb, m') ∧ (∀ E, res = .error E → E ∈ hs) ∧ match res with
    | .ok v => mF m' 0 = 0 ∧ v = rb ∧ Rel (n + 1) k m'
    | .error E => mF m' 0 = cd E ∧ cd E ≠ 0 ∧ Rel (n + 1) k m'
theorem ag_rw {Rel : Nat → KSt → MSt → Prop} {n : Nat} {k : KSt} {a : KAd} {cd : String → Int32} {res : Except String (Int32 × KSt)} {rb x : Int32} {m' : MSt} {u : KAd × KSt × (Nat → Int64)}
    (h : match res with
      | .ok r => mF m' 0 = 0 ∧ r.1 = rb ∧ Rel (n + 1) r.2 m'
      | .error E => mF m' 0 = cd E ∧ cd E ≠ 0 ∧ Rel (n + 1) k m') (q : lwQ cd a k res x u) : mF m' 0 = x ∧ (x = 0 → u.2.2 0 = rb.toInt64) ∧ Rel (n + 1) u.2.1 m' ∧ u.1.1 = a.1 := by
  obtain ⟨q0, q⟩ := q
  cases res with
  | ok r =>
    obtain ⟨h1, h2, h3⟩ := h
    obtain ⟨g1, g2, g3⟩ := q
    refine ⟨h1.trans g1.symm, fun _ => by rw [g3, h2], by rw [g2]; exact h3, q0⟩
  | error E =>
    obtain ⟨h1, h2, h3⟩ := h
    obtain ⟨g1, g2⟩ := q
    refine ⟨h1.trans g1.symm, fun e => absurd (g1.symm.trans e) h2, by rw [g2]; exact h3, q0⟩
theorem ag_ro {Rel : Nat → KSt → MSt → Prop} {n : Nat} {k : KSt} {a : KAd} {cd : String → Int32} {res : Except String Int32} {rb x : Int32} {m' : MSt} {u : KAd × KSt × (Nat → Int64)}
    (h : match res with
      | .ok v => mF m' 0 = 0 ∧ v = rb ∧ Rel (n + 1) k m'
      | .error E => mF m' 0 = cd E ∧ cd E ≠ 0 ∧ Rel (n + 1) k m') (q : lwQ cd a k (roR k res) x u) : mF m' 0 = x ∧ (x = 0 → u.2.2 0 = rb.toInt64) ∧ Rel (n + 1) u.2.1 m' ∧ u.1.1 = a.1 := by
  obtain ⟨q0, q⟩ := q
  cases res with
  | ok r =>
    obtain ⟨h1, h2, h3⟩ := h
    obtain ⟨g1, g2, g3⟩ := q
    have g2 : u.2.1 = k := g2
    have g3 : u.2.2 0 = r.toInt64 := g3
    refine ⟨h1.trans g1.symm, fun _ => by rw [g3, h2], by rw [g2]; exact h3, q0⟩
  | error E =>
    obtain ⟨h1, h2, h3⟩ := h
    obtain ⟨g1, g2⟩ := q
    refine ⟨h1.trans g1.symm, fun e => absurd (g1.symm.trans e) h2, by rw [g2]; exact h3, q0⟩
/-- what the law needs of the two sides -/
def Sync (Rel : Nat → KSt → MSt → Prop) : Prop := ∀ (n : Nat) (k : KSt) (m : MSt), n < 512 → Rel n k m →
  (∀ p : Int32, Agree Rel n k cdIAIS [exIA, exIS] (R_X2_kind k p) (R_X3_kind m p)) ∧
  (∀ p : Int32, Agree Rel n k cdIO [exIO] (R_X2_setWay k p) (R_X3_setWay m p)) ∧
  (∀ p : Int32, Agree Rel n k cdIOIS [exIO, exIS] (R_X2_put k p) (R_X3_put m p)) ∧
  (∀ p : Int32, Agree Rel n k cdIOIA [exIO, exIA] (R_X2_take k p) (R_X3_take m p)) ∧
  (∀ p : Int32, Agree Rel n k cdIA [exIA] (R_X2_reap k p) (R_X3_reap m p)) ∧
  (∀ p : Int32, Agree Rel n k cdIO [exIO] (R_X2_pack k p) (R_X3_pack m p)) ∧
  (∀ p q : Int32, AgreeR Rel n k cdIO [exIO] (R_X2_shelf k p q) (R_X3_shelf m p q)) ∧
  (∀ p q : Int32, AgreeR Rel n k cdIO [exIO] (R_X2_about k p q) (R_X3_about m p q)) ∧
  (∀ p q : Int32, AgreeR Rel n k cdIO [exIO] (R_X2_place k p q) (R_X3_place m p q)) ∧
  (∀ p : Int32, AgreeR Rel n k cdIO [exIO] (R_X2_count k p) (R_X3_count m p)) ∧
  (∀ p : Int32, AgreeR Rel n k cdIO [exIO] (R_X2_next k p) (R_X3_next m p)) ∧
  (∀ p : Int32, AgreeR Rel n k cdIO [exIO] (R_X2_fits k p) (R_X3_fits m p)) ∧
  (∀ p q : Int32, AgreeR Rel n k cdIOIA [exIO, exIA] (R_X2_would k p q) (R_X3_would m p q)) ∧
  (∀ p : Int32, AgreeR Rel n k cdIO [exIO] (R_X2_gains k p) (R_X3_gains m p)) ∧
  (∃ (v : Int32) (m' : MSt), R_X2_advise k = some v ∧ R_X3_advise m = some (v, m') ∧ Rel (n + 1) k m') ∧
  (∃ (v : UInt64) (m' : MSt), R_X2_mean k = some v ∧ R_X3_mean m = some (v, m') ∧ Rel (n + 1) k m') ∧
  (∃ (v : Int64) (m' : MSt), R_X2_digest k = some v ∧ R_X3_digest m = some (v, m') ∧ Rel (n + 1) k m')
theorem la_subW {y : MethodName} {c : ByteArray} {n : Nat} {ret : Option FieldType} {hh : List (Nat × Nat × Nat × Nat)} (h : Cond.codeWith y c n ret hh ∈ LA) : GoodIn LA (wsw_ y c n ret hh) := fun w hw => (List.mem_cons.mp hw).elim (fun e => by subst e; exact ⟨h, la_good h⟩) (fun hw => ⟨hw, la_good hw⟩)
theorem la_SW {own : String} {idx : Nat} {y : MethodName} {c : ByteArray} {n : Nat} {ret : Option FieldType} {hh : List (Nat × Nat × Nat × Nat)} (h1 : Cond.methodLink own idx y ∈ LA) (h2 : Cond.static y ∈ LA) (h4 : Cond.initialized y.cls ∈ LA) (h5 : Cond.codeWith y c n ret hh ∈ LA) : GoodIn LA (va_wsS own idx y (wsw_ y c n ret hh)) := by
  intro w hw
  have hm : w ∈ LA := by
    simp only [va_wsS, List.cons_append, List.nil_append, List.mem_cons] at hw
    rcases hw with e | e | e | e | hw
    · exact e ▸ h1
    · exact e ▸ h2
    · exact e ▸ h4
    · exact e ▸ h5
    · exact hw
  exact ⟨hm, la_good hm⟩
theorem TW_K {D : va_G} {H : Heap} {c5 : Nat → ClassId} {a : KAd} {k : KSt} {o : Nat} {g : Nat → Int64} {Y : va_W} (h : va_P D vwCl (LW c5 a k o g ++ Y) H) : va_P D vwCl (KW c5 a k) H := by
  unfold LW at h
  rw [List.append_assoc] at h
  exact fr_P (X := []) h
theorem TW_I {A : Nat → Prop} {c5 : Nat → ClassId} {a : KAd} {k : KSt} {o : Nat} {g : Nat → Int64} {Y : va_W} (h : va_D A (LW c5 a k o g ++ Y)) : KI a := by
  unfold LW at h
  rw [List.append_assoc] at h
  exact KI_of (fr_D (X := []) h)
theorem TW_o (c5 : Nat → ClassId) (a : KAd) (k : KSt) (o : Nat) (g : Nat → Int64) (Y : va_W) : (LW c5 a k o g ++ Y)[(KW c5 a k).length]? = some (o, outE c5 g) := by
  rw [List.getElem?_append_left (by simp [LW])]
  exact LW_o c5 a k o g
/-- what the start says for the throws -/
def exL (A : Nat → Prop) (sx : Nat → Nat) (s : State) : Prop := vx_Zq Bundle.tN "UNASSIGNED_STACK" Bundle.steD A s s.heap ∧ vx_Zq Bundle.tN "SUPPRESSED_SENTINEL" Bundle.listD A s s.heap ∧ (∀ q ∈ strL, vk_R RX2 q.1 q.2 (sx q.1) s) ∧ (∀ E ∈ [exIA, exIS, exIO], va_Nw (.castable E E) s) ∧ (∀ C ∈ exSup, va_Nw (.declares ⟨C, "<init>", "(Ljava/lang/String;)V"⟩) s) ∧ exN s
theorem exL_at {A : Nat → Prop} {sx : Nat → Nat} {s U : State} {H : Heap} {locs : List Loc} (h : exL A sx s) (hS : va_S A s.heap H locs) (hU : U.heap = H) (hW : s.WarmedH U.vm) : exP sx U ∧ exN U := by
  obtain ⟨h1, h2, h3, h4, h5, h6⟩ := h
  refine ⟨⟨?_, ?_, fun q hq => vk_R.warm hW (h3 q hq), fun E hE => va_Nw.warmC hW (h4 E hE), fun C hC => va_Nw.warmD hW (h5 C hC)⟩, fun q hq => va_Nc.moved hW.alike (h6 q hq)⟩
  · rw [hU]; exact (vx_Zq.moved hW.alike (h1.kept hS.2.1)).narrow (fun _ h => h.elim)
  · rw [hU]; exact (vx_Zq.moved hW.alike (h2.kept hS.2.1)).narrow (fun _ h => h.elim)
section LWR
variable {p : Program} {l : Launch} {e : Env} {R : Room} {s : State} {m : MethodId} {args : Array Value} {below : List Frame} {meth : Method} {c : Code} {H : Heap} {locs : List Loc} {cells slots : Nat} {Q : State → Prop}
variable {cc yb : ByteArray} {pc nL maxL index : Nat} {ls : Array Slot} {rest st0 As : List Value} {D : va_G} {c5 : Nat → ClassId} {a : KAd} {k : KSt} {o : Nat} {g : Nat → Int64} {Y : va_W} {A : Nat → Prop} {sx : Nat → Nat} {y : MethodName} {rm : Room} {hh : List (Nat × Nat × Nat × Nat)} {cd : String → Int32} {res : Except String (Int32 × KSt)}
theorem wr_call (S : CallFix p m c cc nL s args LA RL) (hP : va_P D vwCl (LW c5 a k o g ++ Y) H) (hK : va_K D vwCl (tyG c5) s) (hD : va_D A (LW c5 a k o g ++ Y)) (hS : va_S A s.heap H locs) (hA : ∀ q : Nat, s.heap.size ≤ q → A q) (hX : exL A sx s)
    (hM : Met l y (wsw_ y yb maxL (some .int) hh) rm (va_Pc As (lwB D c5 a k o g sx H.size)) (va_Qi (lwQ cd a k res) (rwE D (tyG c5) (va_A (LW c5 a k o g) H.size) (fun u => LW c5 u.1 u.2.1 o u.2.2)) (va_A (LW c5 a k o g) H.size)) 1 6 (va_A (LW c5 a k o g) H.size)) (hG : GoodIn LA (va_wsS RL index y (wsw_ y yb maxL (some .int) hh)))
    (hd : y.cls ≠ "java/lang/invoke/MethodHandle" ∧ y.cls ≠ "java/lang/invoke/VarHandle" ∧ (parseMethodDescriptor y.desc).map (fun d => d.parameters.length) = some As.length) (hR : rm.frames + 1 ≤ R.frames ∧ 8 + (maxL + 11) + rm.locals ≤ R.locals) (h0 : rm.cells = 1 ∧ rm.slots = 6) (hsz : ls.size = nL) (hw : (rest.map fun v => v.category).sum ≤ 8) (hdg : decode cc pc = .ok (.invokestatic index, 3)) (hc : cells + 1 ≤ R.cells ∧ slots + 6 ≤ R.slots) (hst : st0 = As.reverse ++ rest)
    (kk : ∀ (x : Int32) (u : KAd × KSt × (Nat → Int64)) (H1 : Heap) (locs1 : List Loc), lwQ cd a k res x u → va_P D vwCl (LW c5 u.1 u.2.1 o u.2.2 ++ Y) H1 → va_D A (LW c5 u.1 u.2.1 o u.2.2 ++ Y) → va_S A s.heap H1 locs1 → W p l e R s m args below meth c H1 locs1 (cells + 1) (slots + 6) Q (F0 m (pc + 3) ls (.int x :: rest))) : W p l e R s m args below meth c H locs cells slots Q (F0 m pc ls st0) := by
  have hD1 : va_D A (LW c5 a k o g) := fr_D (X := []) (Y := Y) hD
  refine fr_calli (post := lwQ cd a k res) (wf := fun u : KAd × KSt × (Nat → Int64) => LW c5 u.1 u.2.1 o u.2.2) (wc := LW c5 a k o g) (X := []) (Y := Y) (vx_runSW S hM (vx_cwSW As.length S.2.2.2.2 hG rfl h0.1 h0.2 hd hR) ⟨lwB_blind, fun U hU hW => ⟨rfl, by rw [hU], by rw [hU]; exact fr_P (X := []) (Y := Y) hP, va_K.moved hW.alike hK, hD1.weaken (fun _ _ _ _ => trivial), exL_at hX hS hU hW⟩⟩ rfl rfl hsz hst (lv_room hw) hdg hc) hP hD hS hA (fun x u H1 locs1 hq hP1 hD1 hS1 => ?_)
  exact kk x u H1 locs1 hq hP1 hD1 hS1
theorem ro_calld {r : UInt64} {a : Array Value} (hr : CallRun p l e R s m args below meth c H locs cells slots 0 0 (F0 m pc ls st0) rest (vp_Sd (fun x => x = r) a) (fun _ => False))
    (kk : W p l e R s m args below meth c H locs cells slots Q (F0 m (pc + 3) ls (.double r :: rest))) : W p l e R s m args below meth c H locs cells slots Q (F0 m pc ls st0) :=
  vp_callSd hr (fun x hx => by subst hx; exact kk)
end LWR
theorem lw_i {L n j : Nat} (hL : L ≤ 1536) (hj : 3 * n + j < L) : inb (nI (3 * n + j)) L = true := by
  simp only [inb, Bool.and_eq_true, decide_eq_true_eq, nI_toInt (show 3 * n + j < 2147483648 by omega)]
  omega
theorem lw_cl {n j : Nat} (hj : 3 * n + j < 1536) : (nI (3 * n + j)).toNatClampNeg = 3 * n + j := nI_clamp (by omega)
theorem lw_ex {L n : Nat} (hL : L ≤ 1536) (hn : 3 * n ≤ 1536) : (Int32.ofNat L - 3 < nI (3 * n)) ↔ L < 3 * n + 3 := by
  by_cases h3 : 3 ≤ L
  · rw [show Int32.ofNat L - 3 = nI (L - 3) from pk_sub h3, nI_ltI (by omega) (by omega)]
    omega
  · have h0 : (0 : Int32) ≤ nI (3 * n) := nI_pos' (by omega)
    have h1 : Int32.ofNat L - 3 < 0 := by
      rcases (show L = 0 ∨ L = 1 ∨ L = 2 by omega) with rfl | rfl | rfl <;> decide
    refine ⟨fun _ => by omega, fun _ => ?_⟩
    rw [Int32.lt_iff_toInt_lt] at h1 ⊢
    rw [Int32.le_iff_toInt_le] at h0
    omega
theorem lw_tg {x : Int32} : 0 ≤ (x &&& 31).toInt ∧ (x &&& 31).toInt ≤ 31 := by
  rw [pk_and x 5 (by decide), nI_toInt (by have := Nat.mod_lt x.toBitVec.toNat (show 0 < 2 ^ 5 by decide); omega)]
  have := Nat.mod_lt x.toBitVec.toNat (show 0 < 2 ^ 5 by decide)
  omega
theorem wW_kind : Cond.codeWith yL_kind cL_kind 4 (some .int) [(0, 9, 12, 13), (0, 9, 15, 15)] ∈ LA := la_2 44 rfl rfl
theorem wW_setWay : Cond.codeWith yL_setWay cL_setWay 4 (some .int) [(0, 9, 12, 20)] ∈ LA := la_2 119 rfl rfl
theorem wW_put : Cond.codeWith yL_put cL_put 4 (some .int) [(0, 9, 12, 20), (0, 9, 15, 15)] ∈ LA := la_2 128 rfl rfl
theorem wW_take : Cond.codeWith yL_take cL_take 4 (some .int) [(0, 9, 12, 20), (0, 9, 15, 13)] ∈ LA := la_2 153 rfl rfl
theorem wW_reap : Cond.codeWith yL_reap cL_reap 4 (some .int) [(0, 9, 12, 13)] ∈ LA := la_2 174 rfl rfl
theorem wW_pack : Cond.codeWith yL_pack cL_pack 4 (some .int) [(0, 9, 12, 20)] ∈ LA := la_2 186 rfl rfl
theorem wW_shelf : Cond.codeWith yL_shelf cL_shelf 5 (some .int) [(0, 10, 13, 20)] ∈ LA := la_2 205 rfl rfl
theorem wW_about : Cond.codeWith yL_about cL_about 5 (some .int) [(0, 10, 13, 20)] ∈ LA := la_2 213 rfl rfl
theorem wW_place : Cond.codeWith yL_place cL_place 5 (some .int) [(0, 10, 13, 20)] ∈ LA := la_2 220 rfl rfl
theorem wW_count : Cond.codeWith yL_count cL_count 4 (some .int) [(0, 9, 12, 20)] ∈ LA := la_2 227 rfl rfl
theorem wW_next : Cond.codeWith yL_next cL_next 4 (some .int) [(0, 9, 12, 20)] ∈ LA := la_2 231 rfl rfl
theorem wW_fits : Cond.codeWith yL_fits cL_fits 4 (some .int) [(0, 9, 12, 20)] ∈ LA := la_2 238 rfl rfl
theorem wW_would : Cond.codeWith yL_would cL_would 5 (some .int) [(0, 10, 13, 20), (0, 10, 17, 13)] ∈ LA := la_3 9 rfl rfl
theorem wW_gains : Cond.codeWith yL_gains cL_gains 4 (some .int) [(0, 9, 12, 20)] ∈ LA := la_3 17 rfl rfl
theorem gG_RL_63 : GoodIn LA (va_wsS RL 63 yL_kind (wsw_ yL_kind cL_kind 4 (some .int) [(0, 9, 12, 13), (0, 9, 15, 15)])) := la_SW wT2_42 wT2_43 wT1_0 wW_kind
theorem hd_L_kind : yL_kind.cls ≠ "java/lang/invoke/MethodHandle" ∧ yL_kind.cls ≠ "java/lang/invoke/VarHandle" ∧ (parseMethodDescriptor yL_kind.desc).map (fun d => d.parameters.length) = some 3 := by decide +kernel
theorem gG_RL_68 : GoodIn LA (wsV RL 68 RX3 yX3_kind (ws_ yX3_kind cX3_kind 2 (some .int))) := la_V wT3_76 wT3_77 wT3_78 wT1_3 wT3_79
theorem hd_X3_kind : yX3_kind.cls = RX3 ∧ yX3_kind.cls ≠ "java/lang/invoke/MethodHandle" ∧ yX3_kind.cls ≠ "java/lang/invoke/VarHandle" ∧ (parseMethodDescriptor yX3_kind.desc).map (fun d => d.parameters.length) = some 1 := by decide +kernel
theorem gG_RL_69 : GoodIn LA (wsV RL 69 RX3 yX3_thrown (ws_ yX3_thrown cX3_thrown 1 (some .int))) := la_V wT3_72 wT3_73 wT3_74 wT1_3 wT3_75
theorem hd_X3_thrown : yX3_thrown.cls = RX3 ∧ yX3_thrown.cls ≠ "java/lang/invoke/MethodHandle" ∧ yX3_thrown.cls ≠ "java/lang/invoke/VarHandle" ∧ (parseMethodDescriptor yX3_thrown.desc).map (fun d => d.parameters.length) = some 0 := by decide +kernel
theorem gG_RL_73 : GoodIn LA (va_wsS RL 73 yL_setWay (wsw_ yL_setWay cL_setWay 4 (some .int) [(0, 9, 12, 20)])) := la_SW wT2_117 wT2_118 wT1_0 wW_setWay
theorem hd_L_setWay : yL_setWay.cls ≠ "java/lang/invoke/MethodHandle" ∧ yL_setWay.cls ≠ "java/lang/invoke/VarHandle" ∧ (parseMethodDescriptor yL_setWay.desc).map (fun d => d.parameters.length) = some 3 := by decide +kernel
theorem gG_RL_75 : GoodIn LA (wsV RL 75 RX3 yX3_setWay (ws_ yX3_setWay cX3_setWay 3 (some .int))) := la_V wT3_87 wT3_88 wT3_89 wT1_3 wT3_90
theorem hd_X3_setWay : yX3_setWay.cls = RX3 ∧ yX3_setWay.cls ≠ "java/lang/invoke/MethodHandle" ∧ yX3_setWay.cls ≠ "java/lang/invoke/VarHandle" ∧ (parseMethodDescriptor yX3_setWay.desc).map (fun d => d.parameters.length) = some 1 := by decide +kernel
theorem gG_RL_76 : GoodIn LA (va_wsS RL 76 yL_put (wsw_ yL_put cL_put 4 (some .int) [(0, 9, 12, 20), (0, 9, 15, 15)])) := la_SW wT2_126 wT2_127 wT1_0 wW_put
theorem hd_L_put : yL_put.cls ≠ "java/lang/invoke/MethodHandle" ∧ yL_put.cls ≠ "java/lang/invoke/VarHandle" ∧ (parseMethodDescriptor yL_put.desc).map (fun d => d.parameters.length) = some 3 := by decide +kernel
theorem gG_RL_78 : GoodIn LA (wsV RL 78 RX3 yX3_put (ws_ yX3_put cX3_put 3 (some .int))) := la_V wT3_91 wT3_92 wT3_93 wT1_3 wT3_94
theorem hd_X3_put : yX3_put.cls = RX3 ∧ yX3_put.cls ≠ "java/lang/invoke/MethodHandle" ∧ yX3_put.cls ≠ "java/lang/invoke/VarHandle" ∧ (parseMethodDescriptor yX3_put.desc).map (fun d => d.parameters.length) = some 1 := by decide +kernel
theorem gG_RL_79 : GoodIn LA (va_wsS RL 79 yL_take (wsw_ yL_take cL_take 4 (some .int) [(0, 9, 12, 20), (0, 9, 15, 13)])) := la_SW wT2_151 wT2_152 wT1_0 wW_take
theorem hd_L_take : yL_take.cls ≠ "java/lang/invoke/MethodHandle" ∧ yL_take.cls ≠ "java/lang/invoke/VarHandle" ∧ (parseMethodDescriptor yL_take.desc).map (fun d => d.parameters.length) = some 3 := by decide +kernel
theorem gG_RL_81 : GoodIn LA (wsV RL 81 RX3 yX3_take (ws_ yX3_take cX3_take 4 (some .int))) := la_V wT3_161 wT3_162 wT3_163 wT1_3 wT3_164
theorem hd_X3_take : yX3_take.cls = RX3 ∧ yX3_take.cls ≠ "java/lang/invoke/MethodHandle" ∧ yX3_take.cls ≠ "java/lang/invoke/VarHandle" ∧ (parseMethodDescriptor yX3_take.desc).map (fun d => d.parameters.length) = some 1 := by decide +kernel
theorem gG_RL_82 : GoodIn LA (va_wsS RL 82 yL_reap (wsw_ yL_reap cL_reap 4 (some .int) [(0, 9, 12, 13)])) := la_SW wT2_172 wT2_173 wT1_0 wW_reap
theorem hd_L_reap : yL_reap.cls ≠ "java/lang/invoke/MethodHandle" ∧ yL_reap.cls ≠ "java/lang/invoke/VarHandle" ∧ (parseMethodDescriptor yL_reap.desc).map (fun d => d.parameters.length) = some 3 := by decide +kernel
theorem gG_RL_84 : GoodIn LA (wsV RL 84 RX3 yX3_reap (ws_ yX3_reap cX3_reap 4 (some .int))) := la_V wT3_172 wT3_173 wT3_174 wT1_3 wT3_175
theorem hd_X3_reap : yX3_reap.cls = RX3 ∧ yX3_reap.cls ≠ "java/lang/invoke/MethodHandle" ∧ yX3_reap.cls ≠ "java/lang/invoke/VarHandle" ∧ (parseMethodDescriptor yX3_reap.desc).map (fun d => d.parameters.length) = some 1 := by decide +kernel
theorem gG_RL_85 : GoodIn LA (va_wsS RL 85 yL_pack (wsw_ yL_pack cL_pack 4 (some .int) [(0, 9, 12, 20)])) := la_SW wT2_184 wT2_185 wT1_0 wW_pack
theorem hd_L_pack : yL_pack.cls ≠ "java/lang/invoke/MethodHandle" ∧ yL_pack.cls ≠ "java/lang/invoke/VarHandle" ∧ (parseMethodDescriptor yL_pack.desc).map (fun d => d.parameters.length) = some 3 := by decide +kernel
theorem gG_RL_87 : GoodIn LA (wsV RL 87 RX3 yX3_pack (ws_ yX3_pack cX3_pack 3 (some .int))) := la_V wT3_176 wT3_177 wT3_178 wT1_3 wT3_179
theorem hd_X3_pack : yX3_pack.cls = RX3 ∧ yX3_pack.cls ≠ "java/lang/invoke/MethodHandle" ∧ yX3_pack.cls ≠ "java/lang/invoke/VarHandle" ∧ (parseMethodDescriptor yX3_pack.desc).map (fun d => d.parameters.length) = some 1 := by decide +kernel
theorem gG_RL_88 : GoodIn LA (va_wsS RL 88 yL_shelf (wsw_ yL_shelf cL_shelf 5 (some .int) [(0, 10, 13, 20)])) := la_SW wT2_203 wT2_204 wT1_0 wW_shelf
theorem hd_L_shelf : yL_shelf.cls ≠ "java/lang/invoke/MethodHandle" ∧ yL_shelf.cls ≠ "java/lang/invoke/VarHandle" ∧ (parseMethodDescriptor yL_shelf.desc).map (fun d => d.parameters.length) = some 4 := by decide +kernel
theorem gG_RL_91 : GoodIn LA (wsV RL 91 RX3 yX3_shelf (ws_ yX3_shelf cX3_shelf 3 (some .int))) := la_V wT3_204 wT3_205 wT3_206 wT1_3 wT3_207
theorem hd_X3_shelf : yX3_shelf.cls = RX3 ∧ yX3_shelf.cls ≠ "java/lang/invoke/MethodHandle" ∧ yX3_shelf.cls ≠ "java/lang/invoke/VarHandle" ∧ (parseMethodDescriptor yX3_shelf.desc).map (fun d => d.parameters.length) = some 2 := by decide +kernel
theorem gG_RL_92 : GoodIn LA (va_wsS RL 92 yL_about (wsw_ yL_about cL_about 5 (some .int) [(0, 10, 13, 20)])) := la_SW wT2_211 wT2_212 wT1_0 wW_about
theorem hd_L_about : yL_about.cls ≠ "java/lang/invoke/MethodHandle" ∧ yL_about.cls ≠ "java/lang/invoke/VarHandle" ∧ (parseMethodDescriptor yL_about.desc).map (fun d => d.parameters.length) = some 4 := by decide +kernel
theorem gG_RL_94 : GoodIn LA (wsV RL 94 RX3 yX3_about (ws_ yX3_about cX3_about 3 (some .int))) := la_V wT3_212 wT3_213 wT3_214 wT1_3 wT3_215
theorem hd_X3_about : yX3_about.cls = RX3 ∧ yX3_about.cls ≠ "java/lang/invoke/MethodHandle" ∧ yX3_about.cls ≠ "java/lang/invoke/VarHandle" ∧ (parseMethodDescriptor yX3_about.desc).map (fun d => d.parameters.length) = some 2 := by decide +kernel
theorem gG_RL_95 : GoodIn LA (va_wsS RL 95 yL_place (wsw_ yL_place cL_place 5 (some .int) [(0, 10, 13, 20)])) := la_SW wT2_218 wT2_219 wT1_0 wW_place
theorem hd_L_place : yL_place.cls ≠ "java/lang/invoke/MethodHandle" ∧ yL_place.cls ≠ "java/lang/invoke/VarHandle" ∧ (parseMethodDescriptor yL_place.desc).map (fun d => d.parameters.length) = some 4 := by decide +kernel
theorem gG_RL_97 : GoodIn LA (wsV RL 97 RX3 yX3_place (ws_ yX3_place cX3_place 3 (some .int))) := la_V wT3_228 wT3_229 wT3_230 wT1_3 wT3_231
theorem hd_X3_place : yX3_place.cls = RX3 ∧ yX3_place.cls ≠ "java/lang/invoke/MethodHandle" ∧ yX3_place.cls ≠ "java/lang/invoke/VarHandle" ∧ (parseMethodDescriptor yX3_place.desc).map (fun d => d.parameters.length) = some 2 := by decide +kernel
theorem gG_RL_98 : GoodIn LA (va_wsS RL 98 yL_count (wsw_ yL_count cL_count 4 (some .int) [(0, 9, 12, 20)])) := la_SW wT2_225 wT2_226 wT1_0 wW_count
theorem hd_L_count : yL_count.cls ≠ "java/lang/invoke/MethodHandle" ∧ yL_count.cls ≠ "java/lang/invoke/VarHandle" ∧ (parseMethodDescriptor yL_count.desc).map (fun d => d.parameters.length) = some 3 := by decide +kernel
theorem gG_RL_100 : GoodIn LA (wsV RL 100 RX3 yX3_count (ws_ yX3_count cX3_count 2 (some .int))) := la_V wT3_236 wT3_237 wT3_238 wT1_3 wT3_239
theorem hd_X3_count : yX3_count.cls = RX3 ∧ yX3_count.cls ≠ "java/lang/invoke/MethodHandle" ∧ yX3_count.cls ≠ "java/lang/invoke/VarHandle" ∧ (parseMethodDescriptor yX3_count.desc).map (fun d => d.parameters.length) = some 1 := by decide +kernel
theorem gG_RL_101 : GoodIn LA (va_wsS RL 101 yL_next (wsw_ yL_next cL_next 4 (some .int) [(0, 9, 12, 20)])) := la_SW wT2_229 wT2_230 wT1_0 wW_next
theorem hd_L_next : yL_next.cls ≠ "java/lang/invoke/MethodHandle" ∧ yL_next.cls ≠ "java/lang/invoke/VarHandle" ∧ (parseMethodDescriptor yL_next.desc).map (fun d => d.parameters.length) = some 3 := by decide +kernel
theorem gG_RL_103 : GoodIn LA (wsV RL 103 RX3 yX3_next (ws_ yX3_next cX3_next 2 (some .int))) := la_V wT4_8 wT4_9 wT4_10 wT1_3 wT4_11
theorem hd_X3_next : yX3_next.cls = RX3 ∧ yX3_next.cls ≠ "java/lang/invoke/MethodHandle" ∧ yX3_next.cls ≠ "java/lang/invoke/VarHandle" ∧ (parseMethodDescriptor yX3_next.desc).map (fun d => d.parameters.length) = some 1 := by decide +kernel
theorem gG_RL_104 : GoodIn LA (va_wsS RL 104 yL_fits (wsw_ yL_fits cL_fits 4 (some .int) [(0, 9, 12, 20)])) := la_SW wT2_236 wT2_237 wT1_0 wW_fits
theorem hd_L_fits : yL_fits.cls ≠ "java/lang/invoke/MethodHandle" ∧ yL_fits.cls ≠ "java/lang/invoke/VarHandle" ∧ (parseMethodDescriptor yL_fits.desc).map (fun d => d.parameters.length) = some 3 := by decide +kernel
theorem gG_RL_106 : GoodIn LA (wsV RL 106 RX3 yX3_fits (ws_ yX3_fits cX3_fits 2 (some .int))) := la_V wT4_16 wT4_17 wT4_18 wT1_3 wT4_19
theorem hd_X3_fits : yX3_fits.cls = RX3 ∧ yX3_fits.cls ≠ "java/lang/invoke/MethodHandle" ∧ yX3_fits.cls ≠ "java/lang/invoke/VarHandle" ∧ (parseMethodDescriptor yX3_fits.desc).map (fun d => d.parameters.length) = some 1 := by decide +kernel
theorem gG_RL_107 : GoodIn LA (va_wsS RL 107 yL_would (wsw_ yL_would cL_would 5 (some .int) [(0, 10, 13, 20), (0, 10, 17, 13)])) := la_SW wT3_7 wT3_8 wT1_0 wW_would
theorem hd_L_would : yL_would.cls ≠ "java/lang/invoke/MethodHandle" ∧ yL_would.cls ≠ "java/lang/invoke/VarHandle" ∧ (parseMethodDescriptor yL_would.desc).map (fun d => d.parameters.length) = some 4 := by decide +kernel
theorem gG_RL_109 : GoodIn LA (wsV RL 109 RX3 yX3_would (ws_ yX3_would cX3_would 3 (some .int))) := la_V wT4_24 wT4_25 wT4_26 wT1_3 wT4_27
theorem hd_X3_would : yX3_would.cls = RX3 ∧ yX3_would.cls ≠ "java/lang/invoke/MethodHandle" ∧ yX3_would.cls ≠ "java/lang/invoke/VarHandle" ∧ (parseMethodDescriptor yX3_would.desc).map (fun d => d.parameters.length) = some 2 := by decide +kernel
theorem gG_RL_110 : GoodIn LA (va_wsS RL 110 yL_gains (wsw_ yL_gains cL_gains 4 (some .int) [(0, 9, 12, 20)])) := la_SW wT3_15 wT3_16 wT1_0 wW_gains
theorem hd_L_gains : yL_gains.cls ≠ "java/lang/invoke/MethodHandle" ∧ yL_gains.cls ≠ "java/lang/invoke/VarHandle" ∧ (parseMethodDescriptor yL_gains.desc).map (fun d => d.parameters.length) = some 3 := by decide +kernel
theorem gG_RL_112 : GoodIn LA (wsV RL 112 RX3 yX3_gains (ws_ yX3_gains cX3_gains 2 (some .int))) := la_V wT4_35 wT4_36 wT4_37 wT1_3 wT4_38
theorem hd_X3_gains : yX3_gains.cls = RX3 ∧ yX3_gains.cls ≠ "java/lang/invoke/MethodHandle" ∧ yX3_gains.cls ≠ "java/lang/invoke/VarHandle" ∧ (parseMethodDescriptor yX3_gains.desc).map (fun d => d.parameters.length) = some 1 := by decide +kernel
theorem gG_RL_113 : GoodIn LA (wsV RL 113 RX2 yX2_advise (ws_ yX2_advise cX2_advise 7 (some .int))) := la_V wT1_85 wT1_86 wT1_87 wT1_1 wT1_88
theorem hd_X2_advise : yX2_advise.cls = RX2 ∧ yX2_advise.cls ≠ "java/lang/invoke/MethodHandle" ∧ yX2_advise.cls ≠ "java/lang/invoke/VarHandle" ∧ (parseMethodDescriptor yX2_advise.desc).map (fun d => d.parameters.length) = some 0 := by decide +kernel
theorem gG_RL_116 : GoodIn LA (wsV RL 116 RX3 yX3_advise (ws_ yX3_advise cX3_advise 3 (some .int))) := la_V wT4_46 wT4_47 wT4_48 wT1_3 wT4_49
theorem hd_X3_advise : yX3_advise.cls = RX3 ∧ yX3_advise.cls ≠ "java/lang/invoke/MethodHandle" ∧ yX3_advise.cls ≠ "java/lang/invoke/VarHandle" ∧ (parseMethodDescriptor yX3_advise.desc).map (fun d => d.parameters.length) = some 0 := by decide +kernel
theorem gG_RL_117 : GoodIn LA (wsV RL 117 RX2 yX2_mean (ws_ yX2_mean cX2_mean 2 (some .double))) := la_V wT1_105 wT1_106 wT1_107 wT1_1 wT1_108
theorem hd_X2_mean : yX2_mean.cls = RX2 ∧ yX2_mean.cls ≠ "java/lang/invoke/MethodHandle" ∧ yX2_mean.cls ≠ "java/lang/invoke/VarHandle" ∧ (parseMethodDescriptor yX2_mean.desc).map (fun d => d.parameters.length) = some 0 := by decide +kernel
theorem gG_RL_121 : GoodIn LA (wsV RL 121 RX3 yX3_mean (ws_ yX3_mean cX3_mean 2 (some .double))) := la_V wT4_50 wT4_51 wT4_52 wT1_3 wT4_53
theorem hd_X3_mean : yX3_mean.cls = RX3 ∧ yX3_mean.cls ≠ "java/lang/invoke/MethodHandle" ∧ yX3_mean.cls ≠ "java/lang/invoke/VarHandle" ∧ (parseMethodDescriptor yX3_mean.desc).map (fun d => d.parameters.length) = some 0 := by decide +kernel
theorem gG_RL_122 : GoodIn LA (wsV RL 122 RX2 yX2_digest (ws_ yX2_digest cX2_digest 7 (some .long))) := la_V wT1_121 wT1_122 wT1_123 wT1_1 wT1_124
theorem hd_X2_digest : yX2_digest.cls = RX2 ∧ yX2_digest.cls ≠ "java/lang/invoke/MethodHandle" ∧ yX2_digest.cls ≠ "java/lang/invoke/VarHandle" ∧ (parseMethodDescriptor yX2_digest.desc).map (fun d => d.parameters.length) = some 0 := by decide +kernel
theorem gG_RL_126 : GoodIn LA (wsV RL 126 RX3 yX3_digest (ws_ yX3_digest cX3_digest 5 (some .long))) := la_V wT4_54 wT4_55 wT4_56 wT1_3 wT4_57
theorem hd_X3_digest : yX3_digest.cls = RX3 ∧ yX3_digest.cls ≠ "java/lang/invoke/MethodHandle" ∧ yX3_digest.cls ≠ "java/lang/invoke/VarHandle" ∧ (parseMethodDescriptor yX3_digest.desc).map (fun d => d.parameters.length) = some 0 := by decide +kernel
