/-! rows over these worlds: references that may be null, calls, ends; how the raw functions are taken apart -/
theorem iX0 : ∀ w ∈ u_ws RX0 TX0 6, w ∈ LA := by decide +kernel
theorem iX1 : ∀ w ∈ u_ws RX1 TX1 8, w ∈ LA := by decide +kernel
theorem iX2 : ∀ w ∈ u_ws RX2 TX2 7, w ∈ LA := by decide +kernel
theorem iX3 : ∀ w ∈ u_ws RX3 TX3 7, w ∈ LA := by decide +kernel
def FU : Nat := 2000
def inb (i : Int32) (n : Nat) : Bool := decide (0 ≤ i.toInt) && decide (i.toInt < (n : Int))
theorem inb_in {i : Int32} {n : Nat} (h : inb i n = true) : vp_in i n := by
  simp only [inb, Bool.and_eq_true, decide_eq_true_eq] at h
  exact vp_in_iff.mpr h
theorem inb_lt {i : Int32} {n : Nat} (h : inb i n = true) : i.toNatClampNeg < n := Nat.not_le.mp fun q => inb_in h (Or.inr q)
/-- a reference's place, where there is one, is in range -/
def obn (r : Option Nat) (n : Nat) : Bool := match r with
  | none => true
  | some j => decide (j < n)
theorem obn_some {r : Option Nat} {n j : Nat} (h : obn r n = true) (e : r = some j) : j < n := by
  subst e
  simpa [obn] using h
def bz (x : Int32) : Bool := decide (x = 0) || decide (x = 1)
theorem bz_nar {x : Int32} (h : bz x = true) : narrow .boolean (.int x) = .int x := by
  simp only [bz, Bool.or_eq_true, decide_eq_true_eq] at h
  rcases h with rfl | rfl <;> rfl
theorem o_if {α : Type} {c : Prop} [Decidable c] {x : Option α} {r : α} (h : (if c then x else none) = some r) : c ∧ x = some r := by
  by_cases hc : c
  · rw [if_pos hc] at h; exact ⟨hc, h⟩
  · rw [if_neg hc] at h; cases h
theorem o_t {α : Type} {c : Prop} [Decidable c] {x y z : α} (h : (if c then x else y) = z) (hc : c) : x = z := by rw [if_pos hc] at h; exact h
theorem o_f {α : Type} {c : Prop} [Decidable c] {x y z : α} (h : (if c then x else y) = z) (hc : ¬ c) : y = z := by rw [if_neg hc] at h; exact h
theorem o_t' {α : Type} {c : Prop} [Decidable c] {x y z : α} (h : (if ¬ c then x else y) = z) (hc : ¬ c) : x = z := by rw [if_pos hc] at h; exact h
theorem o_f' {α : Type} {c : Prop} [Decidable c] {x y z : α} (h : (if ¬ c then x else y) = z) (hc : c) : y = z := by rw [if_neg (fun q => q hc)] at h; exact h
theorem o_bind {α β : Type} {x : Option β} {f : β → Option α} {r : α} (h : x.bind f = some r) : ∃ v, x = some v ∧ f v = some r := by
  cases x with
  | none => cases h
  | some v => exact ⟨v, rfl, h⟩
/-- a call that may throw -/
def xb {α β : Type} (x : Option (Except String β)) (f : β → Option (Except String α)) : Option (Except String α) := match x with
  | none => none
  | some (.error e) => some (.error e)
  | some (.ok v) => f v
/-- .. where it must not -/
def yb {α β : Type} (x : Option (Except String β)) (f : β → Option α) : Option α := match x with
  | some (.ok v) => f v
  | _ => none
theorem xb_some {α β : Type} {x : Option (Except String β)} {f : β → Option (Except String α)} {r : Except String α} (h : xb x f = some r) : (∃ v, x = some (.ok v) ∧ f v = some r) ∨ ∃ e, x = some (.error e) ∧ r = .error e := by
  unfold xb at h
  split at h
  · cases h
  · exact Or.inr ⟨_, rfl, (Option.some.inj h).symm⟩
  · exact Or.inl ⟨_, rfl, h⟩
theorem xb_ok {α β : Type} {x : Option (Except String β)} {f : β → Option (Except String α)} {r : α} (h : xb x f = some (.ok r)) : ∃ v, x = some (.ok v) ∧ f v = some (.ok r) := by
  rcases xb_some h with h | ⟨e, -, h⟩
  · exact h
  · cases h
theorem yb_some {α β : Type} {x : Option (Except String β)} {f : β → Option α} {r : α} (h : yb x f = some r) : ∃ v, x = some (.ok v) ∧ f v = some r := by
  unfold yb at h
  split at h
  · exact ⟨_, rfl, h⟩
  · cases h
section HR
variable {p : Program} {l : Launch} {e : Env} {R : Room} {s : State} {m : MethodId} {args : Array Value} {below : List Frame} {meth : Method} {c : Code} {H : Heap} {locs : List Loc} {cells slots : Nat} {Q : State → Prop}
variable {cc : ByteArray} {pc : Nat} {ls : Array Slot} {rest : List Value}
theorem qv_aload_n (hexec : p.tables.exec = Jvm.exec) (hb : c.code = cc) {k : Fin 4} {i : Nat} {r : Option Nat} (hdg : decode cc pc = .ok (.aload_n k, 1)) (hi : (k : Nat) = i) (hl : ls[i]? = some (.val (va_rf r)))
    (kk : W p l e R s m args below meth c H locs cells slots Q (F0 m (pc + 1) ls (va_rf r :: rest))) : W p l e R s m args below meth c H locs cells slots Q (F0 m pc ls rest) := by
  cases r with
  | none => exact lv_aload_nN hexec hb hdg hi hl kk
  | some x => exact lv_aload_n hexec hb hdg hi hl kk
theorem qv_aload (hexec : p.tables.exec = Jvm.exec) (hb : c.code = cc) {i : Nat} {r : Option Nat} (hdg : decode cc pc = .ok (.aload i, 2)) (hl : ls[i]? = some (.val (va_rf r)))
    (kk : W p l e R s m args below meth c H locs cells slots Q (F0 m (pc + 2) ls (va_rf r :: rest))) : W p l e R s m args below meth c H locs cells slots Q (F0 m pc ls rest) := by
  cases r with
  | none => exact lv_aloadN hexec hb hdg hl kk
  | some x => exact lv_aload hexec hb hdg hl kk
theorem qv_astore_n (hexec : p.tables.exec = Jvm.exec) (hb : c.code = cc) {k : Fin 4} {i nL : Nat} {r : Option Nat} {lv lv' : List (Nat × Value)} (hdg : decode cc pc = .ok (.astore_n k, 1)) (hi : (k : Nat) = i) (h : lv_has ls nL lv) (hn : i < nL) (hl : (i, va_rf r) :: lv.filter (fun q => !(q.1 == i) && !(q.1 + 1 == i && q.2.category == 2)) = lv')
    (kk : ∀ ls' : Array Slot, lv_has ls' nL lv' → W p l e R s m args below meth c H locs cells slots Q (F0 m (pc + 1) ls' rest)) : W p l e R s m args below meth c H locs cells slots Q (F0 m pc ls (va_rf r :: rest)) := by
  cases r with
  | none => exact lv_astore_nN hexec hb hdg hi h hn hl kk
  | some x => exact lv_astore_n hexec hb hdg hi h hn hl kk
theorem qv_astore (hexec : p.tables.exec = Jvm.exec) (hb : c.code = cc) {i nL : Nat} {r : Option Nat} {lv lv' : List (Nat × Value)} (hdg : decode cc pc = .ok (.astore i, 2)) (h : lv_has ls nL lv) (hn : i < nL) (hl : (i, va_rf r) :: lv.filter (fun q => !(q.1 == i) && !(q.1 + 1 == i && q.2.category == 2)) = lv')
    (kk : ∀ ls' : Array Slot, lv_has ls' nL lv' → W p l e R s m args below meth c H locs cells slots Q (F0 m (pc + 2) ls' rest)) : W p l e R s m args below meth c H locs cells slots Q (F0 m pc ls (va_rf r :: rest)) := by
  cases r with
  | none => exact lv_astoreN hexec hb hdg h hn hl kk
  | some x => exact lv_astore hexec hb hdg h hn hl kk
/-- a world that is only read -/
abbrev roB (D : va_G) (tys : List (ClassId × FieldType)) (ws : va_W) : State → Prop := fun U => va_P D vwCl ws U.heap ∧ va_K D vwCl tys U
theorem roB_blind {D : va_G} {tys : List (ClassId × FieldType)} {ws : va_W} {As : List Value} : FrameBlind (va_Pc As (roB D tys ws)) := fun a U g mk q => ⟨q.1, q.2.1, va_K.moved (u := U) (U := U.calling g mk a) (Vm.Alike.refl U.vm) q.2.2⟩
/-- a world that is written -/
abbrev rwB (D : va_G) (tys : List (ClassId × FieldType)) (ws : va_W) (sz : Nat) : State → Prop := fun U => U.heap.size = sz ∧ va_P D vwCl ws U.heap ∧ va_K D vwCl tys U ∧ va_D (fun _ => True) ws
theorem rwB_blind {D : va_G} {tys : List (ClassId × FieldType)} {ws : va_W} {sz : Nat} {As : List Value} : FrameBlind (va_Pc As (rwB D tys ws sz)) := fun a U g mk q => ⟨q.1, q.2.1, q.2.2.1, va_K.moved (u := U) (U := U.calling g mk a) (Vm.Alike.refl U.vm) q.2.2.2.1, q.2.2.2.2⟩
abbrev rwE {S : Type} (D : va_G) (tys : List (ClassId × FieldType)) (A : Nat → Prop) (wf : S → va_W) : S → State → Prop := fun u t => va_P D vwCl (wf u) t.heap ∧ va_K D vwCl tys t ∧ va_D A (wf u)
variable {nL maxL index mc ms : Nat} {own C : String} {b : Addr} {y : MethodName} {yb : ByteArray} {ret : Option FieldType} {rm : Room} {D : va_G} {tys : List (ClassId × FieldType)} {ws : va_W} {As st0 : List Value} {Qc : Array Value → State → Outcome → State → Prop} {A : Nat → Prop} {H0 : Heap}
abbrev rcvr (s : State) (H : Heap) (C : String) (b : Addr) : Prop := ∃ cellB : Cell, H[b]? = some cellB ∧ cellB.vm.isStatics = false ∧ s.vm.findClass C = some cellB.cls
theorem ro_runV (S : CallFix p m c cc nL s args LA own) (hP : va_P D vwCl ws H) (hK : va_K D vwCl tys s) (hM : Met l y (ws_ y yb maxL ret) rm (va_Pc (.ref b :: As) (roB D tys ws)) Qc 0 0 (fun _ => False)) (hG : GoodIn LA (wsV own index C y (ws_ y yb maxL ret))) (hrc : rcvr s H C b)
    (hd : y.cls = C ∧ y.cls ≠ "java/lang/invoke/MethodHandle" ∧ y.cls ≠ "java/lang/invoke/VarHandle" ∧ (parseMethodDescriptor y.desc).map (fun d => d.parameters.length) = some As.length) (hR : rm.frames + 1 ≤ R.frames ∧ 8 + (maxL + 11) + rm.locals ≤ R.locals) (h0 : rm.cells = 0 ∧ rm.slots = 0) (hsz : ls.size = nL) (hw : (rest.map fun v => v.category).sum ≤ 8) (hdg : decode cc pc = .ok (.invokevirtual index, 3)) (hc : cells ≤ R.cells ∧ slots ≤ R.slots) (hst : st0 = As.reverse ++ .ref b :: rest) :
    CallRun p l e R s m args below meth c H locs cells slots 0 0 (F0 m pc ls st0) rest (Qc (Value.ref b :: As).toArray) (fun _ => False) :=
  (va_runV S hM (cwV As.length S.2.2.2.2 hG rfl h0.1 h0.2 hd hR) ⟨roB_blind, hrc, fun U hU hW => ⟨rfl, by rw [hU]; exact hP, va_K.moved hW.alike hK⟩⟩ rfl rfl hsz hst (lv_room hw) hdg ⟨by omega, by omega⟩).run
theorem ro_runS (S : CallFix p m c cc nL s args LA own) (hP : va_P D vwCl ws H) (hK : va_K D vwCl tys s) (hM : Met l y (ws_ y yb maxL ret) rm (va_Pc As (roB D tys ws)) Qc 0 0 (fun _ => False)) (hG : GoodIn LA (va_wsS own index y (ws_ y yb maxL ret)))
    (hd : y.cls ≠ "java/lang/invoke/MethodHandle" ∧ y.cls ≠ "java/lang/invoke/VarHandle" ∧ (parseMethodDescriptor y.desc).map (fun d => d.parameters.length) = some As.length) (hR : rm.frames + 1 ≤ R.frames ∧ 8 + (maxL + 11) + rm.locals ≤ R.locals) (h0 : rm.cells = 0 ∧ rm.slots = 0) (hsz : ls.size = nL) (hw : (rest.map fun v => v.category).sum ≤ 8) (hdg : decode cc pc = .ok (.invokestatic index, 3)) (hc : cells ≤ R.cells ∧ slots ≤ R.slots) (hst : st0 = As.reverse ++ rest) :
    CallRun p l e R s m args below meth c H locs cells slots 0 0 (F0 m pc ls st0) rest (Qc As.toArray) (fun _ => False) :=
  (va_runS S hM (va_cwS As.length S.2.2.2.2 hG rfl h0.1 h0.2 hd hR) ⟨roB_blind, fun U hU hW => ⟨rfl, by rw [hU]; exact hP, va_K.moved hW.alike hK⟩⟩ rfl rfl hsz hst (lv_room hw) hdg ⟨by omega, by omega⟩).run
theorem rw_runV (S : CallFix p m c cc nL s args LA own) (hP : va_P D vwCl ws H) (hK : va_K D vwCl tys s) (hD : va_D A ws) (hM : Met l y (ws_ y yb maxL ret) rm (va_Pc (.ref b :: As) (rwB D tys ws H.size)) Qc mc ms (va_A ws H.size)) (hG : GoodIn LA (wsV own index C y (ws_ y yb maxL ret))) (hrc : rcvr s H C b)
    (hd : y.cls = C ∧ y.cls ≠ "java/lang/invoke/MethodHandle" ∧ y.cls ≠ "java/lang/invoke/VarHandle" ∧ (parseMethodDescriptor y.desc).map (fun d => d.parameters.length) = some As.length) (hR : rm.frames + 1 ≤ R.frames ∧ 8 + (maxL + 11) + rm.locals ≤ R.locals) (h0 : rm.cells = mc ∧ rm.slots = ms) (hsz : ls.size = nL) (hw : (rest.map fun v => v.category).sum ≤ 8) (hdg : decode cc pc = .ok (.invokevirtual index, 3)) (hc : cells + mc ≤ R.cells ∧ slots + ms ≤ R.slots) (hst : st0 = As.reverse ++ .ref b :: rest) :
    va_Run p l e R s m args below meth c H locs cells slots mc ms (F0 m pc ls st0) rest (Qc (Value.ref b :: As).toArray) (va_A ws H.size) :=
  va_runV S hM (cwV As.length S.2.2.2.2 hG rfl h0.1 h0.2 hd hR) ⟨rwB_blind, hrc, fun U hU hW => ⟨rfl, by rw [hU], by rw [hU]; exact hP, va_K.moved hW.alike hK, hD.weaken (fun _ _ _ _ => trivial)⟩⟩ rfl rfl hsz hst (lv_room hw) hdg hc
theorem rw_free (hD : va_D A ws) (hS : va_S A H0 H locs) (hA : ∀ q : Nat, H0.size ≤ q → A q) : ∀ q : Nat, va_A ws H.size q → A q := by
  intro q h
  rcases h with ⟨k, x, h⟩ | h
  · exact hD.2 k _ h
  · exact hA q (Nat.le_trans hS.1 h)
theorem rw_calli {S : Type} {wf : S → va_W} {u' : S} {r : Int32} {a : Array Value} (hr : va_Run p l e R s m args below meth c H locs cells slots mc ms (F0 m pc ls st0) rest (va_Qi (fun x u => x = r ∧ u = u') (rwE D tys (va_A ws H.size) wf) (va_A ws H.size) a) (va_A ws H.size)) (hD : va_D A ws) (hS : va_S A H0 H locs) (hA : ∀ q : Nat, H0.size ≤ q → A q)
    (kk : ∀ (H1 : Heap) (locs1 : List Loc), va_P D vwCl (wf u') H1 → va_D A (wf u') → va_S A H0 H1 locs1 → W p l e R s m args below meth c H1 locs1 (cells + mc) (slots + ms) Q (F0 m (pc + 3) ls (.int r :: rest))) : W p l e R s m args below meth c H locs cells slots Q (F0 m pc ls st0) := by
  have hf : ∀ q : Nat, va_A ws H.size q → A q := rw_free hD hS hA
  refine va_calli hr hS (fun q _ h => hf q h) hf (fun r u t H1 locs ht hvm hw hB hz hk hS => ?_)
  obtain ⟨rfl, rfl⟩ := hw
  obtain ⟨h1, -, h3⟩ := hB
  rw [ht] at h1
  exact kk H1 locs h1 (h3.weaken (fun _ _ _ h => hf _ h)) hS
theorem rw_callv {S : Type} {wf : S → va_W} {u' : S} {a : Array Value} (hr : va_Run p l e R s m args below meth c H locs cells slots mc ms (F0 m pc ls st0) rest (va_Qv (fun u => u = u') (rwE D tys (va_A ws H.size) wf) (va_A ws H.size) a) (va_A ws H.size)) (hD : va_D A ws) (hS : va_S A H0 H locs) (hA : ∀ q : Nat, H0.size ≤ q → A q)
    (kk : ∀ (H1 : Heap) (locs1 : List Loc), va_P D vwCl (wf u') H1 → va_D A (wf u') → va_S A H0 H1 locs1 → W p l e R s m args below meth c H1 locs1 (cells + mc) (slots + ms) Q (F0 m (pc + 3) ls rest)) : W p l e R s m args below meth c H locs cells slots Q (F0 m pc ls st0) := by
  have hf : ∀ q : Nat, va_A ws H.size q → A q := rw_free hD hS hA
  refine va_callv hr hS (fun q _ h => hf q h) hf (fun u t H1 locs ht hvm hw hB hz hk hS => ?_)
  subst hw
  obtain ⟨h1, -, h3⟩ := hB
  rw [ht] at h1
  exact kk H1 locs h1 (h3.weaken (fun _ _ _ h => hf _ h)) hS
theorem no_locs {free : Addr → Prop} : ∀ q ∈ ([] : List Loc), free q.base := fun _ h => absurd h List.not_mem_nil
theorem ro_iret (hx : p.tables.exec = Jvm.exec) (hb : c.code = cc) (hr : meth.sig.returnType = some .int) (hlocks : meth.locks = false) (hdg : decode cc pc = .ok (.ireturn, 1)) {v r : Int32} (hv : v = r) : W p l e R s m args below meth c s.heap [] 0 0 (MQ below (vp_Si (fun x => x = r)) args s 0 0 (fun _ => False)) (F0 m pc ls [.int v]) :=
  W.iret hx hb hr (fun _ ht _ => ⟨v, rfl, hv, ht⟩) no_locs hdg hlocks
theorem ro_zret (hx : p.tables.exec = Jvm.exec) (hb : c.code = cc) (hr : meth.sig.returnType = some .boolean) (hlocks : meth.locks = false) (hdg : decode cc pc = .ok (.ireturn, 1)) {v r : Int32} (hn : bz v = true) (hv : v = r) : W p l e R s m args below meth c s.heap [] 0 0 (MQ below (vp_Si (fun x => x = r)) args s 0 0 (fun _ => False)) (F0 m pc ls [.int v]) :=
  W.zret hx hb hr (bz_nar hn) (fun _ ht _ => ⟨v, rfl, hv, ht⟩) no_locs hdg hlocks
theorem ro_lret (hx : p.tables.exec = Jvm.exec) (hb : c.code = cc) (hr : meth.sig.returnType = some .long) (hlocks : meth.locks = false) (hdg : decode cc pc = .ok (.lreturn, 1)) {v r : Int64} (hv : v = r) : W p l e R s m args below meth c s.heap [] 0 0 (MQ below (vp_Sl (fun x => x = r)) args s 0 0 (fun _ => False)) (F0 m pc ls [.long v]) :=
  W.lret hx hb hr (fun _ ht _ => ⟨v, rfl, hv, ht⟩) no_locs hdg hlocks
theorem ro_dret (hx : p.tables.exec = Jvm.exec) (hb : c.code = cc) (hr : meth.sig.returnType = some .double) (hlocks : meth.locks = false) (hdg : decode cc pc = .ok (.dreturn, 1)) {v r : UInt64} (hv : v = r) : W p l e R s m args below meth c s.heap [] 0 0 (MQ below (vp_Sd (fun x => x = r)) args s 0 0 (fun _ => False)) (F0 m pc ls [.double v]) :=
  W.dret hx hb hr (fun _ ht _ => ⟨v, rfl, hv, ht⟩) no_locs hdg hlocks
theorem ro_aret {rc : String} {ad : Nat → Nat} (hx : p.tables.exec = Jvm.exec) (hb : c.code = cc) (hr : meth.sig.returnType = some (.object rc)) (hlocks : meth.locks = false) (hdg : decode cc pc = .ok (.areturn, 1)) {v r : Option Nat} (hv : v = r) : W p l e R s m args below meth c s.heap [] 0 0 (MQ below (va_Se ad (fun x => x = r)) args s 0 0 (fun _ => False)) (F0 m pc ls [va_rf (v.map ad)]) :=
  W.aret hx hb hr (Or.inl ⟨_, rfl⟩) (va_rf_or _) (fun _ ht _ => ⟨v, rfl, hv, ht⟩) no_locs hdg hlocks
theorem ro_vret (hx : p.tables.exec = Jvm.exec) (hb : c.code = cc) (hr : meth.sig.returnType = none) (hlocks : meth.locks = false) (hdg : decode cc pc = .ok (.return_, 1)) : W p l e R s m args below meth c s.heap [] 0 0 (MQ below (va_Sv (fun _ => True)) args s 0 0 (fun _ => False)) (F0 m pc ls []) :=
  W.vret hx hb hr (fun _ ht _ => ⟨rfl, trivial, ht⟩) no_locs hdg hlocks
theorem rw_iret {S : Type} {wf : S → va_W} {u' : S} {r v : Int32} (hx : p.tables.exec = Jvm.exec) (hb : c.code = cc) (hr : meth.sig.returnType = some .int) (hlocks : meth.locks = false) (hP : va_P D vwCl (wf u') H) (hK : va_K D vwCl tys s) (hD : va_D A (wf u')) (hS : va_S A s.heap H locs) (hdg : decode cc pc = .ok (.ireturn, 1)) (hv : v = r) :
    W p l e R s m args below meth c H locs cells slots (MQ below (va_Qi (fun x u => x = r ∧ u = u') (rwE D tys A wf) A) args s cells slots A) (F0 m pc ls [.int v]) :=
  W.iret hx hb hr (fun t ht hW => ⟨⟨v, u', rfl, ⟨hv, rfl⟩, by rw [ht]; exact hP, va_K.moved hW.alike hK, hD⟩, hS.F ht⟩) hS.2.2 hdg hlocks
theorem rw_zret {S : Type} {wf : S → va_W} {u' : S} {r v : Int32} (hx : p.tables.exec = Jvm.exec) (hb : c.code = cc) (hr : meth.sig.returnType = some .boolean) (hlocks : meth.locks = false) (hn : bz v = true) (hP : va_P D vwCl (wf u') H) (hK : va_K D vwCl tys s) (hD : va_D A (wf u')) (hS : va_S A s.heap H locs) (hdg : decode cc pc = .ok (.ireturn, 1)) (hv : v = r) :
    W p l e R s m args below meth c H locs cells slots (MQ below (va_Qi (fun x u => x = r ∧ u = u') (rwE D tys A wf) A) args s cells slots A) (F0 m pc ls [.int v]) :=
  W.zret hx hb hr (bz_nar hn) (fun t ht hW => ⟨⟨v, u', rfl, ⟨hv, rfl⟩, by rw [ht]; exact hP, va_K.moved hW.alike hK, hD⟩, hS.F ht⟩) hS.2.2 hdg hlocks
theorem rw_vret {S : Type} {wf : S → va_W} {u' : S} (hx : p.tables.exec = Jvm.exec) (hb : c.code = cc) (hr : meth.sig.returnType = none) (hlocks : meth.locks = false) (hP : va_P D vwCl (wf u') H) (hK : va_K D vwCl tys s) (hD : va_D A (wf u')) (hS : va_S A s.heap H locs) (hdg : decode cc pc = .ok (.return_, 1)) :
    W p l e R s m args below meth c H locs cells slots (MQ below (va_Qv (fun u => u = u') (rwE D tys A wf) A) args s cells slots A) (F0 m pc ls []) :=
  W.vret hx hb hr (fun t ht hW => ⟨⟨u', rfl, rfl, by rw [ht]; exact hP, va_K.moved hW.alike hK, hD⟩, hS.F ht⟩) hS.2.2 hdg hlocks
end HR
theorem oe_sif {α : Type} {n j : Nat} {x : Option α} {f : Nat → Option α} {r : α} (h : Option.elim (some j) x (fun j => if j < n then f j else none) = some r) : j < n ∧ f j = some r := o_if h
theorem oe_n {α : Type} {x : Option α} {f : Nat → Option α} {r : α} (h : Option.elim (none : Option Nat) x f = some r) : x = some r := h
theorem tb_out {x : Int32} {lo hi : Int} (h : ¬ (lo ≤ x.toInt ∧ x.toInt ≤ hi)) : x.toInt < lo ∨ hi < x.toInt := by omega
def n64b (x : UInt64) : Bool := decide (x &&& 0x7fffffffffffffff ≤ 0x7ff0000000000000)
theorem n64b_ok {x : UInt64} (h : n64b x = true) : vf_n64 x := by simpa [n64b, vf_n64] using h
section HR2
variable {p : Program} {l : Launch} {e : Env} {R : Room} {s : State} {m : MethodId} {args : Array Value} {below : List Frame} {meth : Method} {c : Code} {H : Heap} {locs : List Loc} {cells slots : Nat} {Q : State → Prop}
variable {cc : ByteArray} {pc : Nat} {ls : Array Slot} {rest st0 : List Value} {D : va_G} {tys : List (ClassId × FieldType)} {ws : va_W} {A : Nat → Prop} {H0 : Heap} {mc ms : Nat}
/-- a call that answers a reference that isn't null -/
theorem ro_calle1 {ad : Nat → Nat} {r : Nat} {a : Array Value} (hr : CallRun p l e R s m args below meth c H locs cells slots 0 0 (F0 m pc ls st0) rest (va_Se ad (fun x => x = some r) a) (fun _ => False))
    (kk : W p l e R s m args below meth c H locs cells slots Q (F0 m (pc + 3) ls (.ref (ad r) :: rest))) : W p l e R s m args below meth c H locs cells slots Q (F0 m pc ls st0) :=
  va_cse hr (fun x hx => by subst hx; exact kk)
theorem ro_calle {ad : Nat → Nat} {r : Option Nat} {a : Array Value} (hr : CallRun p l e R s m args below meth c H locs cells slots 0 0 (F0 m pc ls st0) rest (va_Se ad (fun x => x = r) a) (fun _ => False))
    (kk : W p l e R s m args below meth c H locs cells slots Q (F0 m (pc + 3) ls (va_rf (r.map ad) :: rest))) : W p l e R s m args below meth c H locs cells slots Q (F0 m pc ls st0) :=
  va_cse hr (fun x hx => by subst hx; exact kk)
theorem ro_calli {r : Int32} {a : Array Value} (hr : CallRun p l e R s m args below meth c H locs cells slots 0 0 (F0 m pc ls st0) rest (vp_Si (fun x => x = r) a) (fun _ => False))
    (kk : W p l e R s m args below meth c H locs cells slots Q (F0 m (pc + 3) ls (.int r :: rest))) : W p l e R s m args below meth c H locs cells slots Q (F0 m pc ls st0) :=
  vp_callSi hr (fun x hx => by subst hx; exact kk)
theorem ro_calll {r : Int64} {a : Array Value} (hr : CallRun p l e R s m args below meth c H locs cells slots 0 0 (F0 m pc ls st0) rest (vp_Sl (fun x => x = r) a) (fun _ => False))
    (kk : W p l e R s m args below meth c H locs cells slots Q (F0 m (pc + 3) ls (.long r :: rest))) : W p l e R s m args below meth c H locs cells slots Q (F0 m pc ls st0) :=
  vp_callSl hr (fun x hx => by subst hx; exact kk)
theorem ro_callv {a : Array Value} (hr : CallRun p l e R s m args below meth c H locs cells slots 0 0 (F0 m pc ls st0) rest (va_Sv (fun _ => True) a) (fun _ => False))
    (kk : W p l e R s m args below meth c H locs cells slots Q (F0 m (pc + 3) ls rest)) : W p l e R s m args below meth c H locs cells slots Q (F0 m pc ls st0) :=
  va_csv hr (fun _ => kk)
theorem ro_aret1 {rc : String} {ad : Nat → Nat} (hx : p.tables.exec = Jvm.exec) (hb : c.code = cc) (hr : meth.sig.returnType = some (.object rc)) (hlocks : meth.locks = false) (hdg : decode cc pc = .ok (.areturn, 1)) {v r : Nat} (hv : v = r) : W p l e R s m args below meth c s.heap [] 0 0 (MQ below (va_Se ad (fun x => x = some r)) args s 0 0 (fun _ => False)) (F0 m pc ls [.ref (ad v)]) :=
  ro_aret (v := some v) hx hb hr hlocks hdg (congrArg some hv)
theorem rw_lret {S : Type} {wf : S → va_W} {u' : S} {r v : Int64} (hx : p.tables.exec = Jvm.exec) (hb : c.code = cc) (hr : meth.sig.returnType = some .long) (hlocks : meth.locks = false) (hP : va_P D vwCl (wf u') H) (hK : va_K D vwCl tys s) (hD : va_D A (wf u')) (hS : va_S A s.heap H locs) (hdg : decode cc pc = .ok (.lreturn, 1)) (hv : v = r) :
    W p l e R s m args below meth c H locs cells slots (MQ below (va_Ql (fun x u => x = r ∧ u = u') (rwE D tys A wf) A) args s cells slots A) (F0 m pc ls [.long v]) :=
  W.lret hx hb hr (fun t ht hW => ⟨⟨v, u', rfl, ⟨hv, rfl⟩, by rw [ht]; exact hP, va_K.moved hW.alike hK, hD⟩, hS.F ht⟩) hS.2.2 hdg hlocks
theorem rw_dret {S : Type} {wf : S → va_W} {u' : S} {r v : UInt64} (hx : p.tables.exec = Jvm.exec) (hb : c.code = cc) (hr : meth.sig.returnType = some .double) (hlocks : meth.locks = false) (hP : va_P D vwCl (wf u') H) (hK : va_K D vwCl tys s) (hD : va_D A (wf u')) (hS : va_S A s.heap H locs) (hdg : decode cc pc = .ok (.dreturn, 1)) (hv : v = r) :
    W p l e R s m args below meth c H locs cells slots (MQ below (va_Qd (fun x u => x = r ∧ u = u') (rwE D tys A wf) A) args s cells slots A) (F0 m pc ls [.double v]) :=
  W.dret hx hb hr (fun t ht hW => ⟨⟨v, u', rfl, ⟨hv, rfl⟩, by rw [ht]; exact hP, va_K.moved hW.alike hK, hD⟩, hS.F ht⟩) hS.2.2 hdg hlocks
end HR2
def KI (a : KAd) : Prop := ∀ i j : Nat, i < 12 → j < 12 → aS a i = aS a j → i = j
theorem wP {D : va_G} {ws ws' : va_W} {H : Heap} (e : ws = ws') (h : va_P D vwCl ws H) : va_P D vwCl ws' H := e ▸ h
theorem wD {A : Nat → Prop} {ws ws' : va_W} (e : ws = ws') (h : va_D A ws) : va_D A ws' := e ▸ h
section HR3
variable {p : Program} {l : Launch} {e : Env} {R : Room} {s : State} {m : MethodId} {args : Array Value} {below : List Frame} {meth : Method} {c : Code} {H : Heap} {locs : List Loc} {cells slots : Nat} {Q : State → Prop}
variable {cc : ByteArray} {pc : Nat} {ls : Array Slot} {rest st0 : List Value} {D : va_G} {c5 : Nat → ClassId} {a : KAd} {k : KSt} {A : Nat → Prop} {H0 : Heap}
theorem va_aldS (hx : p.tables.exec = Jvm.exec) (hb : c.code = cc) (hK : va_K D vwCl (tyG c5) s) (hP : va_P D vwCl (KW c5 a k) H) {i : Int32} (hin : inb i 12 = true) (hdg : decode cc pc = .ok (.aaload, 1))
    (kk : W p l e R s m args below meth c H locs cells slots Q (F0 m (pc + 1) ls (.ref (aS a (i.toNatClampNeg)) :: rest))) : W p l e R s m args below meth c H locs cells slots Q (F0 m pc ls (.int i :: .ref (aO a 1) :: rest)) :=
  va_aldq (C := RX1) hx hb hK hP 1 0 (KW_1 c5 a k) rfl (inb_in hin) hdg kk
theorem va_aldK (hx : p.tables.exec = Jvm.exec) (hb : c.code = cc) (hK : va_K D vwCl (tyG c5) s) (hP : va_P D vwCl (KW c5 a k) H) {i : Int32} (hin : inb i 5 = true) (hdg : decode cc pc = .ok (.aaload, 1))
    (kk : W p l e R s m args below meth c H locs cells slots Q (F0 m (pc + 1) ls (va_rf ((knd k (i.toNatClampNeg)).map (aK a)) :: rest))) : W p l e R s m args below meth c H locs cells slots Q (F0 m pc ls (.int i :: .ref (aO a 2) :: rest)) :=
  va_aldq (C := RX0) hx hb hK hP 2 1 (KW_2 c5 a k) rfl (inb_in hin) hdg kk
theorem va_aldK1 (hx : p.tables.exec = Jvm.exec) (hb : c.code = cc) (hK : va_K D vwCl (tyG c5) s) (hP : va_P D vwCl (KW c5 a k) H) {i : Int32} (hin : inb i 5 = true) {j : Nat} (hq : knd k (i.toNatClampNeg) = some j) (hdg : decode cc pc = .ok (.aaload, 1))
    (kk : W p l e R s m args below meth c H locs cells slots Q (F0 m (pc + 1) ls (.ref (aK a j) :: rest))) : W p l e R s m args below meth c H locs cells slots Q (F0 m pc ls (.int i :: .ref (aO a 2) :: rest)) := by
  refine va_aldK hx hb hK hP hin hdg ?_
  rw [hq]
  exact kk
end HR3
theorem va_rf_cat (r : Option Nat) : (va_rf r).category = 1 := by cases r <;> rfl
def mx (x y : Int32) : Int32 := if x < y then y else x
