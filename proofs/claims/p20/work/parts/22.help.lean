/-! worlds with arrays beside them; the Sim's calls; throws caught in the midst of a method -/
section EW
variable {D : va_G} {H : Heap} {A : Nat → Prop} {V W X A1 B1 : va_W} {c : Nat × va_E}
theorem i1_P (h : va_P D vwCl W H) : va_P D vwCl (W ++ ([] : va_W)) H := by rw [List.append_nil]; exact h
theorem i1_D (h : va_D A W) : va_D A (W ++ ([] : va_W)) := by rw [List.append_nil]; exact h
theorem i2_P (h : va_P D vwCl (V ++ W) H) : va_P D vwCl (V ++ (W ++ ([] : va_W))) H := by rw [List.append_nil]; exact h
theorem i2_D (h : va_D A (V ++ W)) : va_D A (V ++ (W ++ ([] : va_W))) := by rw [List.append_nil]; exact h
theorem e1_P (h : va_P D vwCl W H) : va_P D vwCl (W ++ ([] : va_W)) H := i1_P h
theorem e1_D (h : va_D A W) : va_D A (W ++ ([] : va_W)) := i1_D h
theorem e0_P (h : va_P D vwCl (W ++ ([] : va_W)) H) : va_P D vwCl W H := by rw [List.append_nil] at h; exact h
theorem e0_D (h : va_D A (W ++ ([] : va_W))) : va_D A W := by rw [List.append_nil] at h; exact h
theorem eX_P (h : va_P D vwCl (W ++ X) H) : va_P D vwCl W H := wd_P h (fun q hq => List.mem_append_left _ hq)
theorem eX_D (h : va_D A (W ++ X)) : va_D A W := wd_D h (List.sublist_append_left _ _)
theorem eW_P (h : va_P D vwCl (V ++ (W ++ X)) H) : va_P D vwCl (V ++ W) H := by rw [← List.append_assoc] at h; exact eX_P h
theorem eW_D (h : va_D A (V ++ (W ++ X))) : va_D A (V ++ W) := by rw [← List.append_assoc] at h; exact eX_D h
theorem as1_P (h : va_P D vwCl ((W ++ X) ++ [c]) H) : va_P D vwCl (W ++ (X ++ [c])) H := by rw [List.append_assoc] at h; exact h
theorem as1_D (h : va_D A ((W ++ X) ++ [c])) : va_D A (W ++ (X ++ [c])) := by rw [List.append_assoc] at h; exact h
theorem as2_P (h : va_P D vwCl ((V ++ (W ++ X)) ++ [c]) H) : va_P D vwCl (V ++ (W ++ (X ++ [c]))) H := by rw [List.append_assoc, List.append_assoc] at h; exact h
theorem as2_D (h : va_D A ((V ++ (W ++ X)) ++ [c])) : va_D A (V ++ (W ++ (X ++ [c]))) := by rw [List.append_assoc, List.append_assoc] at h; exact h
theorem dr1_P (h : va_P D vwCl (W ++ (A1 ++ B1)) H) : va_P D vwCl (W ++ A1) H := by rw [← List.append_assoc] at h; exact eX_P h
theorem dr1_D (h : va_D A (W ++ (A1 ++ B1))) : va_D A (W ++ A1) := by rw [← List.append_assoc] at h; exact eX_D h
theorem dr2_P (h : va_P D vwCl (V ++ (W ++ (A1 ++ B1))) H) : va_P D vwCl (V ++ (W ++ A1)) H := by rw [← List.append_assoc, ← List.append_assoc] at h; rw [← List.append_assoc]; exact eX_P h
theorem dr2_D (h : va_D A (V ++ (W ++ (A1 ++ B1)))) : va_D A (V ++ (W ++ A1)) := by rw [← List.append_assoc, ← List.append_assoc] at h; rw [← List.append_assoc]; exact eX_D h
theorem wN (h : va_P D vwCl W H) : va_P D vwCl ([] ++ (W ++ [])) H := i1_P h
theorem dN (h : va_D A W) : va_D A ([] ++ (W ++ [])) := i1_D h
theorem wM (h : va_P D vwCl ([] ++ (W ++ [])) H) : va_P D vwCl W H := e0_P h
theorem dM (h : va_D A ([] ++ (W ++ []))) : va_D A W := e0_D h
end EW
/-- a Sim's world that is written, or that grows -/
abbrev swB (D : va_G) (c5 : Nat → ClassId) (ws : va_W) (sz : Nat) : State → Prop := fun U => U.heap.size = sz ∧ va_P D vwCl ws U.heap ∧ va_K D vwCl (tyG c5) U ∧ va_D (fun _ => True) ws ∧ va_AOA .int U ∧ va_AOA .boolean U
theorem swB_blind {D : va_G} {c5 : Nat → ClassId} {ws : va_W} {sz : Nat} {As : List Value} : FrameBlind (va_Pc As (swB D c5 ws sz)) := fun a U g mk q => ⟨q.1, q.2.1, q.2.2.1, va_K.moved (u := U) (U := U.calling g mk a) (Vm.Alike.refl U.vm) q.2.2.2.1, q.2.2.2.2.1, va_AOA.moved (u := U) (U := U.calling g mk a) (Vm.Alike.refl U.vm) q.2.2.2.2.2.1, va_AOA.moved (u := U) (U := U.calling g mk a) (Vm.Alike.refl U.vm) q.2.2.2.2.2.2⟩
/-- what the start says for the throws -/
def exL (A : Nat → Prop) (sx : Nat → Nat) (s : State) : Prop := vx_Zq Bundle.tN "UNASSIGNED_STACK" Bundle.steD A s s.heap ∧ vx_Zq Bundle.tN "SUPPRESSED_SENTINEL" Bundle.listD A s s.heap ∧ (∀ q ∈ strL, vk_R RX2 q.1 q.2 (sx q.1) s) ∧ (∀ E ∈ [exIA, exIS, exIO], va_Nw (.castable E E) s) ∧ ∀ C ∈ exSup, va_Nw (.declares ⟨C, "<init>", "(Ljava/lang/String;)V"⟩) s
theorem exL_at {A : Nat → Prop} {sx : Nat → Nat} {s U : State} {H : Heap} {locs : List Loc} (h : exL A sx s) (hS : va_S A s.heap H locs) (hU : U.heap = H) (hW : s.WarmedH U.vm) : exP sx U := by
  obtain ⟨h1, h2, h3, h4, h5⟩ := h
  refine ⟨?_, ?_, fun q hq => vk_R.warm hW (h3 q hq), fun E hE => va_Nw.warmC hW (h4 E hE), fun C hC => va_Nw.warmD hW (h5 C hC)⟩
  · rw [hU]; exact (vx_Zq.moved hW.alike (h1.kept hS.2.1)).narrow (fun _ h => h.elim)
  · rw [hU]; exact (vx_Zq.moved hW.alike (h2.kept hS.2.1)).narrow (fun _ h => h.elim)
/-- the same for a callee that may write less -/
theorem exL_in {A A' : Nat → Prop} {sx : Nat → Nat} {s U : State} {H : Heap} {locs : List Loc} (h : exL A sx s) (hS : va_S A s.heap H locs) (hA : ∀ q, A' q → A q) (hU : U.heap = H) (hW : s.WarmedH U.vm) : exL A' sx U := by
  obtain ⟨h1, h2, h3, h4, h5⟩ := h
  refine ⟨?_, ?_, fun q hq => vk_R.warm hW (h3 q hq), fun E hE => va_Nw.warmC hW (h4 E hE), fun C hC => va_Nw.warmD hW (h5 C hC)⟩
  · rw [hU]; exact (vx_Zq.moved hW.alike (h1.kept hS.2.1)).narrow hA
  · rw [hU]; exact (vx_Zq.moved hW.alike (h2.kept hS.2.1)).narrow hA
theorem exL_calling {A : Nat → Prop} {sx : Nat → Nat} {U : State} {g : JFrame} {mk : MethodId} {a : Array Value} (h : exL A sx U) : exL A sx (U.calling g mk a) :=
  ⟨vx_Zq.moved (u := U) (U := U.calling g mk a) (Vm.Alike.refl U.vm) h.1, vx_Zq.moved (u := U) (U := U.calling g mk a) (Vm.Alike.refl U.vm) h.2.1, fun q hq => vk_R.same (u := U) (U := U.calling g mk a) rfl (h.2.2.1 q hq), fun E hE => va_Nw.same (u := U) (U := U.calling g mk a) rfl rfl (h.2.2.2.1 E hE), fun C hC => va_Nw.same (u := U) (U := U.calling g mk a) rfl rfl (h.2.2.2.2 C hC)⟩
abbrev lwB (D : va_G) (c5 : Nat → ClassId) (ws : va_W) (sx : Nat → Nat) (sz : Nat) : State → Prop := fun U => swB D c5 ws sz U ∧ exL (va_A ws sz) sx U
theorem lwB_blind {D : va_G} {c5 : Nat → ClassId} {ws : va_W} {sx : Nat → Nat} {sz : Nat} {As : List Value} : FrameBlind (va_Pc As (lwB D c5 ws sx sz)) := fun a U g mk q => ⟨q.1, (swB_blind (As := As) a U g mk ⟨q.1, q.2.1⟩).2, exL_calling q.2.2⟩
/-- a call that must not throw otherwise than E -/
def tb {α β : Type} (x : Option (Except String β)) (E : String) (f : β → Option α) (g : Option α) : Option α := match x with
  | some (.ok v) => f v
  | some (.error e) => if e = E then g else none
  | none => none
theorem tb_some {α β : Type} {x : Option (Except String β)} {E : String} {f : β → Option α} {g : Option α} {r : α} (h : tb x E f g = some r) : (∃ v, x = some (.ok v) ∧ f v = some r) ∨ (x = some (.error E) ∧ g = some r) := by
  cases x with
  | none => cases h
  | some y =>
    cases y with
    | ok v => exact Or.inl ⟨v, rfl, h⟩
    | error e =>
      have h2 : (if e = E then g else none) = some r := h
      by_cases he : e = E
      · rw [if_pos he] at h2
        exact Or.inr ⟨congrArg (fun z => some (Except.error z)) he, h2⟩
      · rw [if_neg he] at h2
        cases h2
theorem Met.ofWH {l : Launch} {y : MethodName} {ws ws' : List Cond} {rm : Room} {Pc : Array Value → State → Prop} {Qc : Array Value → State → Outcome → State → Prop} {mc ms : Nat} {free : Addr → Prop} {cc : ByteArray} {maxL : Nat} {ret : Option FieldType} {hh : List (Nat × Nat × Nat × Nat)}
    (hy : plainName y.cls = true) (hw : ws = Cond.codeWith y cc maxL ret hh :: ws')
    (body : ∀ p e s m args below meth c s₁, BodyLoose p l y (headSpec ws rm) cc maxL ret e s m args below meth c s₁ → c.maxLocals = maxL → Pc args s →
      W p l e (headSpec ws rm).room s m args below meth c s.heap [] 0 0 (MQ below Qc args s mc ms free) (entryFrame m args maxL)) : Met l y ws rm Pc Qc mc ms free := by
  refine MetFree.of_bodyS (code := cc) (maxLocals := maxL) (ret := ret) hy ?_ ?_
  · intro args s m h hn
    obtain ⟨m9, meth, c, hn9, h1, h2, h3, h4, -, h5, h6, -⟩ := Cond.codeWith_spec (atoms_spec (ws := ws) h _ (by rw [hw]; exact List.mem_cons_self))
    cases hn.symm.trans hn9
    exact ⟨meth, c, h1, h2, h3, h4, h5, h6⟩
  · intro p e s m args below meth c s₁ B hml hP _
    have hh0 : s₁.heap = s.heap := by rw [B.state]; rfl
    obtain ⟨t, a1, o, b1, b2, b3⟩ := body p e s m args below meth c s₁ B hml hP s₁ hh0 (Stand.of_body B)
    exact ⟨t, o, a1, b1, b2, ⟨b3.1, b3.2⟩⟩
theorem la_subW {y : MethodName} {c : ByteArray} {n : Nat} {ret : Option FieldType} {hh : List (Nat × Nat × Nat × Nat)} (h : Cond.codeWith y c n ret hh ∈ LA) : GoodIn LA (wsw_ y c n ret hh) := fun w hw => (List.mem_cons.mp hw).elim (fun e => by subst e; exact ⟨h, la_good h⟩) (fun hw => ⟨hw, la_good hw⟩)
theorem la_SW {own : String} {idx : Nat} {y : MethodName} {c : ByteArray} {n : Nat} {ret : Option FieldType} {hh : List (Nat × Nat × Nat × Nat)} (h1 : Cond.methodLink own idx y ∈ LA) (h2 : Cond.static y ∈ LA) (h4 : Cond.initialized y.cls ∈ LA) (h5 : Cond.codeWith y c n ret hh ∈ LA) : GoodIn LA (va_wsS own idx y (wsw_ y c n ret hh)) := by
  intro w hw
  have hm : w ∈ LA := by
    simp only [va_wsS, List.cons_append, List.nil_append, List.mem_cons] at hw
    rcases hw with e | e | e | e | hw
    · exact e ▸ h1
    · exact e ▸ h2
    · exact e ▸ h4
    · exact e ▸ h5
    · exact hw
  exact ⟨hm, la_good hm⟩
section SWR
variable {p : Program} {l : Launch} {e : Env} {R : Room} {s : State} {m : MethodId} {args : Array Value} {below : List Frame} {meth : Method} {c : Code} {H : Heap} {locs : List Loc} {cells slots : Nat} {Q : State → Prop}
variable {cc : ByteArray} {pc : Nat} {ls : Array Slot} {rest st0 As : List Value} {D : va_G} {c5 : Nat → ClassId} {ws : va_W} {A : Nat → Prop} {H0 : Heap} {mc ms : Nat} {sx : Nat → Nat}
variable {nL maxL index : Nat} {own C : String} {b : Addr} {y : MethodName} {yb : ByteArray} {ret : Option FieldType} {rm : Room} {Qc : Array Value → State → Outcome → State → Prop}
theorem sw_runV (S : CallFix p m c cc nL s args LA own) (hP : va_P D vwCl ws H) (hK : va_K D vwCl (tyG c5) s) (hD : va_D A ws) (hOI : va_AOA .int s) (hOZ : va_AOA .boolean s) (hM : Met l y (ws_ y yb maxL ret) rm (va_Pc (.ref b :: As) (swB D c5 ws H.size)) Qc mc ms (va_A ws H.size)) (hG : GoodIn LA (wsV own index C y (ws_ y yb maxL ret))) (hrc : rcvr s H C b)
    (hd : y.cls = C ∧ y.cls ≠ "java/lang/invoke/MethodHandle" ∧ y.cls ≠ "java/lang/invoke/VarHandle" ∧ (parseMethodDescriptor y.desc).map (fun d => d.parameters.length) = some As.length) (hR : rm.frames + 1 ≤ R.frames ∧ 8 + (maxL + 11) + rm.locals ≤ R.locals) (h0 : rm.cells = mc ∧ rm.slots = ms) (hsz : ls.size = nL) (hw : (rest.map fun v => v.category).sum ≤ 8) (hdg : decode cc pc = .ok (.invokevirtual index, 3)) (hc : cells + mc ≤ R.cells ∧ slots + ms ≤ R.slots) (hst : st0 = As.reverse ++ .ref b :: rest) :
    va_Run p l e R s m args below meth c H locs cells slots mc ms (F0 m pc ls st0) rest (Qc (Value.ref b :: As).toArray) (va_A ws H.size) :=
  va_runV S hM (cwV As.length S.2.2.2.2 hG rfl h0.1 h0.2 hd hR) ⟨swB_blind, hrc, fun U hU hW => ⟨rfl, by rw [hU], by rw [hU]; exact hP, va_K.moved hW.alike hK, hD.weaken (fun _ _ _ _ => trivial), hOI.moved hW.alike, hOZ.moved hW.alike⟩⟩ rfl rfl hsz hst (lv_room hw) hdg hc
/-- a static call over a world that is written -/
theorem sw_runS (S : CallFix p m c cc nL s args LA own) (hP : va_P D vwCl ws H) (hK : va_K D vwCl (tyG c5) s) (hD : va_D A ws) (hOI : va_AOA .int s) (hOZ : va_AOA .boolean s) (hM : Met l y (ws_ y yb maxL ret) rm (va_Pc As (swB D c5 ws H.size)) Qc mc ms (va_A ws H.size)) (hG : GoodIn LA (va_wsS own index y (ws_ y yb maxL ret)))
    (hd : y.cls ≠ "java/lang/invoke/MethodHandle" ∧ y.cls ≠ "java/lang/invoke/VarHandle" ∧ (parseMethodDescriptor y.desc).map (fun d => d.parameters.length) = some As.length) (hR : rm.frames + 1 ≤ R.frames ∧ 8 + (maxL + 11) + rm.locals ≤ R.locals) (h0 : rm.cells = mc ∧ rm.slots = ms) (hsz : ls.size = nL) (hw : (rest.map fun v => v.category).sum ≤ 8) (hdg : decode cc pc = .ok (.invokestatic index, 3)) (hc : cells + mc ≤ R.cells ∧ slots + ms ≤ R.slots) (hst : st0 = As.reverse ++ rest) :
    va_Run p l e R s m args below meth c H locs cells slots mc ms (F0 m pc ls st0) rest (Qc As.toArray) (va_A ws H.size) :=
  va_runS S hM (va_cwS As.length S.2.2.2.2 hG rfl h0.1 h0.2 hd hR) ⟨swB_blind, fun U hU hW => ⟨rfl, by rw [hU], by rw [hU]; exact hP, va_K.moved hW.alike hK, hD.weaken (fun _ _ _ _ => trivial), hOI.moved hW.alike, hOZ.moved hW.alike⟩⟩ rfl rfl hsz hst (lv_room hw) hdg hc
/-- a call that makes an array beside its world -/
theorem ab_call {wc X Y : va_W} {r : va_E} {a : Array Value} (hr : va_Run p l e R s m args below meth c H locs cells slots mc ms (F0 m pc ls st0) rest (va_Qr (fun _ : Unit => True) (fun _ q t => va_P D vwCl (wc ++ [(q, r)]) t.heap ∧ va_K D vwCl (tyG c5) t ∧ va_D (va_A wc H.size) (wc ++ [(q, r)])) (va_A wc H.size) a) (va_A wc H.size)) (hP : va_P D vwCl (X ++ (wc ++ Y)) H) (hD : va_D A (X ++ (wc ++ Y))) (hS : va_S A H0 H locs) (hA : ∀ q : Nat, H0.size ≤ q → A q)
    (kk : ∀ (q : Nat) (H1 : Heap) (locs1 : List Loc), va_P D vwCl (X ++ (wc ++ (Y ++ [(q, r)]))) H1 → va_D A (X ++ (wc ++ (Y ++ [(q, r)]))) → va_S A H0 H1 locs1 → W p l e R s m args below meth c H1 locs1 (cells + mc) (slots + ms) Q (F0 m (pc + 3) ls (.ref q :: rest))) : W p l e R s m args below meth c H locs cells slots Q (F0 m pc ls st0) := by
  have hf := fr_free hD hS hA
  refine va_callr hr hS (fun q _ h => hf q h) hf (fun u q t H1 locs ht hvm hw hB hz hk hS => ?_)
  obtain ⟨h1, -, h3⟩ := hB
  rw [ht] at h1
  obtain ⟨hP1, hD1⟩ := fr_join hP hD hk hf h1 h3
  have hp : ((wc ++ [(q, r)]) ++ Y).Perm (wc ++ (Y ++ [(q, r)])) := by
    rw [List.append_assoc]
    exact List.Perm.append_left wc List.perm_append_comm
  exact kk q H1 locs (va_P.perm (List.Perm.append_left X hp) hP1) (va_D.perm (List.Perm.append_left X hp) hD1) hS
/-- a call that throws, in the midst of a method that catches -/
theorem er_runG (S : CallFix p m c cc nL s args LA own) (hP : va_P D vwCl ws H) (hK : va_K D vwCl (tyG c5) s) (hX : exL A sx s) (hS : va_S A s.heap H locs) {E : String} (hM : vx_Met l y (ws_ y yb maxL ret) rm (va_Pc (.ref b :: As) (erB D (tyG c5) ws sx)) ErrQ (ErrX E) 1 6 (fun _ => False)) (hG : GoodIn LA (wsV own index C y (ws_ y yb maxL ret))) (hrc : rcvr s H C b)
    (hd : y.cls = C ∧ y.cls ≠ "java/lang/invoke/MethodHandle" ∧ y.cls ≠ "java/lang/invoke/VarHandle" ∧ (parseMethodDescriptor y.desc).map (fun d => d.parameters.length) = some As.length) (hR : rm.frames + 1 ≤ R.frames ∧ 8 + (maxL + 11) + rm.locals ≤ R.locals) (h0 : rm.cells = 1 ∧ rm.slots = 6) (hsz : ls.size = nL) (hw : (rest.map fun v => v.category).sum ≤ 8) (hdg : decode cc pc = .ok (.invokevirtual index, 3)) (hc : cells + 1 ≤ R.cells ∧ slots + 6 ≤ R.slots) (hst : st0 = As.reverse ++ .ref b :: rest) :
    vx_Run p l e R s m args below meth c H locs cells slots 1 6 (F0 m pc ls st0) rest (ErrQ (Value.ref b :: As).toArray) (ErrX E) (fun _ => False) :=
  vx_runV S hM (cwV As.length S.2.2.2.2 hG rfl h0.1 h0.2 hd hR) ⟨erB_blind, hrc, fun U hU hW => ⟨rfl, by rw [hU]; exact hP, va_K.moved hW.alike hK, exL_at hX hS hU hW⟩⟩ rfl rfl hsz hst (lv_room hw) hdg hc
theorem er_catchG {E : String} {a : Array Value} (hr : vx_Run p l e R s m args below meth c H locs cells slots 1 6 (F0 m pc ls st0) rest (ErrQ a) (ErrX E) (fun _ => False))
    (kx : ∀ (ce : Cell) (q9 : Addr) (H1 : Heap), H.size ≤ H1.size → (∀ q : Nat, q < H.size → H1[q]? = H[q]?) → H1[q9]? = some ce → ce.vm = .none → s.vm.findClass E = some ce.cls → vx_W p l e R s m args below meth c H1 locs (cells + 1) (slots + 6) Q (F0 m pc ls rest) q9) : W p l e R s m args below meth c H locs cells slots Q (F0 m pc ls st0) := by
  intro T hT X
  rcases hr T hT X with ⟨v, st₀, t, T', L, h0, X', hL, e1, e2, hq, st⟩ | ⟨q, st₀, t, T', L, E', ce, h0, X', hL, e1, e2, ⟨rfl, hF⟩, hce, hcv, hcl, st⟩
  · exact hq.elim
  · obtain ⟨f1, f2⟩ := hF
    rw [h0] at f1 f2
    obtain rfl : L = [] := List.eq_nil_iff_forall_not_mem.mpr fun z hz => (hL z hz).elim
    rw [List.append_nil] at X'
    obtain ⟨t2, a1, b1⟩ := kx ce q T'.heap (by rw [e1]; exact f1) (fun z hz => by rw [e1]; exact f2 z hz (fun h => h)) (by rw [e1]; exact hce) hcv hcl T' rfl X'
    exact ⟨t2, st.trans a1, b1⟩
theorem sx_kept {H1 : Heap} (hS : va_S A H0 H locs) (hz : H.size ≤ H1.size) (hk : ∀ q : Nat, q < H.size → H1[q]? = H[q]?) : va_S A H0 H1 locs := ⟨Nat.le_trans hS.1 hz, fun q h1 h2 => (hk q (Nat.lt_of_lt_of_le h1 hS.1)).trans (hS.2.1 q h1 h2), hS.2.2⟩
end SWR
section CD
variable {p : Program} {l : Launch} {e : Env} {R : Room} {s : State} {m : MethodId} {args : Array Value} {below : List Frame} {meth : Method} {c : Code} {H : Heap} {locs : List Loc} {cells slots : Nat} {Q : State → Prop} {pc : Nat} {ls : Array Slot} {rest st0 : List Value}
theorem ro_calld {r : UInt64} {a : Array Value} (hr : CallRun p l e R s m args below meth c H locs cells slots 0 0 (F0 m pc ls st0) rest (vp_Sd (fun x => x = r) a) (fun _ => False))
    (kk : W p l e R s m args below meth c H locs cells slots Q (F0 m (pc + 3) ls (.double r :: rest))) : W p l e R s m args below meth c H locs cells slots Q (F0 m pc ls st0) :=
  vp_callSd hr (fun x hx => by subst hx; exact kk)
end CD
/-! the law's two smallest -/
def bl_ (v n : Int32) : Int32 := (v &&& 2147483647) - (v &&& 2147483647) / n * n
def cl_ (L : Nat) (xs : Nat → Int32) (i : Int32) : Option Int32 := if nI L ≤ i then some (790386105 * (i + 3)) else if inb i L = true then some (xs i.toNatClampNeg) else none
theorem zN_e {z w : SSt} {n : Nat} (e : w = z) (h : n < zN w) : n < zN z := e ▸ h
