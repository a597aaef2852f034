/-! the law's wrappers: a call of the class, its answer kept, what it throws caught -/
abbrev outE (c5 : Nat → ClassId) (g : Nat → Int64) : va_E := .inl (c5 4, 1, .inr (.inl g))
def LW (c5 : Nat → ClassId) (a : KAd) (k : KSt) (o : Nat) (g : Nat → Int64) : va_W := KW c5 a k ++ [(o, outE c5 g)]
theorem LW_o (c5 : Nat → ClassId) (a : KAd) (k : KSt) (o : Nat) (g : Nat → Int64) : (LW c5 a k o g)[(KW c5 a k).length]? = some (o, outE c5 g) := by
  unfold LW
  rw [List.getElem?_append_right (Nat.le_refl _), Nat.sub_self]
  rfl
theorem LW_set (c5 : Nat → ClassId) (a : KAd) (k : KSt) (o : Nat) (g g' : Nat → Int64) : (LW c5 a k o g).set (KW c5 a k).length (o, outE c5 g') = LW c5 a k o g' := by
  unfold LW
  rw [List.set_append_right _ _ (Nat.le_refl _), Nat.sub_self]
  rfl
def exPr : List (String × String) := [(exIS, exIA), (exIO, exIA), (exIA, exIS), (exIO, exIS), (exIA, exIO), (exIS, exIO)]
def exN (U : State) : Prop := ∀ q ∈ exPr, va_Nc q.1 q.2 U
abbrev lwB (D : va_G) (c5 : Nat → ClassId) (a : KAd) (k : KSt) (o : Nat) (g : Nat → Int64) (sx : Nat → Nat) (sz : Nat) : State → Prop := fun U => U.heap.size = sz ∧ va_P D vwCl (LW c5 a k o g) U.heap ∧ va_K D vwCl (tyG c5) U ∧ va_D (fun _ => True) (LW c5 a k o g) ∧ exP sx U ∧ exN U
theorem lwB_blind {D : va_G} {c5 : Nat → ClassId} {a : KAd} {k : KSt} {o : Nat} {g : Nat → Int64} {sx : Nat → Nat} {sz : Nat} {As : List Value} : FrameBlind (va_Pc As (lwB D c5 a k o g sx sz)) := fun a U g mk q => ⟨q.1, q.2.1, q.2.2.1, va_K.moved (u := U) (U := U.calling g mk a) (Vm.Alike.refl U.vm) q.2.2.2.1, q.2.2.2.2.1, exP_calling q.2.2.2.2.2.1, fun w hw => va_Nc.moved (u := U) (U := U.calling g mk a) (Vm.Alike.refl U.vm) (q.2.2.2.2.2.2 w hw)⟩
/-- a call's outcome as the law sees it -/
def lwQ (cd : String → Int32) (a : KAd) (k : KSt) (res : Except String (Int32 × KSt)) (x : Int32) (u : KAd × KSt × (Nat → Int64)) : Prop := u.1.1 = a.1 ∧ match res with
  | .ok r => x = 0 ∧ u.2.1 = r.2 ∧ u.2.2 0 = r.1.toInt64
  | .error E => x = cd E ∧ u.2.1 = k
def roR (k : KSt) : Except String Int32 → Except String (Int32 × KSt)
  | .ok v => .ok (v, k)
  | .error E => .error E
def cdIAIS (E : String) : Int32 := if E = exIA then 1 else 2
def cdIO (_ : String) : Int32 := 1
def cdIOIS (E : String) : Int32 := if E = exIO then 1 else 2
def cdIOIA (E : String) : Int32 := if E = exIO then 1 else 2
def cdIA (_ : String) : Int32 := 1
theorem Met.ofWH {l : Launch} {y : MethodName} {ws ws' : List Cond} {rm : Room} {Pc : Array Value → State → Prop} {Qc : Array Value → State → Outcome → State → Prop} {mc ms : Nat} {free : Addr → Prop} {cc : ByteArray} {maxL : Nat} {ret : Option FieldType} {hh : List (Nat × Nat × Nat × Nat)}
    (hy : plainName y.cls = true) (hw : ws = Cond.codeWith y cc maxL ret hh :: ws')
    (body : ∀ p e s m args below meth c s₁, BodyLoose p l y (headSpec ws rm) cc maxL ret e s m args below meth c s₁ → c.maxLocals = maxL → Pc args s →
      W p l e (headSpec ws rm).room s m args below meth c s.heap [] 0 0 (MQ below Qc args s mc ms free) (entryFrame m args maxL)) : Met l y ws rm Pc Qc mc ms free := by
  refine MetFree.of_bodyS (code := cc) (maxLocals := maxL) (ret := ret) hy ?_ ?_
  · intro args s m h hn
    obtain ⟨m9, meth, c, hn9, h1, h2, h3, h4, -, h5, h6, -⟩ := Cond.codeWith_spec (atoms_spec (ws := ws) h _ (by rw [hw]; exact List.mem_cons_self))
    cases hn.symm.trans hn9
    exact ⟨meth, c, h1, h2, h3, h4, h5, h6⟩
  · intro p e s m args below meth c s₁ B hml hP _
    have hh0 : s₁.heap = s.heap := by rw [B.state]; rfl
    obtain ⟨t, a1, o, b1, b2, b3⟩ := body p e s m args below meth c s₁ B hml hP s₁ hh0 (Stand.of_body B)
    exact ⟨t, o, a1, b1, b2, ⟨b3.1, b3.2⟩⟩
section EC
variable {p : Program} {l : Launch} {e : Env} {R : Room} {s : State} {m : MethodId} {args : Array Value} {below : List Frame} {meth : Method} {c : Code} {Q : State → Prop}
variable {pc : Nat} {ls : Array Slot} {rest st0 : List Value}
/-- a call that throws, in a method that catches -/
theorem er_catch {E : String} {a : Array Value} (hr : vx_Run p l e R s m args below meth c s.heap [] 0 0 1 6 (F0 m pc ls st0) rest (ErrQ a) (ErrX E) (fun _ => False))
    (kx : ∀ (ce : Cell) (q9 : Addr) (H : Heap), s.heap.size ≤ H.size → (∀ q : Nat, q < s.heap.size → H[q]? = s.heap[q]?) → H[q9]? = some ce → ce.vm = .none → s.vm.findClass E = some ce.cls → vx_W p l e R s m args below meth c H [] 1 6 Q (F0 m pc ls rest) q9) : W p l e R s m args below meth c s.heap [] 0 0 Q (F0 m pc ls st0) := by
  intro T hT X
  rcases hr T hT X with ⟨v, st₀, t, T', L, h0, X', hL, e1, e2, hq, st⟩ | ⟨q, st₀, t, T', L, E', ce, h0, X', hL, e1, e2, ⟨rfl, hF⟩, hce, hcv, hcl, st⟩
  · exact hq.elim
  · obtain ⟨f1, f2⟩ := hF
    rw [h0] at f1 f2
    obtain rfl : L = [] := List.eq_nil_iff_forall_not_mem.mpr fun z hz => (hL z hz).elim
    obtain ⟨t2, a1, b1⟩ := kx ce q T'.heap (by rw [e1]; exact f1) (fun z hz => by rw [e1]; exact f2 z hz (fun h => h)) (by rw [e1]; exact hce) hcv hcl T' rfl X'
    exact ⟨t2, st.trans a1, b1⟩
end EC
theorem gG_RL_17 : GoodIn LA (wsV RL 17 RX2 yX2_setWay (ws_ yX2_setWay cX2_setWay 3 (some .int))) := la_V wT2_121 wT2_122 wT2_123 wT1_1 wT2_124
theorem gG_RL_22 : GoodIn LA (wsV RL 22 RX2 yX2_put (ws_ yX2_put cX2_put 5 (some .int))) := la_V wT2_129 wT2_130 wT2_131 wT1_1 wT2_132
theorem gG_RL_25 : GoodIn LA (wsV RL 25 RX2 yX2_take (ws_ yX2_take cX2_take 4 (some .int))) := la_V wT2_154 wT2_155 wT2_156 wT1_1 wT2_157
theorem gG_RL_28 : GoodIn LA (wsV RL 28 RX2 yX2_reap (ws_ yX2_reap cX2_reap 7 (some .int))) := la_V wT2_175 wT2_176 wT2_177 wT1_1 wT2_178
theorem gG_RL_31 : GoodIn LA (wsV RL 31 RX2 yX2_pack (ws_ yX2_pack cX2_pack 4 (some .int))) := la_V wT2_187 wT2_188 wT2_189 wT1_1 wT2_190
theorem gG_RL_34 : GoodIn LA (wsV RL 34 RX2 yX2_shelf (ws_ yX2_shelf cX2_shelf 3 (some .int))) := la_V wT2_206 wT2_207 wT2_208 wT1_1 wT2_209
theorem gG_RL_38 : GoodIn LA (wsV RL 38 RX2 yX2_about (ws_ yX2_about cX2_about 4 (some .int))) := la_V wT2_214 wT2_215 wT2_216 wT1_1 wT2_217
theorem gG_RL_41 : GoodIn LA (wsV RL 41 RX2 yX2_place (ws_ yX2_place cX2_place 5 (some .int))) := la_V wT2_221 wT2_222 wT2_223 wT1_1 wT2_224
theorem gG_RL_44 : GoodIn LA (wsV RL 44 RX2 yX2_count (ws_ yX2_count cX2_count 2 (some .int))) := la_V wT2_228 wT1_127 wT1_128 wT1_1 wT1_129
theorem gG_RL_47 : GoodIn LA (wsV RL 47 RX2 yX2_next (ws_ yX2_next cX2_next 2 (some .int))) := la_V wT2_232 wT2_233 wT2_234 wT1_1 wT2_235
theorem gG_RL_50 : GoodIn LA (wsV RL 50 RX2 yX2_fits (ws_ yX2_fits cX2_fits 3 (some .int))) := la_V wT2_239 wT3_0 wT3_1 wT1_1 wT3_2
theorem gG_RL_53 : GoodIn LA (wsV RL 53 RX2 yX2_would (ws_ yX2_would cX2_would 6 (some .int))) := la_V wT3_10 wT3_11 wT3_12 wT1_1 wT3_13
theorem gG_RL_56 : GoodIn LA (wsV RL 56 RX2 yX2_gains (ws_ yX2_gains cX2_gains 2 (some .int))) := la_V wT3_18 wT3_19 wT3_20 wT1_1 wT3_21
theorem gG_RL_7 : GoodIn LA (wsV RL 7 RX2 yX2_kind (ws_ yX2_kind cX2_kind 3 (some .int))) := la_V wT2_47 wT2_48 wT2_49 wT1_1 wT2_50
theorem hd_X2_about : yX2_about.cls = RX2 ∧ yX2_about.cls ≠ "java/lang/invoke/MethodHandle" ∧ yX2_about.cls ≠ "java/lang/invoke/VarHandle" ∧ (parseMethodDescriptor yX2_about.desc).map (fun d => d.parameters.length) = some 2 := by decide +kernel
theorem hd_X2_fits : yX2_fits.cls = RX2 ∧ yX2_fits.cls ≠ "java/lang/invoke/MethodHandle" ∧ yX2_fits.cls ≠ "java/lang/invoke/VarHandle" ∧ (parseMethodDescriptor yX2_fits.desc).map (fun d => d.parameters.length) = some 1 := by decide +kernel
theorem hd_X2_gains : yX2_gains.cls = RX2 ∧ yX2_gains.cls ≠ "java/lang/invoke/MethodHandle" ∧ yX2_gains.cls ≠ "java/lang/invoke/VarHandle" ∧ (parseMethodDescriptor yX2_gains.desc).map (fun d => d.parameters.length) = some 1 := by decide +kernel
theorem hd_X2_next : yX2_next.cls = RX2 ∧ yX2_next.cls ≠ "java/lang/invoke/MethodHandle" ∧ yX2_next.cls ≠ "java/lang/invoke/VarHandle" ∧ (parseMethodDescriptor yX2_next.desc).map (fun d => d.parameters.length) = some 1 := by decide +kernel
theorem hd_X2_pack : yX2_pack.cls = RX2 ∧ yX2_pack.cls ≠ "java/lang/invoke/MethodHandle" ∧ yX2_pack.cls ≠ "java/lang/invoke/VarHandle" ∧ (parseMethodDescriptor yX2_pack.desc).map (fun d => d.parameters.length) = some 1 := by decide +kernel
theorem hd_X2_place : yX2_place.cls = RX2 ∧ yX2_place.cls ≠ "java/lang/invoke/MethodHandle" ∧ yX2_place.cls ≠ "java/lang/invoke/VarHandle" ∧ (parseMethodDescriptor yX2_place.desc).map (fun d => d.parameters.length) = some 2 := by decide +kernel
theorem hd_X2_put : yX2_put.cls = RX2 ∧ yX2_put.cls ≠ "java/lang/invoke/MethodHandle" ∧ yX2_put.cls ≠ "java/lang/invoke/VarHandle" ∧ (parseMethodDescriptor yX2_put.desc).map (fun d => d.parameters.length) = some 1 := by decide +kernel
theorem hd_X2_reap : yX2_reap.cls = RX2 ∧ yX2_reap.cls ≠ "java/lang/invoke/MethodHandle" ∧ yX2_reap.cls ≠ "java/lang/invoke/VarHandle" ∧ (parseMethodDescriptor yX2_reap.desc).map (fun d => d.parameters.length) = some 1 := by decide +kernel
theorem hd_X2_setWay : yX2_setWay.cls = RX2 ∧ yX2_setWay.cls ≠ "java/lang/invoke/MethodHandle" ∧ yX2_setWay.cls ≠ "java/lang/invoke/VarHandle" ∧ (parseMethodDescriptor yX2_setWay.desc).map (fun d => d.parameters.length) = some 1 := by decide +kernel
theorem hd_X2_shelf : yX2_shelf.cls = RX2 ∧ yX2_shelf.cls ≠ "java/lang/invoke/MethodHandle" ∧ yX2_shelf.cls ≠ "java/lang/invoke/VarHandle" ∧ (parseMethodDescriptor yX2_shelf.desc).map (fun d => d.parameters.length) = some 2 := by decide +kernel
theorem hd_X2_take : yX2_take.cls = RX2 ∧ yX2_take.cls ≠ "java/lang/invoke/MethodHandle" ∧ yX2_take.cls ≠ "java/lang/invoke/VarHandle" ∧ (parseMethodDescriptor yX2_take.desc).map (fun d => d.parameters.length) = some 1 := by decide +kernel
theorem hd_X2_would : yX2_would.cls = RX2 ∧ yX2_would.cls ≠ "java/lang/invoke/MethodHandle" ∧ yX2_would.cls ≠ "java/lang/invoke/VarHandle" ∧ (parseMethodDescriptor yX2_would.desc).map (fun d => d.parameters.length) = some 2 := by decide +kernel
