/-! calls whose world is a part of this one; constructors -/
theorem fr_P {D : va_G} {X wc Y : va_W} {H : Heap} (h : va_P D vwCl (X ++ (wc ++ Y)) H) : va_P D vwCl wc H := fun k q hk => h (X.length + k) q (by
  have hl := (List.getElem?_eq_some_iff.mp hk).1
  rw [List.getElem?_append_right (by omega), Nat.add_sub_cancel_left, List.getElem?_append_left hl]; exact hk)
theorem fr_D {A : Nat → Prop} {X wc Y : va_W} (h : va_D A (X ++ (wc ++ Y))) : va_D A wc := by
  have key : ∀ (k : Nat) (q : Nat × va_E), wc[k]? = some q → (X ++ (wc ++ Y))[X.length + k]? = some q := fun k q hk => by
    have hl := (List.getElem?_eq_some_iff.mp hk).1
    rw [List.getElem?_append_right (by omega), Nat.add_sub_cancel_left, List.getElem?_append_left hl]; exact hk
  exact ⟨fun i j p q hi hj e => by have := h.1 _ _ p q (key i p hi) (key j q hj) e; omega, fun k q hk => h.2 _ q (key k q hk)⟩
theorem fr_join {A0 : Nat → Prop} {D : va_G} {X wc Y w1 : va_W} {H H1 : Heap} (hP : va_P D vwCl (X ++ (wc ++ Y)) H) (hD : va_D A0 (X ++ (wc ++ Y)))
    (hk : ∀ q : Nat, q < H.size → ¬ va_A wc H.size q → H1[q]? = H[q]?) (hF : ∀ q, va_A wc H.size q → A0 q) (hP1 : va_P D vwCl w1 H1) (hD1 : va_D (va_A wc H.size) w1) :
    va_P D vwCl (X ++ (w1 ++ Y)) H1 ∧ va_D A0 (X ++ (w1 ++ Y)) := by
  have at' : ∀ (k : Nat) (q : Nat × va_E), wc[k]? = some q → (X ++ (wc ++ Y))[X.length + k]? = some q := fun k q hk => by
    have hl := (List.getElem?_eq_some_iff.mp hk).1
    rw [List.getElem?_append_right (by omega), Nat.add_sub_cancel_left, List.getElem?_append_left hl]; exact hk
  have inX : ∀ (k : Nat) (q : Nat × va_E), X[k]? = some q → k < X.length ∧ (X ++ (wc ++ Y))[k]? = some q := fun k q hk => by
    have hl := (List.getElem?_eq_some_iff.mp hk).1
    exact ⟨hl, by rw [List.getElem?_append_left hl]; exact hk⟩
  have inY : ∀ (k : Nat) (q : Nat × va_E), Y[k]? = some q → (X ++ (wc ++ Y))[X.length + (wc.length + k)]? = some q := fun k q hk => by
    rw [List.getElem?_append_right (by omega), Nat.add_sub_cancel_left, List.getElem?_append_right (by omega), Nat.add_sub_cancel_left]; exact hk
  have apart : ∀ (i : Nat) (q : Nat × va_E), (X ++ (wc ++ Y))[i]? = some q → (i < X.length ∨ X.length + wc.length ≤ i) → q.1 < H.size ∧ ¬ va_A wc H.size q.1 := by
    intro i q hi hr
    have hl := (hP i q hi).lt
    refine ⟨hl, fun h => ?_⟩
    rcases h with ⟨k2, x, h⟩ | h
    · have hl2 := (List.getElem?_eq_some_iff.mp h).1
      have := hD.1 _ _ q (q.1, x) hi (at' k2 _ h) rfl
      omega
    · omega
  have hX : va_P D vwCl X H1 := fun k q hk2 => by
    obtain ⟨h1, h2⟩ := inX k q hk2
    obtain ⟨g1, g2⟩ := apart k q h2 (Or.inl h1)
    exact (hP k q h2).kept (hk q.1 g1 g2)
  have hY : va_P D vwCl Y H1 := fun k q hk2 => by
    have h2 := inY k q hk2
    obtain ⟨g1, g2⟩ := apart _ q h2 (Or.inr (by omega))
    exact (hP _ q h2).kept (hk q.1 g1 g2)
  have dX : va_D A0 X := ⟨fun i j p q hi hj e => hD.1 i j p q (inX i p hi).2 (inX j q hj).2 e, fun k q h => hD.2 k q (inX k q h).2⟩
  have dY : va_D A0 Y := ⟨fun i j p q hi hj e => by have := hD.1 _ _ p q (inY i p hi) (inY j q hj) e; omega, fun k q h => hD.2 _ q (inY k q h)⟩
  have d1 : va_D A0 w1 := hD1.weaken (fun k q _ h => hF q.1 h)
  have a1Y : va_D A0 (w1 ++ Y) := va_D.app d1 dY (fun i j p q hp hq e => (apart _ q (inY j q hq) (Or.inr (by omega))).2 (by rw [← e]; exact hD1.2 i p hp))
  refine ⟨va_P.app hX (va_P.app hP1 hY), va_D.app dX a1Y (fun i j p q hp hq e => ?_)⟩
  obtain ⟨hi, hp'⟩ := inX i p hp
  by_cases hj : j < w1.length
  · rw [List.getElem?_append_left hj] at hq
    exact (apart i p hp' (Or.inl hi)).2 (by rw [e]; exact hD1.2 j q hq)
  · rw [List.getElem?_append_right (by omega)] at hq
    have := hD.1 _ _ p q hp' (inY _ q hq) e
    omega
theorem ca_eq {D : va_G} {tys : List (ClassId × FieldType)} {s : State} {i j : Nat} {c1 c2 : ClassId} {ty : FieldType} (hK : va_K D vwCl tys s) (h1 : tys[i]? = some (c1, ty)) (h2 : tys[j]? = some (c2, ty)) : c1 = c2 := by
  have r1 := (hK.2 i _ h1).2
  have r2 := (hK.2 j _ h2).2
  cases ty with
  | object C =>
    obtain ⟨-, -, -, -, -, e1⟩ := r1
    obtain ⟨-, -, -, -, -, e2⟩ := r2
    exact Option.some.inj (e1.symm.trans e2)
  | _ => exact Option.some.inj (r1.symm.trans r2)
theorem KI_of {A : Nat → Prop} {c5 : Nat → ClassId} {a : KAd} {k : KSt} (h : va_D A (KW c5 a k)) : KI a := fun i j hi hj e => by
  have := h.1 _ _ _ _ (KW_S c5 a k hi) (KW_S c5 a k hj) e
  omega
section FR
variable {p : Program} {l : Launch} {e : Env} {R : Room} {s : State} {m : MethodId} {args : Array Value} {below : List Frame} {meth : Method} {c : Code} {H : Heap} {locs : List Loc} {cells slots : Nat} {Q : State → Prop}
variable {cc : ByteArray} {pc : Nat} {ls : Array Slot} {rest st0 As : List Value} {D : va_G} {tys : List (ClassId × FieldType)} {wc X Y : va_W} {A : Nat → Prop} {H0 : Heap} {mc ms : Nat}
theorem fr_free (hD : va_D A (X ++ (wc ++ Y))) (hS : va_S A H0 H locs) (hA : ∀ q : Nat, H0.size ≤ q → A q) : ∀ q : Nat, va_A wc H.size q → A q := rw_free (fr_D hD) hS hA
theorem fr_calli {S : Type} {post : Int32 → S → Prop} {wf : S → va_W} {a : Array Value} (hr : va_Run p l e R s m args below meth c H locs cells slots mc ms (F0 m pc ls st0) rest (va_Qi post (rwE D tys (va_A wc H.size) wf) (va_A wc H.size) a) (va_A wc H.size)) (hP : va_P D vwCl (X ++ (wc ++ Y)) H) (hD : va_D A (X ++ (wc ++ Y))) (hS : va_S A H0 H locs) (hA : ∀ q : Nat, H0.size ≤ q → A q)
    (kk : ∀ (x : Int32) (u : S) (H1 : Heap) (locs1 : List Loc), post x u → va_P D vwCl (X ++ (wf u ++ Y)) H1 → va_D A (X ++ (wf u ++ Y)) → va_S A H0 H1 locs1 → W p l e R s m args below meth c H1 locs1 (cells + mc) (slots + ms) Q (F0 m (pc + 3) ls (.int x :: rest))) : W p l e R s m args below meth c H locs cells slots Q (F0 m pc ls st0) := by
  have hf := fr_free hD hS hA
  refine va_calli hr hS (fun q _ h => hf q h) hf (fun r u t H1 locs ht hvm hw hB hz hk hS => ?_)
  obtain ⟨h1, -, h3⟩ := hB
  rw [ht] at h1
  obtain ⟨hP1, hD1⟩ := fr_join hP hD hk hf h1 h3
  exact kk r u H1 locs hw hP1 hD1 hS
theorem fr_callv {S : Type} {post : S → Prop} {wf : S → va_W} {a : Array Value} (hr : va_Run p l e R s m args below meth c H locs cells slots mc ms (F0 m pc ls st0) rest (va_Qv post (rwE D tys (va_A wc H.size) wf) (va_A wc H.size) a) (va_A wc H.size)) (hP : va_P D vwCl (X ++ (wc ++ Y)) H) (hD : va_D A (X ++ (wc ++ Y))) (hS : va_S A H0 H locs) (hA : ∀ q : Nat, H0.size ≤ q → A q)
    (kk : ∀ (u : S) (H1 : Heap) (locs1 : List Loc), post u → va_P D vwCl (X ++ (wf u ++ Y)) H1 → va_D A (X ++ (wf u ++ Y)) → va_S A H0 H1 locs1 → W p l e R s m args below meth c H1 locs1 (cells + mc) (slots + ms) Q (F0 m (pc + 3) ls rest)) : W p l e R s m args below meth c H locs cells slots Q (F0 m pc ls st0) := by
  have hf := fr_free hD hS hA
  refine va_callv hr hS (fun q _ h => hf q h) hf (fun u t H1 locs ht hvm hw hB hz hk hS => ?_)
  obtain ⟨h1, -, h3⟩ := hB
  rw [ht] at h1
  obtain ⟨hP1, hD1⟩ := fr_join hP hD hk hf h1 h3
  exact kk u H1 locs hw hP1 hD1 hS
theorem fr_calll {S : Type} {post : Int64 → S → Prop} {wf : S → va_W} {a : Array Value} (hr : va_Run p l e R s m args below meth c H locs cells slots mc ms (F0 m pc ls st0) rest (va_Ql post (rwE D tys (va_A wc H.size) wf) (va_A wc H.size) a) (va_A wc H.size)) (hP : va_P D vwCl (X ++ (wc ++ Y)) H) (hD : va_D A (X ++ (wc ++ Y))) (hS : va_S A H0 H locs) (hA : ∀ q : Nat, H0.size ≤ q → A q)
    (kk : ∀ (x : Int64) (u : S) (H1 : Heap) (locs1 : List Loc), post x u → va_P D vwCl (X ++ (wf u ++ Y)) H1 → va_D A (X ++ (wf u ++ Y)) → va_S A H0 H1 locs1 → W p l e R s m args below meth c H1 locs1 (cells + mc) (slots + ms) Q (F0 m (pc + 3) ls (.long x :: rest))) : W p l e R s m args below meth c H locs cells slots Q (F0 m pc ls st0) := by
  have hf := fr_free hD hS hA
  refine va_calll hr hS (fun q _ h => hf q h) hf (fun r u t H1 locs ht hvm hw hB hz hk hS => ?_)
  obtain ⟨h1, -, h3⟩ := hB
  rw [ht] at h1
  obtain ⟨hP1, hD1⟩ := fr_join hP hD hk hf h1 h3
  exact kk r u H1 locs hw hP1 hD1 hS
theorem fr_calld {S : Type} {post : UInt64 → S → Prop} {wf : S → va_W} {a : Array Value} (hr : va_Run p l e R s m args below meth c H locs cells slots mc ms (F0 m pc ls st0) rest (va_Qd post (rwE D tys (va_A wc H.size) wf) (va_A wc H.size) a) (va_A wc H.size)) (hP : va_P D vwCl (X ++ (wc ++ Y)) H) (hD : va_D A (X ++ (wc ++ Y))) (hS : va_S A H0 H locs) (hA : ∀ q : Nat, H0.size ≤ q → A q)
    (kk : ∀ (x : UInt64) (u : S) (H1 : Heap) (locs1 : List Loc), post x u → va_P D vwCl (X ++ (wf u ++ Y)) H1 → va_D A (X ++ (wf u ++ Y)) → va_S A H0 H1 locs1 → W p l e R s m args below meth c H1 locs1 (cells + mc) (slots + ms) Q (F0 m (pc + 3) ls (.double x :: rest))) : W p l e R s m args below meth c H locs cells slots Q (F0 m pc ls st0) := by
  have hf := fr_free hD hS hA
  refine va_calld hr hS (fun q _ h => hf q h) hf (fun r u t H1 locs ht hvm hw hB hz hk hS => ?_)
  obtain ⟨h1, -, h3⟩ := hB
  rw [ht] at h1
  obtain ⟨hP1, hD1⟩ := fr_join hP hD hk hf h1 h3
  exact kk r u H1 locs hw hP1 hD1 hS
variable {nL maxL index : Nat} {own C : String} {b : Addr} {y : MethodName} {yb : ByteArray} {rm : Room} {Qc : Array Value → State → Outcome → State → Prop}
theorem rw_runI (S : CallFix p m c cc nL s args LA own) (hP : va_P D vwCl wc H) (hK : va_K D vwCl tys s) (hD : va_D A wc) (hM : Met l y (ws_ y yb maxL none) rm (va_Pc (.ref b :: As) (rwB D tys wc H.size)) Qc mc ms (va_A wc H.size))
    (hcd : Cond.code y yb maxL none ∈ LA) (hini : Cond.initialized y.cls ∈ LA) (hl : Cond.methodLink own index y ∈ LA) (hin : Cond.instanceMethod y ∈ LA) (hy1 : y.name = "<init>")
    (hd : y.cls ≠ "java/lang/invoke/MethodHandle" ∧ y.cls ≠ "java/lang/invoke/VarHandle" ∧ (parseMethodDescriptor y.desc).map (fun d => d.parameters.length) = some As.length) (hR : rm.frames + 1 ≤ R.frames ∧ 8 + (maxL + 11) + rm.locals ≤ R.locals) (h0 : rm.cells = mc ∧ rm.slots = ms) (hsz : ls.size = nL) (hw : (rest.map fun v => v.category).sum ≤ 8) (hdg : decode cc pc = .ok (.invokespecial index, 3)) (hc : cells + mc ≤ R.cells ∧ slots + ms ≤ R.slots) (hst : st0 = As.reverse ++ .ref b :: rest) :
    va_Run p l e R s m args below meth c H locs cells slots mc ms (F0 m pc ls st0) rest (Qc (Value.ref b :: As).toArray) (va_A wc H.size) :=
  va_runI S hM (cwI As.length S.2.2.2.2 (la_sub hcd) rfl h0.1 h0.2 (S.2.2.2.2 _ hini) (S.2.2.2.2 _ hl) (S.2.2.2.2 _ hin) hy1 hd hR) ⟨rwB_blind, fun U hU hW => ⟨rfl, by rw [hU], by rw [hU]; exact hP, va_K.moved hW.alike hK, hD.weaken (fun _ _ _ _ => trivial)⟩⟩ rfl rfl hsz hst (lv_room hw) hdg hc
end FR
