/-! System.arraycopy over rows of twelve -/
theorem wNat : Cond.native arraycopyName ∈ LA := la_4 45 rfl rfl
theorem wNatL : Cond.methodLink RX3 115 arraycopyName ∈ LA := la_4 43 rfl rfl
theorem wNatS : Cond.static arraycopyName ∈ LA := la_4 44 rfl rfl
theorem nfw : nativeFrameWords "java/lang/System" "arraycopy" 5 + 11 ≤ 40 := by decide +kernel
theorem wSys : Cond.initialized "java/lang/System" ∈ LA := wT1_13
section MR
variable {p : Program} {l : Launch} {e : Env} {R : Room} {s : State} {m : MethodId} {args : Array Value} {below : List Frame} {meth : Method} {c : Code} {H : Heap} {locs : List Loc} {cells slots : Nat} {Q : State → Prop}
variable {cc : ByteArray} {pc nL : Nat} {ls : Array Slot} {D : va_G} {ws : va_W} {A : Nat → Prop} {H0 : Heap} {c5 : Nat → ClassId}
theorem acopy (hx : p.tables.exec = Jvm.exec) (hb : c.code = cc) (hml : c.maxLocals = nL) (hsz : ls.size = nL) (hown : s.vm.findClass RX3 = some m.cls) (hts : ∀ w ∈ LA, w.before args s = true)
    (hK : va_K D vwCl (tyG c5) s) (hP : va_P D vwCl ws H) (hD : va_D A ws) (hS : va_S A H0 H locs) (q0 q1 : Nat) {a0 a1 : Nat} {f g : Nat → Int32} (ha0 : ws[q0]? = some (a0, .inl (c5 3, 12, .inl f))) (ha1 : ws[q1]? = some (a1, .inl (c5 3, 12, .inl g)))
    (hdg : decode cc pc = .ok (.invokestatic 115, 3)) (hR : 1 ≤ R.frames ∧ 40 ≤ R.locals)
    (kk : ∀ (H1 : Heap) (locs1 : List Loc), va_P D vwCl (ws.set q1 (a1, .inl (c5 3, 12, .inl (va_cpy f g 0 0 12)))) H1 → va_D A (ws.set q1 (a1, .inl (c5 3, 12, .inl (va_cpy f g 0 0 12)))) → va_S A H0 H1 locs1 → W p l e R s m args below meth c H1 locs1 cells slots Q (F0 m (pc + 3) ls [])) :
    W p l e R s m args below meth c H locs cells slots Q (F0 m pc ls [.int (12 : Int32), .int (0 : Int32), .ref a1, .int (0 : Int32), .ref a0]) :=
  va_copyi (n := 12) (sp := 0) (dp := 0) (ty := .int) (rest := []) hx hb (hml.trans hsz.symm) hown (hts _ wNatL) (hts _ wNat) (hts _ wNatS) (hts _ wSys) hK hP hD hS q0 q1 3 3 ha0 ha1 rfl rfl rfl (by decide) (by decide) (by decide) (by decide) (by decide) (fun _ _ => rfl) hR.1 (Nat.le_trans (by rw [show (([] : List Value).map fun v => v.category).sum = 0 from rfl, Nat.zero_add]; exact nfw) hR.2) hdg kk
theorem amax (hx : p.tables.exec = Jvm.exec) (hb : c.code = cc) (hml : c.maxLocals = nL) (hsz : ls.size = nL) (hown : s.vm.findClass RX3 = some m.cls) (hts : ∀ w ∈ LA, w.before args s = true) {x y : Int32}
    (hdg : decode cc pc = .ok (.invokestatic 169, 3)) (hR : 1 ≤ R.frames ∧ 40 ≤ R.locals) (hc : cells ≤ R.cells ∧ slots ≤ R.slots)
    (kk : W p l e R s m args below meth c H locs cells slots Q (F0 m (pc + 3) ls [.int (mx x y)])) : W p l e R s m args below meth c H locs cells slots Q (F0 m pc ls [.int y, .int x]) :=
  va_mmax (rest := []) hx hb (hml.trans hsz.symm) hown (hts _ wT4_32) (hts _ wT4_33) (hts _ wT1_12) (hts _ wT4_34) hR.1 (Nat.le_trans (by rw [show (([] : List Value).map fun v => v.category).sum = 0 from rfl]; omega) hR.2) hc.1 hc.2 hdg kk
end MR
