/-! arrays of arrays: reading, storing, making -/
section VAA
variable {p : Program} {l : Launch} {e : Env} {R : Room} {s : State} {m : MethodId} {args : Array Value} {below : List Frame} {meth : Method} {c : Code} {H : Heap} {locs : List Loc} {cells slots : Nat} {Q : State → Prop}
variable {cc : ByteArray} {pc : Nat} {ls : Array Slot} {rest : List Value} {D : va_G} {cl : List vw_C} {A : Nat → Prop} {a : Nat} {tys : List (ClassId × FieldType)} {ws : va_W} {H0 : Heap}
theorem ar_ld (hexec : p.tables.exec = Jvm.exec) (hb : c.code = cc) (hK : va_K D cl tys s) (hP : va_P D cl ws H) (q0 t0 : Nat) {cA : ClassId} {ty : FieldType} {n : Nat} {f : Nat → Option Nat} (ha : ws[q0]? = some (a, .inl (cA, n, rfs f))) (ht : tys[t0]? = some (cA, .array ty)) {i : Int32} (hin : vp_in i n) {y : Nat} (hy : f i.toNatClampNeg = some y) (hdg : decode cc pc = .ok (.aaload, 1))
    (kk : W p l e R s m args below meth c H locs cells slots Q (F0 m (pc + 1) ls (.ref y :: rest))) : W p l e R s m args below meth c H locs cells slots Q (F0 m pc ls (.int i :: .ref a :: rest)) := by
  have hlt : i.toNatClampNeg < n := Nat.not_le.mp fun q => hin (Or.inr q)
  exact W.aald (v := .ref y) (ty := .array ty) hexec hb (hP q0 _ ha) ((hK.2 t0 _ ht).1 n (fun j => va_rf (f j))) rfl (fun q => by cases q) (by show ¬ (i < 0 ∨ (arrV _ _ _).slots.size ≤ _); rw [arrV_size]; exact hin) (by show (arrV _ _ _).slots[_]? = _; rw [arrV_read _ _ hlt, hy]; rfl) rfl rfl hdg kk
/-- an array's class is that of its elements' arrays -/
theorem ar_cls {ty : FieldType} {cA cB : ClassId} (hO : va_AOA ty s) (hA : ArrOfT s cA (.array ty) ∧ va_RA s cA (.array ty)) (hB : va_RA s cB ty) (hp : ∀ C, ty ≠ .object C) : ∃ (kA kB : Class), s.vm.classes[cA]? = some kA ∧ kA.kind = .array cB (.array ty) ∧ s.vm.classes[cB]? = some kB := by
  obtain ⟨comp, c0, k, h1, -, h3, h4, h5⟩ := Jvm.Stand.arrayOver_specB (va_AOA.use (A := #[]) hO)
  have e1 : cA = c0 := Option.some.inj (hA.2.symm.trans h5)
  subst e1
  have hB' : s.vm.findClass ("[" ++ ty.toString) = some cB := by
    cases ty with
    | object C => exact absurd rfl (hp C)
    | _ => exact hB
  have e2 : cB = comp := Option.some.inj (hB'.symm.trans h1)
  subst e2
  obtain ⟨kB, hkB, -⟩ := Vm.findClass_spec hB'
  exact ⟨k, kB, h3, h4, hkB⟩
theorem ar_st (hexec : p.tables.exec = Jvm.exec) (hb : c.code = cc) (hK : va_K D cl tys s) (hP : va_P D cl ws H) (hD : va_D A ws) (hS : va_S A H0 H locs) (q0 t0 qk t1 : Nat) {cA cB : ClassId} {ty : FieldType} (hO : va_AOA ty s) (hp : ∀ C, ty ≠ .object C) {n v : Nat} {x : vp_A} {f : Nat → Option Nat} (ha : ws[q0]? = some (a, .inl (cA, n, rfs f))) (ht : tys[t0]? = some (cA, .array ty)) (hv : ws[qk]? = some (v, .inl (cB, x))) (ht1 : tys[t1]? = some (cB, ty)) {i : Int32} (hin : vp_in i n) (hdg : decode cc pc = .ok (.aastore, 1))
    (kk : ∀ (H1 : Heap) (locs1 : List Loc), va_P D cl (ws.set q0 (a, .inl (cA, n, rfs (va_up f i.toNatClampNeg (some v))))) H1 → va_D A (ws.set q0 (a, .inl (cA, n, rfs (va_up f i.toNatClampNeg (some v))))) → va_S A H0 H1 locs1 → W p l e R s m args below meth c H1 locs1 cells slots Q (F0 m (pc + 1) ls rest)) : W p l e R s m args below meth c H locs cells slots Q (F0 m pc ls (.ref v :: .int i :: .ref a :: rest)) := by
  have hlt : i.toNatClampNeg < n := Nat.not_le.mp fun q => hin (Or.inr q)
  have h0 : ¬ i < 0 := fun q => hin (Or.inl q)
  obtain ⟨kA, kB, k1, k2, k3⟩ := ar_cls hO (hK.2 t0 _ ht) (hK.2 t1 _ ht1).2 hp
  have hc : (vp_cell cB x).cls = cB ∧ (vp_cell cB x).vm = .none := by
    obtain ⟨n9, f9 | f9 | f9 | f9 | f9⟩ := x <;> exact ⟨rfl, rfl⟩
  refine W.aast (v := v) hexec hb (hP q0 _ ha) (fun q h => by cases h) (fun h => by cases h) k1 k2 rfl k3 ⟨h0, by show _ < (arrV _ _ _).slots.size; rw [arrV_size]; exact hlt⟩ (hP qk _ hv) (fun q h => by rw [hc.2] at h; cases h) (by rw [hc.1]; exact k3) (by rw [hc.1]; exact va_asg _ _) rfl rfl hdg fun H1 e z oq => ?_
  refine kk H1 _ (hP.set hD ha ?_ oq) (hD.set ha) (hS.put z oq (hD.2 q0 _ ha))
  show H1[a]? = some (vp_cell _ _)
  rw [e]
  rw [vp_cell_q, vp_cell_q, arrV_store]
  congr 2
  funext q
  by_cases hq : q = i.toNatClampNeg
  · subst hq
    simp [updV, va_up, va_rf]
  · simp [updV, va_up, hq]
theorem ar_new (hexec : p.tables.exec = Jvm.exec) (hb : c.code = cc) {own : String} {ty : FieldType} {index : Nat} (hown : s.vm.findClass own = some m.cls) (hclink : (Cond.classLink own index (FieldType.array ty).toString).before args s = true) (hO : va_AOA ty s) (hK : va_K D cl tys s) (hP : va_P D cl ws H) (hD : va_D A ws) (hS : va_S A H0 H locs) (hA : ∀ q, H0.size ≤ q → A q)
    {n : Int32} {N' : Nat} (hn : ¬ n < 0) (hN : n.toNatClampNeg = N') (hbytes : N' * 4 ≤ 536870912) (hcells : cells + 1 ≤ R.cells) (hslots : slots + N' ≤ R.slots) (t0 : Nat) {cA : ClassId} (ht : tys[t0]? = some (cA, .array ty)) (hdg : decode cc pc = .ok (.anewarray index, 3))
    (kk : ∀ (q : Nat) (H1 : Heap), va_P D cl (ws ++ [(q, .inl (cA, N', rfs (fun _ => none)))]) H1 → va_D A (ws ++ [(q, .inl (cA, N', rfs (fun _ => none)))]) → va_S A H0 H1 locs →
      W p l e R s m args below meth c H1 locs (cells + 1) (slots + N') Q (F0 m (pc + 3) ls (.ref q :: rest))) : W p l e R s m args below meth c H locs cells slots Q (F0 m pc ls (.int n :: rest)) := by
  subst hN
  intro T hT X
  obtain ⟨vm₁, cA', kA, comp, -, f1, f2, f3, f4, X', st⟩ := X.anewarrayArrK hexec hown hclink (va_AOA.use hO) (g := F0 m pc ls (.int n :: rest)) rfl (by rw [hb]; exact hdg) rfl hn hbytes hcells hslots
  have eA : cA = cA' := Option.some.inj ((hK.2 t0 _ ht).2.symm.trans f1)
  subst eA
  generalize hH1 : H.push ({ cls := cA, slots := Array.replicate n.toNatClampNeg .null, vm := .none } : Cell) = H1
  have z1 : H1.size = H.size + 1 := by rw [← hH1, Array.size_push]
  have e1 : H1[H.size]? = some (arrV cA n.toNatClampNeg (fun _ => .null)) := by rw [← hH1, Array.getElem?_push_size, ← arrV_new]
  have o1 : ∀ q : Nat, q < H.size → H1[q]? = H[q]? := fun q hq => by rw [← hH1, Array.getElem?_push, if_neg (Nat.ne_of_lt hq)]
  have hk : ∀ (k : Nat) (x : Nat × va_E), ws[k]? = some x → H1[x.1]? = H[x.1]? := fun k x hx => o1 x.1 ((hP k x hx).lt)
  have hTh : ((T.setVm vm₁).pushCell { cls := cA, slots := Array.replicate n.toNatClampNeg .null, vm := .none }).heap = H1 := by rw [← hH1, ← hT]; rfl
  obtain ⟨t2, a1, b1⟩ := kk H.size H1 ((hP.kept hk).app (fun k x hx => by
      have hz : k < 1 := (List.getElem?_eq_some_iff.mp hx).1
      rw [show k = 0 by omega] at hx
      cases hx
      show H1[H.size]? = some (vp_cell _ _)
      rw [vp_cell_q]
      exact e1)) (hD.push hP rfl (hA _ hS.1)) ⟨Nat.le_trans hS.1 (by omega), fun x h1 h2 => (o1 x (Nat.lt_of_lt_of_le h1 hS.1)).trans (hS.2.1 x h1 h2), hS.2.2⟩ _ hTh X'
  exact ⟨t2, st t2 (by rw [hT]; exact a1), b1⟩
/-- the content of an array of references, below its length -/
theorem ar_congr {X Y : va_W} {cA : ClassId} {n q : Nat} {f g : Nat → Option Nat} (hP : va_P D cl (X ++ ((q, .inl (cA, n, rfs f)) :: Y)) H) (h : ∀ i, i < n → f i = g i) : va_P D cl (X ++ ((q, .inl (cA, n, rfs g)) :: Y)) H := by
  intro k x hk
  by_cases h1 : k < X.length
  · rw [List.getElem?_append_left h1] at hk
    exact hP k x (by rw [List.getElem?_append_left h1]; exact hk)
  · rw [List.getElem?_append_right (by omega)] at hk
    by_cases h2 : k - X.length = 0
    · rw [h2] at hk
      cases hk
      have hp := hP X.length (q, .inl (cA, n, rfs f)) (by rw [List.getElem?_append_right (by omega), Nat.sub_self]; rfl)
      have hp : H[q]? = some (vp_cell cA (n, rfs f)) := hp
      show H[q]? = some (vp_cell cA (n, rfs g))
      rw [hp, vp_cell_q, vp_cell_q]
      unfold arrV
      congr 2
      refine Array.ext (by simp) (fun i h3 h4 => ?_)
      have hi : i < n := by simpa using h3
      simp [h i hi]
    · refine hP k x ?_
      rw [List.getElem?_append_right (by omega)]
      obtain ⟨j, hj⟩ : ∃ j, k - X.length = j + 1 := ⟨k - X.length - 1, by omega⟩
      rw [hj] at hk ⊢
      exact hk
end VAA
