/-! the Sim's constructor; one kind more -/
theorem sI : (FieldType.array .int).toString = "[I" := by decide +kernel
theorem sII : "[" ++ (FieldType.array .int).toString = "[[I" := by decide +kernel
theorem sZZ : "[" ++ (FieldType.array .boolean).toString = "[[Z" := by decide +kernel
theorem pl_rows (r : Nat → Nat) (f : Nat → va_E) (v : va_E) : va_pl ([] ++ (List.range 12).map r) (vr_up f ((List.range 12).map r) v) = (List.range 12).map (fun i => (r i, v)) := by
  unfold va_pl
  rw [List.nil_append, List.map_map]
  apply List.map_congr_left
  intro i hi
  show (r i, vr_up f ((List.range 12).map r) v (r i)) = (r i, v)
  rw [vr_up_in (List.mem_map.mpr ⟨i, hi, rfl⟩)]
theorem ar_congrD {A : Nat → Prop} {X Y : va_W} {q : Nat} {e e' : va_E} (h : va_D A (X ++ ((q, e) :: Y))) : va_D A (X ++ ((q, e') :: Y)) := by
  rw [va_D_iff] at h ⊢
  refine ⟨by simpa using h.1, fun x hx => ?_⟩
  rcases List.mem_append.mp hx with h1 | h1
  · exact h.2 x (List.mem_append_left _ h1)
  · rcases List.mem_cons.mp h1 with h2 | h2
    · subst h2
      exact h.2 (q, e) (List.mem_append_right _ List.mem_cons_self)
    · exact h.2 x (List.mem_append_right _ (List.mem_cons_of_mem _ h2))
/-- a new Sim, of whose shelves n are free -/
def zi (n : Nat) : SSt := (fun _ => 0, 0, fun _ _ => 0, (fun i c => if i < n ∧ (c = 0 ∨ c = 2) then -1 else 0), fun _ => 0, fun _ _ => 0)
theorem zi_up {i : Nat} : zHs (zHs (zi i) i (upd (zH (zi i) i) 2 (-1))) i (upd (zH (zHs (zi i) i (upd (zH (zi i) i) 2 (-1))) i) 0 (-1)) = zi (i + 1) := by
  refine Prod.ext rfl (Prod.ext rfl (Prod.ext rfl (Prod.ext (funext fun j => funext fun c => ?_) rfl)))
  simp only [zHs, zH, zi, upd]
  by_cases hj : j = i
  · subst hj
    by_cases h0 : c = 0
    · subst h0; simp [upd]
    · by_cases h2 : c = 2
      · subst h2; simp [upd]
      · simp [upd, h0, h2]
  · have e : (j < i + 1) ↔ j < i := by omega
    simp [hj, e]
theorem SW_zi (c5 : Nat → ClassId) (q0 qk qs qt : Nat) (rH rB : Nat → Nat) : [(q0, (.inr (3, [.int 0, .int 0, .int 0, .int 0, .ref qk, .ref qs, .ref qt]) : va_E)), (qk, .inl (c5 4, 0, rfs (fun _ => some 0))), (qs, .inl (c5 4, 12, rfs (fun i => some (rH i)))), (qt, .inl (c5 5, 12, rfs (fun i => some (rB i))))] ++ ((List.range 12).map (fun i => (rH i, (.inl (c5 3, 3, .inl (fun _ => (0 : Int32))) : va_E))) ++ ((List.range 12).map (fun i => (rB i, (.inl (c5 2, 0, .inl (fun _ => (0 : Int32))) : va_E))) ++ [])) = SW c5 (fun n => match n with | 0 => q0 | 1 => qk | 2 => qs | _ => qt) (fun _ => 0, rH, rB) (zi 0) := by
  have e1 : (List.range 12).map (ceZH c5 (fun _ => 0, rH, rB) (zi 0)) = (List.range 12).map (fun i => (rH i, (.inl (c5 3, 3, .inl (fun _ => (0 : Int32))) : va_E))) := by
    apply List.map_congr_left
    intro i _
    have : zH (zi 0) i = fun _ => 0 := by funext c; simp [zH, zi]
    simp [ceZH, bH, this]
  have e2 : (List.range 12).map (ceZB c5 (fun _ => 0, rH, rB) (zi 0)) = (List.range 12).map (fun i => (rB i, (.inl (c5 2, 0, .inl (fun _ => (0 : Int32))) : va_E))) := by
    apply List.map_congr_left
    intro i _
    rfl
  unfold SW
  rw [e1, e2]
  rfl
theorem z_perm {α : Type} (W R1 R2 : List α) (t : α) : (((W ++ R1) ++ [t]) ++ R2).Perm ((W ++ [t]) ++ (R1 ++ (R2 ++ []))) := by
  rw [List.append_nil, List.append_assoc, List.append_assoc, List.append_assoc]
  refine List.Perm.append_left W ?_
  rw [← List.append_assoc, ← List.append_assoc]
  exact List.Perm.append_right R2 List.perm_append_comm
set_option maxHeartbeats 4000000 in
set_option maxRecDepth 100000 in
theorem c_X3_init (l : Launch) (D : va_G) (c5 : Nat → ClassId) (q0 : Nat) (sz : Nat) : Met l yX3_init (ws_ yX3_init cX3_init 5 none) { frames := 1, cells := 27, slots := 60, locals := 12 } (va_Pc [.ref q0] (swB D c5 [(q0, .inr (3, [.int 0, .int 0, .int 0, .int 0, .null, .null, .null]))] sz)) (va_Qv (fun u : (Nat → Nat) × BV => u.1 0 = q0) (rwE D (tyG c5) (va_A [(q0, .inr (3, [.int 0, .int 0, .int 0, .int 0, .null, .null, .null]))] sz) (fun u : (Nat → Nat) × BV => SW c5 u.1 u.2 (zi 12))) (va_A [(q0, .inr (3, [.int 0, .int 0, .int 0, .int 0, .null, .null, .null]))] sz)) 27 60 (va_A [(q0, .inr (3, [.int 0, .int 0, .int 0, .int 0, .null, .null, .null]))] sz) := by
  refine Met.ofW (cc := cX3_init) (maxL := 5) (ret := none) (by decide) rfl ?_
  intro p e s m args below meth c s₁ B hml hv
  obtain ⟨rfl, hsz, hP, hK, hD0, hOI, hOZ⟩ := hv
  have hx := B.exec
  have hb := B.bytes
  have hr := B.returns
  have hts : ∀ w ∈ LA, w.before _ s = true := fun w hw => atoms_spec (ws := ws_ yX3_init cX3_init 5 none) B.pre w (List.mem_cons_of_mem _ hw)
  have hown : s.vm.findClass RX3 = some m.cls := findClass_of_methodNamed B.named
  have hlocks := B.notSynchronized
  have hin : meth.name = "<init>" := (name_of_methodNamed B.named B.method).1
  subst hsz
  have hD := hD0.self (sz := s.heap.size)
  generalize hAe : va_A [(q0, .inr (3, [.int 0, .int 0, .int 0, .int 0, .null, .null, .null]))] s.heap.size = A at hD ⊢
  have hA : ∀ q : Nat, s.heap.size ≤ q → A q := fun q h => by rw [← hAe]; exact Or.inr h
  have hS : va_S A s.heap s.heap [] := va_S.rf
  have hl := lv_entry ([.ref q0] : List Value) (n := 5) (Nat.le_of_ble_eq_true rfl)
  rw [lg_entry_eq]
  generalize (lg_sl ([.ref q0] : List Value) ++ List.replicate (5 - (lg_sl ([.ref q0] : List Value)).length) Slot.unset).toArray = ls at hl ⊢
  have hl : lv_has ls 5 [(0, .ref q0)] := hl
  refine lv_aload_n hx hb dX3_init_0 rfl (lv_at hl 0 rfl) ?_
  refine W.objInit hx hb hown (hts _ wT3_5) (hts _ wT1_17) (hts _ wT1_18) rfl (by rw [hml]; exact hl.1) rfl dX3_init_1 (Nat.le_of_ble_eq_true rfl) (Nat.le_of_ble_eq_true rfl) ?_
  refine W.eq (g2 := F0 m 4 ls []) rfl ?_
  refine lv_aload_n hx hb dX3_init_4 rfl (lv_at hl 0 rfl) ?_
  refine lv_iconst (v := (0 : Int32)) hx hb dX3_init_5 (by decide) ?_
  refine ar_new (ty := .int) (N' := 0) hx hb hown (by rw [sI]; exact hts _ wT3_6) hOI hK hP hD hS hA (by decide) (by decide) (by decide) (Nat.le_of_ble_eq_true rfl) (Nat.le_of_ble_eq_true rfl) 4 rfl dX3_init_6 (fun qk H hP hD hS => ?_)
  refine va_put (D := D) (ci := 3) (v := .ref qk) (ty := (.array (.array .int))) (C := RX3) (T := TX3) (N := 7) hx hb hts iX3 tyX3 tyX3_ok nmX3 hown hK hP hD hS 0 rfl rfl 4 (by decide) (hts _ wT3_16) (fun _ h9 => h9) rfl (by decide +kernel) rfl rfl (Nat.le_of_ble_eq_true rfl) dX3_init_9 (fun H locs hP hD hS => ?_)
  have hP : va_P D vwCl [(q0, (.inr (3, [.int 0, .int 0, .int 0, .int 0, .ref qk, .null, .null]) : va_E)), (qk, .inl (c5 4, 0, rfs (fun _ => none)))] H := hP
  have hD : va_D A [(q0, (.inr (3, [.int 0, .int 0, .int 0, .int 0, .ref qk, .null, .null]) : va_E)), (qk, .inl (c5 4, 0, rfs (fun _ => none)))] := hD
  refine lv_aload_n hx hb dX3_init_12 rfl (lv_at hl 0 rfl) ?_
  refine lv_bipush (v := (12 : Int32)) hx hb dX3_init_13 (by decide) ?_
  refine lv_iconst (v := (3 : Int32)) hx hb dX3_init_15 (by decide) ?_
  refine va_mna (X := [(q0, (.inr (3, [.int 0, .int 0, .int 0, .int 0, .ref qk, .null, .null]) : va_E)), (qk, .inl (c5 4, 0, rfs (fun _ => none)))]) (L := []) (f := fun _ => .inl (c5 0, 0, .inl fun _ => 0)) (ty := .int) (cy := c5 3) (N' := 12) (K' := 3) (z := (3, .inl (fun _ => (0 : Int32)))) hx hb hown (by rw [sII]; exact hts _ wT3_8) hOI (hts _ wT2_184) (hK.2 3 _ rfl).2 hK (i1_P hP) (i1_D hD) hS hA (by decide) (by decide) (by decide) (by decide) (by decide) (by decide) (by decide) rfl rfl (Nat.le_of_ble_eq_true rfl) (Nat.le_of_ble_eq_true rfl) (fun c9 => by show ({ cls := c9, slots := Array.replicate 3 (.int 0), vm := .none } : Cell) = _; rw [arrV_new]; rfl) dX3_init_16 (fun qs rH cA H hinj16 _ hK9 hP hD hS => ?_)
  obtain rfl : cA = c5 4 := ca_eq (i := 6) (j := 4) hK9 rfl rfl
  rw [pl_rows] at hP hD
  have hP : va_P D vwCl ([(q0, (.inr (3, [.int 0, .int 0, .int 0, .int 0, .ref qk, .null, .null]) : va_E)), (qk, .inl (c5 4, 0, rfs (fun _ => none))), (qs, .inl (c5 4, 12, rfs (fun i => if i < 12 then some (rH i) else none)))] ++ (List.range 12).map (fun i => (rH i, (.inl (c5 3, 3, .inl (fun _ => (0 : Int32))) : va_E)))) H := hP
  have hD : va_D A ([(q0, (.inr (3, [.int 0, .int 0, .int 0, .int 0, .ref qk, .null, .null]) : va_E)), (qk, .inl (c5 4, 0, rfs (fun _ => none))), (qs, .inl (c5 4, 12, rfs (fun i => if i < 12 then some (rH i) else none)))] ++ (List.range 12).map (fun i => (rH i, (.inl (c5 3, 3, .inl (fun _ => (0 : Int32))) : va_E)))) := hD
  refine va_put (D := D) (ci := 3) (v := .ref qs) (ty := (.array (.array .int))) (C := RX3) (T := TX3) (N := 7) hx hb hts iX3 tyX3 tyX3_ok nmX3 hown hK hP hD hS 0 rfl rfl 5 (by decide) (hts _ wT3_18) (fun _ h9 => h9) rfl (by decide +kernel) rfl rfl (Nat.le_of_ble_eq_true rfl) dX3_init_20 (fun H locs hP hD hS => ?_)
  have hP : va_P D vwCl ([(q0, (.inr (3, [.int 0, .int 0, .int 0, .int 0, .ref qk, .ref qs, .null]) : va_E)), (qk, .inl (c5 4, 0, rfs (fun _ => none))), (qs, .inl (c5 4, 12, rfs (fun i => if i < 12 then some (rH i) else none)))] ++ (List.range 12).map (fun i => (rH i, (.inl (c5 3, 3, .inl (fun _ => (0 : Int32))) : va_E)))) H := hP
  have hD : va_D A ([(q0, (.inr (3, [.int 0, .int 0, .int 0, .int 0, .ref qk, .ref qs, .null]) : va_E)), (qk, .inl (c5 4, 0, rfs (fun _ => none))), (qs, .inl (c5 4, 12, rfs (fun i => if i < 12 then some (rH i) else none)))] ++ (List.range 12).map (fun i => (rH i, (.inl (c5 3, 3, .inl (fun _ => (0 : Int32))) : va_E)))) := hD
  refine lv_aload_n hx hb dX3_init_23 rfl (lv_at hl 0 rfl) ?_
  refine lv_bipush (v := (12 : Int32)) hx hb dX3_init_24 (by decide) ?_
  refine lv_iconst (v := (0 : Int32)) hx hb dX3_init_26 (by decide) ?_
  refine va_mna (X := ([(q0, (.inr (3, [.int 0, .int 0, .int 0, .int 0, .ref qk, .ref qs, .null]) : va_E)), (qk, .inl (c5 4, 0, rfs (fun _ => none))), (qs, .inl (c5 4, 12, rfs (fun i => if i < 12 then some (rH i) else none)))] ++ (List.range 12).map (fun i => (rH i, (.inl (c5 3, 3, .inl (fun _ => (0 : Int32))) : va_E))))) (L := []) (f := fun _ => .inl (c5 0, 0, .inl fun _ => 0)) (ty := .boolean) (cy := c5 2) (N' := 12) (K' := 0) (z := (0, .inl (fun _ => (0 : Int32)))) hx hb hown (by rw [sZZ]; exact hts _ wT3_9) hOZ (hts _ wT1_59) (hK.2 2 _ rfl).2 hK (i1_P hP) (i1_D hD) hS hA (by decide) (by decide) (by decide) (by decide) (by decide) (by decide) (by decide) rfl rfl (Nat.le_of_ble_eq_true rfl) (Nat.le_of_ble_eq_true rfl) (fun c9 => by show ({ cls := c9, slots := Array.replicate 0 (.int 0), vm := .none } : Cell) = _; rw [arrV_new]; rfl) dX3_init_27 (fun qt rB cA H hinj27 _ hK9 hP hD hS => ?_)
  obtain rfl : cA = c5 5 := ca_eq (i := 6) (j := 5) hK9 rfl rfl
  rw [pl_rows] at hP hD
  refine va_put (D := D) (ci := 3) (v := .ref qt) (ty := (.array (.array .boolean))) (C := RX3) (T := TX3) (N := 7) hx hb hts iX3 tyX3 tyX3_ok nmX3 hown hK hP hD hS 0 rfl rfl 6 (by decide) (hts _ wT3_19) (fun _ h9 => h9) rfl (by decide +kernel) rfl rfl (Nat.le_of_ble_eq_true rfl) dX3_init_31 (fun H locs hP hD hS => ?_)
  have hP : va_P D vwCl ((([(q0, (.inr (3, [.int 0, .int 0, .int 0, .int 0, .ref qk, .ref qs, .ref qt]) : va_E)), (qk, .inl (c5 4, 0, rfs (fun _ => none))), (qs, .inl (c5 4, 12, rfs (fun i => if i < 12 then some (rH i) else none)))] ++ (List.range 12).map (fun i => (rH i, (.inl (c5 3, 3, .inl (fun _ => (0 : Int32))) : va_E)))) ++ [(qt, .inl (c5 5, 12, rfs (fun i => if i < 12 then some (rB i) else none)))]) ++ (List.range 12).map (fun i => (rB i, (.inl (c5 2, 0, .inl (fun _ => (0 : Int32))) : va_E)))) H := hP
  have hD : va_D A ((([(q0, (.inr (3, [.int 0, .int 0, .int 0, .int 0, .ref qk, .ref qs, .ref qt]) : va_E)), (qk, .inl (c5 4, 0, rfs (fun _ => none))), (qs, .inl (c5 4, 12, rfs (fun i => if i < 12 then some (rH i) else none)))] ++ (List.range 12).map (fun i => (rH i, (.inl (c5 3, 3, .inl (fun _ => (0 : Int32))) : va_E)))) ++ [(qt, .inl (c5 5, 12, rfs (fun i => if i < 12 then some (rB i) else none)))]) ++ (List.range 12).map (fun i => (rB i, (.inl (c5 2, 0, .inl (fun _ => (0 : Int32))) : va_E)))) := hD
  have hP := va_P.perm (z_perm _ _ _ _) hP
  have hD := va_D.perm (z_perm _ _ _ _) hD
  have hP := ar_congr (X := [(q0, (.inr (3, [.int 0, .int 0, .int 0, .int 0, .ref qk, .ref qs, .ref qt]) : va_E))]) (Y := [(qs, .inl (c5 4, 12, rfs (fun i => if i < 12 then some (rH i) else none))), (qt, .inl (c5 5, 12, rfs (fun i => if i < 12 then some (rB i) else none)))] ++ ((List.range 12).map (fun i => (rH i, (.inl (c5 3, 3, .inl (fun _ => (0 : Int32))) : va_E))) ++ ((List.range 12).map (fun i => (rB i, (.inl (c5 2, 0, .inl (fun _ => (0 : Int32))) : va_E))) ++ []))) (cA := c5 4) (n := 0) (q := qk) (f := fun _ => none) (g := fun _ => some 0) hP (fun i h => absurd h (Nat.not_lt_zero i))
  have hD := ar_congrD (X := [(q0, (.inr (3, [.int 0, .int 0, .int 0, .int 0, .ref qk, .ref qs, .ref qt]) : va_E))]) (Y := [(qs, .inl (c5 4, 12, rfs (fun i => if i < 12 then some (rH i) else none))), (qt, .inl (c5 5, 12, rfs (fun i => if i < 12 then some (rB i) else none)))] ++ ((List.range 12).map (fun i => (rH i, (.inl (c5 3, 3, .inl (fun _ => (0 : Int32))) : va_E))) ++ ((List.range 12).map (fun i => (rB i, (.inl (c5 2, 0, .inl (fun _ => (0 : Int32))) : va_E))) ++ []))) (q := qk) (e := .inl (c5 4, 0, rfs (fun _ => none))) (e' := .inl (c5 4, 0, rfs (fun _ => some 0))) hD
  have hP := ar_congr (X := [(q0, (.inr (3, [.int 0, .int 0, .int 0, .int 0, .ref qk, .ref qs, .ref qt]) : va_E)), (qk, .inl (c5 4, 0, rfs (fun _ => some 0)))]) (Y := [(qt, .inl (c5 5, 12, rfs (fun i => if i < 12 then some (rB i) else none)))] ++ ((List.range 12).map (fun i => (rH i, (.inl (c5 3, 3, .inl (fun _ => (0 : Int32))) : va_E))) ++ ((List.range 12).map (fun i => (rB i, (.inl (c5 2, 0, .inl (fun _ => (0 : Int32))) : va_E))) ++ []))) (cA := c5 4) (n := 12) (q := qs) (f := fun i => if i < 12 then some (rH i) else none) (g := fun i => some (rH i)) hP (fun i h => if_pos h)
  have hD := ar_congrD (X := [(q0, (.inr (3, [.int 0, .int 0, .int 0, .int 0, .ref qk, .ref qs, .ref qt]) : va_E)), (qk, .inl (c5 4, 0, rfs (fun _ => some 0)))]) (Y := [(qt, .inl (c5 5, 12, rfs (fun i => if i < 12 then some (rB i) else none)))] ++ ((List.range 12).map (fun i => (rH i, (.inl (c5 3, 3, .inl (fun _ => (0 : Int32))) : va_E))) ++ ((List.range 12).map (fun i => (rB i, (.inl (c5 2, 0, .inl (fun _ => (0 : Int32))) : va_E))) ++ []))) (q := qs) (e := .inl (c5 4, 12, rfs (fun i => if i < 12 then some (rH i) else none))) (e' := .inl (c5 4, 12, rfs (fun i => some (rH i)))) hD
  have hP := ar_congr (X := [(q0, (.inr (3, [.int 0, .int 0, .int 0, .int 0, .ref qk, .ref qs, .ref qt]) : va_E)), (qk, .inl (c5 4, 0, rfs (fun _ => some 0))), (qs, .inl (c5 4, 12, rfs (fun i => some (rH i))))]) (Y := ((List.range 12).map (fun i => (rH i, (.inl (c5 3, 3, .inl (fun _ => (0 : Int32))) : va_E))) ++ ((List.range 12).map (fun i => (rB i, (.inl (c5 2, 0, .inl (fun _ => (0 : Int32))) : va_E))) ++ []))) (cA := c5 5) (n := 12) (q := qt) (f := fun i => if i < 12 then some (rB i) else none) (g := fun i => some (rB i)) hP (fun i h => if_pos h)
  have hD := ar_congrD (X := [(q0, (.inr (3, [.int 0, .int 0, .int 0, .int 0, .ref qk, .ref qs, .ref qt]) : va_E)), (qk, .inl (c5 4, 0, rfs (fun _ => some 0))), (qs, .inl (c5 4, 12, rfs (fun i => some (rH i))))]) (Y := ((List.range 12).map (fun i => (rH i, (.inl (c5 3, 3, .inl (fun _ => (0 : Int32))) : va_E))) ++ ((List.range 12).map (fun i => (rB i, (.inl (c5 2, 0, .inl (fun _ => (0 : Int32))) : va_E))) ++ []))) (q := qt) (e := .inl (c5 5, 12, rfs (fun i => if i < 12 then some (rB i) else none))) (e' := .inl (c5 5, 12, rfs (fun i => some (rB i)))) hD
  have key : ∃ (bo : Nat → Nat) (bv : BV), bo 0 = q0 ∧ va_P D vwCl (SW c5 bo bv (zi 0)) H ∧ va_D A (SW c5 bo bv (zi 0)) := ⟨_, _, rfl, wP (SW_zi c5 q0 qk qs qt rH rB) hP, wD (SW_zi c5 q0 qk qs qt rH rB) hD⟩
  clear hP hD
  obtain ⟨bo, bv, rfl, hP, hD⟩ := key
  refine lv_aload_n hx hb dX3_init_34 rfl (lv_at hl 0 rfl) ?_
  refine va_get (D := D) (ci := 3) (v := .ref (bo 2)) (C := RX3) (T := TX3) (N := 7) hx hb hts iX3 hown hK hP 0 (SW_0 c5 bo bv (zi 0)) rfl 5 (by decide) (hts _ wT3_18) (fun _ h9 => h9) rfl dX3_init_35 ?_
  refine lv_astore_n (i := 1) (lv' := [(1, .ref (bo 2)), (0, .ref (bo 0))]) hx hb dX3_init_38 rfl hl (by decide) rfl (fun ls hl => ?_)
  refine lv_aload_n hx hb dX3_init_39 rfl (lv_at hl 0 rfl) ?_
  refine va_alen (v := (12 : Int32)) hx hb hK hP 2 4 (SW_2 c5 bo bv (zi 0)) rfl rfl dX3_init_40 ?_
  refine lv_istore_n (i := 2) (lv' := [(2, .int (12 : Int32)), (1, .ref (bo 2)), (0, .ref (bo 0))]) hx hb dX3_init_41 rfl hl (by decide) rfl (fun ls hl => ?_)
  refine lv_iconst (v := (0 : Int32)) hx hb dX3_init_42 (by decide) ?_
  refine lv_istore_n (i := 3) (lv' := [(3, .int (0 : Int32)), (2, .int (12 : Int32)), (1, .ref (bo 2)), (0, .ref (bo 0))]) hx hb dX3_init_43 rfl hl (by decide) rfl (fun ls hl => ?_)
  refine W.widen (k := 27) (n := 60) (by omega) (by omega) ?_
  suffices LP : ∀ (d i : Nat) (H : Heap) (locs : List Loc) (ls : Array Slot), i + d = 12 → lv_has ls 5 [(0, .ref (bo 0)), (1, .ref (bo 2)), (2, .int (12 : Int32)), (3, .int (nI i))] → va_P D vwCl (SW c5 bo bv (zi i)) H → va_D A (SW c5 bo bv (zi i)) → va_S A s.heap H locs → W p l e (headSpec (ws_ yX3_init cX3_init 5 none) { frames := 1, cells := 27, slots := 60, locals := 12 }).room s m ([.ref (bo 0)] : List Value).toArray below meth c H locs 27 60 (MQ below (va_Qv (fun u : (Nat → Nat) × BV => u.1 0 = bo 0) (rwE D (tyG c5) A (fun u : (Nat → Nat) × BV => SW c5 u.1 u.2 (zi 12))) A) ([.ref (bo 0)] : List Value).toArray s 27 60 A) (F0 m 44 ls []) from LP 12 0 _ _ ls rfl (lv_sub hl [3, 2, 1, 0] rfl) hP hD hS
  intro d
  induction d with
  | zero =>
    intro i H locs ls hi hl hP hD hS
    obtain rfl : i = 12 := by omega
    refine lv_iload_n hx hb dX3_init_44 rfl (lv_at hl 3 rfl) ?_
    refine lv_iload_n hx hb dX3_init_45 rfl (lv_at hl 2 rfl) ?_
    refine lv_icmp_ge (tgt := 70) hx hb dX3_init_46 (by decide) (fun _ => ?_) (fun q => absurd (by decide) q)
    exact W.vret hx hb hr (fun t ht hW => ⟨⟨(bo, bv), rfl, rfl, by rw [ht]; exact hP, va_K.moved hW.alike hK, hD⟩, hS.F ht⟩) hS.2.2 dX3_init_70 hlocks
  | succ d ih =>
    intro i H locs ls hi hl hP hD hS
    have hi12 : i < 12 := by omega
    refine lv_iload_n hx hb dX3_init_44 rfl (lv_at hl 3 rfl) ?_
    refine lv_iload_n hx hb dX3_init_45 rfl (lv_at hl 2 rfl) ?_
    refine lv_icmp_ge (tgt := 70) hx hb dX3_init_46 (by decide) (fun q => absurd q (nI_nge hi12)) (fun _ => ?_)
    refine lv_aload_n hx hb dX3_init_49 rfl (lv_at hl 1 rfl) ?_
    refine lv_iload_n hx hb dX3_init_50 rfl (lv_at hl 3 rfl) ?_
    refine ar_ld (y := bH bv i) hx hb hK hP 2 4 (SW_2 c5 bo bv (zi i)) rfl (inb_in (nI_inb hi12)) (by rw [nI_cl hi12]) dX3_init_51 ?_
    refine lv_astore (i := 4) (lv' := [(4, .ref (bH bv i)), (0, .ref (bo 0)), (1, .ref (bo 2)), (2, .int (12 : Int32)), (3, .int (nI i))]) hx hb dX3_init_52 hl (by decide) rfl (fun ls hl => ?_)
    refine lv_aload hx hb dX3_init_54 (lv_at hl 0 rfl) ?_
    refine lv_iconst (v := (0 : Int32)) hx hb dX3_init_56 (by decide) ?_
    refine lv_aload hx hb dX3_init_57 (lv_at hl 0 rfl) ?_
    refine lv_iconst (v := (2 : Int32)) hx hb dX3_init_59 (by decide) ?_
    refine lv_iconst (v := (-1 : Int32)) hx hb dX3_init_60 (by decide) ?_
    refine lv_dup_x2 hx hb dX3_init_61 rfl rfl rfl ?_
    refine va_iast hx hb hK hP hD hS (4 + i) 3 (SW_H c5 bo bv (zi i) hi12) rfl (inb_in (i := 2) (n := 3) (by decide)) dX3_init_62 (fun H locs hP hD hS => ?_)
    have hP := wP (SW_setH c5 bo bv (zi i) hi12 _) hP
    have hD := wD (SW_setH c5 bo bv (zi i) hi12 _) hD
    refine va_iast hx hb hK hP hD hS (4 + i) 3 (SW_H c5 bo bv _ hi12) rfl (inb_in (i := 0) (n := 3) (by decide)) dX3_init_63 (fun H locs hP hD hS => ?_)
    have hP := wP (SW_setH c5 bo bv _ hi12 _) hP
    have hD := wD (SW_setH c5 bo bv _ hi12 _) hD
    rw [show ((2 : Int32).toNatClampNeg) = 2 from by decide, show ((0 : Int32).toNatClampNeg) = 0 from by decide] at hP hD
    rw [zi_up] at hP hD
    refine lv_iinc (v := nI (i + 1)) (lv' := [(3, .int (nI (i + 1))), (4, .ref (bH bv i)), (0, .ref (bo 0)), (1, .ref (bo 2)), (2, .int (12 : Int32))]) hx hb dX3_init_64 hl (k := 4) rfl (nI_s i) (by decide) rfl (fun ls hl => ?_)
    refine lv_goto (tgt := 44) hx hb dX3_init_67 (by decide) ?_
    exact ih (i + 1) H locs ls (by omega) (lv_sub hl [2, 3, 4, 0] rfl) hP hD hS
