set_option maxHeartbeats 4000000 in
set_option maxRecDepth 100000 in
theorem c_X3_thrown (l : Launch) (D : va_G) (c5 : Nat → ClassId) (b : Nat → Nat) (m : MSt) (r : Int32) (h : R_X3_thrown m = some r) : Met l yX3_thrown (ws_ yX3_thrown cX3_thrown 1 (some .int)) { frames := 0, cells := 0, slots := 0, locals := 0 } (va_Pc [.ref (b 0)] (roB D (tyG c5) (MW c5 b m))) (vp_Si (fun x => x = r)) 0 0 (fun _ => False) := by
  refine Met.ofW (cc := cX3_thrown) (maxL := 1) (ret := (some .int)) (by decide) rfl ?_
  intro p e s m9 args below meth c s₁ B hml hv
  obtain ⟨rfl, hP, hK⟩ := hv
  have hx := B.exec
  have hb := B.bytes
  have hr := B.returns
  have hts : ∀ w ∈ LA, w.before _ s = true := fun w hw => atoms_spec (ws := ws_ yX3_thrown cX3_thrown 1 (some .int)) B.pre w (List.mem_cons_of_mem _ hw)
  have hown : s.vm.findClass RX3 = some m9.cls := findClass_of_methodNamed B.named
  have hlocks := B.notSynchronized
  have hl := lv_entry ([.ref (b 0)] : List Value) (n := 1) (Nat.le_of_ble_eq_true rfl)
  rw [lg_entry_eq]
  generalize (lg_sl ([.ref (b 0)] : List Value) ++ List.replicate (1 - (lg_sl ([.ref (b 0)] : List Value)).length) Slot.unset).toArray = ls at hl ⊢
  have hl : lv_has ls 1 [(0, .ref (b 0))] := hl
  unfold R_X3_thrown at h
  refine lv_aload_n hx hb dX3_thrown_0 rfl (lv_at hl 0 rfl) ?_
  refine va_get (D := D) (ci := 3) (v := .int (mF m 0)) (C := RX3) (T := TX3) (N := 14) hx hb hts iX3 hown hK hP 0 (MW_0 c5 b m) rfl 0 (by decide) (hts _ wT3_28) (fun _ h9 => h9) rfl dX3_thrown_1 ?_
  exact ro_iret hx hb hr hlocks dX3_thrown_4 (Option.some.inj h)
set_option maxHeartbeats 4000000 in
set_option maxRecDepth 100000 in
theorem c_X3_no (l : Launch) (D : va_G) (c5 : Nat → ClassId) (b : Nat → Nat) (m : MSt) (sz : Nat) (p1 : Int32) (r : Int32 × MSt) (h : R_X3_no m p1 = some r) : Met l yX3_no (ws_ yX3_no cX3_no 2 (some .int)) { frames := 0, cells := 0, slots := 0, locals := 0 } (va_Pc [.ref (b 0), .int p1] (rwB D (tyG c5) (MW c5 b m) sz)) (va_Qi (fun x u => x = r.1 ∧ u = r.2) (rwE D (tyG c5) (va_A (MW c5 b m) sz) (fun u => MW c5 b u)) (va_A (MW c5 b m) sz)) 0 0 (va_A (MW c5 b m) sz) := by
  refine Met.ofW (cc := cX3_no) (maxL := 2) (ret := (some .int)) (by decide) rfl ?_
  intro p e s m9 args below meth c s₁ B hml hv
  obtain ⟨rfl, hsz, hP, hK, hD0⟩ := hv
  have hx := B.exec
  have hb := B.bytes
  have hr := B.returns
  have hts : ∀ w ∈ LA, w.before _ s = true := fun w hw => atoms_spec (ws := ws_ yX3_no cX3_no 2 (some .int)) B.pre w (List.mem_cons_of_mem _ hw)
  have hown : s.vm.findClass RX3 = some m9.cls := findClass_of_methodNamed B.named
  have hlocks := B.notSynchronized
  subst hsz
  have hD := hD0.self (sz := s.heap.size)
  generalize hAe : va_A (MW c5 b m) s.heap.size = A at hD ⊢
  have hA : ∀ q : Nat, s.heap.size ≤ q → A q := fun q h => by rw [← hAe]; exact Or.inr h
  have hS : va_S A s.heap s.heap [] := va_S.rf
  have hl := lv_entry ([.ref (b 0), .int p1] : List Value) (n := 2) (Nat.le_of_ble_eq_true rfl)
  rw [lg_entry_eq]
  generalize (lg_sl ([.ref (b 0), .int p1] : List Value) ++ List.replicate (2 - (lg_sl ([.ref (b 0), .int p1] : List Value)).length) Slot.unset).toArray = ls at hl ⊢
  have hl : lv_has ls 2 [(0, .ref (b 0)), (1, .int p1)] := hl
  unfold R_X3_no at h
  refine lv_aload_n hx hb dX3_no_0 rfl (lv_at hl 0 rfl) ?_
  refine lv_iload_n hx hb dX3_no_1 rfl (lv_at hl 1 rfl) ?_
  refine va_put (D := D) (ci := 3) (v := .int p1) (ty := .int) (C := RX3) (T := TX3) (N := 14) hx hb hts iX3 tyX3 tyX3_ok nmX3 hown hK hP hD hS 0 (MW_0 c5 b m) rfl 0 (by decide) (hts _ wT3_28) (fun _ h9 => h9) rfl (by decide +kernel) rfl rfl (Nat.le_of_ble_eq_true rfl) dX3_no_2 (fun H locs hP hD hS => ?_)
  have hP := wP (MW_set0 c5 b m 0 (by decide) _) hP
  have hD := wD (MW_set0 c5 b m 0 (by decide) _) hD
  refine lv_iconst (v := (0 : Int32)) hx hb dX3_no_5 (by decide) ?_
  obtain rfl := (Option.some.inj h)
  exact rw_iret (wf := fun u => MW c5 b u) hx hb hr hlocks hP hK hD hS dX3_no_6 rfl
set_option maxHeartbeats 4000000 in
set_option maxRecDepth 100000 in
theorem c_X3_isIn (l : Launch) (D : va_G) (tys : List (ClassId × FieldType)) (ws : va_W) (p0 : Int32) (p1 : Int32) (p2 : Int32) (r : Int32) (h : R_X3_isIn p0 p1 p2 = some r) : Met l yX3_isIn (ws_ yX3_isIn cX3_isIn 3 (some .boolean)) { frames := 0, cells := 0, slots := 0, locals := 0 } (va_Pc [.int p0, .int p1, .int p2] (roB D (tys) (ws))) (vp_Si (fun x => x = r)) 0 0 (fun _ => False) := by
  refine Met.ofW (cc := cX3_isIn) (maxL := 3) (ret := (some .boolean)) (by decide) rfl ?_
  intro p e s m args below meth c s₁ B hml hv
  obtain ⟨rfl, hP, hK⟩ := hv
  have hx := B.exec
  have hb := B.bytes
  have hr := B.returns
  have hts : ∀ w ∈ LA, w.before _ s = true := fun w hw => atoms_spec (ws := ws_ yX3_isIn cX3_isIn 3 (some .boolean)) B.pre w (List.mem_cons_of_mem _ hw)
  have hown : s.vm.findClass RX3 = some m.cls := findClass_of_methodNamed B.named
  have hlocks := B.notSynchronized
  have hl := lv_entry ([.int p0, .int p1, .int p2] : List Value) (n := 3) (Nat.le_of_ble_eq_true rfl)
  rw [lg_entry_eq]
  generalize (lg_sl ([.int p0, .int p1, .int p2] : List Value) ++ List.replicate (3 - (lg_sl ([.int p0, .int p1, .int p2] : List Value)).length) Slot.unset).toArray = ls at hl ⊢
  have hl : lv_has ls 3 [(0, .int p0), (1, .int p1), (2, .int p2)] := hl
  unfold R_X3_isIn at h
  refine lv_iload_n hx hb dX3_isIn_0 rfl (lv_at hl 0 rfl) ?_
  refine lv_iload_n hx hb dX3_isIn_1 rfl (lv_at hl 1 rfl) ?_
  refine lv_icmp_lt (tgt := 14) hx hb dX3_isIn_2 (by decide) (fun q => ?_) (fun q => ?_)
  · have h := o_t h q
    refine lv_iconst (v := (0 : Int32)) hx hb dX3_isIn_14 (by decide) ?_
    exact ro_zret hx hb hr hlocks dX3_isIn_15 rfl (Option.some.inj h)
  · have h := o_f h q
    refine lv_iload_n hx hb dX3_isIn_5 rfl (lv_at hl 0 rfl) ?_
    refine lv_iload_n hx hb dX3_isIn_6 rfl (lv_at hl 2 rfl) ?_
    refine lv_icmp_gt (tgt := 14) hx hb dX3_isIn_7 (by decide) (fun q => ?_) (fun q => ?_)
    · have h := o_t h q
      refine lv_iconst (v := (0 : Int32)) hx hb dX3_isIn_14 (by decide) ?_
      exact ro_zret hx hb hr hlocks dX3_isIn_15 rfl (Option.some.inj h)
    · have h := o_f h q
      refine lv_iconst (v := (1 : Int32)) hx hb dX3_isIn_10 (by decide) ?_
      refine lv_goto (tgt := 15) hx hb dX3_isIn_11 (by decide) ?_
      exact ro_zret hx hb hr hlocks dX3_isIn_15 rfl (Option.some.inj h)
set_option maxHeartbeats 4000000 in
set_option maxRecDepth 100000 in
theorem c_X3_isKind (l : Launch) (D : va_G) (c5 : Nat → ClassId) (b : Nat → Nat) (m : MSt) (p1 : Int32) (r : Int32) (h : R_X3_isKind m p1 = some r) : Met l yX3_isKind (ws_ yX3_isKind cX3_isKind 2 (some .boolean)) { frames := 1, cells := 0, slots := 0, locals := 22 } (va_Pc [.ref (b 0), .int p1] (roB D (tyG c5) (MW c5 b m))) (vp_Si (fun x => x = r)) 0 0 (fun _ => False) := by
  refine Met.ofW (cc := cX3_isKind) (maxL := 2) (ret := (some .boolean)) (by decide) rfl ?_
  intro p e s m9 args below meth c s₁ B hml hv
  obtain ⟨rfl, hP, hK⟩ := hv
  have hx := B.exec
  have hb := B.bytes
  have hr := B.returns
  have hts : ∀ w ∈ LA, w.before _ s = true := fun w hw => atoms_spec (ws := ws_ yX3_isKind cX3_isKind 2 (some .boolean)) B.pre w (List.mem_cons_of_mem _ hw)
  have hown : s.vm.findClass RX3 = some m9.cls := findClass_of_methodNamed B.named
  have hlocks := B.notSynchronized
  have hl := lv_entry ([.ref (b 0), .int p1] : List Value) (n := 2) (Nat.le_of_ble_eq_true rfl)
  rw [lg_entry_eq]
  generalize (lg_sl ([.ref (b 0), .int p1] : List Value) ++ List.replicate (2 - (lg_sl ([.ref (b 0), .int p1] : List Value)).length) Slot.unset).toArray = ls at hl ⊢
  have hl : lv_has ls 2 [(0, .ref (b 0)), (1, .int p1)] := hl
  unfold R_X3_isKind at h
  refine lv_iload_n hx hb dX3_isKind_0 rfl (lv_at hl 1 rfl) ?_
  refine lv_iconst (v := (0 : Int32)) hx hb dX3_isKind_1 (by decide) ?_
  refine lv_aload_n hx hb dX3_isKind_2 rfl (lv_at hl 0 rfl) ?_
  refine va_get (D := D) (ci := 3) (v := .int (mF m 5)) (C := RX3) (T := TX3) (N := 14) hx hb hts iX3 hown hK hP 0 (MW_0 c5 b m) rfl 5 (by decide) (hts _ wT3_33) (fun _ h9 => h9) rfl dX3_isKind_3 ?_
  refine lv_iconst (v := (1 : Int32)) hx hb dX3_isKind_6 (by decide) ?_
  refine lv_isub hx hb dX3_isKind_7 ?_
  obtain ⟨v8, e8, h⟩ := o_bind h
  refine ro_calli (ro_runS (As := [.int p1, .int (0 : Int32), .int ((mF m 5) - (1 : Int32))]) (rest := []) ⟨hx, hb, hml, hown, hts⟩ hP hK (c_X3_isIn l D (tyG c5) (MW c5 b m) p1 (0 : Int32) ((mF m 5) - (1 : Int32)) v8 e8) gG_RX3_41 hd_X3_isIn ⟨Nat.le_of_ble_eq_true rfl, Nat.le_of_ble_eq_true rfl⟩ ⟨rfl, rfl⟩ hl.1 (Nat.le_of_ble_eq_true rfl) dX3_isKind_8 ⟨Nat.zero_le _, Nat.zero_le _⟩ rfl) ?_
  obtain ⟨gz, h⟩ := o_if h
  exact ro_zret hx hb hr hlocks dX3_isKind_11 gz (Option.some.inj h)
set_option maxHeartbeats 4000000 in
set_option maxRecDepth 100000 in
theorem c_X3_isSpot (l : Launch) (D : va_G) (tys : List (ClassId × FieldType)) (ws : va_W) (p0 : Int32) (r : Int32) (h : R_X3_isSpot p0 = some r) : Met l yX3_isSpot (ws_ yX3_isSpot cX3_isSpot 1 (some .boolean)) { frames := 1, cells := 0, slots := 0, locals := 22 } (va_Pc [.int p0] (roB D (tys) (ws))) (vp_Si (fun x => x = r)) 0 0 (fun _ => False) := by
  refine Met.ofW (cc := cX3_isSpot) (maxL := 1) (ret := (some .boolean)) (by decide) rfl ?_
  intro p e s m args below meth c s₁ B hml hv
  obtain ⟨rfl, hP, hK⟩ := hv
  have hx := B.exec
  have hb := B.bytes
  have hr := B.returns
  have hts : ∀ w ∈ LA, w.before _ s = true := fun w hw => atoms_spec (ws := ws_ yX3_isSpot cX3_isSpot 1 (some .boolean)) B.pre w (List.mem_cons_of_mem _ hw)
  have hown : s.vm.findClass RX3 = some m.cls := findClass_of_methodNamed B.named
  have hlocks := B.notSynchronized
  have hl := lv_entry ([.int p0] : List Value) (n := 1) (Nat.le_of_ble_eq_true rfl)
  rw [lg_entry_eq]
  generalize (lg_sl ([.int p0] : List Value) ++ List.replicate (1 - (lg_sl ([.int p0] : List Value)).length) Slot.unset).toArray = ls at hl ⊢
  have hl : lv_has ls 1 [(0, .int p0)] := hl
  unfold R_X3_isSpot at h
  refine lv_iload_n hx hb dX3_isSpot_0 rfl (lv_at hl 0 rfl) ?_
  refine lv_iconst (v := (0 : Int32)) hx hb dX3_isSpot_1 (by decide) ?_
  refine lv_sipush (v := (287 : Int32)) hx hb dX3_isSpot_2 (by decide) ?_
  obtain ⟨v5, e5, h⟩ := o_bind h
  refine ro_calli (ro_runS (As := [.int p0, .int (0 : Int32), .int (287 : Int32)]) (rest := []) ⟨hx, hb, hml, hown, hts⟩ hP hK (c_X3_isIn l D tys ws p0 (0 : Int32) (287 : Int32) v5 e5) gG_RX3_41 hd_X3_isIn ⟨Nat.le_of_ble_eq_true rfl, Nat.le_of_ble_eq_true rfl⟩ ⟨rfl, rfl⟩ hl.1 (Nat.le_of_ble_eq_true rfl) dX3_isSpot_5 ⟨Nat.zero_le _, Nat.zero_le _⟩ rfl) ?_
  obtain ⟨gz, h⟩ := o_if h
  exact ro_zret hx hb hr hlocks dX3_isSpot_8 gz (Option.some.inj h)
set_option maxHeartbeats 4000000 in
set_option maxRecDepth 100000 in
theorem c_X3_places (l : Launch) (D : va_G) (c5 : Nat → ClassId) (b : Nat → Nat) (m : MSt) (p1 : Int32) (r : Int32) (h : R_X3_places m p1 = some r) : Met l yX3_places (ws_ yX3_places cX3_places 2 (some .int)) { frames := 0, cells := 0, slots := 0, locals := 0 } (va_Pc [.ref (b 0), .int p1] (roB D (tyG c5) (MW c5 b m))) (vp_Si (fun x => x = r)) 0 0 (fun _ => False) := by
  refine Met.ofW (cc := cX3_places) (maxL := 2) (ret := (some .int)) (by decide) rfl ?_
  intro p e s m9 args below meth c s₁ B hml hv
  obtain ⟨rfl, hP, hK⟩ := hv
  have hx := B.exec
  have hb := B.bytes
  have hr := B.returns
  have hts : ∀ w ∈ LA, w.before _ s = true := fun w hw => atoms_spec (ws := ws_ yX3_places cX3_places 2 (some .int)) B.pre w (List.mem_cons_of_mem _ hw)
  have hown : s.vm.findClass RX3 = some m9.cls := findClass_of_methodNamed B.named
  have hlocks := B.notSynchronized
  have hl := lv_entry ([.ref (b 0), .int p1] : List Value) (n := 2) (Nat.le_of_ble_eq_true rfl)
  rw [lg_entry_eq]
  generalize (lg_sl ([.ref (b 0), .int p1] : List Value) ++ List.replicate (2 - (lg_sl ([.ref (b 0), .int p1] : List Value)).length) Slot.unset).toArray = ls at hl ⊢
  have hl : lv_has ls 2 [(0, .ref (b 0)), (1, .int p1)] := hl
  unfold R_X3_places at h
  refine lv_bipush (v := (24 : Int32)) hx hb dX3_places_0 (by decide) ?_
  refine lv_aload_n hx hb dX3_places_2 rfl (lv_at hl 0 rfl) ?_
  refine va_get (D := D) (ci := 3) (v := .ref (b 1)) (C := RX3) (T := TX3) (N := 14) hx hb hts iX3 hown hK hP 0 (MW_0 c5 b m) rfl 6 (by decide) (hts _ wT3_34) (fun _ h9 => h9) rfl dX3_places_3 ?_
  refine lv_iload_n hx hb dX3_places_6 rfl (lv_at hl 1 rfl) ?_
  obtain ⟨g7, h⟩ := o_if h
  refine va_iald hx hb hK hP 1 3 (MW_1 c5 b m) rfl (inb_in g7) dX3_places_7 ?_
  obtain ⟨g8, h⟩ := o_if h
  refine lv_idiv hx hb dX3_places_8 g8 ?_
  exact ro_iret hx hb hr hlocks dX3_places_9 (Option.some.inj h)
set_option maxHeartbeats 4000000 in
set_option maxRecDepth 100000 in
theorem c_X3_rest (l : Launch) (D : va_G) (c5 : Nat → ClassId) (b : Nat → Nat) (m : MSt) (p1 : Int32) (r : Int32) (h : R_X3_rest m p1 = some r) : Met l yX3_rest (ws_ yX3_rest cX3_rest 2 (some .int)) { frames := 0, cells := 0, slots := 0, locals := 0 } (va_Pc [.ref (b 0), .int p1] (roB D (tyG c5) (MW c5 b m))) (vp_Si (fun x => x = r)) 0 0 (fun _ => False) := by
  refine Met.ofW (cc := cX3_rest) (maxL := 2) (ret := (some .int)) (by decide) rfl ?_
  intro p e s m9 args below meth c s₁ B hml hv
  obtain ⟨rfl, hP, hK⟩ := hv
  have hx := B.exec
  have hb := B.bytes
  have hr := B.returns
  have hts : ∀ w ∈ LA, w.before _ s = true := fun w hw => atoms_spec (ws := ws_ yX3_rest cX3_rest 2 (some .int)) B.pre w (List.mem_cons_of_mem _ hw)
  have hown : s.vm.findClass RX3 = some m9.cls := findClass_of_methodNamed B.named
  have hlocks := B.notSynchronized
  have hl := lv_entry ([.ref (b 0), .int p1] : List Value) (n := 2) (Nat.le_of_ble_eq_true rfl)
  rw [lg_entry_eq]
  generalize (lg_sl ([.ref (b 0), .int p1] : List Value) ++ List.replicate (2 - (lg_sl ([.ref (b 0), .int p1] : List Value)).length) Slot.unset).toArray = ls at hl ⊢
  have hl : lv_has ls 2 [(0, .ref (b 0)), (1, .int p1)] := hl
  unfold R_X3_rest at h
  refine lv_bipush (v := (24 : Int32)) hx hb dX3_rest_0 (by decide) ?_
  refine lv_aload_n hx hb dX3_rest_2 rfl (lv_at hl 0 rfl) ?_
  refine va_get (D := D) (ci := 3) (v := .ref (b 1)) (C := RX3) (T := TX3) (N := 14) hx hb hts iX3 hown hK hP 0 (MW_0 c5 b m) rfl 6 (by decide) (hts _ wT3_34) (fun _ h9 => h9) rfl dX3_rest_3 ?_
  refine lv_iload_n hx hb dX3_rest_6 rfl (lv_at hl 1 rfl) ?_
  obtain ⟨g7, h⟩ := o_if h
  refine va_iald hx hb hK hP 1 3 (MW_1 c5 b m) rfl (inb_in g7) dX3_rest_7 ?_
  obtain ⟨g8, h⟩ := o_if h
  refine lv_irem hx hb dX3_rest_8 g8 ?_
  exact ro_iret hx hb hr hlocks dX3_rest_9 (Option.some.inj h)
set_option maxHeartbeats 4000000 in
set_option maxRecDepth 100000 in
theorem c_X3_isFree (l : Launch) (D : va_G) (c5 : Nat → ClassId) (b : Nat → Nat) (m : MSt) (p1 : Int32) (r : Int32) (h : R_X3_isFree m p1 = some r) : Met l yX3_isFree (ws_ yX3_isFree cX3_isFree 2 (some .boolean)) { frames := 0, cells := 0, slots := 0, locals := 0 } (va_Pc [.ref (b 0), .int p1] (roB D (tyG c5) (MW c5 b m))) (vp_Si (fun x => x = r)) 0 0 (fun _ => False) := by
  refine Met.ofW (cc := cX3_isFree) (maxL := 2) (ret := (some .boolean)) (by decide) rfl ?_
  intro p e s m9 args below meth c s₁ B hml hv
  obtain ⟨rfl, hP, hK⟩ := hv
  have hx := B.exec
  have hb := B.bytes
  have hr := B.returns
  have hts : ∀ w ∈ LA, w.before _ s = true := fun w hw => atoms_spec (ws := ws_ yX3_isFree cX3_isFree 2 (some .boolean)) B.pre w (List.mem_cons_of_mem _ hw)
  have hown : s.vm.findClass RX3 = some m9.cls := findClass_of_methodNamed B.named
  have hlocks := B.notSynchronized
  have hl := lv_entry ([.ref (b 0), .int p1] : List Value) (n := 2) (Nat.le_of_ble_eq_true rfl)
  rw [lg_entry_eq]
  generalize (lg_sl ([.ref (b 0), .int p1] : List Value) ++ List.replicate (2 - (lg_sl ([.ref (b 0), .int p1] : List Value)).length) Slot.unset).toArray = ls at hl ⊢
  have hl : lv_has ls 2 [(0, .ref (b 0)), (1, .int p1)] := hl
  unfold R_X3_isFree at h
  refine lv_aload_n hx hb dX3_isFree_0 rfl (lv_at hl 0 rfl) ?_
  refine va_get (D := D) (ci := 3) (v := .ref (b 3)) (C := RX3) (T := TX3) (N := 14) hx hb hts iX3 hown hK hP 0 (MW_0 c5 b m) rfl 8 (by decide) (hts _ wT3_36) (fun _ h9 => h9) rfl dX3_isFree_1 ?_
  refine lv_iload_n hx hb dX3_isFree_4 rfl (lv_at hl 1 rfl) ?_
  obtain ⟨g5, h⟩ := o_if h
  refine va_iald hx hb hK hP 3 3 (MW_3 c5 b m) rfl (inb_in g5) dX3_isFree_5 ?_
  refine lv_iconst (v := (-1 : Int32)) hx hb dX3_isFree_6 (by decide) ?_
  refine lv_icmp_ne (tgt := 14) hx hb dX3_isFree_7 (by decide) (fun q => ?_) (fun q => ?_)
  · have h := o_t' h q
    refine lv_iconst (v := (0 : Int32)) hx hb dX3_isFree_14 (by decide) ?_
    exact ro_zret hx hb hr hlocks dX3_isFree_15 rfl (Option.some.inj h)
  · have h := o_f' h q
    refine lv_iconst (v := (1 : Int32)) hx hb dX3_isFree_10 (by decide) ?_
    refine lv_goto (tgt := 15) hx hb dX3_isFree_11 (by decide) ?_
    exact ro_zret hx hb hr hlocks dX3_isFree_15 rfl (Option.some.inj h)
set_option maxHeartbeats 4000000 in
set_option maxRecDepth 100000 in
theorem c_J6_bitCount_0f7a4 (l : Launch) (D : va_G) (tys : List (ClassId × FieldType)) (ws : va_W) (p0 : Int32) (r : Int32) (h : R_J6_bitCount_0f7a4 p0 = some r) : Met l yJ6_bitCount_0f7a4 (ws_ yJ6_bitCount_0f7a4 cJ6_bitCount_0f7a4 1 (some .int)) { frames := 0, cells := 0, slots := 0, locals := 0 } (va_Pc [.int p0] (roB D (tys) (ws))) (vp_Si (fun x => x = r)) 0 0 (fun _ => False) := by
  refine Met.ofW (cc := cJ6_bitCount_0f7a4) (maxL := 1) (ret := (some .int)) (by decide) rfl ?_
  intro p e s m args below meth c s₁ B hml hv
  obtain ⟨rfl, hP, hK⟩ := hv
  have hx := B.exec
  have hb := B.bytes
  have hr := B.returns
  have hts : ∀ w ∈ LA, w.before _ s = true := fun w hw => atoms_spec (ws := ws_ yJ6_bitCount_0f7a4 cJ6_bitCount_0f7a4 1 (some .int)) B.pre w (List.mem_cons_of_mem _ hw)
  have hown : s.vm.findClass RJ6 = some m.cls := findClass_of_methodNamed B.named
  have hlocks := B.notSynchronized
  have hl := lv_entry ([.int p0] : List Value) (n := 1) (Nat.le_of_ble_eq_true rfl)
  rw [lg_entry_eq]
  generalize (lg_sl ([.int p0] : List Value) ++ List.replicate (1 - (lg_sl ([.int p0] : List Value)).length) Slot.unset).toArray = ls at hl ⊢
  have hl : lv_has ls 1 [(0, .int p0)] := hl
  unfold R_J6_bitCount_0f7a4 at h
  refine lv_iload_n hx hb dJ6_bitCount_0f7a4_0 rfl (lv_at hl 0 rfl) ?_
  refine lv_iload_n hx hb dJ6_bitCount_0f7a4_1 rfl (lv_at hl 0 rfl) ?_
  refine lv_iconst (v := (1 : Int32)) hx hb dJ6_bitCount_0f7a4_2 (by decide) ?_
  refine lv_iushr (v := (p0.toUInt32 >>> ((1 : Int32).toUInt32 &&& Int32.toUInt32 31)).toInt32) hx hb dJ6_bitCount_0f7a4_3 rfl ?_
  refine lv_ldcw (v := (1431655765)) hx hb hown (hts _ wT3_118) dJ6_bitCount_0f7a4_4 ?_
  refine lv_iand hx hb dJ6_bitCount_0f7a4_7 ?_
  refine lv_isub hx hb dJ6_bitCount_0f7a4_8 ?_
  refine lv_istore_n (i := 0) (lv' := [(0, .int (p0 - (((p0.toUInt32 >>> ((1 : Int32).toUInt32 &&& Int32.toUInt32 31)).toInt32) &&& (1431655765 : Int32))))]) hx hb dJ6_bitCount_0f7a4_9 rfl hl (by decide) rfl (fun ls hl => ?_)
  refine lv_iload_n hx hb dJ6_bitCount_0f7a4_10 rfl (lv_at hl 0 rfl) ?_
  refine lv_ldcw (v := (858993459)) hx hb hown (hts _ wT3_119) dJ6_bitCount_0f7a4_11 ?_
  refine lv_iand hx hb dJ6_bitCount_0f7a4_14 ?_
  refine lv_iload_n hx hb dJ6_bitCount_0f7a4_15 rfl (lv_at hl 0 rfl) ?_
  refine lv_iconst (v := (2 : Int32)) hx hb dJ6_bitCount_0f7a4_16 (by decide) ?_
  refine lv_iushr (v := ((p0 - (((p0.toUInt32 >>> ((1 : Int32).toUInt32 &&& Int32.toUInt32 31)).toInt32) &&& (1431655765 : Int32))).toUInt32 >>> ((2 : Int32).toUInt32 &&& Int32.toUInt32 31)).toInt32) hx hb dJ6_bitCount_0f7a4_17 rfl ?_
  refine lv_ldcw (v := (858993459)) hx hb hown (hts _ wT3_119) dJ6_bitCount_0f7a4_18 ?_
  refine lv_iand hx hb dJ6_bitCount_0f7a4_21 ?_
  refine lv_iadd hx hb dJ6_bitCount_0f7a4_22 ?_
  refine lv_istore_n (i := 0) (lv' := [(0, .int (((p0 - (((p0.toUInt32 >>> ((1 : Int32).toUInt32 &&& Int32.toUInt32 31)).toInt32) &&& (1431655765 : Int32))) &&& (858993459 : Int32)) + ((((p0 - (((p0.toUInt32 >>> ((1 : Int32).toUInt32 &&& Int32.toUInt32 31)).toInt32) &&& (1431655765 : Int32))).toUInt32 >>> ((2 : Int32).toUInt32 &&& Int32.toUInt32 31)).toInt32) &&& (858993459 : Int32))))]) hx hb dJ6_bitCount_0f7a4_23 rfl hl (by decide) rfl (fun ls hl => ?_)
  refine lv_iload_n hx hb dJ6_bitCount_0f7a4_24 rfl (lv_at hl 0 rfl) ?_
  refine lv_iload_n hx hb dJ6_bitCount_0f7a4_25 rfl (lv_at hl 0 rfl) ?_
  refine lv_iconst (v := (4 : Int32)) hx hb dJ6_bitCount_0f7a4_26 (by decide) ?_
  refine lv_iushr (v := ((((p0 - (((p0.toUInt32 >>> ((1 : Int32).toUInt32 &&& Int32.toUInt32 31)).toInt32) &&& (1431655765 : Int32))) &&& (858993459 : Int32)) + ((((p0 - (((p0.toUInt32 >>> ((1 : Int32).toUInt32 &&& Int32.toUInt32 31)).toInt32) &&& (1431655765 : Int32))).toUInt32 >>> ((2 : Int32).toUInt32 &&& Int32.toUInt32 31)).toInt32) &&& (858993459 : Int32))).toUInt32 >>> ((4 : Int32).toUInt32 &&& Int32.toUInt32 31)).toInt32) hx hb dJ6_bitCount_0f7a4_27 rfl ?_
  refine lv_iadd hx hb dJ6_bitCount_0f7a4_28 ?_
  refine lv_ldcw (v := (252645135)) hx hb hown (hts _ wT3_120) dJ6_bitCount_0f7a4_29 ?_
  refine lv_iand hx hb dJ6_bitCount_0f7a4_32 ?_
  refine lv_istore_n (i := 0) (lv' := [(0, .int (((((p0 - (((p0.toUInt32 >>> ((1 : Int32).toUInt32 &&& Int32.toUInt32 31)).toInt32) &&& (1431655765 : Int32))) &&& (858993459 : Int32)) + ((((p0 - (((p0.toUInt32 >>> ((1 : Int32).toUInt32 &&& Int32.toUInt32 31)).toInt32) &&& (1431655765 : Int32))).toUInt32 >>> ((2 : Int32).toUInt32 &&& Int32.toUInt32 31)).toInt32) &&& (858993459 : Int32))) + (((((p0 - (((p0.toUInt32 >>> ((1 : Int32).toUInt32 &&& Int32.toUInt32 31)).toInt32) &&& (1431655765 : Int32))) &&& (858993459 : Int32)) + ((((p0 - (((p0.toUInt32 >>> ((1 : Int32).toUInt32 &&& Int32.toUInt32 31)).toInt32) &&& (1431655765 : Int32))).toUInt32 >>> ((2 : Int32).toUInt32 &&& Int32.toUInt32 31)).toInt32) &&& (858993459 : Int32))).toUInt32 >>> ((4 : Int32).toUInt32 &&& Int32.toUInt32 31)).toInt32)) &&& (252645135 : Int32)))]) hx hb dJ6_bitCount_0f7a4_33 rfl hl (by decide) rfl (fun ls hl => ?_)
  refine lv_iload_n hx hb dJ6_bitCount_0f7a4_34 rfl (lv_at hl 0 rfl) ?_
  refine lv_iload_n hx hb dJ6_bitCount_0f7a4_35 rfl (lv_at hl 0 rfl) ?_
  refine lv_bipush (v := (8 : Int32)) hx hb dJ6_bitCount_0f7a4_36 (by decide) ?_
  refine lv_iushr (v := ((((((p0 - (((p0.toUInt32 >>> ((1 : Int32).toUInt32 &&& Int32.toUInt32 31)).toInt32) &&& (1431655765 : Int32))) &&& (858993459 : Int32)) + ((((p0 - (((p0.toUInt32 >>> ((1 : Int32).toUInt32 &&& Int32.toUInt32 31)).toInt32) &&& (1431655765 : Int32))).toUInt32 >>> ((2 : Int32).toUInt32 &&& Int32.toUInt32 31)).toInt32) &&& (858993459 : Int32))) + (((((p0 - (((p0.toUInt32 >>> ((1 : Int32).toUInt32 &&& Int32.toUInt32 31)).toInt32) &&& (1431655765 : Int32))) &&& (858993459 : Int32)) + ((((p0 - (((p0.toUInt32 >>> ((1 : Int32).toUInt32 &&& Int32.toUInt32 31)).toInt32) &&& (1431655765 : Int32))).toUInt32 >>> ((2 : Int32).toUInt32 &&& Int32.toUInt32 31)).toInt32) &&& (858993459 : Int32))).toUInt32 >>> ((4 : Int32).toUInt32 &&& Int32.toUInt32 31)).toInt32)) &&& (252645135 : Int32)).toUInt32 >>> ((8 : Int32).toUInt32 &&& Int32.toUInt32 31)).toInt32) hx hb dJ6_bitCount_0f7a4_38 rfl ?_
  refine lv_iadd hx hb dJ6_bitCount_0f7a4_39 ?_
  refine lv_istore_n (i := 0) (lv' := [(0, .int ((((((p0 - (((p0.toUInt32 >>> ((1 : Int32).toUInt32 &&& Int32.toUInt32 31)).toInt32) &&& (1431655765 : Int32))) &&& (858993459 : Int32)) + ((((p0 - (((p0.toUInt32 >>> ((1 : Int32).toUInt32 &&& Int32.toUInt32 31)).toInt32) &&& (1431655765 : Int32))).toUInt32 >>> ((2 : Int32).toUInt32 &&& Int32.toUInt32 31)).toInt32) &&& (858993459 : Int32))) + (((((p0 - (((p0.toUInt32 >>> ((1 : Int32).toUInt32 &&& Int32.toUInt32 31)).toInt32) &&& (1431655765 : Int32))) &&& (858993459 : Int32)) + ((((p0 - (((p0.toUInt32 >>> ((1 : Int32).toUInt32 &&& Int32.toUInt32 31)).toInt32) &&& (1431655765 : Int32))).toUInt32 >>> ((2 : Int32).toUInt32 &&& Int32.toUInt32 31)).toInt32) &&& (858993459 : Int32))).toUInt32 >>> ((4 : Int32).toUInt32 &&& Int32.toUInt32 31)).toInt32)) &&& (252645135 : Int32)) + (((((((p0 - (((p0.toUInt32 >>> ((1 : Int32).toUInt32 &&& Int32.toUInt32 31)).toInt32) &&& (1431655765 : Int32))) &&& (858993459 : Int32)) + ((((p0 - (((p0.toUInt32 >>> ((1 : Int32).toUInt32 &&& Int32.toUInt32 31)).toInt32) &&& (1431655765 : Int32))).toUInt32 >>> ((2 : Int32).toUInt32 &&& Int32.toUInt32 31)).toInt32) &&& (858993459 : Int32))) + (((((p0 - (((p0.toUInt32 >>> ((1 : Int32).toUInt32 &&& Int32.toUInt32 31)).toInt32) &&& (1431655765 : Int32))) &&& (858993459 : Int32)) + ((((p0 - (((p0.toUInt32 >>> ((1 : Int32).toUInt32 &&& Int32.toUInt32 31)).toInt32) &&& (1431655765 : Int32))).toUInt32 >>> ((2 : Int32).toUInt32 &&& Int32.toUInt32 31)).toInt32) &&& (858993459 : Int32))).toUInt32 >>> ((4 : Int32).toUInt32 &&& Int32.toUInt32 31)).toInt32)) &&& (252645135 : Int32)).toUInt32 >>> ((8 : Int32).toUInt32 &&& Int32.toUInt32 31)).toInt32)))]) hx hb dJ6_bitCount_0f7a4_40 rfl hl (by decide) rfl (fun ls hl => ?_)
  refine lv_iload_n hx hb dJ6_bitCount_0f7a4_41 rfl (lv_at hl 0 rfl) ?_
  refine lv_iload_n hx hb dJ6_bitCount_0f7a4_42 rfl (lv_at hl 0 rfl) ?_
  refine lv_bipush (v := (16 : Int32)) hx hb dJ6_bitCount_0f7a4_43 (by decide) ?_
  refine lv_iushr (v := (((((((p0 - (((p0.toUInt32 >>> ((1 : Int32).toUInt32 &&& Int32.toUInt32 31)).toInt32) &&& (1431655765 : Int32))) &&& (858993459 : Int32)) + ((((p0 - (((p0.toUInt32 >>> ((1 : Int32).toUInt32 &&& Int32.toUInt32 31)).toInt32) &&& (1431655765 : Int32))).toUInt32 >>> ((2 : Int32).toUInt32 &&& Int32.toUInt32 31)).toInt32) &&& (858993459 : Int32))) + (((((p0 - (((p0.toUInt32 >>> ((1 : Int32).toUInt32 &&& Int32.toUInt32 31)).toInt32) &&& (1431655765 : Int32))) &&& (858993459 : Int32)) + ((((p0 - (((p0.toUInt32 >>> ((1 : Int32).toUInt32 &&& Int32.toUInt32 31)).toInt32) &&& (1431655765 : Int32))).toUInt32 >>> ((2 : Int32).toUInt32 &&& Int32.toUInt32 31)).toInt32) &&& (858993459 : Int32))).toUInt32 >>> ((4 : Int32).toUInt32 &&& Int32.toUInt32 31)).toInt32)) &&& (252645135 : Int32)) + (((((((p0 - (((p0.toUInt32 >>> ((1 : Int32).toUInt32 &&& Int32.toUInt32 31)).toInt32) &&& (1431655765 : Int32))) &&& (858993459 : Int32)) + ((((p0 - (((p0.toUInt32 >>> ((1 : Int32).toUInt32 &&& Int32.toUInt32 31)).toInt32) &&& (1431655765 : Int32))).toUInt32 >>> ((2 : Int32).toUInt32 &&& Int32.toUInt32 31)).toInt32) &&& (858993459 : Int32))) + (((((p0 - (((p0.toUInt32 >>> ((1 : Int32).toUInt32 &&& Int32.toUInt32 31)).toInt32) &&& (1431655765 : Int32))) &&& (858993459 : Int32)) + ((((p0 - (((p0.toUInt32 >>> ((1 : Int32).toUInt32 &&& Int32.toUInt32 31)).toInt32) &&& (1431655765 : Int32))).toUInt32 >>> ((2 : Int32).toUInt32 &&& Int32.toUInt32 31)).toInt32) &&& (858993459 : Int32))).toUInt32 >>> ((4 : Int32).toUInt32 &&& Int32.toUInt32 31)).toInt32)) &&& (252645135 : Int32)).toUInt32 >>> ((8 : Int32).toUInt32 &&& Int32.toUInt32 31)).toInt32)).toUInt32 >>> ((16 : Int32).toUInt32 &&& Int32.toUInt32 31)).toInt32) hx hb dJ6_bitCount_0f7a4_45 rfl ?_
  refine lv_iadd hx hb dJ6_bitCount_0f7a4_46 ?_
  refine lv_istore_n (i := 0) (lv' := [(0, .int (((((((p0 - (((p0.toUInt32 >>> ((1 : Int32).toUInt32 &&& Int32.toUInt32 31)).toInt32) &&& (1431655765 : Int32))) &&& (858993459 : Int32)) + ((((p0 - (((p0.toUInt32 >>> ((1 : Int32).toUInt32 &&& Int32.toUInt32 31)).toInt32) &&& (1431655765 : Int32))).toUInt32 >>> ((2 : Int32).toUInt32 &&& Int32.toUInt32 31)).toInt32) &&& (858993459 : Int32))) + (((((p0 - (((p0.toUInt32 >>> ((1 : Int32).toUInt32 &&& Int32.toUInt32 31)).toInt32) &&& (1431655765 : Int32))) &&& (858993459 : Int32)) + ((((p0 - (((p0.toUInt32 >>> ((1 : Int32).toUInt32 &&& Int32.toUInt32 31)).toInt32) &&& (1431655765 : Int32))).toUInt32 >>> ((2 : Int32).toUInt32 &&& Int32.toUInt32 31)).toInt32) &&& (858993459 : Int32))).toUInt32 >>> ((4 : Int32).toUInt32 &&& Int32.toUInt32 31)).toInt32)) &&& (252645135 : Int32)) + (((((((p0 - (((p0.toUInt32 >>> ((1 : Int32).toUInt32 &&& Int32.toUInt32 31)).toInt32) &&& (1431655765 : Int32))) &&& (858993459 : Int32)) + ((((p0 - (((p0.toUInt32 >>> ((1 : Int32).toUInt32 &&& Int32.toUInt32 31)).toInt32) &&& (1431655765 : Int32))).toUInt32 >>> ((2 : Int32).toUInt32 &&& Int32.toUInt32 31)).toInt32) &&& (858993459 : Int32))) + (((((p0 - (((p0.toUInt32 >>> ((1 : Int32).toUInt32 &&& Int32.toUInt32 31)).toInt32) &&& (1431655765 : Int32))) &&& (858993459 : Int32)) + ((((p0 - (((p0.toUInt32 >>> ((1 : Int32).toUInt32 &&& Int32.toUInt32 31)).toInt32) &&& (1431655765 : Int32))).toUInt32 >>> ((2 : Int32).toUInt32 &&& Int32.toUInt32 31)).toInt32) &&& (858993459 : Int32))).toUInt32 >>> ((4 : Int32).toUInt32 &&& Int32.toUInt32 31)).toInt32)) &&& (252645135 : Int32)).toUInt32 >>> ((8 : Int32).toUInt32 &&& Int32.toUInt32 31)).toInt32)) + ((((((((p0 - (((p0.toUInt32 >>> ((1 : Int32).toUInt32 &&& Int32.toUInt32 31)).toInt32) &&& (1431655765 : Int32))) &&& (858993459 : Int32)) + ((((p0 - (((p0.toUInt32 >>> ((1 : Int32).toUInt32 &&& Int32.toUInt32 31)).toInt32) &&& (1431655765 : Int32))).toUInt32 >>> ((2 : Int32).toUInt32 &&& Int32.toUInt32 31)).toInt32) &&& (858993459 : Int32))) + (((((p0 - (((p0.toUInt32 >>> ((1 : Int32).toUInt32 &&& Int32.toUInt32 31)).toInt32) &&& (1431655765 : Int32))) &&& (858993459 : Int32)) + ((((p0 - (((p0.toUInt32 >>> ((1 : Int32).toUInt32 &&& Int32.toUInt32 31)).toInt32) &&& (1431655765 : Int32))).toUInt32 >>> ((2 : Int32).toUInt32 &&& Int32.toUInt32 31)).toInt32) &&& (858993459 : Int32))).toUInt32 >>> ((4 : Int32).toUInt32 &&& Int32.toUInt32 31)).toInt32)) &&& (252645135 : Int32)) + (((((((p0 - (((p0.toUInt32 >>> ((1 : Int32).toUInt32 &&& Int32.toUInt32 31)).toInt32) &&& (1431655765 : Int32))) &&& (858993459 : Int32)) + ((((p0 - (((p0.toUInt32 >>> ((1 : Int32).toUInt32 &&& Int32.toUInt32 31)).toInt32) &&& (1431655765 : Int32))).toUInt32 >>> ((2 : Int32).toUInt32 &&& Int32.toUInt32 31)).toInt32) &&& (858993459 : Int32))) + (((((p0 - (((p0.toUInt32 >>> ((1 : Int32).toUInt32 &&& Int32.toUInt32 31)).toInt32) &&& (1431655765 : Int32))) &&& (858993459 : Int32)) + ((((p0 - (((p0.toUInt32 >>> ((1 : Int32).toUInt32 &&& Int32.toUInt32 31)).toInt32) &&& (1431655765 : Int32))).toUInt32 >>> ((2 : Int32).toUInt32 &&& Int32.toUInt32 31)).toInt32) &&& (858993459 : Int32))).toUInt32 >>> ((4 : Int32).toUInt32 &&& Int32.toUInt32 31)).toInt32)) &&& (252645135 : Int32)).toUInt32 >>> ((8 : Int32).toUInt32 &&& Int32.toUInt32 31)).toInt32)).toUInt32 >>> ((16 : Int32).toUInt32 &&& Int32.toUInt32 31)).toInt32)))]) hx hb dJ6_bitCount_0f7a4_47 rfl hl (by decide) rfl (fun ls hl => ?_)
  refine lv_iload_n hx hb dJ6_bitCount_0f7a4_48 rfl (lv_at hl 0 rfl) ?_
  refine lv_bipush (v := (63 : Int32)) hx hb dJ6_bitCount_0f7a4_49 (by decide) ?_
  refine lv_iand hx hb dJ6_bitCount_0f7a4_51 ?_
  exact ro_iret hx hb hr hlocks dJ6_bitCount_0f7a4_52 (Option.some.inj h)
set_option maxHeartbeats 4000000 in
set_option maxRecDepth 100000 in
theorem c_X3_many (l : Launch) (D : va_G) (c5 : Nat → ClassId) (b : Nat → Nat) (m : MSt) (p1 : Int32) (r : Int32) (h : R_X3_many m p1 = some r) : Met l yX3_many (ws_ yX3_many cX3_many 2 (some .int)) { frames := 1, cells := 0, slots := 0, locals := 20 } (va_Pc [.ref (b 0), .int p1] (roB D (tyG c5) (MW c5 b m))) (vp_Si (fun x => x = r)) 0 0 (fun _ => False) := by
  refine Met.ofW (cc := cX3_many) (maxL := 2) (ret := (some .int)) (by decide) rfl ?_
  intro p e s m9 args below meth c s₁ B hml hv
  obtain ⟨rfl, hP, hK⟩ := hv
  have hx := B.exec
  have hb := B.bytes
  have hr := B.returns
  have hts : ∀ w ∈ LA, w.before _ s = true := fun w hw => atoms_spec (ws := ws_ yX3_many cX3_many 2 (some .int)) B.pre w (List.mem_cons_of_mem _ hw)
  have hown : s.vm.findClass RX3 = some m9.cls := findClass_of_methodNamed B.named
  have hlocks := B.notSynchronized
  have hl := lv_entry ([.ref (b 0), .int p1] : List Value) (n := 2) (Nat.le_of_ble_eq_true rfl)
  rw [lg_entry_eq]
  generalize (lg_sl ([.ref (b 0), .int p1] : List Value) ++ List.replicate (2 - (lg_sl ([.ref (b 0), .int p1] : List Value)).length) Slot.unset).toArray = ls at hl ⊢
  have hl : lv_has ls 2 [(0, .ref (b 0)), (1, .int p1)] := hl
  unfold R_X3_many at h
  refine lv_aload_n hx hb dX3_many_0 rfl (lv_at hl 0 rfl) ?_
  refine va_get (D := D) (ci := 3) (v := .ref (b 5)) (C := RX3) (T := TX3) (N := 14) hx hb hts iX3 hown hK hP 0 (MW_0 c5 b m) rfl 10 (by decide) (hts _ wT3_38) (fun _ h9 => h9) rfl dX3_many_1 ?_
  refine lv_iload_n hx hb dX3_many_4 rfl (lv_at hl 1 rfl) ?_
  obtain ⟨g5, h⟩ := o_if h
  refine va_iald hx hb hK hP 5 3 (MW_5 c5 b m) rfl (inb_in g5) dX3_many_5 ?_
  obtain ⟨v6, e6, h⟩ := o_bind h
  refine ro_calli (ro_runS (As := [.int (mA m 4 (p1.toNatClampNeg))]) (rest := []) ⟨hx, hb, hml, hown, hts⟩ hP hK (c_J6_bitCount_0f7a4 l D (tyG c5) (MW c5 b m) (mA m 4 (p1.toNatClampNeg)) v6 e6) gG_RX3_45 hd_J6_bitCount_0f7a4 ⟨Nat.le_of_ble_eq_true rfl, Nat.le_of_ble_eq_true rfl⟩ ⟨rfl, rfl⟩ hl.1 (Nat.le_of_ble_eq_true rfl) dX3_many_6 ⟨Nat.zero_le _, Nat.zero_le _⟩ rfl) ?_
  exact ro_iret hx hb hr hlocks dX3_many_9 (Option.some.inj h)
set_option maxHeartbeats 4000000 in
set_option maxRecDepth 100000 in
theorem c_X3_isFull (l : Launch) (D : va_G) (c5 : Nat → ClassId) (b : Nat → Nat) (m : MSt) (p1 : Int32) (r : Int32) (h : R_X3_isFull m p1 = some r) : Met l yX3_isFull (ws_ yX3_isFull cX3_isFull 2 (some .boolean)) { frames := 2, cells := 0, slots := 0, locals := 41 } (va_Pc [.ref (b 0), .int p1] (roB D (tyG c5) (MW c5 b m))) (vp_Si (fun x => x = r)) 0 0 (fun _ => False) := by
  refine Met.ofW (cc := cX3_isFull) (maxL := 2) (ret := (some .boolean)) (by decide) rfl ?_
  intro p e s m9 args below meth c s₁ B hml hv
  obtain ⟨rfl, hP, hK⟩ := hv
  have hx := B.exec
  have hb := B.bytes
  have hr := B.returns
  have hts : ∀ w ∈ LA, w.before _ s = true := fun w hw => atoms_spec (ws := ws_ yX3_isFull cX3_isFull 2 (some .boolean)) B.pre w (List.mem_cons_of_mem _ hw)
  have hown : s.vm.findClass RX3 = some m9.cls := findClass_of_methodNamed B.named
  have hlocks := B.notSynchronized
  have hl := lv_entry ([.ref (b 0), .int p1] : List Value) (n := 2) (Nat.le_of_ble_eq_true rfl)
  rw [lg_entry_eq]
  generalize (lg_sl ([.ref (b 0), .int p1] : List Value) ++ List.replicate (2 - (lg_sl ([.ref (b 0), .int p1] : List Value)).length) Slot.unset).toArray = ls at hl ⊢
  have hl : lv_has ls 2 [(0, .ref (b 0)), (1, .int p1)] := hl
  unfold R_X3_isFull at h
  refine lv_aload_n hx hb dX3_isFull_0 rfl (lv_at hl 0 rfl) ?_
  refine lv_iload_n hx hb dX3_isFull_1 rfl (lv_at hl 1 rfl) ?_
  obtain ⟨v2, e2, h⟩ := o_bind h
  refine ro_calli (ro_runV (As := [.int p1]) (rest := []) ⟨hx, hb, hml, hown, hts⟩ hP hK (c_X3_many l D c5 b m p1 v2 e2) gG_RX3_51 (va_recv hK hP (ci := 3) (q0 := 0) rfl (MW_0 c5 b m)) hd_X3_many ⟨Nat.le_of_ble_eq_true rfl, Nat.le_of_ble_eq_true rfl⟩ ⟨rfl, rfl⟩ hl.1 (Nat.le_of_ble_eq_true rfl) dX3_isFull_2 ⟨Nat.zero_le _, Nat.zero_le _⟩ rfl) ?_
  refine lv_aload_n hx hb dX3_isFull_5 rfl (lv_at hl 0 rfl) ?_
  refine lv_aload_n hx hb dX3_isFull_6 rfl (lv_at hl 0 rfl) ?_
  refine va_get (D := D) (ci := 3) (v := .ref (b 3)) (C := RX3) (T := TX3) (N := 14) hx hb hts iX3 hown hK hP 0 (MW_0 c5 b m) rfl 8 (by decide) (hts _ wT3_36) (fun _ h9 => h9) rfl dX3_isFull_7 ?_
  refine lv_iload_n hx hb dX3_isFull_10 rfl (lv_at hl 1 rfl) ?_
  obtain ⟨g11, h⟩ := o_if h
  refine va_iald hx hb hK hP 3 3 (MW_3 c5 b m) rfl (inb_in g11) dX3_isFull_11 ?_
  obtain ⟨v12, e12, h⟩ := o_bind h
  refine ro_calli (ro_runV (As := [.int (mA m 2 (p1.toNatClampNeg))]) (rest := [.int v2]) ⟨hx, hb, hml, hown, hts⟩ hP hK (c_X3_places l D c5 b m (mA m 2 (p1.toNatClampNeg)) v12 e12) gG_RX3_54 (va_recv hK hP (ci := 3) (q0 := 0) rfl (MW_0 c5 b m)) hd_X3_places ⟨Nat.le_of_ble_eq_true rfl, Nat.le_of_ble_eq_true rfl⟩ ⟨rfl, rfl⟩ hl.1 (Nat.le_of_ble_eq_true rfl) dX3_isFull_12 ⟨Nat.zero_le _, Nat.zero_le _⟩ rfl) ?_
  refine lv_icmp_ne (tgt := 22) hx hb dX3_isFull_15 (by decide) (fun q => ?_) (fun q => ?_)
  · have h := o_t' h q
    refine lv_iconst (v := (0 : Int32)) hx hb dX3_isFull_22 (by decide) ?_
    exact ro_zret hx hb hr hlocks dX3_isFull_23 rfl (Option.some.inj h)
  · have h := o_f' h q
    refine lv_iconst (v := (1 : Int32)) hx hb dX3_isFull_18 (by decide) ?_
    refine lv_goto (tgt := 23) hx hb dX3_isFull_19 (by decide) ?_
    exact ro_zret hx hb hr hlocks dX3_isFull_23 rfl (Option.some.inj h)
set_option maxHeartbeats 4000000 in
set_option maxRecDepth 100000 in
theorem c_X3_isUsed (l : Launch) (D : va_G) (c5 : Nat → ClassId) (b : Nat → Nat) (m : MSt) (p1 : Int32) (p2 : Int32) (r : Int32) (h : R_X3_isUsed m p1 p2 = some r) : Met l yX3_isUsed (ws_ yX3_isUsed cX3_isUsed 3 (some .boolean)) { frames := 3, cells := 0, slots := 0, locals := 62 } (va_Pc [.ref (b 0), .int p1, .int p2] (roB D (tyG c5) (MW c5 b m))) (vp_Si (fun x => x = r)) 0 0 (fun _ => False) := by
  refine Met.ofW (cc := cX3_isUsed) (maxL := 3) (ret := (some .boolean)) (by decide) rfl ?_
  intro p e s m9 args below meth c s₁ B hml hv
  obtain ⟨rfl, hP, hK⟩ := hv
  have hx := B.exec
  have hb := B.bytes
  have hr := B.returns
  have hts : ∀ w ∈ LA, w.before _ s = true := fun w hw => atoms_spec (ws := ws_ yX3_isUsed cX3_isUsed 3 (some .boolean)) B.pre w (List.mem_cons_of_mem _ hw)
  have hown : s.vm.findClass RX3 = some m9.cls := findClass_of_methodNamed B.named
  have hlocks := B.notSynchronized
  have hl := lv_entry ([.ref (b 0), .int p1, .int p2] : List Value) (n := 3) (Nat.le_of_ble_eq_true rfl)
  rw [lg_entry_eq]
  generalize (lg_sl ([.ref (b 0), .int p1, .int p2] : List Value) ++ List.replicate (3 - (lg_sl ([.ref (b 0), .int p1, .int p2] : List Value)).length) Slot.unset).toArray = ls at hl ⊢
  have hl : lv_has ls 3 [(0, .ref (b 0)), (1, .int p1), (2, .int p2)] := hl
  unfold R_X3_isUsed at h
  refine lv_aload_n hx hb dX3_isUsed_0 rfl (lv_at hl 0 rfl) ?_
  refine va_get (D := D) (ci := 3) (v := .ref (b 3)) (C := RX3) (T := TX3) (N := 14) hx hb hts iX3 hown hK hP 0 (MW_0 c5 b m) rfl 8 (by decide) (hts _ wT3_36) (fun _ h9 => h9) rfl dX3_isUsed_1 ?_
  refine lv_iload_n hx hb dX3_isUsed_4 rfl (lv_at hl 1 rfl) ?_
  obtain ⟨g5, h⟩ := o_if h
  refine va_iald hx hb hK hP 3 3 (MW_3 c5 b m) rfl (inb_in g5) dX3_isUsed_5 ?_
  refine lv_iload_n hx hb dX3_isUsed_6 rfl (lv_at hl 2 rfl) ?_
  refine lv_icmp_ne (tgt := 31) hx hb dX3_isUsed_7 (by decide) (fun q => ?_) (fun q => ?_)
  · have h := o_t' h q
    refine lv_iconst (v := (0 : Int32)) hx hb dX3_isUsed_31 (by decide) ?_
    exact ro_zret hx hb hr hlocks dX3_isUsed_32 rfl (Option.some.inj h)
  · have h := o_f' h q
    refine lv_aload_n hx hb dX3_isUsed_10 rfl (lv_at hl 0 rfl) ?_
    refine va_get (D := D) (ci := 3) (v := .ref (b 5)) (C := RX3) (T := TX3) (N := 14) hx hb hts iX3 hown hK hP 0 (MW_0 c5 b m) rfl 10 (by decide) (hts _ wT3_38) (fun _ h9 => h9) rfl dX3_isUsed_11 ?_
    refine lv_iload_n hx hb dX3_isUsed_14 rfl (lv_at hl 1 rfl) ?_
    obtain ⟨g15, h⟩ := o_if h
    refine va_iald hx hb hK hP 5 3 (MW_5 c5 b m) rfl (inb_in g15) dX3_isUsed_15 ?_
    refine lv_if_eq (tgt := 31) hx hb dX3_isUsed_16 (by decide) (fun q => ?_) (fun q => ?_)
    · have h := o_t h q
      refine lv_iconst (v := (0 : Int32)) hx hb dX3_isUsed_31 (by decide) ?_
      exact ro_zret hx hb hr hlocks dX3_isUsed_32 rfl (Option.some.inj h)
    · have h := o_f h q
      refine lv_aload_n hx hb dX3_isUsed_19 rfl (lv_at hl 0 rfl) ?_
      refine lv_iload_n hx hb dX3_isUsed_20 rfl (lv_at hl 1 rfl) ?_
      obtain ⟨v21, e21, h⟩ := o_bind h
      refine ro_calli (ro_runV (As := [.int p1]) (rest := []) ⟨hx, hb, hml, hown, hts⟩ hP hK (c_X3_isFull l D c5 b m p1 v21 e21) gG_RX3_57 (va_recv hK hP (ci := 3) (q0 := 0) rfl (MW_0 c5 b m)) hd_X3_isFull ⟨Nat.le_of_ble_eq_true rfl, Nat.le_of_ble_eq_true rfl⟩ ⟨rfl, rfl⟩ hl.1 (Nat.le_of_ble_eq_true rfl) dX3_isUsed_21 ⟨Nat.zero_le _, Nat.zero_le _⟩ rfl) ?_
      refine lv_if_ne (tgt := 31) hx hb dX3_isUsed_24 (by decide) (fun q => ?_) (fun q => ?_)
      · have h := o_t' h q
        refine lv_iconst (v := (0 : Int32)) hx hb dX3_isUsed_31 (by decide) ?_
        exact ro_zret hx hb hr hlocks dX3_isUsed_32 rfl (Option.some.inj h)
      · have h := o_f' h q
        refine lv_iconst (v := (1 : Int32)) hx hb dX3_isUsed_27 (by decide) ?_
        refine lv_goto (tgt := 32) hx hb dX3_isUsed_28 (by decide) ?_
        exact ro_zret hx hb hr hlocks dX3_isUsed_32 rfl (Option.some.inj h)
set_option maxHeartbeats 4000000 in
set_option maxRecDepth 100000 in
theorem c_X3_isEmpty (l : Launch) (D : va_G) (c5 : Nat → ClassId) (b : Nat → Nat) (m : MSt) (p1 : Int32) (p2 : Int32) (r : Int32) (h : R_X3_isEmpty m p1 p2 = some r) : Met l yX3_isEmpty (ws_ yX3_isEmpty cX3_isEmpty 3 (some .boolean)) { frames := 0, cells := 0, slots := 0, locals := 0 } (va_Pc [.ref (b 0), .int p1, .int p2] (roB D (tyG c5) (MW c5 b m))) (vp_Si (fun x => x = r)) 0 0 (fun _ => False) := by
  refine Met.ofW (cc := cX3_isEmpty) (maxL := 3) (ret := (some .boolean)) (by decide) rfl ?_
  intro p e s m9 args below meth c s₁ B hml hv
  obtain ⟨rfl, hP, hK⟩ := hv
  have hx := B.exec
  have hb := B.bytes
  have hr := B.returns
  have hts : ∀ w ∈ LA, w.before _ s = true := fun w hw => atoms_spec (ws := ws_ yX3_isEmpty cX3_isEmpty 3 (some .boolean)) B.pre w (List.mem_cons_of_mem _ hw)
  have hown : s.vm.findClass RX3 = some m9.cls := findClass_of_methodNamed B.named
  have hlocks := B.notSynchronized
  have hl := lv_entry ([.ref (b 0), .int p1, .int p2] : List Value) (n := 3) (Nat.le_of_ble_eq_true rfl)
  rw [lg_entry_eq]
  generalize (lg_sl ([.ref (b 0), .int p1, .int p2] : List Value) ++ List.replicate (3 - (lg_sl ([.ref (b 0), .int p1, .int p2] : List Value)).length) Slot.unset).toArray = ls at hl ⊢
  have hl : lv_has ls 3 [(0, .ref (b 0)), (1, .int p1), (2, .int p2)] := hl
  unfold R_X3_isEmpty at h
  refine lv_aload_n hx hb dX3_isEmpty_0 rfl (lv_at hl 0 rfl) ?_
  refine va_get (D := D) (ci := 3) (v := .ref (b 3)) (C := RX3) (T := TX3) (N := 14) hx hb hts iX3 hown hK hP 0 (MW_0 c5 b m) rfl 8 (by decide) (hts _ wT3_36) (fun _ h9 => h9) rfl dX3_isEmpty_1 ?_
  refine lv_iload_n hx hb dX3_isEmpty_4 rfl (lv_at hl 1 rfl) ?_
  obtain ⟨g5, h⟩ := o_if h
  refine va_iald hx hb hK hP 3 3 (MW_3 c5 b m) rfl (inb_in g5) dX3_isEmpty_5 ?_
  refine lv_iload_n hx hb dX3_isEmpty_6 rfl (lv_at hl 2 rfl) ?_
  refine lv_icmp_ne (tgt := 23) hx hb dX3_isEmpty_7 (by decide) (fun q => ?_) (fun q => ?_)
  · have h := o_t' h q
    refine lv_iconst (v := (0 : Int32)) hx hb dX3_isEmpty_23 (by decide) ?_
    exact ro_zret hx hb hr hlocks dX3_isEmpty_24 rfl (Option.some.inj h)
  · have h := o_f' h q
    refine lv_aload_n hx hb dX3_isEmpty_10 rfl (lv_at hl 0 rfl) ?_
    refine va_get (D := D) (ci := 3) (v := .ref (b 5)) (C := RX3) (T := TX3) (N := 14) hx hb hts iX3 hown hK hP 0 (MW_0 c5 b m) rfl 10 (by decide) (hts _ wT3_38) (fun _ h9 => h9) rfl dX3_isEmpty_11 ?_
    refine lv_iload_n hx hb dX3_isEmpty_14 rfl (lv_at hl 1 rfl) ?_
    obtain ⟨g15, h⟩ := o_if h
    refine va_iald hx hb hK hP 5 3 (MW_5 c5 b m) rfl (inb_in g15) dX3_isEmpty_15 ?_
    refine lv_if_ne (tgt := 23) hx hb dX3_isEmpty_16 (by decide) (fun q => ?_) (fun q => ?_)
    · have h := o_t' h q
      refine lv_iconst (v := (0 : Int32)) hx hb dX3_isEmpty_23 (by decide) ?_
      exact ro_zret hx hb hr hlocks dX3_isEmpty_24 rfl (Option.some.inj h)
    · have h := o_f' h q
      refine lv_iconst (v := (1 : Int32)) hx hb dX3_isEmpty_19 (by decide) ?_
      refine lv_goto (tgt := 24) hx hb dX3_isEmpty_20 (by decide) ?_
      exact ro_zret hx hb hr hlocks dX3_isEmpty_24 rfl (Option.some.inj h)
set_option maxHeartbeats 4000000 in
set_option maxRecDepth 100000 in
theorem c_X3_hole (l : Launch) (D : va_G) (c5 : Nat → ClassId) (b : Nat → Nat) (m : MSt) (p1 : Int32) (r : Int32) (h : R_X3_hole m p1 = some r) : Met l yX3_hole (ws_ yX3_hole cX3_hole 3 (some .int)) { frames := 1, cells := 0, slots := 0, locals := 21 } (va_Pc [.ref (b 0), .int p1] (roB D (tyG c5) (MW c5 b m))) (vp_Si (fun x => x = r)) 0 0 (fun _ => False) := by
  refine Met.ofW (cc := cX3_hole) (maxL := 3) (ret := (some .int)) (by decide) rfl ?_
  intro p e s m9 args below meth c s₁ B hml hv
  obtain ⟨rfl, hP, hK⟩ := hv
  have hx := B.exec
  have hb := B.bytes
  have hr := B.returns
  have hts : ∀ w ∈ LA, w.before _ s = true := fun w hw => atoms_spec (ws := ws_ yX3_hole cX3_hole 3 (some .int)) B.pre w (List.mem_cons_of_mem _ hw)
  have hown : s.vm.findClass RX3 = some m9.cls := findClass_of_methodNamed B.named
  have hlocks := B.notSynchronized
  have hl := lv_entry ([.ref (b 0), .int p1] : List Value) (n := 3) (Nat.le_of_ble_eq_true rfl)
  rw [lg_entry_eq]
  generalize (lg_sl ([.ref (b 0), .int p1] : List Value) ++ List.replicate (3 - (lg_sl ([.ref (b 0), .int p1] : List Value)).length) Slot.unset).toArray = ls at hl ⊢
  have hl : lv_has ls 3 [(0, .ref (b 0)), (1, .int p1)] := hl
  unfold R_X3_hole at h
  refine lv_iconst (v := (0 : Int32)) hx hb dX3_hole_0 (by decide) ?_
  refine lv_istore_n (i := 2) (lv' := [(2, .int (0 : Int32)), (0, .ref (b 0)), (1, .int p1)]) hx hb dX3_hole_1 rfl hl (by decide) rfl (fun ls hl => ?_)
  have L2 : ∀ (n : Nat) (x2_2 : Int32) (ls : Array Slot), lv_has ls 3 [(0, .ref (b 0)), (1, .int p1), (2, .int x2_2)] → R_X3_hole_L2 m p1 n x2_2 = some r → W p l e (headSpec (ws_ yX3_hole cX3_hole 3 (some .int)) { frames := 1, cells := 0, slots := 0, locals := 21 }).room s m9 ([.ref (b 0), .int p1] : List Value).toArray below meth c s.heap [] 0 0 (MQ below (vp_Si (fun x => x = r)) ([.ref (b 0), .int p1] : List Value).toArray s 0 0 (fun _ => False)) (F0 m9 2 ls []) := by
    intro n
    induction n with
    | zero =>
      intro x2_2 ls hl h
      exact absurd h (by simp [R_X3_hole_L2])
    | succ n ih =>
      intro x2_2 ls hl h
      rw [R_X3_hole_L2] at h
      refine lv_iload_n hx hb dX3_hole_2 rfl (lv_at hl 2 rfl) ?_
      refine lv_aload_n hx hb dX3_hole_3 rfl (lv_at hl 0 rfl) ?_
      refine lv_aload_n hx hb dX3_hole_4 rfl (lv_at hl 0 rfl) ?_
      refine va_get (D := D) (ci := 3) (v := .ref (b 3)) (C := RX3) (T := TX3) (N := 14) hx hb hts iX3 hown hK hP 0 (MW_0 c5 b m) rfl 8 (by decide) (hts _ wT3_36) (fun _ h9 => h9) rfl dX3_hole_5 ?_
      refine lv_iload_n hx hb dX3_hole_8 rfl (lv_at hl 1 rfl) ?_
      obtain ⟨g9, h⟩ := o_if h
      refine va_iald hx hb hK hP 3 3 (MW_3 c5 b m) rfl (inb_in g9) dX3_hole_9 ?_
      obtain ⟨v10, e10, h⟩ := o_bind h
      refine ro_calli (ro_runV (As := [.int (mA m 2 (p1.toNatClampNeg))]) (rest := [.int x2_2]) ⟨hx, hb, hml, hown, hts⟩ hP hK (c_X3_places l D c5 b m (mA m 2 (p1.toNatClampNeg)) v10 e10) gG_RX3_54 (va_recv hK hP (ci := 3) (q0 := 0) rfl (MW_0 c5 b m)) hd_X3_places ⟨Nat.le_of_ble_eq_true rfl, Nat.le_of_ble_eq_true rfl⟩ ⟨rfl, rfl⟩ hl.1 (Nat.le_of_ble_eq_true rfl) dX3_hole_10 ⟨Nat.zero_le _, Nat.zero_le _⟩ rfl) ?_
      refine lv_icmp_ge (tgt := 37) hx hb dX3_hole_13 (by decide) (fun q => ?_) (fun q => ?_)
      · have h := o_t h q
        refine lv_iconst (v := (-1 : Int32)) hx hb dX3_hole_37 (by decide) ?_
        exact ro_iret hx hb hr hlocks dX3_hole_38 (Option.some.inj h)
      · have h := o_f h q
        refine lv_aload_n hx hb dX3_hole_16 rfl (lv_at hl 0 rfl) ?_
        refine va_get (D := D) (ci := 3) (v := .ref (b 5)) (C := RX3) (T := TX3) (N := 14) hx hb hts iX3 hown hK hP 0 (MW_0 c5 b m) rfl 10 (by decide) (hts _ wT3_38) (fun _ h9 => h9) rfl dX3_hole_17 ?_
        refine lv_iload_n hx hb dX3_hole_20 rfl (lv_at hl 1 rfl) ?_
        obtain ⟨g21, h⟩ := o_if h
        refine va_iald hx hb hK hP 5 3 (MW_5 c5 b m) rfl (inb_in g21) dX3_hole_21 ?_
        refine lv_iload_n hx hb dX3_hole_22 rfl (lv_at hl 2 rfl) ?_
        refine lv_ishr hx hb dX3_hole_23 ?_
        refine lv_iconst (v := (1 : Int32)) hx hb dX3_hole_24 (by decide) ?_
        refine lv_iand hx hb dX3_hole_25 ?_
        refine lv_if_ne (tgt := 31) hx hb dX3_hole_26 (by decide) (fun q => ?_) (fun q => ?_)
        · have h := o_t' h q
          refine lv_iinc (v := (x2_2 + (1 : Int32))) (lv' := [(2, .int (x2_2 + (1 : Int32))), (0, .ref (b 0)), (1, .int p1)]) hx hb dX3_hole_31 hl (k := 2) rfl rfl (by decide) rfl (fun ls hl => ?_)
          refine lv_goto (tgt := 2) hx hb dX3_hole_34 (by decide) ?_
          exact ih (x2_2 + (1 : Int32))  ls (lv_sub hl [1, 2, 0] rfl) h
        · have h := o_f' h q
          refine lv_iload_n hx hb dX3_hole_29 rfl (lv_at hl 2 rfl) ?_
          exact ro_iret hx hb hr hlocks dX3_hole_30 (Option.some.inj h)
  exact L2 FU (0 : Int32)  ls (lv_sub hl [1, 2, 0] rfl) h
set_option maxHeartbeats 4000000 in
set_option maxRecDepth 100000 in
theorem c_X3_spotOf (l : Launch) (D : va_G) (c5 : Nat → ClassId) (b : Nat → Nat) (m : MSt) (p1 : Int32) (p2 : Int32) (r : Int32) (h : R_X3_spotOf m p1 p2 = some r) : Met l yX3_spotOf (ws_ yX3_spotOf cX3_spotOf 3 (some .int)) { frames := 0, cells := 0, slots := 0, locals := 0 } (va_Pc [.ref (b 0), .int p1, .int p2] (roB D (tyG c5) (MW c5 b m))) (vp_Si (fun x => x = r)) 0 0 (fun _ => False) := by
  refine Met.ofW (cc := cX3_spotOf) (maxL := 3) (ret := (some .int)) (by decide) rfl ?_
  intro p e s m9 args below meth c s₁ B hml hv
  obtain ⟨rfl, hP, hK⟩ := hv
  have hx := B.exec
  have hb := B.bytes
  have hr := B.returns
  have hts : ∀ w ∈ LA, w.before _ s = true := fun w hw => atoms_spec (ws := ws_ yX3_spotOf cX3_spotOf 3 (some .int)) B.pre w (List.mem_cons_of_mem _ hw)
  have hown : s.vm.findClass RX3 = some m9.cls := findClass_of_methodNamed B.named
  have hlocks := B.notSynchronized
  have hl := lv_entry ([.ref (b 0), .int p1, .int p2] : List Value) (n := 3) (Nat.le_of_ble_eq_true rfl)
  rw [lg_entry_eq]
  generalize (lg_sl ([.ref (b 0), .int p1, .int p2] : List Value) ++ List.replicate (3 - (lg_sl ([.ref (b 0), .int p1, .int p2] : List Value)).length) Slot.unset).toArray = ls at hl ⊢
  have hl : lv_has ls 3 [(0, .ref (b 0)), (1, .int p1), (2, .int p2)] := hl
  unfold R_X3_spotOf at h
  refine lv_bipush (v := (24 : Int32)) hx hb dX3_spotOf_0 (by decide) ?_
  refine lv_iload_n hx hb dX3_spotOf_2 rfl (lv_at hl 1 rfl) ?_
  refine lv_imul hx hb dX3_spotOf_3 ?_
  refine lv_aload_n hx hb dX3_spotOf_4 rfl (lv_at hl 0 rfl) ?_
  refine va_get (D := D) (ci := 3) (v := .ref (b 4)) (C := RX3) (T := TX3) (N := 14) hx hb hts iX3 hown hK hP 0 (MW_0 c5 b m) rfl 9 (by decide) (hts _ wT3_37) (fun _ h9 => h9) rfl dX3_spotOf_5 ?_
  refine lv_iload_n hx hb dX3_spotOf_8 rfl (lv_at hl 1 rfl) ?_
  obtain ⟨g9, h⟩ := o_if h
  refine va_iald hx hb hK hP 4 3 (MW_4 c5 b m) rfl (inb_in g9) dX3_spotOf_9 ?_
  refine lv_iadd hx hb dX3_spotOf_10 ?_
  refine lv_iload_n hx hb dX3_spotOf_11 rfl (lv_at hl 2 rfl) ?_
  refine lv_aload_n hx hb dX3_spotOf_12 rfl (lv_at hl 0 rfl) ?_
  refine va_get (D := D) (ci := 3) (v := .ref (b 1)) (C := RX3) (T := TX3) (N := 14) hx hb hts iX3 hown hK hP 0 (MW_0 c5 b m) rfl 6 (by decide) (hts _ wT3_34) (fun _ h9 => h9) rfl dX3_spotOf_13 ?_
  refine lv_aload_n hx hb dX3_spotOf_16 rfl (lv_at hl 0 rfl) ?_
  refine va_get (D := D) (ci := 3) (v := .ref (b 3)) (C := RX3) (T := TX3) (N := 14) hx hb hts iX3 hown hK hP 0 (MW_0 c5 b m) rfl 8 (by decide) (hts _ wT3_36) (fun _ h9 => h9) rfl dX3_spotOf_17 ?_
  refine lv_iload_n hx hb dX3_spotOf_20 rfl (lv_at hl 1 rfl) ?_
  obtain ⟨g21, h⟩ := o_if h
  refine va_iald hx hb hK hP 3 3 (MW_3 c5 b m) rfl (inb_in g21) dX3_spotOf_21 ?_
  obtain ⟨g22, h⟩ := o_if h
  refine va_iald hx hb hK hP 1 3 (MW_1 c5 b m) rfl (inb_in g22) dX3_spotOf_22 ?_
  refine lv_imul hx hb dX3_spotOf_23 ?_
  refine lv_iadd hx hb dX3_spotOf_24 ?_
  exact ro_iret hx hb hr hlocks dX3_spotOf_25 (Option.some.inj h)
set_option maxHeartbeats 4000000 in
set_option maxRecDepth 100000 in
theorem c_X3_isBetter (l : Launch) (D : va_G) (c5 : Nat → ClassId) (b : Nat → Nat) (m : MSt) (p1 : Int32) (p2 : Int32) (r : Int32) (h : R_X3_isBetter m p1 p2 = some r) : Met l yX3_isBetter (ws_ yX3_isBetter cX3_isBetter 3 (some .boolean)) { frames := 2, cells := 0, slots := 0, locals := 41 } (va_Pc [.ref (b 0), .int p1, .int p2] (roB D (tyG c5) (MW c5 b m))) (vp_Si (fun x => x = r)) 0 0 (fun _ => False) := by
  refine Met.ofW (cc := cX3_isBetter) (maxL := 3) (ret := (some .boolean)) (by decide) rfl ?_
  intro p e s m9 args below meth c s₁ B hml hv
  obtain ⟨rfl, hP, hK⟩ := hv
  have hx := B.exec
  have hb := B.bytes
  have hr := B.returns
  have hts : ∀ w ∈ LA, w.before _ s = true := fun w hw => atoms_spec (ws := ws_ yX3_isBetter cX3_isBetter 3 (some .boolean)) B.pre w (List.mem_cons_of_mem _ hw)
  have hown : s.vm.findClass RX3 = some m9.cls := findClass_of_methodNamed B.named
  have hlocks := B.notSynchronized
  have hl := lv_entry ([.ref (b 0), .int p1, .int p2] : List Value) (n := 3) (Nat.le_of_ble_eq_true rfl)
  rw [lg_entry_eq]
  generalize (lg_sl ([.ref (b 0), .int p1, .int p2] : List Value) ++ List.replicate (3 - (lg_sl ([.ref (b 0), .int p1, .int p2] : List Value)).length) Slot.unset).toArray = ls at hl ⊢
  have hl : lv_has ls 3 [(0, .ref (b 0)), (1, .int p1), (2, .int p2)] := hl
  unfold R_X3_isBetter at h
  refine lv_iload_n hx hb dX3_isBetter_0 rfl (lv_at hl 2 rfl) ?_
  refine lv_iconst (v := (-1 : Int32)) hx hb dX3_isBetter_1 (by decide) ?_
  refine lv_icmp_ne (tgt := 7) hx hb dX3_isBetter_2 (by decide) (fun q => ?_) (fun q => ?_)
  · have h := o_t' h q
    refine lv_aload_n hx hb dX3_isBetter_7 rfl (lv_at hl 0 rfl) ?_
    refine va_get (D := D) (ci := 3) (v := .int (mF m 2)) (C := RX3) (T := TX3) (N := 14) hx hb hts iX3 hown hK hP 0 (MW_0 c5 b m) rfl 2 (by decide) (hts _ wT3_30) (fun _ h9 => h9) rfl dX3_isBetter_8 ?_
    refine lv_iconst (v := (1 : Int32)) hx hb dX3_isBetter_11 (by decide) ?_
    refine lv_icmp_ne (tgt := 28) hx hb dX3_isBetter_12 (by decide) (fun q => ?_) (fun q => ?_)
    · have h := o_t' h q
      refine lv_aload_n hx hb dX3_isBetter_28 rfl (lv_at hl 0 rfl) ?_
      refine va_get (D := D) (ci := 3) (v := .int (mF m 2)) (C := RX3) (T := TX3) (N := 14) hx hb hts iX3 hown hK hP 0 (MW_0 c5 b m) rfl 2 (by decide) (hts _ wT3_30) (fun _ h9 => h9) rfl dX3_isBetter_29 ?_
      refine lv_iconst (v := (2 : Int32)) hx hb dX3_isBetter_32 (by decide) ?_
      refine lv_icmp_ne (tgt := 53) hx hb dX3_isBetter_33 (by decide) (fun q => ?_) (fun q => ?_)
      · have h := o_t' h q
        refine lv_iconst (v := (0 : Int32)) hx hb dX3_isBetter_53 (by decide) ?_
        exact ro_zret hx hb hr hlocks dX3_isBetter_54 rfl (Option.some.inj h)
      · have h := o_f' h q
        refine lv_aload_n hx hb dX3_isBetter_36 rfl (lv_at hl 0 rfl) ?_
        refine lv_iload_n hx hb dX3_isBetter_37 rfl (lv_at hl 1 rfl) ?_
        obtain ⟨v38, e38, h⟩ := o_bind h
        refine ro_calli (ro_runV (As := [.int p1]) (rest := []) ⟨hx, hb, hml, hown, hts⟩ hP hK (c_X3_many l D c5 b m p1 v38 e38) gG_RX3_51 (va_recv hK hP (ci := 3) (q0 := 0) rfl (MW_0 c5 b m)) hd_X3_many ⟨Nat.le_of_ble_eq_true rfl, Nat.le_of_ble_eq_true rfl⟩ ⟨rfl, rfl⟩ hl.1 (Nat.le_of_ble_eq_true rfl) dX3_isBetter_38 ⟨Nat.zero_le _, Nat.zero_le _⟩ rfl) ?_
        refine lv_aload_n hx hb dX3_isBetter_41 rfl (lv_at hl 0 rfl) ?_
        refine lv_iload_n hx hb dX3_isBetter_42 rfl (lv_at hl 2 rfl) ?_
        obtain ⟨v43, e43, h⟩ := o_bind h
        refine ro_calli (ro_runV (As := [.int p2]) (rest := [.int v38]) ⟨hx, hb, hml, hown, hts⟩ hP hK (c_X3_many l D c5 b m p2 v43 e43) gG_RX3_51 (va_recv hK hP (ci := 3) (q0 := 0) rfl (MW_0 c5 b m)) hd_X3_many ⟨Nat.le_of_ble_eq_true rfl, Nat.le_of_ble_eq_true rfl⟩ ⟨rfl, rfl⟩ hl.1 (Nat.le_of_ble_eq_true rfl) dX3_isBetter_43 ⟨Nat.zero_le _, Nat.zero_le _⟩ rfl) ?_
        refine lv_icmp_ge (tgt := 53) hx hb dX3_isBetter_46 (by decide) (fun q => ?_) (fun q => ?_)
        · have h := o_t h q
          refine lv_iconst (v := (0 : Int32)) hx hb dX3_isBetter_53 (by decide) ?_
          exact ro_zret hx hb hr hlocks dX3_isBetter_54 rfl (Option.some.inj h)
        · have h := o_f h q
          refine lv_iconst (v := (1 : Int32)) hx hb dX3_isBetter_49 (by decide) ?_
          refine lv_goto (tgt := 54) hx hb dX3_isBetter_50 (by decide) ?_
          exact ro_zret hx hb hr hlocks dX3_isBetter_54 rfl (Option.some.inj h)
    · have h := o_f' h q
      refine lv_aload_n hx hb dX3_isBetter_15 rfl (lv_at hl 0 rfl) ?_
      refine lv_iload_n hx hb dX3_isBetter_16 rfl (lv_at hl 1 rfl) ?_
      obtain ⟨v17, e17, h⟩ := o_bind h
      refine ro_calli (ro_runV (As := [.int p1]) (rest := []) ⟨hx, hb, hml, hown, hts⟩ hP hK (c_X3_many l D c5 b m p1 v17 e17) gG_RX3_51 (va_recv hK hP (ci := 3) (q0 := 0) rfl (MW_0 c5 b m)) hd_X3_many ⟨Nat.le_of_ble_eq_true rfl, Nat.le_of_ble_eq_true rfl⟩ ⟨rfl, rfl⟩ hl.1 (Nat.le_of_ble_eq_true rfl) dX3_isBetter_17 ⟨Nat.zero_le _, Nat.zero_le _⟩ rfl) ?_
      refine lv_aload_n hx hb dX3_isBetter_20 rfl (lv_at hl 0 rfl) ?_
      refine lv_iload_n hx hb dX3_isBetter_21 rfl (lv_at hl 2 rfl) ?_
      obtain ⟨v22, e22, h⟩ := o_bind h
      refine ro_calli (ro_runV (As := [.int p2]) (rest := [.int v17]) ⟨hx, hb, hml, hown, hts⟩ hP hK (c_X3_many l D c5 b m p2 v22 e22) gG_RX3_51 (va_recv hK hP (ci := 3) (q0 := 0) rfl (MW_0 c5 b m)) hd_X3_many ⟨Nat.le_of_ble_eq_true rfl, Nat.le_of_ble_eq_true rfl⟩ ⟨rfl, rfl⟩ hl.1 (Nat.le_of_ble_eq_true rfl) dX3_isBetter_22 ⟨Nat.zero_le _, Nat.zero_le _⟩ rfl) ?_
      refine lv_icmp_gt (tgt := 49) hx hb dX3_isBetter_25 (by decide) (fun q => ?_) (fun q => ?_)
      · have h := o_t h q
        refine lv_iconst (v := (1 : Int32)) hx hb dX3_isBetter_49 (by decide) ?_
        refine lv_goto (tgt := 54) hx hb dX3_isBetter_50 (by decide) ?_
        exact ro_zret hx hb hr hlocks dX3_isBetter_54 rfl (Option.some.inj h)
      · have h := o_f h q
        refine lv_aload_n hx hb dX3_isBetter_28 rfl (lv_at hl 0 rfl) ?_
        refine va_get (D := D) (ci := 3) (v := .int (mF m 2)) (C := RX3) (T := TX3) (N := 14) hx hb hts iX3 hown hK hP 0 (MW_0 c5 b m) rfl 2 (by decide) (hts _ wT3_30) (fun _ h9 => h9) rfl dX3_isBetter_29 ?_
        refine lv_iconst (v := (2 : Int32)) hx hb dX3_isBetter_32 (by decide) ?_
        refine lv_icmp_ne (tgt := 53) hx hb dX3_isBetter_33 (by decide) (fun q => ?_) (fun q => ?_)
        · have h := o_t' h q
          refine lv_iconst (v := (0 : Int32)) hx hb dX3_isBetter_53 (by decide) ?_
          exact ro_zret hx hb hr hlocks dX3_isBetter_54 rfl (Option.some.inj h)
        · have h := o_f' h q
          refine lv_aload_n hx hb dX3_isBetter_36 rfl (lv_at hl 0 rfl) ?_
          refine lv_iload_n hx hb dX3_isBetter_37 rfl (lv_at hl 1 rfl) ?_
          obtain ⟨v38, e38, h⟩ := o_bind h
          refine ro_calli (ro_runV (As := [.int p1]) (rest := []) ⟨hx, hb, hml, hown, hts⟩ hP hK (c_X3_many l D c5 b m p1 v38 e38) gG_RX3_51 (va_recv hK hP (ci := 3) (q0 := 0) rfl (MW_0 c5 b m)) hd_X3_many ⟨Nat.le_of_ble_eq_true rfl, Nat.le_of_ble_eq_true rfl⟩ ⟨rfl, rfl⟩ hl.1 (Nat.le_of_ble_eq_true rfl) dX3_isBetter_38 ⟨Nat.zero_le _, Nat.zero_le _⟩ rfl) ?_
          refine lv_aload_n hx hb dX3_isBetter_41 rfl (lv_at hl 0 rfl) ?_
          refine lv_iload_n hx hb dX3_isBetter_42 rfl (lv_at hl 2 rfl) ?_
          obtain ⟨v43, e43, h⟩ := o_bind h
          refine ro_calli (ro_runV (As := [.int p2]) (rest := [.int v38]) ⟨hx, hb, hml, hown, hts⟩ hP hK (c_X3_many l D c5 b m p2 v43 e43) gG_RX3_51 (va_recv hK hP (ci := 3) (q0 := 0) rfl (MW_0 c5 b m)) hd_X3_many ⟨Nat.le_of_ble_eq_true rfl, Nat.le_of_ble_eq_true rfl⟩ ⟨rfl, rfl⟩ hl.1 (Nat.le_of_ble_eq_true rfl) dX3_isBetter_43 ⟨Nat.zero_le _, Nat.zero_le _⟩ rfl) ?_
          refine lv_icmp_ge (tgt := 53) hx hb dX3_isBetter_46 (by decide) (fun q => ?_) (fun q => ?_)
          · have h := o_t h q
            refine lv_iconst (v := (0 : Int32)) hx hb dX3_isBetter_53 (by decide) ?_
            exact ro_zret hx hb hr hlocks dX3_isBetter_54 rfl (Option.some.inj h)
          · have h := o_f h q
            refine lv_iconst (v := (1 : Int32)) hx hb dX3_isBetter_49 (by decide) ?_
            refine lv_goto (tgt := 54) hx hb dX3_isBetter_50 (by decide) ?_
            exact ro_zret hx hb hr hlocks dX3_isBetter_54 rfl (Option.some.inj h)
  · have h := o_f' h q
    refine lv_iconst (v := (1 : Int32)) hx hb dX3_isBetter_5 (by decide) ?_
    exact ro_zret hx hb hr hlocks dX3_isBetter_6 rfl (Option.some.inj h)
set_option maxHeartbeats 4000000 in
set_option maxRecDepth 100000 in
theorem c_X3_shelfFor (l : Launch) (D : va_G) (c5 : Nat → ClassId) (b : Nat → Nat) (m : MSt) (p1 : Int32) (r : Int32) (h : R_X3_shelfFor m p1 = some r) : Met l yX3_shelfFor (ws_ yX3_shelfFor cX3_shelfFor 4 (some .int)) { frames := 4, cells := 0, slots := 0, locals := 84 } (va_Pc [.ref (b 0), .int p1] (roB D (tyG c5) (MW c5 b m))) (vp_Si (fun x => x = r)) 0 0 (fun _ => False) := by
  refine Met.ofW (cc := cX3_shelfFor) (maxL := 4) (ret := (some .int)) (by decide) rfl ?_
  intro p e s m9 args below meth c s₁ B hml hv
  obtain ⟨rfl, hP, hK⟩ := hv
  have hx := B.exec
  have hb := B.bytes
  have hr := B.returns
  have hts : ∀ w ∈ LA, w.before _ s = true := fun w hw => atoms_spec (ws := ws_ yX3_shelfFor cX3_shelfFor 4 (some .int)) B.pre w (List.mem_cons_of_mem _ hw)
  have hown : s.vm.findClass RX3 = some m9.cls := findClass_of_methodNamed B.named
  have hlocks := B.notSynchronized
  have hl := lv_entry ([.ref (b 0), .int p1] : List Value) (n := 4) (Nat.le_of_ble_eq_true rfl)
  rw [lg_entry_eq]
  generalize (lg_sl ([.ref (b 0), .int p1] : List Value) ++ List.replicate (4 - (lg_sl ([.ref (b 0), .int p1] : List Value)).length) Slot.unset).toArray = ls at hl ⊢
  have hl : lv_has ls 4 [(0, .ref (b 0)), (1, .int p1)] := hl
  unfold R_X3_shelfFor at h
  refine lv_iconst (v := (-1 : Int32)) hx hb dX3_shelfFor_0 (by decide) ?_
  refine lv_istore_n (i := 2) (lv' := [(2, .int (-1 : Int32)), (0, .ref (b 0)), (1, .int p1)]) hx hb dX3_shelfFor_1 rfl hl (by decide) rfl (fun ls hl => ?_)
  refine lv_iconst (v := (0 : Int32)) hx hb dX3_shelfFor_2 (by decide) ?_
  refine lv_istore_n (i := 3) (lv' := [(3, .int (0 : Int32)), (2, .int (-1 : Int32)), (0, .ref (b 0)), (1, .int p1)]) hx hb dX3_shelfFor_3 rfl hl (by decide) rfl (fun ls hl => ?_)
  have L68 : ∀ (n : Nat) (x2_68 : Int32) (x3_68 : Int32) (ls : Array Slot), lv_has ls 4 [(0, .ref (b 0)), (1, .int p1), (2, .int x2_68), (3, .int x3_68)] → R_X3_shelfFor_L68 m n x2_68 x3_68 = some r → W p l e (headSpec (ws_ yX3_shelfFor cX3_shelfFor 4 (some .int)) { frames := 4, cells := 0, slots := 0, locals := 84 }).room s m9 ([.ref (b 0), .int p1] : List Value).toArray below meth c s.heap [] 0 0 (MQ below (vp_Si (fun x => x = r)) ([.ref (b 0), .int p1] : List Value).toArray s 0 0 (fun _ => False)) (F0 m9 68 ls []) := by
    intro n
    induction n with
    | zero =>
      intro x2_68 x3_68 ls hl h
      exact absurd h (by simp [R_X3_shelfFor_L68])
    | succ n ih =>
      intro x2_68 x3_68 ls hl h
      rw [R_X3_shelfFor_L68] at h
      refine lv_iload_n hx hb dX3_shelfFor_68 rfl (lv_at hl 3 rfl) ?_
      refine lv_bipush (v := (12 : Int32)) hx hb dX3_shelfFor_69 (by decide) ?_
      refine lv_icmp_ge (tgt := 95) hx hb dX3_shelfFor_71 (by decide) (fun q => ?_) (fun q => ?_)
      · have h := o_t h q
        refine lv_iload_n hx hb dX3_shelfFor_95 rfl (lv_at hl 2 rfl) ?_
        exact ro_iret hx hb hr hlocks dX3_shelfFor_96 (Option.some.inj h)
      · have h := o_f h q
        refine lv_iload_n hx hb dX3_shelfFor_74 rfl (lv_at hl 2 rfl) ?_
        refine lv_iconst (v := (-1 : Int32)) hx hb dX3_shelfFor_75 (by decide) ?_
        refine lv_icmp_ne (tgt := 95) hx hb dX3_shelfFor_76 (by decide) (fun q => ?_) (fun q => ?_)
        · have h := o_t' h q
          refine lv_iload_n hx hb dX3_shelfFor_95 rfl (lv_at hl 2 rfl) ?_
          exact ro_iret hx hb hr hlocks dX3_shelfFor_96 (Option.some.inj h)
        · have h := o_f' h q
          refine lv_aload_n hx hb dX3_shelfFor_79 rfl (lv_at hl 0 rfl) ?_
          refine lv_iload_n hx hb dX3_shelfFor_80 rfl (lv_at hl 3 rfl) ?_
          obtain ⟨v81, e81, h⟩ := o_bind h
          refine ro_calli (ro_runV (As := [.int x3_68]) (rest := []) ⟨hx, hb, hml, hown, hts⟩ hP hK (c_X3_isFree l D c5 b m x3_68 v81 e81) gG_RX3_74 (va_recv hK hP (ci := 3) (q0 := 0) rfl (MW_0 c5 b m)) hd_X3_isFree ⟨Nat.le_of_ble_eq_true rfl, Nat.le_of_ble_eq_true rfl⟩ ⟨rfl, rfl⟩ hl.1 (Nat.le_of_ble_eq_true rfl) dX3_shelfFor_81 ⟨Nat.zero_le _, Nat.zero_le _⟩ rfl) ?_
          refine lv_if_eq (tgt := 89) hx hb dX3_shelfFor_84 (by decide) (fun q => ?_) (fun q => ?_)
          · have h := o_t h q
            refine lv_iinc (v := (x3_68 + (1 : Int32))) (lv' := [(3, .int (x3_68 + (1 : Int32))), (0, .ref (b 0)), (1, .int p1), (2, .int x2_68)]) hx hb dX3_shelfFor_89 hl (k := 3) rfl rfl (by decide) rfl (fun ls hl => ?_)
            refine lv_goto (tgt := 68) hx hb dX3_shelfFor_92 (by decide) ?_
            exact ih x2_68 (x3_68 + (1 : Int32))  ls (lv_sub hl [1, 2, 3, 0] rfl) h
          · have h := o_f h q
            refine lv_iload_n hx hb dX3_shelfFor_87 rfl (lv_at hl 3 rfl) ?_
            refine lv_istore_n (i := 2) (lv' := [(2, .int x3_68), (0, .ref (b 0)), (1, .int p1), (3, .int x3_68)]) hx hb dX3_shelfFor_88 rfl hl (by decide) rfl (fun ls hl => ?_)
            refine lv_iinc (v := (x3_68 + (1 : Int32))) (lv' := [(3, .int (x3_68 + (1 : Int32))), (2, .int x3_68), (0, .ref (b 0)), (1, .int p1)]) hx hb dX3_shelfFor_89 hl (k := 3) rfl rfl (by decide) rfl (fun ls hl => ?_)
            refine lv_goto (tgt := 68) hx hb dX3_shelfFor_92 (by decide) ?_
            exact ih x3_68 (x3_68 + (1 : Int32))  ls (lv_sub hl [2, 3, 1, 0] rfl) h
  have L38 : ∀ (n : Nat) (x2_38 : Int32) (x3_38 : Int32) (ls : Array Slot), lv_has ls 4 [(0, .ref (b 0)), (1, .int p1), (2, .int x2_38), (3, .int x3_38)] → R_X3_shelfFor_L38 m p1 n x2_38 x3_38 = some r → W p l e (headSpec (ws_ yX3_shelfFor cX3_shelfFor 4 (some .int)) { frames := 4, cells := 0, slots := 0, locals := 84 }).room s m9 ([.ref (b 0), .int p1] : List Value).toArray below meth c s.heap [] 0 0 (MQ below (vp_Si (fun x => x = r)) ([.ref (b 0), .int p1] : List Value).toArray s 0 0 (fun _ => False)) (F0 m9 38 ls []) := by
    intro n
    induction n with
    | zero =>
      intro x2_38 x3_38 ls hl h
      exact absurd h (by simp [R_X3_shelfFor_L38])
    | succ n ih =>
      intro x2_38 x3_38 ls hl h
      rw [R_X3_shelfFor_L38] at h
      refine lv_iload_n hx hb dX3_shelfFor_38 rfl (lv_at hl 3 rfl) ?_
      refine lv_bipush (v := (12 : Int32)) hx hb dX3_shelfFor_39 (by decide) ?_
      refine lv_icmp_ge (tgt := 66) hx hb dX3_shelfFor_41 (by decide) (fun q => ?_) (fun q => ?_)
      · have h := o_t h q
        refine lv_iconst (v := (0 : Int32)) hx hb dX3_shelfFor_66 (by decide) ?_
        refine lv_istore_n (i := 3) (lv' := [(3, .int (0 : Int32)), (0, .ref (b 0)), (1, .int p1), (2, .int x2_38)]) hx hb dX3_shelfFor_67 rfl hl (by decide) rfl (fun ls hl => ?_)
        exact L68 FU x2_38 (0 : Int32)  ls (lv_sub hl [1, 2, 3, 0] rfl) h
      · have h := o_f h q
        refine lv_iload_n hx hb dX3_shelfFor_44 rfl (lv_at hl 2 rfl) ?_
        refine lv_iconst (v := (-1 : Int32)) hx hb dX3_shelfFor_45 (by decide) ?_
        refine lv_icmp_ne (tgt := 66) hx hb dX3_shelfFor_46 (by decide) (fun q => ?_) (fun q => ?_)
        · have h := o_t' h q
          refine lv_iconst (v := (0 : Int32)) hx hb dX3_shelfFor_66 (by decide) ?_
          refine lv_istore_n (i := 3) (lv' := [(3, .int (0 : Int32)), (0, .ref (b 0)), (1, .int p1), (2, .int x2_38)]) hx hb dX3_shelfFor_67 rfl hl (by decide) rfl (fun ls hl => ?_)
          exact L68 FU x2_38 (0 : Int32)  ls (lv_sub hl [1, 2, 3, 0] rfl) h
        · have h := o_f' h q
          refine lv_aload_n hx hb dX3_shelfFor_49 rfl (lv_at hl 0 rfl) ?_
          refine lv_iload_n hx hb dX3_shelfFor_50 rfl (lv_at hl 3 rfl) ?_
          refine lv_iload_n hx hb dX3_shelfFor_51 rfl (lv_at hl 1 rfl) ?_
          obtain ⟨v52, e52, h⟩ := o_bind h
          refine ro_calli (ro_runV (As := [.int x3_38, .int p1]) (rest := []) ⟨hx, hb, hml, hown, hts⟩ hP hK (c_X3_isEmpty l D c5 b m x3_38 p1 v52 e52) gG_RX3_71 (va_recv hK hP (ci := 3) (q0 := 0) rfl (MW_0 c5 b m)) hd_X3_isEmpty ⟨Nat.le_of_ble_eq_true rfl, Nat.le_of_ble_eq_true rfl⟩ ⟨rfl, rfl⟩ hl.1 (Nat.le_of_ble_eq_true rfl) dX3_shelfFor_52 ⟨Nat.zero_le _, Nat.zero_le _⟩ rfl) ?_
          refine lv_if_eq (tgt := 60) hx hb dX3_shelfFor_55 (by decide) (fun q => ?_) (fun q => ?_)
          · have h := o_t h q
            refine lv_iinc (v := (x3_38 + (1 : Int32))) (lv' := [(3, .int (x3_38 + (1 : Int32))), (0, .ref (b 0)), (1, .int p1), (2, .int x2_38)]) hx hb dX3_shelfFor_60 hl (k := 3) rfl rfl (by decide) rfl (fun ls hl => ?_)
            refine lv_goto (tgt := 38) hx hb dX3_shelfFor_63 (by decide) ?_
            exact ih x2_38 (x3_38 + (1 : Int32))  ls (lv_sub hl [1, 2, 3, 0] rfl) h
          · have h := o_f h q
            refine lv_iload_n hx hb dX3_shelfFor_58 rfl (lv_at hl 3 rfl) ?_
            refine lv_istore_n (i := 2) (lv' := [(2, .int x3_38), (0, .ref (b 0)), (1, .int p1), (3, .int x3_38)]) hx hb dX3_shelfFor_59 rfl hl (by decide) rfl (fun ls hl => ?_)
            refine lv_iinc (v := (x3_38 + (1 : Int32))) (lv' := [(3, .int (x3_38 + (1 : Int32))), (2, .int x3_38), (0, .ref (b 0)), (1, .int p1)]) hx hb dX3_shelfFor_60 hl (k := 3) rfl rfl (by decide) rfl (fun ls hl => ?_)
            refine lv_goto (tgt := 38) hx hb dX3_shelfFor_63 (by decide) ?_
            exact ih x3_38 (x3_38 + (1 : Int32))  ls (lv_sub hl [2, 3, 1, 0] rfl) h
  have L4 : ∀ (n : Nat) (x2_4 : Int32) (x3_4 : Int32) (ls : Array Slot), lv_has ls 4 [(0, .ref (b 0)), (1, .int p1), (2, .int x2_4), (3, .int x3_4)] → R_X3_shelfFor_L4 m p1 n x2_4 x3_4 = some r → W p l e (headSpec (ws_ yX3_shelfFor cX3_shelfFor 4 (some .int)) { frames := 4, cells := 0, slots := 0, locals := 84 }).room s m9 ([.ref (b 0), .int p1] : List Value).toArray below meth c s.heap [] 0 0 (MQ below (vp_Si (fun x => x = r)) ([.ref (b 0), .int p1] : List Value).toArray s 0 0 (fun _ => False)) (F0 m9 4 ls []) := by
    intro n
    induction n with
    | zero =>
      intro x2_4 x3_4 ls hl h
      exact absurd h (by simp [R_X3_shelfFor_L4])
    | succ n ih =>
      intro x2_4 x3_4 ls hl h
      rw [R_X3_shelfFor_L4] at h
      refine lv_iload_n hx hb dX3_shelfFor_4 rfl (lv_at hl 3 rfl) ?_
      refine lv_bipush (v := (12 : Int32)) hx hb dX3_shelfFor_5 (by decide) ?_
      refine lv_icmp_ge (tgt := 36) hx hb dX3_shelfFor_7 (by decide) (fun q => ?_) (fun q => ?_)
      · have h := o_t h q
        refine lv_iconst (v := (0 : Int32)) hx hb dX3_shelfFor_36 (by decide) ?_
        refine lv_istore_n (i := 3) (lv' := [(3, .int (0 : Int32)), (0, .ref (b 0)), (1, .int p1), (2, .int x2_4)]) hx hb dX3_shelfFor_37 rfl hl (by decide) rfl (fun ls hl => ?_)
        exact L38 FU x2_4 (0 : Int32)  ls (lv_sub hl [1, 2, 3, 0] rfl) h
      · have h := o_f h q
        refine lv_aload_n hx hb dX3_shelfFor_10 rfl (lv_at hl 0 rfl) ?_
        refine lv_iload_n hx hb dX3_shelfFor_11 rfl (lv_at hl 3 rfl) ?_
        refine lv_iload_n hx hb dX3_shelfFor_12 rfl (lv_at hl 1 rfl) ?_
        obtain ⟨v13, e13, h⟩ := o_bind h
        refine ro_calli (ro_runV (As := [.int x3_4, .int p1]) (rest := []) ⟨hx, hb, hml, hown, hts⟩ hP hK (c_X3_isUsed l D c5 b m x3_4 p1 v13 e13) gG_RX3_64 (va_recv hK hP (ci := 3) (q0 := 0) rfl (MW_0 c5 b m)) hd_X3_isUsed ⟨Nat.le_of_ble_eq_true rfl, Nat.le_of_ble_eq_true rfl⟩ ⟨rfl, rfl⟩ hl.1 (Nat.le_of_ble_eq_true rfl) dX3_shelfFor_13 ⟨Nat.zero_le _, Nat.zero_le _⟩ rfl) ?_
        refine lv_if_eq (tgt := 30) hx hb dX3_shelfFor_16 (by decide) (fun q => ?_) (fun q => ?_)
        · have h := o_t h q
          refine lv_iinc (v := (x3_4 + (1 : Int32))) (lv' := [(3, .int (x3_4 + (1 : Int32))), (0, .ref (b 0)), (1, .int p1), (2, .int x2_4)]) hx hb dX3_shelfFor_30 hl (k := 3) rfl rfl (by decide) rfl (fun ls hl => ?_)
          refine lv_goto (tgt := 4) hx hb dX3_shelfFor_33 (by decide) ?_
          exact ih x2_4 (x3_4 + (1 : Int32))  ls (lv_sub hl [1, 2, 3, 0] rfl) h
        · have h := o_f h q
          refine lv_aload_n hx hb dX3_shelfFor_19 rfl (lv_at hl 0 rfl) ?_
          refine lv_iload_n hx hb dX3_shelfFor_20 rfl (lv_at hl 3 rfl) ?_
          refine lv_iload_n hx hb dX3_shelfFor_21 rfl (lv_at hl 2 rfl) ?_
          obtain ⟨v22, e22, h⟩ := o_bind h
          refine ro_calli (ro_runV (As := [.int x3_4, .int x2_4]) (rest := []) ⟨hx, hb, hml, hown, hts⟩ hP hK (c_X3_isBetter l D c5 b m x3_4 x2_4 v22 e22) gG_RX3_68 (va_recv hK hP (ci := 3) (q0 := 0) rfl (MW_0 c5 b m)) hd_X3_isBetter ⟨Nat.le_of_ble_eq_true rfl, Nat.le_of_ble_eq_true rfl⟩ ⟨rfl, rfl⟩ hl.1 (Nat.le_of_ble_eq_true rfl) dX3_shelfFor_22 ⟨Nat.zero_le _, Nat.zero_le _⟩ rfl) ?_
          refine lv_if_eq (tgt := 30) hx hb dX3_shelfFor_25 (by decide) (fun q => ?_) (fun q => ?_)
          · have h := o_t h q
            refine lv_iinc (v := (x3_4 + (1 : Int32))) (lv' := [(3, .int (x3_4 + (1 : Int32))), (0, .ref (b 0)), (1, .int p1), (2, .int x2_4)]) hx hb dX3_shelfFor_30 hl (k := 3) rfl rfl (by decide) rfl (fun ls hl => ?_)
            refine lv_goto (tgt := 4) hx hb dX3_shelfFor_33 (by decide) ?_
            exact ih x2_4 (x3_4 + (1 : Int32))  ls (lv_sub hl [1, 2, 3, 0] rfl) h
          · have h := o_f h q
            refine lv_iload_n hx hb dX3_shelfFor_28 rfl (lv_at hl 3 rfl) ?_
            refine lv_istore_n (i := 2) (lv' := [(2, .int x3_4), (0, .ref (b 0)), (1, .int p1), (3, .int x3_4)]) hx hb dX3_shelfFor_29 rfl hl (by decide) rfl (fun ls hl => ?_)
            refine lv_iinc (v := (x3_4 + (1 : Int32))) (lv' := [(3, .int (x3_4 + (1 : Int32))), (2, .int x3_4), (0, .ref (b 0)), (1, .int p1)]) hx hb dX3_shelfFor_30 hl (k := 3) rfl rfl (by decide) rfl (fun ls hl => ?_)
            refine lv_goto (tgt := 4) hx hb dX3_shelfFor_33 (by decide) ?_
            exact ih x3_4 (x3_4 + (1 : Int32))  ls (lv_sub hl [2, 3, 1, 0] rfl) h
  exact L4 FU (-1 : Int32) (0 : Int32)  ls (lv_sub hl [2, 3, 1, 0] rfl) h
set_option maxHeartbeats 4000000 in
set_option maxRecDepth 100000 in
theorem c_X3_nextRim (l : Launch) (D : va_G) (c5 : Nat → ClassId) (b : Nat → Nat) (m : MSt) (p1 : Int32) (r : Int32) (h : R_X3_nextRim m p1 = some r) : Met l yX3_nextRim (ws_ yX3_nextRim cX3_nextRim 2 (some .int)) { frames := 1, cells := 0, slots := 0, locals := 21 } (va_Pc [.ref (b 0), .int p1] (roB D (tyG c5) (MW c5 b m))) (vp_Si (fun x => x = r)) 0 0 (fun _ => False) := by
  refine Met.ofW (cc := cX3_nextRim) (maxL := 2) (ret := (some .int)) (by decide) rfl ?_
  intro p e s m9 args below meth c s₁ B hml hv
  obtain ⟨rfl, hP, hK⟩ := hv
  have hx := B.exec
  have hb := B.bytes
  have hr := B.returns
  have hts : ∀ w ∈ LA, w.before _ s = true := fun w hw => atoms_spec (ws := ws_ yX3_nextRim cX3_nextRim 2 (some .int)) B.pre w (List.mem_cons_of_mem _ hw)
  have hown : s.vm.findClass RX3 = some m9.cls := findClass_of_methodNamed B.named
  have hlocks := B.notSynchronized
  have hl := lv_entry ([.ref (b 0), .int p1] : List Value) (n := 2) (Nat.le_of_ble_eq_true rfl)
  rw [lg_entry_eq]
  generalize (lg_sl ([.ref (b 0), .int p1] : List Value) ++ List.replicate (2 - (lg_sl ([.ref (b 0), .int p1] : List Value)).length) Slot.unset).toArray = ls at hl ⊢
  have hl : lv_has ls 2 [(0, .ref (b 0)), (1, .int p1)] := hl
  unfold R_X3_nextRim at h
  refine lv_aload_n hx hb dX3_nextRim_0 rfl (lv_at hl 0 rfl) ?_
  refine va_get (D := D) (ci := 3) (v := .ref (b 2)) (C := RX3) (T := TX3) (N := 14) hx hb hts iX3 hown hK hP 0 (MW_0 c5 b m) rfl 7 (by decide) (hts _ wT3_35) (fun _ h9 => h9) rfl dX3_nextRim_1 ?_
  refine lv_iload_n hx hb dX3_nextRim_4 rfl (lv_at hl 1 rfl) ?_
  obtain ⟨g5, h⟩ := o_if h
  refine va_iald hx hb hK hP 2 3 (MW_2 c5 b m) rfl (inb_in g5) dX3_nextRim_5 ?_
  refine lv_aload_n hx hb dX3_nextRim_6 rfl (lv_at hl 0 rfl) ?_
  refine lv_iload_n hx hb dX3_nextRim_7 rfl (lv_at hl 1 rfl) ?_
  obtain ⟨v8, e8, h⟩ := o_bind h
  refine ro_calli (ro_runV (As := [.int p1]) (rest := [.int (mA m 1 (p1.toNatClampNeg))]) ⟨hx, hb, hml, hown, hts⟩ hP hK (c_X3_rest l D c5 b m p1 v8 e8) gG_RX3_77 (va_recv hK hP (ci := 3) (q0 := 0) rfl (MW_0 c5 b m)) hd_X3_rest ⟨Nat.le_of_ble_eq_true rfl, Nat.le_of_ble_eq_true rfl⟩ ⟨rfl, rfl⟩ hl.1 (Nat.le_of_ble_eq_true rfl) dX3_nextRim_8 ⟨Nat.zero_le _, Nat.zero_le _⟩ rfl) ?_
  refine lv_iconst (v := (1 : Int32)) hx hb dX3_nextRim_11 (by decide) ?_
  refine lv_iadd hx hb dX3_nextRim_12 ?_
  obtain ⟨g13, h⟩ := o_if h
  refine lv_irem hx hb dX3_nextRim_13 g13 ?_
  exact ro_iret hx hb hr hlocks dX3_nextRim_14 (Option.some.inj h)
set_option maxHeartbeats 4000000 in
set_option maxRecDepth 100000 in
theorem c_X3_spotFor (l : Launch) (D : va_G) (c5 : Nat → ClassId) (b : Nat → Nat) (m : MSt) (p1 : Int32) (r : Int32) (h : R_X3_spotFor m p1 = some r) : Met l yX3_spotFor (ws_ yX3_spotFor cX3_spotFor 3 (some .int)) { frames := 5, cells := 0, slots := 0, locals := 107 } (va_Pc [.ref (b 0), .int p1] (roB D (tyG c5) (MW c5 b m))) (vp_Si (fun x => x = r)) 0 0 (fun _ => False) := by
  refine Met.ofW (cc := cX3_spotFor) (maxL := 3) (ret := (some .int)) (by decide) rfl ?_
  intro p e s m9 args below meth c s₁ B hml hv
  obtain ⟨rfl, hP, hK⟩ := hv
  have hx := B.exec
  have hb := B.bytes
  have hr := B.returns
  have hts : ∀ w ∈ LA, w.before _ s = true := fun w hw => atoms_spec (ws := ws_ yX3_spotFor cX3_spotFor 3 (some .int)) B.pre w (List.mem_cons_of_mem _ hw)
  have hown : s.vm.findClass RX3 = some m9.cls := findClass_of_methodNamed B.named
  have hlocks := B.notSynchronized
  have hl := lv_entry ([.ref (b 0), .int p1] : List Value) (n := 3) (Nat.le_of_ble_eq_true rfl)
  rw [lg_entry_eq]
  generalize (lg_sl ([.ref (b 0), .int p1] : List Value) ++ List.replicate (3 - (lg_sl ([.ref (b 0), .int p1] : List Value)).length) Slot.unset).toArray = ls at hl ⊢
  have hl : lv_has ls 3 [(0, .ref (b 0)), (1, .int p1)] := hl
  unfold R_X3_spotFor at h
  refine lv_aload_n hx hb dX3_spotFor_0 rfl (lv_at hl 0 rfl) ?_
  refine lv_iload_n hx hb dX3_spotFor_1 rfl (lv_at hl 1 rfl) ?_
  obtain ⟨v2, e2, h⟩ := o_bind h
  refine ro_calli (ro_runV (As := [.int p1]) (rest := []) ⟨hx, hb, hml, hown, hts⟩ hP hK (c_X3_shelfFor l D c5 b m p1 v2 e2) gG_RX3_80 (va_recv hK hP (ci := 3) (q0 := 0) rfl (MW_0 c5 b m)) hd_X3_shelfFor ⟨Nat.le_of_ble_eq_true rfl, Nat.le_of_ble_eq_true rfl⟩ ⟨rfl, rfl⟩ hl.1 (Nat.le_of_ble_eq_true rfl) dX3_spotFor_2 ⟨Nat.zero_le _, Nat.zero_le _⟩ rfl) ?_
  refine lv_istore_n (i := 2) (lv' := [(2, .int v2), (0, .ref (b 0)), (1, .int p1)]) hx hb dX3_spotFor_5 rfl hl (by decide) rfl (fun ls hl => ?_)
  refine lv_iload_n hx hb dX3_spotFor_6 rfl (lv_at hl 0 rfl) ?_
  refine lv_iconst (v := (-1 : Int32)) hx hb dX3_spotFor_7 (by decide) ?_
  refine lv_icmp_ne (tgt := 13) hx hb dX3_spotFor_8 (by decide) (fun q => ?_) (fun q => ?_)
  · have h := o_t' h q
    refine lv_aload_n hx hb dX3_spotFor_13 rfl (lv_at hl 1 rfl) ?_
    refine lv_iload_n hx hb dX3_spotFor_14 rfl (lv_at hl 0 rfl) ?_
    obtain ⟨v15, e15, h⟩ := o_bind h
    refine ro_calli (ro_runV (As := [.int v2]) (rest := []) ⟨hx, hb, hml, hown, hts⟩ hP hK (c_X3_isFree l D c5 b m v2 v15 e15) gG_RX3_74 (va_recv hK hP (ci := 3) (q0 := 0) rfl (MW_0 c5 b m)) hd_X3_isFree ⟨Nat.le_of_ble_eq_true rfl, Nat.le_of_ble_eq_true rfl⟩ ⟨rfl, rfl⟩ hl.1 (Nat.le_of_ble_eq_true rfl) dX3_spotFor_15 ⟨Nat.zero_le _, Nat.zero_le _⟩ rfl) ?_
    refine lv_if_eq (tgt := 34) hx hb dX3_spotFor_18 (by decide) (fun q => ?_) (fun q => ?_)
    · have h := o_t h q
      refine lv_aload_n hx hb dX3_spotFor_34 rfl (lv_at hl 1 rfl) ?_
      refine lv_iload_n hx hb dX3_spotFor_35 rfl (lv_at hl 0 rfl) ?_
      refine lv_aload_n hx hb dX3_spotFor_36 rfl (lv_at hl 1 rfl) ?_
      refine lv_iload_n hx hb dX3_spotFor_37 rfl (lv_at hl 0 rfl) ?_
      obtain ⟨v38, e38, h⟩ := o_bind h
      refine ro_calli (ro_runV (As := [.int v2]) (rest := [.int v2, .ref (b 0)]) ⟨hx, hb, hml, hown, hts⟩ hP hK (c_X3_hole l D c5 b m v2 v38 e38) gG_RX3_86 (va_recv hK hP (ci := 3) (q0 := 0) rfl (MW_0 c5 b m)) hd_X3_hole ⟨Nat.le_of_ble_eq_true rfl, Nat.le_of_ble_eq_true rfl⟩ ⟨rfl, rfl⟩ hl.1 (Nat.le_of_ble_eq_true rfl) dX3_spotFor_38 ⟨Nat.zero_le _, Nat.zero_le _⟩ rfl) ?_
      obtain ⟨v41, e41, h⟩ := o_bind h
      refine ro_calli (ro_runV (As := [.int v2, .int v38]) (rest := []) ⟨hx, hb, hml, hown, hts⟩ hP hK (c_X3_spotOf l D c5 b m v2 v38 v41 e41) gG_RX3_89 (va_recv hK hP (ci := 3) (q0 := 0) rfl (MW_0 c5 b m)) hd_X3_spotOf ⟨Nat.le_of_ble_eq_true rfl, Nat.le_of_ble_eq_true rfl⟩ ⟨rfl, rfl⟩ hl.1 (Nat.le_of_ble_eq_true rfl) dX3_spotFor_41 ⟨Nat.zero_le _, Nat.zero_le _⟩ rfl) ?_
      exact ro_iret hx hb hr hlocks dX3_spotFor_44 (Option.some.inj h)
    · have h := o_f h q
      refine lv_bipush (v := (24 : Int32)) hx hb dX3_spotFor_21 (by decide) ?_
      refine lv_iload_n hx hb dX3_spotFor_23 rfl (lv_at hl 0 rfl) ?_
      refine lv_imul hx hb dX3_spotFor_24 ?_
      refine lv_aload_n hx hb dX3_spotFor_25 rfl (lv_at hl 1 rfl) ?_
      refine lv_iload_n hx hb dX3_spotFor_26 rfl (lv_at hl 2 rfl) ?_
      obtain ⟨v27, e27, h⟩ := o_bind h
      refine ro_calli (ro_runV (As := [.int p1]) (rest := [.int ((24 : Int32) * v2)]) ⟨hx, hb, hml, hown, hts⟩ hP hK (c_X3_nextRim l D c5 b m p1 v27 e27) gG_RX3_83 (va_recv hK hP (ci := 3) (q0 := 0) rfl (MW_0 c5 b m)) hd_X3_nextRim ⟨Nat.le_of_ble_eq_true rfl, Nat.le_of_ble_eq_true rfl⟩ ⟨rfl, rfl⟩ hl.1 (Nat.le_of_ble_eq_true rfl) dX3_spotFor_27 ⟨Nat.zero_le _, Nat.zero_le _⟩ rfl) ?_
      refine lv_iadd hx hb dX3_spotFor_30 ?_
      refine lv_goto (tgt := 44) hx hb dX3_spotFor_31 (by decide) ?_
      exact ro_iret hx hb hr hlocks dX3_spotFor_44 (Option.some.inj h)
  · have h := o_f' h q
    refine lv_iconst (v := (-1 : Int32)) hx hb dX3_spotFor_11 (by decide) ?_
    exact ro_iret hx hb hr hlocks dX3_spotFor_12 (Option.some.inj h)
set_option maxHeartbeats 4000000 in
set_option maxRecDepth 100000 in
theorem c_X3_own (l : Launch) (D : va_G) (c5 : Nat → ClassId) (b : Nat → Nat) (m : MSt) (sz : Nat) (p1 : Int32) (p2 : Int32) (r : MSt) (h : R_X3_own m p1 p2 = some r) : Met l yX3_own (ws_ yX3_own cX3_own 3 none) { frames := 2, cells := 0, slots := 0, locals := 42 } (va_Pc [.ref (b 0), .int p1, .int p2] (rwB D (tyG c5) (MW c5 b m) sz)) (va_Qv (fun u => u = r) (rwE D (tyG c5) (va_A (MW c5 b m) sz) (fun u => MW c5 b u)) (va_A (MW c5 b m) sz)) 0 0 (va_A (MW c5 b m) sz) := by
  refine Met.ofW (cc := cX3_own) (maxL := 3) (ret := none) (by decide) rfl ?_
  intro p e s m9 args below meth c s₁ B hml hv
  obtain ⟨rfl, hsz, hP, hK, hD0⟩ := hv
  have hx := B.exec
  have hb := B.bytes
  have hr := B.returns
  have hts : ∀ w ∈ LA, w.before _ s = true := fun w hw => atoms_spec (ws := ws_ yX3_own cX3_own 3 none) B.pre w (List.mem_cons_of_mem _ hw)
  have hown : s.vm.findClass RX3 = some m9.cls := findClass_of_methodNamed B.named
  have hlocks := B.notSynchronized
  subst hsz
  have hD := hD0.self (sz := s.heap.size)
  generalize hAe : va_A (MW c5 b m) s.heap.size = A at hD ⊢
  have hA : ∀ q : Nat, s.heap.size ≤ q → A q := fun q h => by rw [← hAe]; exact Or.inr h
  have hS : va_S A s.heap s.heap [] := va_S.rf
  have hl := lv_entry ([.ref (b 0), .int p1, .int p2] : List Value) (n := 3) (Nat.le_of_ble_eq_true rfl)
  rw [lg_entry_eq]
  generalize (lg_sl ([.ref (b 0), .int p1, .int p2] : List Value) ++ List.replicate (3 - (lg_sl ([.ref (b 0), .int p1, .int p2] : List Value)).length) Slot.unset).toArray = ls at hl ⊢
  have hl : lv_has ls 3 [(0, .ref (b 0)), (1, .int p1), (2, .int p2)] := hl
  unfold R_X3_own at h
  refine lv_aload_n hx hb dX3_own_0 rfl (lv_at hl 0 rfl) ?_
  refine va_get (D := D) (ci := 3) (v := .ref (b 3)) (C := RX3) (T := TX3) (N := 14) hx hb hts iX3 hown hK hP 0 (MW_0 c5 b m) rfl 8 (by decide) (hts _ wT3_36) (fun _ h9 => h9) rfl dX3_own_1 ?_
  refine lv_iload_n hx hb dX3_own_4 rfl (lv_at hl 1 rfl) ?_
  refine lv_iload_n hx hb dX3_own_5 rfl (lv_at hl 2 rfl) ?_
  obtain ⟨g6, h⟩ := o_if h
  refine va_iast hx hb hK hP hD hS 3 3 (MW_3 c5 b m) rfl (inb_in g6) dX3_own_6 (fun H locs hP hD hS => ?_)
  have hP := wP (MW_set3 c5 b m _) hP
  have hD := wD (MW_set3 c5 b m _) hD
  refine lv_aload_n hx hb dX3_own_7 rfl (lv_at hl 0 rfl) ?_
  refine va_get (D := D) (ci := 3) (v := .ref (b 4)) (C := RX3) (T := TX3) (N := 14) hx hb hts iX3 hown hK hP 0 (MW_0 c5 b (mAs m 2 (upd (mA m 2) (p1.toNatClampNeg) p2))) rfl 9 (by decide) (hts _ wT3_37) (fun _ h9 => h9) rfl dX3_own_8 ?_
  refine lv_iload_n hx hb dX3_own_11 rfl (lv_at hl 1 rfl) ?_
  refine lv_aload_n hx hb dX3_own_12 rfl (lv_at hl 0 rfl) ?_
  refine lv_iload_n hx hb dX3_own_13 rfl (lv_at hl 2 rfl) ?_
  obtain ⟨v14, e14, h⟩ := o_bind h
  refine ro_calli (ro_runV (As := [.int p2]) (rest := [.int p1, .ref (b 4)]) ⟨hx, hb, hml, hown, hts⟩ hP hK (c_X3_nextRim l D c5 b (mAs m 2 (upd (mA m 2) (p1.toNatClampNeg) p2)) p2 v14 e14) gG_RX3_83 (va_recv hK hP (ci := 3) (q0 := 0) rfl (MW_0 c5 b (mAs m 2 (upd (mA m 2) (p1.toNatClampNeg) p2)))) hd_X3_nextRim ⟨Nat.le_of_ble_eq_true rfl, Nat.le_of_ble_eq_true rfl⟩ ⟨rfl, rfl⟩ hl.1 (Nat.le_of_ble_eq_true rfl) dX3_own_14 ⟨Nat.zero_le _, Nat.zero_le _⟩ rfl) ?_
  obtain ⟨g17, h⟩ := o_if h
  refine va_iast hx hb hK hP hD hS 4 3 (MW_4 c5 b (mAs m 2 (upd (mA m 2) (p1.toNatClampNeg) p2))) rfl (inb_in g17) dX3_own_17 (fun H locs hP hD hS => ?_)
  have hP := wP (MW_set4 c5 b (mAs m 2 (upd (mA m 2) (p1.toNatClampNeg) p2)) _) hP
  have hD := wD (MW_set4 c5 b (mAs m 2 (upd (mA m 2) (p1.toNatClampNeg) p2)) _) hD
  refine lv_aload_n hx hb dX3_own_18 rfl (lv_at hl 0 rfl) ?_
  refine va_get (D := D) (ci := 3) (v := .ref (b 2)) (C := RX3) (T := TX3) (N := 14) hx hb hts iX3 hown hK hP 0 (MW_0 c5 b (mAs (mAs m 2 (upd (mA m 2) (p1.toNatClampNeg) p2)) 3 (upd (mA (mAs m 2 (upd (mA m 2) (p1.toNatClampNeg) p2)) 3) (p1.toNatClampNeg) v14))) rfl 7 (by decide) (hts _ wT3_35) (fun _ h9 => h9) rfl dX3_own_19 ?_
  refine lv_iload_n hx hb dX3_own_22 rfl (lv_at hl 2 rfl) ?_
  refine lv_dup2_11 hx hb dX3_own_23 rfl rfl ?_
  obtain ⟨g24, h⟩ := o_if h
  refine va_iald hx hb hK hP 2 3 (MW_2 c5 b (mAs (mAs m 2 (upd (mA m 2) (p1.toNatClampNeg) p2)) 3 (upd (mA (mAs m 2 (upd (mA m 2) (p1.toNatClampNeg) p2)) 3) (p1.toNatClampNeg) v14))) rfl (inb_in g24) dX3_own_24 ?_
  refine lv_iconst (v := (1 : Int32)) hx hb dX3_own_25 (by decide) ?_
  refine lv_iadd hx hb dX3_own_26 ?_
  obtain ⟨g27, h⟩ := o_if h
  refine va_iast hx hb hK hP hD hS 2 3 (MW_2 c5 b (mAs (mAs m 2 (upd (mA m 2) (p1.toNatClampNeg) p2)) 3 (upd (mA (mAs m 2 (upd (mA m 2) (p1.toNatClampNeg) p2)) 3) (p1.toNatClampNeg) v14))) rfl (inb_in g27) dX3_own_27 (fun H locs hP hD hS => ?_)
  have hP := wP (MW_set2 c5 b (mAs (mAs m 2 (upd (mA m 2) (p1.toNatClampNeg) p2)) 3 (upd (mA (mAs m 2 (upd (mA m 2) (p1.toNatClampNeg) p2)) 3) (p1.toNatClampNeg) v14)) _) hP
  have hD := wD (MW_set2 c5 b (mAs (mAs m 2 (upd (mA m 2) (p1.toNatClampNeg) p2)) 3 (upd (mA (mAs m 2 (upd (mA m 2) (p1.toNatClampNeg) p2)) 3) (p1.toNatClampNeg) v14)) _) hD
  obtain rfl := (Option.some.inj h)
  exact rw_vret (wf := fun u => MW c5 b u) hx hb hr hlocks hP hK hD hS dX3_own_28
set_option maxHeartbeats 4000000 in
set_option maxRecDepth 100000 in
theorem c_X3_placed (l : Launch) (D : va_G) (c5 : Nat → ClassId) (b : Nat → Nat) (m : MSt) (sz : Nat) (p1 : Int32) (p2 : Int32) (r : Int32 × MSt) (h : R_X3_placed m p1 p2 = some r) : Met l yX3_placed (ws_ yX3_placed cX3_placed 4 (some .int)) { frames := 3, cells := 0, slots := 0, locals := 64 } (va_Pc [.ref (b 0), .int p1, .int p2] (rwB D (tyG c5) (MW c5 b m) sz)) (va_Qi (fun x u => x = r.1 ∧ u = r.2) (rwE D (tyG c5) (va_A (MW c5 b m) sz) (fun u => MW c5 b u)) (va_A (MW c5 b m) sz)) 0 0 (va_A (MW c5 b m) sz) := by
  refine Met.ofW (cc := cX3_placed) (maxL := 4) (ret := (some .int)) (by decide) rfl ?_
  intro p e s m9 args below meth c s₁ B hml hv
  obtain ⟨rfl, hsz, hP, hK, hD0⟩ := hv
  have hx := B.exec
  have hb := B.bytes
  have hr := B.returns
  have hts : ∀ w ∈ LA, w.before _ s = true := fun w hw => atoms_spec (ws := ws_ yX3_placed cX3_placed 4 (some .int)) B.pre w (List.mem_cons_of_mem _ hw)
  have hown : s.vm.findClass RX3 = some m9.cls := findClass_of_methodNamed B.named
  have hlocks := B.notSynchronized
  subst hsz
  have hD := hD0.self (sz := s.heap.size)
  generalize hAe : va_A (MW c5 b m) s.heap.size = A at hD ⊢
  have hA : ∀ q : Nat, s.heap.size ≤ q → A q := fun q h => by rw [← hAe]; exact Or.inr h
  have hS : va_S A s.heap s.heap [] := va_S.rf
  have hl := lv_entry ([.ref (b 0), .int p1, .int p2] : List Value) (n := 4) (Nat.le_of_ble_eq_true rfl)
  rw [lg_entry_eq]
  generalize (lg_sl ([.ref (b 0), .int p1, .int p2] : List Value) ++ List.replicate (4 - (lg_sl ([.ref (b 0), .int p1, .int p2] : List Value)).length) Slot.unset).toArray = ls at hl ⊢
  have hl : lv_has ls 4 [(0, .ref (b 0)), (1, .int p1), (2, .int p2)] := hl
  unfold R_X3_placed at h
  refine lv_aload_n hx hb dX3_placed_0 rfl (lv_at hl 0 rfl) ?_
  refine lv_iload_n hx hb dX3_placed_1 rfl (lv_at hl 2 rfl) ?_
  obtain ⟨v2, e2, h⟩ := o_bind h
  refine ro_calli (ro_runV (As := [.int p2]) (rest := []) ⟨hx, hb, hml, hown, hts⟩ hP hK (c_X3_isFree l D c5 b m p2 v2 e2) gG_RX3_74 (va_recv hK hP (ci := 3) (q0 := 0) rfl (MW_0 c5 b m)) hd_X3_isFree ⟨Nat.le_of_ble_eq_true rfl, Nat.le_of_ble_eq_true rfl⟩ ⟨rfl, rfl⟩ hl.1 (Nat.le_of_ble_eq_true rfl) dX3_placed_2 ⟨Nat.zero_le _, Nat.zero_le _⟩ rfl) ?_
  refine lv_if_eq (tgt := 14) hx hb dX3_placed_5 (by decide) (fun q => ?_) (fun q => ?_)
  · have h := o_t h q
    refine lv_aload_n hx hb dX3_placed_14 rfl (lv_at hl 0 rfl) ?_
    refine lv_iload_n hx hb dX3_placed_15 rfl (lv_at hl 2 rfl) ?_
    obtain ⟨v16, e16, h⟩ := o_bind h
    refine ro_calli (ro_runV (As := [.int p2]) (rest := []) ⟨hx, hb, hml, hown, hts⟩ hP hK (c_X3_hole l D c5 b m p2 v16 e16) gG_RX3_86 (va_recv hK hP (ci := 3) (q0 := 0) rfl (MW_0 c5 b m)) hd_X3_hole ⟨Nat.le_of_ble_eq_true rfl, Nat.le_of_ble_eq_true rfl⟩ ⟨rfl, rfl⟩ hl.1 (Nat.le_of_ble_eq_true rfl) dX3_placed_16 ⟨Nat.zero_le _, Nat.zero_le _⟩ rfl) ?_
    refine lv_istore_n (i := 3) (lv' := [(3, .int v16), (0, .ref (b 0)), (1, .int p1), (2, .int p2)]) hx hb dX3_placed_19 rfl hl (by decide) rfl (fun ls hl => ?_)
    refine lv_aload_n hx hb dX3_placed_20 rfl (lv_at hl 1 rfl) ?_
    refine va_get (D := D) (ci := 3) (v := .ref (b 5)) (C := RX3) (T := TX3) (N := 14) hx hb hts iX3 hown hK hP 0 (MW_0 c5 b m) rfl 10 (by decide) (hts _ wT3_38) (fun _ h9 => h9) rfl dX3_placed_21 ?_
    refine lv_iload_n hx hb dX3_placed_24 rfl (lv_at hl 3 rfl) ?_
    refine lv_dup2_11 hx hb dX3_placed_25 rfl rfl ?_
    obtain ⟨g26, h⟩ := o_if h
    refine va_iald hx hb hK hP 5 3 (MW_5 c5 b m) rfl (inb_in g26) dX3_placed_26 ?_
    refine lv_iconst (v := (1 : Int32)) hx hb dX3_placed_27 (by decide) ?_
    refine lv_iload_n hx hb dX3_placed_28 rfl (lv_at hl 0 rfl) ?_
    refine lv_ishl hx hb dX3_placed_29 ?_
    refine lv_ior hx hb dX3_placed_30 ?_
    obtain ⟨g31, h⟩ := o_if h
    refine va_iast hx hb hK hP hD hS 5 3 (MW_5 c5 b m) rfl (inb_in g31) dX3_placed_31 (fun H locs hP hD hS => ?_)
    have hP := wP (MW_set5 c5 b m _) hP
    have hD := wD (MW_set5 c5 b m _) hD
    refine lv_aload_n hx hb dX3_placed_32 rfl (lv_at hl 1 rfl) ?_
    refine va_get (D := D) (ci := 3) (v := .ref (b 6)) (C := RX3) (T := TX3) (N := 14) hx hb hts iX3 hown hK hP 0 (MW_0 c5 b (mAs m 4 (upd (mA m 4) (p2.toNatClampNeg) ((mA m 4 (p2.toNatClampNeg)) ||| ((1 : Int32) <<< (v16 &&& 31)))))) rfl 11 (by decide) (hts _ wT3_39) (fun _ h9 => h9) rfl dX3_placed_33 ?_
    refine lv_iload_n hx hb dX3_placed_36 rfl (lv_at hl 3 rfl) ?_
    refine lv_iconst (v := (-1 : Int32)) hx hb dX3_placed_37 (by decide) ?_
    obtain ⟨g38, h⟩ := o_if h
    refine va_iast hx hb hK hP hD hS 6 3 (MW_6 c5 b (mAs m 4 (upd (mA m 4) (p2.toNatClampNeg) ((mA m 4 (p2.toNatClampNeg)) ||| ((1 : Int32) <<< (v16 &&& 31)))))) rfl (inb_in g38) dX3_placed_38 (fun H locs hP hD hS => ?_)
    have hP := wP (MW_set6 c5 b (mAs m 4 (upd (mA m 4) (p2.toNatClampNeg) ((mA m 4 (p2.toNatClampNeg)) ||| ((1 : Int32) <<< (v16 &&& 31))))) _) hP
    have hD := wD (MW_set6 c5 b (mAs m 4 (upd (mA m 4) (p2.toNatClampNeg) ((mA m 4 (p2.toNatClampNeg)) ||| ((1 : Int32) <<< (v16 &&& 31))))) _) hD
    refine lv_aload_n hx hb dX3_placed_39 rfl (lv_at hl 1 rfl) ?_
    refine lv_dup hx hb dX3_placed_40 rfl ?_
    refine va_get (D := D) (ci := 3) (v := .int (mF (mAs (mAs m 4 (upd (mA m 4) (p2.toNatClampNeg) ((mA m 4 (p2.toNatClampNeg)) ||| ((1 : Int32) <<< (v16 &&& 31))))) 5 (upd (mA (mAs m 4 (upd (mA m 4) (p2.toNatClampNeg) ((mA m 4 (p2.toNatClampNeg)) ||| ((1 : Int32) <<< (v16 &&& 31))))) 5) (p2.toNatClampNeg) (-1 : Int32))) 1)) (C := RX3) (T := TX3) (N := 14) hx hb hts iX3 hown hK hP 0 (MW_0 c5 b (mAs (mAs m 4 (upd (mA m 4) (p2.toNatClampNeg) ((mA m 4 (p2.toNatClampNeg)) ||| ((1 : Int32) <<< (v16 &&& 31))))) 5 (upd (mA (mAs m 4 (upd (mA m 4) (p2.toNatClampNeg) ((mA m 4 (p2.toNatClampNeg)) ||| ((1 : Int32) <<< (v16 &&& 31))))) 5) (p2.toNatClampNeg) (-1 : Int32)))) rfl 1 (by decide) (hts _ wT3_29) (fun _ h9 => h9) rfl dX3_placed_41 ?_
    refine lv_iconst (v := (1 : Int32)) hx hb dX3_placed_44 (by decide) ?_
    refine lv_iadd hx hb dX3_placed_45 ?_
    refine va_put (D := D) (ci := 3) (v := .int ((mF (mAs (mAs m 4 (upd (mA m 4) (p2.toNatClampNeg) ((mA m 4 (p2.toNatClampNeg)) ||| ((1 : Int32) <<< (v16 &&& 31))))) 5 (upd (mA (mAs m 4 (upd (mA m 4) (p2.toNatClampNeg) ((mA m 4 (p2.toNatClampNeg)) ||| ((1 : Int32) <<< (v16 &&& 31))))) 5) (p2.toNatClampNeg) (-1 : Int32))) 1) + (1 : Int32))) (ty := .int) (C := RX3) (T := TX3) (N := 14) hx hb hts iX3 tyX3 tyX3_ok nmX3 hown hK hP hD hS 0 (MW_0 c5 b (mAs (mAs m 4 (upd (mA m 4) (p2.toNatClampNeg) ((mA m 4 (p2.toNatClampNeg)) ||| ((1 : Int32) <<< (v16 &&& 31))))) 5 (upd (mA (mAs m 4 (upd (mA m 4) (p2.toNatClampNeg) ((mA m 4 (p2.toNatClampNeg)) ||| ((1 : Int32) <<< (v16 &&& 31))))) 5) (p2.toNatClampNeg) (-1 : Int32)))) rfl 1 (by decide) (hts _ wT3_29) (fun _ h9 => h9) rfl (by decide +kernel) rfl rfl (Nat.le_of_ble_eq_true rfl) dX3_placed_46 (fun H locs hP hD hS => ?_)
    have hP := wP (MW_set0 c5 b (mAs (mAs m 4 (upd (mA m 4) (p2.toNatClampNeg) ((mA m 4 (p2.toNatClampNeg)) ||| ((1 : Int32) <<< (v16 &&& 31))))) 5 (upd (mA (mAs m 4 (upd (mA m 4) (p2.toNatClampNeg) ((mA m 4 (p2.toNatClampNeg)) ||| ((1 : Int32) <<< (v16 &&& 31))))) 5) (p2.toNatClampNeg) (-1 : Int32))) 1 (by decide) _) hP
    have hD := wD (MW_set0 c5 b (mAs (mAs m 4 (upd (mA m 4) (p2.toNatClampNeg) ((mA m 4 (p2.toNatClampNeg)) ||| ((1 : Int32) <<< (v16 &&& 31))))) 5 (upd (mA (mAs m 4 (upd (mA m 4) (p2.toNatClampNeg) ((mA m 4 (p2.toNatClampNeg)) ||| ((1 : Int32) <<< (v16 &&& 31))))) 5) (p2.toNatClampNeg) (-1 : Int32))) 1 (by decide) _) hD
    refine lv_aload_n hx hb dX3_placed_49 rfl (lv_at hl 1 rfl) ?_
    refine lv_dup hx hb dX3_placed_50 rfl ?_
    refine va_get (D := D) (ci := 3) (v := .int (mF (mFs (mAs (mAs m 4 (upd (mA m 4) (p2.toNatClampNeg) ((mA m 4 (p2.toNatClampNeg)) ||| ((1 : Int32) <<< (v16 &&& 31))))) 5 (upd (mA (mAs m 4 (upd (mA m 4) (p2.toNatClampNeg) ((mA m 4 (p2.toNatClampNeg)) ||| ((1 : Int32) <<< (v16 &&& 31))))) 5) (p2.toNatClampNeg) (-1 : Int32))) 1 ((mF (mAs (mAs m 4 (upd (mA m 4) (p2.toNatClampNeg) ((mA m 4 (p2.toNatClampNeg)) ||| ((1 : Int32) <<< (v16 &&& 31))))) 5 (upd (mA (mAs m 4 (upd (mA m 4) (p2.toNatClampNeg) ((mA m 4 (p2.toNatClampNeg)) ||| ((1 : Int32) <<< (v16 &&& 31))))) 5) (p2.toNatClampNeg) (-1 : Int32))) 1) + (1 : Int32))) 3)) (C := RX3) (T := TX3) (N := 14) hx hb hts iX3 hown hK hP 0 (MW_0 c5 b (mFs (mAs (mAs m 4 (upd (mA m 4) (p2.toNatClampNeg) ((mA m 4 (p2.toNatClampNeg)) ||| ((1 : Int32) <<< (v16 &&& 31))))) 5 (upd (mA (mAs m 4 (upd (mA m 4) (p2.toNatClampNeg) ((mA m 4 (p2.toNatClampNeg)) ||| ((1 : Int32) <<< (v16 &&& 31))))) 5) (p2.toNatClampNeg) (-1 : Int32))) 1 ((mF (mAs (mAs m 4 (upd (mA m 4) (p2.toNatClampNeg) ((mA m 4 (p2.toNatClampNeg)) ||| ((1 : Int32) <<< (v16 &&& 31))))) 5 (upd (mA (mAs m 4 (upd (mA m 4) (p2.toNatClampNeg) ((mA m 4 (p2.toNatClampNeg)) ||| ((1 : Int32) <<< (v16 &&& 31))))) 5) (p2.toNatClampNeg) (-1 : Int32))) 1) + (1 : Int32)))) rfl 3 (by decide) (hts _ wT3_31) (fun _ h9 => h9) rfl dX3_placed_51 ?_
    refine lv_iconst (v := (1 : Int32)) hx hb dX3_placed_54 (by decide) ?_
    refine lv_iadd hx hb dX3_placed_55 ?_
    refine va_put (D := D) (ci := 3) (v := .int ((mF (mFs (mAs (mAs m 4 (upd (mA m 4) (p2.toNatClampNeg) ((mA m 4 (p2.toNatClampNeg)) ||| ((1 : Int32) <<< (v16 &&& 31))))) 5 (upd (mA (mAs m 4 (upd (mA m 4) (p2.toNatClampNeg) ((mA m 4 (p2.toNatClampNeg)) ||| ((1 : Int32) <<< (v16 &&& 31))))) 5) (p2.toNatClampNeg) (-1 : Int32))) 1 ((mF (mAs (mAs m 4 (upd (mA m 4) (p2.toNatClampNeg) ((mA m 4 (p2.toNatClampNeg)) ||| ((1 : Int32) <<< (v16 &&& 31))))) 5 (upd (mA (mAs m 4 (upd (mA m 4) (p2.toNatClampNeg) ((mA m 4 (p2.toNatClampNeg)) ||| ((1 : Int32) <<< (v16 &&& 31))))) 5) (p2.toNatClampNeg) (-1 : Int32))) 1) + (1 : Int32))) 3) + (1 : Int32))) (ty := .int) (C := RX3) (T := TX3) (N := 14) hx hb hts iX3 tyX3 tyX3_ok nmX3 hown hK hP hD hS 0 (MW_0 c5 b (mFs (mAs (mAs m 4 (upd (mA m 4) (p2.toNatClampNeg) ((mA m 4 (p2.toNatClampNeg)) ||| ((1 : Int32) <<< (v16 &&& 31))))) 5 (upd (mA (mAs m 4 (upd (mA m 4) (p2.toNatClampNeg) ((mA m 4 (p2.toNatClampNeg)) ||| ((1 : Int32) <<< (v16 &&& 31))))) 5) (p2.toNatClampNeg) (-1 : Int32))) 1 ((mF (mAs (mAs m 4 (upd (mA m 4) (p2.toNatClampNeg) ((mA m 4 (p2.toNatClampNeg)) ||| ((1 : Int32) <<< (v16 &&& 31))))) 5 (upd (mA (mAs m 4 (upd (mA m 4) (p2.toNatClampNeg) ((mA m 4 (p2.toNatClampNeg)) ||| ((1 : Int32) <<< (v16 &&& 31))))) 5) (p2.toNatClampNeg) (-1 : Int32))) 1) + (1 : Int32)))) rfl 3 (by decide) (hts _ wT3_31) (fun _ h9 => h9) rfl (by decide +kernel) rfl rfl (Nat.le_of_ble_eq_true rfl) dX3_placed_56 (fun H locs hP hD hS => ?_)
    have hP := wP (MW_set0 c5 b (mFs (mAs (mAs m 4 (upd (mA m 4) (p2.toNatClampNeg) ((mA m 4 (p2.toNatClampNeg)) ||| ((1 : Int32) <<< (v16 &&& 31))))) 5 (upd (mA (mAs m 4 (upd (mA m 4) (p2.toNatClampNeg) ((mA m 4 (p2.toNatClampNeg)) ||| ((1 : Int32) <<< (v16 &&& 31))))) 5) (p2.toNatClampNeg) (-1 : Int32))) 1 ((mF (mAs (mAs m 4 (upd (mA m 4) (p2.toNatClampNeg) ((mA m 4 (p2.toNatClampNeg)) ||| ((1 : Int32) <<< (v16 &&& 31))))) 5 (upd (mA (mAs m 4 (upd (mA m 4) (p2.toNatClampNeg) ((mA m 4 (p2.toNatClampNeg)) ||| ((1 : Int32) <<< (v16 &&& 31))))) 5) (p2.toNatClampNeg) (-1 : Int32))) 1) + (1 : Int32))) 3 (by decide) _) hP
    have hD := wD (MW_set0 c5 b (mFs (mAs (mAs m 4 (upd (mA m 4) (p2.toNatClampNeg) ((mA m 4 (p2.toNatClampNeg)) ||| ((1 : Int32) <<< (v16 &&& 31))))) 5 (upd (mA (mAs m 4 (upd (mA m 4) (p2.toNatClampNeg) ((mA m 4 (p2.toNatClampNeg)) ||| ((1 : Int32) <<< (v16 &&& 31))))) 5) (p2.toNatClampNeg) (-1 : Int32))) 1 ((mF (mAs (mAs m 4 (upd (mA m 4) (p2.toNatClampNeg) ((mA m 4 (p2.toNatClampNeg)) ||| ((1 : Int32) <<< (v16 &&& 31))))) 5 (upd (mA (mAs m 4 (upd (mA m 4) (p2.toNatClampNeg) ((mA m 4 (p2.toNatClampNeg)) ||| ((1 : Int32) <<< (v16 &&& 31))))) 5) (p2.toNatClampNeg) (-1 : Int32))) 1) + (1 : Int32))) 3 (by decide) _) hD
    refine lv_aload_n hx hb dX3_placed_59 rfl (lv_at hl 1 rfl) ?_
    refine lv_iload_n hx hb dX3_placed_60 rfl (lv_at hl 3 rfl) ?_
    refine lv_iload_n hx hb dX3_placed_61 rfl (lv_at hl 0 rfl) ?_
    obtain ⟨v62, e62, h⟩ := o_bind h
    refine ro_calli (ro_runV (As := [.int p2, .int v16]) (rest := []) ⟨hx, hb, hml, hown, hts⟩ hP hK (c_X3_spotOf l D c5 b (mFs (mFs (mAs (mAs m 4 (upd (mA m 4) (p2.toNatClampNeg) ((mA m 4 (p2.toNatClampNeg)) ||| ((1 : Int32) <<< (v16 &&& 31))))) 5 (upd (mA (mAs m 4 (upd (mA m 4) (p2.toNatClampNeg) ((mA m 4 (p2.toNatClampNeg)) ||| ((1 : Int32) <<< (v16 &&& 31))))) 5) (p2.toNatClampNeg) (-1 : Int32))) 1 ((mF (mAs (mAs m 4 (upd (mA m 4) (p2.toNatClampNeg) ((mA m 4 (p2.toNatClampNeg)) ||| ((1 : Int32) <<< (v16 &&& 31))))) 5 (upd (mA (mAs m 4 (upd (mA m 4) (p2.toNatClampNeg) ((mA m 4 (p2.toNatClampNeg)) ||| ((1 : Int32) <<< (v16 &&& 31))))) 5) (p2.toNatClampNeg) (-1 : Int32))) 1) + (1 : Int32))) 3 ((mF (mFs (mAs (mAs m 4 (upd (mA m 4) (p2.toNatClampNeg) ((mA m 4 (p2.toNatClampNeg)) ||| ((1 : Int32) <<< (v16 &&& 31))))) 5 (upd (mA (mAs m 4 (upd (mA m 4) (p2.toNatClampNeg) ((mA m 4 (p2.toNatClampNeg)) ||| ((1 : Int32) <<< (v16 &&& 31))))) 5) (p2.toNatClampNeg) (-1 : Int32))) 1 ((mF (mAs (mAs m 4 (upd (mA m 4) (p2.toNatClampNeg) ((mA m 4 (p2.toNatClampNeg)) ||| ((1 : Int32) <<< (v16 &&& 31))))) 5 (upd (mA (mAs m 4 (upd (mA m 4) (p2.toNatClampNeg) ((mA m 4 (p2.toNatClampNeg)) ||| ((1 : Int32) <<< (v16 &&& 31))))) 5) (p2.toNatClampNeg) (-1 : Int32))) 1) + (1 : Int32))) 3) + (1 : Int32))) p2 v16 v62 e62) gG_RX3_89 (va_recv hK hP (ci := 3) (q0 := 0) rfl (MW_0 c5 b (mFs (mFs (mAs (mAs m 4 (upd (mA m 4) (p2.toNatClampNeg) ((mA m 4 (p2.toNatClampNeg)) ||| ((1 : Int32) <<< (v16 &&& 31))))) 5 (upd (mA (mAs m 4 (upd (mA m 4) (p2.toNatClampNeg) ((mA m 4 (p2.toNatClampNeg)) ||| ((1 : Int32) <<< (v16 &&& 31))))) 5) (p2.toNatClampNeg) (-1 : Int32))) 1 ((mF (mAs (mAs m 4 (upd (mA m 4) (p2.toNatClampNeg) ((mA m 4 (p2.toNatClampNeg)) ||| ((1 : Int32) <<< (v16 &&& 31))))) 5 (upd (mA (mAs m 4 (upd (mA m 4) (p2.toNatClampNeg) ((mA m 4 (p2.toNatClampNeg)) ||| ((1 : Int32) <<< (v16 &&& 31))))) 5) (p2.toNatClampNeg) (-1 : Int32))) 1) + (1 : Int32))) 3 ((mF (mFs (mAs (mAs m 4 (upd (mA m 4) (p2.toNatClampNeg) ((mA m 4 (p2.toNatClampNeg)) ||| ((1 : Int32) <<< (v16 &&& 31))))) 5 (upd (mA (mAs m 4 (upd (mA m 4) (p2.toNatClampNeg) ((mA m 4 (p2.toNatClampNeg)) ||| ((1 : Int32) <<< (v16 &&& 31))))) 5) (p2.toNatClampNeg) (-1 : Int32))) 1 ((mF (mAs (mAs m 4 (upd (mA m 4) (p2.toNatClampNeg) ((mA m 4 (p2.toNatClampNeg)) ||| ((1 : Int32) <<< (v16 &&& 31))))) 5 (upd (mA (mAs m 4 (upd (mA m 4) (p2.toNatClampNeg) ((mA m 4 (p2.toNatClampNeg)) ||| ((1 : Int32) <<< (v16 &&& 31))))) 5) (p2.toNatClampNeg) (-1 : Int32))) 1) + (1 : Int32))) 3) + (1 : Int32))))) hd_X3_spotOf ⟨Nat.le_of_ble_eq_true rfl, Nat.le_of_ble_eq_true rfl⟩ ⟨rfl, rfl⟩ hl.1 (Nat.le_of_ble_eq_true rfl) dX3_placed_62 ⟨Nat.zero_le _, Nat.zero_le _⟩ rfl) ?_
    obtain rfl := (Option.some.inj h)
    exact rw_iret (wf := fun u => MW c5 b u) hx hb hr hlocks hP hK hD hS dX3_placed_65 rfl
  · have h := o_f h q
    refine lv_aload_n hx hb dX3_placed_8 rfl (lv_at hl 0 rfl) ?_
    refine lv_iload_n hx hb dX3_placed_9 rfl (lv_at hl 2 rfl) ?_
    refine lv_iload_n hx hb dX3_placed_10 rfl (lv_at hl 1 rfl) ?_
    obtain ⟨v11, e11, h⟩ := o_bind h
    refine rw_callv (rw_runV (As := [.int p2, .int p1]) (rest := []) ⟨hx, hb, hml, hown, hts⟩ hP hK hD (c_X3_own l D c5 b m s.heap.size p2 p1 v11 e11) gG_RX3_93 (va_recv hK hP (ci := 3) (q0 := 0) rfl (MW_0 c5 b m)) hd_X3_own ⟨Nat.le_of_ble_eq_true rfl, Nat.le_of_ble_eq_true rfl⟩ ⟨rfl, rfl⟩ hl.1 (Nat.le_of_ble_eq_true rfl) dX3_placed_11 ⟨Nat.le_of_ble_eq_true rfl, Nat.le_of_ble_eq_true rfl⟩ rfl) hD hS hA (fun H locs hP hD hS => ?_)
    refine lv_aload_n hx hb dX3_placed_14 rfl (lv_at hl 0 rfl) ?_
    refine lv_iload_n hx hb dX3_placed_15 rfl (lv_at hl 2 rfl) ?_
    obtain ⟨v16, e16, h⟩ := o_bind h
    refine ro_calli (ro_runV (As := [.int p2]) (rest := []) ⟨hx, hb, hml, hown, hts⟩ hP hK (c_X3_hole l D c5 b v11 p2 v16 e16) gG_RX3_86 (va_recv hK hP (ci := 3) (q0 := 0) rfl (MW_0 c5 b v11)) hd_X3_hole ⟨Nat.le_of_ble_eq_true rfl, Nat.le_of_ble_eq_true rfl⟩ ⟨rfl, rfl⟩ hl.1 (Nat.le_of_ble_eq_true rfl) dX3_placed_16 ⟨Nat.zero_le _, Nat.zero_le _⟩ rfl) ?_
    refine lv_istore_n (i := 3) (lv' := [(3, .int v16), (0, .ref (b 0)), (1, .int p1), (2, .int p2)]) hx hb dX3_placed_19 rfl hl (by decide) rfl (fun ls hl => ?_)
    refine lv_aload_n hx hb dX3_placed_20 rfl (lv_at hl 1 rfl) ?_
    refine va_get (D := D) (ci := 3) (v := .ref (b 5)) (C := RX3) (T := TX3) (N := 14) hx hb hts iX3 hown hK hP 0 (MW_0 c5 b v11) rfl 10 (by decide) (hts _ wT3_38) (fun _ h9 => h9) rfl dX3_placed_21 ?_
    refine lv_iload_n hx hb dX3_placed_24 rfl (lv_at hl 3 rfl) ?_
    refine lv_dup2_11 hx hb dX3_placed_25 rfl rfl ?_
    obtain ⟨g26, h⟩ := o_if h
    refine va_iald hx hb hK hP 5 3 (MW_5 c5 b v11) rfl (inb_in g26) dX3_placed_26 ?_
    refine lv_iconst (v := (1 : Int32)) hx hb dX3_placed_27 (by decide) ?_
    refine lv_iload_n hx hb dX3_placed_28 rfl (lv_at hl 0 rfl) ?_
    refine lv_ishl hx hb dX3_placed_29 ?_
    refine lv_ior hx hb dX3_placed_30 ?_
    obtain ⟨g31, h⟩ := o_if h
    refine va_iast hx hb hK hP hD hS 5 3 (MW_5 c5 b v11) rfl (inb_in g31) dX3_placed_31 (fun H locs hP hD hS => ?_)
    have hP := wP (MW_set5 c5 b v11 _) hP
    have hD := wD (MW_set5 c5 b v11 _) hD
    refine lv_aload_n hx hb dX3_placed_32 rfl (lv_at hl 1 rfl) ?_
    refine va_get (D := D) (ci := 3) (v := .ref (b 6)) (C := RX3) (T := TX3) (N := 14) hx hb hts iX3 hown hK hP 0 (MW_0 c5 b (mAs v11 4 (upd (mA v11 4) (p2.toNatClampNeg) ((mA v11 4 (p2.toNatClampNeg)) ||| ((1 : Int32) <<< (v16 &&& 31)))))) rfl 11 (by decide) (hts _ wT3_39) (fun _ h9 => h9) rfl dX3_placed_33 ?_
    refine lv_iload_n hx hb dX3_placed_36 rfl (lv_at hl 3 rfl) ?_
    refine lv_iconst (v := (-1 : Int32)) hx hb dX3_placed_37 (by decide) ?_
    obtain ⟨g38, h⟩ := o_if h
    refine va_iast hx hb hK hP hD hS 6 3 (MW_6 c5 b (mAs v11 4 (upd (mA v11 4) (p2.toNatClampNeg) ((mA v11 4 (p2.toNatClampNeg)) ||| ((1 : Int32) <<< (v16 &&& 31)))))) rfl (inb_in g38) dX3_placed_38 (fun H locs hP hD hS => ?_)
    have hP := wP (MW_set6 c5 b (mAs v11 4 (upd (mA v11 4) (p2.toNatClampNeg) ((mA v11 4 (p2.toNatClampNeg)) ||| ((1 : Int32) <<< (v16 &&& 31))))) _) hP
    have hD := wD (MW_set6 c5 b (mAs v11 4 (upd (mA v11 4) (p2.toNatClampNeg) ((mA v11 4 (p2.toNatClampNeg)) ||| ((1 : Int32) <<< (v16 &&& 31))))) _) hD
    refine lv_aload_n hx hb dX3_placed_39 rfl (lv_at hl 1 rfl) ?_
    refine lv_dup hx hb dX3_placed_40 rfl ?_
    refine va_get (D := D) (ci := 3) (v := .int (mF (mAs (mAs v11 4 (upd (mA v11 4) (p2.toNatClampNeg) ((mA v11 4 (p2.toNatClampNeg)) ||| ((1 : Int32) <<< (v16 &&& 31))))) 5 (upd (mA (mAs v11 4 (upd (mA v11 4) (p2.toNatClampNeg) ((mA v11 4 (p2.toNatClampNeg)) ||| ((1 : Int32) <<< (v16 &&& 31))))) 5) (p2.toNatClampNeg) (-1 : Int32))) 1)) (C := RX3) (T := TX3) (N := 14) hx hb hts iX3 hown hK hP 0 (MW_0 c5 b (mAs (mAs v11 4 (upd (mA v11 4) (p2.toNatClampNeg) ((mA v11 4 (p2.toNatClampNeg)) ||| ((1 : Int32) <<< (v16 &&& 31))))) 5 (upd (mA (mAs v11 4 (upd (mA v11 4) (p2.toNatClampNeg) ((mA v11 4 (p2.toNatClampNeg)) ||| ((1 : Int32) <<< (v16 &&& 31))))) 5) (p2.toNatClampNeg) (-1 : Int32)))) rfl 1 (by decide) (hts _ wT3_29) (fun _ h9 => h9) rfl dX3_placed_41 ?_
    refine lv_iconst (v := (1 : Int32)) hx hb dX3_placed_44 (by decide) ?_
    refine lv_iadd hx hb dX3_placed_45 ?_
    refine va_put (D := D) (ci := 3) (v := .int ((mF (mAs (mAs v11 4 (upd (mA v11 4) (p2.toNatClampNeg) ((mA v11 4 (p2.toNatClampNeg)) ||| ((1 : Int32) <<< (v16 &&& 31))))) 5 (upd (mA (mAs v11 4 (upd (mA v11 4) (p2.toNatClampNeg) ((mA v11 4 (p2.toNatClampNeg)) ||| ((1 : Int32) <<< (v16 &&& 31))))) 5) (p2.toNatClampNeg) (-1 : Int32))) 1) + (1 : Int32))) (ty := .int) (C := RX3) (T := TX3) (N := 14) hx hb hts iX3 tyX3 tyX3_ok nmX3 hown hK hP hD hS 0 (MW_0 c5 b (mAs (mAs v11 4 (upd (mA v11 4) (p2.toNatClampNeg) ((mA v11 4 (p2.toNatClampNeg)) ||| ((1 : Int32) <<< (v16 &&& 31))))) 5 (upd (mA (mAs v11 4 (upd (mA v11 4) (p2.toNatClampNeg) ((mA v11 4 (p2.toNatClampNeg)) ||| ((1 : Int32) <<< (v16 &&& 31))))) 5) (p2.toNatClampNeg) (-1 : Int32)))) rfl 1 (by decide) (hts _ wT3_29) (fun _ h9 => h9) rfl (by decide +kernel) rfl rfl (Nat.le_of_ble_eq_true rfl) dX3_placed_46 (fun H locs hP hD hS => ?_)
    have hP := wP (MW_set0 c5 b (mAs (mAs v11 4 (upd (mA v11 4) (p2.toNatClampNeg) ((mA v11 4 (p2.toNatClampNeg)) ||| ((1 : Int32) <<< (v16 &&& 31))))) 5 (upd (mA (mAs v11 4 (upd (mA v11 4) (p2.toNatClampNeg) ((mA v11 4 (p2.toNatClampNeg)) ||| ((1 : Int32) <<< (v16 &&& 31))))) 5) (p2.toNatClampNeg) (-1 : Int32))) 1 (by decide) _) hP
    have hD := wD (MW_set0 c5 b (mAs (mAs v11 4 (upd (mA v11 4) (p2.toNatClampNeg) ((mA v11 4 (p2.toNatClampNeg)) ||| ((1 : Int32) <<< (v16 &&& 31))))) 5 (upd (mA (mAs v11 4 (upd (mA v11 4) (p2.toNatClampNeg) ((mA v11 4 (p2.toNatClampNeg)) ||| ((1 : Int32) <<< (v16 &&& 31))))) 5) (p2.toNatClampNeg) (-1 : Int32))) 1 (by decide) _) hD
    refine lv_aload_n hx hb dX3_placed_49 rfl (lv_at hl 1 rfl) ?_
    refine lv_dup hx hb dX3_placed_50 rfl ?_
    refine va_get (D := D) (ci := 3) (v := .int (mF (mFs (mAs (mAs v11 4 (upd (mA v11 4) (p2.toNatClampNeg) ((mA v11 4 (p2.toNatClampNeg)) ||| ((1 : Int32) <<< (v16 &&& 31))))) 5 (upd (mA (mAs v11 4 (upd (mA v11 4) (p2.toNatClampNeg) ((mA v11 4 (p2.toNatClampNeg)) ||| ((1 : Int32) <<< (v16 &&& 31))))) 5) (p2.toNatClampNeg) (-1 : Int32))) 1 ((mF (mAs (mAs v11 4 (upd (mA v11 4) (p2.toNatClampNeg) ((mA v11 4 (p2.toNatClampNeg)) ||| ((1 : Int32) <<< (v16 &&& 31))))) 5 (upd (mA (mAs v11 4 (upd (mA v11 4) (p2.toNatClampNeg) ((mA v11 4 (p2.toNatClampNeg)) ||| ((1 : Int32) <<< (v16 &&& 31))))) 5) (p2.toNatClampNeg) (-1 : Int32))) 1) + (1 : Int32))) 3)) (C := RX3) (T := TX3) (N := 14) hx hb hts iX3 hown hK hP 0 (MW_0 c5 b (mFs (mAs (mAs v11 4 (upd (mA v11 4) (p2.toNatClampNeg) ((mA v11 4 (p2.toNatClampNeg)) ||| ((1 : Int32) <<< (v16 &&& 31))))) 5 (upd (mA (mAs v11 4 (upd (mA v11 4) (p2.toNatClampNeg) ((mA v11 4 (p2.toNatClampNeg)) ||| ((1 : Int32) <<< (v16 &&& 31))))) 5) (p2.toNatClampNeg) (-1 : Int32))) 1 ((mF (mAs (mAs v11 4 (upd (mA v11 4) (p2.toNatClampNeg) ((mA v11 4 (p2.toNatClampNeg)) ||| ((1 : Int32) <<< (v16 &&& 31))))) 5 (upd (mA (mAs v11 4 (upd (mA v11 4) (p2.toNatClampNeg) ((mA v11 4 (p2.toNatClampNeg)) ||| ((1 : Int32) <<< (v16 &&& 31))))) 5) (p2.toNatClampNeg) (-1 : Int32))) 1) + (1 : Int32)))) rfl 3 (by decide) (hts _ wT3_31) (fun _ h9 => h9) rfl dX3_placed_51 ?_
    refine lv_iconst (v := (1 : Int32)) hx hb dX3_placed_54 (by decide) ?_
    refine lv_iadd hx hb dX3_placed_55 ?_
    refine va_put (D := D) (ci := 3) (v := .int ((mF (mFs (mAs (mAs v11 4 (upd (mA v11 4) (p2.toNatClampNeg) ((mA v11 4 (p2.toNatClampNeg)) ||| ((1 : Int32) <<< (v16 &&& 31))))) 5 (upd (mA (mAs v11 4 (upd (mA v11 4) (p2.toNatClampNeg) ((mA v11 4 (p2.toNatClampNeg)) ||| ((1 : Int32) <<< (v16 &&& 31))))) 5) (p2.toNatClampNeg) (-1 : Int32))) 1 ((mF (mAs (mAs v11 4 (upd (mA v11 4) (p2.toNatClampNeg) ((mA v11 4 (p2.toNatClampNeg)) ||| ((1 : Int32) <<< (v16 &&& 31))))) 5 (upd (mA (mAs v11 4 (upd (mA v11 4) (p2.toNatClampNeg) ((mA v11 4 (p2.toNatClampNeg)) ||| ((1 : Int32) <<< (v16 &&& 31))))) 5) (p2.toNatClampNeg) (-1 : Int32))) 1) + (1 : Int32))) 3) + (1 : Int32))) (ty := .int) (C := RX3) (T := TX3) (N := 14) hx hb hts iX3 tyX3 tyX3_ok nmX3 hown hK hP hD hS 0 (MW_0 c5 b (mFs (mAs (mAs v11 4 (upd (mA v11 4) (p2.toNatClampNeg) ((mA v11 4 (p2.toNatClampNeg)) ||| ((1 : Int32) <<< (v16 &&& 31))))) 5 (upd (mA (mAs v11 4 (upd (mA v11 4) (p2.toNatClampNeg) ((mA v11 4 (p2.toNatClampNeg)) ||| ((1 : Int32) <<< (v16 &&& 31))))) 5) (p2.toNatClampNeg) (-1 : Int32))) 1 ((mF (mAs (mAs v11 4 (upd (mA v11 4) (p2.toNatClampNeg) ((mA v11 4 (p2.toNatClampNeg)) ||| ((1 : Int32) <<< (v16 &&& 31))))) 5 (upd (mA (mAs v11 4 (upd (mA v11 4) (p2.toNatClampNeg) ((mA v11 4 (p2.toNatClampNeg)) ||| ((1 : Int32) <<< (v16 &&& 31))))) 5) (p2.toNatClampNeg) (-1 : Int32))) 1) + (1 : Int32)))) rfl 3 (by decide) (hts _ wT3_31) (fun _ h9 => h9) rfl (by decide +kernel) rfl rfl (Nat.le_of_ble_eq_true rfl) dX3_placed_56 (fun H locs hP hD hS => ?_)
    have hP := wP (MW_set0 c5 b (mFs (mAs (mAs v11 4 (upd (mA v11 4) (p2.toNatClampNeg) ((mA v11 4 (p2.toNatClampNeg)) ||| ((1 : Int32) <<< (v16 &&& 31))))) 5 (upd (mA (mAs v11 4 (upd (mA v11 4) (p2.toNatClampNeg) ((mA v11 4 (p2.toNatClampNeg)) ||| ((1 : Int32) <<< (v16 &&& 31))))) 5) (p2.toNatClampNeg) (-1 : Int32))) 1 ((mF (mAs (mAs v11 4 (upd (mA v11 4) (p2.toNatClampNeg) ((mA v11 4 (p2.toNatClampNeg)) ||| ((1 : Int32) <<< (v16 &&& 31))))) 5 (upd (mA (mAs v11 4 (upd (mA v11 4) (p2.toNatClampNeg) ((mA v11 4 (p2.toNatClampNeg)) ||| ((1 : Int32) <<< (v16 &&& 31))))) 5) (p2.toNatClampNeg) (-1 : Int32))) 1) + (1 : Int32))) 3 (by decide) _) hP
    have hD := wD (MW_set0 c5 b (mFs (mAs (mAs v11 4 (upd (mA v11 4) (p2.toNatClampNeg) ((mA v11 4 (p2.toNatClampNeg)) ||| ((1 : Int32) <<< (v16 &&& 31))))) 5 (upd (mA (mAs v11 4 (upd (mA v11 4) (p2.toNatClampNeg) ((mA v11 4 (p2.toNatClampNeg)) ||| ((1 : Int32) <<< (v16 &&& 31))))) 5) (p2.toNatClampNeg) (-1 : Int32))) 1 ((mF (mAs (mAs v11 4 (upd (mA v11 4) (p2.toNatClampNeg) ((mA v11 4 (p2.toNatClampNeg)) ||| ((1 : Int32) <<< (v16 &&& 31))))) 5 (upd (mA (mAs v11 4 (upd (mA v11 4) (p2.toNatClampNeg) ((mA v11 4 (p2.toNatClampNeg)) ||| ((1 : Int32) <<< (v16 &&& 31))))) 5) (p2.toNatClampNeg) (-1 : Int32))) 1) + (1 : Int32))) 3 (by decide) _) hD
    refine lv_aload_n hx hb dX3_placed_59 rfl (lv_at hl 1 rfl) ?_
    refine lv_iload_n hx hb dX3_placed_60 rfl (lv_at hl 3 rfl) ?_
    refine lv_iload_n hx hb dX3_placed_61 rfl (lv_at hl 0 rfl) ?_
    obtain ⟨v62, e62, h⟩ := o_bind h
    refine ro_calli (ro_runV (As := [.int p2, .int v16]) (rest := []) ⟨hx, hb, hml, hown, hts⟩ hP hK (c_X3_spotOf l D c5 b (mFs (mFs (mAs (mAs v11 4 (upd (mA v11 4) (p2.toNatClampNeg) ((mA v11 4 (p2.toNatClampNeg)) ||| ((1 : Int32) <<< (v16 &&& 31))))) 5 (upd (mA (mAs v11 4 (upd (mA v11 4) (p2.toNatClampNeg) ((mA v11 4 (p2.toNatClampNeg)) ||| ((1 : Int32) <<< (v16 &&& 31))))) 5) (p2.toNatClampNeg) (-1 : Int32))) 1 ((mF (mAs (mAs v11 4 (upd (mA v11 4) (p2.toNatClampNeg) ((mA v11 4 (p2.toNatClampNeg)) ||| ((1 : Int32) <<< (v16 &&& 31))))) 5 (upd (mA (mAs v11 4 (upd (mA v11 4) (p2.toNatClampNeg) ((mA v11 4 (p2.toNatClampNeg)) ||| ((1 : Int32) <<< (v16 &&& 31))))) 5) (p2.toNatClampNeg) (-1 : Int32))) 1) + (1 : Int32))) 3 ((mF (mFs (mAs (mAs v11 4 (upd (mA v11 4) (p2.toNatClampNeg) ((mA v11 4 (p2.toNatClampNeg)) ||| ((1 : Int32) <<< (v16 &&& 31))))) 5 (upd (mA (mAs v11 4 (upd (mA v11 4) (p2.toNatClampNeg) ((mA v11 4 (p2.toNatClampNeg)) ||| ((1 : Int32) <<< (v16 &&& 31))))) 5) (p2.toNatClampNeg) (-1 : Int32))) 1 ((mF (mAs (mAs v11 4 (upd (mA v11 4) (p2.toNatClampNeg) ((mA v11 4 (p2.toNatClampNeg)) ||| ((1 : Int32) <<< (v16 &&& 31))))) 5 (upd (mA (mAs v11 4 (upd (mA v11 4) (p2.toNatClampNeg) ((mA v11 4 (p2.toNatClampNeg)) ||| ((1 : Int32) <<< (v16 &&& 31))))) 5) (p2.toNatClampNeg) (-1 : Int32))) 1) + (1 : Int32))) 3) + (1 : Int32))) p2 v16 v62 e62) gG_RX3_89 (va_recv hK hP (ci := 3) (q0 := 0) rfl (MW_0 c5 b (mFs (mFs (mAs (mAs v11 4 (upd (mA v11 4) (p2.toNatClampNeg) ((mA v11 4 (p2.toNatClampNeg)) ||| ((1 : Int32) <<< (v16 &&& 31))))) 5 (upd (mA (mAs v11 4 (upd (mA v11 4) (p2.toNatClampNeg) ((mA v11 4 (p2.toNatClampNeg)) ||| ((1 : Int32) <<< (v16 &&& 31))))) 5) (p2.toNatClampNeg) (-1 : Int32))) 1 ((mF (mAs (mAs v11 4 (upd (mA v11 4) (p2.toNatClampNeg) ((mA v11 4 (p2.toNatClampNeg)) ||| ((1 : Int32) <<< (v16 &&& 31))))) 5 (upd (mA (mAs v11 4 (upd (mA v11 4) (p2.toNatClampNeg) ((mA v11 4 (p2.toNatClampNeg)) ||| ((1 : Int32) <<< (v16 &&& 31))))) 5) (p2.toNatClampNeg) (-1 : Int32))) 1) + (1 : Int32))) 3 ((mF (mFs (mAs (mAs v11 4 (upd (mA v11 4) (p2.toNatClampNeg) ((mA v11 4 (p2.toNatClampNeg)) ||| ((1 : Int32) <<< (v16 &&& 31))))) 5 (upd (mA (mAs v11 4 (upd (mA v11 4) (p2.toNatClampNeg) ((mA v11 4 (p2.toNatClampNeg)) ||| ((1 : Int32) <<< (v16 &&& 31))))) 5) (p2.toNatClampNeg) (-1 : Int32))) 1 ((mF (mAs (mAs v11 4 (upd (mA v11 4) (p2.toNatClampNeg) ((mA v11 4 (p2.toNatClampNeg)) ||| ((1 : Int32) <<< (v16 &&& 31))))) 5 (upd (mA (mAs v11 4 (upd (mA v11 4) (p2.toNatClampNeg) ((mA v11 4 (p2.toNatClampNeg)) ||| ((1 : Int32) <<< (v16 &&& 31))))) 5) (p2.toNatClampNeg) (-1 : Int32))) 1) + (1 : Int32))) 3) + (1 : Int32))))) hd_X3_spotOf ⟨Nat.le_of_ble_eq_true rfl, Nat.le_of_ble_eq_true rfl⟩ ⟨rfl, rfl⟩ hl.1 (Nat.le_of_ble_eq_true rfl) dX3_placed_62 ⟨Nat.zero_le _, Nat.zero_le _⟩ rfl) ?_
    obtain rfl := (Option.some.inj h)
    exact rw_iret (wf := fun u => MW c5 b u) hx hb hr hlocks hP hK hD hS dX3_placed_65 rfl
set_option maxHeartbeats 4000000 in
set_option maxRecDepth 100000 in
theorem c_X3_placeOf (l : Launch) (D : va_G) (c5 : Nat → ClassId) (b : Nat → Nat) (m : MSt) (p1 : Int32) (r : Int32) (h : R_X3_placeOf m p1 = some r) : Met l yX3_placeOf (ws_ yX3_placeOf cX3_placeOf 4 (some .int)) { frames := 1, cells := 0, slots := 0, locals := 21 } (va_Pc [.ref (b 0), .int p1] (roB D (tyG c5) (MW c5 b m))) (vp_Si (fun x => x = r)) 0 0 (fun _ => False) := by
  refine Met.ofW (cc := cX3_placeOf) (maxL := 4) (ret := (some .int)) (by decide) rfl ?_
  intro p e s m9 args below meth c s₁ B hml hv
  obtain ⟨rfl, hP, hK⟩ := hv
  have hx := B.exec
  have hb := B.bytes
  have hr := B.returns
  have hts : ∀ w ∈ LA, w.before _ s = true := fun w hw => atoms_spec (ws := ws_ yX3_placeOf cX3_placeOf 4 (some .int)) B.pre w (List.mem_cons_of_mem _ hw)
  have hown : s.vm.findClass RX3 = some m9.cls := findClass_of_methodNamed B.named
  have hlocks := B.notSynchronized
  have hl := lv_entry ([.ref (b 0), .int p1] : List Value) (n := 4) (Nat.le_of_ble_eq_true rfl)
  rw [lg_entry_eq]
  generalize (lg_sl ([.ref (b 0), .int p1] : List Value) ++ List.replicate (4 - (lg_sl ([.ref (b 0), .int p1] : List Value)).length) Slot.unset).toArray = ls at hl ⊢
  have hl : lv_has ls 4 [(0, .ref (b 0)), (1, .int p1)] := hl
  unfold R_X3_placeOf at h
  refine lv_iload_n hx hb dX3_placeOf_0 rfl (lv_at hl 1 rfl) ?_
  refine lv_bipush (v := (24 : Int32)) hx hb dX3_placeOf_1 (by decide) ?_
  refine lv_idiv hx hb dX3_placeOf_3 (by decide) ?_
  refine lv_istore_n (i := 2) (lv' := [(2, .int (p1 / (24 : Int32))), (0, .ref (b 0)), (1, .int p1)]) hx hb dX3_placeOf_4 rfl hl (by decide) rfl (fun ls hl => ?_)
  refine lv_aload_n hx hb dX3_placeOf_5 rfl (lv_at hl 1 rfl) ?_
  refine lv_iload_n hx hb dX3_placeOf_6 rfl (lv_at hl 0 rfl) ?_
  obtain ⟨v7, e7, h⟩ := o_bind h
  refine ro_calli (ro_runV (As := [.int (p1 / (24 : Int32))]) (rest := []) ⟨hx, hb, hml, hown, hts⟩ hP hK (c_X3_isFree l D c5 b m (p1 / (24 : Int32)) v7 e7) gG_RX3_74 (va_recv hK hP (ci := 3) (q0 := 0) rfl (MW_0 c5 b m)) hd_X3_isFree ⟨Nat.le_of_ble_eq_true rfl, Nat.le_of_ble_eq_true rfl⟩ ⟨rfl, rfl⟩ hl.1 (Nat.le_of_ble_eq_true rfl) dX3_placeOf_7 ⟨Nat.zero_le _, Nat.zero_le _⟩ rfl) ?_
  refine lv_if_eq (tgt := 15) hx hb dX3_placeOf_10 (by decide) (fun q => ?_) (fun q => ?_)
  · have h := o_t h q
    refine lv_iload_n hx hb dX3_placeOf_15 rfl (lv_at hl 2 rfl) ?_
    refine lv_bipush (v := (24 : Int32)) hx hb dX3_placeOf_16 (by decide) ?_
    refine lv_irem hx hb dX3_placeOf_18 (by decide) ?_
    refine lv_aload_n hx hb dX3_placeOf_19 rfl (lv_at hl 1 rfl) ?_
    refine va_get (D := D) (ci := 3) (v := .ref (b 4)) (C := RX3) (T := TX3) (N := 14) hx hb hts iX3 hown hK hP 0 (MW_0 c5 b m) rfl 9 (by decide) (hts _ wT3_37) (fun _ h9 => h9) rfl dX3_placeOf_20 ?_
    refine lv_iload_n hx hb dX3_placeOf_23 rfl (lv_at hl 0 rfl) ?_
    obtain ⟨g24, h⟩ := o_if h
    refine va_iald hx hb hK hP 4 3 (MW_4 c5 b m) rfl (inb_in g24) dX3_placeOf_24 ?_
    refine lv_isub hx hb dX3_placeOf_25 ?_
    refine lv_istore_n (i := 3) (lv' := [(3, .int ((p1 - p1 / (24 : Int32) * (24 : Int32)) - (mA m 3 ((p1 / (24 : Int32)).toNatClampNeg)))), (2, .int (p1 / (24 : Int32))), (0, .ref (b 0)), (1, .int p1)]) hx hb dX3_placeOf_26 rfl hl (by decide) rfl (fun ls hl => ?_)
    refine lv_iload_n hx hb dX3_placeOf_27 rfl (lv_at hl 0 rfl) ?_
    refine lv_if_lt (tgt := 57) hx hb dX3_placeOf_28 (by decide) (fun q => ?_) (fun q => ?_)
    · have h := o_t h q
      refine lv_iconst (v := (-1 : Int32)) hx hb dX3_placeOf_57 (by decide) ?_
      refine lv_goto (tgt := 74) hx hb dX3_placeOf_58 (by decide) ?_
      exact ro_iret hx hb hr hlocks dX3_placeOf_74 (Option.some.inj h)
    · have h := o_f h q
      refine lv_iload_n hx hb dX3_placeOf_31 rfl (lv_at hl 0 rfl) ?_
      refine lv_aload_n hx hb dX3_placeOf_32 rfl (lv_at hl 2 rfl) ?_
      refine lv_aload_n hx hb dX3_placeOf_33 rfl (lv_at hl 2 rfl) ?_
      refine va_get (D := D) (ci := 3) (v := .ref (b 3)) (C := RX3) (T := TX3) (N := 14) hx hb hts iX3 hown hK hP 0 (MW_0 c5 b m) rfl 8 (by decide) (hts _ wT3_36) (fun _ h9 => h9) rfl dX3_placeOf_34 ?_
      refine lv_iload_n hx hb dX3_placeOf_37 rfl (lv_at hl 1 rfl) ?_
      obtain ⟨g38, h⟩ := o_if h
      refine va_iald hx hb hK hP 3 3 (MW_3 c5 b m) rfl (inb_in g38) dX3_placeOf_38 ?_
      obtain ⟨v39, e39, h⟩ := o_bind h
      refine ro_calli (ro_runV (As := [.int (mA m 2 ((p1 / (24 : Int32)).toNatClampNeg))]) (rest := [.int ((p1 - p1 / (24 : Int32) * (24 : Int32)) - (mA m 3 ((p1 / (24 : Int32)).toNatClampNeg)))]) ⟨hx, hb, hml, hown, hts⟩ hP hK (c_X3_places l D c5 b m (mA m 2 ((p1 / (24 : Int32)).toNatClampNeg)) v39 e39) gG_RX3_54 (va_recv hK hP (ci := 3) (q0 := 0) rfl (MW_0 c5 b m)) hd_X3_places ⟨Nat.le_of_ble_eq_true rfl, Nat.le_of_ble_eq_true rfl⟩ ⟨rfl, rfl⟩ hl.1 (Nat.le_of_ble_eq_true rfl) dX3_placeOf_39 ⟨Nat.zero_le _, Nat.zero_le _⟩ rfl) ?_
      refine lv_aload_n hx hb dX3_placeOf_42 rfl (lv_at hl 2 rfl) ?_
      refine va_get (D := D) (ci := 3) (v := .ref (b 1)) (C := RX3) (T := TX3) (N := 14) hx hb hts iX3 hown hK hP 0 (MW_0 c5 b m) rfl 6 (by decide) (hts _ wT3_34) (fun _ h9 => h9) rfl dX3_placeOf_43 ?_
      refine lv_aload_n hx hb dX3_placeOf_46 rfl (lv_at hl 2 rfl) ?_
      refine va_get (D := D) (ci := 3) (v := .ref (b 3)) (C := RX3) (T := TX3) (N := 14) hx hb hts iX3 hown hK hP 0 (MW_0 c5 b m) rfl 8 (by decide) (hts _ wT3_36) (fun _ h9 => h9) rfl dX3_placeOf_47 ?_
      refine lv_iload_n hx hb dX3_placeOf_50 rfl (lv_at hl 1 rfl) ?_
      obtain ⟨g51, h⟩ := o_if h
      refine va_iald hx hb hK hP 3 3 (MW_3 c5 b m) rfl (inb_in g51) dX3_placeOf_51 ?_
      obtain ⟨g52, h⟩ := o_if h
      refine va_iald hx hb hK hP 1 3 (MW_1 c5 b m) rfl (inb_in g52) dX3_placeOf_52 ?_
      refine lv_imul hx hb dX3_placeOf_53 ?_
      refine lv_icmp_lt (tgt := 61) hx hb dX3_placeOf_54 (by decide) (fun q => ?_) (fun q => ?_)
      · have h := o_t h q
        refine lv_iload_n hx hb dX3_placeOf_61 rfl (lv_at hl 0 rfl) ?_
        refine lv_aload_n hx hb dX3_placeOf_62 rfl (lv_at hl 2 rfl) ?_
        refine va_get (D := D) (ci := 3) (v := .ref (b 1)) (C := RX3) (T := TX3) (N := 14) hx hb hts iX3 hown hK hP 0 (MW_0 c5 b m) rfl 6 (by decide) (hts _ wT3_34) (fun _ h9 => h9) rfl dX3_placeOf_63 ?_
        refine lv_aload_n hx hb dX3_placeOf_66 rfl (lv_at hl 2 rfl) ?_
        refine va_get (D := D) (ci := 3) (v := .ref (b 3)) (C := RX3) (T := TX3) (N := 14) hx hb hts iX3 hown hK hP 0 (MW_0 c5 b m) rfl 8 (by decide) (hts _ wT3_36) (fun _ h9 => h9) rfl dX3_placeOf_67 ?_
        refine lv_iload_n hx hb dX3_placeOf_70 rfl (lv_at hl 1 rfl) ?_
        obtain ⟨g71, h⟩ := o_if h
        refine va_iald hx hb hK hP 3 3 (MW_3 c5 b m) rfl (inb_in g71) dX3_placeOf_71 ?_
        obtain ⟨g72, h⟩ := o_if h
        refine va_iald hx hb hK hP 1 3 (MW_1 c5 b m) rfl (inb_in g72) dX3_placeOf_72 ?_
        obtain ⟨g73, h⟩ := o_if h
        refine lv_idiv hx hb dX3_placeOf_73 g73 ?_
        exact ro_iret hx hb hr hlocks dX3_placeOf_74 (Option.some.inj h)
      · have h := o_f h q
        refine lv_iconst (v := (-1 : Int32)) hx hb dX3_placeOf_57 (by decide) ?_
        refine lv_goto (tgt := 74) hx hb dX3_placeOf_58 (by decide) ?_
        exact ro_iret hx hb hr hlocks dX3_placeOf_74 (Option.some.inj h)
  · have h := o_f h q
    refine lv_iconst (v := (-1 : Int32)) hx hb dX3_placeOf_13 (by decide) ?_
    exact ro_iret hx hb hr hlocks dX3_placeOf_14 (Option.some.inj h)
set_option maxHeartbeats 4000000 in
set_option maxRecDepth 100000 in
theorem c_X3_fewest (l : Launch) (D : va_G) (c5 : Nat → ClassId) (b : Nat → Nat) (m : MSt) (p1 : Int32) (r : Int32) (h : R_X3_fewest m p1 = some r) : Met l yX3_fewest (ws_ yX3_fewest cX3_fewest 4 (some .int)) { frames := 4, cells := 0, slots := 0, locals := 84 } (va_Pc [.ref (b 0), .int p1] (roB D (tyG c5) (MW c5 b m))) (vp_Si (fun x => x = r)) 0 0 (fun _ => False) := by
  refine Met.ofW (cc := cX3_fewest) (maxL := 4) (ret := (some .int)) (by decide) rfl ?_
  intro p e s m9 args below meth c s₁ B hml hv
  obtain ⟨rfl, hP, hK⟩ := hv
  have hx := B.exec
  have hb := B.bytes
  have hr := B.returns
  have hts : ∀ w ∈ LA, w.before _ s = true := fun w hw => atoms_spec (ws := ws_ yX3_fewest cX3_fewest 4 (some .int)) B.pre w (List.mem_cons_of_mem _ hw)
  have hown : s.vm.findClass RX3 = some m9.cls := findClass_of_methodNamed B.named
  have hlocks := B.notSynchronized
  have hl := lv_entry ([.ref (b 0), .int p1] : List Value) (n := 4) (Nat.le_of_ble_eq_true rfl)
  rw [lg_entry_eq]
  generalize (lg_sl ([.ref (b 0), .int p1] : List Value) ++ List.replicate (4 - (lg_sl ([.ref (b 0), .int p1] : List Value)).length) Slot.unset).toArray = ls at hl ⊢
  have hl : lv_has ls 4 [(0, .ref (b 0)), (1, .int p1)] := hl
  unfold R_X3_fewest at h
  refine lv_iconst (v := (-1 : Int32)) hx hb dX3_fewest_0 (by decide) ?_
  refine lv_istore_n (i := 2) (lv' := [(2, .int (-1 : Int32)), (0, .ref (b 0)), (1, .int p1)]) hx hb dX3_fewest_1 rfl hl (by decide) rfl (fun ls hl => ?_)
  refine lv_iconst (v := (0 : Int32)) hx hb dX3_fewest_2 (by decide) ?_
  refine lv_istore_n (i := 3) (lv' := [(3, .int (0 : Int32)), (2, .int (-1 : Int32)), (0, .ref (b 0)), (1, .int p1)]) hx hb dX3_fewest_3 rfl hl (by decide) rfl (fun ls hl => ?_)
  have L4 : ∀ (n : Nat) (x2_4 : Int32) (x3_4 : Int32) (ls : Array Slot), lv_has ls 4 [(0, .ref (b 0)), (1, .int p1), (2, .int x2_4), (3, .int x3_4)] → R_X3_fewest_L4 m p1 n x2_4 x3_4 = some r → W p l e (headSpec (ws_ yX3_fewest cX3_fewest 4 (some .int)) { frames := 4, cells := 0, slots := 0, locals := 84 }).room s m9 ([.ref (b 0), .int p1] : List Value).toArray below meth c s.heap [] 0 0 (MQ below (vp_Si (fun x => x = r)) ([.ref (b 0), .int p1] : List Value).toArray s 0 0 (fun _ => False)) (F0 m9 4 ls []) := by
    intro n
    induction n with
    | zero =>
      intro x2_4 x3_4 ls hl h
      exact absurd h (by simp [R_X3_fewest_L4])
    | succ n ih =>
      intro x2_4 x3_4 ls hl h
      rw [R_X3_fewest_L4] at h
      refine lv_iload_n hx hb dX3_fewest_4 rfl (lv_at hl 3 rfl) ?_
      refine lv_bipush (v := (12 : Int32)) hx hb dX3_fewest_5 (by decide) ?_
      refine lv_icmp_ge (tgt := 45) hx hb dX3_fewest_7 (by decide) (fun q => ?_) (fun q => ?_)
      · have h := o_t h q
        refine lv_iload_n hx hb dX3_fewest_45 rfl (lv_at hl 2 rfl) ?_
        exact ro_iret hx hb hr hlocks dX3_fewest_46 (Option.some.inj h)
      · have h := o_f h q
        refine lv_aload_n hx hb dX3_fewest_10 rfl (lv_at hl 0 rfl) ?_
        refine lv_iload_n hx hb dX3_fewest_11 rfl (lv_at hl 3 rfl) ?_
        refine lv_iload_n hx hb dX3_fewest_12 rfl (lv_at hl 1 rfl) ?_
        obtain ⟨v13, e13, h⟩ := o_bind h
        refine ro_calli (ro_runV (As := [.int x3_4, .int p1]) (rest := []) ⟨hx, hb, hml, hown, hts⟩ hP hK (c_X3_isUsed l D c5 b m x3_4 p1 v13 e13) gG_RX3_64 (va_recv hK hP (ci := 3) (q0 := 0) rfl (MW_0 c5 b m)) hd_X3_isUsed ⟨Nat.le_of_ble_eq_true rfl, Nat.le_of_ble_eq_true rfl⟩ ⟨rfl, rfl⟩ hl.1 (Nat.le_of_ble_eq_true rfl) dX3_fewest_13 ⟨Nat.zero_le _, Nat.zero_le _⟩ rfl) ?_
        refine lv_if_eq (tgt := 39) hx hb dX3_fewest_16 (by decide) (fun q => ?_) (fun q => ?_)
        · have h := o_t h q
          refine lv_iinc (v := (x3_4 + (1 : Int32))) (lv' := [(3, .int (x3_4 + (1 : Int32))), (0, .ref (b 0)), (1, .int p1), (2, .int x2_4)]) hx hb dX3_fewest_39 hl (k := 3) rfl rfl (by decide) rfl (fun ls hl => ?_)
          refine lv_goto (tgt := 4) hx hb dX3_fewest_42 (by decide) ?_
          exact ih x2_4 (x3_4 + (1 : Int32))  ls (lv_sub hl [1, 2, 3, 0] rfl) h
        · have h := o_f h q
          refine lv_iload_n hx hb dX3_fewest_19 rfl (lv_at hl 2 rfl) ?_
          refine lv_iconst (v := (-1 : Int32)) hx hb dX3_fewest_20 (by decide) ?_
          refine lv_icmp_eq (tgt := 37) hx hb dX3_fewest_21 (by decide) (fun q => ?_) (fun q => ?_)
          · have h := o_t h q
            refine lv_iload_n hx hb dX3_fewest_37 rfl (lv_at hl 3 rfl) ?_
            refine lv_istore_n (i := 2) (lv' := [(2, .int x3_4), (0, .ref (b 0)), (1, .int p1), (3, .int x3_4)]) hx hb dX3_fewest_38 rfl hl (by decide) rfl (fun ls hl => ?_)
            refine lv_iinc (v := (x3_4 + (1 : Int32))) (lv' := [(3, .int (x3_4 + (1 : Int32))), (2, .int x3_4), (0, .ref (b 0)), (1, .int p1)]) hx hb dX3_fewest_39 hl (k := 3) rfl rfl (by decide) rfl (fun ls hl => ?_)
            refine lv_goto (tgt := 4) hx hb dX3_fewest_42 (by decide) ?_
            exact ih x3_4 (x3_4 + (1 : Int32))  ls (lv_sub hl [2, 3, 1, 0] rfl) h
          · have h := o_f h q
            refine lv_aload_n hx hb dX3_fewest_24 rfl (lv_at hl 0 rfl) ?_
            refine lv_iload_n hx hb dX3_fewest_25 rfl (lv_at hl 3 rfl) ?_
            obtain ⟨v26, e26, h⟩ := o_bind h
            refine ro_calli (ro_runV (As := [.int x3_4]) (rest := []) ⟨hx, hb, hml, hown, hts⟩ hP hK (c_X3_many l D c5 b m x3_4 v26 e26) gG_RX3_51 (va_recv hK hP (ci := 3) (q0 := 0) rfl (MW_0 c5 b m)) hd_X3_many ⟨Nat.le_of_ble_eq_true rfl, Nat.le_of_ble_eq_true rfl⟩ ⟨rfl, rfl⟩ hl.1 (Nat.le_of_ble_eq_true rfl) dX3_fewest_26 ⟨Nat.zero_le _, Nat.zero_le _⟩ rfl) ?_
            refine lv_aload_n hx hb dX3_fewest_29 rfl (lv_at hl 0 rfl) ?_
            refine lv_iload_n hx hb dX3_fewest_30 rfl (lv_at hl 2 rfl) ?_
            obtain ⟨v31, e31, h⟩ := o_bind h
            refine ro_calli (ro_runV (As := [.int x2_4]) (rest := [.int v26]) ⟨hx, hb, hml, hown, hts⟩ hP hK (c_X3_many l D c5 b m x2_4 v31 e31) gG_RX3_51 (va_recv hK hP (ci := 3) (q0 := 0) rfl (MW_0 c5 b m)) hd_X3_many ⟨Nat.le_of_ble_eq_true rfl, Nat.le_of_ble_eq_true rfl⟩ ⟨rfl, rfl⟩ hl.1 (Nat.le_of_ble_eq_true rfl) dX3_fewest_31 ⟨Nat.zero_le _, Nat.zero_le _⟩ rfl) ?_
            refine lv_icmp_gt (tgt := 39) hx hb dX3_fewest_34 (by decide) (fun q => ?_) (fun q => ?_)
            · have h := o_t h q
              refine lv_iinc (v := (x3_4 + (1 : Int32))) (lv' := [(3, .int (x3_4 + (1 : Int32))), (0, .ref (b 0)), (1, .int p1), (2, .int x2_4)]) hx hb dX3_fewest_39 hl (k := 3) rfl rfl (by decide) rfl (fun ls hl => ?_)
              refine lv_goto (tgt := 4) hx hb dX3_fewest_42 (by decide) ?_
              exact ih x2_4 (x3_4 + (1 : Int32))  ls (lv_sub hl [1, 2, 3, 0] rfl) h
            · have h := o_f h q
              refine lv_iload_n hx hb dX3_fewest_37 rfl (lv_at hl 3 rfl) ?_
              refine lv_istore_n (i := 2) (lv' := [(2, .int x3_4), (0, .ref (b 0)), (1, .int p1), (3, .int x3_4)]) hx hb dX3_fewest_38 rfl hl (by decide) rfl (fun ls hl => ?_)
              refine lv_iinc (v := (x3_4 + (1 : Int32))) (lv' := [(3, .int (x3_4 + (1 : Int32))), (2, .int x3_4), (0, .ref (b 0)), (1, .int p1)]) hx hb dX3_fewest_39 hl (k := 3) rfl rfl (by decide) rfl (fun ls hl => ?_)
              refine lv_goto (tgt := 4) hx hb dX3_fewest_42 (by decide) ?_
              exact ih x3_4 (x3_4 + (1 : Int32))  ls (lv_sub hl [2, 3, 1, 0] rfl) h
  exact L4 FU (-1 : Int32) (0 : Int32)  ls (lv_sub hl [2, 3, 1, 0] rfl) h
set_option maxHeartbeats 4000000 in
set_option maxRecDepth 100000 in
theorem c_X3_most (l : Launch) (D : va_G) (c5 : Nat → ClassId) (b : Nat → Nat) (m : MSt) (p1 : Int32) (p2 : Int32) (r : Int32) (h : R_X3_most m p1 p2 = some r) : Met l yX3_most (ws_ yX3_most cX3_most 5 (some .int)) { frames := 4, cells := 0, slots := 0, locals := 84 } (va_Pc [.ref (b 0), .int p1, .int p2] (roB D (tyG c5) (MW c5 b m))) (vp_Si (fun x => x = r)) 0 0 (fun _ => False) := by
  refine Met.ofW (cc := cX3_most) (maxL := 5) (ret := (some .int)) (by decide) rfl ?_
  intro p e s m9 args below meth c s₁ B hml hv
  obtain ⟨rfl, hP, hK⟩ := hv
  have hx := B.exec
  have hb := B.bytes
  have hr := B.returns
  have hts : ∀ w ∈ LA, w.before _ s = true := fun w hw => atoms_spec (ws := ws_ yX3_most cX3_most 5 (some .int)) B.pre w (List.mem_cons_of_mem _ hw)
  have hown : s.vm.findClass RX3 = some m9.cls := findClass_of_methodNamed B.named
  have hlocks := B.notSynchronized
  have hl := lv_entry ([.ref (b 0), .int p1, .int p2] : List Value) (n := 5) (Nat.le_of_ble_eq_true rfl)
  rw [lg_entry_eq]
  generalize (lg_sl ([.ref (b 0), .int p1, .int p2] : List Value) ++ List.replicate (5 - (lg_sl ([.ref (b 0), .int p1, .int p2] : List Value)).length) Slot.unset).toArray = ls at hl ⊢
  have hl : lv_has ls 5 [(0, .ref (b 0)), (1, .int p1), (2, .int p2)] := hl
  unfold R_X3_most at h
  refine lv_iconst (v := (-1 : Int32)) hx hb dX3_most_0 (by decide) ?_
  refine lv_istore_n (i := 3) (lv' := [(3, .int (-1 : Int32)), (0, .ref (b 0)), (1, .int p1), (2, .int p2)]) hx hb dX3_most_1 rfl hl (by decide) rfl (fun ls hl => ?_)
  refine lv_iconst (v := (0 : Int32)) hx hb dX3_most_2 (by decide) ?_
  refine lv_istore (i := 4) (lv' := [(4, .int (0 : Int32)), (3, .int (-1 : Int32)), (0, .ref (b 0)), (1, .int p1), (2, .int p2)]) hx hb dX3_most_3 hl (by decide) rfl (fun ls hl => ?_)
  have L5 : ∀ (n : Nat) (x3_5 : Int32) (x4_5 : Int32) (ls : Array Slot), lv_has ls 5 [(0, .ref (b 0)), (1, .int p1), (2, .int p2), (3, .int x3_5), (4, .int x4_5)] → R_X3_most_L5 m p1 p2 n x3_5 x4_5 = some r → W p l e (headSpec (ws_ yX3_most cX3_most 5 (some .int)) { frames := 4, cells := 0, slots := 0, locals := 84 }).room s m9 ([.ref (b 0), .int p1, .int p2] : List Value).toArray below meth c s.heap [] 0 0 (MQ below (vp_Si (fun x => x = r)) ([.ref (b 0), .int p1, .int p2] : List Value).toArray s 0 0 (fun _ => False)) (F0 m9 5 ls []) := by
    intro n
    induction n with
    | zero =>
      intro x3_5 x4_5 ls hl h
      exact absurd h (by simp [R_X3_most_L5])
    | succ n ih =>
      intro x3_5 x4_5 ls hl h
      rw [R_X3_most_L5] at h
      refine lv_iload hx hb dX3_most_5 (lv_at hl 4 rfl) ?_
      refine lv_bipush (v := (12 : Int32)) hx hb dX3_most_7 (by decide) ?_
      refine lv_icmp_ge (tgt := 56) hx hb dX3_most_9 (by decide) (fun q => ?_) (fun q => ?_)
      · have h := o_t h q
        refine lv_iload_n hx hb dX3_most_56 rfl (lv_at hl 3 rfl) ?_
        exact ro_iret hx hb hr hlocks dX3_most_57 (Option.some.inj h)
      · have h := o_f h q
        refine lv_iload hx hb dX3_most_12 (lv_at hl 4 rfl) ?_
        refine lv_iload_n hx hb dX3_most_14 rfl (lv_at hl 2 rfl) ?_
        refine lv_icmp_eq (tgt := 50) hx hb dX3_most_15 (by decide) (fun q => ?_) (fun q => ?_)
        · have h := o_t h q
          refine lv_iinc (v := (x4_5 + (1 : Int32))) (lv' := [(4, .int (x4_5 + (1 : Int32))), (0, .ref (b 0)), (1, .int p1), (2, .int p2), (3, .int x3_5)]) hx hb dX3_most_50 hl (k := 4) rfl rfl (by decide) rfl (fun ls hl => ?_)
          refine lv_goto (tgt := 5) hx hb dX3_most_53 (by decide) ?_
          exact ih x3_5 (x4_5 + (1 : Int32))  ls (lv_sub hl [1, 2, 3, 4, 0] rfl) h
        · have h := o_f h q
          refine lv_aload_n hx hb dX3_most_18 rfl (lv_at hl 0 rfl) ?_
          refine lv_iload hx hb dX3_most_19 (lv_at hl 4 rfl) ?_
          refine lv_iload_n hx hb dX3_most_21 rfl (lv_at hl 1 rfl) ?_
          obtain ⟨v22, e22, h⟩ := o_bind h
          refine ro_calli (ro_runV (As := [.int x4_5, .int p1]) (rest := []) ⟨hx, hb, hml, hown, hts⟩ hP hK (c_X3_isUsed l D c5 b m x4_5 p1 v22 e22) gG_RX3_64 (va_recv hK hP (ci := 3) (q0 := 0) rfl (MW_0 c5 b m)) hd_X3_isUsed ⟨Nat.le_of_ble_eq_true rfl, Nat.le_of_ble_eq_true rfl⟩ ⟨rfl, rfl⟩ hl.1 (Nat.le_of_ble_eq_true rfl) dX3_most_22 ⟨Nat.zero_le _, Nat.zero_le _⟩ rfl) ?_
          refine lv_if_eq (tgt := 50) hx hb dX3_most_25 (by decide) (fun q => ?_) (fun q => ?_)
          · have h := o_t h q
            refine lv_iinc (v := (x4_5 + (1 : Int32))) (lv' := [(4, .int (x4_5 + (1 : Int32))), (0, .ref (b 0)), (1, .int p1), (2, .int p2), (3, .int x3_5)]) hx hb dX3_most_50 hl (k := 4) rfl rfl (by decide) rfl (fun ls hl => ?_)
            refine lv_goto (tgt := 5) hx hb dX3_most_53 (by decide) ?_
            exact ih x3_5 (x4_5 + (1 : Int32))  ls (lv_sub hl [1, 2, 3, 4, 0] rfl) h
          · have h := o_f h q
            refine lv_iload_n hx hb dX3_most_28 rfl (lv_at hl 3 rfl) ?_
            refine lv_iconst (v := (-1 : Int32)) hx hb dX3_most_29 (by decide) ?_
            refine lv_icmp_eq (tgt := 47) hx hb dX3_most_30 (by decide) (fun q => ?_) (fun q => ?_)
            · have h := o_t h q
              refine lv_iload hx hb dX3_most_47 (lv_at hl 4 rfl) ?_
              refine lv_istore_n (i := 3) (lv' := [(3, .int x4_5), (0, .ref (b 0)), (1, .int p1), (2, .int p2), (4, .int x4_5)]) hx hb dX3_most_49 rfl hl (by decide) rfl (fun ls hl => ?_)
              refine lv_iinc (v := (x4_5 + (1 : Int32))) (lv' := [(4, .int (x4_5 + (1 : Int32))), (3, .int x4_5), (0, .ref (b 0)), (1, .int p1), (2, .int p2)]) hx hb dX3_most_50 hl (k := 4) rfl rfl (by decide) rfl (fun ls hl => ?_)
              refine lv_goto (tgt := 5) hx hb dX3_most_53 (by decide) ?_
              exact ih x4_5 (x4_5 + (1 : Int32))  ls (lv_sub hl [2, 3, 4, 1, 0] rfl) h
            · have h := o_f h q
              refine lv_aload_n hx hb dX3_most_33 rfl (lv_at hl 0 rfl) ?_
              refine lv_iload hx hb dX3_most_34 (lv_at hl 4 rfl) ?_
              obtain ⟨v36, e36, h⟩ := o_bind h
              refine ro_calli (ro_runV (As := [.int x4_5]) (rest := []) ⟨hx, hb, hml, hown, hts⟩ hP hK (c_X3_many l D c5 b m x4_5 v36 e36) gG_RX3_51 (va_recv hK hP (ci := 3) (q0 := 0) rfl (MW_0 c5 b m)) hd_X3_many ⟨Nat.le_of_ble_eq_true rfl, Nat.le_of_ble_eq_true rfl⟩ ⟨rfl, rfl⟩ hl.1 (Nat.le_of_ble_eq_true rfl) dX3_most_36 ⟨Nat.zero_le _, Nat.zero_le _⟩ rfl) ?_
              refine lv_aload_n hx hb dX3_most_39 rfl (lv_at hl 0 rfl) ?_
              refine lv_iload_n hx hb dX3_most_40 rfl (lv_at hl 3 rfl) ?_
              obtain ⟨v41, e41, h⟩ := o_bind h
              refine ro_calli (ro_runV (As := [.int x3_5]) (rest := [.int v36]) ⟨hx, hb, hml, hown, hts⟩ hP hK (c_X3_many l D c5 b m x3_5 v41 e41) gG_RX3_51 (va_recv hK hP (ci := 3) (q0 := 0) rfl (MW_0 c5 b m)) hd_X3_many ⟨Nat.le_of_ble_eq_true rfl, Nat.le_of_ble_eq_true rfl⟩ ⟨rfl, rfl⟩ hl.1 (Nat.le_of_ble_eq_true rfl) dX3_most_41 ⟨Nat.zero_le _, Nat.zero_le _⟩ rfl) ?_
              refine lv_icmp_le (tgt := 50) hx hb dX3_most_44 (by decide) (fun q => ?_) (fun q => ?_)
              · have h := o_t h q
                refine lv_iinc (v := (x4_5 + (1 : Int32))) (lv' := [(4, .int (x4_5 + (1 : Int32))), (0, .ref (b 0)), (1, .int p1), (2, .int p2), (3, .int x3_5)]) hx hb dX3_most_50 hl (k := 4) rfl rfl (by decide) rfl (fun ls hl => ?_)
                refine lv_goto (tgt := 5) hx hb dX3_most_53 (by decide) ?_
                exact ih x3_5 (x4_5 + (1 : Int32))  ls (lv_sub hl [1, 2, 3, 4, 0] rfl) h
              · have h := o_f h q
                refine lv_iload hx hb dX3_most_47 (lv_at hl 4 rfl) ?_
                refine lv_istore_n (i := 3) (lv' := [(3, .int x4_5), (0, .ref (b 0)), (1, .int p1), (2, .int p2), (4, .int x4_5)]) hx hb dX3_most_49 rfl hl (by decide) rfl (fun ls hl => ?_)
                refine lv_iinc (v := (x4_5 + (1 : Int32))) (lv' := [(4, .int (x4_5 + (1 : Int32))), (3, .int x4_5), (0, .ref (b 0)), (1, .int p1), (2, .int p2)]) hx hb dX3_most_50 hl (k := 4) rfl rfl (by decide) rfl (fun ls hl => ?_)
                refine lv_goto (tgt := 5) hx hb dX3_most_53 (by decide) ?_
                exact ih x4_5 (x4_5 + (1 : Int32))  ls (lv_sub hl [2, 3, 4, 1, 0] rfl) h
  exact L5 FU (-1 : Int32) (0 : Int32)  ls (lv_sub hl [2, 3, 4, 1, 0] rfl) h
set_option maxHeartbeats 4000000 in
set_option maxRecDepth 100000 in
theorem c_J6_numberOfLeadingZeros_0f7a4 (l : Launch) (D : va_G) (tys : List (ClassId × FieldType)) (ws : va_W) (p0 : Int32) (r : Int32) (h : R_J6_numberOfLeadingZeros_0f7a4 p0 = some r) : Met l yJ6_numberOfLeadingZeros_0f7a4 (ws_ yJ6_numberOfLeadingZeros_0f7a4 cJ6_numberOfLeadingZeros_0f7a4 2 (some .int)) { frames := 0, cells := 0, slots := 0, locals := 0 } (va_Pc [.int p0] (roB D (tys) (ws))) (vp_Si (fun x => x = r)) 0 0 (fun _ => False) := by
  refine Met.ofW (cc := cJ6_numberOfLeadingZeros_0f7a4) (maxL := 2) (ret := (some .int)) (by decide) rfl ?_
  intro p e s m args below meth c s₁ B hml hv
  obtain ⟨rfl, hP, hK⟩ := hv
  have hx := B.exec
  have hb := B.bytes
  have hr := B.returns
  have hts : ∀ w ∈ LA, w.before _ s = true := fun w hw => atoms_spec (ws := ws_ yJ6_numberOfLeadingZeros_0f7a4 cJ6_numberOfLeadingZeros_0f7a4 2 (some .int)) B.pre w (List.mem_cons_of_mem _ hw)
  have hown : s.vm.findClass RJ6 = some m.cls := findClass_of_methodNamed B.named
  have hlocks := B.notSynchronized
  have hl := lv_entry ([.int p0] : List Value) (n := 2) (Nat.le_of_ble_eq_true rfl)
  rw [lg_entry_eq]
  generalize (lg_sl ([.int p0] : List Value) ++ List.replicate (2 - (lg_sl ([.int p0] : List Value)).length) Slot.unset).toArray = ls at hl ⊢
  have hl : lv_has ls 2 [(0, .int p0)] := hl
  unfold R_J6_numberOfLeadingZeros_0f7a4 at h
  refine lv_iload_n hx hb dJ6_numberOfLeadingZeros_0f7a4_0 rfl (lv_at hl 0 rfl) ?_
  refine lv_if_gt (tgt := 15) hx hb dJ6_numberOfLeadingZeros_0f7a4_1 (by decide) (fun q => ?_) (fun q => ?_)
  · have h := o_t h q
    refine lv_bipush (v := (31 : Int32)) hx hb dJ6_numberOfLeadingZeros_0f7a4_15 (by decide) ?_
    refine lv_istore_n (i := 1) (lv' := [(1, .int (31 : Int32)), (0, .int p0)]) hx hb dJ6_numberOfLeadingZeros_0f7a4_17 rfl hl (by decide) rfl (fun ls hl => ?_)
    refine lv_iload_n hx hb dJ6_numberOfLeadingZeros_0f7a4_18 rfl (lv_at hl 1 rfl) ?_
    refine lv_ldcw (v := (65536)) hx hb hown (hts _ wT3_203) dJ6_numberOfLeadingZeros_0f7a4_19 ?_
    refine lv_icmp_lt (tgt := 33) hx hb dJ6_numberOfLeadingZeros_0f7a4_22 (by decide) (fun q => ?_) (fun q => ?_)
    · have h := o_t h q
      refine lv_iload_n hx hb dJ6_numberOfLeadingZeros_0f7a4_33 rfl (lv_at hl 1 rfl) ?_
      refine lv_sipush (v := (256 : Int32)) hx hb dJ6_numberOfLeadingZeros_0f7a4_34 (by decide) ?_
      refine lv_icmp_lt (tgt := 48) hx hb dJ6_numberOfLeadingZeros_0f7a4_37 (by decide) (fun q => ?_) (fun q => ?_)
      · have h := o_t h q
        refine lv_iload_n hx hb dJ6_numberOfLeadingZeros_0f7a4_48 rfl (lv_at hl 1 rfl) ?_
        refine lv_bipush (v := (16 : Int32)) hx hb dJ6_numberOfLeadingZeros_0f7a4_49 (by decide) ?_
        refine lv_icmp_lt (tgt := 61) hx hb dJ6_numberOfLeadingZeros_0f7a4_51 (by decide) (fun q => ?_) (fun q => ?_)
        · have h := o_t h q
          refine lv_iload_n hx hb dJ6_numberOfLeadingZeros_0f7a4_61 rfl (lv_at hl 1 rfl) ?_
          refine lv_iconst (v := (4 : Int32)) hx hb dJ6_numberOfLeadingZeros_0f7a4_62 (by decide) ?_
          refine lv_icmp_lt (tgt := 73) hx hb dJ6_numberOfLeadingZeros_0f7a4_63 (by decide) (fun q => ?_) (fun q => ?_)
          · have h := o_t h q
            refine lv_iload_n hx hb dJ6_numberOfLeadingZeros_0f7a4_73 rfl (lv_at hl 0 rfl) ?_
            refine lv_iload_n hx hb dJ6_numberOfLeadingZeros_0f7a4_74 rfl (lv_at hl 1 rfl) ?_
            refine lv_iconst (v := (1 : Int32)) hx hb dJ6_numberOfLeadingZeros_0f7a4_75 (by decide) ?_
            refine lv_iushr (v := (p0.toUInt32 >>> ((1 : Int32).toUInt32 &&& Int32.toUInt32 31)).toInt32) hx hb dJ6_numberOfLeadingZeros_0f7a4_76 rfl ?_
            refine lv_isub hx hb dJ6_numberOfLeadingZeros_0f7a4_77 ?_
            exact ro_iret hx hb hr hlocks dJ6_numberOfLeadingZeros_0f7a4_78 (Option.some.inj h)
          · have h := o_f h q
            refine lv_iinc (v := ((31 : Int32) + (-2 : Int32))) (lv' := [(1, .int ((31 : Int32) + (-2 : Int32))), (0, .int p0)]) hx hb dJ6_numberOfLeadingZeros_0f7a4_66 hl (k := 0) rfl rfl (by decide) rfl (fun ls hl => ?_)
            refine lv_iload_n hx hb dJ6_numberOfLeadingZeros_0f7a4_69 rfl (lv_at hl 1 rfl) ?_
            refine lv_iconst (v := (2 : Int32)) hx hb dJ6_numberOfLeadingZeros_0f7a4_70 (by decide) ?_
            refine lv_iushr (v := (p0.toUInt32 >>> ((2 : Int32).toUInt32 &&& Int32.toUInt32 31)).toInt32) hx hb dJ6_numberOfLeadingZeros_0f7a4_71 rfl ?_
            refine lv_istore_n (i := 0) (lv' := [(0, .int ((p0.toUInt32 >>> ((2 : Int32).toUInt32 &&& Int32.toUInt32 31)).toInt32)), (1, .int ((31 : Int32) + (-2 : Int32)))]) hx hb dJ6_numberOfLeadingZeros_0f7a4_72 rfl hl (by decide) rfl (fun ls hl => ?_)
            refine lv_iload_n hx hb dJ6_numberOfLeadingZeros_0f7a4_73 rfl (lv_at hl 1 rfl) ?_
            refine lv_iload_n hx hb dJ6_numberOfLeadingZeros_0f7a4_74 rfl (lv_at hl 0 rfl) ?_
            refine lv_iconst (v := (1 : Int32)) hx hb dJ6_numberOfLeadingZeros_0f7a4_75 (by decide) ?_
            refine lv_iushr (v := (((p0.toUInt32 >>> ((2 : Int32).toUInt32 &&& Int32.toUInt32 31)).toInt32).toUInt32 >>> ((1 : Int32).toUInt32 &&& Int32.toUInt32 31)).toInt32) hx hb dJ6_numberOfLeadingZeros_0f7a4_76 rfl ?_
            refine lv_isub hx hb dJ6_numberOfLeadingZeros_0f7a4_77 ?_
            exact ro_iret hx hb hr hlocks dJ6_numberOfLeadingZeros_0f7a4_78 (Option.some.inj h)
        · have h := o_f h q
          refine lv_iinc (v := ((31 : Int32) + (-4 : Int32))) (lv' := [(1, .int ((31 : Int32) + (-4 : Int32))), (0, .int p0)]) hx hb dJ6_numberOfLeadingZeros_0f7a4_54 hl (k := 0) rfl rfl (by decide) rfl (fun ls hl => ?_)
          refine lv_iload_n hx hb dJ6_numberOfLeadingZeros_0f7a4_57 rfl (lv_at hl 1 rfl) ?_
          refine lv_iconst (v := (4 : Int32)) hx hb dJ6_numberOfLeadingZeros_0f7a4_58 (by decide) ?_
          refine lv_iushr (v := (p0.toUInt32 >>> ((4 : Int32).toUInt32 &&& Int32.toUInt32 31)).toInt32) hx hb dJ6_numberOfLeadingZeros_0f7a4_59 rfl ?_
          refine lv_istore_n (i := 0) (lv' := [(0, .int ((p0.toUInt32 >>> ((4 : Int32).toUInt32 &&& Int32.toUInt32 31)).toInt32)), (1, .int ((31 : Int32) + (-4 : Int32)))]) hx hb dJ6_numberOfLeadingZeros_0f7a4_60 rfl hl (by decide) rfl (fun ls hl => ?_)
          refine lv_iload_n hx hb dJ6_numberOfLeadingZeros_0f7a4_61 rfl (lv_at hl 0 rfl) ?_
          refine lv_iconst (v := (4 : Int32)) hx hb dJ6_numberOfLeadingZeros_0f7a4_62 (by decide) ?_
          refine lv_icmp_lt (tgt := 73) hx hb dJ6_numberOfLeadingZeros_0f7a4_63 (by decide) (fun q => ?_) (fun q => ?_)
          · have h := o_t h q
            refine lv_iload_n hx hb dJ6_numberOfLeadingZeros_0f7a4_73 rfl (lv_at hl 1 rfl) ?_
            refine lv_iload_n hx hb dJ6_numberOfLeadingZeros_0f7a4_74 rfl (lv_at hl 0 rfl) ?_
            refine lv_iconst (v := (1 : Int32)) hx hb dJ6_numberOfLeadingZeros_0f7a4_75 (by decide) ?_
            refine lv_iushr (v := (((p0.toUInt32 >>> ((4 : Int32).toUInt32 &&& Int32.toUInt32 31)).toInt32).toUInt32 >>> ((1 : Int32).toUInt32 &&& Int32.toUInt32 31)).toInt32) hx hb dJ6_numberOfLeadingZeros_0f7a4_76 rfl ?_
            refine lv_isub hx hb dJ6_numberOfLeadingZeros_0f7a4_77 ?_
            exact ro_iret hx hb hr hlocks dJ6_numberOfLeadingZeros_0f7a4_78 (Option.some.inj h)
          · have h := o_f h q
            refine lv_iinc (v := (((31 : Int32) + (-4 : Int32)) + (-2 : Int32))) (lv' := [(1, .int (((31 : Int32) + (-4 : Int32)) + (-2 : Int32))), (0, .int ((p0.toUInt32 >>> ((4 : Int32).toUInt32 &&& Int32.toUInt32 31)).toInt32))]) hx hb dJ6_numberOfLeadingZeros_0f7a4_66 hl (k := 1) rfl rfl (by decide) rfl (fun ls hl => ?_)
            refine lv_iload_n hx hb dJ6_numberOfLeadingZeros_0f7a4_69 rfl (lv_at hl 1 rfl) ?_
            refine lv_iconst (v := (2 : Int32)) hx hb dJ6_numberOfLeadingZeros_0f7a4_70 (by decide) ?_
            refine lv_iushr (v := (((p0.toUInt32 >>> ((4 : Int32).toUInt32 &&& Int32.toUInt32 31)).toInt32).toUInt32 >>> ((2 : Int32).toUInt32 &&& Int32.toUInt32 31)).toInt32) hx hb dJ6_numberOfLeadingZeros_0f7a4_71 rfl ?_
            refine lv_istore_n (i := 0) (lv' := [(0, .int ((((p0.toUInt32 >>> ((4 : Int32).toUInt32 &&& Int32.toUInt32 31)).toInt32).toUInt32 >>> ((2 : Int32).toUInt32 &&& Int32.toUInt32 31)).toInt32)), (1, .int (((31 : Int32) + (-4 : Int32)) + (-2 : Int32)))]) hx hb dJ6_numberOfLeadingZeros_0f7a4_72 rfl hl (by decide) rfl (fun ls hl => ?_)
            refine lv_iload_n hx hb dJ6_numberOfLeadingZeros_0f7a4_73 rfl (lv_at hl 1 rfl) ?_
            refine lv_iload_n hx hb dJ6_numberOfLeadingZeros_0f7a4_74 rfl (lv_at hl 0 rfl) ?_
            refine lv_iconst (v := (1 : Int32)) hx hb dJ6_numberOfLeadingZeros_0f7a4_75 (by decide) ?_
            refine lv_iushr (v := (((((p0.toUInt32 >>> ((4 : Int32).toUInt32 &&& Int32.toUInt32 31)).toInt32).toUInt32 >>> ((2 : Int32).toUInt32 &&& Int32.toUInt32 31)).toInt32).toUInt32 >>> ((1 : Int32).toUInt32 &&& Int32.toUInt32 31)).toInt32) hx hb dJ6_numberOfLeadingZeros_0f7a4_76 rfl ?_
            refine lv_isub hx hb dJ6_numberOfLeadingZeros_0f7a4_77 ?_
            exact ro_iret hx hb hr hlocks dJ6_numberOfLeadingZeros_0f7a4_78 (Option.some.inj h)
      · have h := o_f h q
        refine lv_iinc (v := ((31 : Int32) + (-8 : Int32))) (lv' := [(1, .int ((31 : Int32) + (-8 : Int32))), (0, .int p0)]) hx hb dJ6_numberOfLeadingZeros_0f7a4_40 hl (k := 0) rfl rfl (by decide) rfl (fun ls hl => ?_)
        refine lv_iload_n hx hb dJ6_numberOfLeadingZeros_0f7a4_43 rfl (lv_at hl 1 rfl) ?_
        refine lv_bipush (v := (8 : Int32)) hx hb dJ6_numberOfLeadingZeros_0f7a4_44 (by decide) ?_
        refine lv_iushr (v := (p0.toUInt32 >>> ((8 : Int32).toUInt32 &&& Int32.toUInt32 31)).toInt32) hx hb dJ6_numberOfLeadingZeros_0f7a4_46 rfl ?_
        refine lv_istore_n (i := 0) (lv' := [(0, .int ((p0.toUInt32 >>> ((8 : Int32).toUInt32 &&& Int32.toUInt32 31)).toInt32)), (1, .int ((31 : Int32) + (-8 : Int32)))]) hx hb dJ6_numberOfLeadingZeros_0f7a4_47 rfl hl (by decide) rfl (fun ls hl => ?_)
        refine lv_iload_n hx hb dJ6_numberOfLeadingZeros_0f7a4_48 rfl (lv_at hl 0 rfl) ?_
        refine lv_bipush (v := (16 : Int32)) hx hb dJ6_numberOfLeadingZeros_0f7a4_49 (by decide) ?_
        refine lv_icmp_lt (tgt := 61) hx hb dJ6_numberOfLeadingZeros_0f7a4_51 (by decide) (fun q => ?_) (fun q => ?_)
        · have h := o_t h q
          refine lv_iload_n hx hb dJ6_numberOfLeadingZeros_0f7a4_61 rfl (lv_at hl 0 rfl) ?_
          refine lv_iconst (v := (4 : Int32)) hx hb dJ6_numberOfLeadingZeros_0f7a4_62 (by decide) ?_
          refine lv_icmp_lt (tgt := 73) hx hb dJ6_numberOfLeadingZeros_0f7a4_63 (by decide) (fun q => ?_) (fun q => ?_)
          · have h := o_t h q
            refine lv_iload_n hx hb dJ6_numberOfLeadingZeros_0f7a4_73 rfl (lv_at hl 1 rfl) ?_
            refine lv_iload_n hx hb dJ6_numberOfLeadingZeros_0f7a4_74 rfl (lv_at hl 0 rfl) ?_
            refine lv_iconst (v := (1 : Int32)) hx hb dJ6_numberOfLeadingZeros_0f7a4_75 (by decide) ?_
            refine lv_iushr (v := (((p0.toUInt32 >>> ((8 : Int32).toUInt32 &&& Int32.toUInt32 31)).toInt32).toUInt32 >>> ((1 : Int32).toUInt32 &&& Int32.toUInt32 31)).toInt32) hx hb dJ6_numberOfLeadingZeros_0f7a4_76 rfl ?_
            refine lv_isub hx hb dJ6_numberOfLeadingZeros_0f7a4_77 ?_
            exact ro_iret hx hb hr hlocks dJ6_numberOfLeadingZeros_0f7a4_78 (Option.some.inj h)
          · have h := o_f h q
            refine lv_iinc (v := (((31 : Int32) + (-8 : Int32)) + (-2 : Int32))) (lv' := [(1, .int (((31 : Int32) + (-8 : Int32)) + (-2 : Int32))), (0, .int ((p0.toUInt32 >>> ((8 : Int32).toUInt32 &&& Int32.toUInt32 31)).toInt32))]) hx hb dJ6_numberOfLeadingZeros_0f7a4_66 hl (k := 1) rfl rfl (by decide) rfl (fun ls hl => ?_)
            refine lv_iload_n hx hb dJ6_numberOfLeadingZeros_0f7a4_69 rfl (lv_at hl 1 rfl) ?_
            refine lv_iconst (v := (2 : Int32)) hx hb dJ6_numberOfLeadingZeros_0f7a4_70 (by decide) ?_
            refine lv_iushr (v := (((p0.toUInt32 >>> ((8 : Int32).toUInt32 &&& Int32.toUInt32 31)).toInt32).toUInt32 >>> ((2 : Int32).toUInt32 &&& Int32.toUInt32 31)).toInt32) hx hb dJ6_numberOfLeadingZeros_0f7a4_71 rfl ?_
            refine lv_istore_n (i := 0) (lv' := [(0, .int ((((p0.toUInt32 >>> ((8 : Int32).toUInt32 &&& Int32.toUInt32 31)).toInt32).toUInt32 >>> ((2 : Int32).toUInt32 &&& Int32.toUInt32 31)).toInt32)), (1, .int (((31 : Int32) + (-8 : Int32)) + (-2 : Int32)))]) hx hb dJ6_numberOfLeadingZeros_0f7a4_72 rfl hl (by decide) rfl (fun ls hl => ?_)
            refine lv_iload_n hx hb dJ6_numberOfLeadingZeros_0f7a4_73 rfl (lv_at hl 1 rfl) ?_
            refine lv_iload_n hx hb dJ6_numberOfLeadingZeros_0f7a4_74 rfl (lv_at hl 0 rfl) ?_
            refine lv_iconst (v := (1 : Int32)) hx hb dJ6_numberOfLeadingZeros_0f7a4_75 (by decide) ?_
            refine lv_iushr (v := (((((p0.toUInt32 >>> ((8 : Int32).toUInt32 &&& Int32.toUInt32 31)).toInt32).toUInt32 >>> ((2 : Int32).toUInt32 &&& Int32.toUInt32 31)).toInt32).toUInt32 >>> ((1 : Int32).toUInt32 &&& Int32.toUInt32 31)).toInt32) hx hb dJ6_numberOfLeadingZeros_0f7a4_76 rfl ?_
            refine lv_isub hx hb dJ6_numberOfLeadingZeros_0f7a4_77 ?_
            exact ro_iret hx hb hr hlocks dJ6_numberOfLeadingZeros_0f7a4_78 (Option.some.inj h)
        · have h := o_f h q
          refine lv_iinc (v := (((31 : Int32) + (-8 : Int32)) + (-4 : Int32))) (lv' := [(1, .int (((31 : Int32) + (-8 : Int32)) + (-4 : Int32))), (0, .int ((p0.toUInt32 >>> ((8 : Int32).toUInt32 &&& Int32.toUInt32 31)).toInt32))]) hx hb dJ6_numberOfLeadingZeros_0f7a4_54 hl (k := 1) rfl rfl (by decide) rfl (fun ls hl => ?_)
          refine lv_iload_n hx hb dJ6_numberOfLeadingZeros_0f7a4_57 rfl (lv_at hl 1 rfl) ?_
          refine lv_iconst (v := (4 : Int32)) hx hb dJ6_numberOfLeadingZeros_0f7a4_58 (by decide) ?_
          refine lv_iushr (v := (((p0.toUInt32 >>> ((8 : Int32).toUInt32 &&& Int32.toUInt32 31)).toInt32).toUInt32 >>> ((4 : Int32).toUInt32 &&& Int32.toUInt32 31)).toInt32) hx hb dJ6_numberOfLeadingZeros_0f7a4_59 rfl ?_
          refine lv_istore_n (i := 0) (lv' := [(0, .int ((((p0.toUInt32 >>> ((8 : Int32).toUInt32 &&& Int32.toUInt32 31)).toInt32).toUInt32 >>> ((4 : Int32).toUInt32 &&& Int32.toUInt32 31)).toInt32)), (1, .int (((31 : Int32) + (-8 : Int32)) + (-4 : Int32)))]) hx hb dJ6_numberOfLeadingZeros_0f7a4_60 rfl hl (by decide) rfl (fun ls hl => ?_)
          refine lv_iload_n hx hb dJ6_numberOfLeadingZeros_0f7a4_61 rfl (lv_at hl 0 rfl) ?_
          refine lv_iconst (v := (4 : Int32)) hx hb dJ6_numberOfLeadingZeros_0f7a4_62 (by decide) ?_
          refine lv_icmp_lt (tgt := 73) hx hb dJ6_numberOfLeadingZeros_0f7a4_63 (by decide) (fun q => ?_) (fun q => ?_)
          · have h := o_t h q
            refine lv_iload_n hx hb dJ6_numberOfLeadingZeros_0f7a4_73 rfl (lv_at hl 1 rfl) ?_
            refine lv_iload_n hx hb dJ6_numberOfLeadingZeros_0f7a4_74 rfl (lv_at hl 0 rfl) ?_
            refine lv_iconst (v := (1 : Int32)) hx hb dJ6_numberOfLeadingZeros_0f7a4_75 (by decide) ?_
            refine lv_iushr (v := (((((p0.toUInt32 >>> ((8 : Int32).toUInt32 &&& Int32.toUInt32 31)).toInt32).toUInt32 >>> ((4 : Int32).toUInt32 &&& Int32.toUInt32 31)).toInt32).toUInt32 >>> ((1 : Int32).toUInt32 &&& Int32.toUInt32 31)).toInt32) hx hb dJ6_numberOfLeadingZeros_0f7a4_76 rfl ?_
            refine lv_isub hx hb dJ6_numberOfLeadingZeros_0f7a4_77 ?_
            exact ro_iret hx hb hr hlocks dJ6_numberOfLeadingZeros_0f7a4_78 (Option.some.inj h)
          · have h := o_f h q
            refine lv_iinc (v := ((((31 : Int32) + (-8 : Int32)) + (-4 : Int32)) + (-2 : Int32))) (lv' := [(1, .int ((((31 : Int32) + (-8 : Int32)) + (-4 : Int32)) + (-2 : Int32))), (0, .int ((((p0.toUInt32 >>> ((8 : Int32).toUInt32 &&& Int32.toUInt32 31)).toInt32).toUInt32 >>> ((4 : Int32).toUInt32 &&& Int32.toUInt32 31)).toInt32))]) hx hb dJ6_numberOfLeadingZeros_0f7a4_66 hl (k := 1) rfl rfl (by decide) rfl (fun ls hl => ?_)
            refine lv_iload_n hx hb dJ6_numberOfLeadingZeros_0f7a4_69 rfl (lv_at hl 1 rfl) ?_
            refine lv_iconst (v := (2 : Int32)) hx hb dJ6_numberOfLeadingZeros_0f7a4_70 (by decide) ?_
            refine lv_iushr (v := (((((p0.toUInt32 >>> ((8 : Int32).toUInt32 &&& Int32.toUInt32 31)).toInt32).toUInt32 >>> ((4 : Int32).toUInt32 &&& Int32.toUInt32 31)).toInt32).toUInt32 >>> ((2 : Int32).toUInt32 &&& Int32.toUInt32 31)).toInt32) hx hb dJ6_numberOfLeadingZeros_0f7a4_71 rfl ?_
            refine lv_istore_n (i := 0) (lv' := [(0, .int ((((((p0.toUInt32 >>> ((8 : Int32).toUInt32 &&& Int32.toUInt32 31)).toInt32).toUInt32 >>> ((4 : Int32).toUInt32 &&& Int32.toUInt32 31)).toInt32).toUInt32 >>> ((2 : Int32).toUInt32 &&& Int32.toUInt32 31)).toInt32)), (1, .int ((((31 : Int32) + (-8 : Int32)) + (-4 : Int32)) + (-2 : Int32)))]) hx hb dJ6_numberOfLeadingZeros_0f7a4_72 rfl hl (by decide) rfl (fun ls hl => ?_)
            refine lv_iload_n hx hb dJ6_numberOfLeadingZeros_0f7a4_73 rfl (lv_at hl 1 rfl) ?_
            refine lv_iload_n hx hb dJ6_numberOfLeadingZeros_0f7a4_74 rfl (lv_at hl 0 rfl) ?_
            refine lv_iconst (v := (1 : Int32)) hx hb dJ6_numberOfLeadingZeros_0f7a4_75 (by decide) ?_
            refine lv_iushr (v := (((((((p0.toUInt32 >>> ((8 : Int32).toUInt32 &&& Int32.toUInt32 31)).toInt32).toUInt32 >>> ((4 : Int32).toUInt32 &&& Int32.toUInt32 31)).toInt32).toUInt32 >>> ((2 : Int32).toUInt32 &&& Int32.toUInt32 31)).toInt32).toUInt32 >>> ((1 : Int32).toUInt32 &&& Int32.toUInt32 31)).toInt32) hx hb dJ6_numberOfLeadingZeros_0f7a4_76 rfl ?_
            refine lv_isub hx hb dJ6_numberOfLeadingZeros_0f7a4_77 ?_
            exact ro_iret hx hb hr hlocks dJ6_numberOfLeadingZeros_0f7a4_78 (Option.some.inj h)
    · have h := o_f h q
      refine lv_iinc (v := ((31 : Int32) + (-16 : Int32))) (lv' := [(1, .int ((31 : Int32) + (-16 : Int32))), (0, .int p0)]) hx hb dJ6_numberOfLeadingZeros_0f7a4_25 hl (k := 0) rfl rfl (by decide) rfl (fun ls hl => ?_)
      refine lv_iload_n hx hb dJ6_numberOfLeadingZeros_0f7a4_28 rfl (lv_at hl 1 rfl) ?_
      refine lv_bipush (v := (16 : Int32)) hx hb dJ6_numberOfLeadingZeros_0f7a4_29 (by decide) ?_
      refine lv_iushr (v := (p0.toUInt32 >>> ((16 : Int32).toUInt32 &&& Int32.toUInt32 31)).toInt32) hx hb dJ6_numberOfLeadingZeros_0f7a4_31 rfl ?_
      refine lv_istore_n (i := 0) (lv' := [(0, .int ((p0.toUInt32 >>> ((16 : Int32).toUInt32 &&& Int32.toUInt32 31)).toInt32)), (1, .int ((31 : Int32) + (-16 : Int32)))]) hx hb dJ6_numberOfLeadingZeros_0f7a4_32 rfl hl (by decide) rfl (fun ls hl => ?_)
      refine lv_iload_n hx hb dJ6_numberOfLeadingZeros_0f7a4_33 rfl (lv_at hl 0 rfl) ?_
      refine lv_sipush (v := (256 : Int32)) hx hb dJ6_numberOfLeadingZeros_0f7a4_34 (by decide) ?_
      refine lv_icmp_lt (tgt := 48) hx hb dJ6_numberOfLeadingZeros_0f7a4_37 (by decide) (fun q => ?_) (fun q => ?_)
      · have h := o_t h q
        refine lv_iload_n hx hb dJ6_numberOfLeadingZeros_0f7a4_48 rfl (lv_at hl 0 rfl) ?_
        refine lv_bipush (v := (16 : Int32)) hx hb dJ6_numberOfLeadingZeros_0f7a4_49 (by decide) ?_
        refine lv_icmp_lt (tgt := 61) hx hb dJ6_numberOfLeadingZeros_0f7a4_51 (by decide) (fun q => ?_) (fun q => ?_)
        · have h := o_t h q
          refine lv_iload_n hx hb dJ6_numberOfLeadingZeros_0f7a4_61 rfl (lv_at hl 0 rfl) ?_
          refine lv_iconst (v := (4 : Int32)) hx hb dJ6_numberOfLeadingZeros_0f7a4_62 (by decide) ?_
          refine lv_icmp_lt (tgt := 73) hx hb dJ6_numberOfLeadingZeros_0f7a4_63 (by decide) (fun q => ?_) (fun q => ?_)
          · have h := o_t h q
            refine lv_iload_n hx hb dJ6_numberOfLeadingZeros_0f7a4_73 rfl (lv_at hl 1 rfl) ?_
            refine lv_iload_n hx hb dJ6_numberOfLeadingZeros_0f7a4_74 rfl (lv_at hl 0 rfl) ?_
            refine lv_iconst (v := (1 : Int32)) hx hb dJ6_numberOfLeadingZeros_0f7a4_75 (by decide) ?_
            refine lv_iushr (v := (((p0.toUInt32 >>> ((16 : Int32).toUInt32 &&& Int32.toUInt32 31)).toInt32).toUInt32 >>> ((1 : Int32).toUInt32 &&& Int32.toUInt32 31)).toInt32) hx hb dJ6_numberOfLeadingZeros_0f7a4_76 rfl ?_
            refine lv_isub hx hb dJ6_numberOfLeadingZeros_0f7a4_77 ?_
            exact ro_iret hx hb hr hlocks dJ6_numberOfLeadingZeros_0f7a4_78 (Option.some.inj h)
          · have h := o_f h q
            refine lv_iinc (v := (((31 : Int32) + (-16 : Int32)) + (-2 : Int32))) (lv' := [(1, .int (((31 : Int32) + (-16 : Int32)) + (-2 : Int32))), (0, .int ((p0.toUInt32 >>> ((16 : Int32).toUInt32 &&& Int32.toUInt32 31)).toInt32))]) hx hb dJ6_numberOfLeadingZeros_0f7a4_66 hl (k := 1) rfl rfl (by decide) rfl (fun ls hl => ?_)
            refine lv_iload_n hx hb dJ6_numberOfLeadingZeros_0f7a4_69 rfl (lv_at hl 1 rfl) ?_
            refine lv_iconst (v := (2 : Int32)) hx hb dJ6_numberOfLeadingZeros_0f7a4_70 (by decide) ?_
            refine lv_iushr (v := (((p0.toUInt32 >>> ((16 : Int32).toUInt32 &&& Int32.toUInt32 31)).toInt32).toUInt32 >>> ((2 : Int32).toUInt32 &&& Int32.toUInt32 31)).toInt32) hx hb dJ6_numberOfLeadingZeros_0f7a4_71 rfl ?_
            refine lv_istore_n (i := 0) (lv' := [(0, .int ((((p0.toUInt32 >>> ((16 : Int32).toUInt32 &&& Int32.toUInt32 31)).toInt32).toUInt32 >>> ((2 : Int32).toUInt32 &&& Int32.toUInt32 31)).toInt32)), (1, .int (((31 : Int32) + (-16 : Int32)) + (-2 : Int32)))]) hx hb dJ6_numberOfLeadingZeros_0f7a4_72 rfl hl (by decide) rfl (fun ls hl => ?_)
            refine lv_iload_n hx hb dJ6_numberOfLeadingZeros_0f7a4_73 rfl (lv_at hl 1 rfl) ?_
            refine lv_iload_n hx hb dJ6_numberOfLeadingZeros_0f7a4_74 rfl (lv_at hl 0 rfl) ?_
            refine lv_iconst (v := (1 : Int32)) hx hb dJ6_numberOfLeadingZeros_0f7a4_75 (by decide) ?_
            refine lv_iushr (v := (((((p0.toUInt32 >>> ((16 : Int32).toUInt32 &&& Int32.toUInt32 31)).toInt32).toUInt32 >>> ((2 : Int32).toUInt32 &&& Int32.toUInt32 31)).toInt32).toUInt32 >>> ((1 : Int32).toUInt32 &&& Int32.toUInt32 31)).toInt32) hx hb dJ6_numberOfLeadingZeros_0f7a4_76 rfl ?_
            refine lv_isub hx hb dJ6_numberOfLeadingZeros_0f7a4_77 ?_
            exact ro_iret hx hb hr hlocks dJ6_numberOfLeadingZeros_0f7a4_78 (Option.some.inj h)
        · have h := o_f h q
          refine lv_iinc (v := (((31 : Int32) + (-16 : Int32)) + (-4 : Int32))) (lv' := [(1, .int (((31 : Int32) + (-16 : Int32)) + (-4 : Int32))), (0, .int ((p0.toUInt32 >>> ((16 : Int32).toUInt32 &&& Int32.toUInt32 31)).toInt32))]) hx hb dJ6_numberOfLeadingZeros_0f7a4_54 hl (k := 1) rfl rfl (by decide) rfl (fun ls hl => ?_)
          refine lv_iload_n hx hb dJ6_numberOfLeadingZeros_0f7a4_57 rfl (lv_at hl 1 rfl) ?_
          refine lv_iconst (v := (4 : Int32)) hx hb dJ6_numberOfLeadingZeros_0f7a4_58 (by decide) ?_
          refine lv_iushr (v := (((p0.toUInt32 >>> ((16 : Int32).toUInt32 &&& Int32.toUInt32 31)).toInt32).toUInt32 >>> ((4 : Int32).toUInt32 &&& Int32.toUInt32 31)).toInt32) hx hb dJ6_numberOfLeadingZeros_0f7a4_59 rfl ?_
          refine lv_istore_n (i := 0) (lv' := [(0, .int ((((p0.toUInt32 >>> ((16 : Int32).toUInt32 &&& Int32.toUInt32 31)).toInt32).toUInt32 >>> ((4 : Int32).toUInt32 &&& Int32.toUInt32 31)).toInt32)), (1, .int (((31 : Int32) + (-16 : Int32)) + (-4 : Int32)))]) hx hb dJ6_numberOfLeadingZeros_0f7a4_60 rfl hl (by decide) rfl (fun ls hl => ?_)
          refine lv_iload_n hx hb dJ6_numberOfLeadingZeros_0f7a4_61 rfl (lv_at hl 0 rfl) ?_
          refine lv_iconst (v := (4 : Int32)) hx hb dJ6_numberOfLeadingZeros_0f7a4_62 (by decide) ?_
          refine lv_icmp_lt (tgt := 73) hx hb dJ6_numberOfLeadingZeros_0f7a4_63 (by decide) (fun q => ?_) (fun q => ?_)
          · have h := o_t h q
            refine lv_iload_n hx hb dJ6_numberOfLeadingZeros_0f7a4_73 rfl (lv_at hl 1 rfl) ?_
            refine lv_iload_n hx hb dJ6_numberOfLeadingZeros_0f7a4_74 rfl (lv_at hl 0 rfl) ?_
            refine lv_iconst (v := (1 : Int32)) hx hb dJ6_numberOfLeadingZeros_0f7a4_75 (by decide) ?_
            refine lv_iushr (v := (((((p0.toUInt32 >>> ((16 : Int32).toUInt32 &&& Int32.toUInt32 31)).toInt32).toUInt32 >>> ((4 : Int32).toUInt32 &&& Int32.toUInt32 31)).toInt32).toUInt32 >>> ((1 : Int32).toUInt32 &&& Int32.toUInt32 31)).toInt32) hx hb dJ6_numberOfLeadingZeros_0f7a4_76 rfl ?_
            refine lv_isub hx hb dJ6_numberOfLeadingZeros_0f7a4_77 ?_
            exact ro_iret hx hb hr hlocks dJ6_numberOfLeadingZeros_0f7a4_78 (Option.some.inj h)
          · have h := o_f h q
            refine lv_iinc (v := ((((31 : Int32) + (-16 : Int32)) + (-4 : Int32)) + (-2 : Int32))) (lv' := [(1, .int ((((31 : Int32) + (-16 : Int32)) + (-4 : Int32)) + (-2 : Int32))), (0, .int ((((p0.toUInt32 >>> ((16 : Int32).toUInt32 &&& Int32.toUInt32 31)).toInt32).toUInt32 >>> ((4 : Int32).toUInt32 &&& Int32.toUInt32 31)).toInt32))]) hx hb dJ6_numberOfLeadingZeros_0f7a4_66 hl (k := 1) rfl rfl (by decide) rfl (fun ls hl => ?_)
            refine lv_iload_n hx hb dJ6_numberOfLeadingZeros_0f7a4_69 rfl (lv_at hl 1 rfl) ?_
            refine lv_iconst (v := (2 : Int32)) hx hb dJ6_numberOfLeadingZeros_0f7a4_70 (by decide) ?_
            refine lv_iushr (v := (((((p0.toUInt32 >>> ((16 : Int32).toUInt32 &&& Int32.toUInt32 31)).toInt32).toUInt32 >>> ((4 : Int32).toUInt32 &&& Int32.toUInt32 31)).toInt32).toUInt32 >>> ((2 : Int32).toUInt32 &&& Int32.toUInt32 31)).toInt32) hx hb dJ6_numberOfLeadingZeros_0f7a4_71 rfl ?_
            refine lv_istore_n (i := 0) (lv' := [(0, .int ((((((p0.toUInt32 >>> ((16 : Int32).toUInt32 &&& Int32.toUInt32 31)).toInt32).toUInt32 >>> ((4 : Int32).toUInt32 &&& Int32.toUInt32 31)).toInt32).toUInt32 >>> ((2 : Int32).toUInt32 &&& Int32.toUInt32 31)).toInt32)), (1, .int ((((31 : Int32) + (-16 : Int32)) + (-4 : Int32)) + (-2 : Int32)))]) hx hb dJ6_numberOfLeadingZeros_0f7a4_72 rfl hl (by decide) rfl (fun ls hl => ?_)
            refine lv_iload_n hx hb dJ6_numberOfLeadingZeros_0f7a4_73 rfl (lv_at hl 1 rfl) ?_
            refine lv_iload_n hx hb dJ6_numberOfLeadingZeros_0f7a4_74 rfl (lv_at hl 0 rfl) ?_
            refine lv_iconst (v := (1 : Int32)) hx hb dJ6_numberOfLeadingZeros_0f7a4_75 (by decide) ?_
            refine lv_iushr (v := (((((((p0.toUInt32 >>> ((16 : Int32).toUInt32 &&& Int32.toUInt32 31)).toInt32).toUInt32 >>> ((4 : Int32).toUInt32 &&& Int32.toUInt32 31)).toInt32).toUInt32 >>> ((2 : Int32).toUInt32 &&& Int32.toUInt32 31)).toInt32).toUInt32 >>> ((1 : Int32).toUInt32 &&& Int32.toUInt32 31)).toInt32) hx hb dJ6_numberOfLeadingZeros_0f7a4_76 rfl ?_
            refine lv_isub hx hb dJ6_numberOfLeadingZeros_0f7a4_77 ?_
            exact ro_iret hx hb hr hlocks dJ6_numberOfLeadingZeros_0f7a4_78 (Option.some.inj h)
      · have h := o_f h q
        refine lv_iinc (v := (((31 : Int32) + (-16 : Int32)) + (-8 : Int32))) (lv' := [(1, .int (((31 : Int32) + (-16 : Int32)) + (-8 : Int32))), (0, .int ((p0.toUInt32 >>> ((16 : Int32).toUInt32 &&& Int32.toUInt32 31)).toInt32))]) hx hb dJ6_numberOfLeadingZeros_0f7a4_40 hl (k := 1) rfl rfl (by decide) rfl (fun ls hl => ?_)
        refine lv_iload_n hx hb dJ6_numberOfLeadingZeros_0f7a4_43 rfl (lv_at hl 1 rfl) ?_
        refine lv_bipush (v := (8 : Int32)) hx hb dJ6_numberOfLeadingZeros_0f7a4_44 (by decide) ?_
        refine lv_iushr (v := (((p0.toUInt32 >>> ((16 : Int32).toUInt32 &&& Int32.toUInt32 31)).toInt32).toUInt32 >>> ((8 : Int32).toUInt32 &&& Int32.toUInt32 31)).toInt32) hx hb dJ6_numberOfLeadingZeros_0f7a4_46 rfl ?_
        refine lv_istore_n (i := 0) (lv' := [(0, .int ((((p0.toUInt32 >>> ((16 : Int32).toUInt32 &&& Int32.toUInt32 31)).toInt32).toUInt32 >>> ((8 : Int32).toUInt32 &&& Int32.toUInt32 31)).toInt32)), (1, .int (((31 : Int32) + (-16 : Int32)) + (-8 : Int32)))]) hx hb dJ6_numberOfLeadingZeros_0f7a4_47 rfl hl (by decide) rfl (fun ls hl => ?_)
        refine lv_iload_n hx hb dJ6_numberOfLeadingZeros_0f7a4_48 rfl (lv_at hl 0 rfl) ?_
        refine lv_bipush (v := (16 : Int32)) hx hb dJ6_numberOfLeadingZeros_0f7a4_49 (by decide) ?_
        refine lv_icmp_lt (tgt := 61) hx hb dJ6_numberOfLeadingZeros_0f7a4_51 (by decide) (fun q => ?_) (fun q => ?_)
        · have h := o_t h q
          refine lv_iload_n hx hb dJ6_numberOfLeadingZeros_0f7a4_61 rfl (lv_at hl 0 rfl) ?_
          refine lv_iconst (v := (4 : Int32)) hx hb dJ6_numberOfLeadingZeros_0f7a4_62 (by decide) ?_
          refine lv_icmp_lt (tgt := 73) hx hb dJ6_numberOfLeadingZeros_0f7a4_63 (by decide) (fun q => ?_) (fun q => ?_)
          · have h := o_t h q
            refine lv_iload_n hx hb dJ6_numberOfLeadingZeros_0f7a4_73 rfl (lv_at hl 1 rfl) ?_
            refine lv_iload_n hx hb dJ6_numberOfLeadingZeros_0f7a4_74 rfl (lv_at hl 0 rfl) ?_
            refine lv_iconst (v := (1 : Int32)) hx hb dJ6_numberOfLeadingZeros_0f7a4_75 (by decide) ?_
            refine lv_iushr (v := (((((p0.toUInt32 >>> ((16 : Int32).toUInt32 &&& Int32.toUInt32 31)).toInt32).toUInt32 >>> ((8 : Int32).toUInt32 &&& Int32.toUInt32 31)).toInt32).toUInt32 >>> ((1 : Int32).toUInt32 &&& Int32.toUInt32 31)).toInt32) hx hb dJ6_numberOfLeadingZeros_0f7a4_76 rfl ?_
            refine lv_isub hx hb dJ6_numberOfLeadingZeros_0f7a4_77 ?_
            exact ro_iret hx hb hr hlocks dJ6_numberOfLeadingZeros_0f7a4_78 (Option.some.inj h)
          · have h := o_f h q
            refine lv_iinc (v := ((((31 : Int32) + (-16 : Int32)) + (-8 : Int32)) + (-2 : Int32))) (lv' := [(1, .int ((((31 : Int32) + (-16 : Int32)) + (-8 : Int32)) + (-2 : Int32))), (0, .int ((((p0.toUInt32 >>> ((16 : Int32).toUInt32 &&& Int32.toUInt32 31)).toInt32).toUInt32 >>> ((8 : Int32).toUInt32 &&& Int32.toUInt32 31)).toInt32))]) hx hb dJ6_numberOfLeadingZeros_0f7a4_66 hl (k := 1) rfl rfl (by decide) rfl (fun ls hl => ?_)
            refine lv_iload_n hx hb dJ6_numberOfLeadingZeros_0f7a4_69 rfl (lv_at hl 1 rfl) ?_
            refine lv_iconst (v := (2 : Int32)) hx hb dJ6_numberOfLeadingZeros_0f7a4_70 (by decide) ?_
            refine lv_iushr (v := (((((p0.toUInt32 >>> ((16 : Int32).toUInt32 &&& Int32.toUInt32 31)).toInt32).toUInt32 >>> ((8 : Int32).toUInt32 &&& Int32.toUInt32 31)).toInt32).toUInt32 >>> ((2 : Int32).toUInt32 &&& Int32.toUInt32 31)).toInt32) hx hb dJ6_numberOfLeadingZeros_0f7a4_71 rfl ?_
            refine lv_istore_n (i := 0) (lv' := [(0, .int ((((((p0.toUInt32 >>> ((16 : Int32).toUInt32 &&& Int32.toUInt32 31)).toInt32).toUInt32 >>> ((8 : Int32).toUInt32 &&& Int32.toUInt32 31)).toInt32).toUInt32 >>> ((2 : Int32).toUInt32 &&& Int32.toUInt32 31)).toInt32)), (1, .int ((((31 : Int32) + (-16 : Int32)) + (-8 : Int32)) + (-2 : Int32)))]) hx hb dJ6_numberOfLeadingZeros_0f7a4_72 rfl hl (by decide) rfl (fun ls hl => ?_)
            refine lv_iload_n hx hb dJ6_numberOfLeadingZeros_0f7a4_73 rfl (lv_at hl 1 rfl) ?_
            refine lv_iload_n hx hb dJ6_numberOfLeadingZeros_0f7a4_74 rfl (lv_at hl 0 rfl) ?_
            refine lv_iconst (v := (1 : Int32)) hx hb dJ6_numberOfLeadingZeros_0f7a4_75 (by decide) ?_
            refine lv_iushr (v := (((((((p0.toUInt32 >>> ((16 : Int32).toUInt32 &&& Int32.toUInt32 31)).toInt32).toUInt32 >>> ((8 : Int32).toUInt32 &&& Int32.toUInt32 31)).toInt32).toUInt32 >>> ((2 : Int32).toUInt32 &&& Int32.toUInt32 31)).toInt32).toUInt32 >>> ((1 : Int32).toUInt32 &&& Int32.toUInt32 31)).toInt32) hx hb dJ6_numberOfLeadingZeros_0f7a4_76 rfl ?_
            refine lv_isub hx hb dJ6_numberOfLeadingZeros_0f7a4_77 ?_
            exact ro_iret hx hb hr hlocks dJ6_numberOfLeadingZeros_0f7a4_78 (Option.some.inj h)
        · have h := o_f h q
          refine lv_iinc (v := ((((31 : Int32) + (-16 : Int32)) + (-8 : Int32)) + (-4 : Int32))) (lv' := [(1, .int ((((31 : Int32) + (-16 : Int32)) + (-8 : Int32)) + (-4 : Int32))), (0, .int ((((p0.toUInt32 >>> ((16 : Int32).toUInt32 &&& Int32.toUInt32 31)).toInt32).toUInt32 >>> ((8 : Int32).toUInt32 &&& Int32.toUInt32 31)).toInt32))]) hx hb dJ6_numberOfLeadingZeros_0f7a4_54 hl (k := 1) rfl rfl (by decide) rfl (fun ls hl => ?_)
          refine lv_iload_n hx hb dJ6_numberOfLeadingZeros_0f7a4_57 rfl (lv_at hl 1 rfl) ?_
          refine lv_iconst (v := (4 : Int32)) hx hb dJ6_numberOfLeadingZeros_0f7a4_58 (by decide) ?_
          refine lv_iushr (v := (((((p0.toUInt32 >>> ((16 : Int32).toUInt32 &&& Int32.toUInt32 31)).toInt32).toUInt32 >>> ((8 : Int32).toUInt32 &&& Int32.toUInt32 31)).toInt32).toUInt32 >>> ((4 : Int32).toUInt32 &&& Int32.toUInt32 31)).toInt32) hx hb dJ6_numberOfLeadingZeros_0f7a4_59 rfl ?_
          refine lv_istore_n (i := 0) (lv' := [(0, .int ((((((p0.toUInt32 >>> ((16 : Int32).toUInt32 &&& Int32.toUInt32 31)).toInt32).toUInt32 >>> ((8 : Int32).toUInt32 &&& Int32.toUInt32 31)).toInt32).toUInt32 >>> ((4 : Int32).toUInt32 &&& Int32.toUInt32 31)).toInt32)), (1, .int ((((31 : Int32) + (-16 : Int32)) + (-8 : Int32)) + (-4 : Int32)))]) hx hb dJ6_numberOfLeadingZeros_0f7a4_60 rfl hl (by decide) rfl (fun ls hl => ?_)
          refine lv_iload_n hx hb dJ6_numberOfLeadingZeros_0f7a4_61 rfl (lv_at hl 0 rfl) ?_
          refine lv_iconst (v := (4 : Int32)) hx hb dJ6_numberOfLeadingZeros_0f7a4_62 (by decide) ?_
          refine lv_icmp_lt (tgt := 73) hx hb dJ6_numberOfLeadingZeros_0f7a4_63 (by decide) (fun q => ?_) (fun q => ?_)
          · have h := o_t h q
            refine lv_iload_n hx hb dJ6_numberOfLeadingZeros_0f7a4_73 rfl (lv_at hl 1 rfl) ?_
            refine lv_iload_n hx hb dJ6_numberOfLeadingZeros_0f7a4_74 rfl (lv_at hl 0 rfl) ?_
            refine lv_iconst (v := (1 : Int32)) hx hb dJ6_numberOfLeadingZeros_0f7a4_75 (by decide) ?_
            refine lv_iushr (v := (((((((p0.toUInt32 >>> ((16 : Int32).toUInt32 &&& Int32.toUInt32 31)).toInt32).toUInt32 >>> ((8 : Int32).toUInt32 &&& Int32.toUInt32 31)).toInt32).toUInt32 >>> ((4 : Int32).toUInt32 &&& Int32.toUInt32 31)).toInt32).toUInt32 >>> ((1 : Int32).toUInt32 &&& Int32.toUInt32 31)).toInt32) hx hb dJ6_numberOfLeadingZeros_0f7a4_76 rfl ?_
            refine lv_isub hx hb dJ6_numberOfLeadingZeros_0f7a4_77 ?_
            exact ro_iret hx hb hr hlocks dJ6_numberOfLeadingZeros_0f7a4_78 (Option.some.inj h)
          · have h := o_f h q
            refine lv_iinc (v := (((((31 : Int32) + (-16 : Int32)) + (-8 : Int32)) + (-4 : Int32)) + (-2 : Int32))) (lv' := [(1, .int (((((31 : Int32) + (-16 : Int32)) + (-8 : Int32)) + (-4 : Int32)) + (-2 : Int32))), (0, .int ((((((p0.toUInt32 >>> ((16 : Int32).toUInt32 &&& Int32.toUInt32 31)).toInt32).toUInt32 >>> ((8 : Int32).toUInt32 &&& Int32.toUInt32 31)).toInt32).toUInt32 >>> ((4 : Int32).toUInt32 &&& Int32.toUInt32 31)).toInt32))]) hx hb dJ6_numberOfLeadingZeros_0f7a4_66 hl (k := 1) rfl rfl (by decide) rfl (fun ls hl => ?_)
            refine lv_iload_n hx hb dJ6_numberOfLeadingZeros_0f7a4_69 rfl (lv_at hl 1 rfl) ?_
            refine lv_iconst (v := (2 : Int32)) hx hb dJ6_numberOfLeadingZeros_0f7a4_70 (by decide) ?_
            refine lv_iushr (v := (((((((p0.toUInt32 >>> ((16 : Int32).toUInt32 &&& Int32.toUInt32 31)).toInt32).toUInt32 >>> ((8 : Int32).toUInt32 &&& Int32.toUInt32 31)).toInt32).toUInt32 >>> ((4 : Int32).toUInt32 &&& Int32.toUInt32 31)).toInt32).toUInt32 >>> ((2 : Int32).toUInt32 &&& Int32.toUInt32 31)).toInt32) hx hb dJ6_numberOfLeadingZeros_0f7a4_71 rfl ?_
            refine lv_istore_n (i := 0) (lv' := [(0, .int ((((((((p0.toUInt32 >>> ((16 : Int32).toUInt32 &&& Int32.toUInt32 31)).toInt32).toUInt32 >>> ((8 : Int32).toUInt32 &&& Int32.toUInt32 31)).toInt32).toUInt32 >>> ((4 : Int32).toUInt32 &&& Int32.toUInt32 31)).toInt32).toUInt32 >>> ((2 : Int32).toUInt32 &&& Int32.toUInt32 31)).toInt32)), (1, .int (((((31 : Int32) + (-16 : Int32)) + (-8 : Int32)) + (-4 : Int32)) + (-2 : Int32)))]) hx hb dJ6_numberOfLeadingZeros_0f7a4_72 rfl hl (by decide) rfl (fun ls hl => ?_)
            refine lv_iload_n hx hb dJ6_numberOfLeadingZeros_0f7a4_73 rfl (lv_at hl 1 rfl) ?_
            refine lv_iload_n hx hb dJ6_numberOfLeadingZeros_0f7a4_74 rfl (lv_at hl 0 rfl) ?_
            refine lv_iconst (v := (1 : Int32)) hx hb dJ6_numberOfLeadingZeros_0f7a4_75 (by decide) ?_
            refine lv_iushr (v := (((((((((p0.toUInt32 >>> ((16 : Int32).toUInt32 &&& Int32.toUInt32 31)).toInt32).toUInt32 >>> ((8 : Int32).toUInt32 &&& Int32.toUInt32 31)).toInt32).toUInt32 >>> ((4 : Int32).toUInt32 &&& Int32.toUInt32 31)).toInt32).toUInt32 >>> ((2 : Int32).toUInt32 &&& Int32.toUInt32 31)).toInt32).toUInt32 >>> ((1 : Int32).toUInt32 &&& Int32.toUInt32 31)).toInt32) hx hb dJ6_numberOfLeadingZeros_0f7a4_76 rfl ?_
            refine lv_isub hx hb dJ6_numberOfLeadingZeros_0f7a4_77 ?_
            exact ro_iret hx hb hr hlocks dJ6_numberOfLeadingZeros_0f7a4_78 (Option.some.inj h)
  · have h := o_f h q
    refine lv_iload_n hx hb dJ6_numberOfLeadingZeros_0f7a4_4 rfl (lv_at hl 0 rfl) ?_
    refine lv_if_ne (tgt := 13) hx hb dJ6_numberOfLeadingZeros_0f7a4_5 (by decide) (fun q => ?_) (fun q => ?_)
    · have h := o_t' h q
      refine lv_iconst (v := (0 : Int32)) hx hb dJ6_numberOfLeadingZeros_0f7a4_13 (by decide) ?_
      exact ro_iret hx hb hr hlocks dJ6_numberOfLeadingZeros_0f7a4_14 (Option.some.inj h)
    · have h := o_f' h q
      refine lv_bipush (v := (32 : Int32)) hx hb dJ6_numberOfLeadingZeros_0f7a4_8 (by decide) ?_
      refine lv_goto (tgt := 14) hx hb dJ6_numberOfLeadingZeros_0f7a4_10 (by decide) ?_
      exact ro_iret hx hb hr hlocks dJ6_numberOfLeadingZeros_0f7a4_14 (Option.some.inj h)
set_option maxHeartbeats 4000000 in
set_option maxRecDepth 100000 in
theorem c_J6_highestOneBit_0f7a4 (l : Launch) (D : va_G) (tys : List (ClassId × FieldType)) (ws : va_W) (p0 : Int32) (r : Int32) (h : R_J6_highestOneBit_0f7a4 p0 = some r) : Met l yJ6_highestOneBit_0f7a4 (ws_ yJ6_highestOneBit_0f7a4 cJ6_highestOneBit_0f7a4 1 (some .int)) { frames := 1, cells := 0, slots := 0, locals := 21 } (va_Pc [.int p0] (roB D (tys) (ws))) (vp_Si (fun x => x = r)) 0 0 (fun _ => False) := by
  refine Met.ofW (cc := cJ6_highestOneBit_0f7a4) (maxL := 1) (ret := (some .int)) (by decide) rfl ?_
  intro p e s m args below meth c s₁ B hml hv
  obtain ⟨rfl, hP, hK⟩ := hv
  have hx := B.exec
  have hb := B.bytes
  have hr := B.returns
  have hts : ∀ w ∈ LA, w.before _ s = true := fun w hw => atoms_spec (ws := ws_ yJ6_highestOneBit_0f7a4 cJ6_highestOneBit_0f7a4 1 (some .int)) B.pre w (List.mem_cons_of_mem _ hw)
  have hown : s.vm.findClass RJ6 = some m.cls := findClass_of_methodNamed B.named
  have hlocks := B.notSynchronized
  have hl := lv_entry ([.int p0] : List Value) (n := 1) (Nat.le_of_ble_eq_true rfl)
  rw [lg_entry_eq]
  generalize (lg_sl ([.int p0] : List Value) ++ List.replicate (1 - (lg_sl ([.int p0] : List Value)).length) Slot.unset).toArray = ls at hl ⊢
  have hl : lv_has ls 1 [(0, .int p0)] := hl
  unfold R_J6_highestOneBit_0f7a4 at h
  refine lv_iload_n hx hb dJ6_highestOneBit_0f7a4_0 rfl (lv_at hl 0 rfl) ?_
  refine lv_ldc (v := (-2147483648)) hx hb hown (hts _ wT3_199) dJ6_highestOneBit_0f7a4_1 ?_
  refine lv_iload_n hx hb dJ6_highestOneBit_0f7a4_3 rfl (lv_at hl 0 rfl) ?_
  obtain ⟨v4, e4, h⟩ := o_bind h
  refine ro_calli (ro_runS (As := [.int p0]) (rest := [.int (-2147483648 : Int32), .int p0]) ⟨hx, hb, hml, hown, hts⟩ hP hK (c_J6_numberOfLeadingZeros_0f7a4 l D tys ws p0 v4 e4) gG_RJ6_51 hd_J6_numberOfLeadingZeros_0f7a4 ⟨Nat.le_of_ble_eq_true rfl, Nat.le_of_ble_eq_true rfl⟩ ⟨rfl, rfl⟩ hl.1 (Nat.le_of_ble_eq_true rfl) dJ6_highestOneBit_0f7a4_4 ⟨Nat.zero_le _, Nat.zero_le _⟩ rfl) ?_
  refine lv_iushr (v := ((-2147483648 : Int32).toUInt32 >>> (v4.toUInt32 &&& Int32.toUInt32 31)).toInt32) hx hb dJ6_highestOneBit_0f7a4_7 rfl ?_
  refine lv_iand hx hb dJ6_highestOneBit_0f7a4_8 ?_
  exact ro_iret hx hb hr hlocks dJ6_highestOneBit_0f7a4_9 (Option.some.inj h)
set_option maxHeartbeats 4000000 in
set_option maxRecDepth 100000 in
theorem c_X3_move (l : Launch) (D : va_G) (c5 : Nat → ClassId) (b : Nat → Nat) (m : MSt) (sz : Nat) (p1 : Int32) (p2 : Int32) (r : MSt) (h : R_X3_move m p1 p2 = some r) : Met l yX3_move (ws_ yX3_move cX3_move 4 none) { frames := 2, cells := 0, slots := 0, locals := 43 } (va_Pc [.ref (b 0), .int p1, .int p2] (rwB D (tyG c5) (MW c5 b m) sz)) (va_Qv (fun u => u = r) (rwE D (tyG c5) (va_A (MW c5 b m) sz) (fun u => MW c5 b u)) (va_A (MW c5 b m) sz)) 0 0 (va_A (MW c5 b m) sz) := by
  refine Met.ofW (cc := cX3_move) (maxL := 4) (ret := none) (by decide) rfl ?_
  intro p e s m9 args below meth c s₁ B hml hv
  obtain ⟨rfl, hsz, hP, hK, hD0⟩ := hv
  have hx := B.exec
  have hb := B.bytes
  have hr := B.returns
  have hts : ∀ w ∈ LA, w.before _ s = true := fun w hw => atoms_spec (ws := ws_ yX3_move cX3_move 4 none) B.pre w (List.mem_cons_of_mem _ hw)
  have hown : s.vm.findClass RX3 = some m9.cls := findClass_of_methodNamed B.named
  have hlocks := B.notSynchronized
  subst hsz
  have hD := hD0.self (sz := s.heap.size)
  generalize hAe : va_A (MW c5 b m) s.heap.size = A at hD ⊢
  have hA : ∀ q : Nat, s.heap.size ≤ q → A q := fun q h => by rw [← hAe]; exact Or.inr h
  have hS : va_S A s.heap s.heap [] := va_S.rf
  have hl := lv_entry ([.ref (b 0), .int p1, .int p2] : List Value) (n := 4) (Nat.le_of_ble_eq_true rfl)
  rw [lg_entry_eq]
  generalize (lg_sl ([.ref (b 0), .int p1, .int p2] : List Value) ++ List.replicate (4 - (lg_sl ([.ref (b 0), .int p1, .int p2] : List Value)).length) Slot.unset).toArray = ls at hl ⊢
  have hl : lv_has ls 4 [(0, .ref (b 0)), (1, .int p1), (2, .int p2)] := hl
  unfold R_X3_move at h
  refine lv_aload_n hx hb dX3_move_0 rfl (lv_at hl 0 rfl) ?_
  refine va_get (D := D) (ci := 3) (v := .ref (b 5)) (C := RX3) (T := TX3) (N := 14) hx hb hts iX3 hown hK hP 0 (MW_0 c5 b m) rfl 10 (by decide) (hts _ wT3_38) (fun _ h9 => h9) rfl dX3_move_1 ?_
  refine lv_iload_n hx hb dX3_move_4 rfl (lv_at hl 1 rfl) ?_
  obtain ⟨g5, h⟩ := o_if h
  refine va_iald hx hb hK hP 5 3 (MW_5 c5 b m) rfl (inb_in g5) dX3_move_5 ?_
  obtain ⟨v6, e6, h⟩ := o_bind h
  refine ro_calli (ro_runS (As := [.int (mA m 4 (p1.toNatClampNeg))]) (rest := []) ⟨hx, hb, hml, hown, hts⟩ hP hK (c_J6_highestOneBit_0f7a4 l D (tyG c5) (MW c5 b m) (mA m 4 (p1.toNatClampNeg)) v6 e6) gG_RX3_103 hd_J6_highestOneBit_0f7a4 ⟨Nat.le_of_ble_eq_true rfl, Nat.le_of_ble_eq_true rfl⟩ ⟨rfl, rfl⟩ hl.1 (Nat.le_of_ble_eq_true rfl) dX3_move_6 ⟨Nat.zero_le _, Nat.zero_le _⟩ rfl) ?_
  refine lv_istore_n (i := 3) (lv' := [(3, .int v6), (0, .ref (b 0)), (1, .int p1), (2, .int p2)]) hx hb dX3_move_9 rfl hl (by decide) rfl (fun ls hl => ?_)
  refine lv_aload_n hx hb dX3_move_10 rfl (lv_at hl 1 rfl) ?_
  refine va_get (D := D) (ci := 3) (v := .ref (b 5)) (C := RX3) (T := TX3) (N := 14) hx hb hts iX3 hown hK hP 0 (MW_0 c5 b m) rfl 10 (by decide) (hts _ wT3_38) (fun _ h9 => h9) rfl dX3_move_11 ?_
  refine lv_iload_n hx hb dX3_move_14 rfl (lv_at hl 3 rfl) ?_
  refine lv_dup2_11 hx hb dX3_move_15 rfl rfl ?_
  obtain ⟨g16, h⟩ := o_if h
  refine va_iald hx hb hK hP 5 3 (MW_5 c5 b m) rfl (inb_in g16) dX3_move_16 ?_
  refine lv_iconst (v := (1 : Int32)) hx hb dX3_move_17 (by decide) ?_
  refine lv_aload_n hx hb dX3_move_18 rfl (lv_at hl 1 rfl) ?_
  refine lv_iload_n hx hb dX3_move_19 rfl (lv_at hl 3 rfl) ?_
  obtain ⟨v20, e20, h⟩ := o_bind h
  refine ro_calli (ro_runV (As := [.int p2]) (rest := [.int (1 : Int32), .int (mA m 4 (p2.toNatClampNeg)), .int p2, .ref (b 5)]) ⟨hx, hb, hml, hown, hts⟩ hP hK (c_X3_hole l D c5 b m p2 v20 e20) gG_RX3_86 (va_recv hK hP (ci := 3) (q0 := 0) rfl (MW_0 c5 b m)) hd_X3_hole ⟨Nat.le_of_ble_eq_true rfl, Nat.le_of_ble_eq_true rfl⟩ ⟨rfl, rfl⟩ hl.1 (Nat.le_of_ble_eq_true rfl) dX3_move_20 ⟨Nat.zero_le _, Nat.zero_le _⟩ rfl) ?_
  refine lv_ishl hx hb dX3_move_23 ?_
  refine lv_ior hx hb dX3_move_24 ?_
  obtain ⟨g25, h⟩ := o_if h
  refine va_iast hx hb hK hP hD hS 5 3 (MW_5 c5 b m) rfl (inb_in g25) dX3_move_25 (fun H locs hP hD hS => ?_)
  have hP := wP (MW_set5 c5 b m _) hP
  have hD := wD (MW_set5 c5 b m _) hD
  refine lv_aload_n hx hb dX3_move_26 rfl (lv_at hl 1 rfl) ?_
  refine va_get (D := D) (ci := 3) (v := .ref (b 5)) (C := RX3) (T := TX3) (N := 14) hx hb hts iX3 hown hK hP 0 (MW_0 c5 b (mAs m 4 (upd (mA m 4) (p2.toNatClampNeg) ((mA m 4 (p2.toNatClampNeg)) ||| ((1 : Int32) <<< (v20 &&& 31)))))) rfl 10 (by decide) (hts _ wT3_38) (fun _ h9 => h9) rfl dX3_move_27 ?_
  refine lv_iload_n hx hb dX3_move_30 rfl (lv_at hl 2 rfl) ?_
  refine lv_dup2_11 hx hb dX3_move_31 rfl rfl ?_
  obtain ⟨g32, h⟩ := o_if h
  refine va_iald hx hb hK hP 5 3 (MW_5 c5 b (mAs m 4 (upd (mA m 4) (p2.toNatClampNeg) ((mA m 4 (p2.toNatClampNeg)) ||| ((1 : Int32) <<< (v20 &&& 31)))))) rfl (inb_in g32) dX3_move_32 ?_
  refine lv_iload_n hx hb dX3_move_33 rfl (lv_at hl 0 rfl) ?_
  refine lv_isub hx hb dX3_move_34 ?_
  obtain ⟨g35, h⟩ := o_if h
  refine va_iast hx hb hK hP hD hS 5 3 (MW_5 c5 b (mAs m 4 (upd (mA m 4) (p2.toNatClampNeg) ((mA m 4 (p2.toNatClampNeg)) ||| ((1 : Int32) <<< (v20 &&& 31)))))) rfl (inb_in g35) dX3_move_35 (fun H locs hP hD hS => ?_)
  have hP := wP (MW_set5 c5 b (mAs m 4 (upd (mA m 4) (p2.toNatClampNeg) ((mA m 4 (p2.toNatClampNeg)) ||| ((1 : Int32) <<< (v20 &&& 31))))) _) hP
  have hD := wD (MW_set5 c5 b (mAs m 4 (upd (mA m 4) (p2.toNatClampNeg) ((mA m 4 (p2.toNatClampNeg)) ||| ((1 : Int32) <<< (v20 &&& 31))))) _) hD
  refine lv_aload_n hx hb dX3_move_36 rfl (lv_at hl 1 rfl) ?_
  refine va_get (D := D) (ci := 3) (v := .ref (b 5)) (C := RX3) (T := TX3) (N := 14) hx hb hts iX3 hown hK hP 0 (MW_0 c5 b (mAs (mAs m 4 (upd (mA m 4) (p2.toNatClampNeg) ((mA m 4 (p2.toNatClampNeg)) ||| ((1 : Int32) <<< (v20 &&& 31))))) 4 (upd (mA (mAs m 4 (upd (mA m 4) (p2.toNatClampNeg) ((mA m 4 (p2.toNatClampNeg)) ||| ((1 : Int32) <<< (v20 &&& 31))))) 4) (p1.toNatClampNeg) ((mA (mAs m 4 (upd (mA m 4) (p2.toNatClampNeg) ((mA m 4 (p2.toNatClampNeg)) ||| ((1 : Int32) <<< (v20 &&& 31))))) 4 (p1.toNatClampNeg)) - v6)))) rfl 10 (by decide) (hts _ wT3_38) (fun _ h9 => h9) rfl dX3_move_37 ?_
  refine lv_iload_n hx hb dX3_move_40 rfl (lv_at hl 2 rfl) ?_
  obtain ⟨g41, h⟩ := o_if h
  refine va_iald hx hb hK hP 5 3 (MW_5 c5 b (mAs (mAs m 4 (upd (mA m 4) (p2.toNatClampNeg) ((mA m 4 (p2.toNatClampNeg)) ||| ((1 : Int32) <<< (v20 &&& 31))))) 4 (upd (mA (mAs m 4 (upd (mA m 4) (p2.toNatClampNeg) ((mA m 4 (p2.toNatClampNeg)) ||| ((1 : Int32) <<< (v20 &&& 31))))) 4) (p1.toNatClampNeg) ((mA (mAs m 4 (upd (mA m 4) (p2.toNatClampNeg) ((mA m 4 (p2.toNatClampNeg)) ||| ((1 : Int32) <<< (v20 &&& 31))))) 4 (p1.toNatClampNeg)) - v6)))) rfl (inb_in g41) dX3_move_41 ?_
  refine lv_if_ne (tgt := 55) hx hb dX3_move_42 (by decide) (fun q => ?_) (fun q => ?_)
  · have h := o_t' h q
    obtain rfl := (Option.some.inj h)
    exact rw_vret (wf := fun u => MW c5 b u) hx hb hr hlocks hP hK hD hS dX3_move_55
  · have h := o_f' h q
    refine lv_aload_n hx hb dX3_move_45 rfl (lv_at hl 1 rfl) ?_
    refine va_get (D := D) (ci := 3) (v := .ref (b 6)) (C := RX3) (T := TX3) (N := 14) hx hb hts iX3 hown hK hP 0 (MW_0 c5 b (mAs (mAs m 4 (upd (mA m 4) (p2.toNatClampNeg) ((mA m 4 (p2.toNatClampNeg)) ||| ((1 : Int32) <<< (v20 &&& 31))))) 4 (upd (mA (mAs m 4 (upd (mA m 4) (p2.toNatClampNeg) ((mA m 4 (p2.toNatClampNeg)) ||| ((1 : Int32) <<< (v20 &&& 31))))) 4) (p1.toNatClampNeg) ((mA (mAs m 4 (upd (mA m 4) (p2.toNatClampNeg) ((mA m 4 (p2.toNatClampNeg)) ||| ((1 : Int32) <<< (v20 &&& 31))))) 4 (p1.toNatClampNeg)) - v6)))) rfl 11 (by decide) (hts _ wT3_39) (fun _ h9 => h9) rfl dX3_move_46 ?_
    refine lv_iload_n hx hb dX3_move_49 rfl (lv_at hl 2 rfl) ?_
    refine lv_aload_n hx hb dX3_move_50 rfl (lv_at hl 1 rfl) ?_
    refine va_get (D := D) (ci := 3) (v := .int (mF (mAs (mAs m 4 (upd (mA m 4) (p2.toNatClampNeg) ((mA m 4 (p2.toNatClampNeg)) ||| ((1 : Int32) <<< (v20 &&& 31))))) 4 (upd (mA (mAs m 4 (upd (mA m 4) (p2.toNatClampNeg) ((mA m 4 (p2.toNatClampNeg)) ||| ((1 : Int32) <<< (v20 &&& 31))))) 4) (p1.toNatClampNeg) ((mA (mAs m 4 (upd (mA m 4) (p2.toNatClampNeg) ((mA m 4 (p2.toNatClampNeg)) ||| ((1 : Int32) <<< (v20 &&& 31))))) 4 (p1.toNatClampNeg)) - v6))) 1)) (C := RX3) (T := TX3) (N := 14) hx hb hts iX3 hown hK hP 0 (MW_0 c5 b (mAs (mAs m 4 (upd (mA m 4) (p2.toNatClampNeg) ((mA m 4 (p2.toNatClampNeg)) ||| ((1 : Int32) <<< (v20 &&& 31))))) 4 (upd (mA (mAs m 4 (upd (mA m 4) (p2.toNatClampNeg) ((mA m 4 (p2.toNatClampNeg)) ||| ((1 : Int32) <<< (v20 &&& 31))))) 4) (p1.toNatClampNeg) ((mA (mAs m 4 (upd (mA m 4) (p2.toNatClampNeg) ((mA m 4 (p2.toNatClampNeg)) ||| ((1 : Int32) <<< (v20 &&& 31))))) 4 (p1.toNatClampNeg)) - v6)))) rfl 1 (by decide) (hts _ wT3_29) (fun _ h9 => h9) rfl dX3_move_51 ?_
    obtain ⟨g54, h⟩ := o_if h
    refine va_iast hx hb hK hP hD hS 6 3 (MW_6 c5 b (mAs (mAs m 4 (upd (mA m 4) (p2.toNatClampNeg) ((mA m 4 (p2.toNatClampNeg)) ||| ((1 : Int32) <<< (v20 &&& 31))))) 4 (upd (mA (mAs m 4 (upd (mA m 4) (p2.toNatClampNeg) ((mA m 4 (p2.toNatClampNeg)) ||| ((1 : Int32) <<< (v20 &&& 31))))) 4) (p1.toNatClampNeg) ((mA (mAs m 4 (upd (mA m 4) (p2.toNatClampNeg) ((mA m 4 (p2.toNatClampNeg)) ||| ((1 : Int32) <<< (v20 &&& 31))))) 4 (p1.toNatClampNeg)) - v6)))) rfl (inb_in g54) dX3_move_54 (fun H locs hP hD hS => ?_)
    have hP := wP (MW_set6 c5 b (mAs (mAs m 4 (upd (mA m 4) (p2.toNatClampNeg) ((mA m 4 (p2.toNatClampNeg)) ||| ((1 : Int32) <<< (v20 &&& 31))))) 4 (upd (mA (mAs m 4 (upd (mA m 4) (p2.toNatClampNeg) ((mA m 4 (p2.toNatClampNeg)) ||| ((1 : Int32) <<< (v20 &&& 31))))) 4) (p1.toNatClampNeg) ((mA (mAs m 4 (upd (mA m 4) (p2.toNatClampNeg) ((mA m 4 (p2.toNatClampNeg)) ||| ((1 : Int32) <<< (v20 &&& 31))))) 4 (p1.toNatClampNeg)) - v6))) _) hP
    have hD := wD (MW_set6 c5 b (mAs (mAs m 4 (upd (mA m 4) (p2.toNatClampNeg) ((mA m 4 (p2.toNatClampNeg)) ||| ((1 : Int32) <<< (v20 &&& 31))))) 4 (upd (mA (mAs m 4 (upd (mA m 4) (p2.toNatClampNeg) ((mA m 4 (p2.toNatClampNeg)) ||| ((1 : Int32) <<< (v20 &&& 31))))) 4) (p1.toNatClampNeg) ((mA (mAs m 4 (upd (mA m 4) (p2.toNatClampNeg) ((mA m 4 (p2.toNatClampNeg)) ||| ((1 : Int32) <<< (v20 &&& 31))))) 4 (p1.toNatClampNeg)) - v6))) _) hD
    obtain rfl := (Option.some.inj h)
    exact rw_vret (wf := fun u => MW c5 b u) hx hb hr hlocks hP hK hD hS dX3_move_55
set_option maxHeartbeats 4000000 in
set_option maxRecDepth 100000 in
theorem c_X3_packed (l : Launch) (D : va_G) (c5 : Nat → ClassId) (b : Nat → Nat) (m : MSt) (sz : Nat) (p1 : Int32) (r : Int32 × MSt) (h : R_X3_packed m p1 = some r) : Met l yX3_packed (ws_ yX3_packed cX3_packed 5 (some .int)) { frames := 5, cells := 0, slots := 0, locals := 108 } (va_Pc [.ref (b 0), .int p1] (rwB D (tyG c5) (MW c5 b m) sz)) (va_Qi (fun x u => x = r.1 ∧ u = r.2) (rwE D (tyG c5) (va_A (MW c5 b m) sz) (fun u => MW c5 b u)) (va_A (MW c5 b m) sz)) 0 0 (va_A (MW c5 b m) sz) := by
  refine Met.ofW (cc := cX3_packed) (maxL := 5) (ret := (some .int)) (by decide) rfl ?_
  intro p e s m9 args below meth c s₁ B hml hv
  obtain ⟨rfl, hsz, hP, hK, hD0⟩ := hv
  have hx := B.exec
  have hb := B.bytes
  have hr := B.returns
  have hts : ∀ w ∈ LA, w.before _ s = true := fun w hw => atoms_spec (ws := ws_ yX3_packed cX3_packed 5 (some .int)) B.pre w (List.mem_cons_of_mem _ hw)
  have hown : s.vm.findClass RX3 = some m9.cls := findClass_of_methodNamed B.named
  have hlocks := B.notSynchronized
  subst hsz
  have hD := hD0.self (sz := s.heap.size)
  generalize hAe : va_A (MW c5 b m) s.heap.size = A at hD ⊢
  have hA : ∀ q : Nat, s.heap.size ≤ q → A q := fun q h => by rw [← hAe]; exact Or.inr h
  have hS : va_S A s.heap s.heap [] := va_S.rf
  have hl := lv_entry ([.ref (b 0), .int p1] : List Value) (n := 5) (Nat.le_of_ble_eq_true rfl)
  rw [lg_entry_eq]
  generalize (lg_sl ([.ref (b 0), .int p1] : List Value) ++ List.replicate (5 - (lg_sl ([.ref (b 0), .int p1] : List Value)).length) Slot.unset).toArray = ls at hl ⊢
  have hl : lv_has ls 5 [(0, .ref (b 0)), (1, .int p1)] := hl
  unfold R_X3_packed at h
  refine lv_iconst (v := (0 : Int32)) hx hb dX3_packed_0 (by decide) ?_
  refine lv_istore_n (i := 2) (lv' := [(2, .int (0 : Int32)), (0, .ref (b 0)), (1, .int p1)]) hx hb dX3_packed_1 rfl hl (by decide) rfl (fun ls hl => ?_)
  refine lv_aload_n hx hb dX3_packed_2 rfl (lv_at hl 1 rfl) ?_
  refine lv_iload_n hx hb dX3_packed_3 rfl (lv_at hl 2 rfl) ?_
  obtain ⟨v4, e4, h⟩ := o_bind h
  refine ro_calli (ro_runV (As := [.int p1]) (rest := []) ⟨hx, hb, hml, hown, hts⟩ hP hK (c_X3_fewest l D c5 b m p1 v4 e4) gG_RX3_106 (va_recv hK hP (ci := 3) (q0 := 0) rfl (MW_0 c5 b m)) hd_X3_fewest ⟨Nat.le_of_ble_eq_true rfl, Nat.le_of_ble_eq_true rfl⟩ ⟨rfl, rfl⟩ hl.1 (Nat.le_of_ble_eq_true rfl) dX3_packed_4 ⟨Nat.zero_le _, Nat.zero_le _⟩ rfl) ?_
  refine lv_istore_n (i := 3) (lv' := [(3, .int v4), (2, .int (0 : Int32)), (0, .ref (b 0)), (1, .int p1)]) hx hb dX3_packed_7 rfl hl (by decide) rfl (fun ls hl => ?_)
  refine lv_aload_n hx hb dX3_packed_8 rfl (lv_at hl 2 rfl) ?_
  refine lv_iload_n hx hb dX3_packed_9 rfl (lv_at hl 3 rfl) ?_
  refine lv_iload_n hx hb dX3_packed_10 rfl (lv_at hl 0 rfl) ?_
  obtain ⟨v11, e11, h⟩ := o_bind h
  refine ro_calli (ro_runV (As := [.int p1, .int v4]) (rest := []) ⟨hx, hb, hml, hown, hts⟩ hP hK (c_X3_most l D c5 b m p1 v4 v11 e11) gG_RX3_109 (va_recv hK hP (ci := 3) (q0 := 0) rfl (MW_0 c5 b m)) hd_X3_most ⟨Nat.le_of_ble_eq_true rfl, Nat.le_of_ble_eq_true rfl⟩ ⟨rfl, rfl⟩ hl.1 (Nat.le_of_ble_eq_true rfl) dX3_packed_11 ⟨Nat.zero_le _, Nat.zero_le _⟩ rfl) ?_
  refine lv_istore (i := 4) (lv' := [(4, .int v11), (3, .int v4), (2, .int (0 : Int32)), (0, .ref (b 0)), (1, .int p1)]) hx hb dX3_packed_14 hl (by decide) rfl (fun ls hl => ?_)
  have L16 : ∀ (n : Nat) (m : MSt) (H : Heap) (locs : List Loc) (x2_16 : Int32) (x3_16 : Int32) (x4_16 : Int32) (ls : Array Slot), lv_has ls 5 [(0, .ref (b 0)), (1, .int p1), (2, .int x2_16), (3, .int x3_16), (4, .int x4_16)] → va_P D vwCl (MW c5 b m) H → va_D A (MW c5 b m) → va_S A s.heap H locs → R_X3_packed_L16 p1 n m x2_16 x3_16 x4_16 = some r → W p l e (headSpec (ws_ yX3_packed cX3_packed 5 (some .int)) { frames := 5, cells := 0, slots := 0, locals := 108 }).room s m9 ([.ref (b 0), .int p1] : List Value).toArray below meth c H locs 0 0 (MQ below (va_Qi (fun x u => x = r.1 ∧ u = r.2) (rwE D (tyG c5) (A) (fun u => MW c5 b u)) (A)) ([.ref (b 0), .int p1] : List Value).toArray s 0 0 A) (F0 m9 16 ls []) := by
    intro n
    induction n with
    | zero =>
      intro m H locs x2_16 x3_16 x4_16 ls hl hP hD hS h
      exact absurd h (by simp [R_X3_packed_L16])
    | succ n ih =>
      intro m H locs x2_16 x3_16 x4_16 ls hl hP hD hS h
      rw [R_X3_packed_L16] at h
      refine lv_iload hx hb dX3_packed_16 (lv_at hl 4 rfl) ?_
      refine lv_iconst (v := (-1 : Int32)) hx hb dX3_packed_18 (by decide) ?_
      refine lv_icmp_eq (tgt := 49) hx hb dX3_packed_19 (by decide) (fun q => ?_) (fun q => ?_)
      · have h := o_t h q
        refine lv_iload_n hx hb dX3_packed_49 rfl (lv_at hl 2 rfl) ?_
        obtain rfl := (Option.some.inj h)
        exact rw_iret (wf := fun u => MW c5 b u) hx hb hr hlocks hP hK hD hS dX3_packed_50 rfl
      · have h := o_f h q
        refine lv_aload_n hx hb dX3_packed_22 rfl (lv_at hl 0 rfl) ?_
        refine lv_iload_n hx hb dX3_packed_23 rfl (lv_at hl 3 rfl) ?_
        refine lv_iload hx hb dX3_packed_24 (lv_at hl 4 rfl) ?_
        obtain ⟨v26, e26, h⟩ := o_bind h
        refine rw_callv (rw_runV (As := [.int x3_16, .int x4_16]) (rest := []) ⟨hx, hb, hml, hown, hts⟩ hP hK hD (c_X3_move l D c5 b m H.size x3_16 x4_16 v26 e26) gG_RX3_112 (va_recv hK hP (ci := 3) (q0 := 0) rfl (MW_0 c5 b m)) hd_X3_move ⟨Nat.le_of_ble_eq_true rfl, Nat.le_of_ble_eq_true rfl⟩ ⟨rfl, rfl⟩ hl.1 (Nat.le_of_ble_eq_true rfl) dX3_packed_26 ⟨Nat.le_of_ble_eq_true rfl, Nat.le_of_ble_eq_true rfl⟩ rfl) hD hS hA (fun H locs hP hD hS => ?_)
        refine lv_iinc (v := (x2_16 + (1 : Int32))) (lv' := [(2, .int (x2_16 + (1 : Int32))), (0, .ref (b 0)), (1, .int p1), (3, .int x3_16), (4, .int x4_16)]) hx hb dX3_packed_29 hl (k := 2) rfl rfl (by decide) rfl (fun ls hl => ?_)
        refine lv_aload_n hx hb dX3_packed_32 rfl (lv_at hl 1 rfl) ?_
        refine lv_iload_n hx hb dX3_packed_33 rfl (lv_at hl 2 rfl) ?_
        obtain ⟨v34, e34, h⟩ := o_bind h
        refine ro_calli (ro_runV (As := [.int p1]) (rest := []) ⟨hx, hb, hml, hown, hts⟩ hP hK (c_X3_fewest l D c5 b v26 p1 v34 e34) gG_RX3_106 (va_recv hK hP (ci := 3) (q0 := 0) rfl (MW_0 c5 b v26)) hd_X3_fewest ⟨Nat.le_of_ble_eq_true rfl, Nat.le_of_ble_eq_true rfl⟩ ⟨rfl, rfl⟩ hl.1 (Nat.le_of_ble_eq_true rfl) dX3_packed_34 ⟨Nat.zero_le _, Nat.zero_le _⟩ rfl) ?_
        refine lv_istore_n (i := 3) (lv' := [(3, .int v34), (2, .int (x2_16 + (1 : Int32))), (0, .ref (b 0)), (1, .int p1), (4, .int x4_16)]) hx hb dX3_packed_37 rfl hl (by decide) rfl (fun ls hl => ?_)
        refine lv_aload_n hx hb dX3_packed_38 rfl (lv_at hl 2 rfl) ?_
        refine lv_iload_n hx hb dX3_packed_39 rfl (lv_at hl 3 rfl) ?_
        refine lv_iload_n hx hb dX3_packed_40 rfl (lv_at hl 0 rfl) ?_
        obtain ⟨v41, e41, h⟩ := o_bind h
        refine ro_calli (ro_runV (As := [.int p1, .int v34]) (rest := []) ⟨hx, hb, hml, hown, hts⟩ hP hK (c_X3_most l D c5 b v26 p1 v34 v41 e41) gG_RX3_109 (va_recv hK hP (ci := 3) (q0 := 0) rfl (MW_0 c5 b v26)) hd_X3_most ⟨Nat.le_of_ble_eq_true rfl, Nat.le_of_ble_eq_true rfl⟩ ⟨rfl, rfl⟩ hl.1 (Nat.le_of_ble_eq_true rfl) dX3_packed_41 ⟨Nat.zero_le _, Nat.zero_le _⟩ rfl) ?_
        refine lv_istore (i := 4) (lv' := [(4, .int v41), (3, .int v34), (2, .int (x2_16 + (1 : Int32))), (0, .ref (b 0)), (1, .int p1)]) hx hb dX3_packed_44 hl (by decide) rfl (fun ls hl => ?_)
        refine lv_goto (tgt := 16) hx hb dX3_packed_46 (by decide) ?_
        exact ih v26 H locs (x2_16 + (1 : Int32)) v34 v41  ls (lv_sub hl [3, 4, 2, 1, 0] rfl) hP hD hS h
  exact L16 FU m s.heap [] (0 : Int32) v4 v11  ls (lv_sub hl [3, 4, 2, 1, 0] rfl) hP hD hS h
set_option maxHeartbeats 4000000 in
set_option maxRecDepth 100000 in
theorem c_X3_shelvesOf (l : Launch) (D : va_G) (c5 : Nat → ClassId) (b : Nat → Nat) (m : MSt) (p1 : Int32) (p2 : Int32) (r : Int32) (h : R_X3_shelvesOf m p1 p2 = some r) : Met l yX3_shelvesOf (ws_ yX3_shelvesOf cX3_shelvesOf 5 (some .int)) { frames := 4, cells := 0, slots := 0, locals := 84 } (va_Pc [.ref (b 0), .int p1, .int p2] (roB D (tyG c5) (MW c5 b m))) (vp_Si (fun x => x = r)) 0 0 (fun _ => False) := by
  refine Met.ofW (cc := cX3_shelvesOf) (maxL := 5) (ret := (some .int)) (by decide) rfl ?_
  intro p e s m9 args below meth c s₁ B hml hv
  obtain ⟨rfl, hP, hK⟩ := hv
  have hx := B.exec
  have hb := B.bytes
  have hr := B.returns
  have hts : ∀ w ∈ LA, w.before _ s = true := fun w hw => atoms_spec (ws := ws_ yX3_shelvesOf cX3_shelvesOf 5 (some .int)) B.pre w (List.mem_cons_of_mem _ hw)
  have hown : s.vm.findClass RX3 = some m9.cls := findClass_of_methodNamed B.named
  have hlocks := B.notSynchronized
  have hl := lv_entry ([.ref (b 0), .int p1, .int p2] : List Value) (n := 5) (Nat.le_of_ble_eq_true rfl)
  rw [lg_entry_eq]
  generalize (lg_sl ([.ref (b 0), .int p1, .int p2] : List Value) ++ List.replicate (5 - (lg_sl ([.ref (b 0), .int p1, .int p2] : List Value)).length) Slot.unset).toArray = ls at hl ⊢
  have hl : lv_has ls 5 [(0, .ref (b 0)), (1, .int p1), (2, .int p2)] := hl
  unfold R_X3_shelvesOf at h
  refine lv_iconst (v := (0 : Int32)) hx hb dX3_shelvesOf_0 (by decide) ?_
  refine lv_istore_n (i := 3) (lv' := [(3, .int (0 : Int32)), (0, .ref (b 0)), (1, .int p1), (2, .int p2)]) hx hb dX3_shelvesOf_1 rfl hl (by decide) rfl (fun ls hl => ?_)
  refine lv_iconst (v := (0 : Int32)) hx hb dX3_shelvesOf_2 (by decide) ?_
  refine lv_istore (i := 4) (lv' := [(4, .int (0 : Int32)), (3, .int (0 : Int32)), (0, .ref (b 0)), (1, .int p1), (2, .int p2)]) hx hb dX3_shelvesOf_3 hl (by decide) rfl (fun ls hl => ?_)
  have L5 : ∀ (n : Nat) (x3_5 : Int32) (x4_5 : Int32) (ls : Array Slot), lv_has ls 5 [(0, .ref (b 0)), (1, .int p1), (2, .int p2), (3, .int x3_5), (4, .int x4_5)] → R_X3_shelvesOf_L5 m p1 p2 n x3_5 x4_5 = some r → W p l e (headSpec (ws_ yX3_shelvesOf cX3_shelvesOf 5 (some .int)) { frames := 4, cells := 0, slots := 0, locals := 84 }).room s m9 ([.ref (b 0), .int p1, .int p2] : List Value).toArray below meth c s.heap [] 0 0 (MQ below (vp_Si (fun x => x = r)) ([.ref (b 0), .int p1, .int p2] : List Value).toArray s 0 0 (fun _ => False)) (F0 m9 5 ls []) := by
    intro n
    induction n with
    | zero =>
      intro x3_5 x4_5 ls hl h
      exact absurd h (by simp [R_X3_shelvesOf_L5])
    | succ n ih =>
      intro x3_5 x4_5 ls hl h
      rw [R_X3_shelvesOf_L5] at h
      refine lv_iload hx hb dX3_shelvesOf_5 (lv_at hl 4 rfl) ?_
      refine lv_bipush (v := (12 : Int32)) hx hb dX3_shelvesOf_7 (by decide) ?_
      refine lv_icmp_ge (tgt := 88) hx hb dX3_shelvesOf_9 (by decide) (fun q => ?_) (fun q => ?_)
      · have h := o_t h q
        refine lv_iload_n hx hb dX3_shelvesOf_88 rfl (lv_at hl 3 rfl) ?_
        exact ro_iret hx hb hr hlocks dX3_shelvesOf_89 (Option.some.inj h)
      · have h := o_f h q
        refine lv_aload_n hx hb dX3_shelvesOf_12 rfl (lv_at hl 0 rfl) ?_
        refine va_get (D := D) (ci := 3) (v := .ref (b 3)) (C := RX3) (T := TX3) (N := 14) hx hb hts iX3 hown hK hP 0 (MW_0 c5 b m) rfl 8 (by decide) (hts _ wT3_36) (fun _ h9 => h9) rfl dX3_shelvesOf_13 ?_
        refine lv_iload hx hb dX3_shelvesOf_16 (lv_at hl 4 rfl) ?_
        obtain ⟨g18, h⟩ := o_if h
        refine va_iald hx hb hK hP 3 3 (MW_3 c5 b m) rfl (inb_in g18) dX3_shelvesOf_18 ?_
        refine lv_iload_n hx hb dX3_shelvesOf_19 rfl (lv_at hl 1 rfl) ?_
        refine lv_icmp_eq (tgt := 26) hx hb dX3_shelvesOf_20 (by decide) (fun q => ?_) (fun q => ?_)
        · have h := o_t h q
          refine lv_iload_n hx hb dX3_shelvesOf_26 rfl (lv_at hl 3 rfl) ?_
          refine lv_iload_n hx hb dX3_shelvesOf_27 rfl (lv_at hl 2 rfl) ?_
          refine lv_if_eq (tgt := 75) hx hb dX3_shelvesOf_28 (by decide) (fun q => ?_) (fun q => ?_)
          · have h := o_t h q
            refine lv_iconst (v := (1 : Int32)) hx hb dX3_shelvesOf_75 (by decide) ?_
            refine lv_goto (tgt := 80) hx hb dX3_shelvesOf_76 (by decide) ?_
            refine lv_iadd hx hb dX3_shelvesOf_80 ?_
            refine lv_istore_n (i := 3) (lv' := [(3, .int (x3_5 + (1 : Int32))), (0, .ref (b 0)), (1, .int p1), (2, .int p2), (4, .int x4_5)]) hx hb dX3_shelvesOf_81 rfl hl (by decide) rfl (fun ls hl => ?_)
            refine lv_iinc (v := (x4_5 + (1 : Int32))) (lv' := [(4, .int (x4_5 + (1 : Int32))), (3, .int (x3_5 + (1 : Int32))), (0, .ref (b 0)), (1, .int p1), (2, .int p2)]) hx hb dX3_shelvesOf_82 hl (k := 4) rfl rfl (by decide) rfl (fun ls hl => ?_)
            refine lv_goto (tgt := 5) hx hb dX3_shelvesOf_85 (by decide) ?_
            exact ih (x3_5 + (1 : Int32)) (x4_5 + (1 : Int32))  ls (lv_sub hl [2, 3, 4, 1, 0] rfl) h
          · have h := o_f h q
            refine lv_iload_n hx hb dX3_shelvesOf_31 rfl (lv_at hl 2 rfl) ?_
            refine lv_iconst (v := (1 : Int32)) hx hb dX3_shelvesOf_32 (by decide) ?_
            refine lv_icmp_ne (tgt := 45) hx hb dX3_shelvesOf_33 (by decide) (fun q => ?_) (fun q => ?_)
            · have h := o_t' h q
              refine lv_iload_n hx hb dX3_shelvesOf_45 rfl (lv_at hl 2 rfl) ?_
              refine lv_iconst (v := (2 : Int32)) hx hb dX3_shelvesOf_46 (by decide) ?_
              refine lv_icmp_ne (tgt := 60) hx hb dX3_shelvesOf_47 (by decide) (fun q => ?_) (fun q => ?_)
              · have h := o_t' h q
                refine lv_iload_n hx hb dX3_shelvesOf_60 rfl (lv_at hl 2 rfl) ?_
                refine lv_iconst (v := (3 : Int32)) hx hb dX3_shelvesOf_61 (by decide) ?_
                refine lv_icmp_ne (tgt := 79) hx hb dX3_shelvesOf_62 (by decide) (fun q => ?_) (fun q => ?_)
                · have h := o_t' h q
                  refine lv_iconst (v := (0 : Int32)) hx hb dX3_shelvesOf_79 (by decide) ?_
                  refine lv_iadd hx hb dX3_shelvesOf_80 ?_
                  refine lv_istore_n (i := 3) (lv' := [(3, .int (x3_5 + (0 : Int32))), (0, .ref (b 0)), (1, .int p1), (2, .int p2), (4, .int x4_5)]) hx hb dX3_shelvesOf_81 rfl hl (by decide) rfl (fun ls hl => ?_)
                  refine lv_iinc (v := (x4_5 + (1 : Int32))) (lv' := [(4, .int (x4_5 + (1 : Int32))), (3, .int (x3_5 + (0 : Int32))), (0, .ref (b 0)), (1, .int p1), (2, .int p2)]) hx hb dX3_shelvesOf_82 hl (k := 4) rfl rfl (by decide) rfl (fun ls hl => ?_)
                  refine lv_goto (tgt := 5) hx hb dX3_shelvesOf_85 (by decide) ?_
                  exact ih (x3_5 + (0 : Int32)) (x4_5 + (1 : Int32))  ls (lv_sub hl [2, 3, 4, 1, 0] rfl) h
                · have h := o_f' h q
                  refine lv_aload_n hx hb dX3_shelvesOf_65 rfl (lv_at hl 0 rfl) ?_
                  refine va_get (D := D) (ci := 3) (v := .ref (b 5)) (C := RX3) (T := TX3) (N := 14) hx hb hts iX3 hown hK hP 0 (MW_0 c5 b m) rfl 10 (by decide) (hts _ wT3_38) (fun _ h9 => h9) rfl dX3_shelvesOf_66 ?_
                  refine lv_iload hx hb dX3_shelvesOf_69 (lv_at hl 4 rfl) ?_
                  obtain ⟨g71, h⟩ := o_if h
                  refine va_iald hx hb hK hP 5 3 (MW_5 c5 b m) rfl (inb_in g71) dX3_shelvesOf_71 ?_
                  refine lv_if_ne (tgt := 79) hx hb dX3_shelvesOf_72 (by decide) (fun q => ?_) (fun q => ?_)
                  · have h := o_t' h q
                    refine lv_iconst (v := (0 : Int32)) hx hb dX3_shelvesOf_79 (by decide) ?_
                    refine lv_iadd hx hb dX3_shelvesOf_80 ?_
                    refine lv_istore_n (i := 3) (lv' := [(3, .int (x3_5 + (0 : Int32))), (0, .ref (b 0)), (1, .int p1), (2, .int p2), (4, .int x4_5)]) hx hb dX3_shelvesOf_81 rfl hl (by decide) rfl (fun ls hl => ?_)
                    refine lv_iinc (v := (x4_5 + (1 : Int32))) (lv' := [(4, .int (x4_5 + (1 : Int32))), (3, .int (x3_5 + (0 : Int32))), (0, .ref (b 0)), (1, .int p1), (2, .int p2)]) hx hb dX3_shelvesOf_82 hl (k := 4) rfl rfl (by decide) rfl (fun ls hl => ?_)
                    refine lv_goto (tgt := 5) hx hb dX3_shelvesOf_85 (by decide) ?_
                    exact ih (x3_5 + (0 : Int32)) (x4_5 + (1 : Int32))  ls (lv_sub hl [2, 3, 4, 1, 0] rfl) h
                  · have h := o_f' h q
                    refine lv_iconst (v := (1 : Int32)) hx hb dX3_shelvesOf_75 (by decide) ?_
                    refine lv_goto (tgt := 80) hx hb dX3_shelvesOf_76 (by decide) ?_
                    refine lv_iadd hx hb dX3_shelvesOf_80 ?_
                    refine lv_istore_n (i := 3) (lv' := [(3, .int (x3_5 + (1 : Int32))), (0, .ref (b 0)), (1, .int p1), (2, .int p2), (4, .int x4_5)]) hx hb dX3_shelvesOf_81 rfl hl (by decide) rfl (fun ls hl => ?_)
                    refine lv_iinc (v := (x4_5 + (1 : Int32))) (lv' := [(4, .int (x4_5 + (1 : Int32))), (3, .int (x3_5 + (1 : Int32))), (0, .ref (b 0)), (1, .int p1), (2, .int p2)]) hx hb dX3_shelvesOf_82 hl (k := 4) rfl rfl (by decide) rfl (fun ls hl => ?_)
                    refine lv_goto (tgt := 5) hx hb dX3_shelvesOf_85 (by decide) ?_
                    exact ih (x3_5 + (1 : Int32)) (x4_5 + (1 : Int32))  ls (lv_sub hl [2, 3, 4, 1, 0] rfl) h
              · have h := o_f' h q
                refine lv_aload_n hx hb dX3_shelvesOf_50 rfl (lv_at hl 0 rfl) ?_
                refine lv_iload hx hb dX3_shelvesOf_51 (lv_at hl 4 rfl) ?_
                refine lv_iload_n hx hb dX3_shelvesOf_53 rfl (lv_at hl 1 rfl) ?_
                obtain ⟨v54, e54, h⟩ := o_bind h
                refine ro_calli (ro_runV (As := [.int x4_5, .int p1]) (rest := [.int x3_5]) ⟨hx, hb, hml, hown, hts⟩ hP hK (c_X3_isUsed l D c5 b m x4_5 p1 v54 e54) gG_RX3_64 (va_recv hK hP (ci := 3) (q0 := 0) rfl (MW_0 c5 b m)) hd_X3_isUsed ⟨Nat.le_of_ble_eq_true rfl, Nat.le_of_ble_eq_true rfl⟩ ⟨rfl, rfl⟩ hl.1 (Nat.le_of_ble_eq_true rfl) dX3_shelvesOf_54 ⟨Nat.zero_le _, Nat.zero_le _⟩ rfl) ?_
                refine lv_if_ne (tgt := 75) hx hb dX3_shelvesOf_57 (by decide) (fun q => ?_) (fun q => ?_)
                · have h := o_t' h q
                  refine lv_iconst (v := (1 : Int32)) hx hb dX3_shelvesOf_75 (by decide) ?_
                  refine lv_goto (tgt := 80) hx hb dX3_shelvesOf_76 (by decide) ?_
                  refine lv_iadd hx hb dX3_shelvesOf_80 ?_
                  refine lv_istore_n (i := 3) (lv' := [(3, .int (x3_5 + (1 : Int32))), (0, .ref (b 0)), (1, .int p1), (2, .int p2), (4, .int x4_5)]) hx hb dX3_shelvesOf_81 rfl hl (by decide) rfl (fun ls hl => ?_)
                  refine lv_iinc (v := (x4_5 + (1 : Int32))) (lv' := [(4, .int (x4_5 + (1 : Int32))), (3, .int (x3_5 + (1 : Int32))), (0, .ref (b 0)), (1, .int p1), (2, .int p2)]) hx hb dX3_shelvesOf_82 hl (k := 4) rfl rfl (by decide) rfl (fun ls hl => ?_)
                  refine lv_goto (tgt := 5) hx hb dX3_shelvesOf_85 (by decide) ?_
                  exact ih (x3_5 + (1 : Int32)) (x4_5 + (1 : Int32))  ls (lv_sub hl [2, 3, 4, 1, 0] rfl) h
                · have h := o_f' h q
                  refine lv_iload_n hx hb dX3_shelvesOf_60 rfl (lv_at hl 2 rfl) ?_
                  refine lv_iconst (v := (3 : Int32)) hx hb dX3_shelvesOf_61 (by decide) ?_
                  refine lv_icmp_ne (tgt := 79) hx hb dX3_shelvesOf_62 (by decide) (fun q => ?_) (fun q => ?_)
                  · have h := o_t' h q
                    refine lv_iconst (v := (0 : Int32)) hx hb dX3_shelvesOf_79 (by decide) ?_
                    refine lv_iadd hx hb dX3_shelvesOf_80 ?_
                    refine lv_istore_n (i := 3) (lv' := [(3, .int (x3_5 + (0 : Int32))), (0, .ref (b 0)), (1, .int p1), (2, .int p2), (4, .int x4_5)]) hx hb dX3_shelvesOf_81 rfl hl (by decide) rfl (fun ls hl => ?_)
                    refine lv_iinc (v := (x4_5 + (1 : Int32))) (lv' := [(4, .int (x4_5 + (1 : Int32))), (3, .int (x3_5 + (0 : Int32))), (0, .ref (b 0)), (1, .int p1), (2, .int p2)]) hx hb dX3_shelvesOf_82 hl (k := 4) rfl rfl (by decide) rfl (fun ls hl => ?_)
                    refine lv_goto (tgt := 5) hx hb dX3_shelvesOf_85 (by decide) ?_
                    exact ih (x3_5 + (0 : Int32)) (x4_5 + (1 : Int32))  ls (lv_sub hl [2, 3, 4, 1, 0] rfl) h
                  · have h := o_f' h q
                    refine lv_aload_n hx hb dX3_shelvesOf_65 rfl (lv_at hl 0 rfl) ?_
                    refine va_get (D := D) (ci := 3) (v := .ref (b 5)) (C := RX3) (T := TX3) (N := 14) hx hb hts iX3 hown hK hP 0 (MW_0 c5 b m) rfl 10 (by decide) (hts _ wT3_38) (fun _ h9 => h9) rfl dX3_shelvesOf_66 ?_
                    refine lv_iload hx hb dX3_shelvesOf_69 (lv_at hl 4 rfl) ?_
                    obtain ⟨g71, h⟩ := o_if h
                    refine va_iald hx hb hK hP 5 3 (MW_5 c5 b m) rfl (inb_in g71) dX3_shelvesOf_71 ?_
                    refine lv_if_ne (tgt := 79) hx hb dX3_shelvesOf_72 (by decide) (fun q => ?_) (fun q => ?_)
                    · have h := o_t' h q
                      refine lv_iconst (v := (0 : Int32)) hx hb dX3_shelvesOf_79 (by decide) ?_
                      refine lv_iadd hx hb dX3_shelvesOf_80 ?_
                      refine lv_istore_n (i := 3) (lv' := [(3, .int (x3_5 + (0 : Int32))), (0, .ref (b 0)), (1, .int p1), (2, .int p2), (4, .int x4_5)]) hx hb dX3_shelvesOf_81 rfl hl (by decide) rfl (fun ls hl => ?_)
                      refine lv_iinc (v := (x4_5 + (1 : Int32))) (lv' := [(4, .int (x4_5 + (1 : Int32))), (3, .int (x3_5 + (0 : Int32))), (0, .ref (b 0)), (1, .int p1), (2, .int p2)]) hx hb dX3_shelvesOf_82 hl (k := 4) rfl rfl (by decide) rfl (fun ls hl => ?_)
                      refine lv_goto (tgt := 5) hx hb dX3_shelvesOf_85 (by decide) ?_
                      exact ih (x3_5 + (0 : Int32)) (x4_5 + (1 : Int32))  ls (lv_sub hl [2, 3, 4, 1, 0] rfl) h
                    · have h := o_f' h q
                      refine lv_iconst (v := (1 : Int32)) hx hb dX3_shelvesOf_75 (by decide) ?_
                      refine lv_goto (tgt := 80) hx hb dX3_shelvesOf_76 (by decide) ?_
                      refine lv_iadd hx hb dX3_shelvesOf_80 ?_
                      refine lv_istore_n (i := 3) (lv' := [(3, .int (x3_5 + (1 : Int32))), (0, .ref (b 0)), (1, .int p1), (2, .int p2), (4, .int x4_5)]) hx hb dX3_shelvesOf_81 rfl hl (by decide) rfl (fun ls hl => ?_)
                      refine lv_iinc (v := (x4_5 + (1 : Int32))) (lv' := [(4, .int (x4_5 + (1 : Int32))), (3, .int (x3_5 + (1 : Int32))), (0, .ref (b 0)), (1, .int p1), (2, .int p2)]) hx hb dX3_shelvesOf_82 hl (k := 4) rfl rfl (by decide) rfl (fun ls hl => ?_)
                      refine lv_goto (tgt := 5) hx hb dX3_shelvesOf_85 (by decide) ?_
                      exact ih (x3_5 + (1 : Int32)) (x4_5 + (1 : Int32))  ls (lv_sub hl [2, 3, 4, 1, 0] rfl) h
            · have h := o_f' h q
              refine lv_aload_n hx hb dX3_shelvesOf_36 rfl (lv_at hl 0 rfl) ?_
              refine lv_iload hx hb dX3_shelvesOf_37 (lv_at hl 4 rfl) ?_
              obtain ⟨v39, e39, h⟩ := o_bind h
              refine ro_calli (ro_runV (As := [.int x4_5]) (rest := [.int x3_5]) ⟨hx, hb, hml, hown, hts⟩ hP hK (c_X3_isFull l D c5 b m x4_5 v39 e39) gG_RX3_57 (va_recv hK hP (ci := 3) (q0 := 0) rfl (MW_0 c5 b m)) hd_X3_isFull ⟨Nat.le_of_ble_eq_true rfl, Nat.le_of_ble_eq_true rfl⟩ ⟨rfl, rfl⟩ hl.1 (Nat.le_of_ble_eq_true rfl) dX3_shelvesOf_39 ⟨Nat.zero_le _, Nat.zero_le _⟩ rfl) ?_
              refine lv_if_ne (tgt := 75) hx hb dX3_shelvesOf_42 (by decide) (fun q => ?_) (fun q => ?_)
              · have h := o_t' h q
                refine lv_iconst (v := (1 : Int32)) hx hb dX3_shelvesOf_75 (by decide) ?_
                refine lv_goto (tgt := 80) hx hb dX3_shelvesOf_76 (by decide) ?_
                refine lv_iadd hx hb dX3_shelvesOf_80 ?_
                refine lv_istore_n (i := 3) (lv' := [(3, .int (x3_5 + (1 : Int32))), (0, .ref (b 0)), (1, .int p1), (2, .int p2), (4, .int x4_5)]) hx hb dX3_shelvesOf_81 rfl hl (by decide) rfl (fun ls hl => ?_)
                refine lv_iinc (v := (x4_5 + (1 : Int32))) (lv' := [(4, .int (x4_5 + (1 : Int32))), (3, .int (x3_5 + (1 : Int32))), (0, .ref (b 0)), (1, .int p1), (2, .int p2)]) hx hb dX3_shelvesOf_82 hl (k := 4) rfl rfl (by decide) rfl (fun ls hl => ?_)
                refine lv_goto (tgt := 5) hx hb dX3_shelvesOf_85 (by decide) ?_
                exact ih (x3_5 + (1 : Int32)) (x4_5 + (1 : Int32))  ls (lv_sub hl [2, 3, 4, 1, 0] rfl) h
              · have h := o_f' h q
                refine lv_iload_n hx hb dX3_shelvesOf_45 rfl (lv_at hl 2 rfl) ?_
                refine lv_iconst (v := (2 : Int32)) hx hb dX3_shelvesOf_46 (by decide) ?_
                refine lv_icmp_ne (tgt := 60) hx hb dX3_shelvesOf_47 (by decide) (fun q => ?_) (fun q => ?_)
                · have h := o_t' h q
                  refine lv_iload_n hx hb dX3_shelvesOf_60 rfl (lv_at hl 2 rfl) ?_
                  refine lv_iconst (v := (3 : Int32)) hx hb dX3_shelvesOf_61 (by decide) ?_
                  refine lv_icmp_ne (tgt := 79) hx hb dX3_shelvesOf_62 (by decide) (fun q => ?_) (fun q => ?_)
                  · have h := o_t' h q
                    refine lv_iconst (v := (0 : Int32)) hx hb dX3_shelvesOf_79 (by decide) ?_
                    refine lv_iadd hx hb dX3_shelvesOf_80 ?_
                    refine lv_istore_n (i := 3) (lv' := [(3, .int (x3_5 + (0 : Int32))), (0, .ref (b 0)), (1, .int p1), (2, .int p2), (4, .int x4_5)]) hx hb dX3_shelvesOf_81 rfl hl (by decide) rfl (fun ls hl => ?_)
                    refine lv_iinc (v := (x4_5 + (1 : Int32))) (lv' := [(4, .int (x4_5 + (1 : Int32))), (3, .int (x3_5 + (0 : Int32))), (0, .ref (b 0)), (1, .int p1), (2, .int p2)]) hx hb dX3_shelvesOf_82 hl (k := 4) rfl rfl (by decide) rfl (fun ls hl => ?_)
                    refine lv_goto (tgt := 5) hx hb dX3_shelvesOf_85 (by decide) ?_
                    exact ih (x3_5 + (0 : Int32)) (x4_5 + (1 : Int32))  ls (lv_sub hl [2, 3, 4, 1, 0] rfl) h
                  · have h := o_f' h q
                    refine lv_aload_n hx hb dX3_shelvesOf_65 rfl (lv_at hl 0 rfl) ?_
                    refine va_get (D := D) (ci := 3) (v := .ref (b 5)) (C := RX3) (T := TX3) (N := 14) hx hb hts iX3 hown hK hP 0 (MW_0 c5 b m) rfl 10 (by decide) (hts _ wT3_38) (fun _ h9 => h9) rfl dX3_shelvesOf_66 ?_
                    refine lv_iload hx hb dX3_shelvesOf_69 (lv_at hl 4 rfl) ?_
                    obtain ⟨g71, h⟩ := o_if h
                    refine va_iald hx hb hK hP 5 3 (MW_5 c5 b m) rfl (inb_in g71) dX3_shelvesOf_71 ?_
                    refine lv_if_ne (tgt := 79) hx hb dX3_shelvesOf_72 (by decide) (fun q => ?_) (fun q => ?_)
                    · have h := o_t' h q
                      refine lv_iconst (v := (0 : Int32)) hx hb dX3_shelvesOf_79 (by decide) ?_
                      refine lv_iadd hx hb dX3_shelvesOf_80 ?_
                      refine lv_istore_n (i := 3) (lv' := [(3, .int (x3_5 + (0 : Int32))), (0, .ref (b 0)), (1, .int p1), (2, .int p2), (4, .int x4_5)]) hx hb dX3_shelvesOf_81 rfl hl (by decide) rfl (fun ls hl => ?_)
                      refine lv_iinc (v := (x4_5 + (1 : Int32))) (lv' := [(4, .int (x4_5 + (1 : Int32))), (3, .int (x3_5 + (0 : Int32))), (0, .ref (b 0)), (1, .int p1), (2, .int p2)]) hx hb dX3_shelvesOf_82 hl (k := 4) rfl rfl (by decide) rfl (fun ls hl => ?_)
                      refine lv_goto (tgt := 5) hx hb dX3_shelvesOf_85 (by decide) ?_
                      exact ih (x3_5 + (0 : Int32)) (x4_5 + (1 : Int32))  ls (lv_sub hl [2, 3, 4, 1, 0] rfl) h
                    · have h := o_f' h q
                      refine lv_iconst (v := (1 : Int32)) hx hb dX3_shelvesOf_75 (by decide) ?_
                      refine lv_goto (tgt := 80) hx hb dX3_shelvesOf_76 (by decide) ?_
                      refine lv_iadd hx hb dX3_shelvesOf_80 ?_
                      refine lv_istore_n (i := 3) (lv' := [(3, .int (x3_5 + (1 : Int32))), (0, .ref (b 0)), (1, .int p1), (2, .int p2), (4, .int x4_5)]) hx hb dX3_shelvesOf_81 rfl hl (by decide) rfl (fun ls hl => ?_)
                      refine lv_iinc (v := (x4_5 + (1 : Int32))) (lv' := [(4, .int (x4_5 + (1 : Int32))), (3, .int (x3_5 + (1 : Int32))), (0, .ref (b 0)), (1, .int p1), (2, .int p2)]) hx hb dX3_shelvesOf_82 hl (k := 4) rfl rfl (by decide) rfl (fun ls hl => ?_)
                      refine lv_goto (tgt := 5) hx hb dX3_shelvesOf_85 (by decide) ?_
                      exact ih (x3_5 + (1 : Int32)) (x4_5 + (1 : Int32))  ls (lv_sub hl [2, 3, 4, 1, 0] rfl) h
                · have h := o_f' h q
                  refine lv_aload_n hx hb dX3_shelvesOf_50 rfl (lv_at hl 0 rfl) ?_
                  refine lv_iload hx hb dX3_shelvesOf_51 (lv_at hl 4 rfl) ?_
                  refine lv_iload_n hx hb dX3_shelvesOf_53 rfl (lv_at hl 1 rfl) ?_
                  obtain ⟨v54, e54, h⟩ := o_bind h
                  refine ro_calli (ro_runV (As := [.int x4_5, .int p1]) (rest := [.int x3_5]) ⟨hx, hb, hml, hown, hts⟩ hP hK (c_X3_isUsed l D c5 b m x4_5 p1 v54 e54) gG_RX3_64 (va_recv hK hP (ci := 3) (q0 := 0) rfl (MW_0 c5 b m)) hd_X3_isUsed ⟨Nat.le_of_ble_eq_true rfl, Nat.le_of_ble_eq_true rfl⟩ ⟨rfl, rfl⟩ hl.1 (Nat.le_of_ble_eq_true rfl) dX3_shelvesOf_54 ⟨Nat.zero_le _, Nat.zero_le _⟩ rfl) ?_
                  refine lv_if_ne (tgt := 75) hx hb dX3_shelvesOf_57 (by decide) (fun q => ?_) (fun q => ?_)
                  · have h := o_t' h q
                    refine lv_iconst (v := (1 : Int32)) hx hb dX3_shelvesOf_75 (by decide) ?_
                    refine lv_goto (tgt := 80) hx hb dX3_shelvesOf_76 (by decide) ?_
                    refine lv_iadd hx hb dX3_shelvesOf_80 ?_
                    refine lv_istore_n (i := 3) (lv' := [(3, .int (x3_5 + (1 : Int32))), (0, .ref (b 0)), (1, .int p1), (2, .int p2), (4, .int x4_5)]) hx hb dX3_shelvesOf_81 rfl hl (by decide) rfl (fun ls hl => ?_)
                    refine lv_iinc (v := (x4_5 + (1 : Int32))) (lv' := [(4, .int (x4_5 + (1 : Int32))), (3, .int (x3_5 + (1 : Int32))), (0, .ref (b 0)), (1, .int p1), (2, .int p2)]) hx hb dX3_shelvesOf_82 hl (k := 4) rfl rfl (by decide) rfl (fun ls hl => ?_)
                    refine lv_goto (tgt := 5) hx hb dX3_shelvesOf_85 (by decide) ?_
                    exact ih (x3_5 + (1 : Int32)) (x4_5 + (1 : Int32))  ls (lv_sub hl [2, 3, 4, 1, 0] rfl) h
                  · have h := o_f' h q
                    refine lv_iload_n hx hb dX3_shelvesOf_60 rfl (lv_at hl 2 rfl) ?_
                    refine lv_iconst (v := (3 : Int32)) hx hb dX3_shelvesOf_61 (by decide) ?_
                    refine lv_icmp_ne (tgt := 79) hx hb dX3_shelvesOf_62 (by decide) (fun q => ?_) (fun q => ?_)
                    · have h := o_t' h q
                      refine lv_iconst (v := (0 : Int32)) hx hb dX3_shelvesOf_79 (by decide) ?_
                      refine lv_iadd hx hb dX3_shelvesOf_80 ?_
                      refine lv_istore_n (i := 3) (lv' := [(3, .int (x3_5 + (0 : Int32))), (0, .ref (b 0)), (1, .int p1), (2, .int p2), (4, .int x4_5)]) hx hb dX3_shelvesOf_81 rfl hl (by decide) rfl (fun ls hl => ?_)
                      refine lv_iinc (v := (x4_5 + (1 : Int32))) (lv' := [(4, .int (x4_5 + (1 : Int32))), (3, .int (x3_5 + (0 : Int32))), (0, .ref (b 0)), (1, .int p1), (2, .int p2)]) hx hb dX3_shelvesOf_82 hl (k := 4) rfl rfl (by decide) rfl (fun ls hl => ?_)
                      refine lv_goto (tgt := 5) hx hb dX3_shelvesOf_85 (by decide) ?_
                      exact ih (x3_5 + (0 : Int32)) (x4_5 + (1 : Int32))  ls (lv_sub hl [2, 3, 4, 1, 0] rfl) h
                    · have h := o_f' h q
                      refine lv_aload_n hx hb dX3_shelvesOf_65 rfl (lv_at hl 0 rfl) ?_
                      refine va_get (D := D) (ci := 3) (v := .ref (b 5)) (C := RX3) (T := TX3) (N := 14) hx hb hts iX3 hown hK hP 0 (MW_0 c5 b m) rfl 10 (by decide) (hts _ wT3_38) (fun _ h9 => h9) rfl dX3_shelvesOf_66 ?_
                      refine lv_iload hx hb dX3_shelvesOf_69 (lv_at hl 4 rfl) ?_
                      obtain ⟨g71, h⟩ := o_if h
                      refine va_iald hx hb hK hP 5 3 (MW_5 c5 b m) rfl (inb_in g71) dX3_shelvesOf_71 ?_
                      refine lv_if_ne (tgt := 79) hx hb dX3_shelvesOf_72 (by decide) (fun q => ?_) (fun q => ?_)
                      · have h := o_t' h q
                        refine lv_iconst (v := (0 : Int32)) hx hb dX3_shelvesOf_79 (by decide) ?_
                        refine lv_iadd hx hb dX3_shelvesOf_80 ?_
                        refine lv_istore_n (i := 3) (lv' := [(3, .int (x3_5 + (0 : Int32))), (0, .ref (b 0)), (1, .int p1), (2, .int p2), (4, .int x4_5)]) hx hb dX3_shelvesOf_81 rfl hl (by decide) rfl (fun ls hl => ?_)
                        refine lv_iinc (v := (x4_5 + (1 : Int32))) (lv' := [(4, .int (x4_5 + (1 : Int32))), (3, .int (x3_5 + (0 : Int32))), (0, .ref (b 0)), (1, .int p1), (2, .int p2)]) hx hb dX3_shelvesOf_82 hl (k := 4) rfl rfl (by decide) rfl (fun ls hl => ?_)
                        refine lv_goto (tgt := 5) hx hb dX3_shelvesOf_85 (by decide) ?_
                        exact ih (x3_5 + (0 : Int32)) (x4_5 + (1 : Int32))  ls (lv_sub hl [2, 3, 4, 1, 0] rfl) h
                      · have h := o_f' h q
                        refine lv_iconst (v := (1 : Int32)) hx hb dX3_shelvesOf_75 (by decide) ?_
                        refine lv_goto (tgt := 80) hx hb dX3_shelvesOf_76 (by decide) ?_
                        refine lv_iadd hx hb dX3_shelvesOf_80 ?_
                        refine lv_istore_n (i := 3) (lv' := [(3, .int (x3_5 + (1 : Int32))), (0, .ref (b 0)), (1, .int p1), (2, .int p2), (4, .int x4_5)]) hx hb dX3_shelvesOf_81 rfl hl (by decide) rfl (fun ls hl => ?_)
                        refine lv_iinc (v := (x4_5 + (1 : Int32))) (lv' := [(4, .int (x4_5 + (1 : Int32))), (3, .int (x3_5 + (1 : Int32))), (0, .ref (b 0)), (1, .int p1), (2, .int p2)]) hx hb dX3_shelvesOf_82 hl (k := 4) rfl rfl (by decide) rfl (fun ls hl => ?_)
                        refine lv_goto (tgt := 5) hx hb dX3_shelvesOf_85 (by decide) ?_
                        exact ih (x3_5 + (1 : Int32)) (x4_5 + (1 : Int32))  ls (lv_sub hl [2, 3, 4, 1, 0] rfl) h
        · have h := o_f h q
          refine lv_goto (tgt := 82) hx hb dX3_shelvesOf_23 (by decide) ?_
          refine lv_iinc (v := (x4_5 + (1 : Int32))) (lv' := [(4, .int (x4_5 + (1 : Int32))), (0, .ref (b 0)), (1, .int p1), (2, .int p2), (3, .int x3_5)]) hx hb dX3_shelvesOf_82 hl (k := 4) rfl rfl (by decide) rfl (fun ls hl => ?_)
          refine lv_goto (tgt := 5) hx hb dX3_shelvesOf_85 (by decide) ?_
          exact ih x3_5 (x4_5 + (1 : Int32))  ls (lv_sub hl [1, 2, 3, 4, 0] rfl) h
  exact L5 FU (0 : Int32) (0 : Int32)  ls (lv_sub hl [2, 3, 4, 1, 0] rfl) h
set_option maxHeartbeats 4000000 in
set_option maxRecDepth 100000 in
theorem c_X3_gained (l : Launch) (D : va_G) (c5 : Nat → ClassId) (b : Nat → Nat) (m : MSt) (sz : Nat) (p1 : Int32) (r : Int32 × MSt) (h : R_X3_gained m p1 = some r) : Met l yX3_gained (ws_ yX3_gained cX3_gained 4 (some .int)) { frames := 6, cells := 0, slots := 0, locals := 132 } (va_Pc [.ref (b 0), .int p1] (rwB D (tyG c5) (MW c5 b m) sz)) (va_Qi (fun x u => x = r.1 ∧ u = r.2) (rwE D (tyG c5) (va_A (MW c5 b m) sz) (fun u => MW c5 b u)) (va_A (MW c5 b m) sz)) 0 0 (va_A (MW c5 b m) sz) := by
  refine Met.ofW (cc := cX3_gained) (maxL := 4) (ret := (some .int)) (by decide) rfl ?_
  intro p e s m9 args below meth c s₁ B hml hv
  obtain ⟨rfl, hsz, hP, hK, hD0⟩ := hv
  have hx := B.exec
  have hb := B.bytes
  have hr := B.returns
  have hts : ∀ w ∈ LA, w.before _ s = true := fun w hw => atoms_spec (ws := ws_ yX3_gained cX3_gained 4 (some .int)) B.pre w (List.mem_cons_of_mem _ hw)
  have hown : s.vm.findClass RX3 = some m9.cls := findClass_of_methodNamed B.named
  have hlocks := B.notSynchronized
  subst hsz
  have hD := hD0.self (sz := s.heap.size)
  generalize hAe : va_A (MW c5 b m) s.heap.size = A at hD ⊢
  have hA : ∀ q : Nat, s.heap.size ≤ q → A q := fun q h => by rw [← hAe]; exact Or.inr h
  have hS : va_S A s.heap s.heap [] := va_S.rf
  have hl := lv_entry ([.ref (b 0), .int p1] : List Value) (n := 4) (Nat.le_of_ble_eq_true rfl)
  rw [lg_entry_eq]
  generalize (lg_sl ([.ref (b 0), .int p1] : List Value) ++ List.replicate (4 - (lg_sl ([.ref (b 0), .int p1] : List Value)).length) Slot.unset).toArray = ls at hl ⊢
  have hl : lv_has ls 4 [(0, .ref (b 0)), (1, .int p1)] := hl
  unfold R_X3_gained at h
  refine lv_aload_n hx hb dX3_gained_0 rfl (lv_at hl 0 rfl) ?_
  refine va_get (D := D) (ci := 3) (v := .ref (b 5)) (C := RX3) (T := TX3) (N := 14) hx hb hts iX3 hown hK hP 0 (MW_0 c5 b m) rfl 10 (by decide) (hts _ wT3_38) (fun _ h9 => h9) rfl dX3_gained_1 ?_
  refine lv_iconst (v := (0 : Int32)) hx hb dX3_gained_4 (by decide) ?_
  refine lv_aload_n hx hb dX3_gained_5 rfl (lv_at hl 0 rfl) ?_
  refine va_get (D := D) (ci := 3) (v := .ref (b 7)) (C := RX3) (T := TX3) (N := 14) hx hb hts iX3 hown hK hP 0 (MW_0 c5 b m) rfl 12 (by decide) (hts _ wT3_40) (fun _ h9 => h9) rfl dX3_gained_6 ?_
  refine lv_iconst (v := (0 : Int32)) hx hb dX3_gained_9 (by decide) ?_
  refine lv_bipush (v := (12 : Int32)) hx hb dX3_gained_10 (by decide) ?_
  refine acopy hx hb hml hl.1 hown hts hK hP hD hS 5 7 (MW_5 c5 b m) (MW_7 c5 b m) dX3_gained_12 ⟨Nat.le_of_ble_eq_true rfl, Nat.le_of_ble_eq_true rfl⟩ (fun H locs hP hD hS => ?_)
  have hP := wP (MW_set7 c5 b m _) hP
  have hD := wD (MW_set7 c5 b m _) hD
  refine lv_aload_n hx hb dX3_gained_15 rfl (lv_at hl 0 rfl) ?_
  refine va_get (D := D) (ci := 3) (v := .ref (b 6)) (C := RX3) (T := TX3) (N := 14) hx hb hts iX3 hown hK hP 0 (MW_0 c5 b (mAs m 6 (va_cpy (mA m 4) (mA m 6) 0 0 12))) rfl 11 (by decide) (hts _ wT3_39) (fun _ h9 => h9) rfl dX3_gained_16 ?_
  refine lv_iconst (v := (0 : Int32)) hx hb dX3_gained_19 (by decide) ?_
  refine lv_aload_n hx hb dX3_gained_20 rfl (lv_at hl 0 rfl) ?_
  refine va_get (D := D) (ci := 3) (v := .ref (b 8)) (C := RX3) (T := TX3) (N := 14) hx hb hts iX3 hown hK hP 0 (MW_0 c5 b (mAs m 6 (va_cpy (mA m 4) (mA m 6) 0 0 12))) rfl 13 (by decide) (hts _ wT3_41) (fun _ h9 => h9) rfl dX3_gained_21 ?_
  refine lv_iconst (v := (0 : Int32)) hx hb dX3_gained_24 (by decide) ?_
  refine lv_bipush (v := (12 : Int32)) hx hb dX3_gained_25 (by decide) ?_
  refine acopy hx hb hml hl.1 hown hts hK hP hD hS 6 8 (MW_6 c5 b (mAs m 6 (va_cpy (mA m 4) (mA m 6) 0 0 12))) (MW_8 c5 b (mAs m 6 (va_cpy (mA m 4) (mA m 6) 0 0 12))) dX3_gained_27 ⟨Nat.le_of_ble_eq_true rfl, Nat.le_of_ble_eq_true rfl⟩ (fun H locs hP hD hS => ?_)
  have hP := wP (MW_set8 c5 b (mAs m 6 (va_cpy (mA m 4) (mA m 6) 0 0 12)) _) hP
  have hD := wD (MW_set8 c5 b (mAs m 6 (va_cpy (mA m 4) (mA m 6) 0 0 12)) _) hD
  refine lv_aload_n hx hb dX3_gained_30 rfl (lv_at hl 0 rfl) ?_
  refine lv_iload_n hx hb dX3_gained_31 rfl (lv_at hl 1 rfl) ?_
  refine lv_iconst (v := (3 : Int32)) hx hb dX3_gained_32 (by decide) ?_
  obtain ⟨v33, e33, h⟩ := o_bind h
  refine ro_calli (ro_runV (As := [.int p1, .int (3 : Int32)]) (rest := []) ⟨hx, hb, hml, hown, hts⟩ hP hK (c_X3_shelvesOf l D c5 b (mAs (mAs m 6 (va_cpy (mA m 4) (mA m 6) 0 0 12)) 7 (va_cpy (mA (mAs m 6 (va_cpy (mA m 4) (mA m 6) 0 0 12)) 5) (mA (mAs m 6 (va_cpy (mA m 4) (mA m 6) 0 0 12)) 7) 0 0 12)) p1 (3 : Int32) v33 e33) gG_RX3_121 (va_recv hK hP (ci := 3) (q0 := 0) rfl (MW_0 c5 b (mAs (mAs m 6 (va_cpy (mA m 4) (mA m 6) 0 0 12)) 7 (va_cpy (mA (mAs m 6 (va_cpy (mA m 4) (mA m 6) 0 0 12)) 5) (mA (mAs m 6 (va_cpy (mA m 4) (mA m 6) 0 0 12)) 7) 0 0 12)))) hd_X3_shelvesOf ⟨Nat.le_of_ble_eq_true rfl, Nat.le_of_ble_eq_true rfl⟩ ⟨rfl, rfl⟩ hl.1 (Nat.le_of_ble_eq_true rfl) dX3_gained_33 ⟨Nat.zero_le _, Nat.zero_le _⟩ rfl) ?_
  refine lv_istore_n (i := 2) (lv' := [(2, .int v33), (0, .ref (b 0)), (1, .int p1)]) hx hb dX3_gained_36 rfl hl (by decide) rfl (fun ls hl => ?_)
  refine lv_aload_n hx hb dX3_gained_37 rfl (lv_at hl 1 rfl) ?_
  refine lv_iload_n hx hb dX3_gained_38 rfl (lv_at hl 2 rfl) ?_
  obtain ⟨v39, e39, h⟩ := o_bind h
  refine rw_calli (rw_runV (As := [.int p1]) (rest := []) ⟨hx, hb, hml, hown, hts⟩ hP hK hD (c_X3_packed l D c5 b (mAs (mAs m 6 (va_cpy (mA m 4) (mA m 6) 0 0 12)) 7 (va_cpy (mA (mAs m 6 (va_cpy (mA m 4) (mA m 6) 0 0 12)) 5) (mA (mAs m 6 (va_cpy (mA m 4) (mA m 6) 0 0 12)) 7) 0 0 12)) H.size p1 v39 e39) gG_RX3_124 (va_recv hK hP (ci := 3) (q0 := 0) rfl (MW_0 c5 b (mAs (mAs m 6 (va_cpy (mA m 4) (mA m 6) 0 0 12)) 7 (va_cpy (mA (mAs m 6 (va_cpy (mA m 4) (mA m 6) 0 0 12)) 5) (mA (mAs m 6 (va_cpy (mA m 4) (mA m 6) 0 0 12)) 7) 0 0 12)))) hd_X3_packed ⟨Nat.le_of_ble_eq_true rfl, Nat.le_of_ble_eq_true rfl⟩ ⟨rfl, rfl⟩ hl.1 (Nat.le_of_ble_eq_true rfl) dX3_gained_39 ⟨Nat.le_of_ble_eq_true rfl, Nat.le_of_ble_eq_true rfl⟩ rfl) hD hS hA (fun H locs hP hD hS => ?_)
  refine lv_pop hx hb dX3_gained_42 rfl ?_
  refine lv_aload_n hx hb dX3_gained_43 rfl (lv_at hl 1 rfl) ?_
  refine lv_iload_n hx hb dX3_gained_44 rfl (lv_at hl 2 rfl) ?_
  refine lv_iconst (v := (3 : Int32)) hx hb dX3_gained_45 (by decide) ?_
  obtain ⟨v46, e46, h⟩ := o_bind h
  refine ro_calli (ro_runV (As := [.int p1, .int (3 : Int32)]) (rest := []) ⟨hx, hb, hml, hown, hts⟩ hP hK (c_X3_shelvesOf l D c5 b v39.2 p1 (3 : Int32) v46 e46) gG_RX3_121 (va_recv hK hP (ci := 3) (q0 := 0) rfl (MW_0 c5 b v39.2)) hd_X3_shelvesOf ⟨Nat.le_of_ble_eq_true rfl, Nat.le_of_ble_eq_true rfl⟩ ⟨rfl, rfl⟩ hl.1 (Nat.le_of_ble_eq_true rfl) dX3_gained_46 ⟨Nat.zero_le _, Nat.zero_le _⟩ rfl) ?_
  refine lv_iload_n hx hb dX3_gained_49 rfl (lv_at hl 0 rfl) ?_
  refine lv_isub hx hb dX3_gained_50 ?_
  refine lv_istore_n (i := 3) (lv' := [(3, .int (v46 - v33)), (2, .int v33), (0, .ref (b 0)), (1, .int p1)]) hx hb dX3_gained_51 rfl hl (by decide) rfl (fun ls hl => ?_)
  refine lv_aload_n hx hb dX3_gained_52 rfl (lv_at hl 2 rfl) ?_
  refine va_get (D := D) (ci := 3) (v := .ref (b 7)) (C := RX3) (T := TX3) (N := 14) hx hb hts iX3 hown hK hP 0 (MW_0 c5 b v39.2) rfl 12 (by decide) (hts _ wT3_40) (fun _ h9 => h9) rfl dX3_gained_53 ?_
  refine lv_iconst (v := (0 : Int32)) hx hb dX3_gained_56 (by decide) ?_
  refine lv_aload_n hx hb dX3_gained_57 rfl (lv_at hl 2 rfl) ?_
  refine va_get (D := D) (ci := 3) (v := .ref (b 5)) (C := RX3) (T := TX3) (N := 14) hx hb hts iX3 hown hK hP 0 (MW_0 c5 b v39.2) rfl 10 (by decide) (hts _ wT3_38) (fun _ h9 => h9) rfl dX3_gained_58 ?_
  refine lv_iconst (v := (0 : Int32)) hx hb dX3_gained_61 (by decide) ?_
  refine lv_bipush (v := (12 : Int32)) hx hb dX3_gained_62 (by decide) ?_
  refine acopy hx hb hml hl.1 hown hts hK hP hD hS 7 5 (MW_7 c5 b v39.2) (MW_5 c5 b v39.2) dX3_gained_64 ⟨Nat.le_of_ble_eq_true rfl, Nat.le_of_ble_eq_true rfl⟩ (fun H locs hP hD hS => ?_)
  have hP := wP (MW_set5 c5 b v39.2 _) hP
  have hD := wD (MW_set5 c5 b v39.2 _) hD
  refine lv_aload_n hx hb dX3_gained_67 rfl (lv_at hl 2 rfl) ?_
  refine va_get (D := D) (ci := 3) (v := .ref (b 8)) (C := RX3) (T := TX3) (N := 14) hx hb hts iX3 hown hK hP 0 (MW_0 c5 b (mAs v39.2 4 (va_cpy (mA v39.2 6) (mA v39.2 4) 0 0 12))) rfl 13 (by decide) (hts _ wT3_41) (fun _ h9 => h9) rfl dX3_gained_68 ?_
  refine lv_iconst (v := (0 : Int32)) hx hb dX3_gained_71 (by decide) ?_
  refine lv_aload_n hx hb dX3_gained_72 rfl (lv_at hl 2 rfl) ?_
  refine va_get (D := D) (ci := 3) (v := .ref (b 6)) (C := RX3) (T := TX3) (N := 14) hx hb hts iX3 hown hK hP 0 (MW_0 c5 b (mAs v39.2 4 (va_cpy (mA v39.2 6) (mA v39.2 4) 0 0 12))) rfl 11 (by decide) (hts _ wT3_39) (fun _ h9 => h9) rfl dX3_gained_73 ?_
  refine lv_iconst (v := (0 : Int32)) hx hb dX3_gained_76 (by decide) ?_
  refine lv_bipush (v := (12 : Int32)) hx hb dX3_gained_77 (by decide) ?_
  refine acopy hx hb hml hl.1 hown hts hK hP hD hS 8 6 (MW_8 c5 b (mAs v39.2 4 (va_cpy (mA v39.2 6) (mA v39.2 4) 0 0 12))) (MW_6 c5 b (mAs v39.2 4 (va_cpy (mA v39.2 6) (mA v39.2 4) 0 0 12))) dX3_gained_79 ⟨Nat.le_of_ble_eq_true rfl, Nat.le_of_ble_eq_true rfl⟩ (fun H locs hP hD hS => ?_)
  have hP := wP (MW_set6 c5 b (mAs v39.2 4 (va_cpy (mA v39.2 6) (mA v39.2 4) 0 0 12)) _) hP
  have hD := wD (MW_set6 c5 b (mAs v39.2 4 (va_cpy (mA v39.2 6) (mA v39.2 4) 0 0 12)) _) hD
  refine lv_iload_n hx hb dX3_gained_82 rfl (lv_at hl 0 rfl) ?_
  obtain rfl := (Option.some.inj h)
  exact rw_iret (wf := fun u => MW c5 b u) hx hb hr hlocks hP hK hD hS dX3_gained_83 rfl
