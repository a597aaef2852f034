set_option maxHeartbeats 4000000 in
set_option maxRecDepth 100000 in
theorem c_X3_kind (l : Launch) (D : va_G) (c5 : Nat → ClassId) (b : Nat → Nat) (m : MSt) (sz : Nat) (p1 : Int32) (r : Int32 × MSt) (h : R_X3_kind m p1 = some r) : Met l yX3_kind (ws_ yX3_kind cX3_kind 2 (some .int)) { frames := 1, cells := 0, slots := 0, locals := 22 } (va_Pc [.ref (b 0), .int p1] (rwB D (tyG c5) (MW c5 b m) sz)) (va_Qi (fun x u => x = r.1 ∧ u = r.2) (rwE D (tyG c5) (va_A (MW c5 b m) sz) (fun u => MW c5 b u)) (va_A (MW c5 b m) sz)) 0 0 (va_A (MW c5 b m) sz) := by
  refine Met.ofW (cc := cX3_kind) (maxL := 2) (ret := (some .int)) (by decide) rfl ?_
  intro p e s m9 args below meth c s₁ B hml hv
  obtain ⟨rfl, hsz, hP, hK, hD0⟩ := hv
  have hx := B.exec
  have hb := B.bytes
  have hr := B.returns
  have hts : ∀ w ∈ LA, w.before _ s = true := fun w hw => atoms_spec (ws := ws_ yX3_kind cX3_kind 2 (some .int)) B.pre w (List.mem_cons_of_mem _ hw)
  have hown : s.vm.findClass RX3 = some m9.cls := findClass_of_methodNamed B.named
  have hlocks := B.notSynchronized
  subst hsz
  have hD := hD0.self (sz := s.heap.size)
  generalize hAe : va_A (MW c5 b m) s.heap.size = A at hD ⊢
  have hA : ∀ q : Nat, s.heap.size ≤ q → A q := fun q h => by rw [← hAe]; exact Or.inr h
  have hS : va_S A s.heap s.heap [] := va_S.rf
  have hl := lv_entry ([.ref (b 0), .int p1] : List Value) (n := 2) (Nat.le_of_ble_eq_true rfl)
  rw [lg_entry_eq]
  generalize (lg_sl ([.ref (b 0), .int p1] : List Value) ++ List.replicate (2 - (lg_sl ([.ref (b 0), .int p1] : List Value)).length) Slot.unset).toArray = ls at hl ⊢
  have hl : lv_has ls 2 [(0, .ref (b 0)), (1, .int p1)] := hl
  unfold R_X3_kind at h
  refine lv_aload_n hx hb dX3_kind_0 rfl (lv_at hl 0 rfl) ?_
  refine lv_iconst (v := (0 : Int32)) hx hb dX3_kind_1 (by decide) ?_
  refine va_put (D := D) (ci := 3) (v := .int (0 : Int32)) (ty := .int) (C := RX3) (T := TX3) (N := 14) hx hb hts iX3 tyX3 tyX3_ok nmX3 hown hK hP hD hS 0 (MW_0 c5 b m) rfl 0 (by decide) (hts _ wT3_28) (fun _ h9 => h9) rfl (by decide +kernel) rfl rfl (Nat.le_of_ble_eq_true rfl) dX3_kind_2 (fun H locs hP hD hS => ?_)
  have hP := wP (MW_set0 c5 b m 0 (by decide) _) hP
  have hD := wD (MW_set0 c5 b m 0 (by decide) _) hD
  refine lv_iload_n hx hb dX3_kind_5 rfl (lv_at hl 1 rfl) ?_
  refine lv_iconst (v := (2 : Int32)) hx hb dX3_kind_6 (by decide) ?_
  refine lv_bipush (v := (12 : Int32)) hx hb dX3_kind_7 (by decide) ?_
  obtain ⟨v9, e9, h⟩ := o_bind h
  refine ro_calli (ro_runS (As := [.int p1, .int (2 : Int32), .int (12 : Int32)]) (rest := []) ⟨hx, hb, hml, hown, hts⟩ hP hK (c_X3_isIn l D (tyG c5) (MW c5 b (mFs m 0 (0 : Int32))) p1 (2 : Int32) (12 : Int32) v9 e9) gG_RX3_41 hd_X3_isIn ⟨Nat.le_of_ble_eq_true rfl, Nat.le_of_ble_eq_true rfl⟩ ⟨rfl, rfl⟩ hl.1 (Nat.le_of_ble_eq_true rfl) dX3_kind_9 ⟨Nat.zero_le _, Nat.zero_le _⟩ rfl) ?_
  refine lv_if_ne (tgt := 21) hx hb dX3_kind_12 (by decide) (fun q => ?_) (fun q => ?_)
  · have h := o_t' h q
    refine lv_aload_n hx hb dX3_kind_21 rfl (lv_at hl 0 rfl) ?_
    refine va_get (D := D) (ci := 3) (v := .int (mF (mFs m 0 (0 : Int32)) 5)) (C := RX3) (T := TX3) (N := 14) hx hb hts iX3 hown hK hP 0 (MW_0 c5 b (mFs m 0 (0 : Int32))) rfl 5 (by decide) (hts _ wT3_33) (fun _ h9 => h9) rfl dX3_kind_22 ?_
    refine lv_iconst (v := (5 : Int32)) hx hb dX3_kind_25 (by decide) ?_
    refine lv_icmp_ne (tgt := 35) hx hb dX3_kind_26 (by decide) (fun q => ?_) (fun q => ?_)
    · have h := o_t' h q
      refine lv_aload_n hx hb dX3_kind_35 rfl (lv_at hl 0 rfl) ?_
      refine va_get (D := D) (ci := 3) (v := .ref (b 1)) (C := RX3) (T := TX3) (N := 14) hx hb hts iX3 hown hK hP 0 (MW_0 c5 b (mFs m 0 (0 : Int32))) rfl 6 (by decide) (hts _ wT3_34) (fun _ h9 => h9) rfl dX3_kind_36 ?_
      refine lv_aload_n hx hb dX3_kind_39 rfl (lv_at hl 0 rfl) ?_
      refine va_get (D := D) (ci := 3) (v := .int (mF (mFs m 0 (0 : Int32)) 5)) (C := RX3) (T := TX3) (N := 14) hx hb hts iX3 hown hK hP 0 (MW_0 c5 b (mFs m 0 (0 : Int32))) rfl 5 (by decide) (hts _ wT3_33) (fun _ h9 => h9) rfl dX3_kind_40 ?_
      refine lv_iload_n hx hb dX3_kind_43 rfl (lv_at hl 1 rfl) ?_
      obtain ⟨g44, h⟩ := o_if h
      refine va_iast hx hb hK hP hD hS 1 3 (MW_1 c5 b (mFs m 0 (0 : Int32))) rfl (inb_in g44) dX3_kind_44 (fun H locs hP hD hS => ?_)
      have hP := wP (MW_set1 c5 b (mFs m 0 (0 : Int32)) _) hP
      have hD := wD (MW_set1 c5 b (mFs m 0 (0 : Int32)) _) hD
      refine lv_aload_n hx hb dX3_kind_45 rfl (lv_at hl 0 rfl) ?_
      refine lv_dup hx hb dX3_kind_46 rfl ?_
      refine va_get (D := D) (ci := 3) (v := .int (mF (mAs (mFs m 0 (0 : Int32)) 0 (upd (mA (mFs m 0 (0 : Int32)) 0) ((mF (mFs m 0 (0 : Int32)) 5).toNatClampNeg) p1)) 5)) (C := RX3) (T := TX3) (N := 14) hx hb hts iX3 hown hK hP 0 (MW_0 c5 b (mAs (mFs m 0 (0 : Int32)) 0 (upd (mA (mFs m 0 (0 : Int32)) 0) ((mF (mFs m 0 (0 : Int32)) 5).toNatClampNeg) p1))) rfl 5 (by decide) (hts _ wT3_33) (fun _ h9 => h9) rfl dX3_kind_47 ?_
      refine lv_iconst (v := (1 : Int32)) hx hb dX3_kind_50 (by decide) ?_
      refine lv_iadd hx hb dX3_kind_51 ?_
      refine va_put (D := D) (ci := 3) (v := .int ((mF (mAs (mFs m 0 (0 : Int32)) 0 (upd (mA (mFs m 0 (0 : Int32)) 0) ((mF (mFs m 0 (0 : Int32)) 5).toNatClampNeg) p1)) 5) + (1 : Int32))) (ty := .int) (C := RX3) (T := TX3) (N := 14) hx hb hts iX3 tyX3 tyX3_ok nmX3 hown hK hP hD hS 0 (MW_0 c5 b (mAs (mFs m 0 (0 : Int32)) 0 (upd (mA (mFs m 0 (0 : Int32)) 0) ((mF (mFs m 0 (0 : Int32)) 5).toNatClampNeg) p1))) rfl 5 (by decide) (hts _ wT3_33) (fun _ h9 => h9) rfl (by decide +kernel) rfl rfl (Nat.le_of_ble_eq_true rfl) dX3_kind_52 (fun H locs hP hD hS => ?_)
      have hP := wP (MW_set0 c5 b (mAs (mFs m 0 (0 : Int32)) 0 (upd (mA (mFs m 0 (0 : Int32)) 0) ((mF (mFs m 0 (0 : Int32)) 5).toNatClampNeg) p1)) 5 (by decide) _) hP
      have hD := wD (MW_set0 c5 b (mAs (mFs m 0 (0 : Int32)) 0 (upd (mA (mFs m 0 (0 : Int32)) 0) ((mF (mFs m 0 (0 : Int32)) 5).toNatClampNeg) p1)) 5 (by decide) _) hD
      refine lv_aload_n hx hb dX3_kind_55 rfl (lv_at hl 0 rfl) ?_
      refine va_get (D := D) (ci := 3) (v := .int (mF (mFs (mAs (mFs m 0 (0 : Int32)) 0 (upd (mA (mFs m 0 (0 : Int32)) 0) ((mF (mFs m 0 (0 : Int32)) 5).toNatClampNeg) p1)) 5 ((mF (mAs (mFs m 0 (0 : Int32)) 0 (upd (mA (mFs m 0 (0 : Int32)) 0) ((mF (mFs m 0 (0 : Int32)) 5).toNatClampNeg) p1)) 5) + (1 : Int32))) 5)) (C := RX3) (T := TX3) (N := 14) hx hb hts iX3 hown hK hP 0 (MW_0 c5 b (mFs (mAs (mFs m 0 (0 : Int32)) 0 (upd (mA (mFs m 0 (0 : Int32)) 0) ((mF (mFs m 0 (0 : Int32)) 5).toNatClampNeg) p1)) 5 ((mF (mAs (mFs m 0 (0 : Int32)) 0 (upd (mA (mFs m 0 (0 : Int32)) 0) ((mF (mFs m 0 (0 : Int32)) 5).toNatClampNeg) p1)) 5) + (1 : Int32)))) rfl 5 (by decide) (hts _ wT3_33) (fun _ h9 => h9) rfl dX3_kind_56 ?_
      refine lv_iconst (v := (1 : Int32)) hx hb dX3_kind_59 (by decide) ?_
      refine lv_isub hx hb dX3_kind_60 ?_
      obtain rfl := (Option.some.inj h)
      exact rw_iret (wf := fun u => MW c5 b u) hx hb hr hlocks hP hK hD hS dX3_kind_61 rfl
    · have h := o_f' h q
      refine lv_aload_n hx hb dX3_kind_29 rfl (lv_at hl 0 rfl) ?_
      refine lv_iconst (v := (2 : Int32)) hx hb dX3_kind_30 (by decide) ?_
      obtain ⟨v31, e31, h⟩ := o_bind h
      refine rw_calli (rw_runV (As := [.int (2 : Int32)]) (rest := []) ⟨hx, hb, hml, hown, hts⟩ hP hK hD (c_X3_no l D c5 b (mFs m 0 (0 : Int32)) H.size (2 : Int32) v31 e31) gG_RX3_127 (va_recv hK hP (ci := 3) (q0 := 0) rfl (MW_0 c5 b (mFs m 0 (0 : Int32)))) hd_X3_no ⟨Nat.le_of_ble_eq_true rfl, Nat.le_of_ble_eq_true rfl⟩ ⟨rfl, rfl⟩ hl.1 (Nat.le_of_ble_eq_true rfl) dX3_kind_31 ⟨Nat.le_of_ble_eq_true rfl, Nat.le_of_ble_eq_true rfl⟩ rfl) hD hS hA (fun H locs hP hD hS => ?_)
      obtain rfl := (Option.some.inj h)
      exact rw_iret (wf := fun u => MW c5 b u) hx hb hr hlocks hP hK hD hS dX3_kind_34 rfl
  · have h := o_f' h q
    refine lv_aload_n hx hb dX3_kind_15 rfl (lv_at hl 0 rfl) ?_
    refine lv_iconst (v := (1 : Int32)) hx hb dX3_kind_16 (by decide) ?_
    obtain ⟨v17, e17, h⟩ := o_bind h
    refine rw_calli (rw_runV (As := [.int (1 : Int32)]) (rest := []) ⟨hx, hb, hml, hown, hts⟩ hP hK hD (c_X3_no l D c5 b (mFs m 0 (0 : Int32)) H.size (1 : Int32) v17 e17) gG_RX3_127 (va_recv hK hP (ci := 3) (q0 := 0) rfl (MW_0 c5 b (mFs m 0 (0 : Int32)))) hd_X3_no ⟨Nat.le_of_ble_eq_true rfl, Nat.le_of_ble_eq_true rfl⟩ ⟨rfl, rfl⟩ hl.1 (Nat.le_of_ble_eq_true rfl) dX3_kind_17 ⟨Nat.le_of_ble_eq_true rfl, Nat.le_of_ble_eq_true rfl⟩ rfl) hD hS hA (fun H locs hP hD hS => ?_)
    obtain rfl := (Option.some.inj h)
    exact rw_iret (wf := fun u => MW c5 b u) hx hb hr hlocks hP hK hD hS dX3_kind_20 rfl
set_option maxHeartbeats 4000000 in
set_option maxRecDepth 100000 in
theorem c_X3_setWay (l : Launch) (D : va_G) (c5 : Nat → ClassId) (b : Nat → Nat) (m : MSt) (sz : Nat) (p1 : Int32) (r : Int32 × MSt) (h : R_X3_setWay m p1 = some r) : Met l yX3_setWay (ws_ yX3_setWay cX3_setWay 3 (some .int)) { frames := 1, cells := 0, slots := 0, locals := 22 } (va_Pc [.ref (b 0), .int p1] (rwB D (tyG c5) (MW c5 b m) sz)) (va_Qi (fun x u => x = r.1 ∧ u = r.2) (rwE D (tyG c5) (va_A (MW c5 b m) sz) (fun u => MW c5 b u)) (va_A (MW c5 b m) sz)) 0 0 (va_A (MW c5 b m) sz) := by
  refine Met.ofW (cc := cX3_setWay) (maxL := 3) (ret := (some .int)) (by decide) rfl ?_
  intro p e s m9 args below meth c s₁ B hml hv
  obtain ⟨rfl, hsz, hP, hK, hD0⟩ := hv
  have hx := B.exec
  have hb := B.bytes
  have hr := B.returns
  have hts : ∀ w ∈ LA, w.before _ s = true := fun w hw => atoms_spec (ws := ws_ yX3_setWay cX3_setWay 3 (some .int)) B.pre w (List.mem_cons_of_mem _ hw)
  have hown : s.vm.findClass RX3 = some m9.cls := findClass_of_methodNamed B.named
  have hlocks := B.notSynchronized
  subst hsz
  have hD := hD0.self (sz := s.heap.size)
  generalize hAe : va_A (MW c5 b m) s.heap.size = A at hD ⊢
  have hA : ∀ q : Nat, s.heap.size ≤ q → A q := fun q h => by rw [← hAe]; exact Or.inr h
  have hS : va_S A s.heap s.heap [] := va_S.rf
  have hl := lv_entry ([.ref (b 0), .int p1] : List Value) (n := 3) (Nat.le_of_ble_eq_true rfl)
  rw [lg_entry_eq]
  generalize (lg_sl ([.ref (b 0), .int p1] : List Value) ++ List.replicate (3 - (lg_sl ([.ref (b 0), .int p1] : List Value)).length) Slot.unset).toArray = ls at hl ⊢
  have hl : lv_has ls 3 [(0, .ref (b 0)), (1, .int p1)] := hl
  unfold R_X3_setWay at h
  refine lv_aload_n hx hb dX3_setWay_0 rfl (lv_at hl 0 rfl) ?_
  refine lv_iconst (v := (0 : Int32)) hx hb dX3_setWay_1 (by decide) ?_
  refine va_put (D := D) (ci := 3) (v := .int (0 : Int32)) (ty := .int) (C := RX3) (T := TX3) (N := 14) hx hb hts iX3 tyX3 tyX3_ok nmX3 hown hK hP hD hS 0 (MW_0 c5 b m) rfl 0 (by decide) (hts _ wT3_28) (fun _ h9 => h9) rfl (by decide +kernel) rfl rfl (Nat.le_of_ble_eq_true rfl) dX3_setWay_2 (fun H locs hP hD hS => ?_)
  have hP := wP (MW_set0 c5 b m 0 (by decide) _) hP
  have hD := wD (MW_set0 c5 b m 0 (by decide) _) hD
  refine lv_iload_n hx hb dX3_setWay_5 rfl (lv_at hl 1 rfl) ?_
  refine lv_iconst (v := (0 : Int32)) hx hb dX3_setWay_6 (by decide) ?_
  refine lv_iconst (v := (2 : Int32)) hx hb dX3_setWay_7 (by decide) ?_
  obtain ⟨v8, e8, h⟩ := o_bind h
  refine ro_calli (ro_runS (As := [.int p1, .int (0 : Int32), .int (2 : Int32)]) (rest := []) ⟨hx, hb, hml, hown, hts⟩ hP hK (c_X3_isIn l D (tyG c5) (MW c5 b (mFs m 0 (0 : Int32))) p1 (0 : Int32) (2 : Int32) v8 e8) gG_RX3_41 hd_X3_isIn ⟨Nat.le_of_ble_eq_true rfl, Nat.le_of_ble_eq_true rfl⟩ ⟨rfl, rfl⟩ hl.1 (Nat.le_of_ble_eq_true rfl) dX3_setWay_8 ⟨Nat.zero_le _, Nat.zero_le _⟩ rfl) ?_
  refine lv_if_ne (tgt := 20) hx hb dX3_setWay_11 (by decide) (fun q => ?_) (fun q => ?_)
  · have h := o_t' h q
    refine lv_aload_n hx hb dX3_setWay_20 rfl (lv_at hl 0 rfl) ?_
    refine va_get (D := D) (ci := 3) (v := .int (mF (mFs m 0 (0 : Int32)) 2)) (C := RX3) (T := TX3) (N := 14) hx hb hts iX3 hown hK hP 0 (MW_0 c5 b (mFs m 0 (0 : Int32))) rfl 2 (by decide) (hts _ wT3_30) (fun _ h9 => h9) rfl dX3_setWay_21 ?_
    refine lv_istore_n (i := 2) (lv' := [(2, .int (mF (mFs m 0 (0 : Int32)) 2)), (0, .ref (b 0)), (1, .int p1)]) hx hb dX3_setWay_24 rfl hl (by decide) rfl (fun ls hl => ?_)
    refine lv_aload_n hx hb dX3_setWay_25 rfl (lv_at hl 1 rfl) ?_
    refine lv_iload_n hx hb dX3_setWay_26 rfl (lv_at hl 2 rfl) ?_
    refine va_put (D := D) (ci := 3) (v := .int p1) (ty := .int) (C := RX3) (T := TX3) (N := 14) hx hb hts iX3 tyX3 tyX3_ok nmX3 hown hK hP hD hS 0 (MW_0 c5 b (mFs m 0 (0 : Int32))) rfl 2 (by decide) (hts _ wT3_30) (fun _ h9 => h9) rfl (by decide +kernel) rfl rfl (Nat.le_of_ble_eq_true rfl) dX3_setWay_27 (fun H locs hP hD hS => ?_)
    have hP := wP (MW_set0 c5 b (mFs m 0 (0 : Int32)) 2 (by decide) _) hP
    have hD := wD (MW_set0 c5 b (mFs m 0 (0 : Int32)) 2 (by decide) _) hD
    refine lv_iload_n hx hb dX3_setWay_30 rfl (lv_at hl 0 rfl) ?_
    obtain rfl := (Option.some.inj h)
    exact rw_iret (wf := fun u => MW c5 b u) hx hb hr hlocks hP hK hD hS dX3_setWay_31 rfl
  · have h := o_f' h q
    refine lv_aload_n hx hb dX3_setWay_14 rfl (lv_at hl 0 rfl) ?_
    refine lv_iconst (v := (1 : Int32)) hx hb dX3_setWay_15 (by decide) ?_
    obtain ⟨v16, e16, h⟩ := o_bind h
    refine rw_calli (rw_runV (As := [.int (1 : Int32)]) (rest := []) ⟨hx, hb, hml, hown, hts⟩ hP hK hD (c_X3_no l D c5 b (mFs m 0 (0 : Int32)) H.size (1 : Int32) v16 e16) gG_RX3_127 (va_recv hK hP (ci := 3) (q0 := 0) rfl (MW_0 c5 b (mFs m 0 (0 : Int32)))) hd_X3_no ⟨Nat.le_of_ble_eq_true rfl, Nat.le_of_ble_eq_true rfl⟩ ⟨rfl, rfl⟩ hl.1 (Nat.le_of_ble_eq_true rfl) dX3_setWay_16 ⟨Nat.le_of_ble_eq_true rfl, Nat.le_of_ble_eq_true rfl⟩ rfl) hD hS hA (fun H locs hP hD hS => ?_)
    obtain rfl := (Option.some.inj h)
    exact rw_iret (wf := fun u => MW c5 b u) hx hb hr hlocks hP hK hD hS dX3_setWay_19 rfl
set_option maxHeartbeats 4000000 in
set_option maxRecDepth 100000 in
theorem c_X3_put (l : Launch) (D : va_G) (c5 : Nat → ClassId) (b : Nat → Nat) (m : MSt) (sz : Nat) (p1 : Int32) (r : Int32 × MSt) (h : R_X3_put m p1 = some r) : Met l yX3_put (ws_ yX3_put cX3_put 3 (some .int)) { frames := 5, cells := 0, slots := 0, locals := 107 } (va_Pc [.ref (b 0), .int p1] (rwB D (tyG c5) (MW c5 b m) sz)) (va_Qi (fun x u => x = r.1 ∧ u = r.2) (rwE D (tyG c5) (va_A (MW c5 b m) sz) (fun u => MW c5 b u)) (va_A (MW c5 b m) sz)) 0 0 (va_A (MW c5 b m) sz) := by
  refine Met.ofW (cc := cX3_put) (maxL := 3) (ret := (some .int)) (by decide) rfl ?_
  intro p e s m9 args below meth c s₁ B hml hv
  obtain ⟨rfl, hsz, hP, hK, hD0⟩ := hv
  have hx := B.exec
  have hb := B.bytes
  have hr := B.returns
  have hts : ∀ w ∈ LA, w.before _ s = true := fun w hw => atoms_spec (ws := ws_ yX3_put cX3_put 3 (some .int)) B.pre w (List.mem_cons_of_mem _ hw)
  have hown : s.vm.findClass RX3 = some m9.cls := findClass_of_methodNamed B.named
  have hlocks := B.notSynchronized
  subst hsz
  have hD := hD0.self (sz := s.heap.size)
  generalize hAe : va_A (MW c5 b m) s.heap.size = A at hD ⊢
  have hA : ∀ q : Nat, s.heap.size ≤ q → A q := fun q h => by rw [← hAe]; exact Or.inr h
  have hS : va_S A s.heap s.heap [] := va_S.rf
  have hl := lv_entry ([.ref (b 0), .int p1] : List Value) (n := 3) (Nat.le_of_ble_eq_true rfl)
  rw [lg_entry_eq]
  generalize (lg_sl ([.ref (b 0), .int p1] : List Value) ++ List.replicate (3 - (lg_sl ([.ref (b 0), .int p1] : List Value)).length) Slot.unset).toArray = ls at hl ⊢
  have hl : lv_has ls 3 [(0, .ref (b 0)), (1, .int p1)] := hl
  unfold R_X3_put at h
  refine lv_aload_n hx hb dX3_put_0 rfl (lv_at hl 0 rfl) ?_
  refine lv_iconst (v := (0 : Int32)) hx hb dX3_put_1 (by decide) ?_
  refine va_put (D := D) (ci := 3) (v := .int (0 : Int32)) (ty := .int) (C := RX3) (T := TX3) (N := 14) hx hb hts iX3 tyX3 tyX3_ok nmX3 hown hK hP hD hS 0 (MW_0 c5 b m) rfl 0 (by decide) (hts _ wT3_28) (fun _ h9 => h9) rfl (by decide +kernel) rfl rfl (Nat.le_of_ble_eq_true rfl) dX3_put_2 (fun H locs hP hD hS => ?_)
  have hP := wP (MW_set0 c5 b m 0 (by decide) _) hP
  have hD := wD (MW_set0 c5 b m 0 (by decide) _) hD
  refine lv_aload_n hx hb dX3_put_5 rfl (lv_at hl 0 rfl) ?_
  refine lv_iload_n hx hb dX3_put_6 rfl (lv_at hl 1 rfl) ?_
  obtain ⟨v7, e7, h⟩ := o_bind h
  refine ro_calli (ro_runV (As := [.int p1]) (rest := []) ⟨hx, hb, hml, hown, hts⟩ hP hK (c_X3_isKind l D c5 b (mFs m 0 (0 : Int32)) p1 v7 e7) gG_RX3_130 (va_recv hK hP (ci := 3) (q0 := 0) rfl (MW_0 c5 b (mFs m 0 (0 : Int32)))) hd_X3_isKind ⟨Nat.le_of_ble_eq_true rfl, Nat.le_of_ble_eq_true rfl⟩ ⟨rfl, rfl⟩ hl.1 (Nat.le_of_ble_eq_true rfl) dX3_put_7 ⟨Nat.zero_le _, Nat.zero_le _⟩ rfl) ?_
  refine lv_if_ne (tgt := 19) hx hb dX3_put_10 (by decide) (fun q => ?_) (fun q => ?_)
  · have h := o_t' h q
    refine lv_aload_n hx hb dX3_put_19 rfl (lv_at hl 0 rfl) ?_
    refine lv_iload_n hx hb dX3_put_20 rfl (lv_at hl 1 rfl) ?_
    obtain ⟨v21, e21, h⟩ := o_bind h
    refine ro_calli (ro_runV (As := [.int p1]) (rest := []) ⟨hx, hb, hml, hown, hts⟩ hP hK (c_X3_shelfFor l D c5 b (mFs m 0 (0 : Int32)) p1 v21 e21) gG_RX3_80 (va_recv hK hP (ci := 3) (q0 := 0) rfl (MW_0 c5 b (mFs m 0 (0 : Int32)))) hd_X3_shelfFor ⟨Nat.le_of_ble_eq_true rfl, Nat.le_of_ble_eq_true rfl⟩ ⟨rfl, rfl⟩ hl.1 (Nat.le_of_ble_eq_true rfl) dX3_put_21 ⟨Nat.zero_le _, Nat.zero_le _⟩ rfl) ?_
    refine lv_istore_n (i := 2) (lv' := [(2, .int v21), (0, .ref (b 0)), (1, .int p1)]) hx hb dX3_put_24 rfl hl (by decide) rfl (fun ls hl => ?_)
    refine lv_iload_n hx hb dX3_put_25 rfl (lv_at hl 0 rfl) ?_
    refine lv_iconst (v := (-1 : Int32)) hx hb dX3_put_26 (by decide) ?_
    refine lv_icmp_ne (tgt := 38) hx hb dX3_put_27 (by decide) (fun q => ?_) (fun q => ?_)
    · have h := o_t' h q
      refine lv_aload_n hx hb dX3_put_38 rfl (lv_at hl 1 rfl) ?_
      refine lv_iload_n hx hb dX3_put_39 rfl (lv_at hl 2 rfl) ?_
      refine lv_iload_n hx hb dX3_put_40 rfl (lv_at hl 0 rfl) ?_
      obtain ⟨v41, e41, h⟩ := o_bind h
      refine rw_calli (rw_runV (As := [.int p1, .int v21]) (rest := []) ⟨hx, hb, hml, hown, hts⟩ hP hK hD (c_X3_placed l D c5 b (mFs m 0 (0 : Int32)) H.size p1 v21 v41 e41) gG_RX3_133 (va_recv hK hP (ci := 3) (q0 := 0) rfl (MW_0 c5 b (mFs m 0 (0 : Int32)))) hd_X3_placed ⟨Nat.le_of_ble_eq_true rfl, Nat.le_of_ble_eq_true rfl⟩ ⟨rfl, rfl⟩ hl.1 (Nat.le_of_ble_eq_true rfl) dX3_put_41 ⟨Nat.le_of_ble_eq_true rfl, Nat.le_of_ble_eq_true rfl⟩ rfl) hD hS hA (fun H locs hP hD hS => ?_)
      obtain rfl := (Option.some.inj h)
      exact rw_iret (wf := fun u => MW c5 b u) hx hb hr hlocks hP hK hD hS dX3_put_44 rfl
    · have h := o_f' h q
      refine lv_aload_n hx hb dX3_put_30 rfl (lv_at hl 1 rfl) ?_
      refine lv_iconst (v := (2 : Int32)) hx hb dX3_put_31 (by decide) ?_
      obtain ⟨v32, e32, h⟩ := o_bind h
      refine rw_calli (rw_runV (As := [.int (2 : Int32)]) (rest := []) ⟨hx, hb, hml, hown, hts⟩ hP hK hD (c_X3_no l D c5 b (mFs m 0 (0 : Int32)) H.size (2 : Int32) v32 e32) gG_RX3_127 (va_recv hK hP (ci := 3) (q0 := 0) rfl (MW_0 c5 b (mFs m 0 (0 : Int32)))) hd_X3_no ⟨Nat.le_of_ble_eq_true rfl, Nat.le_of_ble_eq_true rfl⟩ ⟨rfl, rfl⟩ hl.1 (Nat.le_of_ble_eq_true rfl) dX3_put_32 ⟨Nat.le_of_ble_eq_true rfl, Nat.le_of_ble_eq_true rfl⟩ rfl) hD hS hA (fun H locs hP hD hS => ?_)
      refine lv_goto (tgt := 44) hx hb dX3_put_35 (by decide) ?_
      obtain rfl := (Option.some.inj h)
      exact rw_iret (wf := fun u => MW c5 b u) hx hb hr hlocks hP hK hD hS dX3_put_44 rfl
  · have h := o_f' h q
    refine lv_aload_n hx hb dX3_put_13 rfl (lv_at hl 0 rfl) ?_
    refine lv_iconst (v := (1 : Int32)) hx hb dX3_put_14 (by decide) ?_
    obtain ⟨v15, e15, h⟩ := o_bind h
    refine rw_calli (rw_runV (As := [.int (1 : Int32)]) (rest := []) ⟨hx, hb, hml, hown, hts⟩ hP hK hD (c_X3_no l D c5 b (mFs m 0 (0 : Int32)) H.size (1 : Int32) v15 e15) gG_RX3_127 (va_recv hK hP (ci := 3) (q0 := 0) rfl (MW_0 c5 b (mFs m 0 (0 : Int32)))) hd_X3_no ⟨Nat.le_of_ble_eq_true rfl, Nat.le_of_ble_eq_true rfl⟩ ⟨rfl, rfl⟩ hl.1 (Nat.le_of_ble_eq_true rfl) dX3_put_15 ⟨Nat.le_of_ble_eq_true rfl, Nat.le_of_ble_eq_true rfl⟩ rfl) hD hS hA (fun H locs hP hD hS => ?_)
    obtain rfl := (Option.some.inj h)
    exact rw_iret (wf := fun u => MW c5 b u) hx hb hr hlocks hP hK hD hS dX3_put_18 rfl
set_option maxHeartbeats 4000000 in
set_option maxRecDepth 100000 in
theorem c_X3_take (l : Launch) (D : va_G) (c5 : Nat → ClassId) (b : Nat → Nat) (m : MSt) (sz : Nat) (p1 : Int32) (r : Int32 × MSt) (h : R_X3_take m p1 = some r) : Met l yX3_take (ws_ yX3_take cX3_take 4 (some .int)) { frames := 2, cells := 0, slots := 0, locals := 44 } (va_Pc [.ref (b 0), .int p1] (rwB D (tyG c5) (MW c5 b m) sz)) (va_Qi (fun x u => x = r.1 ∧ u = r.2) (rwE D (tyG c5) (va_A (MW c5 b m) sz) (fun u => MW c5 b u)) (va_A (MW c5 b m) sz)) 0 0 (va_A (MW c5 b m) sz) := by
  refine Met.ofW (cc := cX3_take) (maxL := 4) (ret := (some .int)) (by decide) rfl ?_
  intro p e s m9 args below meth c s₁ B hml hv
  obtain ⟨rfl, hsz, hP, hK, hD0⟩ := hv
  have hx := B.exec
  have hb := B.bytes
  have hr := B.returns
  have hts : ∀ w ∈ LA, w.before _ s = true := fun w hw => atoms_spec (ws := ws_ yX3_take cX3_take 4 (some .int)) B.pre w (List.mem_cons_of_mem _ hw)
  have hown : s.vm.findClass RX3 = some m9.cls := findClass_of_methodNamed B.named
  have hlocks := B.notSynchronized
  subst hsz
  have hD := hD0.self (sz := s.heap.size)
  generalize hAe : va_A (MW c5 b m) s.heap.size = A at hD ⊢
  have hA : ∀ q : Nat, s.heap.size ≤ q → A q := fun q h => by rw [← hAe]; exact Or.inr h
  have hS : va_S A s.heap s.heap [] := va_S.rf
  have hl := lv_entry ([.ref (b 0), .int p1] : List Value) (n := 4) (Nat.le_of_ble_eq_true rfl)
  rw [lg_entry_eq]
  generalize (lg_sl ([.ref (b 0), .int p1] : List Value) ++ List.replicate (4 - (lg_sl ([.ref (b 0), .int p1] : List Value)).length) Slot.unset).toArray = ls at hl ⊢
  have hl : lv_has ls 4 [(0, .ref (b 0)), (1, .int p1)] := hl
  unfold R_X3_take at h
  refine lv_aload_n hx hb dX3_take_0 rfl (lv_at hl 0 rfl) ?_
  refine lv_iconst (v := (0 : Int32)) hx hb dX3_take_1 (by decide) ?_
  refine va_put (D := D) (ci := 3) (v := .int (0 : Int32)) (ty := .int) (C := RX3) (T := TX3) (N := 14) hx hb hts iX3 tyX3 tyX3_ok nmX3 hown hK hP hD hS 0 (MW_0 c5 b m) rfl 0 (by decide) (hts _ wT3_28) (fun _ h9 => h9) rfl (by decide +kernel) rfl rfl (Nat.le_of_ble_eq_true rfl) dX3_take_2 (fun H locs hP hD hS => ?_)
  have hP := wP (MW_set0 c5 b m 0 (by decide) _) hP
  have hD := wD (MW_set0 c5 b m 0 (by decide) _) hD
  refine lv_iload_n hx hb dX3_take_5 rfl (lv_at hl 1 rfl) ?_
  obtain ⟨v6, e6, h⟩ := o_bind h
  refine ro_calli (ro_runS (As := [.int p1]) (rest := []) ⟨hx, hb, hml, hown, hts⟩ hP hK (c_X3_isSpot l D (tyG c5) (MW c5 b (mFs m 0 (0 : Int32))) p1 v6 e6) gG_RX3_136 hd_X3_isSpot ⟨Nat.le_of_ble_eq_true rfl, Nat.le_of_ble_eq_true rfl⟩ ⟨rfl, rfl⟩ hl.1 (Nat.le_of_ble_eq_true rfl) dX3_take_6 ⟨Nat.zero_le _, Nat.zero_le _⟩ rfl) ?_
  refine lv_if_ne (tgt := 18) hx hb dX3_take_9 (by decide) (fun q => ?_) (fun q => ?_)
  · have h := o_t' h q
    refine lv_iload_n hx hb dX3_take_18 rfl (lv_at hl 1 rfl) ?_
    refine lv_bipush (v := (24 : Int32)) hx hb dX3_take_19 (by decide) ?_
    refine lv_idiv hx hb dX3_take_21 (by decide) ?_
    refine lv_istore_n (i := 2) (lv' := [(2, .int (p1 / (24 : Int32))), (0, .ref (b 0)), (1, .int p1)]) hx hb dX3_take_22 rfl hl (by decide) rfl (fun ls hl => ?_)
    refine lv_aload_n hx hb dX3_take_23 rfl (lv_at hl 1 rfl) ?_
    refine lv_iload_n hx hb dX3_take_24 rfl (lv_at hl 2 rfl) ?_
    obtain ⟨v25, e25, h⟩ := o_bind h
    refine ro_calli (ro_runV (As := [.int p1]) (rest := []) ⟨hx, hb, hml, hown, hts⟩ hP hK (c_X3_placeOf l D c5 b (mFs m 0 (0 : Int32)) p1 v25 e25) gG_RX3_139 (va_recv hK hP (ci := 3) (q0 := 0) rfl (MW_0 c5 b (mFs m 0 (0 : Int32)))) hd_X3_placeOf ⟨Nat.le_of_ble_eq_true rfl, Nat.le_of_ble_eq_true rfl⟩ ⟨rfl, rfl⟩ hl.1 (Nat.le_of_ble_eq_true rfl) dX3_take_25 ⟨Nat.zero_le _, Nat.zero_le _⟩ rfl) ?_
    refine lv_istore_n (i := 3) (lv' := [(3, .int v25), (2, .int (p1 / (24 : Int32))), (0, .ref (b 0)), (1, .int p1)]) hx hb dX3_take_28 rfl hl (by decide) rfl (fun ls hl => ?_)
    refine lv_iload_n hx hb dX3_take_29 rfl (lv_at hl 0 rfl) ?_
    refine lv_iconst (v := (-1 : Int32)) hx hb dX3_take_30 (by decide) ?_
    refine lv_icmp_eq (tgt := 57) hx hb dX3_take_31 (by decide) (fun q => ?_) (fun q => ?_)
    · have h := o_t h q
      refine lv_aload_n hx hb dX3_take_57 rfl (lv_at hl 2 rfl) ?_
      refine lv_iconst (v := (2 : Int32)) hx hb dX3_take_58 (by decide) ?_
      obtain ⟨v59, e59, h⟩ := o_bind h
      refine rw_calli (rw_runV (As := [.int (2 : Int32)]) (rest := []) ⟨hx, hb, hml, hown, hts⟩ hP hK hD (c_X3_no l D c5 b (mFs m 0 (0 : Int32)) H.size (2 : Int32) v59 e59) gG_RX3_127 (va_recv hK hP (ci := 3) (q0 := 0) rfl (MW_0 c5 b (mFs m 0 (0 : Int32)))) hd_X3_no ⟨Nat.le_of_ble_eq_true rfl, Nat.le_of_ble_eq_true rfl⟩ ⟨rfl, rfl⟩ hl.1 (Nat.le_of_ble_eq_true rfl) dX3_take_59 ⟨Nat.le_of_ble_eq_true rfl, Nat.le_of_ble_eq_true rfl⟩ rfl) hD hS hA (fun H locs hP hD hS => ?_)
      obtain rfl := (Option.some.inj h)
      exact rw_iret (wf := fun u => MW c5 b u) hx hb hr hlocks hP hK hD hS dX3_take_62 rfl
    · have h := o_f h q
      refine lv_aload_n hx hb dX3_take_34 rfl (lv_at hl 2 rfl) ?_
      refine lv_iload_n hx hb dX3_take_35 rfl (lv_at hl 1 rfl) ?_
      refine lv_iload_n hx hb dX3_take_36 rfl (lv_at hl 0 rfl) ?_
      obtain ⟨v37, e37, h⟩ := o_bind h
      refine ro_calli (ro_runV (As := [.int (p1 / (24 : Int32)), .int v25]) (rest := []) ⟨hx, hb, hml, hown, hts⟩ hP hK (c_X3_spotOf l D c5 b (mFs m 0 (0 : Int32)) (p1 / (24 : Int32)) v25 v37 e37) gG_RX3_89 (va_recv hK hP (ci := 3) (q0 := 0) rfl (MW_0 c5 b (mFs m 0 (0 : Int32)))) hd_X3_spotOf ⟨Nat.le_of_ble_eq_true rfl, Nat.le_of_ble_eq_true rfl⟩ ⟨rfl, rfl⟩ hl.1 (Nat.le_of_ble_eq_true rfl) dX3_take_37 ⟨Nat.zero_le _, Nat.zero_le _⟩ rfl) ?_
      refine lv_iload_n hx hb dX3_take_40 rfl (lv_at hl 3 rfl) ?_
      refine lv_icmp_ne (tgt := 57) hx hb dX3_take_41 (by decide) (fun q => ?_) (fun q => ?_)
      · have h := o_t' h q
        refine lv_aload_n hx hb dX3_take_57 rfl (lv_at hl 2 rfl) ?_
        refine lv_iconst (v := (2 : Int32)) hx hb dX3_take_58 (by decide) ?_
        obtain ⟨v59, e59, h⟩ := o_bind h
        refine rw_calli (rw_runV (As := [.int (2 : Int32)]) (rest := []) ⟨hx, hb, hml, hown, hts⟩ hP hK hD (c_X3_no l D c5 b (mFs m 0 (0 : Int32)) H.size (2 : Int32) v59 e59) gG_RX3_127 (va_recv hK hP (ci := 3) (q0 := 0) rfl (MW_0 c5 b (mFs m 0 (0 : Int32)))) hd_X3_no ⟨Nat.le_of_ble_eq_true rfl, Nat.le_of_ble_eq_true rfl⟩ ⟨rfl, rfl⟩ hl.1 (Nat.le_of_ble_eq_true rfl) dX3_take_59 ⟨Nat.le_of_ble_eq_true rfl, Nat.le_of_ble_eq_true rfl⟩ rfl) hD hS hA (fun H locs hP hD hS => ?_)
        obtain rfl := (Option.some.inj h)
        exact rw_iret (wf := fun u => MW c5 b u) hx hb hr hlocks hP hK hD hS dX3_take_62 rfl
      · have h := o_f' h q
        refine lv_aload_n hx hb dX3_take_44 rfl (lv_at hl 2 rfl) ?_
        refine va_get (D := D) (ci := 3) (v := .ref (b 5)) (C := RX3) (T := TX3) (N := 14) hx hb hts iX3 hown hK hP 0 (MW_0 c5 b (mFs m 0 (0 : Int32))) rfl 10 (by decide) (hts _ wT3_38) (fun _ h9 => h9) rfl dX3_take_45 ?_
        refine lv_iload_n hx hb dX3_take_48 rfl (lv_at hl 1 rfl) ?_
        obtain ⟨g49, h⟩ := o_if h
        refine va_iald hx hb hK hP 5 3 (MW_5 c5 b (mFs m 0 (0 : Int32))) rfl (inb_in g49) dX3_take_49 ?_
        refine lv_iload_n hx hb dX3_take_50 rfl (lv_at hl 0 rfl) ?_
        refine lv_ishr hx hb dX3_take_51 ?_
        refine lv_iconst (v := (1 : Int32)) hx hb dX3_take_52 (by decide) ?_
        refine lv_iand hx hb dX3_take_53 ?_
        refine lv_if_ne (tgt := 63) hx hb dX3_take_54 (by decide) (fun q => ?_) (fun q => ?_)
        · have h := o_t' h q
          refine lv_aload_n hx hb dX3_take_63 rfl (lv_at hl 2 rfl) ?_
          refine va_get (D := D) (ci := 3) (v := .ref (b 5)) (C := RX3) (T := TX3) (N := 14) hx hb hts iX3 hown hK hP 0 (MW_0 c5 b (mFs m 0 (0 : Int32))) rfl 10 (by decide) (hts _ wT3_38) (fun _ h9 => h9) rfl dX3_take_64 ?_
          refine lv_iload_n hx hb dX3_take_67 rfl (lv_at hl 1 rfl) ?_
          refine lv_dup2_11 hx hb dX3_take_68 rfl rfl ?_
          obtain ⟨g69, h⟩ := o_if h
          refine va_iald hx hb hK hP 5 3 (MW_5 c5 b (mFs m 0 (0 : Int32))) rfl (inb_in g69) dX3_take_69 ?_
          refine lv_iconst (v := (1 : Int32)) hx hb dX3_take_70 (by decide) ?_
          refine lv_iload_n hx hb dX3_take_71 rfl (lv_at hl 0 rfl) ?_
          refine lv_ishl hx hb dX3_take_72 ?_
          refine lv_isub hx hb dX3_take_73 ?_
          obtain ⟨g74, h⟩ := o_if h
          refine va_iast hx hb hK hP hD hS 5 3 (MW_5 c5 b (mFs m 0 (0 : Int32))) rfl (inb_in g74) dX3_take_74 (fun H locs hP hD hS => ?_)
          have hP := wP (MW_set5 c5 b (mFs m 0 (0 : Int32)) _) hP
          have hD := wD (MW_set5 c5 b (mFs m 0 (0 : Int32)) _) hD
          refine lv_aload_n hx hb dX3_take_75 rfl (lv_at hl 2 rfl) ?_
          refine lv_dup hx hb dX3_take_76 rfl ?_
          refine va_get (D := D) (ci := 3) (v := .int (mF (mAs (mFs m 0 (0 : Int32)) 4 (upd (mA (mFs m 0 (0 : Int32)) 4) ((p1 / (24 : Int32)).toNatClampNeg) ((mA (mFs m 0 (0 : Int32)) 4 ((p1 / (24 : Int32)).toNatClampNeg)) - ((1 : Int32) <<< (v25 &&& 31))))) 1)) (C := RX3) (T := TX3) (N := 14) hx hb hts iX3 hown hK hP 0 (MW_0 c5 b (mAs (mFs m 0 (0 : Int32)) 4 (upd (mA (mFs m 0 (0 : Int32)) 4) ((p1 / (24 : Int32)).toNatClampNeg) ((mA (mFs m 0 (0 : Int32)) 4 ((p1 / (24 : Int32)).toNatClampNeg)) - ((1 : Int32) <<< (v25 &&& 31)))))) rfl 1 (by decide) (hts _ wT3_29) (fun _ h9 => h9) rfl dX3_take_77 ?_
          refine lv_iconst (v := (1 : Int32)) hx hb dX3_take_80 (by decide) ?_
          refine lv_iadd hx hb dX3_take_81 ?_
          refine va_put (D := D) (ci := 3) (v := .int ((mF (mAs (mFs m 0 (0 : Int32)) 4 (upd (mA (mFs m 0 (0 : Int32)) 4) ((p1 / (24 : Int32)).toNatClampNeg) ((mA (mFs m 0 (0 : Int32)) 4 ((p1 / (24 : Int32)).toNatClampNeg)) - ((1 : Int32) <<< (v25 &&& 31))))) 1) + (1 : Int32))) (ty := .int) (C := RX3) (T := TX3) (N := 14) hx hb hts iX3 tyX3 tyX3_ok nmX3 hown hK hP hD hS 0 (MW_0 c5 b (mAs (mFs m 0 (0 : Int32)) 4 (upd (mA (mFs m 0 (0 : Int32)) 4) ((p1 / (24 : Int32)).toNatClampNeg) ((mA (mFs m 0 (0 : Int32)) 4 ((p1 / (24 : Int32)).toNatClampNeg)) - ((1 : Int32) <<< (v25 &&& 31)))))) rfl 1 (by decide) (hts _ wT3_29) (fun _ h9 => h9) rfl (by decide +kernel) rfl rfl (Nat.le_of_ble_eq_true rfl) dX3_take_82 (fun H locs hP hD hS => ?_)
          have hP := wP (MW_set0 c5 b (mAs (mFs m 0 (0 : Int32)) 4 (upd (mA (mFs m 0 (0 : Int32)) 4) ((p1 / (24 : Int32)).toNatClampNeg) ((mA (mFs m 0 (0 : Int32)) 4 ((p1 / (24 : Int32)).toNatClampNeg)) - ((1 : Int32) <<< (v25 &&& 31))))) 1 (by decide) _) hP
          have hD := wD (MW_set0 c5 b (mAs (mFs m 0 (0 : Int32)) 4 (upd (mA (mFs m 0 (0 : Int32)) 4) ((p1 / (24 : Int32)).toNatClampNeg) ((mA (mFs m 0 (0 : Int32)) 4 ((p1 / (24 : Int32)).toNatClampNeg)) - ((1 : Int32) <<< (v25 &&& 31))))) 1 (by decide) _) hD
          refine lv_aload_n hx hb dX3_take_85 rfl (lv_at hl 2 rfl) ?_
          refine va_get (D := D) (ci := 3) (v := .ref (b 5)) (C := RX3) (T := TX3) (N := 14) hx hb hts iX3 hown hK hP 0 (MW_0 c5 b (mFs (mAs (mFs m 0 (0 : Int32)) 4 (upd (mA (mFs m 0 (0 : Int32)) 4) ((p1 / (24 : Int32)).toNatClampNeg) ((mA (mFs m 0 (0 : Int32)) 4 ((p1 / (24 : Int32)).toNatClampNeg)) - ((1 : Int32) <<< (v25 &&& 31))))) 1 ((mF (mAs (mFs m 0 (0 : Int32)) 4 (upd (mA (mFs m 0 (0 : Int32)) 4) ((p1 / (24 : Int32)).toNatClampNeg) ((mA (mFs m 0 (0 : Int32)) 4 ((p1 / (24 : Int32)).toNatClampNeg)) - ((1 : Int32) <<< (v25 &&& 31))))) 1) + (1 : Int32)))) rfl 10 (by decide) (hts _ wT3_38) (fun _ h9 => h9) rfl dX3_take_86 ?_
          refine lv_iload_n hx hb dX3_take_89 rfl (lv_at hl 1 rfl) ?_
          obtain ⟨g90, h⟩ := o_if h
          refine va_iald hx hb hK hP 5 3 (MW_5 c5 b (mFs (mAs (mFs m 0 (0 : Int32)) 4 (upd (mA (mFs m 0 (0 : Int32)) 4) ((p1 / (24 : Int32)).toNatClampNeg) ((mA (mFs m 0 (0 : Int32)) 4 ((p1 / (24 : Int32)).toNatClampNeg)) - ((1 : Int32) <<< (v25 &&& 31))))) 1 ((mF (mAs (mFs m 0 (0 : Int32)) 4 (upd (mA (mFs m 0 (0 : Int32)) 4) ((p1 / (24 : Int32)).toNatClampNeg) ((mA (mFs m 0 (0 : Int32)) 4 ((p1 / (24 : Int32)).toNatClampNeg)) - ((1 : Int32) <<< (v25 &&& 31))))) 1) + (1 : Int32)))) rfl (inb_in g90) dX3_take_90 ?_
          refine lv_if_ne (tgt := 104) hx hb dX3_take_91 (by decide) (fun q => ?_) (fun q => ?_)
          · have h := o_t' h q
            refine lv_aload_n hx hb dX3_take_104 rfl (lv_at hl 2 rfl) ?_
            refine lv_iload_n hx hb dX3_take_105 rfl (lv_at hl 1 rfl) ?_
            obtain ⟨v106, e106, h⟩ := o_bind h
            refine ro_calli (ro_runV (As := [.int (p1 / (24 : Int32))]) (rest := []) ⟨hx, hb, hml, hown, hts⟩ hP hK (c_X3_many l D c5 b (mFs (mAs (mFs m 0 (0 : Int32)) 4 (upd (mA (mFs m 0 (0 : Int32)) 4) ((p1 / (24 : Int32)).toNatClampNeg) ((mA (mFs m 0 (0 : Int32)) 4 ((p1 / (24 : Int32)).toNatClampNeg)) - ((1 : Int32) <<< (v25 &&& 31))))) 1 ((mF (mAs (mFs m 0 (0 : Int32)) 4 (upd (mA (mFs m 0 (0 : Int32)) 4) ((p1 / (24 : Int32)).toNatClampNeg) ((mA (mFs m 0 (0 : Int32)) 4 ((p1 / (24 : Int32)).toNatClampNeg)) - ((1 : Int32) <<< (v25 &&& 31))))) 1) + (1 : Int32))) (p1 / (24 : Int32)) v106 e106) gG_RX3_51 (va_recv hK hP (ci := 3) (q0 := 0) rfl (MW_0 c5 b (mFs (mAs (mFs m 0 (0 : Int32)) 4 (upd (mA (mFs m 0 (0 : Int32)) 4) ((p1 / (24 : Int32)).toNatClampNeg) ((mA (mFs m 0 (0 : Int32)) 4 ((p1 / (24 : Int32)).toNatClampNeg)) - ((1 : Int32) <<< (v25 &&& 31))))) 1 ((mF (mAs (mFs m 0 (0 : Int32)) 4 (upd (mA (mFs m 0 (0 : Int32)) 4) ((p1 / (24 : Int32)).toNatClampNeg) ((mA (mFs m 0 (0 : Int32)) 4 ((p1 / (24 : Int32)).toNatClampNeg)) - ((1 : Int32) <<< (v25 &&& 31))))) 1) + (1 : Int32))))) hd_X3_many ⟨Nat.le_of_ble_eq_true rfl, Nat.le_of_ble_eq_true rfl⟩ ⟨rfl, rfl⟩ hl.1 (Nat.le_of_ble_eq_true rfl) dX3_take_106 ⟨Nat.zero_le _, Nat.zero_le _⟩ rfl) ?_
            obtain rfl := (Option.some.inj h)
            exact rw_iret (wf := fun u => MW c5 b u) hx hb hr hlocks hP hK hD hS dX3_take_109 rfl
          · have h := o_f' h q
            refine lv_aload_n hx hb dX3_take_94 rfl (lv_at hl 2 rfl) ?_
            refine va_get (D := D) (ci := 3) (v := .ref (b 6)) (C := RX3) (T := TX3) (N := 14) hx hb hts iX3 hown hK hP 0 (MW_0 c5 b (mFs (mAs (mFs m 0 (0 : Int32)) 4 (upd (mA (mFs m 0 (0 : Int32)) 4) ((p1 / (24 : Int32)).toNatClampNeg) ((mA (mFs m 0 (0 : Int32)) 4 ((p1 / (24 : Int32)).toNatClampNeg)) - ((1 : Int32) <<< (v25 &&& 31))))) 1 ((mF (mAs (mFs m 0 (0 : Int32)) 4 (upd (mA (mFs m 0 (0 : Int32)) 4) ((p1 / (24 : Int32)).toNatClampNeg) ((mA (mFs m 0 (0 : Int32)) 4 ((p1 / (24 : Int32)).toNatClampNeg)) - ((1 : Int32) <<< (v25 &&& 31))))) 1) + (1 : Int32)))) rfl 11 (by decide) (hts _ wT3_39) (fun _ h9 => h9) rfl dX3_take_95 ?_
            refine lv_iload_n hx hb dX3_take_98 rfl (lv_at hl 1 rfl) ?_
            refine lv_aload_n hx hb dX3_take_99 rfl (lv_at hl 2 rfl) ?_
            refine va_get (D := D) (ci := 3) (v := .int (mF (mFs (mAs (mFs m 0 (0 : Int32)) 4 (upd (mA (mFs m 0 (0 : Int32)) 4) ((p1 / (24 : Int32)).toNatClampNeg) ((mA (mFs m 0 (0 : Int32)) 4 ((p1 / (24 : Int32)).toNatClampNeg)) - ((1 : Int32) <<< (v25 &&& 31))))) 1 ((mF (mAs (mFs m 0 (0 : Int32)) 4 (upd (mA (mFs m 0 (0 : Int32)) 4) ((p1 / (24 : Int32)).toNatClampNeg) ((mA (mFs m 0 (0 : Int32)) 4 ((p1 / (24 : Int32)).toNatClampNeg)) - ((1 : Int32) <<< (v25 &&& 31))))) 1) + (1 : Int32))) 1)) (C := RX3) (T := TX3) (N := 14) hx hb hts iX3 hown hK hP 0 (MW_0 c5 b (mFs (mAs (mFs m 0 (0 : Int32)) 4 (upd (mA (mFs m 0 (0 : Int32)) 4) ((p1 / (24 : Int32)).toNatClampNeg) ((mA (mFs m 0 (0 : Int32)) 4 ((p1 / (24 : Int32)).toNatClampNeg)) - ((1 : Int32) <<< (v25 &&& 31))))) 1 ((mF (mAs (mFs m 0 (0 : Int32)) 4 (upd (mA (mFs m 0 (0 : Int32)) 4) ((p1 / (24 : Int32)).toNatClampNeg) ((mA (mFs m 0 (0 : Int32)) 4 ((p1 / (24 : Int32)).toNatClampNeg)) - ((1 : Int32) <<< (v25 &&& 31))))) 1) + (1 : Int32)))) rfl 1 (by decide) (hts _ wT3_29) (fun _ h9 => h9) rfl dX3_take_100 ?_
            obtain ⟨g103, h⟩ := o_if h
            refine va_iast hx hb hK hP hD hS 6 3 (MW_6 c5 b (mFs (mAs (mFs m 0 (0 : Int32)) 4 (upd (mA (mFs m 0 (0 : Int32)) 4) ((p1 / (24 : Int32)).toNatClampNeg) ((mA (mFs m 0 (0 : Int32)) 4 ((p1 / (24 : Int32)).toNatClampNeg)) - ((1 : Int32) <<< (v25 &&& 31))))) 1 ((mF (mAs (mFs m 0 (0 : Int32)) 4 (upd (mA (mFs m 0 (0 : Int32)) 4) ((p1 / (24 : Int32)).toNatClampNeg) ((mA (mFs m 0 (0 : Int32)) 4 ((p1 / (24 : Int32)).toNatClampNeg)) - ((1 : Int32) <<< (v25 &&& 31))))) 1) + (1 : Int32)))) rfl (inb_in g103) dX3_take_103 (fun H locs hP hD hS => ?_)
            have hP := wP (MW_set6 c5 b (mFs (mAs (mFs m 0 (0 : Int32)) 4 (upd (mA (mFs m 0 (0 : Int32)) 4) ((p1 / (24 : Int32)).toNatClampNeg) ((mA (mFs m 0 (0 : Int32)) 4 ((p1 / (24 : Int32)).toNatClampNeg)) - ((1 : Int32) <<< (v25 &&& 31))))) 1 ((mF (mAs (mFs m 0 (0 : Int32)) 4 (upd (mA (mFs m 0 (0 : Int32)) 4) ((p1 / (24 : Int32)).toNatClampNeg) ((mA (mFs m 0 (0 : Int32)) 4 ((p1 / (24 : Int32)).toNatClampNeg)) - ((1 : Int32) <<< (v25 &&& 31))))) 1) + (1 : Int32))) _) hP
            have hD := wD (MW_set6 c5 b (mFs (mAs (mFs m 0 (0 : Int32)) 4 (upd (mA (mFs m 0 (0 : Int32)) 4) ((p1 / (24 : Int32)).toNatClampNeg) ((mA (mFs m 0 (0 : Int32)) 4 ((p1 / (24 : Int32)).toNatClampNeg)) - ((1 : Int32) <<< (v25 &&& 31))))) 1 ((mF (mAs (mFs m 0 (0 : Int32)) 4 (upd (mA (mFs m 0 (0 : Int32)) 4) ((p1 / (24 : Int32)).toNatClampNeg) ((mA (mFs m 0 (0 : Int32)) 4 ((p1 / (24 : Int32)).toNatClampNeg)) - ((1 : Int32) <<< (v25 &&& 31))))) 1) + (1 : Int32))) _) hD
            refine lv_aload_n hx hb dX3_take_104 rfl (lv_at hl 2 rfl) ?_
            refine lv_iload_n hx hb dX3_take_105 rfl (lv_at hl 1 rfl) ?_
            obtain ⟨v106, e106, h⟩ := o_bind h
            refine ro_calli (ro_runV (As := [.int (p1 / (24 : Int32))]) (rest := []) ⟨hx, hb, hml, hown, hts⟩ hP hK (c_X3_many l D c5 b (mAs (mFs (mAs (mFs m 0 (0 : Int32)) 4 (upd (mA (mFs m 0 (0 : Int32)) 4) ((p1 / (24 : Int32)).toNatClampNeg) ((mA (mFs m 0 (0 : Int32)) 4 ((p1 / (24 : Int32)).toNatClampNeg)) - ((1 : Int32) <<< (v25 &&& 31))))) 1 ((mF (mAs (mFs m 0 (0 : Int32)) 4 (upd (mA (mFs m 0 (0 : Int32)) 4) ((p1 / (24 : Int32)).toNatClampNeg) ((mA (mFs m 0 (0 : Int32)) 4 ((p1 / (24 : Int32)).toNatClampNeg)) - ((1 : Int32) <<< (v25 &&& 31))))) 1) + (1 : Int32))) 5 (upd (mA (mFs (mAs (mFs m 0 (0 : Int32)) 4 (upd (mA (mFs m 0 (0 : Int32)) 4) ((p1 / (24 : Int32)).toNatClampNeg) ((mA (mFs m 0 (0 : Int32)) 4 ((p1 / (24 : Int32)).toNatClampNeg)) - ((1 : Int32) <<< (v25 &&& 31))))) 1 ((mF (mAs (mFs m 0 (0 : Int32)) 4 (upd (mA (mFs m 0 (0 : Int32)) 4) ((p1 / (24 : Int32)).toNatClampNeg) ((mA (mFs m 0 (0 : Int32)) 4 ((p1 / (24 : Int32)).toNatClampNeg)) - ((1 : Int32) <<< (v25 &&& 31))))) 1) + (1 : Int32))) 5) ((p1 / (24 : Int32)).toNatClampNeg) (mF (mFs (mAs (mFs m 0 (0 : Int32)) 4 (upd (mA (mFs m 0 (0 : Int32)) 4) ((p1 / (24 : Int32)).toNatClampNeg) ((mA (mFs m 0 (0 : Int32)) 4 ((p1 / (24 : Int32)).toNatClampNeg)) - ((1 : Int32) <<< (v25 &&& 31))))) 1 ((mF (mAs (mFs m 0 (0 : Int32)) 4 (upd (mA (mFs m 0 (0 : Int32)) 4) ((p1 / (24 : Int32)).toNatClampNeg) ((mA (mFs m 0 (0 : Int32)) 4 ((p1 / (24 : Int32)).toNatClampNeg)) - ((1 : Int32) <<< (v25 &&& 31))))) 1) + (1 : Int32))) 1))) (p1 / (24 : Int32)) v106 e106) gG_RX3_51 (va_recv hK hP (ci := 3) (q0 := 0) rfl (MW_0 c5 b (mAs (mFs (mAs (mFs m 0 (0 : Int32)) 4 (upd (mA (mFs m 0 (0 : Int32)) 4) ((p1 / (24 : Int32)).toNatClampNeg) ((mA (mFs m 0 (0 : Int32)) 4 ((p1 / (24 : Int32)).toNatClampNeg)) - ((1 : Int32) <<< (v25 &&& 31))))) 1 ((mF (mAs (mFs m 0 (0 : Int32)) 4 (upd (mA (mFs m 0 (0 : Int32)) 4) ((p1 / (24 : Int32)).toNatClampNeg) ((mA (mFs m 0 (0 : Int32)) 4 ((p1 / (24 : Int32)).toNatClampNeg)) - ((1 : Int32) <<< (v25 &&& 31))))) 1) + (1 : Int32))) 5 (upd (mA (mFs (mAs (mFs m 0 (0 : Int32)) 4 (upd (mA (mFs m 0 (0 : Int32)) 4) ((p1 / (24 : Int32)).toNatClampNeg) ((mA (mFs m 0 (0 : Int32)) 4 ((p1 / (24 : Int32)).toNatClampNeg)) - ((1 : Int32) <<< (v25 &&& 31))))) 1 ((mF (mAs (mFs m 0 (0 : Int32)) 4 (upd (mA (mFs m 0 (0 : Int32)) 4) ((p1 / (24 : Int32)).toNatClampNeg) ((mA (mFs m 0 (0 : Int32)) 4 ((p1 / (24 : Int32)).toNatClampNeg)) - ((1 : Int32) <<< (v25 &&& 31))))) 1) + (1 : Int32))) 5) ((p1 / (24 : Int32)).toNatClampNeg) (mF (mFs (mAs (mFs m 0 (0 : Int32)) 4 (upd (mA (mFs m 0 (0 : Int32)) 4) ((p1 / (24 : Int32)).toNatClampNeg) ((mA (mFs m 0 (0 : Int32)) 4 ((p1 / (24 : Int32)).toNatClampNeg)) - ((1 : Int32) <<< (v25 &&& 31))))) 1 ((mF (mAs (mFs m 0 (0 : Int32)) 4 (upd (mA (mFs m 0 (0 : Int32)) 4) ((p1 / (24 : Int32)).toNatClampNeg) ((mA (mFs m 0 (0 : Int32)) 4 ((p1 / (24 : Int32)).toNatClampNeg)) - ((1 : Int32) <<< (v25 &&& 31))))) 1) + (1 : Int32))) 1))))) hd_X3_many ⟨Nat.le_of_ble_eq_true rfl, Nat.le_of_ble_eq_true rfl⟩ ⟨rfl, rfl⟩ hl.1 (Nat.le_of_ble_eq_true rfl) dX3_take_106 ⟨Nat.zero_le _, Nat.zero_le _⟩ rfl) ?_
            obtain rfl := (Option.some.inj h)
            exact rw_iret (wf := fun u => MW c5 b u) hx hb hr hlocks hP hK hD hS dX3_take_109 rfl
        · have h := o_f' h q
          refine lv_aload_n hx hb dX3_take_57 rfl (lv_at hl 2 rfl) ?_
          refine lv_iconst (v := (2 : Int32)) hx hb dX3_take_58 (by decide) ?_
          obtain ⟨v59, e59, h⟩ := o_bind h
          refine rw_calli (rw_runV (As := [.int (2 : Int32)]) (rest := []) ⟨hx, hb, hml, hown, hts⟩ hP hK hD (c_X3_no l D c5 b (mFs m 0 (0 : Int32)) H.size (2 : Int32) v59 e59) gG_RX3_127 (va_recv hK hP (ci := 3) (q0 := 0) rfl (MW_0 c5 b (mFs m 0 (0 : Int32)))) hd_X3_no ⟨Nat.le_of_ble_eq_true rfl, Nat.le_of_ble_eq_true rfl⟩ ⟨rfl, rfl⟩ hl.1 (Nat.le_of_ble_eq_true rfl) dX3_take_59 ⟨Nat.le_of_ble_eq_true rfl, Nat.le_of_ble_eq_true rfl⟩ rfl) hD hS hA (fun H locs hP hD hS => ?_)
          obtain rfl := (Option.some.inj h)
          exact rw_iret (wf := fun u => MW c5 b u) hx hb hr hlocks hP hK hD hS dX3_take_62 rfl
  · have h := o_f' h q
    refine lv_aload_n hx hb dX3_take_12 rfl (lv_at hl 0 rfl) ?_
    refine lv_iconst (v := (1 : Int32)) hx hb dX3_take_13 (by decide) ?_
    obtain ⟨v14, e14, h⟩ := o_bind h
    refine rw_calli (rw_runV (As := [.int (1 : Int32)]) (rest := []) ⟨hx, hb, hml, hown, hts⟩ hP hK hD (c_X3_no l D c5 b (mFs m 0 (0 : Int32)) H.size (1 : Int32) v14 e14) gG_RX3_127 (va_recv hK hP (ci := 3) (q0 := 0) rfl (MW_0 c5 b (mFs m 0 (0 : Int32)))) hd_X3_no ⟨Nat.le_of_ble_eq_true rfl, Nat.le_of_ble_eq_true rfl⟩ ⟨rfl, rfl⟩ hl.1 (Nat.le_of_ble_eq_true rfl) dX3_take_14 ⟨Nat.le_of_ble_eq_true rfl, Nat.le_of_ble_eq_true rfl⟩ rfl) hD hS hA (fun H locs hP hD hS => ?_)
    obtain rfl := (Option.some.inj h)
    exact rw_iret (wf := fun u => MW c5 b u) hx hb hr hlocks hP hK hD hS dX3_take_17 rfl
set_option maxHeartbeats 4000000 in
set_option maxRecDepth 100000 in
theorem c_X3_reap (l : Launch) (D : va_G) (c5 : Nat → ClassId) (b : Nat → Nat) (m : MSt) (sz : Nat) (p1 : Int32) (r : Int32 × MSt) (h : R_X3_reap m p1 = some r) : Met l yX3_reap (ws_ yX3_reap cX3_reap 4 (some .int)) { frames := 1, cells := 0, slots := 0, locals := 22 } (va_Pc [.ref (b 0), .int p1] (rwB D (tyG c5) (MW c5 b m) sz)) (va_Qi (fun x u => x = r.1 ∧ u = r.2) (rwE D (tyG c5) (va_A (MW c5 b m) sz) (fun u => MW c5 b u)) (va_A (MW c5 b m) sz)) 0 0 (va_A (MW c5 b m) sz) := by
  refine Met.ofW (cc := cX3_reap) (maxL := 4) (ret := (some .int)) (by decide) rfl ?_
  intro p e s m9 args below meth c s₁ B hml hv
  obtain ⟨rfl, hsz, hP, hK, hD0⟩ := hv
  have hx := B.exec
  have hb := B.bytes
  have hr := B.returns
  have hts : ∀ w ∈ LA, w.before _ s = true := fun w hw => atoms_spec (ws := ws_ yX3_reap cX3_reap 4 (some .int)) B.pre w (List.mem_cons_of_mem _ hw)
  have hown : s.vm.findClass RX3 = some m9.cls := findClass_of_methodNamed B.named
  have hlocks := B.notSynchronized
  subst hsz
  have hD := hD0.self (sz := s.heap.size)
  generalize hAe : va_A (MW c5 b m) s.heap.size = A at hD ⊢
  have hA : ∀ q : Nat, s.heap.size ≤ q → A q := fun q h => by rw [← hAe]; exact Or.inr h
  have hS : va_S A s.heap s.heap [] := va_S.rf
  have hl := lv_entry ([.ref (b 0), .int p1] : List Value) (n := 4) (Nat.le_of_ble_eq_true rfl)
  rw [lg_entry_eq]
  generalize (lg_sl ([.ref (b 0), .int p1] : List Value) ++ List.replicate (4 - (lg_sl ([.ref (b 0), .int p1] : List Value)).length) Slot.unset).toArray = ls at hl ⊢
  have hl : lv_has ls 4 [(0, .ref (b 0)), (1, .int p1)] := hl
  unfold R_X3_reap at h
  refine lv_aload_n hx hb dX3_reap_0 rfl (lv_at hl 0 rfl) ?_
  refine lv_iconst (v := (0 : Int32)) hx hb dX3_reap_1 (by decide) ?_
  refine va_put (D := D) (ci := 3) (v := .int (0 : Int32)) (ty := .int) (C := RX3) (T := TX3) (N := 14) hx hb hts iX3 tyX3 tyX3_ok nmX3 hown hK hP hD hS 0 (MW_0 c5 b m) rfl 0 (by decide) (hts _ wT3_28) (fun _ h9 => h9) rfl (by decide +kernel) rfl rfl (Nat.le_of_ble_eq_true rfl) dX3_reap_2 (fun H locs hP hD hS => ?_)
  have hP := wP (MW_set0 c5 b m 0 (by decide) _) hP
  have hD := wD (MW_set0 c5 b m 0 (by decide) _) hD
  refine lv_iload_n hx hb dX3_reap_5 rfl (lv_at hl 1 rfl) ?_
  refine lv_iconst (v := (0 : Int32)) hx hb dX3_reap_6 (by decide) ?_
  refine lv_bipush (v := (99 : Int32)) hx hb dX3_reap_7 (by decide) ?_
  obtain ⟨v9, e9, h⟩ := o_bind h
  refine ro_calli (ro_runS (As := [.int p1, .int (0 : Int32), .int (99 : Int32)]) (rest := []) ⟨hx, hb, hml, hown, hts⟩ hP hK (c_X3_isIn l D (tyG c5) (MW c5 b (mFs m 0 (0 : Int32))) p1 (0 : Int32) (99 : Int32) v9 e9) gG_RX3_41 hd_X3_isIn ⟨Nat.le_of_ble_eq_true rfl, Nat.le_of_ble_eq_true rfl⟩ ⟨rfl, rfl⟩ hl.1 (Nat.le_of_ble_eq_true rfl) dX3_reap_9 ⟨Nat.zero_le _, Nat.zero_le _⟩ rfl) ?_
  refine lv_if_ne (tgt := 21) hx hb dX3_reap_12 (by decide) (fun q => ?_) (fun q => ?_)
  · have h := o_t' h q
    refine lv_iconst (v := (0 : Int32)) hx hb dX3_reap_21 (by decide) ?_
    refine lv_istore_n (i := 2) (lv' := [(2, .int (0 : Int32)), (0, .ref (b 0)), (1, .int p1)]) hx hb dX3_reap_22 rfl hl (by decide) rfl (fun ls hl => ?_)
    refine lv_iconst (v := (0 : Int32)) hx hb dX3_reap_23 (by decide) ?_
    refine lv_istore_n (i := 3) (lv' := [(3, .int (0 : Int32)), (2, .int (0 : Int32)), (0, .ref (b 0)), (1, .int p1)]) hx hb dX3_reap_24 rfl hl (by decide) rfl (fun ls hl => ?_)
    have L25 : ∀ (n : Nat) (m : MSt) (H : Heap) (locs : List Loc) (x2_25 : Int32) (x3_25 : Int32) (ls : Array Slot), lv_has ls 4 [(0, .ref (b 0)), (1, .int p1), (2, .int x2_25), (3, .int x3_25)] → va_P D vwCl (MW c5 b m) H → va_D A (MW c5 b m) → va_S A s.heap H locs → R_X3_reap_L25 p1 n m x2_25 x3_25 = some r → W p l e (headSpec (ws_ yX3_reap cX3_reap 4 (some .int)) { frames := 1, cells := 0, slots := 0, locals := 22 }).room s m9 ([.ref (b 0), .int p1] : List Value).toArray below meth c H locs 0 0 (MQ below (va_Qi (fun x u => x = r.1 ∧ u = r.2) (rwE D (tyG c5) (A) (fun u => MW c5 b u)) (A)) ([.ref (b 0), .int p1] : List Value).toArray s 0 0 A) (F0 m9 25 ls []) := by
      intro n
      induction n with
      | zero =>
        intro m H locs x2_25 x3_25 ls hl hP hD hS h
        exact absurd h (by simp [R_X3_reap_L25])
      | succ n ih =>
        intro m H locs x2_25 x3_25 ls hl hP hD hS h
        rw [R_X3_reap_L25] at h
        refine lv_iload_n hx hb dX3_reap_25 rfl (lv_at hl 3 rfl) ?_
        refine lv_bipush (v := (12 : Int32)) hx hb dX3_reap_26 (by decide) ?_
        refine lv_icmp_ge (tgt := 89) hx hb dX3_reap_28 (by decide) (fun q => ?_) (fun q => ?_)
        · have h := o_t h q
          refine lv_iload_n hx hb dX3_reap_89 rfl (lv_at hl 2 rfl) ?_
          obtain rfl := (Option.some.inj h)
          exact rw_iret (wf := fun u => MW c5 b u) hx hb hr hlocks hP hK hD hS dX3_reap_90 rfl
        · have h := o_f h q
          refine lv_aload_n hx hb dX3_reap_31 rfl (lv_at hl 0 rfl) ?_
          refine lv_iload_n hx hb dX3_reap_32 rfl (lv_at hl 3 rfl) ?_
          obtain ⟨v33, e33, h⟩ := o_bind h
          refine ro_calli (ro_runV (As := [.int x3_25]) (rest := []) ⟨hx, hb, hml, hown, hts⟩ hP hK (c_X3_isFree l D c5 b m x3_25 v33 e33) gG_RX3_74 (va_recv hK hP (ci := 3) (q0 := 0) rfl (MW_0 c5 b m)) hd_X3_isFree ⟨Nat.le_of_ble_eq_true rfl, Nat.le_of_ble_eq_true rfl⟩ ⟨rfl, rfl⟩ hl.1 (Nat.le_of_ble_eq_true rfl) dX3_reap_33 ⟨Nat.zero_le _, Nat.zero_le _⟩ rfl) ?_
          refine lv_if_ne (tgt := 83) hx hb dX3_reap_36 (by decide) (fun q => ?_) (fun q => ?_)
          · have h := o_t' h q
            refine lv_iinc (v := (x3_25 + (1 : Int32))) (lv' := [(3, .int (x3_25 + (1 : Int32))), (0, .ref (b 0)), (1, .int p1), (2, .int x2_25)]) hx hb dX3_reap_83 hl (k := 3) rfl rfl (by decide) rfl (fun ls hl => ?_)
            refine lv_goto (tgt := 25) hx hb dX3_reap_86 (by decide) ?_
            exact ih m H locs x2_25 (x3_25 + (1 : Int32))  ls (lv_sub hl [1, 2, 3, 0] rfl) hP hD hS h
          · have h := o_f' h q
            refine lv_aload_n hx hb dX3_reap_39 rfl (lv_at hl 0 rfl) ?_
            refine va_get (D := D) (ci := 3) (v := .ref (b 5)) (C := RX3) (T := TX3) (N := 14) hx hb hts iX3 hown hK hP 0 (MW_0 c5 b m) rfl 10 (by decide) (hts _ wT3_38) (fun _ h9 => h9) rfl dX3_reap_40 ?_
            refine lv_iload_n hx hb dX3_reap_43 rfl (lv_at hl 3 rfl) ?_
            obtain ⟨g44, h⟩ := o_if h
            refine va_iald hx hb hK hP 5 3 (MW_5 c5 b m) rfl (inb_in g44) dX3_reap_44 ?_
            refine lv_if_ne (tgt := 83) hx hb dX3_reap_45 (by decide) (fun q => ?_) (fun q => ?_)
            · have h := o_t' h q
              refine lv_iinc (v := (x3_25 + (1 : Int32))) (lv' := [(3, .int (x3_25 + (1 : Int32))), (0, .ref (b 0)), (1, .int p1), (2, .int x2_25)]) hx hb dX3_reap_83 hl (k := 3) rfl rfl (by decide) rfl (fun ls hl => ?_)
              refine lv_goto (tgt := 25) hx hb dX3_reap_86 (by decide) ?_
              exact ih m H locs x2_25 (x3_25 + (1 : Int32))  ls (lv_sub hl [1, 2, 3, 0] rfl) hP hD hS h
            · have h := o_f' h q
              refine lv_aload_n hx hb dX3_reap_48 rfl (lv_at hl 0 rfl) ?_
              refine va_get (D := D) (ci := 3) (v := .int (mF m 1)) (C := RX3) (T := TX3) (N := 14) hx hb hts iX3 hown hK hP 0 (MW_0 c5 b m) rfl 1 (by decide) (hts _ wT3_29) (fun _ h9 => h9) rfl dX3_reap_49 ?_
              refine lv_aload_n hx hb dX3_reap_52 rfl (lv_at hl 0 rfl) ?_
              refine va_get (D := D) (ci := 3) (v := .ref (b 6)) (C := RX3) (T := TX3) (N := 14) hx hb hts iX3 hown hK hP 0 (MW_0 c5 b m) rfl 11 (by decide) (hts _ wT3_39) (fun _ h9 => h9) rfl dX3_reap_53 ?_
              refine lv_iload_n hx hb dX3_reap_56 rfl (lv_at hl 3 rfl) ?_
              obtain ⟨g57, h⟩ := o_if h
              refine va_iald hx hb hK hP 6 3 (MW_6 c5 b m) rfl (inb_in g57) dX3_reap_57 ?_
              refine lv_isub hx hb dX3_reap_58 ?_
              refine lv_iload_n hx hb dX3_reap_59 rfl (lv_at hl 1 rfl) ?_
              refine lv_icmp_ge (tgt := 66) hx hb dX3_reap_60 (by decide) (fun q => ?_) (fun q => ?_)
              · have h := o_t h q
                refine lv_aload_n hx hb dX3_reap_66 rfl (lv_at hl 0 rfl) ?_
                refine va_get (D := D) (ci := 3) (v := .ref (b 3)) (C := RX3) (T := TX3) (N := 14) hx hb hts iX3 hown hK hP 0 (MW_0 c5 b m) rfl 8 (by decide) (hts _ wT3_36) (fun _ h9 => h9) rfl dX3_reap_67 ?_
                refine lv_iload_n hx hb dX3_reap_70 rfl (lv_at hl 3 rfl) ?_
                refine lv_iconst (v := (-1 : Int32)) hx hb dX3_reap_71 (by decide) ?_
                obtain ⟨g72, h⟩ := o_if h
                refine va_iast hx hb hK hP hD hS 3 3 (MW_3 c5 b m) rfl (inb_in g72) dX3_reap_72 (fun H locs hP hD hS => ?_)
                have hP := wP (MW_set3 c5 b m _) hP
                have hD := wD (MW_set3 c5 b m _) hD
                refine lv_aload_n hx hb dX3_reap_73 rfl (lv_at hl 0 rfl) ?_
                refine va_get (D := D) (ci := 3) (v := .ref (b 6)) (C := RX3) (T := TX3) (N := 14) hx hb hts iX3 hown hK hP 0 (MW_0 c5 b (mAs m 2 (upd (mA m 2) (x3_25.toNatClampNeg) (-1 : Int32)))) rfl 11 (by decide) (hts _ wT3_39) (fun _ h9 => h9) rfl dX3_reap_74 ?_
                refine lv_iload_n hx hb dX3_reap_77 rfl (lv_at hl 3 rfl) ?_
                refine lv_iconst (v := (-1 : Int32)) hx hb dX3_reap_78 (by decide) ?_
                obtain ⟨g79, h⟩ := o_if h
                refine va_iast hx hb hK hP hD hS 6 3 (MW_6 c5 b (mAs m 2 (upd (mA m 2) (x3_25.toNatClampNeg) (-1 : Int32)))) rfl (inb_in g79) dX3_reap_79 (fun H locs hP hD hS => ?_)
                have hP := wP (MW_set6 c5 b (mAs m 2 (upd (mA m 2) (x3_25.toNatClampNeg) (-1 : Int32))) _) hP
                have hD := wD (MW_set6 c5 b (mAs m 2 (upd (mA m 2) (x3_25.toNatClampNeg) (-1 : Int32))) _) hD
                refine lv_iinc (v := (x2_25 + (1 : Int32))) (lv' := [(2, .int (x2_25 + (1 : Int32))), (0, .ref (b 0)), (1, .int p1), (3, .int x3_25)]) hx hb dX3_reap_80 hl (k := 2) rfl rfl (by decide) rfl (fun ls hl => ?_)
                refine lv_iinc (v := (x3_25 + (1 : Int32))) (lv' := [(3, .int (x3_25 + (1 : Int32))), (2, .int (x2_25 + (1 : Int32))), (0, .ref (b 0)), (1, .int p1)]) hx hb dX3_reap_83 hl (k := 3) rfl rfl (by decide) rfl (fun ls hl => ?_)
                refine lv_goto (tgt := 25) hx hb dX3_reap_86 (by decide) ?_
                exact ih (mAs (mAs m 2 (upd (mA m 2) (x3_25.toNatClampNeg) (-1 : Int32))) 5 (upd (mA (mAs m 2 (upd (mA m 2) (x3_25.toNatClampNeg) (-1 : Int32))) 5) (x3_25.toNatClampNeg) (-1 : Int32))) H locs (x2_25 + (1 : Int32)) (x3_25 + (1 : Int32))  ls (lv_sub hl [2, 3, 1, 0] rfl) hP hD hS h
              · have h := o_f h q
                refine lv_goto (tgt := 83) hx hb dX3_reap_63 (by decide) ?_
                refine lv_iinc (v := (x3_25 + (1 : Int32))) (lv' := [(3, .int (x3_25 + (1 : Int32))), (0, .ref (b 0)), (1, .int p1), (2, .int x2_25)]) hx hb dX3_reap_83 hl (k := 3) rfl rfl (by decide) rfl (fun ls hl => ?_)
                refine lv_goto (tgt := 25) hx hb dX3_reap_86 (by decide) ?_
                exact ih m H locs x2_25 (x3_25 + (1 : Int32))  ls (lv_sub hl [1, 2, 3, 0] rfl) hP hD hS h
    exact L25 FU (mFs m 0 (0 : Int32)) H locs (0 : Int32) (0 : Int32)  ls (lv_sub hl [2, 3, 1, 0] rfl) hP hD hS h
  · have h := o_f' h q
    refine lv_aload_n hx hb dX3_reap_15 rfl (lv_at hl 0 rfl) ?_
    refine lv_iconst (v := (1 : Int32)) hx hb dX3_reap_16 (by decide) ?_
    obtain ⟨v17, e17, h⟩ := o_bind h
    refine rw_calli (rw_runV (As := [.int (1 : Int32)]) (rest := []) ⟨hx, hb, hml, hown, hts⟩ hP hK hD (c_X3_no l D c5 b (mFs m 0 (0 : Int32)) H.size (1 : Int32) v17 e17) gG_RX3_127 (va_recv hK hP (ci := 3) (q0 := 0) rfl (MW_0 c5 b (mFs m 0 (0 : Int32)))) hd_X3_no ⟨Nat.le_of_ble_eq_true rfl, Nat.le_of_ble_eq_true rfl⟩ ⟨rfl, rfl⟩ hl.1 (Nat.le_of_ble_eq_true rfl) dX3_reap_17 ⟨Nat.le_of_ble_eq_true rfl, Nat.le_of_ble_eq_true rfl⟩ rfl) hD hS hA (fun H locs hP hD hS => ?_)
    obtain rfl := (Option.some.inj h)
    exact rw_iret (wf := fun u => MW c5 b u) hx hb hr hlocks hP hK hD hS dX3_reap_20 rfl
set_option maxHeartbeats 4000000 in
set_option maxRecDepth 100000 in
theorem c_X3_pack (l : Launch) (D : va_G) (c5 : Nat → ClassId) (b : Nat → Nat) (m : MSt) (sz : Nat) (p1 : Int32) (r : Int32 × MSt) (h : R_X3_pack m p1 = some r) : Met l yX3_pack (ws_ yX3_pack cX3_pack 3 (some .int)) { frames := 6, cells := 0, slots := 0, locals := 132 } (va_Pc [.ref (b 0), .int p1] (rwB D (tyG c5) (MW c5 b m) sz)) (va_Qi (fun x u => x = r.1 ∧ u = r.2) (rwE D (tyG c5) (va_A (MW c5 b m) sz) (fun u => MW c5 b u)) (va_A (MW c5 b m) sz)) 0 0 (va_A (MW c5 b m) sz) := by
  refine Met.ofW (cc := cX3_pack) (maxL := 3) (ret := (some .int)) (by decide) rfl ?_
  intro p e s m9 args below meth c s₁ B hml hv
  obtain ⟨rfl, hsz, hP, hK, hD0⟩ := hv
  have hx := B.exec
  have hb := B.bytes
  have hr := B.returns
  have hts : ∀ w ∈ LA, w.before _ s = true := fun w hw => atoms_spec (ws := ws_ yX3_pack cX3_pack 3 (some .int)) B.pre w (List.mem_cons_of_mem _ hw)
  have hown : s.vm.findClass RX3 = some m9.cls := findClass_of_methodNamed B.named
  have hlocks := B.notSynchronized
  subst hsz
  have hD := hD0.self (sz := s.heap.size)
  generalize hAe : va_A (MW c5 b m) s.heap.size = A at hD ⊢
  have hA : ∀ q : Nat, s.heap.size ≤ q → A q := fun q h => by rw [← hAe]; exact Or.inr h
  have hS : va_S A s.heap s.heap [] := va_S.rf
  have hl := lv_entry ([.ref (b 0), .int p1] : List Value) (n := 3) (Nat.le_of_ble_eq_true rfl)
  rw [lg_entry_eq]
  generalize (lg_sl ([.ref (b 0), .int p1] : List Value) ++ List.replicate (3 - (lg_sl ([.ref (b 0), .int p1] : List Value)).length) Slot.unset).toArray = ls at hl ⊢
  have hl : lv_has ls 3 [(0, .ref (b 0)), (1, .int p1)] := hl
  unfold R_X3_pack at h
  refine lv_aload_n hx hb dX3_pack_0 rfl (lv_at hl 0 rfl) ?_
  refine lv_iconst (v := (0 : Int32)) hx hb dX3_pack_1 (by decide) ?_
  refine va_put (D := D) (ci := 3) (v := .int (0 : Int32)) (ty := .int) (C := RX3) (T := TX3) (N := 14) hx hb hts iX3 tyX3 tyX3_ok nmX3 hown hK hP hD hS 0 (MW_0 c5 b m) rfl 0 (by decide) (hts _ wT3_28) (fun _ h9 => h9) rfl (by decide +kernel) rfl rfl (Nat.le_of_ble_eq_true rfl) dX3_pack_2 (fun H locs hP hD hS => ?_)
  have hP := wP (MW_set0 c5 b m 0 (by decide) _) hP
  have hD := wD (MW_set0 c5 b m 0 (by decide) _) hD
  refine lv_aload_n hx hb dX3_pack_5 rfl (lv_at hl 0 rfl) ?_
  refine lv_iload_n hx hb dX3_pack_6 rfl (lv_at hl 1 rfl) ?_
  obtain ⟨v7, e7, h⟩ := o_bind h
  refine ro_calli (ro_runV (As := [.int p1]) (rest := []) ⟨hx, hb, hml, hown, hts⟩ hP hK (c_X3_isKind l D c5 b (mFs m 0 (0 : Int32)) p1 v7 e7) gG_RX3_130 (va_recv hK hP (ci := 3) (q0 := 0) rfl (MW_0 c5 b (mFs m 0 (0 : Int32)))) hd_X3_isKind ⟨Nat.le_of_ble_eq_true rfl, Nat.le_of_ble_eq_true rfl⟩ ⟨rfl, rfl⟩ hl.1 (Nat.le_of_ble_eq_true rfl) dX3_pack_7 ⟨Nat.zero_le _, Nat.zero_le _⟩ rfl) ?_
  refine lv_if_ne (tgt := 19) hx hb dX3_pack_10 (by decide) (fun q => ?_) (fun q => ?_)
  · have h := o_t' h q
    refine lv_aload_n hx hb dX3_pack_19 rfl (lv_at hl 0 rfl) ?_
    refine lv_iload_n hx hb dX3_pack_20 rfl (lv_at hl 1 rfl) ?_
    obtain ⟨v21, e21, h⟩ := o_bind h
    refine rw_calli (rw_runV (As := [.int p1]) (rest := []) ⟨hx, hb, hml, hown, hts⟩ hP hK hD (c_X3_packed l D c5 b (mFs m 0 (0 : Int32)) H.size p1 v21 e21) gG_RX3_124 (va_recv hK hP (ci := 3) (q0 := 0) rfl (MW_0 c5 b (mFs m 0 (0 : Int32)))) hd_X3_packed ⟨Nat.le_of_ble_eq_true rfl, Nat.le_of_ble_eq_true rfl⟩ ⟨rfl, rfl⟩ hl.1 (Nat.le_of_ble_eq_true rfl) dX3_pack_21 ⟨Nat.le_of_ble_eq_true rfl, Nat.le_of_ble_eq_true rfl⟩ rfl) hD hS hA (fun H locs hP hD hS => ?_)
    refine lv_istore_n (i := 2) (lv' := [(2, .int v21.1), (0, .ref (b 0)), (1, .int p1)]) hx hb dX3_pack_24 rfl hl (by decide) rfl (fun ls hl => ?_)
    refine lv_aload_n hx hb dX3_pack_25 rfl (lv_at hl 1 rfl) ?_
    refine lv_dup hx hb dX3_pack_26 rfl ?_
    refine va_get (D := D) (ci := 3) (v := .int (mF v21.2 4)) (C := RX3) (T := TX3) (N := 14) hx hb hts iX3 hown hK hP 0 (MW_0 c5 b v21.2) rfl 4 (by decide) (hts _ wT3_32) (fun _ h9 => h9) rfl dX3_pack_27 ?_
    refine lv_iload_n hx hb dX3_pack_30 rfl (lv_at hl 0 rfl) ?_
    refine lv_iadd hx hb dX3_pack_31 ?_
    refine va_put (D := D) (ci := 3) (v := .int ((mF v21.2 4) + v21.1)) (ty := .int) (C := RX3) (T := TX3) (N := 14) hx hb hts iX3 tyX3 tyX3_ok nmX3 hown hK hP hD hS 0 (MW_0 c5 b v21.2) rfl 4 (by decide) (hts _ wT3_32) (fun _ h9 => h9) rfl (by decide +kernel) rfl rfl (Nat.le_of_ble_eq_true rfl) dX3_pack_32 (fun H locs hP hD hS => ?_)
    have hP := wP (MW_set0 c5 b v21.2 4 (by decide) _) hP
    have hD := wD (MW_set0 c5 b v21.2 4 (by decide) _) hD
    refine lv_iload_n hx hb dX3_pack_35 rfl (lv_at hl 0 rfl) ?_
    obtain rfl := (Option.some.inj h)
    exact rw_iret (wf := fun u => MW c5 b u) hx hb hr hlocks hP hK hD hS dX3_pack_36 rfl
  · have h := o_f' h q
    refine lv_aload_n hx hb dX3_pack_13 rfl (lv_at hl 0 rfl) ?_
    refine lv_iconst (v := (1 : Int32)) hx hb dX3_pack_14 (by decide) ?_
    obtain ⟨v15, e15, h⟩ := o_bind h
    refine rw_calli (rw_runV (As := [.int (1 : Int32)]) (rest := []) ⟨hx, hb, hml, hown, hts⟩ hP hK hD (c_X3_no l D c5 b (mFs m 0 (0 : Int32)) H.size (1 : Int32) v15 e15) gG_RX3_127 (va_recv hK hP (ci := 3) (q0 := 0) rfl (MW_0 c5 b (mFs m 0 (0 : Int32)))) hd_X3_no ⟨Nat.le_of_ble_eq_true rfl, Nat.le_of_ble_eq_true rfl⟩ ⟨rfl, rfl⟩ hl.1 (Nat.le_of_ble_eq_true rfl) dX3_pack_15 ⟨Nat.le_of_ble_eq_true rfl, Nat.le_of_ble_eq_true rfl⟩ rfl) hD hS hA (fun H locs hP hD hS => ?_)
    obtain rfl := (Option.some.inj h)
    exact rw_iret (wf := fun u => MW c5 b u) hx hb hr hlocks hP hK hD hS dX3_pack_18 rfl
set_option maxHeartbeats 4000000 in
set_option maxRecDepth 100000 in
theorem c_X3_shelfTold (l : Launch) (D : va_G) (c5 : Nat → ClassId) (b : Nat → Nat) (m : MSt) (p1 : Int32) (p2 : Int32) (r : Int32) (h : R_X3_shelfTold m p1 p2 = some r) : Met l yX3_shelfTold (ws_ yX3_shelfTold cX3_shelfTold 3 (some .int)) { frames := 2, cells := 0, slots := 0, locals := 43 } (va_Pc [.ref (b 0), .int p1, .int p2] (roB D (tyG c5) (MW c5 b m))) (vp_Si (fun x => x = r)) 0 0 (fun _ => False) := by
  refine Met.ofW (cc := cX3_shelfTold) (maxL := 3) (ret := (some .int)) (by decide) rfl ?_
  intro p e s m9 args below meth c s₁ B hml hv
  obtain ⟨rfl, hP, hK⟩ := hv
  have hx := B.exec
  have hb := B.bytes
  have hr := B.returns
  have hts : ∀ w ∈ LA, w.before _ s = true := fun w hw => atoms_spec (ws := ws_ yX3_shelfTold cX3_shelfTold 3 (some .int)) B.pre w (List.mem_cons_of_mem _ hw)
  have hown : s.vm.findClass RX3 = some m9.cls := findClass_of_methodNamed B.named
  have hlocks := B.notSynchronized
  have hl := lv_entry ([.ref (b 0), .int p1, .int p2] : List Value) (n := 3) (Nat.le_of_ble_eq_true rfl)
  rw [lg_entry_eq]
  generalize (lg_sl ([.ref (b 0), .int p1, .int p2] : List Value) ++ List.replicate (3 - (lg_sl ([.ref (b 0), .int p1, .int p2] : List Value)).length) Slot.unset).toArray = ls at hl ⊢
  have hl : lv_has ls 3 [(0, .ref (b 0)), (1, .int p1), (2, .int p2)] := hl
  unfold R_X3_shelfTold at h
  refine lv_aload_n hx hb dX3_shelfTold_0 rfl (lv_at hl 0 rfl) ?_
  refine lv_iload_n hx hb dX3_shelfTold_1 rfl (lv_at hl 1 rfl) ?_
  obtain ⟨v2, e2, h⟩ := o_bind h
  refine ro_calli (ro_runV (As := [.int p1]) (rest := []) ⟨hx, hb, hml, hown, hts⟩ hP hK (c_X3_isFree l D c5 b m p1 v2 e2) gG_RX3_74 (va_recv hK hP (ci := 3) (q0 := 0) rfl (MW_0 c5 b m)) hd_X3_isFree ⟨Nat.le_of_ble_eq_true rfl, Nat.le_of_ble_eq_true rfl⟩ ⟨rfl, rfl⟩ hl.1 (Nat.le_of_ble_eq_true rfl) dX3_shelfTold_2 ⟨Nat.zero_le _, Nat.zero_le _⟩ rfl) ?_
  refine lv_if_eq (tgt := 23) hx hb dX3_shelfTold_5 (by decide) (fun q => ?_) (fun q => ?_)
  · have h := o_t h q
    refine lv_iload_n hx hb dX3_shelfTold_23 rfl (lv_at hl 2 rfl) ?_
    rcases Decidable.em (p2 = 0) with c24_0 | c24_0
    · have h := o_t h c24_0
      refine lv_tableIn (off := 36) (tgt := 60) hx hb dX3_shelfTold_24 (by rw [c24_0]; decide) (by rw [c24_0]; decide) (by rw [c24_0]; rfl) (by decide) ?_
      refine lv_aload_n hx hb dX3_shelfTold_60 rfl (lv_at hl 0 rfl) ?_
      refine va_get (D := D) (ci := 3) (v := .ref (b 3)) (C := RX3) (T := TX3) (N := 14) hx hb hts iX3 hown hK hP 0 (MW_0 c5 b m) rfl 8 (by decide) (hts _ wT3_36) (fun _ h9 => h9) rfl dX3_shelfTold_61 ?_
      refine lv_iload_n hx hb dX3_shelfTold_64 rfl (lv_at hl 1 rfl) ?_
      obtain ⟨g65, h⟩ := o_if h
      refine va_iald hx hb hK hP 3 3 (MW_3 c5 b m) rfl (inb_in g65) dX3_shelfTold_65 ?_
      exact ro_iret hx hb hr hlocks dX3_shelfTold_66 (Option.some.inj h)
    · have h := o_f h c24_0
      rcases Decidable.em (p2 = 1) with c24_1 | c24_1
      · have h := o_t h c24_1
        refine lv_tableIn (off := 43) (tgt := 67) hx hb dX3_shelfTold_24 (by rw [c24_1]; decide) (by rw [c24_1]; decide) (by rw [c24_1]; rfl) (by decide) ?_
        refine lv_aload_n hx hb dX3_shelfTold_67 rfl (lv_at hl 0 rfl) ?_
        refine lv_iload_n hx hb dX3_shelfTold_68 rfl (lv_at hl 1 rfl) ?_
        obtain ⟨v69, e69, h⟩ := o_bind h
        refine ro_calli (ro_runV (As := [.int p1]) (rest := []) ⟨hx, hb, hml, hown, hts⟩ hP hK (c_X3_many l D c5 b m p1 v69 e69) gG_RX3_51 (va_recv hK hP (ci := 3) (q0 := 0) rfl (MW_0 c5 b m)) hd_X3_many ⟨Nat.le_of_ble_eq_true rfl, Nat.le_of_ble_eq_true rfl⟩ ⟨rfl, rfl⟩ hl.1 (Nat.le_of_ble_eq_true rfl) dX3_shelfTold_69 ⟨Nat.zero_le _, Nat.zero_le _⟩ rfl) ?_
        exact ro_iret hx hb hr hlocks dX3_shelfTold_72 (Option.some.inj h)
      · have h := o_f h c24_1
        rcases Decidable.em (p2 = 2) with c24_2 | c24_2
        · have h := o_t h c24_2
          refine lv_tableIn (off := 49) (tgt := 73) hx hb dX3_shelfTold_24 (by rw [c24_2]; decide) (by rw [c24_2]; decide) (by rw [c24_2]; rfl) (by decide) ?_
          refine lv_aload_n hx hb dX3_shelfTold_73 rfl (lv_at hl 0 rfl) ?_
          refine va_get (D := D) (ci := 3) (v := .ref (b 4)) (C := RX3) (T := TX3) (N := 14) hx hb hts iX3 hown hK hP 0 (MW_0 c5 b m) rfl 9 (by decide) (hts _ wT3_37) (fun _ h9 => h9) rfl dX3_shelfTold_74 ?_
          refine lv_iload_n hx hb dX3_shelfTold_77 rfl (lv_at hl 1 rfl) ?_
          obtain ⟨g78, h⟩ := o_if h
          refine va_iald hx hb hK hP 4 3 (MW_4 c5 b m) rfl (inb_in g78) dX3_shelfTold_78 ?_
          exact ro_iret hx hb hr hlocks dX3_shelfTold_79 (Option.some.inj h)
        · have h := o_f h c24_2
          rcases Decidable.em (p2 = 3) with c24_3 | c24_3
          · have h := o_t h c24_3
            refine lv_tableIn (off := 56) (tgt := 80) hx hb dX3_shelfTold_24 (by rw [c24_3]; decide) (by rw [c24_3]; decide) (by rw [c24_3]; rfl) (by decide) ?_
            refine lv_aload_n hx hb dX3_shelfTold_80 rfl (lv_at hl 0 rfl) ?_
            refine lv_aload_n hx hb dX3_shelfTold_81 rfl (lv_at hl 0 rfl) ?_
            refine va_get (D := D) (ci := 3) (v := .ref (b 3)) (C := RX3) (T := TX3) (N := 14) hx hb hts iX3 hown hK hP 0 (MW_0 c5 b m) rfl 8 (by decide) (hts _ wT3_36) (fun _ h9 => h9) rfl dX3_shelfTold_82 ?_
            refine lv_iload_n hx hb dX3_shelfTold_85 rfl (lv_at hl 1 rfl) ?_
            obtain ⟨g86, h⟩ := o_if h
            refine va_iald hx hb hK hP 3 3 (MW_3 c5 b m) rfl (inb_in g86) dX3_shelfTold_86 ?_
            obtain ⟨v87, e87, h⟩ := o_bind h
            refine ro_calli (ro_runV (As := [.int (mA m 2 (p1.toNatClampNeg))]) (rest := []) ⟨hx, hb, hml, hown, hts⟩ hP hK (c_X3_places l D c5 b m (mA m 2 (p1.toNatClampNeg)) v87 e87) gG_RX3_54 (va_recv hK hP (ci := 3) (q0 := 0) rfl (MW_0 c5 b m)) hd_X3_places ⟨Nat.le_of_ble_eq_true rfl, Nat.le_of_ble_eq_true rfl⟩ ⟨rfl, rfl⟩ hl.1 (Nat.le_of_ble_eq_true rfl) dX3_shelfTold_87 ⟨Nat.zero_le _, Nat.zero_le _⟩ rfl) ?_
            exact ro_iret hx hb hr hlocks dX3_shelfTold_90 (Option.some.inj h)
          · have h := o_f h c24_3
            rcases Decidable.em (p2 = 4) with c24_4 | c24_4
            · have h := o_t h c24_4
              refine lv_tableIn (off := 67) (tgt := 91) hx hb dX3_shelfTold_24 (by rw [c24_4]; decide) (by rw [c24_4]; decide) (by rw [c24_4]; rfl) (by decide) ?_
              refine lv_aload_n hx hb dX3_shelfTold_91 rfl (lv_at hl 0 rfl) ?_
              refine lv_iload_n hx hb dX3_shelfTold_92 rfl (lv_at hl 1 rfl) ?_
              obtain ⟨v93, e93, h⟩ := o_bind h
              refine ro_calli (ro_runV (As := [.int p1]) (rest := []) ⟨hx, hb, hml, hown, hts⟩ hP hK (c_X3_hole l D c5 b m p1 v93 e93) gG_RX3_86 (va_recv hK hP (ci := 3) (q0 := 0) rfl (MW_0 c5 b m)) hd_X3_hole ⟨Nat.le_of_ble_eq_true rfl, Nat.le_of_ble_eq_true rfl⟩ ⟨rfl, rfl⟩ hl.1 (Nat.le_of_ble_eq_true rfl) dX3_shelfTold_93 ⟨Nat.zero_le _, Nat.zero_le _⟩ rfl) ?_
              exact ro_iret hx hb hr hlocks dX3_shelfTold_96 (Option.some.inj h)
            · have h := o_f h c24_4
              have n24_0 := lv_neT (a := 0) c24_0 rfl
              have n24_1 := lv_neT (a := 1) c24_1 rfl
              have n24_2 := lv_neT (a := 2) c24_2 rfl
              have n24_3 := lv_neT (a := 3) c24_3 rfl
              have n24_4 := lv_neT (a := 4) c24_4 rfl
              refine lv_tableOut (tgt := 97) hx hb dX3_shelfTold_24 (by omega) (by decide) ?_
              refine lv_aload_n hx hb dX3_shelfTold_97 rfl (lv_at hl 0 rfl) ?_
              refine va_get (D := D) (ci := 3) (v := .ref (b 6)) (C := RX3) (T := TX3) (N := 14) hx hb hts iX3 hown hK hP 0 (MW_0 c5 b m) rfl 11 (by decide) (hts _ wT3_39) (fun _ h9 => h9) rfl dX3_shelfTold_98 ?_
              refine lv_iload_n hx hb dX3_shelfTold_101 rfl (lv_at hl 1 rfl) ?_
              obtain ⟨g102, h⟩ := o_if h
              refine va_iald hx hb hK hP 6 3 (MW_6 c5 b m) rfl (inb_in g102) dX3_shelfTold_102 ?_
              exact ro_iret hx hb hr hlocks dX3_shelfTold_103 (Option.some.inj h)
  · have h := o_f h q
    refine lv_iload_n hx hb dX3_shelfTold_8 rfl (lv_at hl 2 rfl) ?_
    refine lv_if_eq (tgt := 17) hx hb dX3_shelfTold_9 (by decide) (fun q => ?_) (fun q => ?_)
    · have h := o_t h q
      refine lv_iconst (v := (-1 : Int32)) hx hb dX3_shelfTold_17 (by decide) ?_
      refine lv_goto (tgt := 22) hx hb dX3_shelfTold_18 (by decide) ?_
      exact ro_iret hx hb hr hlocks dX3_shelfTold_22 (Option.some.inj h)
    · have h := o_f h q
      refine lv_iload_n hx hb dX3_shelfTold_12 rfl (lv_at hl 2 rfl) ?_
      refine lv_iconst (v := (3 : Int32)) hx hb dX3_shelfTold_13 (by decide) ?_
      refine lv_icmp_le (tgt := 21) hx hb dX3_shelfTold_14 (by decide) (fun q => ?_) (fun q => ?_)
      · have h := o_t h q
        refine lv_iconst (v := (0 : Int32)) hx hb dX3_shelfTold_21 (by decide) ?_
        exact ro_iret hx hb hr hlocks dX3_shelfTold_22 (Option.some.inj h)
      · have h := o_f h q
        refine lv_iconst (v := (-1 : Int32)) hx hb dX3_shelfTold_17 (by decide) ?_
        refine lv_goto (tgt := 22) hx hb dX3_shelfTold_18 (by decide) ?_
        exact ro_iret hx hb hr hlocks dX3_shelfTold_22 (Option.some.inj h)
set_option maxHeartbeats 4000000 in
set_option maxRecDepth 100000 in
theorem c_X3_shelf (l : Launch) (D : va_G) (c5 : Nat → ClassId) (b : Nat → Nat) (m : MSt) (sz : Nat) (p1 : Int32) (p2 : Int32) (r : Int32 × MSt) (h : R_X3_shelf m p1 p2 = some r) : Met l yX3_shelf (ws_ yX3_shelf cX3_shelf 3 (some .int)) { frames := 3, cells := 0, slots := 0, locals := 65 } (va_Pc [.ref (b 0), .int p1, .int p2] (rwB D (tyG c5) (MW c5 b m) sz)) (va_Qi (fun x u => x = r.1 ∧ u = r.2) (rwE D (tyG c5) (va_A (MW c5 b m) sz) (fun u => MW c5 b u)) (va_A (MW c5 b m) sz)) 0 0 (va_A (MW c5 b m) sz) := by
  refine Met.ofW (cc := cX3_shelf) (maxL := 3) (ret := (some .int)) (by decide) rfl ?_
  intro p e s m9 args below meth c s₁ B hml hv
  obtain ⟨rfl, hsz, hP, hK, hD0⟩ := hv
  have hx := B.exec
  have hb := B.bytes
  have hr := B.returns
  have hts : ∀ w ∈ LA, w.before _ s = true := fun w hw => atoms_spec (ws := ws_ yX3_shelf cX3_shelf 3 (some .int)) B.pre w (List.mem_cons_of_mem _ hw)
  have hown : s.vm.findClass RX3 = some m9.cls := findClass_of_methodNamed B.named
  have hlocks := B.notSynchronized
  subst hsz
  have hD := hD0.self (sz := s.heap.size)
  generalize hAe : va_A (MW c5 b m) s.heap.size = A at hD ⊢
  have hA : ∀ q : Nat, s.heap.size ≤ q → A q := fun q h => by rw [← hAe]; exact Or.inr h
  have hS : va_S A s.heap s.heap [] := va_S.rf
  have hl := lv_entry ([.ref (b 0), .int p1, .int p2] : List Value) (n := 3) (Nat.le_of_ble_eq_true rfl)
  rw [lg_entry_eq]
  generalize (lg_sl ([.ref (b 0), .int p1, .int p2] : List Value) ++ List.replicate (3 - (lg_sl ([.ref (b 0), .int p1, .int p2] : List Value)).length) Slot.unset).toArray = ls at hl ⊢
  have hl : lv_has ls 3 [(0, .ref (b 0)), (1, .int p1), (2, .int p2)] := hl
  unfold R_X3_shelf at h
  refine lv_aload_n hx hb dX3_shelf_0 rfl (lv_at hl 0 rfl) ?_
  refine lv_iconst (v := (0 : Int32)) hx hb dX3_shelf_1 (by decide) ?_
  refine va_put (D := D) (ci := 3) (v := .int (0 : Int32)) (ty := .int) (C := RX3) (T := TX3) (N := 14) hx hb hts iX3 tyX3 tyX3_ok nmX3 hown hK hP hD hS 0 (MW_0 c5 b m) rfl 0 (by decide) (hts _ wT3_28) (fun _ h9 => h9) rfl (by decide +kernel) rfl rfl (Nat.le_of_ble_eq_true rfl) dX3_shelf_2 (fun H locs hP hD hS => ?_)
  have hP := wP (MW_set0 c5 b m 0 (by decide) _) hP
  have hD := wD (MW_set0 c5 b m 0 (by decide) _) hD
  refine lv_iload_n hx hb dX3_shelf_5 rfl (lv_at hl 1 rfl) ?_
  refine lv_iconst (v := (0 : Int32)) hx hb dX3_shelf_6 (by decide) ?_
  refine lv_bipush (v := (11 : Int32)) hx hb dX3_shelf_7 (by decide) ?_
  obtain ⟨v9, e9, h⟩ := o_bind h
  refine ro_calli (ro_runS (As := [.int p1, .int (0 : Int32), .int (11 : Int32)]) (rest := []) ⟨hx, hb, hml, hown, hts⟩ hP hK (c_X3_isIn l D (tyG c5) (MW c5 b (mFs m 0 (0 : Int32))) p1 (0 : Int32) (11 : Int32) v9 e9) gG_RX3_41 hd_X3_isIn ⟨Nat.le_of_ble_eq_true rfl, Nat.le_of_ble_eq_true rfl⟩ ⟨rfl, rfl⟩ hl.1 (Nat.le_of_ble_eq_true rfl) dX3_shelf_9 ⟨Nat.zero_le _, Nat.zero_le _⟩ rfl) ?_
  refine lv_if_eq (tgt := 33) hx hb dX3_shelf_12 (by decide) (fun q => ?_) (fun q => ?_)
  · have h := o_t h q
    refine lv_aload_n hx hb dX3_shelf_33 rfl (lv_at hl 0 rfl) ?_
    refine lv_iconst (v := (1 : Int32)) hx hb dX3_shelf_34 (by decide) ?_
    obtain ⟨v35, e35, h⟩ := o_bind h
    refine rw_calli (rw_runV (As := [.int (1 : Int32)]) (rest := []) ⟨hx, hb, hml, hown, hts⟩ hP hK hD (c_X3_no l D c5 b (mFs m 0 (0 : Int32)) H.size (1 : Int32) v35 e35) gG_RX3_127 (va_recv hK hP (ci := 3) (q0 := 0) rfl (MW_0 c5 b (mFs m 0 (0 : Int32)))) hd_X3_no ⟨Nat.le_of_ble_eq_true rfl, Nat.le_of_ble_eq_true rfl⟩ ⟨rfl, rfl⟩ hl.1 (Nat.le_of_ble_eq_true rfl) dX3_shelf_35 ⟨Nat.le_of_ble_eq_true rfl, Nat.le_of_ble_eq_true rfl⟩ rfl) hD hS hA (fun H locs hP hD hS => ?_)
    obtain rfl := (Option.some.inj h)
    exact rw_iret (wf := fun u => MW c5 b u) hx hb hr hlocks hP hK hD hS dX3_shelf_38 rfl
  · have h := o_f h q
    refine lv_iload_n hx hb dX3_shelf_15 rfl (lv_at hl 2 rfl) ?_
    refine lv_iconst (v := (0 : Int32)) hx hb dX3_shelf_16 (by decide) ?_
    refine lv_iconst (v := (5 : Int32)) hx hb dX3_shelf_17 (by decide) ?_
    obtain ⟨v18, e18, h⟩ := o_bind h
    refine ro_calli (ro_runS (As := [.int p2, .int (0 : Int32), .int (5 : Int32)]) (rest := []) ⟨hx, hb, hml, hown, hts⟩ hP hK (c_X3_isIn l D (tyG c5) (MW c5 b (mFs m 0 (0 : Int32))) p2 (0 : Int32) (5 : Int32) v18 e18) gG_RX3_41 hd_X3_isIn ⟨Nat.le_of_ble_eq_true rfl, Nat.le_of_ble_eq_true rfl⟩ ⟨rfl, rfl⟩ hl.1 (Nat.le_of_ble_eq_true rfl) dX3_shelf_18 ⟨Nat.zero_le _, Nat.zero_le _⟩ rfl) ?_
    refine lv_if_eq (tgt := 33) hx hb dX3_shelf_21 (by decide) (fun q => ?_) (fun q => ?_)
    · have h := o_t h q
      refine lv_aload_n hx hb dX3_shelf_33 rfl (lv_at hl 0 rfl) ?_
      refine lv_iconst (v := (1 : Int32)) hx hb dX3_shelf_34 (by decide) ?_
      obtain ⟨v35, e35, h⟩ := o_bind h
      refine rw_calli (rw_runV (As := [.int (1 : Int32)]) (rest := []) ⟨hx, hb, hml, hown, hts⟩ hP hK hD (c_X3_no l D c5 b (mFs m 0 (0 : Int32)) H.size (1 : Int32) v35 e35) gG_RX3_127 (va_recv hK hP (ci := 3) (q0 := 0) rfl (MW_0 c5 b (mFs m 0 (0 : Int32)))) hd_X3_no ⟨Nat.le_of_ble_eq_true rfl, Nat.le_of_ble_eq_true rfl⟩ ⟨rfl, rfl⟩ hl.1 (Nat.le_of_ble_eq_true rfl) dX3_shelf_35 ⟨Nat.le_of_ble_eq_true rfl, Nat.le_of_ble_eq_true rfl⟩ rfl) hD hS hA (fun H locs hP hD hS => ?_)
      obtain rfl := (Option.some.inj h)
      exact rw_iret (wf := fun u => MW c5 b u) hx hb hr hlocks hP hK hD hS dX3_shelf_38 rfl
    · have h := o_f h q
      refine lv_aload_n hx hb dX3_shelf_24 rfl (lv_at hl 0 rfl) ?_
      refine lv_iload_n hx hb dX3_shelf_25 rfl (lv_at hl 1 rfl) ?_
      refine lv_iload_n hx hb dX3_shelf_26 rfl (lv_at hl 2 rfl) ?_
      obtain ⟨v27, e27, h⟩ := o_bind h
      refine ro_calli (ro_runV (As := [.int p1, .int p2]) (rest := []) ⟨hx, hb, hml, hown, hts⟩ hP hK (c_X3_shelfTold l D c5 b (mFs m 0 (0 : Int32)) p1 p2 v27 e27) gG_RX3_145 (va_recv hK hP (ci := 3) (q0 := 0) rfl (MW_0 c5 b (mFs m 0 (0 : Int32)))) hd_X3_shelfTold ⟨Nat.le_of_ble_eq_true rfl, Nat.le_of_ble_eq_true rfl⟩ ⟨rfl, rfl⟩ hl.1 (Nat.le_of_ble_eq_true rfl) dX3_shelf_27 ⟨Nat.zero_le _, Nat.zero_le _⟩ rfl) ?_
      refine lv_goto (tgt := 38) hx hb dX3_shelf_30 (by decide) ?_
      obtain rfl := (Option.some.inj h)
      exact rw_iret (wf := fun u => MW c5 b u) hx hb hr hlocks hP hK hD hS dX3_shelf_38 rfl
set_option maxHeartbeats 4000000 in
set_option maxRecDepth 100000 in
theorem c_X3_bowlsOf (l : Launch) (D : va_G) (c5 : Nat → ClassId) (b : Nat → Nat) (m : MSt) (p1 : Int32) (r : Int32) (h : R_X3_bowlsOf m p1 = some r) : Met l yX3_bowlsOf (ws_ yX3_bowlsOf cX3_bowlsOf 4 (some .int)) { frames := 2, cells := 0, slots := 0, locals := 41 } (va_Pc [.ref (b 0), .int p1] (roB D (tyG c5) (MW c5 b m))) (vp_Si (fun x => x = r)) 0 0 (fun _ => False) := by
  refine Met.ofW (cc := cX3_bowlsOf) (maxL := 4) (ret := (some .int)) (by decide) rfl ?_
  intro p e s m9 args below meth c s₁ B hml hv
  obtain ⟨rfl, hP, hK⟩ := hv
  have hx := B.exec
  have hb := B.bytes
  have hr := B.returns
  have hts : ∀ w ∈ LA, w.before _ s = true := fun w hw => atoms_spec (ws := ws_ yX3_bowlsOf cX3_bowlsOf 4 (some .int)) B.pre w (List.mem_cons_of_mem _ hw)
  have hown : s.vm.findClass RX3 = some m9.cls := findClass_of_methodNamed B.named
  have hlocks := B.notSynchronized
  have hl := lv_entry ([.ref (b 0), .int p1] : List Value) (n := 4) (Nat.le_of_ble_eq_true rfl)
  rw [lg_entry_eq]
  generalize (lg_sl ([.ref (b 0), .int p1] : List Value) ++ List.replicate (4 - (lg_sl ([.ref (b 0), .int p1] : List Value)).length) Slot.unset).toArray = ls at hl ⊢
  have hl : lv_has ls 4 [(0, .ref (b 0)), (1, .int p1)] := hl
  unfold R_X3_bowlsOf at h
  refine lv_iconst (v := (0 : Int32)) hx hb dX3_bowlsOf_0 (by decide) ?_
  refine lv_istore_n (i := 2) (lv' := [(2, .int (0 : Int32)), (0, .ref (b 0)), (1, .int p1)]) hx hb dX3_bowlsOf_1 rfl hl (by decide) rfl (fun ls hl => ?_)
  refine lv_iconst (v := (0 : Int32)) hx hb dX3_bowlsOf_2 (by decide) ?_
  refine lv_istore_n (i := 3) (lv' := [(3, .int (0 : Int32)), (2, .int (0 : Int32)), (0, .ref (b 0)), (1, .int p1)]) hx hb dX3_bowlsOf_3 rfl hl (by decide) rfl (fun ls hl => ?_)
  have L4 : ∀ (n : Nat) (x2_4 : Int32) (x3_4 : Int32) (ls : Array Slot), lv_has ls 4 [(0, .ref (b 0)), (1, .int p1), (2, .int x2_4), (3, .int x3_4)] → R_X3_bowlsOf_L4 m p1 n x2_4 x3_4 = some r → W p l e (headSpec (ws_ yX3_bowlsOf cX3_bowlsOf 4 (some .int)) { frames := 2, cells := 0, slots := 0, locals := 41 }).room s m9 ([.ref (b 0), .int p1] : List Value).toArray below meth c s.heap [] 0 0 (MQ below (vp_Si (fun x => x = r)) ([.ref (b 0), .int p1] : List Value).toArray s 0 0 (fun _ => False)) (F0 m9 4 ls []) := by
    intro n
    induction n with
    | zero =>
      intro x2_4 x3_4 ls hl h
      exact absurd h (by simp [R_X3_bowlsOf_L4])
    | succ n ih =>
      intro x2_4 x3_4 ls hl h
      rw [R_X3_bowlsOf_L4] at h
      refine lv_iload_n hx hb dX3_bowlsOf_4 rfl (lv_at hl 3 rfl) ?_
      refine lv_bipush (v := (12 : Int32)) hx hb dX3_bowlsOf_5 (by decide) ?_
      refine lv_icmp_ge (tgt := 38) hx hb dX3_bowlsOf_7 (by decide) (fun q => ?_) (fun q => ?_)
      · have h := o_t h q
        refine lv_iload_n hx hb dX3_bowlsOf_38 rfl (lv_at hl 2 rfl) ?_
        exact ro_iret hx hb hr hlocks dX3_bowlsOf_39 (Option.some.inj h)
      · have h := o_f h q
        refine lv_iload_n hx hb dX3_bowlsOf_10 rfl (lv_at hl 2 rfl) ?_
        refine lv_aload_n hx hb dX3_bowlsOf_11 rfl (lv_at hl 0 rfl) ?_
        refine va_get (D := D) (ci := 3) (v := .ref (b 3)) (C := RX3) (T := TX3) (N := 14) hx hb hts iX3 hown hK hP 0 (MW_0 c5 b m) rfl 8 (by decide) (hts _ wT3_36) (fun _ h9 => h9) rfl dX3_bowlsOf_12 ?_
        refine lv_iload_n hx hb dX3_bowlsOf_15 rfl (lv_at hl 3 rfl) ?_
        obtain ⟨g16, h⟩ := o_if h
        refine va_iald hx hb hK hP 3 3 (MW_3 c5 b m) rfl (inb_in g16) dX3_bowlsOf_16 ?_
        refine lv_iload_n hx hb dX3_bowlsOf_17 rfl (lv_at hl 1 rfl) ?_
        refine lv_icmp_ne (tgt := 29) hx hb dX3_bowlsOf_18 (by decide) (fun q => ?_) (fun q => ?_)
        · have h := o_t' h q
          refine lv_iconst (v := (0 : Int32)) hx hb dX3_bowlsOf_29 (by decide) ?_
          refine lv_iadd hx hb dX3_bowlsOf_30 ?_
          refine lv_istore_n (i := 2) (lv' := [(2, .int (x2_4 + (0 : Int32))), (0, .ref (b 0)), (1, .int p1), (3, .int x3_4)]) hx hb dX3_bowlsOf_31 rfl hl (by decide) rfl (fun ls hl => ?_)
          refine lv_iinc (v := (x3_4 + (1 : Int32))) (lv' := [(3, .int (x3_4 + (1 : Int32))), (2, .int (x2_4 + (0 : Int32))), (0, .ref (b 0)), (1, .int p1)]) hx hb dX3_bowlsOf_32 hl (k := 3) rfl rfl (by decide) rfl (fun ls hl => ?_)
          refine lv_goto (tgt := 4) hx hb dX3_bowlsOf_35 (by decide) ?_
          exact ih (x2_4 + (0 : Int32)) (x3_4 + (1 : Int32))  ls (lv_sub hl [2, 3, 1, 0] rfl) h
        · have h := o_f' h q
          refine lv_aload_n hx hb dX3_bowlsOf_21 rfl (lv_at hl 0 rfl) ?_
          refine lv_iload_n hx hb dX3_bowlsOf_22 rfl (lv_at hl 3 rfl) ?_
          obtain ⟨v23, e23, h⟩ := o_bind h
          refine ro_calli (ro_runV (As := [.int x3_4]) (rest := [.int x2_4]) ⟨hx, hb, hml, hown, hts⟩ hP hK (c_X3_many l D c5 b m x3_4 v23 e23) gG_RX3_51 (va_recv hK hP (ci := 3) (q0 := 0) rfl (MW_0 c5 b m)) hd_X3_many ⟨Nat.le_of_ble_eq_true rfl, Nat.le_of_ble_eq_true rfl⟩ ⟨rfl, rfl⟩ hl.1 (Nat.le_of_ble_eq_true rfl) dX3_bowlsOf_23 ⟨Nat.zero_le _, Nat.zero_le _⟩ rfl) ?_
          refine lv_goto (tgt := 30) hx hb dX3_bowlsOf_26 (by decide) ?_
          refine lv_iadd hx hb dX3_bowlsOf_30 ?_
          refine lv_istore_n (i := 2) (lv' := [(2, .int (x2_4 + v23)), (0, .ref (b 0)), (1, .int p1), (3, .int x3_4)]) hx hb dX3_bowlsOf_31 rfl hl (by decide) rfl (fun ls hl => ?_)
          refine lv_iinc (v := (x3_4 + (1 : Int32))) (lv' := [(3, .int (x3_4 + (1 : Int32))), (2, .int (x2_4 + v23)), (0, .ref (b 0)), (1, .int p1)]) hx hb dX3_bowlsOf_32 hl (k := 3) rfl rfl (by decide) rfl (fun ls hl => ?_)
          refine lv_goto (tgt := 4) hx hb dX3_bowlsOf_35 (by decide) ?_
          exact ih (x2_4 + v23) (x3_4 + (1 : Int32))  ls (lv_sub hl [2, 3, 1, 0] rfl) h
  exact L4 FU (0 : Int32) (0 : Int32)  ls (lv_sub hl [2, 3, 1, 0] rfl) h
set_option maxHeartbeats 4000000 in
set_option maxRecDepth 100000 in
theorem c_X3_kindTold (l : Launch) (D : va_G) (c5 : Nat → ClassId) (b : Nat → Nat) (m : MSt) (p1 : Int32) (p2 : Int32) (r : Int32) (h : R_X3_kindTold m p1 p2 = some r) : Met l yX3_kindTold (ws_ yX3_kindTold cX3_kindTold 3 (some .int)) { frames := 5, cells := 0, slots := 0, locals := 108 } (va_Pc [.ref (b 0), .int p1, .int p2] (roB D (tyG c5) (MW c5 b m))) (vp_Si (fun x => x = r)) 0 0 (fun _ => False) := by
  refine Met.ofW (cc := cX3_kindTold) (maxL := 3) (ret := (some .int)) (by decide) rfl ?_
  intro p e s m9 args below meth c s₁ B hml hv
  obtain ⟨rfl, hP, hK⟩ := hv
  have hx := B.exec
  have hb := B.bytes
  have hr := B.returns
  have hts : ∀ w ∈ LA, w.before _ s = true := fun w hw => atoms_spec (ws := ws_ yX3_kindTold cX3_kindTold 3 (some .int)) B.pre w (List.mem_cons_of_mem _ hw)
  have hown : s.vm.findClass RX3 = some m9.cls := findClass_of_methodNamed B.named
  have hlocks := B.notSynchronized
  have hl := lv_entry ([.ref (b 0), .int p1, .int p2] : List Value) (n := 3) (Nat.le_of_ble_eq_true rfl)
  rw [lg_entry_eq]
  generalize (lg_sl ([.ref (b 0), .int p1, .int p2] : List Value) ++ List.replicate (3 - (lg_sl ([.ref (b 0), .int p1, .int p2] : List Value)).length) Slot.unset).toArray = ls at hl ⊢
  have hl : lv_has ls 3 [(0, .ref (b 0)), (1, .int p1), (2, .int p2)] := hl
  unfold R_X3_kindTold at h
  refine lv_iload_n hx hb dX3_kindTold_0 rfl (lv_at hl 2 rfl) ?_
  rcases Decidable.em (p2 = 0) with c1_0 | c1_0
  · have h := o_t h c1_0
    refine lv_tableIn (off := 51) (tgt := 52) hx hb dX3_kindTold_1 (by rw [c1_0]; decide) (by rw [c1_0]; decide) (by rw [c1_0]; rfl) (by decide) ?_
    refine lv_aload_n hx hb dX3_kindTold_52 rfl (lv_at hl 0 rfl) ?_
    refine va_get (D := D) (ci := 3) (v := .ref (b 1)) (C := RX3) (T := TX3) (N := 14) hx hb hts iX3 hown hK hP 0 (MW_0 c5 b m) rfl 6 (by decide) (hts _ wT3_34) (fun _ h9 => h9) rfl dX3_kindTold_53 ?_
    refine lv_iload_n hx hb dX3_kindTold_56 rfl (lv_at hl 1 rfl) ?_
    obtain ⟨g57, h⟩ := o_if h
    refine va_iald hx hb hK hP 1 3 (MW_1 c5 b m) rfl (inb_in g57) dX3_kindTold_57 ?_
    exact ro_iret hx hb hr hlocks dX3_kindTold_58 (Option.some.inj h)
  · have h := o_f h c1_0
    rcases Decidable.em (p2 = 1) with c1_1 | c1_1
    · have h := o_t h c1_1
      refine lv_tableIn (off := 58) (tgt := 59) hx hb dX3_kindTold_1 (by rw [c1_1]; decide) (by rw [c1_1]; decide) (by rw [c1_1]; rfl) (by decide) ?_
      refine lv_aload_n hx hb dX3_kindTold_59 rfl (lv_at hl 0 rfl) ?_
      refine lv_iload_n hx hb dX3_kindTold_60 rfl (lv_at hl 1 rfl) ?_
      obtain ⟨v61, e61, h⟩ := o_bind h
      refine ro_calli (ro_runV (As := [.int p1]) (rest := []) ⟨hx, hb, hml, hown, hts⟩ hP hK (c_X3_places l D c5 b m p1 v61 e61) gG_RX3_54 (va_recv hK hP (ci := 3) (q0 := 0) rfl (MW_0 c5 b m)) hd_X3_places ⟨Nat.le_of_ble_eq_true rfl, Nat.le_of_ble_eq_true rfl⟩ ⟨rfl, rfl⟩ hl.1 (Nat.le_of_ble_eq_true rfl) dX3_kindTold_61 ⟨Nat.zero_le _, Nat.zero_le _⟩ rfl) ?_
      exact ro_iret hx hb hr hlocks dX3_kindTold_64 (Option.some.inj h)
    · have h := o_f h c1_1
      rcases Decidable.em (p2 = 2) with c1_2 | c1_2
      · have h := o_t h c1_2
        refine lv_tableIn (off := 64) (tgt := 65) hx hb dX3_kindTold_1 (by rw [c1_2]; decide) (by rw [c1_2]; decide) (by rw [c1_2]; rfl) (by decide) ?_
        refine lv_aload_n hx hb dX3_kindTold_65 rfl (lv_at hl 0 rfl) ?_
        refine lv_iload_n hx hb dX3_kindTold_66 rfl (lv_at hl 1 rfl) ?_
        obtain ⟨v67, e67, h⟩ := o_bind h
        refine ro_calli (ro_runV (As := [.int p1]) (rest := []) ⟨hx, hb, hml, hown, hts⟩ hP hK (c_X3_rest l D c5 b m p1 v67 e67) gG_RX3_77 (va_recv hK hP (ci := 3) (q0 := 0) rfl (MW_0 c5 b m)) hd_X3_rest ⟨Nat.le_of_ble_eq_true rfl, Nat.le_of_ble_eq_true rfl⟩ ⟨rfl, rfl⟩ hl.1 (Nat.le_of_ble_eq_true rfl) dX3_kindTold_67 ⟨Nat.zero_le _, Nat.zero_le _⟩ rfl) ?_
        exact ro_iret hx hb hr hlocks dX3_kindTold_70 (Option.some.inj h)
      · have h := o_f h c1_2
        rcases Decidable.em (p2 = 3) with c1_3 | c1_3
        · have h := o_t h c1_3
          refine lv_tableIn (off := 83) (tgt := 84) hx hb dX3_kindTold_1 (by rw [c1_3]; decide) (by rw [c1_3]; decide) (by rw [c1_3]; rfl) (by decide) ?_
          refine lv_aload_n hx hb dX3_kindTold_84 rfl (lv_at hl 0 rfl) ?_
          refine lv_iload_n hx hb dX3_kindTold_85 rfl (lv_at hl 1 rfl) ?_
          refine lv_iload_n hx hb dX3_kindTold_86 rfl (lv_at hl 2 rfl) ?_
          refine lv_iconst (v := (3 : Int32)) hx hb dX3_kindTold_87 (by decide) ?_
          refine lv_isub hx hb dX3_kindTold_88 ?_
          obtain ⟨v89, e89, h⟩ := o_bind h
          refine ro_calli (ro_runV (As := [.int p1, .int (p2 - (3 : Int32))]) (rest := []) ⟨hx, hb, hml, hown, hts⟩ hP hK (c_X3_shelvesOf l D c5 b m p1 (p2 - (3 : Int32)) v89 e89) gG_RX3_121 (va_recv hK hP (ci := 3) (q0 := 0) rfl (MW_0 c5 b m)) hd_X3_shelvesOf ⟨Nat.le_of_ble_eq_true rfl, Nat.le_of_ble_eq_true rfl⟩ ⟨rfl, rfl⟩ hl.1 (Nat.le_of_ble_eq_true rfl) dX3_kindTold_89 ⟨Nat.zero_le _, Nat.zero_le _⟩ rfl) ?_
          exact ro_iret hx hb hr hlocks dX3_kindTold_92 (Option.some.inj h)
        · have h := o_f h c1_3
          rcases Decidable.em (p2 = 4) with c1_4 | c1_4
          · have h := o_t h c1_4
            refine lv_tableIn (off := 83) (tgt := 84) hx hb dX3_kindTold_1 (by rw [c1_4]; decide) (by rw [c1_4]; decide) (by rw [c1_4]; rfl) (by decide) ?_
            refine lv_aload_n hx hb dX3_kindTold_84 rfl (lv_at hl 0 rfl) ?_
            refine lv_iload_n hx hb dX3_kindTold_85 rfl (lv_at hl 1 rfl) ?_
            refine lv_iload_n hx hb dX3_kindTold_86 rfl (lv_at hl 2 rfl) ?_
            refine lv_iconst (v := (3 : Int32)) hx hb dX3_kindTold_87 (by decide) ?_
            refine lv_isub hx hb dX3_kindTold_88 ?_
            obtain ⟨v89, e89, h⟩ := o_bind h
            refine ro_calli (ro_runV (As := [.int p1, .int (p2 - (3 : Int32))]) (rest := []) ⟨hx, hb, hml, hown, hts⟩ hP hK (c_X3_shelvesOf l D c5 b m p1 (p2 - (3 : Int32)) v89 e89) gG_RX3_121 (va_recv hK hP (ci := 3) (q0 := 0) rfl (MW_0 c5 b m)) hd_X3_shelvesOf ⟨Nat.le_of_ble_eq_true rfl, Nat.le_of_ble_eq_true rfl⟩ ⟨rfl, rfl⟩ hl.1 (Nat.le_of_ble_eq_true rfl) dX3_kindTold_89 ⟨Nat.zero_le _, Nat.zero_le _⟩ rfl) ?_
            exact ro_iret hx hb hr hlocks dX3_kindTold_92 (Option.some.inj h)
          · have h := o_f h c1_4
            rcases Decidable.em (p2 = 5) with c1_5 | c1_5
            · have h := o_t h c1_5
              refine lv_tableIn (off := 83) (tgt := 84) hx hb dX3_kindTold_1 (by rw [c1_5]; decide) (by rw [c1_5]; decide) (by rw [c1_5]; rfl) (by decide) ?_
              refine lv_aload_n hx hb dX3_kindTold_84 rfl (lv_at hl 0 rfl) ?_
              refine lv_iload_n hx hb dX3_kindTold_85 rfl (lv_at hl 1 rfl) ?_
              refine lv_iload_n hx hb dX3_kindTold_86 rfl (lv_at hl 2 rfl) ?_
              refine lv_iconst (v := (3 : Int32)) hx hb dX3_kindTold_87 (by decide) ?_
              refine lv_isub hx hb dX3_kindTold_88 ?_
              obtain ⟨v89, e89, h⟩ := o_bind h
              refine ro_calli (ro_runV (As := [.int p1, .int (p2 - (3 : Int32))]) (rest := []) ⟨hx, hb, hml, hown, hts⟩ hP hK (c_X3_shelvesOf l D c5 b m p1 (p2 - (3 : Int32)) v89 e89) gG_RX3_121 (va_recv hK hP (ci := 3) (q0 := 0) rfl (MW_0 c5 b m)) hd_X3_shelvesOf ⟨Nat.le_of_ble_eq_true rfl, Nat.le_of_ble_eq_true rfl⟩ ⟨rfl, rfl⟩ hl.1 (Nat.le_of_ble_eq_true rfl) dX3_kindTold_89 ⟨Nat.zero_le _, Nat.zero_le _⟩ rfl) ?_
              exact ro_iret hx hb hr hlocks dX3_kindTold_92 (Option.some.inj h)
            · have h := o_f h c1_5
              rcases Decidable.em (p2 = 6) with c1_6 | c1_6
              · have h := o_t h c1_6
                refine lv_tableIn (off := 83) (tgt := 84) hx hb dX3_kindTold_1 (by rw [c1_6]; decide) (by rw [c1_6]; decide) (by rw [c1_6]; rfl) (by decide) ?_
                refine lv_aload_n hx hb dX3_kindTold_84 rfl (lv_at hl 0 rfl) ?_
                refine lv_iload_n hx hb dX3_kindTold_85 rfl (lv_at hl 1 rfl) ?_
                refine lv_iload_n hx hb dX3_kindTold_86 rfl (lv_at hl 2 rfl) ?_
                refine lv_iconst (v := (3 : Int32)) hx hb dX3_kindTold_87 (by decide) ?_
                refine lv_isub hx hb dX3_kindTold_88 ?_
                obtain ⟨v89, e89, h⟩ := o_bind h
                refine ro_calli (ro_runV (As := [.int p1, .int (p2 - (3 : Int32))]) (rest := []) ⟨hx, hb, hml, hown, hts⟩ hP hK (c_X3_shelvesOf l D c5 b m p1 (p2 - (3 : Int32)) v89 e89) gG_RX3_121 (va_recv hK hP (ci := 3) (q0 := 0) rfl (MW_0 c5 b m)) hd_X3_shelvesOf ⟨Nat.le_of_ble_eq_true rfl, Nat.le_of_ble_eq_true rfl⟩ ⟨rfl, rfl⟩ hl.1 (Nat.le_of_ble_eq_true rfl) dX3_kindTold_89 ⟨Nat.zero_le _, Nat.zero_le _⟩ rfl) ?_
                exact ro_iret hx hb hr hlocks dX3_kindTold_92 (Option.some.inj h)
              · have h := o_f h c1_6
                rcases Decidable.em (p2 = 7) with c1_7 | c1_7
                · have h := o_t h c1_7
                  refine lv_tableIn (off := 70) (tgt := 71) hx hb dX3_kindTold_1 (by rw [c1_7]; decide) (by rw [c1_7]; decide) (by rw [c1_7]; rfl) (by decide) ?_
                  refine lv_aload_n hx hb dX3_kindTold_71 rfl (lv_at hl 0 rfl) ?_
                  refine lv_iload_n hx hb dX3_kindTold_72 rfl (lv_at hl 1 rfl) ?_
                  obtain ⟨v73, e73, h⟩ := o_bind h
                  refine ro_calli (ro_runV (As := [.int p1]) (rest := []) ⟨hx, hb, hml, hown, hts⟩ hP hK (c_X3_bowlsOf l D c5 b m p1 v73 e73) gG_RX3_148 (va_recv hK hP (ci := 3) (q0 := 0) rfl (MW_0 c5 b m)) hd_X3_bowlsOf ⟨Nat.le_of_ble_eq_true rfl, Nat.le_of_ble_eq_true rfl⟩ ⟨rfl, rfl⟩ hl.1 (Nat.le_of_ble_eq_true rfl) dX3_kindTold_73 ⟨Nat.zero_le _, Nat.zero_le _⟩ rfl) ?_
                  exact ro_iret hx hb hr hlocks dX3_kindTold_76 (Option.some.inj h)
                · have h := o_f h c1_7
                  rcases Decidable.em (p2 = 8) with c1_8 | c1_8
                  · have h := o_t h c1_8
                    refine lv_tableIn (off := 76) (tgt := 77) hx hb dX3_kindTold_1 (by rw [c1_8]; decide) (by rw [c1_8]; decide) (by rw [c1_8]; rfl) (by decide) ?_
                    refine lv_aload_n hx hb dX3_kindTold_77 rfl (lv_at hl 0 rfl) ?_
                    refine va_get (D := D) (ci := 3) (v := .ref (b 2)) (C := RX3) (T := TX3) (N := 14) hx hb hts iX3 hown hK hP 0 (MW_0 c5 b m) rfl 7 (by decide) (hts _ wT3_35) (fun _ h9 => h9) rfl dX3_kindTold_78 ?_
                    refine lv_iload_n hx hb dX3_kindTold_81 rfl (lv_at hl 1 rfl) ?_
                    obtain ⟨g82, h⟩ := o_if h
                    refine va_iald hx hb hK hP 2 3 (MW_2 c5 b m) rfl (inb_in g82) dX3_kindTold_82 ?_
                    exact ro_iret hx hb hr hlocks dX3_kindTold_83 (Option.some.inj h)
                  · have h := o_f h c1_8
                    have n1_0 := lv_neT (a := 0) c1_0 rfl
                    have n1_1 := lv_neT (a := 1) c1_1 rfl
                    have n1_2 := lv_neT (a := 2) c1_2 rfl
                    have n1_3 := lv_neT (a := 3) c1_3 rfl
                    have n1_4 := lv_neT (a := 4) c1_4 rfl
                    have n1_5 := lv_neT (a := 5) c1_5 rfl
                    have n1_6 := lv_neT (a := 6) c1_6 rfl
                    have n1_7 := lv_neT (a := 7) c1_7 rfl
                    have n1_8 := lv_neT (a := 8) c1_8 rfl
                    refine lv_tableOut (tgt := 84) hx hb dX3_kindTold_1 (by omega) (by decide) ?_
                    refine lv_aload_n hx hb dX3_kindTold_84 rfl (lv_at hl 0 rfl) ?_
                    refine lv_iload_n hx hb dX3_kindTold_85 rfl (lv_at hl 1 rfl) ?_
                    refine lv_iload_n hx hb dX3_kindTold_86 rfl (lv_at hl 2 rfl) ?_
                    refine lv_iconst (v := (3 : Int32)) hx hb dX3_kindTold_87 (by decide) ?_
                    refine lv_isub hx hb dX3_kindTold_88 ?_
                    obtain ⟨v89, e89, h⟩ := o_bind h
                    refine ro_calli (ro_runV (As := [.int p1, .int (p2 - (3 : Int32))]) (rest := []) ⟨hx, hb, hml, hown, hts⟩ hP hK (c_X3_shelvesOf l D c5 b m p1 (p2 - (3 : Int32)) v89 e89) gG_RX3_121 (va_recv hK hP (ci := 3) (q0 := 0) rfl (MW_0 c5 b m)) hd_X3_shelvesOf ⟨Nat.le_of_ble_eq_true rfl, Nat.le_of_ble_eq_true rfl⟩ ⟨rfl, rfl⟩ hl.1 (Nat.le_of_ble_eq_true rfl) dX3_kindTold_89 ⟨Nat.zero_le _, Nat.zero_le _⟩ rfl) ?_
                    exact ro_iret hx hb hr hlocks dX3_kindTold_92 (Option.some.inj h)
set_option maxHeartbeats 4000000 in
set_option maxRecDepth 100000 in
theorem c_X3_about (l : Launch) (D : va_G) (c5 : Nat → ClassId) (b : Nat → Nat) (m : MSt) (sz : Nat) (p1 : Int32) (p2 : Int32) (r : Int32 × MSt) (h : R_X3_about m p1 p2 = some r) : Met l yX3_about (ws_ yX3_about cX3_about 3 (some .int)) { frames := 6, cells := 0, slots := 0, locals := 130 } (va_Pc [.ref (b 0), .int p1, .int p2] (rwB D (tyG c5) (MW c5 b m) sz)) (va_Qi (fun x u => x = r.1 ∧ u = r.2) (rwE D (tyG c5) (va_A (MW c5 b m) sz) (fun u => MW c5 b u)) (va_A (MW c5 b m) sz)) 0 0 (va_A (MW c5 b m) sz) := by
  refine Met.ofW (cc := cX3_about) (maxL := 3) (ret := (some .int)) (by decide) rfl ?_
  intro p e s m9 args below meth c s₁ B hml hv
  obtain ⟨rfl, hsz, hP, hK, hD0⟩ := hv
  have hx := B.exec
  have hb := B.bytes
  have hr := B.returns
  have hts : ∀ w ∈ LA, w.before _ s = true := fun w hw => atoms_spec (ws := ws_ yX3_about cX3_about 3 (some .int)) B.pre w (List.mem_cons_of_mem _ hw)
  have hown : s.vm.findClass RX3 = some m9.cls := findClass_of_methodNamed B.named
  have hlocks := B.notSynchronized
  subst hsz
  have hD := hD0.self (sz := s.heap.size)
  generalize hAe : va_A (MW c5 b m) s.heap.size = A at hD ⊢
  have hA : ∀ q : Nat, s.heap.size ≤ q → A q := fun q h => by rw [← hAe]; exact Or.inr h
  have hS : va_S A s.heap s.heap [] := va_S.rf
  have hl := lv_entry ([.ref (b 0), .int p1, .int p2] : List Value) (n := 3) (Nat.le_of_ble_eq_true rfl)
  rw [lg_entry_eq]
  generalize (lg_sl ([.ref (b 0), .int p1, .int p2] : List Value) ++ List.replicate (3 - (lg_sl ([.ref (b 0), .int p1, .int p2] : List Value)).length) Slot.unset).toArray = ls at hl ⊢
  have hl : lv_has ls 3 [(0, .ref (b 0)), (1, .int p1), (2, .int p2)] := hl
  unfold R_X3_about at h
  refine lv_aload_n hx hb dX3_about_0 rfl (lv_at hl 0 rfl) ?_
  refine lv_iconst (v := (0 : Int32)) hx hb dX3_about_1 (by decide) ?_
  refine va_put (D := D) (ci := 3) (v := .int (0 : Int32)) (ty := .int) (C := RX3) (T := TX3) (N := 14) hx hb hts iX3 tyX3 tyX3_ok nmX3 hown hK hP hD hS 0 (MW_0 c5 b m) rfl 0 (by decide) (hts _ wT3_28) (fun _ h9 => h9) rfl (by decide +kernel) rfl rfl (Nat.le_of_ble_eq_true rfl) dX3_about_2 (fun H locs hP hD hS => ?_)
  have hP := wP (MW_set0 c5 b m 0 (by decide) _) hP
  have hD := wD (MW_set0 c5 b m 0 (by decide) _) hD
  refine lv_aload_n hx hb dX3_about_5 rfl (lv_at hl 0 rfl) ?_
  refine lv_iload_n hx hb dX3_about_6 rfl (lv_at hl 1 rfl) ?_
  obtain ⟨v7, e7, h⟩ := o_bind h
  refine ro_calli (ro_runV (As := [.int p1]) (rest := []) ⟨hx, hb, hml, hown, hts⟩ hP hK (c_X3_isKind l D c5 b (mFs m 0 (0 : Int32)) p1 v7 e7) gG_RX3_130 (va_recv hK hP (ci := 3) (q0 := 0) rfl (MW_0 c5 b (mFs m 0 (0 : Int32)))) hd_X3_isKind ⟨Nat.le_of_ble_eq_true rfl, Nat.le_of_ble_eq_true rfl⟩ ⟨rfl, rfl⟩ hl.1 (Nat.le_of_ble_eq_true rfl) dX3_about_7 ⟨Nat.zero_le _, Nat.zero_le _⟩ rfl) ?_
  refine lv_if_eq (tgt := 32) hx hb dX3_about_10 (by decide) (fun q => ?_) (fun q => ?_)
  · have h := o_t h q
    refine lv_aload_n hx hb dX3_about_32 rfl (lv_at hl 0 rfl) ?_
    refine lv_iconst (v := (1 : Int32)) hx hb dX3_about_33 (by decide) ?_
    obtain ⟨v34, e34, h⟩ := o_bind h
    refine rw_calli (rw_runV (As := [.int (1 : Int32)]) (rest := []) ⟨hx, hb, hml, hown, hts⟩ hP hK hD (c_X3_no l D c5 b (mFs m 0 (0 : Int32)) H.size (1 : Int32) v34 e34) gG_RX3_127 (va_recv hK hP (ci := 3) (q0 := 0) rfl (MW_0 c5 b (mFs m 0 (0 : Int32)))) hd_X3_no ⟨Nat.le_of_ble_eq_true rfl, Nat.le_of_ble_eq_true rfl⟩ ⟨rfl, rfl⟩ hl.1 (Nat.le_of_ble_eq_true rfl) dX3_about_34 ⟨Nat.le_of_ble_eq_true rfl, Nat.le_of_ble_eq_true rfl⟩ rfl) hD hS hA (fun H locs hP hD hS => ?_)
    obtain rfl := (Option.some.inj h)
    exact rw_iret (wf := fun u => MW c5 b u) hx hb hr hlocks hP hK hD hS dX3_about_37 rfl
  · have h := o_f h q
    refine lv_iload_n hx hb dX3_about_13 rfl (lv_at hl 2 rfl) ?_
    refine lv_iconst (v := (0 : Int32)) hx hb dX3_about_14 (by decide) ?_
    refine lv_bipush (v := (8 : Int32)) hx hb dX3_about_15 (by decide) ?_
    obtain ⟨v17, e17, h⟩ := o_bind h
    refine ro_calli (ro_runS (As := [.int p2, .int (0 : Int32), .int (8 : Int32)]) (rest := []) ⟨hx, hb, hml, hown, hts⟩ hP hK (c_X3_isIn l D (tyG c5) (MW c5 b (mFs m 0 (0 : Int32))) p2 (0 : Int32) (8 : Int32) v17 e17) gG_RX3_41 hd_X3_isIn ⟨Nat.le_of_ble_eq_true rfl, Nat.le_of_ble_eq_true rfl⟩ ⟨rfl, rfl⟩ hl.1 (Nat.le_of_ble_eq_true rfl) dX3_about_17 ⟨Nat.zero_le _, Nat.zero_le _⟩ rfl) ?_
    refine lv_if_eq (tgt := 32) hx hb dX3_about_20 (by decide) (fun q => ?_) (fun q => ?_)
    · have h := o_t h q
      refine lv_aload_n hx hb dX3_about_32 rfl (lv_at hl 0 rfl) ?_
      refine lv_iconst (v := (1 : Int32)) hx hb dX3_about_33 (by decide) ?_
      obtain ⟨v34, e34, h⟩ := o_bind h
      refine rw_calli (rw_runV (As := [.int (1 : Int32)]) (rest := []) ⟨hx, hb, hml, hown, hts⟩ hP hK hD (c_X3_no l D c5 b (mFs m 0 (0 : Int32)) H.size (1 : Int32) v34 e34) gG_RX3_127 (va_recv hK hP (ci := 3) (q0 := 0) rfl (MW_0 c5 b (mFs m 0 (0 : Int32)))) hd_X3_no ⟨Nat.le_of_ble_eq_true rfl, Nat.le_of_ble_eq_true rfl⟩ ⟨rfl, rfl⟩ hl.1 (Nat.le_of_ble_eq_true rfl) dX3_about_34 ⟨Nat.le_of_ble_eq_true rfl, Nat.le_of_ble_eq_true rfl⟩ rfl) hD hS hA (fun H locs hP hD hS => ?_)
      obtain rfl := (Option.some.inj h)
      exact rw_iret (wf := fun u => MW c5 b u) hx hb hr hlocks hP hK hD hS dX3_about_37 rfl
    · have h := o_f h q
      refine lv_aload_n hx hb dX3_about_23 rfl (lv_at hl 0 rfl) ?_
      refine lv_iload_n hx hb dX3_about_24 rfl (lv_at hl 1 rfl) ?_
      refine lv_iload_n hx hb dX3_about_25 rfl (lv_at hl 2 rfl) ?_
      obtain ⟨v26, e26, h⟩ := o_bind h
      refine ro_calli (ro_runV (As := [.int p1, .int p2]) (rest := []) ⟨hx, hb, hml, hown, hts⟩ hP hK (c_X3_kindTold l D c5 b (mFs m 0 (0 : Int32)) p1 p2 v26 e26) gG_RX3_151 (va_recv hK hP (ci := 3) (q0 := 0) rfl (MW_0 c5 b (mFs m 0 (0 : Int32)))) hd_X3_kindTold ⟨Nat.le_of_ble_eq_true rfl, Nat.le_of_ble_eq_true rfl⟩ ⟨rfl, rfl⟩ hl.1 (Nat.le_of_ble_eq_true rfl) dX3_about_26 ⟨Nat.zero_le _, Nat.zero_le _⟩ rfl) ?_
      refine lv_goto (tgt := 37) hx hb dX3_about_29 (by decide) ?_
      obtain rfl := (Option.some.inj h)
      exact rw_iret (wf := fun u => MW c5 b u) hx hb hr hlocks hP hK hD hS dX3_about_37 rfl
set_option maxHeartbeats 4000000 in
set_option maxRecDepth 100000 in
theorem c_X3_placeTold (l : Launch) (D : va_G) (c5 : Nat → ClassId) (b : Nat → Nat) (m : MSt) (p1 : Int32) (p2 : Int32) (r : Int32) (h : R_X3_placeTold m p1 p2 = some r) : Met l yX3_placeTold (ws_ yX3_placeTold cX3_placeTold 5 (some .int)) { frames := 2, cells := 0, slots := 0, locals := 44 } (va_Pc [.ref (b 0), .int p1, .int p2] (roB D (tyG c5) (MW c5 b m))) (vp_Si (fun x => x = r)) 0 0 (fun _ => False) := by
  refine Met.ofW (cc := cX3_placeTold) (maxL := 5) (ret := (some .int)) (by decide) rfl ?_
  intro p e s m9 args below meth c s₁ B hml hv
  obtain ⟨rfl, hP, hK⟩ := hv
  have hx := B.exec
  have hb := B.bytes
  have hr := B.returns
  have hts : ∀ w ∈ LA, w.before _ s = true := fun w hw => atoms_spec (ws := ws_ yX3_placeTold cX3_placeTold 5 (some .int)) B.pre w (List.mem_cons_of_mem _ hw)
  have hown : s.vm.findClass RX3 = some m9.cls := findClass_of_methodNamed B.named
  have hlocks := B.notSynchronized
  have hl := lv_entry ([.ref (b 0), .int p1, .int p2] : List Value) (n := 5) (Nat.le_of_ble_eq_true rfl)
  rw [lg_entry_eq]
  generalize (lg_sl ([.ref (b 0), .int p1, .int p2] : List Value) ++ List.replicate (5 - (lg_sl ([.ref (b 0), .int p1, .int p2] : List Value)).length) Slot.unset).toArray = ls at hl ⊢
  have hl : lv_has ls 5 [(0, .ref (b 0)), (1, .int p1), (2, .int p2)] := hl
  unfold R_X3_placeTold at h
  refine lv_aload_n hx hb dX3_placeTold_0 rfl (lv_at hl 0 rfl) ?_
  refine lv_iload_n hx hb dX3_placeTold_1 rfl (lv_at hl 1 rfl) ?_
  obtain ⟨v2, e2, h⟩ := o_bind h
  refine ro_calli (ro_runV (As := [.int p1]) (rest := []) ⟨hx, hb, hml, hown, hts⟩ hP hK (c_X3_placeOf l D c5 b m p1 v2 e2) gG_RX3_139 (va_recv hK hP (ci := 3) (q0 := 0) rfl (MW_0 c5 b m)) hd_X3_placeOf ⟨Nat.le_of_ble_eq_true rfl, Nat.le_of_ble_eq_true rfl⟩ ⟨rfl, rfl⟩ hl.1 (Nat.le_of_ble_eq_true rfl) dX3_placeTold_2 ⟨Nat.zero_le _, Nat.zero_le _⟩ rfl) ?_
  refine lv_istore_n (i := 3) (lv' := [(3, .int v2), (0, .ref (b 0)), (1, .int p1), (2, .int p2)]) hx hb dX3_placeTold_5 rfl hl (by decide) rfl (fun ls hl => ?_)
  refine lv_iload_n hx hb dX3_placeTold_6 rfl (lv_at hl 0 rfl) ?_
  refine lv_iconst (v := (-1 : Int32)) hx hb dX3_placeTold_7 (by decide) ?_
  refine lv_icmp_ne (tgt := 13) hx hb dX3_placeTold_8 (by decide) (fun q => ?_) (fun q => ?_)
  · have h := o_t' h q
    refine lv_iload_n hx hb dX3_placeTold_13 rfl (lv_at hl 2 rfl) ?_
    refine lv_bipush (v := (24 : Int32)) hx hb dX3_placeTold_14 (by decide) ?_
    refine lv_idiv hx hb dX3_placeTold_16 (by decide) ?_
    refine lv_istore (i := 4) (lv' := [(4, .int (p1 / (24 : Int32))), (3, .int v2), (0, .ref (b 0)), (1, .int p1), (2, .int p2)]) hx hb dX3_placeTold_17 hl (by decide) rfl (fun ls hl => ?_)
    refine lv_iload_n hx hb dX3_placeTold_19 rfl (lv_at hl 4 rfl) ?_
    refine lv_if_ne (tgt := 33) hx hb dX3_placeTold_20 (by decide) (fun q => ?_) (fun q => ?_)
    · have h := o_t' h q
      refine lv_iload_n hx hb dX3_placeTold_33 rfl (lv_at hl 4 rfl) ?_
      refine lv_iconst (v := (1 : Int32)) hx hb dX3_placeTold_34 (by decide) ?_
      refine lv_icmp_ne (tgt := 42) hx hb dX3_placeTold_35 (by decide) (fun q => ?_) (fun q => ?_)
      · have h := o_t' h q
        refine lv_iload_n hx hb dX3_placeTold_42 rfl (lv_at hl 4 rfl) ?_
        refine lv_iconst (v := (2 : Int32)) hx hb dX3_placeTold_43 (by decide) ?_
        refine lv_icmp_ne (tgt := 61) hx hb dX3_placeTold_44 (by decide) (fun q => ?_) (fun q => ?_)
        · have h := o_t' h q
          refine lv_aload_n hx hb dX3_placeTold_61 rfl (lv_at hl 2 rfl) ?_
          refine lv_iload hx hb dX3_placeTold_62 (lv_at hl 0 rfl) ?_
          refine lv_iload_n hx hb dX3_placeTold_64 rfl (lv_at hl 1 rfl) ?_
          obtain ⟨v65, e65, h⟩ := o_bind h
          refine ro_calli (ro_runV (As := [.int (p1 / (24 : Int32)), .int v2]) (rest := []) ⟨hx, hb, hml, hown, hts⟩ hP hK (c_X3_spotOf l D c5 b m (p1 / (24 : Int32)) v2 v65 e65) gG_RX3_89 (va_recv hK hP (ci := 3) (q0 := 0) rfl (MW_0 c5 b m)) hd_X3_spotOf ⟨Nat.le_of_ble_eq_true rfl, Nat.le_of_ble_eq_true rfl⟩ ⟨rfl, rfl⟩ hl.1 (Nat.le_of_ble_eq_true rfl) dX3_placeTold_65 ⟨Nat.zero_le _, Nat.zero_le _⟩ rfl) ?_
          exact ro_iret hx hb hr hlocks dX3_placeTold_68 (Option.some.inj h)
        · have h := o_f' h q
          refine lv_aload_n hx hb dX3_placeTold_47 rfl (lv_at hl 2 rfl) ?_
          refine va_get (D := D) (ci := 3) (v := .ref (b 5)) (C := RX3) (T := TX3) (N := 14) hx hb hts iX3 hown hK hP 0 (MW_0 c5 b m) rfl 10 (by decide) (hts _ wT3_38) (fun _ h9 => h9) rfl dX3_placeTold_48 ?_
          refine lv_iload hx hb dX3_placeTold_51 (lv_at hl 0 rfl) ?_
          obtain ⟨g53, h⟩ := o_if h
          refine va_iald hx hb hK hP 5 3 (MW_5 c5 b m) rfl (inb_in g53) dX3_placeTold_53 ?_
          refine lv_iload_n hx hb dX3_placeTold_54 rfl (lv_at hl 1 rfl) ?_
          refine lv_ishr hx hb dX3_placeTold_55 ?_
          refine lv_iconst (v := (1 : Int32)) hx hb dX3_placeTold_56 (by decide) ?_
          refine lv_iand hx hb dX3_placeTold_57 ?_
          refine lv_goto (tgt := 68) hx hb dX3_placeTold_58 (by decide) ?_
          exact ro_iret hx hb hr hlocks dX3_placeTold_68 (Option.some.inj h)
      · have h := o_f' h q
        refine lv_iload_n hx hb dX3_placeTold_38 rfl (lv_at hl 1 rfl) ?_
        refine lv_goto (tgt := 68) hx hb dX3_placeTold_39 (by decide) ?_
        exact ro_iret hx hb hr hlocks dX3_placeTold_68 (Option.some.inj h)
    · have h := o_f' h q
      refine lv_aload_n hx hb dX3_placeTold_23 rfl (lv_at hl 2 rfl) ?_
      refine va_get (D := D) (ci := 3) (v := .ref (b 3)) (C := RX3) (T := TX3) (N := 14) hx hb hts iX3 hown hK hP 0 (MW_0 c5 b m) rfl 8 (by decide) (hts _ wT3_36) (fun _ h9 => h9) rfl dX3_placeTold_24 ?_
      refine lv_iload hx hb dX3_placeTold_27 (lv_at hl 0 rfl) ?_
      obtain ⟨g29, h⟩ := o_if h
      refine va_iald hx hb hK hP 3 3 (MW_3 c5 b m) rfl (inb_in g29) dX3_placeTold_29 ?_
      refine lv_goto (tgt := 68) hx hb dX3_placeTold_30 (by decide) ?_
      exact ro_iret hx hb hr hlocks dX3_placeTold_68 (Option.some.inj h)
  · have h := o_f' h q
    refine lv_iconst (v := (-1 : Int32)) hx hb dX3_placeTold_11 (by decide) ?_
    exact ro_iret hx hb hr hlocks dX3_placeTold_12 (Option.some.inj h)
set_option maxHeartbeats 4000000 in
set_option maxRecDepth 100000 in
theorem c_X3_place (l : Launch) (D : va_G) (c5 : Nat → ClassId) (b : Nat → Nat) (m : MSt) (sz : Nat) (p1 : Int32) (p2 : Int32) (r : Int32 × MSt) (h : R_X3_place m p1 p2 = some r) : Met l yX3_place (ws_ yX3_place cX3_place 3 (some .int)) { frames := 3, cells := 0, slots := 0, locals := 68 } (va_Pc [.ref (b 0), .int p1, .int p2] (rwB D (tyG c5) (MW c5 b m) sz)) (va_Qi (fun x u => x = r.1 ∧ u = r.2) (rwE D (tyG c5) (va_A (MW c5 b m) sz) (fun u => MW c5 b u)) (va_A (MW c5 b m) sz)) 0 0 (va_A (MW c5 b m) sz) := by
  refine Met.ofW (cc := cX3_place) (maxL := 3) (ret := (some .int)) (by decide) rfl ?_
  intro p e s m9 args below meth c s₁ B hml hv
  obtain ⟨rfl, hsz, hP, hK, hD0⟩ := hv
  have hx := B.exec
  have hb := B.bytes
  have hr := B.returns
  have hts : ∀ w ∈ LA, w.before _ s = true := fun w hw => atoms_spec (ws := ws_ yX3_place cX3_place 3 (some .int)) B.pre w (List.mem_cons_of_mem _ hw)
  have hown : s.vm.findClass RX3 = some m9.cls := findClass_of_methodNamed B.named
  have hlocks := B.notSynchronized
  subst hsz
  have hD := hD0.self (sz := s.heap.size)
  generalize hAe : va_A (MW c5 b m) s.heap.size = A at hD ⊢
  have hA : ∀ q : Nat, s.heap.size ≤ q → A q := fun q h => by rw [← hAe]; exact Or.inr h
  have hS : va_S A s.heap s.heap [] := va_S.rf
  have hl := lv_entry ([.ref (b 0), .int p1, .int p2] : List Value) (n := 3) (Nat.le_of_ble_eq_true rfl)
  rw [lg_entry_eq]
  generalize (lg_sl ([.ref (b 0), .int p1, .int p2] : List Value) ++ List.replicate (3 - (lg_sl ([.ref (b 0), .int p1, .int p2] : List Value)).length) Slot.unset).toArray = ls at hl ⊢
  have hl : lv_has ls 3 [(0, .ref (b 0)), (1, .int p1), (2, .int p2)] := hl
  unfold R_X3_place at h
  refine lv_aload_n hx hb dX3_place_0 rfl (lv_at hl 0 rfl) ?_
  refine lv_iconst (v := (0 : Int32)) hx hb dX3_place_1 (by decide) ?_
  refine va_put (D := D) (ci := 3) (v := .int (0 : Int32)) (ty := .int) (C := RX3) (T := TX3) (N := 14) hx hb hts iX3 tyX3 tyX3_ok nmX3 hown hK hP hD hS 0 (MW_0 c5 b m) rfl 0 (by decide) (hts _ wT3_28) (fun _ h9 => h9) rfl (by decide +kernel) rfl rfl (Nat.le_of_ble_eq_true rfl) dX3_place_2 (fun H locs hP hD hS => ?_)
  have hP := wP (MW_set0 c5 b m 0 (by decide) _) hP
  have hD := wD (MW_set0 c5 b m 0 (by decide) _) hD
  refine lv_iload_n hx hb dX3_place_5 rfl (lv_at hl 1 rfl) ?_
  obtain ⟨v6, e6, h⟩ := o_bind h
  refine ro_calli (ro_runS (As := [.int p1]) (rest := []) ⟨hx, hb, hml, hown, hts⟩ hP hK (c_X3_isSpot l D (tyG c5) (MW c5 b (mFs m 0 (0 : Int32))) p1 v6 e6) gG_RX3_136 hd_X3_isSpot ⟨Nat.le_of_ble_eq_true rfl, Nat.le_of_ble_eq_true rfl⟩ ⟨rfl, rfl⟩ hl.1 (Nat.le_of_ble_eq_true rfl) dX3_place_6 ⟨Nat.zero_le _, Nat.zero_le _⟩ rfl) ?_
  refine lv_if_eq (tgt := 30) hx hb dX3_place_9 (by decide) (fun q => ?_) (fun q => ?_)
  · have h := o_t h q
    refine lv_aload_n hx hb dX3_place_30 rfl (lv_at hl 0 rfl) ?_
    refine lv_iconst (v := (1 : Int32)) hx hb dX3_place_31 (by decide) ?_
    obtain ⟨v32, e32, h⟩ := o_bind h
    refine rw_calli (rw_runV (As := [.int (1 : Int32)]) (rest := []) ⟨hx, hb, hml, hown, hts⟩ hP hK hD (c_X3_no l D c5 b (mFs m 0 (0 : Int32)) H.size (1 : Int32) v32 e32) gG_RX3_127 (va_recv hK hP (ci := 3) (q0 := 0) rfl (MW_0 c5 b (mFs m 0 (0 : Int32)))) hd_X3_no ⟨Nat.le_of_ble_eq_true rfl, Nat.le_of_ble_eq_true rfl⟩ ⟨rfl, rfl⟩ hl.1 (Nat.le_of_ble_eq_true rfl) dX3_place_32 ⟨Nat.le_of_ble_eq_true rfl, Nat.le_of_ble_eq_true rfl⟩ rfl) hD hS hA (fun H locs hP hD hS => ?_)
    obtain rfl := (Option.some.inj h)
    exact rw_iret (wf := fun u => MW c5 b u) hx hb hr hlocks hP hK hD hS dX3_place_35 rfl
  · have h := o_f h q
    refine lv_iload_n hx hb dX3_place_12 rfl (lv_at hl 2 rfl) ?_
    refine lv_iconst (v := (0 : Int32)) hx hb dX3_place_13 (by decide) ?_
    refine lv_iconst (v := (3 : Int32)) hx hb dX3_place_14 (by decide) ?_
    obtain ⟨v15, e15, h⟩ := o_bind h
    refine ro_calli (ro_runS (As := [.int p2, .int (0 : Int32), .int (3 : Int32)]) (rest := []) ⟨hx, hb, hml, hown, hts⟩ hP hK (c_X3_isIn l D (tyG c5) (MW c5 b (mFs m 0 (0 : Int32))) p2 (0 : Int32) (3 : Int32) v15 e15) gG_RX3_41 hd_X3_isIn ⟨Nat.le_of_ble_eq_true rfl, Nat.le_of_ble_eq_true rfl⟩ ⟨rfl, rfl⟩ hl.1 (Nat.le_of_ble_eq_true rfl) dX3_place_15 ⟨Nat.zero_le _, Nat.zero_le _⟩ rfl) ?_
    refine lv_if_eq (tgt := 30) hx hb dX3_place_18 (by decide) (fun q => ?_) (fun q => ?_)
    · have h := o_t h q
      refine lv_aload_n hx hb dX3_place_30 rfl (lv_at hl 0 rfl) ?_
      refine lv_iconst (v := (1 : Int32)) hx hb dX3_place_31 (by decide) ?_
      obtain ⟨v32, e32, h⟩ := o_bind h
      refine rw_calli (rw_runV (As := [.int (1 : Int32)]) (rest := []) ⟨hx, hb, hml, hown, hts⟩ hP hK hD (c_X3_no l D c5 b (mFs m 0 (0 : Int32)) H.size (1 : Int32) v32 e32) gG_RX3_127 (va_recv hK hP (ci := 3) (q0 := 0) rfl (MW_0 c5 b (mFs m 0 (0 : Int32)))) hd_X3_no ⟨Nat.le_of_ble_eq_true rfl, Nat.le_of_ble_eq_true rfl⟩ ⟨rfl, rfl⟩ hl.1 (Nat.le_of_ble_eq_true rfl) dX3_place_32 ⟨Nat.le_of_ble_eq_true rfl, Nat.le_of_ble_eq_true rfl⟩ rfl) hD hS hA (fun H locs hP hD hS => ?_)
      obtain rfl := (Option.some.inj h)
      exact rw_iret (wf := fun u => MW c5 b u) hx hb hr hlocks hP hK hD hS dX3_place_35 rfl
    · have h := o_f h q
      refine lv_aload_n hx hb dX3_place_21 rfl (lv_at hl 0 rfl) ?_
      refine lv_iload_n hx hb dX3_place_22 rfl (lv_at hl 1 rfl) ?_
      refine lv_iload_n hx hb dX3_place_23 rfl (lv_at hl 2 rfl) ?_
      obtain ⟨v24, e24, h⟩ := o_bind h
      refine ro_calli (ro_runV (As := [.int p1, .int p2]) (rest := []) ⟨hx, hb, hml, hown, hts⟩ hP hK (c_X3_placeTold l D c5 b (mFs m 0 (0 : Int32)) p1 p2 v24 e24) gG_RX3_154 (va_recv hK hP (ci := 3) (q0 := 0) rfl (MW_0 c5 b (mFs m 0 (0 : Int32)))) hd_X3_placeTold ⟨Nat.le_of_ble_eq_true rfl, Nat.le_of_ble_eq_true rfl⟩ ⟨rfl, rfl⟩ hl.1 (Nat.le_of_ble_eq_true rfl) dX3_place_24 ⟨Nat.zero_le _, Nat.zero_le _⟩ rfl) ?_
      refine lv_goto (tgt := 35) hx hb dX3_place_27 (by decide) ?_
      obtain rfl := (Option.some.inj h)
      exact rw_iret (wf := fun u => MW c5 b u) hx hb hr hlocks hP hK hD hS dX3_place_35 rfl
set_option maxHeartbeats 4000000 in
set_option maxRecDepth 100000 in
theorem c_X3_sum (l : Launch) (D : va_G) (c5 : Nat → ClassId) (b : Nat → Nat) (m : MSt) (p1 : Int32) (r : Int32) (h : R_X3_sum m p1 = some r) : Met l yX3_sum (ws_ yX3_sum cX3_sum 5 (some .int)) { frames := 2, cells := 0, slots := 0, locals := 41 } (va_Pc [.ref (b 0), .int p1] (roB D (tyG c5) (MW c5 b m))) (vp_Si (fun x => x = r)) 0 0 (fun _ => False) := by
  refine Met.ofW (cc := cX3_sum) (maxL := 5) (ret := (some .int)) (by decide) rfl ?_
  intro p e s m9 args below meth c s₁ B hml hv
  obtain ⟨rfl, hP, hK⟩ := hv
  have hx := B.exec
  have hb := B.bytes
  have hr := B.returns
  have hts : ∀ w ∈ LA, w.before _ s = true := fun w hw => atoms_spec (ws := ws_ yX3_sum cX3_sum 5 (some .int)) B.pre w (List.mem_cons_of_mem _ hw)
  have hown : s.vm.findClass RX3 = some m9.cls := findClass_of_methodNamed B.named
  have hlocks := B.notSynchronized
  have hl := lv_entry ([.ref (b 0), .int p1] : List Value) (n := 5) (Nat.le_of_ble_eq_true rfl)
  rw [lg_entry_eq]
  generalize (lg_sl ([.ref (b 0), .int p1] : List Value) ++ List.replicate (5 - (lg_sl ([.ref (b 0), .int p1] : List Value)).length) Slot.unset).toArray = ls at hl ⊢
  have hl : lv_has ls 5 [(0, .ref (b 0)), (1, .int p1)] := hl
  unfold R_X3_sum at h
  refine lv_iconst (v := (0 : Int32)) hx hb dX3_sum_0 (by decide) ?_
  refine lv_istore_n (i := 2) (lv' := [(2, .int (0 : Int32)), (0, .ref (b 0)), (1, .int p1)]) hx hb dX3_sum_1 rfl hl (by decide) rfl (fun ls hl => ?_)
  refine lv_iconst (v := (0 : Int32)) hx hb dX3_sum_2 (by decide) ?_
  refine lv_istore_n (i := 3) (lv' := [(3, .int (0 : Int32)), (2, .int (0 : Int32)), (0, .ref (b 0)), (1, .int p1)]) hx hb dX3_sum_3 rfl hl (by decide) rfl (fun ls hl => ?_)
  have L4 : ∀ (n : Nat) (x2_4 : Int32) (x3_4 : Int32) (ls : Array Slot), lv_has ls 5 [(0, .ref (b 0)), (1, .int p1), (2, .int x2_4), (3, .int x3_4)] → R_X3_sum_L4 m p1 n x2_4 x3_4 = some r → W p l e (headSpec (ws_ yX3_sum cX3_sum 5 (some .int)) { frames := 2, cells := 0, slots := 0, locals := 41 }).room s m9 ([.ref (b 0), .int p1] : List Value).toArray below meth c s.heap [] 0 0 (MQ below (vp_Si (fun x => x = r)) ([.ref (b 0), .int p1] : List Value).toArray s 0 0 (fun _ => False)) (F0 m9 4 ls []) := by
    intro n
    induction n with
    | zero =>
      intro x2_4 x3_4 ls hl h
      exact absurd h (by simp [R_X3_sum_L4])
    | succ n ih =>
      intro x2_4 x3_4 ls hl h
      rw [R_X3_sum_L4] at h
      refine lv_iload_n hx hb dX3_sum_4 rfl (lv_at hl 3 rfl) ?_
      refine lv_bipush (v := (12 : Int32)) hx hb dX3_sum_5 (by decide) ?_
      refine lv_icmp_ge (tgt := 118) hx hb dX3_sum_7 (by decide) (fun q => ?_) (fun q => ?_)
      · have h := o_t h q
        refine lv_iload_n hx hb dX3_sum_118 rfl (lv_at hl 2 rfl) ?_
        exact ro_iret hx hb hr hlocks dX3_sum_119 (Option.some.inj h)
      · have h := o_f h q
        refine lv_aload_n hx hb dX3_sum_10 rfl (lv_at hl 0 rfl) ?_
        refine lv_iload_n hx hb dX3_sum_11 rfl (lv_at hl 3 rfl) ?_
        obtain ⟨v12, e12, h⟩ := o_bind h
        refine ro_calli (ro_runV (As := [.int x3_4]) (rest := []) ⟨hx, hb, hml, hown, hts⟩ hP hK (c_X3_isFree l D c5 b m x3_4 v12 e12) gG_RX3_74 (va_recv hK hP (ci := 3) (q0 := 0) rfl (MW_0 c5 b m)) hd_X3_isFree ⟨Nat.le_of_ble_eq_true rfl, Nat.le_of_ble_eq_true rfl⟩ ⟨rfl, rfl⟩ hl.1 (Nat.le_of_ble_eq_true rfl) dX3_sum_12 ⟨Nat.zero_le _, Nat.zero_le _⟩ rfl) ?_
        refine lv_if_eq (tgt := 34) hx hb dX3_sum_15 (by decide) (fun q => ?_) (fun q => ?_)
        · have h := o_t h q
          refine lv_aload_n hx hb dX3_sum_34 rfl (lv_at hl 0 rfl) ?_
          refine lv_iload_n hx hb dX3_sum_35 rfl (lv_at hl 3 rfl) ?_
          obtain ⟨v36, e36, h⟩ := o_bind h
          refine ro_calli (ro_runV (As := [.int x3_4]) (rest := []) ⟨hx, hb, hml, hown, hts⟩ hP hK (c_X3_many l D c5 b m x3_4 v36 e36) gG_RX3_51 (va_recv hK hP (ci := 3) (q0 := 0) rfl (MW_0 c5 b m)) hd_X3_many ⟨Nat.le_of_ble_eq_true rfl, Nat.le_of_ble_eq_true rfl⟩ ⟨rfl, rfl⟩ hl.1 (Nat.le_of_ble_eq_true rfl) dX3_sum_36 ⟨Nat.zero_le _, Nat.zero_le _⟩ rfl) ?_
          refine lv_aload_n hx hb dX3_sum_39 rfl (lv_at hl 0 rfl) ?_
          refine va_get (D := D) (ci := 3) (v := .ref (b 1)) (C := RX3) (T := TX3) (N := 14) hx hb hts iX3 hown hK hP 0 (MW_0 c5 b m) rfl 6 (by decide) (hts _ wT3_34) (fun _ h9 => h9) rfl dX3_sum_40 ?_
          refine lv_aload_n hx hb dX3_sum_43 rfl (lv_at hl 0 rfl) ?_
          refine va_get (D := D) (ci := 3) (v := .ref (b 3)) (C := RX3) (T := TX3) (N := 14) hx hb hts iX3 hown hK hP 0 (MW_0 c5 b m) rfl 8 (by decide) (hts _ wT3_36) (fun _ h9 => h9) rfl dX3_sum_44 ?_
          refine lv_iload_n hx hb dX3_sum_47 rfl (lv_at hl 3 rfl) ?_
          obtain ⟨g48, h⟩ := o_if h
          refine va_iald hx hb hK hP 3 3 (MW_3 c5 b m) rfl (inb_in g48) dX3_sum_48 ?_
          obtain ⟨g49, h⟩ := o_if h
          refine va_iald hx hb hK hP 1 3 (MW_1 c5 b m) rfl (inb_in g49) dX3_sum_49 ?_
          refine lv_imul hx hb dX3_sum_50 ?_
          refine lv_istore (i := 4) (lv' := [(4, .int (v36 * (mA m 0 ((mA m 2 (x3_4.toNatClampNeg)).toNatClampNeg)))), (0, .ref (b 0)), (1, .int p1), (2, .int x2_4), (3, .int x3_4)]) hx hb dX3_sum_51 hl (by decide) rfl (fun ls hl => ?_)
          refine lv_iload_n hx hb dX3_sum_53 rfl (lv_at hl 3 rfl) ?_
          refine lv_iload_n hx hb dX3_sum_54 rfl (lv_at hl 2 rfl) ?_
          refine lv_iconst (v := (3 : Int32)) hx hb dX3_sum_55 (by decide) ?_
          refine lv_icmp_ne (tgt := 67) hx hb dX3_sum_56 (by decide) (fun q => ?_) (fun q => ?_)
          · have h := o_t' h q
            refine lv_iload_n hx hb dX3_sum_67 rfl (lv_at hl 2 rfl) ?_
            refine lv_iconst (v := (4 : Int32)) hx hb dX3_sum_68 (by decide) ?_
            refine lv_icmp_ne (tgt := 77) hx hb dX3_sum_69 (by decide) (fun q => ?_) (fun q => ?_)
            · have h := o_t' h q
              refine lv_iload_n hx hb dX3_sum_77 rfl (lv_at hl 2 rfl) ?_
              refine lv_iconst (v := (5 : Int32)) hx hb dX3_sum_78 (by decide) ?_
              refine lv_icmp_ne (tgt := 90) hx hb dX3_sum_79 (by decide) (fun q => ?_) (fun q => ?_)
              · have h := o_t' h q
                refine lv_iload_n hx hb dX3_sum_90 rfl (lv_at hl 2 rfl) ?_
                refine lv_bipush (v := (6 : Int32)) hx hb dX3_sum_91 (by decide) ?_
                refine lv_icmp_ne (tgt := 109) hx hb dX3_sum_93 (by decide) (fun q => ?_) (fun q => ?_)
                · have h := o_t' h q
                  refine lv_iconst (v := (0 : Int32)) hx hb dX3_sum_109 (by decide) ?_
                  refine lv_iadd hx hb dX3_sum_110 ?_
                  refine lv_istore_n (i := 2) (lv' := [(2, .int (x2_4 + (0 : Int32))), (4, .int (v36 * (mA m 0 ((mA m 2 (x3_4.toNatClampNeg)).toNatClampNeg)))), (0, .ref (b 0)), (1, .int p1), (3, .int x3_4)]) hx hb dX3_sum_111 rfl hl (by decide) rfl (fun ls hl => ?_)
                  refine lv_iinc (v := (x3_4 + (1 : Int32))) (lv' := [(3, .int (x3_4 + (1 : Int32))), (2, .int (x2_4 + (0 : Int32))), (4, .int (v36 * (mA m 0 ((mA m 2 (x3_4.toNatClampNeg)).toNatClampNeg)))), (0, .ref (b 0)), (1, .int p1)]) hx hb dX3_sum_112 hl (k := 4) rfl rfl (by decide) rfl (fun ls hl => ?_)
                  refine lv_goto (tgt := 4) hx hb dX3_sum_115 (by decide) ?_
                  exact ih (x2_4 + (0 : Int32)) (x3_4 + (1 : Int32))  ls (lv_sub hl [3, 4, 1, 0] rfl) h
                · have h := o_f' h q
                  refine lv_aload_n hx hb dX3_sum_96 rfl (lv_at hl 1 rfl) ?_
                  refine lv_aload_n hx hb dX3_sum_97 rfl (lv_at hl 1 rfl) ?_
                  refine va_get (D := D) (ci := 3) (v := .ref (b 3)) (C := RX3) (T := TX3) (N := 14) hx hb hts iX3 hown hK hP 0 (MW_0 c5 b m) rfl 8 (by decide) (hts _ wT3_36) (fun _ h9 => h9) rfl dX3_sum_98 ?_
                  refine lv_iload_n hx hb dX3_sum_101 rfl (lv_at hl 4 rfl) ?_
                  obtain ⟨g102, h⟩ := o_if h
                  refine va_iald hx hb hK hP 3 3 (MW_3 c5 b m) rfl (inb_in g102) dX3_sum_102 ?_
                  obtain ⟨v103, e103, h⟩ := o_bind h
                  refine ro_calli (ro_runV (As := [.int (mA m 2 (x3_4.toNatClampNeg))]) (rest := [.int x2_4]) ⟨hx, hb, hml, hown, hts⟩ hP hK (c_X3_rest l D c5 b m (mA m 2 (x3_4.toNatClampNeg)) v103 e103) gG_RX3_77 (va_recv hK hP (ci := 3) (q0 := 0) rfl (MW_0 c5 b m)) hd_X3_rest ⟨Nat.le_of_ble_eq_true rfl, Nat.le_of_ble_eq_true rfl⟩ ⟨rfl, rfl⟩ hl.1 (Nat.le_of_ble_eq_true rfl) dX3_sum_103 ⟨Nat.zero_le _, Nat.zero_le _⟩ rfl) ?_
                  refine lv_goto (tgt := 110) hx hb dX3_sum_106 (by decide) ?_
                  refine lv_iadd hx hb dX3_sum_110 ?_
                  refine lv_istore_n (i := 2) (lv' := [(2, .int (x2_4 + v103)), (4, .int (v36 * (mA m 0 ((mA m 2 (x3_4.toNatClampNeg)).toNatClampNeg)))), (0, .ref (b 0)), (1, .int p1), (3, .int x3_4)]) hx hb dX3_sum_111 rfl hl (by decide) rfl (fun ls hl => ?_)
                  refine lv_iinc (v := (x3_4 + (1 : Int32))) (lv' := [(3, .int (x3_4 + (1 : Int32))), (2, .int (x2_4 + v103)), (4, .int (v36 * (mA m 0 ((mA m 2 (x3_4.toNatClampNeg)).toNatClampNeg)))), (0, .ref (b 0)), (1, .int p1)]) hx hb dX3_sum_112 hl (k := 4) rfl rfl (by decide) rfl (fun ls hl => ?_)
                  refine lv_goto (tgt := 4) hx hb dX3_sum_115 (by decide) ?_
                  exact ih (x2_4 + v103) (x3_4 + (1 : Int32))  ls (lv_sub hl [3, 4, 1, 0] rfl) h
              · have h := o_f' h q
                refine lv_bipush (v := (24 : Int32)) hx hb dX3_sum_82 (by decide) ?_
                refine lv_iload hx hb dX3_sum_84 (lv_at hl 0 rfl) ?_
                refine lv_isub hx hb dX3_sum_86 ?_
                refine lv_goto (tgt := 110) hx hb dX3_sum_87 (by decide) ?_
                refine lv_iadd hx hb dX3_sum_110 ?_
                refine lv_istore_n (i := 2) (lv' := [(2, .int (x2_4 + ((24 : Int32) - (v36 * (mA m 0 ((mA m 2 (x3_4.toNatClampNeg)).toNatClampNeg)))))), (4, .int (v36 * (mA m 0 ((mA m 2 (x3_4.toNatClampNeg)).toNatClampNeg)))), (0, .ref (b 0)), (1, .int p1), (3, .int x3_4)]) hx hb dX3_sum_111 rfl hl (by decide) rfl (fun ls hl => ?_)
                refine lv_iinc (v := (x3_4 + (1 : Int32))) (lv' := [(3, .int (x3_4 + (1 : Int32))), (2, .int (x2_4 + ((24 : Int32) - (v36 * (mA m 0 ((mA m 2 (x3_4.toNatClampNeg)).toNatClampNeg)))))), (4, .int (v36 * (mA m 0 ((mA m 2 (x3_4.toNatClampNeg)).toNatClampNeg)))), (0, .ref (b 0)), (1, .int p1)]) hx hb dX3_sum_112 hl (k := 4) rfl rfl (by decide) rfl (fun ls hl => ?_)
                refine lv_goto (tgt := 4) hx hb dX3_sum_115 (by decide) ?_
                exact ih (x2_4 + ((24 : Int32) - (v36 * (mA m 0 ((mA m 2 (x3_4.toNatClampNeg)).toNatClampNeg))))) (x3_4 + (1 : Int32))  ls (lv_sub hl [3, 4, 1, 0] rfl) h
            · have h := o_f' h q
              refine lv_iload hx hb dX3_sum_72 (lv_at hl 0 rfl) ?_
              refine lv_goto (tgt := 110) hx hb dX3_sum_74 (by decide) ?_
              refine lv_iadd hx hb dX3_sum_110 ?_
              refine lv_istore_n (i := 2) (lv' := [(2, .int (x2_4 + (v36 * (mA m 0 ((mA m 2 (x3_4.toNatClampNeg)).toNatClampNeg))))), (4, .int (v36 * (mA m 0 ((mA m 2 (x3_4.toNatClampNeg)).toNatClampNeg)))), (0, .ref (b 0)), (1, .int p1), (3, .int x3_4)]) hx hb dX3_sum_111 rfl hl (by decide) rfl (fun ls hl => ?_)
              refine lv_iinc (v := (x3_4 + (1 : Int32))) (lv' := [(3, .int (x3_4 + (1 : Int32))), (2, .int (x2_4 + (v36 * (mA m 0 ((mA m 2 (x3_4.toNatClampNeg)).toNatClampNeg))))), (4, .int (v36 * (mA m 0 ((mA m 2 (x3_4.toNatClampNeg)).toNatClampNeg)))), (0, .ref (b 0)), (1, .int p1)]) hx hb dX3_sum_112 hl (k := 4) rfl rfl (by decide) rfl (fun ls hl => ?_)
              refine lv_goto (tgt := 4) hx hb dX3_sum_115 (by decide) ?_
              exact ih (x2_4 + (v36 * (mA m 0 ((mA m 2 (x3_4.toNatClampNeg)).toNatClampNeg)))) (x3_4 + (1 : Int32))  ls (lv_sub hl [3, 4, 1, 0] rfl) h
          · have h := o_f' h q
            refine lv_aload_n hx hb dX3_sum_59 rfl (lv_at hl 1 rfl) ?_
            refine lv_iload_n hx hb dX3_sum_60 rfl (lv_at hl 4 rfl) ?_
            obtain ⟨v61, e61, h⟩ := o_bind h
            refine ro_calli (ro_runV (As := [.int x3_4]) (rest := [.int x2_4]) ⟨hx, hb, hml, hown, hts⟩ hP hK (c_X3_many l D c5 b m x3_4 v61 e61) gG_RX3_51 (va_recv hK hP (ci := 3) (q0 := 0) rfl (MW_0 c5 b m)) hd_X3_many ⟨Nat.le_of_ble_eq_true rfl, Nat.le_of_ble_eq_true rfl⟩ ⟨rfl, rfl⟩ hl.1 (Nat.le_of_ble_eq_true rfl) dX3_sum_61 ⟨Nat.zero_le _, Nat.zero_le _⟩ rfl) ?_
            refine lv_goto (tgt := 110) hx hb dX3_sum_64 (by decide) ?_
            refine lv_iadd hx hb dX3_sum_110 ?_
            refine lv_istore_n (i := 2) (lv' := [(2, .int (x2_4 + v61)), (4, .int (v36 * (mA m 0 ((mA m 2 (x3_4.toNatClampNeg)).toNatClampNeg)))), (0, .ref (b 0)), (1, .int p1), (3, .int x3_4)]) hx hb dX3_sum_111 rfl hl (by decide) rfl (fun ls hl => ?_)
            refine lv_iinc (v := (x3_4 + (1 : Int32))) (lv' := [(3, .int (x3_4 + (1 : Int32))), (2, .int (x2_4 + v61)), (4, .int (v36 * (mA m 0 ((mA m 2 (x3_4.toNatClampNeg)).toNatClampNeg)))), (0, .ref (b 0)), (1, .int p1)]) hx hb dX3_sum_112 hl (k := 4) rfl rfl (by decide) rfl (fun ls hl => ?_)
            refine lv_goto (tgt := 4) hx hb dX3_sum_115 (by decide) ?_
            exact ih (x2_4 + v61) (x3_4 + (1 : Int32))  ls (lv_sub hl [3, 4, 1, 0] rfl) h
        · have h := o_f h q
          refine lv_iload_n hx hb dX3_sum_18 rfl (lv_at hl 2 rfl) ?_
          refine lv_iload_n hx hb dX3_sum_19 rfl (lv_at hl 1 rfl) ?_
          refine lv_iconst (v := (2 : Int32)) hx hb dX3_sum_20 (by decide) ?_
          refine lv_icmp_ne (tgt := 28) hx hb dX3_sum_21 (by decide) (fun q => ?_) (fun q => ?_)
          · have h := o_t' h q
            refine lv_iconst (v := (0 : Int32)) hx hb dX3_sum_28 (by decide) ?_
            refine lv_iadd hx hb dX3_sum_29 ?_
            refine lv_istore_n (i := 2) (lv' := [(2, .int (x2_4 + (0 : Int32))), (0, .ref (b 0)), (1, .int p1), (3, .int x3_4)]) hx hb dX3_sum_30 rfl hl (by decide) rfl (fun ls hl => ?_)
            refine lv_goto (tgt := 112) hx hb dX3_sum_31 (by decide) ?_
            refine lv_iinc (v := (x3_4 + (1 : Int32))) (lv' := [(3, .int (x3_4 + (1 : Int32))), (2, .int (x2_4 + (0 : Int32))), (0, .ref (b 0)), (1, .int p1)]) hx hb dX3_sum_112 hl (k := 3) rfl rfl (by decide) rfl (fun ls hl => ?_)
            refine lv_goto (tgt := 4) hx hb dX3_sum_115 (by decide) ?_
            exact ih (x2_4 + (0 : Int32)) (x3_4 + (1 : Int32))  ls (lv_sub hl [2, 3, 1, 0] rfl) h
          · have h := o_f' h q
            refine lv_iconst (v := (1 : Int32)) hx hb dX3_sum_24 (by decide) ?_
            refine lv_goto (tgt := 29) hx hb dX3_sum_25 (by decide) ?_
            refine lv_iadd hx hb dX3_sum_29 ?_
            refine lv_istore_n (i := 2) (lv' := [(2, .int (x2_4 + (1 : Int32))), (0, .ref (b 0)), (1, .int p1), (3, .int x3_4)]) hx hb dX3_sum_30 rfl hl (by decide) rfl (fun ls hl => ?_)
            refine lv_goto (tgt := 112) hx hb dX3_sum_31 (by decide) ?_
            refine lv_iinc (v := (x3_4 + (1 : Int32))) (lv' := [(3, .int (x3_4 + (1 : Int32))), (2, .int (x2_4 + (1 : Int32))), (0, .ref (b 0)), (1, .int p1)]) hx hb dX3_sum_112 hl (k := 3) rfl rfl (by decide) rfl (fun ls hl => ?_)
            refine lv_goto (tgt := 4) hx hb dX3_sum_115 (by decide) ?_
            exact ih (x2_4 + (1 : Int32)) (x3_4 + (1 : Int32))  ls (lv_sub hl [2, 3, 1, 0] rfl) h
  exact L4 FU (0 : Int32) (0 : Int32)  ls (lv_sub hl [2, 3, 1, 0] rfl) h
set_option maxHeartbeats 4000000 in
set_option maxRecDepth 100000 in
theorem c_X3_counted (l : Launch) (D : va_G) (c5 : Nat → ClassId) (b : Nat → Nat) (m : MSt) (p1 : Int32) (r : Int32) (h : R_X3_counted m p1 = some r) : Met l yX3_counted (ws_ yX3_counted cX3_counted 2 (some .int)) { frames := 3, cells := 0, slots := 0, locals := 65 } (va_Pc [.ref (b 0), .int p1] (roB D (tyG c5) (MW c5 b m))) (vp_Si (fun x => x = r)) 0 0 (fun _ => False) := by
  refine Met.ofW (cc := cX3_counted) (maxL := 2) (ret := (some .int)) (by decide) rfl ?_
  intro p e s m9 args below meth c s₁ B hml hv
  obtain ⟨rfl, hP, hK⟩ := hv
  have hx := B.exec
  have hb := B.bytes
  have hr := B.returns
  have hts : ∀ w ∈ LA, w.before _ s = true := fun w hw => atoms_spec (ws := ws_ yX3_counted cX3_counted 2 (some .int)) B.pre w (List.mem_cons_of_mem _ hw)
  have hown : s.vm.findClass RX3 = some m9.cls := findClass_of_methodNamed B.named
  have hlocks := B.notSynchronized
  have hl := lv_entry ([.ref (b 0), .int p1] : List Value) (n := 2) (Nat.le_of_ble_eq_true rfl)
  rw [lg_entry_eq]
  generalize (lg_sl ([.ref (b 0), .int p1] : List Value) ++ List.replicate (2 - (lg_sl ([.ref (b 0), .int p1] : List Value)).length) Slot.unset).toArray = ls at hl ⊢
  have hl : lv_has ls 2 [(0, .ref (b 0)), (1, .int p1)] := hl
  unfold R_X3_counted at h
  refine lv_iload_n hx hb dX3_counted_0 rfl (lv_at hl 1 rfl) ?_
  rcases Decidable.em (p1 = 0) with c1_0 | c1_0
  · have h := o_t h c1_0
    refine lv_tableIn (off := 55) (tgt := 56) hx hb dX3_counted_1 (by rw [c1_0]; decide) (by rw [c1_0]; decide) (by rw [c1_0]; rfl) (by decide) ?_
    refine lv_aload_n hx hb dX3_counted_56 rfl (lv_at hl 0 rfl) ?_
    refine va_get (D := D) (ci := 3) (v := .int (mF m 1)) (C := RX3) (T := TX3) (N := 14) hx hb hts iX3 hown hK hP 0 (MW_0 c5 b m) rfl 1 (by decide) (hts _ wT3_29) (fun _ h9 => h9) rfl dX3_counted_57 ?_
    exact ro_iret hx hb hr hlocks dX3_counted_60 (Option.some.inj h)
  · have h := o_f h c1_0
    rcases Decidable.em (p1 = 1) with c1_1 | c1_1
    · have h := o_t h c1_1
      refine lv_tableIn (off := 60) (tgt := 61) hx hb dX3_counted_1 (by rw [c1_1]; decide) (by rw [c1_1]; decide) (by rw [c1_1]; rfl) (by decide) ?_
      refine lv_aload_n hx hb dX3_counted_61 rfl (lv_at hl 0 rfl) ?_
      refine va_get (D := D) (ci := 3) (v := .int (mF m 5)) (C := RX3) (T := TX3) (N := 14) hx hb hts iX3 hown hK hP 0 (MW_0 c5 b m) rfl 5 (by decide) (hts _ wT3_33) (fun _ h9 => h9) rfl dX3_counted_62 ?_
      exact ro_iret hx hb hr hlocks dX3_counted_65 (Option.some.inj h)
    · have h := o_f h c1_1
      rcases Decidable.em (p1 = 2) with c1_2 | c1_2
      · have h := o_t h c1_2
        refine lv_tableIn (off := 80) (tgt := 81) hx hb dX3_counted_1 (by rw [c1_2]; decide) (by rw [c1_2]; decide) (by rw [c1_2]; rfl) (by decide) ?_
        refine lv_aload_n hx hb dX3_counted_81 rfl (lv_at hl 0 rfl) ?_
        refine lv_iload_n hx hb dX3_counted_82 rfl (lv_at hl 1 rfl) ?_
        obtain ⟨v83, e83, h⟩ := o_bind h
        refine ro_calli (ro_runV (As := [.int p1]) (rest := []) ⟨hx, hb, hml, hown, hts⟩ hP hK (c_X3_sum l D c5 b m p1 v83 e83) gG_RX3_157 (va_recv hK hP (ci := 3) (q0 := 0) rfl (MW_0 c5 b m)) hd_X3_sum ⟨Nat.le_of_ble_eq_true rfl, Nat.le_of_ble_eq_true rfl⟩ ⟨rfl, rfl⟩ hl.1 (Nat.le_of_ble_eq_true rfl) dX3_counted_83 ⟨Nat.zero_le _, Nat.zero_le _⟩ rfl) ?_
        exact ro_iret hx hb hr hlocks dX3_counted_86 (Option.some.inj h)
      · have h := o_f h c1_2
        rcases Decidable.em (p1 = 3) with c1_3 | c1_3
        · have h := o_t h c1_3
          refine lv_tableIn (off := 80) (tgt := 81) hx hb dX3_counted_1 (by rw [c1_3]; decide) (by rw [c1_3]; decide) (by rw [c1_3]; rfl) (by decide) ?_
          refine lv_aload_n hx hb dX3_counted_81 rfl (lv_at hl 0 rfl) ?_
          refine lv_iload_n hx hb dX3_counted_82 rfl (lv_at hl 1 rfl) ?_
          obtain ⟨v83, e83, h⟩ := o_bind h
          refine ro_calli (ro_runV (As := [.int p1]) (rest := []) ⟨hx, hb, hml, hown, hts⟩ hP hK (c_X3_sum l D c5 b m p1 v83 e83) gG_RX3_157 (va_recv hK hP (ci := 3) (q0 := 0) rfl (MW_0 c5 b m)) hd_X3_sum ⟨Nat.le_of_ble_eq_true rfl, Nat.le_of_ble_eq_true rfl⟩ ⟨rfl, rfl⟩ hl.1 (Nat.le_of_ble_eq_true rfl) dX3_counted_83 ⟨Nat.zero_le _, Nat.zero_le _⟩ rfl) ?_
          exact ro_iret hx hb hr hlocks dX3_counted_86 (Option.some.inj h)
        · have h := o_f h c1_3
          rcases Decidable.em (p1 = 4) with c1_4 | c1_4
          · have h := o_t h c1_4
            refine lv_tableIn (off := 80) (tgt := 81) hx hb dX3_counted_1 (by rw [c1_4]; decide) (by rw [c1_4]; decide) (by rw [c1_4]; rfl) (by decide) ?_
            refine lv_aload_n hx hb dX3_counted_81 rfl (lv_at hl 0 rfl) ?_
            refine lv_iload_n hx hb dX3_counted_82 rfl (lv_at hl 1 rfl) ?_
            obtain ⟨v83, e83, h⟩ := o_bind h
            refine ro_calli (ro_runV (As := [.int p1]) (rest := []) ⟨hx, hb, hml, hown, hts⟩ hP hK (c_X3_sum l D c5 b m p1 v83 e83) gG_RX3_157 (va_recv hK hP (ci := 3) (q0 := 0) rfl (MW_0 c5 b m)) hd_X3_sum ⟨Nat.le_of_ble_eq_true rfl, Nat.le_of_ble_eq_true rfl⟩ ⟨rfl, rfl⟩ hl.1 (Nat.le_of_ble_eq_true rfl) dX3_counted_83 ⟨Nat.zero_le _, Nat.zero_le _⟩ rfl) ?_
            exact ro_iret hx hb hr hlocks dX3_counted_86 (Option.some.inj h)
          · have h := o_f h c1_4
            rcases Decidable.em (p1 = 5) with c1_5 | c1_5
            · have h := o_t h c1_5
              refine lv_tableIn (off := 80) (tgt := 81) hx hb dX3_counted_1 (by rw [c1_5]; decide) (by rw [c1_5]; decide) (by rw [c1_5]; rfl) (by decide) ?_
              refine lv_aload_n hx hb dX3_counted_81 rfl (lv_at hl 0 rfl) ?_
              refine lv_iload_n hx hb dX3_counted_82 rfl (lv_at hl 1 rfl) ?_
              obtain ⟨v83, e83, h⟩ := o_bind h
              refine ro_calli (ro_runV (As := [.int p1]) (rest := []) ⟨hx, hb, hml, hown, hts⟩ hP hK (c_X3_sum l D c5 b m p1 v83 e83) gG_RX3_157 (va_recv hK hP (ci := 3) (q0 := 0) rfl (MW_0 c5 b m)) hd_X3_sum ⟨Nat.le_of_ble_eq_true rfl, Nat.le_of_ble_eq_true rfl⟩ ⟨rfl, rfl⟩ hl.1 (Nat.le_of_ble_eq_true rfl) dX3_counted_83 ⟨Nat.zero_le _, Nat.zero_le _⟩ rfl) ?_
              exact ro_iret hx hb hr hlocks dX3_counted_86 (Option.some.inj h)
            · have h := o_f h c1_5
              rcases Decidable.em (p1 = 6) with c1_6 | c1_6
              · have h := o_t h c1_6
                refine lv_tableIn (off := 80) (tgt := 81) hx hb dX3_counted_1 (by rw [c1_6]; decide) (by rw [c1_6]; decide) (by rw [c1_6]; rfl) (by decide) ?_
                refine lv_aload_n hx hb dX3_counted_81 rfl (lv_at hl 0 rfl) ?_
                refine lv_iload_n hx hb dX3_counted_82 rfl (lv_at hl 1 rfl) ?_
                obtain ⟨v83, e83, h⟩ := o_bind h
                refine ro_calli (ro_runV (As := [.int p1]) (rest := []) ⟨hx, hb, hml, hown, hts⟩ hP hK (c_X3_sum l D c5 b m p1 v83 e83) gG_RX3_157 (va_recv hK hP (ci := 3) (q0 := 0) rfl (MW_0 c5 b m)) hd_X3_sum ⟨Nat.le_of_ble_eq_true rfl, Nat.le_of_ble_eq_true rfl⟩ ⟨rfl, rfl⟩ hl.1 (Nat.le_of_ble_eq_true rfl) dX3_counted_83 ⟨Nat.zero_le _, Nat.zero_le _⟩ rfl) ?_
                exact ro_iret hx hb hr hlocks dX3_counted_86 (Option.some.inj h)
              · have h := o_f h c1_6
                rcases Decidable.em (p1 = 7) with c1_7 | c1_7
                · have h := o_t h c1_7
                  refine lv_tableIn (off := 65) (tgt := 66) hx hb dX3_counted_1 (by rw [c1_7]; decide) (by rw [c1_7]; decide) (by rw [c1_7]; rfl) (by decide) ?_
                  refine lv_aload_n hx hb dX3_counted_66 rfl (lv_at hl 0 rfl) ?_
                  refine va_get (D := D) (ci := 3) (v := .int (mF m 3)) (C := RX3) (T := TX3) (N := 14) hx hb hts iX3 hown hK hP 0 (MW_0 c5 b m) rfl 3 (by decide) (hts _ wT3_31) (fun _ h9 => h9) rfl dX3_counted_67 ?_
                  exact ro_iret hx hb hr hlocks dX3_counted_70 (Option.some.inj h)
                · have h := o_f h c1_7
                  rcases Decidable.em (p1 = 8) with c1_8 | c1_8
                  · have h := o_t h c1_8
                    refine lv_tableIn (off := 70) (tgt := 71) hx hb dX3_counted_1 (by rw [c1_8]; decide) (by rw [c1_8]; decide) (by rw [c1_8]; rfl) (by decide) ?_
                    refine lv_aload_n hx hb dX3_counted_71 rfl (lv_at hl 0 rfl) ?_
                    refine va_get (D := D) (ci := 3) (v := .int (mF m 4)) (C := RX3) (T := TX3) (N := 14) hx hb hts iX3 hown hK hP 0 (MW_0 c5 b m) rfl 4 (by decide) (hts _ wT3_32) (fun _ h9 => h9) rfl dX3_counted_72 ?_
                    exact ro_iret hx hb hr hlocks dX3_counted_75 (Option.some.inj h)
                  · have h := o_f h c1_8
                    rcases Decidable.em (p1 = 9) with c1_9 | c1_9
                    · have h := o_t h c1_9
                      refine lv_tableIn (off := 75) (tgt := 76) hx hb dX3_counted_1 (by rw [c1_9]; decide) (by rw [c1_9]; decide) (by rw [c1_9]; rfl) (by decide) ?_
                      refine lv_aload_n hx hb dX3_counted_76 rfl (lv_at hl 0 rfl) ?_
                      refine va_get (D := D) (ci := 3) (v := .int (mF m 2)) (C := RX3) (T := TX3) (N := 14) hx hb hts iX3 hown hK hP 0 (MW_0 c5 b m) rfl 2 (by decide) (hts _ wT3_30) (fun _ h9 => h9) rfl dX3_counted_77 ?_
                      exact ro_iret hx hb hr hlocks dX3_counted_80 (Option.some.inj h)
                    · have h := o_f h c1_9
                      have n1_0 := lv_neT (a := 0) c1_0 rfl
                      have n1_1 := lv_neT (a := 1) c1_1 rfl
                      have n1_2 := lv_neT (a := 2) c1_2 rfl
                      have n1_3 := lv_neT (a := 3) c1_3 rfl
                      have n1_4 := lv_neT (a := 4) c1_4 rfl
                      have n1_5 := lv_neT (a := 5) c1_5 rfl
                      have n1_6 := lv_neT (a := 6) c1_6 rfl
                      have n1_7 := lv_neT (a := 7) c1_7 rfl
                      have n1_8 := lv_neT (a := 8) c1_8 rfl
                      have n1_9 := lv_neT (a := 9) c1_9 rfl
                      refine lv_tableOut (tgt := 81) hx hb dX3_counted_1 (by omega) (by decide) ?_
                      refine lv_aload_n hx hb dX3_counted_81 rfl (lv_at hl 0 rfl) ?_
                      refine lv_iload_n hx hb dX3_counted_82 rfl (lv_at hl 1 rfl) ?_
                      obtain ⟨v83, e83, h⟩ := o_bind h
                      refine ro_calli (ro_runV (As := [.int p1]) (rest := []) ⟨hx, hb, hml, hown, hts⟩ hP hK (c_X3_sum l D c5 b m p1 v83 e83) gG_RX3_157 (va_recv hK hP (ci := 3) (q0 := 0) rfl (MW_0 c5 b m)) hd_X3_sum ⟨Nat.le_of_ble_eq_true rfl, Nat.le_of_ble_eq_true rfl⟩ ⟨rfl, rfl⟩ hl.1 (Nat.le_of_ble_eq_true rfl) dX3_counted_83 ⟨Nat.zero_le _, Nat.zero_le _⟩ rfl) ?_
                      exact ro_iret hx hb hr hlocks dX3_counted_86 (Option.some.inj h)
set_option maxHeartbeats 4000000 in
set_option maxRecDepth 100000 in
theorem c_X3_count (l : Launch) (D : va_G) (c5 : Nat → ClassId) (b : Nat → Nat) (m : MSt) (sz : Nat) (p1 : Int32) (r : Int32 × MSt) (h : R_X3_count m p1 = some r) : Met l yX3_count (ws_ yX3_count cX3_count 2 (some .int)) { frames := 4, cells := 0, slots := 0, locals := 86 } (va_Pc [.ref (b 0), .int p1] (rwB D (tyG c5) (MW c5 b m) sz)) (va_Qi (fun x u => x = r.1 ∧ u = r.2) (rwE D (tyG c5) (va_A (MW c5 b m) sz) (fun u => MW c5 b u)) (va_A (MW c5 b m) sz)) 0 0 (va_A (MW c5 b m) sz) := by
  refine Met.ofW (cc := cX3_count) (maxL := 2) (ret := (some .int)) (by decide) rfl ?_
  intro p e s m9 args below meth c s₁ B hml hv
  obtain ⟨rfl, hsz, hP, hK, hD0⟩ := hv
  have hx := B.exec
  have hb := B.bytes
  have hr := B.returns
  have hts : ∀ w ∈ LA, w.before _ s = true := fun w hw => atoms_spec (ws := ws_ yX3_count cX3_count 2 (some .int)) B.pre w (List.mem_cons_of_mem _ hw)
  have hown : s.vm.findClass RX3 = some m9.cls := findClass_of_methodNamed B.named
  have hlocks := B.notSynchronized
  subst hsz
  have hD := hD0.self (sz := s.heap.size)
  generalize hAe : va_A (MW c5 b m) s.heap.size = A at hD ⊢
  have hA : ∀ q : Nat, s.heap.size ≤ q → A q := fun q h => by rw [← hAe]; exact Or.inr h
  have hS : va_S A s.heap s.heap [] := va_S.rf
  have hl := lv_entry ([.ref (b 0), .int p1] : List Value) (n := 2) (Nat.le_of_ble_eq_true rfl)
  rw [lg_entry_eq]
  generalize (lg_sl ([.ref (b 0), .int p1] : List Value) ++ List.replicate (2 - (lg_sl ([.ref (b 0), .int p1] : List Value)).length) Slot.unset).toArray = ls at hl ⊢
  have hl : lv_has ls 2 [(0, .ref (b 0)), (1, .int p1)] := hl
  unfold R_X3_count at h
  refine lv_aload_n hx hb dX3_count_0 rfl (lv_at hl 0 rfl) ?_
  refine lv_iconst (v := (0 : Int32)) hx hb dX3_count_1 (by decide) ?_
  refine va_put (D := D) (ci := 3) (v := .int (0 : Int32)) (ty := .int) (C := RX3) (T := TX3) (N := 14) hx hb hts iX3 tyX3 tyX3_ok nmX3 hown hK hP hD hS 0 (MW_0 c5 b m) rfl 0 (by decide) (hts _ wT3_28) (fun _ h9 => h9) rfl (by decide +kernel) rfl rfl (Nat.le_of_ble_eq_true rfl) dX3_count_2 (fun H locs hP hD hS => ?_)
  have hP := wP (MW_set0 c5 b m 0 (by decide) _) hP
  have hD := wD (MW_set0 c5 b m 0 (by decide) _) hD
  refine lv_iload_n hx hb dX3_count_5 rfl (lv_at hl 1 rfl) ?_
  refine lv_iconst (v := (0 : Int32)) hx hb dX3_count_6 (by decide) ?_
  refine lv_bipush (v := (9 : Int32)) hx hb dX3_count_7 (by decide) ?_
  obtain ⟨v9, e9, h⟩ := o_bind h
  refine ro_calli (ro_runS (As := [.int p1, .int (0 : Int32), .int (9 : Int32)]) (rest := []) ⟨hx, hb, hml, hown, hts⟩ hP hK (c_X3_isIn l D (tyG c5) (MW c5 b (mFs m 0 (0 : Int32))) p1 (0 : Int32) (9 : Int32) v9 e9) gG_RX3_41 hd_X3_isIn ⟨Nat.le_of_ble_eq_true rfl, Nat.le_of_ble_eq_true rfl⟩ ⟨rfl, rfl⟩ hl.1 (Nat.le_of_ble_eq_true rfl) dX3_count_9 ⟨Nat.zero_le _, Nat.zero_le _⟩ rfl) ?_
  refine lv_if_eq (tgt := 23) hx hb dX3_count_12 (by decide) (fun q => ?_) (fun q => ?_)
  · have h := o_t h q
    refine lv_aload_n hx hb dX3_count_23 rfl (lv_at hl 0 rfl) ?_
    refine lv_iconst (v := (1 : Int32)) hx hb dX3_count_24 (by decide) ?_
    obtain ⟨v25, e25, h⟩ := o_bind h
    refine rw_calli (rw_runV (As := [.int (1 : Int32)]) (rest := []) ⟨hx, hb, hml, hown, hts⟩ hP hK hD (c_X3_no l D c5 b (mFs m 0 (0 : Int32)) H.size (1 : Int32) v25 e25) gG_RX3_127 (va_recv hK hP (ci := 3) (q0 := 0) rfl (MW_0 c5 b (mFs m 0 (0 : Int32)))) hd_X3_no ⟨Nat.le_of_ble_eq_true rfl, Nat.le_of_ble_eq_true rfl⟩ ⟨rfl, rfl⟩ hl.1 (Nat.le_of_ble_eq_true rfl) dX3_count_25 ⟨Nat.le_of_ble_eq_true rfl, Nat.le_of_ble_eq_true rfl⟩ rfl) hD hS hA (fun H locs hP hD hS => ?_)
    obtain rfl := (Option.some.inj h)
    exact rw_iret (wf := fun u => MW c5 b u) hx hb hr hlocks hP hK hD hS dX3_count_28 rfl
  · have h := o_f h q
    refine lv_aload_n hx hb dX3_count_15 rfl (lv_at hl 0 rfl) ?_
    refine lv_iload_n hx hb dX3_count_16 rfl (lv_at hl 1 rfl) ?_
    obtain ⟨v17, e17, h⟩ := o_bind h
    refine ro_calli (ro_runV (As := [.int p1]) (rest := []) ⟨hx, hb, hml, hown, hts⟩ hP hK (c_X3_counted l D c5 b (mFs m 0 (0 : Int32)) p1 v17 e17) gG_RX3_160 (va_recv hK hP (ci := 3) (q0 := 0) rfl (MW_0 c5 b (mFs m 0 (0 : Int32)))) hd_X3_counted ⟨Nat.le_of_ble_eq_true rfl, Nat.le_of_ble_eq_true rfl⟩ ⟨rfl, rfl⟩ hl.1 (Nat.le_of_ble_eq_true rfl) dX3_count_17 ⟨Nat.zero_le _, Nat.zero_le _⟩ rfl) ?_
    refine lv_goto (tgt := 28) hx hb dX3_count_20 (by decide) ?_
    obtain rfl := (Option.some.inj h)
    exact rw_iret (wf := fun u => MW c5 b u) hx hb hr hlocks hP hK hD hS dX3_count_28 rfl
set_option maxHeartbeats 4000000 in
set_option maxRecDepth 100000 in
theorem c_X3_next (l : Launch) (D : va_G) (c5 : Nat → ClassId) (b : Nat → Nat) (m : MSt) (sz : Nat) (p1 : Int32) (r : Int32 × MSt) (h : R_X3_next m p1 = some r) : Met l yX3_next (ws_ yX3_next cX3_next 2 (some .int)) { frames := 6, cells := 0, slots := 0, locals := 129 } (va_Pc [.ref (b 0), .int p1] (rwB D (tyG c5) (MW c5 b m) sz)) (va_Qi (fun x u => x = r.1 ∧ u = r.2) (rwE D (tyG c5) (va_A (MW c5 b m) sz) (fun u => MW c5 b u)) (va_A (MW c5 b m) sz)) 0 0 (va_A (MW c5 b m) sz) := by
  refine Met.ofW (cc := cX3_next) (maxL := 2) (ret := (some .int)) (by decide) rfl ?_
  intro p e s m9 args below meth c s₁ B hml hv
  obtain ⟨rfl, hsz, hP, hK, hD0⟩ := hv
  have hx := B.exec
  have hb := B.bytes
  have hr := B.returns
  have hts : ∀ w ∈ LA, w.before _ s = true := fun w hw => atoms_spec (ws := ws_ yX3_next cX3_next 2 (some .int)) B.pre w (List.mem_cons_of_mem _ hw)
  have hown : s.vm.findClass RX3 = some m9.cls := findClass_of_methodNamed B.named
  have hlocks := B.notSynchronized
  subst hsz
  have hD := hD0.self (sz := s.heap.size)
  generalize hAe : va_A (MW c5 b m) s.heap.size = A at hD ⊢
  have hA : ∀ q : Nat, s.heap.size ≤ q → A q := fun q h => by rw [← hAe]; exact Or.inr h
  have hS : va_S A s.heap s.heap [] := va_S.rf
  have hl := lv_entry ([.ref (b 0), .int p1] : List Value) (n := 2) (Nat.le_of_ble_eq_true rfl)
  rw [lg_entry_eq]
  generalize (lg_sl ([.ref (b 0), .int p1] : List Value) ++ List.replicate (2 - (lg_sl ([.ref (b 0), .int p1] : List Value)).length) Slot.unset).toArray = ls at hl ⊢
  have hl : lv_has ls 2 [(0, .ref (b 0)), (1, .int p1)] := hl
  unfold R_X3_next at h
  refine lv_aload_n hx hb dX3_next_0 rfl (lv_at hl 0 rfl) ?_
  refine lv_iconst (v := (0 : Int32)) hx hb dX3_next_1 (by decide) ?_
  refine va_put (D := D) (ci := 3) (v := .int (0 : Int32)) (ty := .int) (C := RX3) (T := TX3) (N := 14) hx hb hts iX3 tyX3 tyX3_ok nmX3 hown hK hP hD hS 0 (MW_0 c5 b m) rfl 0 (by decide) (hts _ wT3_28) (fun _ h9 => h9) rfl (by decide +kernel) rfl rfl (Nat.le_of_ble_eq_true rfl) dX3_next_2 (fun H locs hP hD hS => ?_)
  have hP := wP (MW_set0 c5 b m 0 (by decide) _) hP
  have hD := wD (MW_set0 c5 b m 0 (by decide) _) hD
  refine lv_aload_n hx hb dX3_next_5 rfl (lv_at hl 0 rfl) ?_
  refine lv_iload_n hx hb dX3_next_6 rfl (lv_at hl 1 rfl) ?_
  obtain ⟨v7, e7, h⟩ := o_bind h
  refine ro_calli (ro_runV (As := [.int p1]) (rest := []) ⟨hx, hb, hml, hown, hts⟩ hP hK (c_X3_isKind l D c5 b (mFs m 0 (0 : Int32)) p1 v7 e7) gG_RX3_130 (va_recv hK hP (ci := 3) (q0 := 0) rfl (MW_0 c5 b (mFs m 0 (0 : Int32)))) hd_X3_isKind ⟨Nat.le_of_ble_eq_true rfl, Nat.le_of_ble_eq_true rfl⟩ ⟨rfl, rfl⟩ hl.1 (Nat.le_of_ble_eq_true rfl) dX3_next_7 ⟨Nat.zero_le _, Nat.zero_le _⟩ rfl) ?_
  refine lv_if_eq (tgt := 21) hx hb dX3_next_10 (by decide) (fun q => ?_) (fun q => ?_)
  · have h := o_t h q
    refine lv_aload_n hx hb dX3_next_21 rfl (lv_at hl 0 rfl) ?_
    refine lv_iconst (v := (1 : Int32)) hx hb dX3_next_22 (by decide) ?_
    obtain ⟨v23, e23, h⟩ := o_bind h
    refine rw_calli (rw_runV (As := [.int (1 : Int32)]) (rest := []) ⟨hx, hb, hml, hown, hts⟩ hP hK hD (c_X3_no l D c5 b (mFs m 0 (0 : Int32)) H.size (1 : Int32) v23 e23) gG_RX3_127 (va_recv hK hP (ci := 3) (q0 := 0) rfl (MW_0 c5 b (mFs m 0 (0 : Int32)))) hd_X3_no ⟨Nat.le_of_ble_eq_true rfl, Nat.le_of_ble_eq_true rfl⟩ ⟨rfl, rfl⟩ hl.1 (Nat.le_of_ble_eq_true rfl) dX3_next_23 ⟨Nat.le_of_ble_eq_true rfl, Nat.le_of_ble_eq_true rfl⟩ rfl) hD hS hA (fun H locs hP hD hS => ?_)
    obtain rfl := (Option.some.inj h)
    exact rw_iret (wf := fun u => MW c5 b u) hx hb hr hlocks hP hK hD hS dX3_next_26 rfl
  · have h := o_f h q
    refine lv_aload_n hx hb dX3_next_13 rfl (lv_at hl 0 rfl) ?_
    refine lv_iload_n hx hb dX3_next_14 rfl (lv_at hl 1 rfl) ?_
    obtain ⟨v15, e15, h⟩ := o_bind h
    refine ro_calli (ro_runV (As := [.int p1]) (rest := []) ⟨hx, hb, hml, hown, hts⟩ hP hK (c_X3_spotFor l D c5 b (mFs m 0 (0 : Int32)) p1 v15 e15) gG_RX3_163 (va_recv hK hP (ci := 3) (q0 := 0) rfl (MW_0 c5 b (mFs m 0 (0 : Int32)))) hd_X3_spotFor ⟨Nat.le_of_ble_eq_true rfl, Nat.le_of_ble_eq_true rfl⟩ ⟨rfl, rfl⟩ hl.1 (Nat.le_of_ble_eq_true rfl) dX3_next_15 ⟨Nat.zero_le _, Nat.zero_le _⟩ rfl) ?_
    refine lv_goto (tgt := 26) hx hb dX3_next_18 (by decide) ?_
    obtain rfl := (Option.some.inj h)
    exact rw_iret (wf := fun u => MW c5 b u) hx hb hr hlocks hP hK hD hS dX3_next_26 rfl
set_option maxHeartbeats 4000000 in
set_option maxRecDepth 100000 in
theorem c_X3_room (l : Launch) (D : va_G) (c5 : Nat → ClassId) (b : Nat → Nat) (m : MSt) (p1 : Int32) (r : Int32) (h : R_X3_room m p1 = some r) : Met l yX3_room (ws_ yX3_room cX3_room 2 (some .int)) { frames := 5, cells := 0, slots := 0, locals := 108 } (va_Pc [.ref (b 0), .int p1] (roB D (tyG c5) (MW c5 b m))) (vp_Si (fun x => x = r)) 0 0 (fun _ => False) := by
  refine Met.ofW (cc := cX3_room) (maxL := 2) (ret := (some .int)) (by decide) rfl ?_
  intro p e s m9 args below meth c s₁ B hml hv
  obtain ⟨rfl, hP, hK⟩ := hv
  have hx := B.exec
  have hb := B.bytes
  have hr := B.returns
  have hts : ∀ w ∈ LA, w.before _ s = true := fun w hw => atoms_spec (ws := ws_ yX3_room cX3_room 2 (some .int)) B.pre w (List.mem_cons_of_mem _ hw)
  have hown : s.vm.findClass RX3 = some m9.cls := findClass_of_methodNamed B.named
  have hlocks := B.notSynchronized
  have hl := lv_entry ([.ref (b 0), .int p1] : List Value) (n := 2) (Nat.le_of_ble_eq_true rfl)
  rw [lg_entry_eq]
  generalize (lg_sl ([.ref (b 0), .int p1] : List Value) ++ List.replicate (2 - (lg_sl ([.ref (b 0), .int p1] : List Value)).length) Slot.unset).toArray = ls at hl ⊢
  have hl : lv_has ls 2 [(0, .ref (b 0)), (1, .int p1)] := hl
  unfold R_X3_room at h
  refine lv_aload_n hx hb dX3_room_0 rfl (lv_at hl 0 rfl) ?_
  refine lv_iload_n hx hb dX3_room_1 rfl (lv_at hl 1 rfl) ?_
  refine lv_iconst (v := (0 : Int32)) hx hb dX3_room_2 (by decide) ?_
  obtain ⟨v3, e3, h⟩ := o_bind h
  refine ro_calli (ro_runV (As := [.int p1, .int (0 : Int32)]) (rest := []) ⟨hx, hb, hml, hown, hts⟩ hP hK (c_X3_shelvesOf l D c5 b m p1 (0 : Int32) v3 e3) gG_RX3_121 (va_recv hK hP (ci := 3) (q0 := 0) rfl (MW_0 c5 b m)) hd_X3_shelvesOf ⟨Nat.le_of_ble_eq_true rfl, Nat.le_of_ble_eq_true rfl⟩ ⟨rfl, rfl⟩ hl.1 (Nat.le_of_ble_eq_true rfl) dX3_room_3 ⟨Nat.zero_le _, Nat.zero_le _⟩ rfl) ?_
  refine lv_aload_n hx hb dX3_room_6 rfl (lv_at hl 0 rfl) ?_
  refine lv_iload_n hx hb dX3_room_7 rfl (lv_at hl 1 rfl) ?_
  obtain ⟨v8, e8, h⟩ := o_bind h
  refine ro_calli (ro_runV (As := [.int p1]) (rest := [.int v3]) ⟨hx, hb, hml, hown, hts⟩ hP hK (c_X3_places l D c5 b m p1 v8 e8) gG_RX3_54 (va_recv hK hP (ci := 3) (q0 := 0) rfl (MW_0 c5 b m)) hd_X3_places ⟨Nat.le_of_ble_eq_true rfl, Nat.le_of_ble_eq_true rfl⟩ ⟨rfl, rfl⟩ hl.1 (Nat.le_of_ble_eq_true rfl) dX3_room_8 ⟨Nat.zero_le _, Nat.zero_le _⟩ rfl) ?_
  refine lv_imul hx hb dX3_room_11 ?_
  refine lv_aload_n hx hb dX3_room_12 rfl (lv_at hl 0 rfl) ?_
  refine lv_iload_n hx hb dX3_room_13 rfl (lv_at hl 1 rfl) ?_
  obtain ⟨v14, e14, h⟩ := o_bind h
  refine ro_calli (ro_runV (As := [.int p1]) (rest := [.int (v3 * v8)]) ⟨hx, hb, hml, hown, hts⟩ hP hK (c_X3_bowlsOf l D c5 b m p1 v14 e14) gG_RX3_148 (va_recv hK hP (ci := 3) (q0 := 0) rfl (MW_0 c5 b m)) hd_X3_bowlsOf ⟨Nat.le_of_ble_eq_true rfl, Nat.le_of_ble_eq_true rfl⟩ ⟨rfl, rfl⟩ hl.1 (Nat.le_of_ble_eq_true rfl) dX3_room_14 ⟨Nat.zero_le _, Nat.zero_le _⟩ rfl) ?_
  refine lv_isub hx hb dX3_room_17 ?_
  exact ro_iret hx hb hr hlocks dX3_room_18 (Option.some.inj h)
set_option maxHeartbeats 4000000 in
set_option maxRecDepth 100000 in
theorem c_X3_fits (l : Launch) (D : va_G) (c5 : Nat → ClassId) (b : Nat → Nat) (m : MSt) (sz : Nat) (p1 : Int32) (r : Int32 × MSt) (h : R_X3_fits m p1 = some r) : Met l yX3_fits (ws_ yX3_fits cX3_fits 2 (some .int)) { frames := 6, cells := 0, slots := 0, locals := 129 } (va_Pc [.ref (b 0), .int p1] (rwB D (tyG c5) (MW c5 b m) sz)) (va_Qi (fun x u => x = r.1 ∧ u = r.2) (rwE D (tyG c5) (va_A (MW c5 b m) sz) (fun u => MW c5 b u)) (va_A (MW c5 b m) sz)) 0 0 (va_A (MW c5 b m) sz) := by
  refine Met.ofW (cc := cX3_fits) (maxL := 2) (ret := (some .int)) (by decide) rfl ?_
  intro p e s m9 args below meth c s₁ B hml hv
  obtain ⟨rfl, hsz, hP, hK, hD0⟩ := hv
  have hx := B.exec
  have hb := B.bytes
  have hr := B.returns
  have hts : ∀ w ∈ LA, w.before _ s = true := fun w hw => atoms_spec (ws := ws_ yX3_fits cX3_fits 2 (some .int)) B.pre w (List.mem_cons_of_mem _ hw)
  have hown : s.vm.findClass RX3 = some m9.cls := findClass_of_methodNamed B.named
  have hlocks := B.notSynchronized
  subst hsz
  have hD := hD0.self (sz := s.heap.size)
  generalize hAe : va_A (MW c5 b m) s.heap.size = A at hD ⊢
  have hA : ∀ q : Nat, s.heap.size ≤ q → A q := fun q h => by rw [← hAe]; exact Or.inr h
  have hS : va_S A s.heap s.heap [] := va_S.rf
  have hl := lv_entry ([.ref (b 0), .int p1] : List Value) (n := 2) (Nat.le_of_ble_eq_true rfl)
  rw [lg_entry_eq]
  generalize (lg_sl ([.ref (b 0), .int p1] : List Value) ++ List.replicate (2 - (lg_sl ([.ref (b 0), .int p1] : List Value)).length) Slot.unset).toArray = ls at hl ⊢
  have hl : lv_has ls 2 [(0, .ref (b 0)), (1, .int p1)] := hl
  unfold R_X3_fits at h
  refine lv_aload_n hx hb dX3_fits_0 rfl (lv_at hl 0 rfl) ?_
  refine lv_iconst (v := (0 : Int32)) hx hb dX3_fits_1 (by decide) ?_
  refine va_put (D := D) (ci := 3) (v := .int (0 : Int32)) (ty := .int) (C := RX3) (T := TX3) (N := 14) hx hb hts iX3 tyX3 tyX3_ok nmX3 hown hK hP hD hS 0 (MW_0 c5 b m) rfl 0 (by decide) (hts _ wT3_28) (fun _ h9 => h9) rfl (by decide +kernel) rfl rfl (Nat.le_of_ble_eq_true rfl) dX3_fits_2 (fun H locs hP hD hS => ?_)
  have hP := wP (MW_set0 c5 b m 0 (by decide) _) hP
  have hD := wD (MW_set0 c5 b m 0 (by decide) _) hD
  refine lv_aload_n hx hb dX3_fits_5 rfl (lv_at hl 0 rfl) ?_
  refine lv_iload_n hx hb dX3_fits_6 rfl (lv_at hl 1 rfl) ?_
  obtain ⟨v7, e7, h⟩ := o_bind h
  refine ro_calli (ro_runV (As := [.int p1]) (rest := []) ⟨hx, hb, hml, hown, hts⟩ hP hK (c_X3_isKind l D c5 b (mFs m 0 (0 : Int32)) p1 v7 e7) gG_RX3_130 (va_recv hK hP (ci := 3) (q0 := 0) rfl (MW_0 c5 b (mFs m 0 (0 : Int32)))) hd_X3_isKind ⟨Nat.le_of_ble_eq_true rfl, Nat.le_of_ble_eq_true rfl⟩ ⟨rfl, rfl⟩ hl.1 (Nat.le_of_ble_eq_true rfl) dX3_fits_7 ⟨Nat.zero_le _, Nat.zero_le _⟩ rfl) ?_
  refine lv_if_eq (tgt := 33) hx hb dX3_fits_10 (by decide) (fun q => ?_) (fun q => ?_)
  · have h := o_t h q
    refine lv_aload_n hx hb dX3_fits_33 rfl (lv_at hl 0 rfl) ?_
    refine lv_iconst (v := (1 : Int32)) hx hb dX3_fits_34 (by decide) ?_
    obtain ⟨v35, e35, h⟩ := o_bind h
    refine rw_calli (rw_runV (As := [.int (1 : Int32)]) (rest := []) ⟨hx, hb, hml, hown, hts⟩ hP hK hD (c_X3_no l D c5 b (mFs m 0 (0 : Int32)) H.size (1 : Int32) v35 e35) gG_RX3_127 (va_recv hK hP (ci := 3) (q0 := 0) rfl (MW_0 c5 b (mFs m 0 (0 : Int32)))) hd_X3_no ⟨Nat.le_of_ble_eq_true rfl, Nat.le_of_ble_eq_true rfl⟩ ⟨rfl, rfl⟩ hl.1 (Nat.le_of_ble_eq_true rfl) dX3_fits_35 ⟨Nat.le_of_ble_eq_true rfl, Nat.le_of_ble_eq_true rfl⟩ rfl) hD hS hA (fun H locs hP hD hS => ?_)
    obtain rfl := (Option.some.inj h)
    exact rw_iret (wf := fun u => MW c5 b u) hx hb hr hlocks hP hK hD hS dX3_fits_38 rfl
  · have h := o_f h q
    refine lv_aload_n hx hb dX3_fits_13 rfl (lv_at hl 0 rfl) ?_
    refine lv_iload_n hx hb dX3_fits_14 rfl (lv_at hl 1 rfl) ?_
    obtain ⟨v15, e15, h⟩ := o_bind h
    refine ro_calli (ro_runV (As := [.int p1]) (rest := []) ⟨hx, hb, hml, hown, hts⟩ hP hK (c_X3_room l D c5 b (mFs m 0 (0 : Int32)) p1 v15 e15) gG_RX3_166 (va_recv hK hP (ci := 3) (q0 := 0) rfl (MW_0 c5 b (mFs m 0 (0 : Int32)))) hd_X3_room ⟨Nat.le_of_ble_eq_true rfl, Nat.le_of_ble_eq_true rfl⟩ ⟨rfl, rfl⟩ hl.1 (Nat.le_of_ble_eq_true rfl) dX3_fits_15 ⟨Nat.zero_le _, Nat.zero_le _⟩ rfl) ?_
    refine lv_aload_n hx hb dX3_fits_18 rfl (lv_at hl 0 rfl) ?_
    refine lv_iconst (v := (2 : Int32)) hx hb dX3_fits_19 (by decide) ?_
    obtain ⟨v20, e20, h⟩ := o_bind h
    refine ro_calli (ro_runV (As := [.int (2 : Int32)]) (rest := [.int v15]) ⟨hx, hb, hml, hown, hts⟩ hP hK (c_X3_sum l D c5 b (mFs m 0 (0 : Int32)) (2 : Int32) v20 e20) gG_RX3_157 (va_recv hK hP (ci := 3) (q0 := 0) rfl (MW_0 c5 b (mFs m 0 (0 : Int32)))) hd_X3_sum ⟨Nat.le_of_ble_eq_true rfl, Nat.le_of_ble_eq_true rfl⟩ ⟨rfl, rfl⟩ hl.1 (Nat.le_of_ble_eq_true rfl) dX3_fits_20 ⟨Nat.zero_le _, Nat.zero_le _⟩ rfl) ?_
    refine lv_aload_n hx hb dX3_fits_23 rfl (lv_at hl 0 rfl) ?_
    refine lv_iload_n hx hb dX3_fits_24 rfl (lv_at hl 1 rfl) ?_
    obtain ⟨v25, e25, h⟩ := o_bind h
    refine ro_calli (ro_runV (As := [.int p1]) (rest := [.int v20, .int v15]) ⟨hx, hb, hml, hown, hts⟩ hP hK (c_X3_places l D c5 b (mFs m 0 (0 : Int32)) p1 v25 e25) gG_RX3_54 (va_recv hK hP (ci := 3) (q0 := 0) rfl (MW_0 c5 b (mFs m 0 (0 : Int32)))) hd_X3_places ⟨Nat.le_of_ble_eq_true rfl, Nat.le_of_ble_eq_true rfl⟩ ⟨rfl, rfl⟩ hl.1 (Nat.le_of_ble_eq_true rfl) dX3_fits_25 ⟨Nat.zero_le _, Nat.zero_le _⟩ rfl) ?_
    refine lv_imul hx hb dX3_fits_28 ?_
    refine lv_iadd hx hb dX3_fits_29 ?_
    refine lv_goto (tgt := 38) hx hb dX3_fits_30 (by decide) ?_
    obtain rfl := (Option.some.inj h)
    exact rw_iret (wf := fun u => MW c5 b u) hx hb hr hlocks hP hK hD hS dX3_fits_38 rfl
set_option maxHeartbeats 4000000 in
set_option maxRecDepth 100000 in
theorem c_X3_wouldCome (l : Launch) (D : va_G) (c5 : Nat → ClassId) (b : Nat → Nat) (m : MSt) (p1 : Int32) (p2 : Int32) (r : Int32) (h : R_X3_wouldCome m p1 p2 = some r) : Met l yX3_wouldCome (ws_ yX3_wouldCome cX3_wouldCome 5 (some .int)) { frames := 6, cells := 0, slots := 0, locals := 129 } (va_Pc [.ref (b 0), .int p1, .int p2] (roB D (tyG c5) (MW c5 b m))) (vp_Si (fun x => x = r)) 0 0 (fun _ => False) := by
  refine Met.ofW (cc := cX3_wouldCome) (maxL := 5) (ret := (some .int)) (by decide) rfl ?_
  intro p e s m9 args below meth c s₁ B hml hv
  obtain ⟨rfl, hP, hK⟩ := hv
  have hx := B.exec
  have hb := B.bytes
  have hr := B.returns
  have hts : ∀ w ∈ LA, w.before _ s = true := fun w hw => atoms_spec (ws := ws_ yX3_wouldCome cX3_wouldCome 5 (some .int)) B.pre w (List.mem_cons_of_mem _ hw)
  have hown : s.vm.findClass RX3 = some m9.cls := findClass_of_methodNamed B.named
  have hlocks := B.notSynchronized
  have hl := lv_entry ([.ref (b 0), .int p1, .int p2] : List Value) (n := 5) (Nat.le_of_ble_eq_true rfl)
  rw [lg_entry_eq]
  generalize (lg_sl ([.ref (b 0), .int p1, .int p2] : List Value) ++ List.replicate (5 - (lg_sl ([.ref (b 0), .int p1, .int p2] : List Value)).length) Slot.unset).toArray = ls at hl ⊢
  have hl : lv_has ls 5 [(0, .ref (b 0)), (1, .int p1), (2, .int p2)] := hl
  unfold R_X3_wouldCome at h
  refine lv_iconst (v := (0 : Int32)) hx hb dX3_wouldCome_0 (by decide) ?_
  refine lv_iload_n hx hb dX3_wouldCome_1 rfl (lv_at hl 2 rfl) ?_
  refine lv_aload_n hx hb dX3_wouldCome_2 rfl (lv_at hl 0 rfl) ?_
  refine lv_iload_n hx hb dX3_wouldCome_3 rfl (lv_at hl 1 rfl) ?_
  obtain ⟨v4, e4, h⟩ := o_bind h
  refine ro_calli (ro_runV (As := [.int p1]) (rest := [.int p2, .int (0 : Int32)]) ⟨hx, hb, hml, hown, hts⟩ hP hK (c_X3_room l D c5 b m p1 v4 e4) gG_RX3_166 (va_recv hK hP (ci := 3) (q0 := 0) rfl (MW_0 c5 b m)) hd_X3_room ⟨Nat.le_of_ble_eq_true rfl, Nat.le_of_ble_eq_true rfl⟩ ⟨rfl, rfl⟩ hl.1 (Nat.le_of_ble_eq_true rfl) dX3_wouldCome_4 ⟨Nat.zero_le _, Nat.zero_le _⟩ rfl) ?_
  refine lv_isub hx hb dX3_wouldCome_7 ?_
  refine amax hx hb hml hl.1 hown hts dX3_wouldCome_8 ⟨Nat.le_of_ble_eq_true rfl, Nat.le_of_ble_eq_true rfl⟩ ⟨Nat.zero_le _, Nat.zero_le _⟩ ?_
  refine lv_istore_n (i := 3) (lv' := [(3, .int (mx (0 : Int32) (p2 - v4))), (0, .ref (b 0)), (1, .int p1), (2, .int p2)]) hx hb dX3_wouldCome_11 rfl hl (by decide) rfl (fun ls hl => ?_)
  refine lv_iload_n hx hb dX3_wouldCome_12 rfl (lv_at hl 0 rfl) ?_
  refine lv_aload_n hx hb dX3_wouldCome_13 rfl (lv_at hl 1 rfl) ?_
  refine lv_iload_n hx hb dX3_wouldCome_14 rfl (lv_at hl 2 rfl) ?_
  obtain ⟨v15, e15, h⟩ := o_bind h
  refine ro_calli (ro_runV (As := [.int p1]) (rest := [.int (mx (0 : Int32) (p2 - v4))]) ⟨hx, hb, hml, hown, hts⟩ hP hK (c_X3_places l D c5 b m p1 v15 e15) gG_RX3_54 (va_recv hK hP (ci := 3) (q0 := 0) rfl (MW_0 c5 b m)) hd_X3_places ⟨Nat.le_of_ble_eq_true rfl, Nat.le_of_ble_eq_true rfl⟩ ⟨rfl, rfl⟩ hl.1 (Nat.le_of_ble_eq_true rfl) dX3_wouldCome_15 ⟨Nat.zero_le _, Nat.zero_le _⟩ rfl) ?_
  refine lv_iadd hx hb dX3_wouldCome_18 ?_
  refine lv_iconst (v := (1 : Int32)) hx hb dX3_wouldCome_19 (by decide) ?_
  refine lv_isub hx hb dX3_wouldCome_20 ?_
  refine lv_aload_n hx hb dX3_wouldCome_21 rfl (lv_at hl 1 rfl) ?_
  refine lv_iload_n hx hb dX3_wouldCome_22 rfl (lv_at hl 2 rfl) ?_
  obtain ⟨v23, e23, h⟩ := o_bind h
  refine ro_calli (ro_runV (As := [.int p1]) (rest := [.int (((mx (0 : Int32) (p2 - v4)) + v15) - (1 : Int32))]) ⟨hx, hb, hml, hown, hts⟩ hP hK (c_X3_places l D c5 b m p1 v23 e23) gG_RX3_54 (va_recv hK hP (ci := 3) (q0 := 0) rfl (MW_0 c5 b m)) hd_X3_places ⟨Nat.le_of_ble_eq_true rfl, Nat.le_of_ble_eq_true rfl⟩ ⟨rfl, rfl⟩ hl.1 (Nat.le_of_ble_eq_true rfl) dX3_wouldCome_23 ⟨Nat.zero_le _, Nat.zero_le _⟩ rfl) ?_
  obtain ⟨g26, h⟩ := o_if h
  refine lv_idiv hx hb dX3_wouldCome_26 g26 ?_
  refine lv_istore (i := 4) (lv' := [(4, .int ((((mx (0 : Int32) (p2 - v4)) + v15) - (1 : Int32)) / v23)), (3, .int (mx (0 : Int32) (p2 - v4))), (0, .ref (b 0)), (1, .int p1), (2, .int p2)]) hx hb dX3_wouldCome_27 hl (by decide) rfl (fun ls hl => ?_)
  refine lv_iload hx hb dX3_wouldCome_29 (lv_at hl 0 rfl) ?_
  refine lv_aload_n hx hb dX3_wouldCome_31 rfl (lv_at hl 2 rfl) ?_
  refine lv_iconst (v := (2 : Int32)) hx hb dX3_wouldCome_32 (by decide) ?_
  obtain ⟨v33, e33, h⟩ := o_bind h
  refine ro_calli (ro_runV (As := [.int (2 : Int32)]) (rest := [.int ((((mx (0 : Int32) (p2 - v4)) + v15) - (1 : Int32)) / v23)]) ⟨hx, hb, hml, hown, hts⟩ hP hK (c_X3_sum l D c5 b m (2 : Int32) v33 e33) gG_RX3_157 (va_recv hK hP (ci := 3) (q0 := 0) rfl (MW_0 c5 b m)) hd_X3_sum ⟨Nat.le_of_ble_eq_true rfl, Nat.le_of_ble_eq_true rfl⟩ ⟨rfl, rfl⟩ hl.1 (Nat.le_of_ble_eq_true rfl) dX3_wouldCome_33 ⟨Nat.zero_le _, Nat.zero_le _⟩ rfl) ?_
  refine lv_icmp_le (tgt := 43) hx hb dX3_wouldCome_36 (by decide) (fun q => ?_) (fun q => ?_)
  · have h := o_t h q
    refine lv_iload hx hb dX3_wouldCome_43 (lv_at hl 0 rfl) ?_
    exact ro_iret hx hb hr hlocks dX3_wouldCome_45 (Option.some.inj h)
  · have h := o_f h q
    refine lv_iconst (v := (-1 : Int32)) hx hb dX3_wouldCome_39 (by decide) ?_
    refine lv_goto (tgt := 45) hx hb dX3_wouldCome_40 (by decide) ?_
    exact ro_iret hx hb hr hlocks dX3_wouldCome_45 (Option.some.inj h)
set_option maxHeartbeats 4000000 in
set_option maxRecDepth 100000 in
theorem c_X3_would (l : Launch) (D : va_G) (c5 : Nat → ClassId) (b : Nat → Nat) (m : MSt) (sz : Nat) (p1 : Int32) (p2 : Int32) (r : Int32 × MSt) (h : R_X3_would m p1 p2 = some r) : Met l yX3_would (ws_ yX3_would cX3_would 3 (some .int)) { frames := 7, cells := 0, slots := 0, locals := 153 } (va_Pc [.ref (b 0), .int p1, .int p2] (rwB D (tyG c5) (MW c5 b m) sz)) (va_Qi (fun x u => x = r.1 ∧ u = r.2) (rwE D (tyG c5) (va_A (MW c5 b m) sz) (fun u => MW c5 b u)) (va_A (MW c5 b m) sz)) 0 0 (va_A (MW c5 b m) sz) := by
  refine Met.ofW (cc := cX3_would) (maxL := 3) (ret := (some .int)) (by decide) rfl ?_
  intro p e s m9 args below meth c s₁ B hml hv
  obtain ⟨rfl, hsz, hP, hK, hD0⟩ := hv
  have hx := B.exec
  have hb := B.bytes
  have hr := B.returns
  have hts : ∀ w ∈ LA, w.before _ s = true := fun w hw => atoms_spec (ws := ws_ yX3_would cX3_would 3 (some .int)) B.pre w (List.mem_cons_of_mem _ hw)
  have hown : s.vm.findClass RX3 = some m9.cls := findClass_of_methodNamed B.named
  have hlocks := B.notSynchronized
  subst hsz
  have hD := hD0.self (sz := s.heap.size)
  generalize hAe : va_A (MW c5 b m) s.heap.size = A at hD ⊢
  have hA : ∀ q : Nat, s.heap.size ≤ q → A q := fun q h => by rw [← hAe]; exact Or.inr h
  have hS : va_S A s.heap s.heap [] := va_S.rf
  have hl := lv_entry ([.ref (b 0), .int p1, .int p2] : List Value) (n := 3) (Nat.le_of_ble_eq_true rfl)
  rw [lg_entry_eq]
  generalize (lg_sl ([.ref (b 0), .int p1, .int p2] : List Value) ++ List.replicate (3 - (lg_sl ([.ref (b 0), .int p1, .int p2] : List Value)).length) Slot.unset).toArray = ls at hl ⊢
  have hl : lv_has ls 3 [(0, .ref (b 0)), (1, .int p1), (2, .int p2)] := hl
  unfold R_X3_would at h
  refine lv_aload_n hx hb dX3_would_0 rfl (lv_at hl 0 rfl) ?_
  refine lv_iconst (v := (0 : Int32)) hx hb dX3_would_1 (by decide) ?_
  refine va_put (D := D) (ci := 3) (v := .int (0 : Int32)) (ty := .int) (C := RX3) (T := TX3) (N := 14) hx hb hts iX3 tyX3 tyX3_ok nmX3 hown hK hP hD hS 0 (MW_0 c5 b m) rfl 0 (by decide) (hts _ wT3_28) (fun _ h9 => h9) rfl (by decide +kernel) rfl rfl (Nat.le_of_ble_eq_true rfl) dX3_would_2 (fun H locs hP hD hS => ?_)
  have hP := wP (MW_set0 c5 b m 0 (by decide) _) hP
  have hD := wD (MW_set0 c5 b m 0 (by decide) _) hD
  refine lv_aload_n hx hb dX3_would_5 rfl (lv_at hl 0 rfl) ?_
  refine lv_iload_n hx hb dX3_would_6 rfl (lv_at hl 1 rfl) ?_
  obtain ⟨v7, e7, h⟩ := o_bind h
  refine ro_calli (ro_runV (As := [.int p1]) (rest := []) ⟨hx, hb, hml, hown, hts⟩ hP hK (c_X3_isKind l D c5 b (mFs m 0 (0 : Int32)) p1 v7 e7) gG_RX3_130 (va_recv hK hP (ci := 3) (q0 := 0) rfl (MW_0 c5 b (mFs m 0 (0 : Int32)))) hd_X3_isKind ⟨Nat.le_of_ble_eq_true rfl, Nat.le_of_ble_eq_true rfl⟩ ⟨rfl, rfl⟩ hl.1 (Nat.le_of_ble_eq_true rfl) dX3_would_7 ⟨Nat.zero_le _, Nat.zero_le _⟩ rfl) ?_
  refine lv_if_ne (tgt := 19) hx hb dX3_would_10 (by decide) (fun q => ?_) (fun q => ?_)
  · have h := o_t' h q
    refine lv_iload_n hx hb dX3_would_19 rfl (lv_at hl 2 rfl) ?_
    refine lv_iconst (v := (1 : Int32)) hx hb dX3_would_20 (by decide) ?_
    refine lv_sipush (v := (150 : Int32)) hx hb dX3_would_21 (by decide) ?_
    obtain ⟨v24, e24, h⟩ := o_bind h
    refine ro_calli (ro_runS (As := [.int p2, .int (1 : Int32), .int (150 : Int32)]) (rest := []) ⟨hx, hb, hml, hown, hts⟩ hP hK (c_X3_isIn l D (tyG c5) (MW c5 b (mFs m 0 (0 : Int32))) p2 (1 : Int32) (150 : Int32) v24 e24) gG_RX3_41 hd_X3_isIn ⟨Nat.le_of_ble_eq_true rfl, Nat.le_of_ble_eq_true rfl⟩ ⟨rfl, rfl⟩ hl.1 (Nat.le_of_ble_eq_true rfl) dX3_would_24 ⟨Nat.zero_le _, Nat.zero_le _⟩ rfl) ?_
    refine lv_if_eq (tgt := 39) hx hb dX3_would_27 (by decide) (fun q => ?_) (fun q => ?_)
    · have h := o_t h q
      refine lv_aload_n hx hb dX3_would_39 rfl (lv_at hl 0 rfl) ?_
      refine lv_iconst (v := (2 : Int32)) hx hb dX3_would_40 (by decide) ?_
      obtain ⟨v41, e41, h⟩ := o_bind h
      refine rw_calli (rw_runV (As := [.int (2 : Int32)]) (rest := []) ⟨hx, hb, hml, hown, hts⟩ hP hK hD (c_X3_no l D c5 b (mFs m 0 (0 : Int32)) H.size (2 : Int32) v41 e41) gG_RX3_127 (va_recv hK hP (ci := 3) (q0 := 0) rfl (MW_0 c5 b (mFs m 0 (0 : Int32)))) hd_X3_no ⟨Nat.le_of_ble_eq_true rfl, Nat.le_of_ble_eq_true rfl⟩ ⟨rfl, rfl⟩ hl.1 (Nat.le_of_ble_eq_true rfl) dX3_would_41 ⟨Nat.le_of_ble_eq_true rfl, Nat.le_of_ble_eq_true rfl⟩ rfl) hD hS hA (fun H locs hP hD hS => ?_)
      obtain rfl := (Option.some.inj h)
      exact rw_iret (wf := fun u => MW c5 b u) hx hb hr hlocks hP hK hD hS dX3_would_44 rfl
    · have h := o_f h q
      refine lv_aload_n hx hb dX3_would_30 rfl (lv_at hl 0 rfl) ?_
      refine lv_iload_n hx hb dX3_would_31 rfl (lv_at hl 1 rfl) ?_
      refine lv_iload_n hx hb dX3_would_32 rfl (lv_at hl 2 rfl) ?_
      obtain ⟨v33, e33, h⟩ := o_bind h
      refine ro_calli (ro_runV (As := [.int p1, .int p2]) (rest := []) ⟨hx, hb, hml, hown, hts⟩ hP hK (c_X3_wouldCome l D c5 b (mFs m 0 (0 : Int32)) p1 p2 v33 e33) gG_RX3_174 (va_recv hK hP (ci := 3) (q0 := 0) rfl (MW_0 c5 b (mFs m 0 (0 : Int32)))) hd_X3_wouldCome ⟨Nat.le_of_ble_eq_true rfl, Nat.le_of_ble_eq_true rfl⟩ ⟨rfl, rfl⟩ hl.1 (Nat.le_of_ble_eq_true rfl) dX3_would_33 ⟨Nat.zero_le _, Nat.zero_le _⟩ rfl) ?_
      refine lv_goto (tgt := 44) hx hb dX3_would_36 (by decide) ?_
      obtain rfl := (Option.some.inj h)
      exact rw_iret (wf := fun u => MW c5 b u) hx hb hr hlocks hP hK hD hS dX3_would_44 rfl
  · have h := o_f' h q
    refine lv_aload_n hx hb dX3_would_13 rfl (lv_at hl 0 rfl) ?_
    refine lv_iconst (v := (1 : Int32)) hx hb dX3_would_14 (by decide) ?_
    obtain ⟨v15, e15, h⟩ := o_bind h
    refine rw_calli (rw_runV (As := [.int (1 : Int32)]) (rest := []) ⟨hx, hb, hml, hown, hts⟩ hP hK hD (c_X3_no l D c5 b (mFs m 0 (0 : Int32)) H.size (1 : Int32) v15 e15) gG_RX3_127 (va_recv hK hP (ci := 3) (q0 := 0) rfl (MW_0 c5 b (mFs m 0 (0 : Int32)))) hd_X3_no ⟨Nat.le_of_ble_eq_true rfl, Nat.le_of_ble_eq_true rfl⟩ ⟨rfl, rfl⟩ hl.1 (Nat.le_of_ble_eq_true rfl) dX3_would_15 ⟨Nat.le_of_ble_eq_true rfl, Nat.le_of_ble_eq_true rfl⟩ rfl) hD hS hA (fun H locs hP hD hS => ?_)
    obtain rfl := (Option.some.inj h)
    exact rw_iret (wf := fun u => MW c5 b u) hx hb hr hlocks hP hK hD hS dX3_would_18 rfl
set_option maxHeartbeats 4000000 in
set_option maxRecDepth 100000 in
theorem c_X3_gains (l : Launch) (D : va_G) (c5 : Nat → ClassId) (b : Nat → Nat) (m : MSt) (sz : Nat) (p1 : Int32) (r : Int32 × MSt) (h : R_X3_gains m p1 = some r) : Met l yX3_gains (ws_ yX3_gains cX3_gains 2 (some .int)) { frames := 7, cells := 0, slots := 0, locals := 155 } (va_Pc [.ref (b 0), .int p1] (rwB D (tyG c5) (MW c5 b m) sz)) (va_Qi (fun x u => x = r.1 ∧ u = r.2) (rwE D (tyG c5) (va_A (MW c5 b m) sz) (fun u => MW c5 b u)) (va_A (MW c5 b m) sz)) 0 0 (va_A (MW c5 b m) sz) := by
  refine Met.ofW (cc := cX3_gains) (maxL := 2) (ret := (some .int)) (by decide) rfl ?_
  intro p e s m9 args below meth c s₁ B hml hv
  obtain ⟨rfl, hsz, hP, hK, hD0⟩ := hv
  have hx := B.exec
  have hb := B.bytes
  have hr := B.returns
  have hts : ∀ w ∈ LA, w.before _ s = true := fun w hw => atoms_spec (ws := ws_ yX3_gains cX3_gains 2 (some .int)) B.pre w (List.mem_cons_of_mem _ hw)
  have hown : s.vm.findClass RX3 = some m9.cls := findClass_of_methodNamed B.named
  have hlocks := B.notSynchronized
  subst hsz
  have hD := hD0.self (sz := s.heap.size)
  generalize hAe : va_A (MW c5 b m) s.heap.size = A at hD ⊢
  have hA : ∀ q : Nat, s.heap.size ≤ q → A q := fun q h => by rw [← hAe]; exact Or.inr h
  have hS : va_S A s.heap s.heap [] := va_S.rf
  have hl := lv_entry ([.ref (b 0), .int p1] : List Value) (n := 2) (Nat.le_of_ble_eq_true rfl)
  rw [lg_entry_eq]
  generalize (lg_sl ([.ref (b 0), .int p1] : List Value) ++ List.replicate (2 - (lg_sl ([.ref (b 0), .int p1] : List Value)).length) Slot.unset).toArray = ls at hl ⊢
  have hl : lv_has ls 2 [(0, .ref (b 0)), (1, .int p1)] := hl
  unfold R_X3_gains at h
  refine lv_aload_n hx hb dX3_gains_0 rfl (lv_at hl 0 rfl) ?_
  refine lv_iconst (v := (0 : Int32)) hx hb dX3_gains_1 (by decide) ?_
  refine va_put (D := D) (ci := 3) (v := .int (0 : Int32)) (ty := .int) (C := RX3) (T := TX3) (N := 14) hx hb hts iX3 tyX3 tyX3_ok nmX3 hown hK hP hD hS 0 (MW_0 c5 b m) rfl 0 (by decide) (hts _ wT3_28) (fun _ h9 => h9) rfl (by decide +kernel) rfl rfl (Nat.le_of_ble_eq_true rfl) dX3_gains_2 (fun H locs hP hD hS => ?_)
  have hP := wP (MW_set0 c5 b m 0 (by decide) _) hP
  have hD := wD (MW_set0 c5 b m 0 (by decide) _) hD
  refine lv_aload_n hx hb dX3_gains_5 rfl (lv_at hl 0 rfl) ?_
  refine lv_iload_n hx hb dX3_gains_6 rfl (lv_at hl 1 rfl) ?_
  obtain ⟨v7, e7, h⟩ := o_bind h
  refine ro_calli (ro_runV (As := [.int p1]) (rest := []) ⟨hx, hb, hml, hown, hts⟩ hP hK (c_X3_isKind l D c5 b (mFs m 0 (0 : Int32)) p1 v7 e7) gG_RX3_130 (va_recv hK hP (ci := 3) (q0 := 0) rfl (MW_0 c5 b (mFs m 0 (0 : Int32)))) hd_X3_isKind ⟨Nat.le_of_ble_eq_true rfl, Nat.le_of_ble_eq_true rfl⟩ ⟨rfl, rfl⟩ hl.1 (Nat.le_of_ble_eq_true rfl) dX3_gains_7 ⟨Nat.zero_le _, Nat.zero_le _⟩ rfl) ?_
  refine lv_if_eq (tgt := 21) hx hb dX3_gains_10 (by decide) (fun q => ?_) (fun q => ?_)
  · have h := o_t h q
    refine lv_aload_n hx hb dX3_gains_21 rfl (lv_at hl 0 rfl) ?_
    refine lv_iconst (v := (1 : Int32)) hx hb dX3_gains_22 (by decide) ?_
    obtain ⟨v23, e23, h⟩ := o_bind h
    refine rw_calli (rw_runV (As := [.int (1 : Int32)]) (rest := []) ⟨hx, hb, hml, hown, hts⟩ hP hK hD (c_X3_no l D c5 b (mFs m 0 (0 : Int32)) H.size (1 : Int32) v23 e23) gG_RX3_127 (va_recv hK hP (ci := 3) (q0 := 0) rfl (MW_0 c5 b (mFs m 0 (0 : Int32)))) hd_X3_no ⟨Nat.le_of_ble_eq_true rfl, Nat.le_of_ble_eq_true rfl⟩ ⟨rfl, rfl⟩ hl.1 (Nat.le_of_ble_eq_true rfl) dX3_gains_23 ⟨Nat.le_of_ble_eq_true rfl, Nat.le_of_ble_eq_true rfl⟩ rfl) hD hS hA (fun H locs hP hD hS => ?_)
    obtain rfl := (Option.some.inj h)
    exact rw_iret (wf := fun u => MW c5 b u) hx hb hr hlocks hP hK hD hS dX3_gains_26 rfl
  · have h := o_f h q
    refine lv_aload_n hx hb dX3_gains_13 rfl (lv_at hl 0 rfl) ?_
    refine lv_iload_n hx hb dX3_gains_14 rfl (lv_at hl 1 rfl) ?_
    obtain ⟨v15, e15, h⟩ := o_bind h
    refine rw_calli (rw_runV (As := [.int p1]) (rest := []) ⟨hx, hb, hml, hown, hts⟩ hP hK hD (c_X3_gained l D c5 b (mFs m 0 (0 : Int32)) H.size p1 v15 e15) gG_RX3_177 (va_recv hK hP (ci := 3) (q0 := 0) rfl (MW_0 c5 b (mFs m 0 (0 : Int32)))) hd_X3_gained ⟨Nat.le_of_ble_eq_true rfl, Nat.le_of_ble_eq_true rfl⟩ ⟨rfl, rfl⟩ hl.1 (Nat.le_of_ble_eq_true rfl) dX3_gains_15 ⟨Nat.le_of_ble_eq_true rfl, Nat.le_of_ble_eq_true rfl⟩ rfl) hD hS hA (fun H locs hP hD hS => ?_)
    refine lv_goto (tgt := 26) hx hb dX3_gains_18 (by decide) ?_
    obtain rfl := (Option.some.inj h)
    exact rw_iret (wf := fun u => MW c5 b u) hx hb hr hlocks hP hK hD hS dX3_gains_26 rfl
set_option maxHeartbeats 4000000 in
set_option maxRecDepth 100000 in
theorem c_X3_advise (l : Launch) (D : va_G) (c5 : Nat → ClassId) (b : Nat → Nat) (m : MSt) (sz : Nat) (r : Int32 × MSt) (h : R_X3_advise m = some r) : Met l yX3_advise (ws_ yX3_advise cX3_advise 3 (some .int)) { frames := 7, cells := 0, slots := 0, locals := 155 } (va_Pc [.ref (b 0)] (rwB D (tyG c5) (MW c5 b m) sz)) (va_Qi (fun x u => x = r.1 ∧ u = r.2) (rwE D (tyG c5) (va_A (MW c5 b m) sz) (fun u => MW c5 b u)) (va_A (MW c5 b m) sz)) 0 0 (va_A (MW c5 b m) sz) := by
  refine Met.ofW (cc := cX3_advise) (maxL := 3) (ret := (some .int)) (by decide) rfl ?_
  intro p e s m9 args below meth c s₁ B hml hv
  obtain ⟨rfl, hsz, hP, hK, hD0⟩ := hv
  have hx := B.exec
  have hb := B.bytes
  have hr := B.returns
  have hts : ∀ w ∈ LA, w.before _ s = true := fun w hw => atoms_spec (ws := ws_ yX3_advise cX3_advise 3 (some .int)) B.pre w (List.mem_cons_of_mem _ hw)
  have hown : s.vm.findClass RX3 = some m9.cls := findClass_of_methodNamed B.named
  have hlocks := B.notSynchronized
  subst hsz
  have hD := hD0.self (sz := s.heap.size)
  generalize hAe : va_A (MW c5 b m) s.heap.size = A at hD ⊢
  have hA : ∀ q : Nat, s.heap.size ≤ q → A q := fun q h => by rw [← hAe]; exact Or.inr h
  have hS : va_S A s.heap s.heap [] := va_S.rf
  have hl := lv_entry ([.ref (b 0)] : List Value) (n := 3) (Nat.le_of_ble_eq_true rfl)
  rw [lg_entry_eq]
  generalize (lg_sl ([.ref (b 0)] : List Value) ++ List.replicate (3 - (lg_sl ([.ref (b 0)] : List Value)).length) Slot.unset).toArray = ls at hl ⊢
  have hl : lv_has ls 3 [(0, .ref (b 0))] := hl
  unfold R_X3_advise at h
  refine lv_aload_n hx hb dX3_advise_0 rfl (lv_at hl 0 rfl) ?_
  refine lv_iconst (v := (0 : Int32)) hx hb dX3_advise_1 (by decide) ?_
  refine va_put (D := D) (ci := 3) (v := .int (0 : Int32)) (ty := .int) (C := RX3) (T := TX3) (N := 14) hx hb hts iX3 tyX3 tyX3_ok nmX3 hown hK hP hD hS 0 (MW_0 c5 b m) rfl 0 (by decide) (hts _ wT3_28) (fun _ h9 => h9) rfl (by decide +kernel) rfl rfl (Nat.le_of_ble_eq_true rfl) dX3_advise_2 (fun H locs hP hD hS => ?_)
  have hP := wP (MW_set0 c5 b m 0 (by decide) _) hP
  have hD := wD (MW_set0 c5 b m 0 (by decide) _) hD
  refine lv_iconst (v := (-1 : Int32)) hx hb dX3_advise_5 (by decide) ?_
  refine lv_istore_n (i := 1) (lv' := [(1, .int (-1 : Int32)), (0, .ref (b 0))]) hx hb dX3_advise_6 rfl hl (by decide) rfl (fun ls hl => ?_)
  refine lv_iconst (v := (0 : Int32)) hx hb dX3_advise_7 (by decide) ?_
  refine lv_istore_n (i := 2) (lv' := [(2, .int (0 : Int32)), (1, .int (-1 : Int32)), (0, .ref (b 0))]) hx hb dX3_advise_8 rfl hl (by decide) rfl (fun ls hl => ?_)
  have L9 : ∀ (n : Nat) (m : MSt) (H : Heap) (locs : List Loc) (x1_9 : Int32) (x2_9 : Int32) (ls : Array Slot), lv_has ls 3 [(0, .ref (b 0)), (1, .int x1_9), (2, .int x2_9)] → va_P D vwCl (MW c5 b m) H → va_D A (MW c5 b m) → va_S A s.heap H locs → R_X3_advise_L9 n m x1_9 x2_9 = some r → W p l e (headSpec (ws_ yX3_advise cX3_advise 3 (some .int)) { frames := 7, cells := 0, slots := 0, locals := 155 }).room s m9 ([.ref (b 0)] : List Value).toArray below meth c H locs 0 0 (MQ below (va_Qi (fun x u => x = r.1 ∧ u = r.2) (rwE D (tyG c5) (A) (fun u => MW c5 b u)) (A)) ([.ref (b 0)] : List Value).toArray s 0 0 A) (F0 m9 9 ls []) := by
    intro n
    induction n with
    | zero =>
      intro m H locs x1_9 x2_9 ls hl hP hD hS h
      exact absurd h (by simp [R_X3_advise_L9])
    | succ n ih =>
      intro m H locs x1_9 x2_9 ls hl hP hD hS h
      rw [R_X3_advise_L9] at h
      refine lv_iload_n hx hb dX3_advise_9 rfl (lv_at hl 2 rfl) ?_
      refine lv_aload_n hx hb dX3_advise_10 rfl (lv_at hl 0 rfl) ?_
      refine va_get (D := D) (ci := 3) (v := .int (mF m 5)) (C := RX3) (T := TX3) (N := 14) hx hb hts iX3 hown hK hP 0 (MW_0 c5 b m) rfl 5 (by decide) (hts _ wT3_33) (fun _ h9 => h9) rfl dX3_advise_11 ?_
      refine lv_icmp_ge (tgt := 43) hx hb dX3_advise_14 (by decide) (fun q => ?_) (fun q => ?_)
      · have h := o_t h q
        refine lv_iload_n hx hb dX3_advise_43 rfl (lv_at hl 1 rfl) ?_
        obtain rfl := (Option.some.inj h)
        exact rw_iret (wf := fun u => MW c5 b u) hx hb hr hlocks hP hK hD hS dX3_advise_44 rfl
      · have h := o_f h q
        refine lv_iload_n hx hb dX3_advise_17 rfl (lv_at hl 1 rfl) ?_
        refine lv_iconst (v := (-1 : Int32)) hx hb dX3_advise_18 (by decide) ?_
        refine lv_icmp_eq (tgt := 35) hx hb dX3_advise_19 (by decide) (fun q => ?_) (fun q => ?_)
        · have h := o_t h q
          refine lv_iload_n hx hb dX3_advise_35 rfl (lv_at hl 2 rfl) ?_
          refine lv_istore_n (i := 1) (lv' := [(1, .int x2_9), (0, .ref (b 0)), (2, .int x2_9)]) hx hb dX3_advise_36 rfl hl (by decide) rfl (fun ls hl => ?_)
          refine lv_iinc (v := (x2_9 + (1 : Int32))) (lv' := [(2, .int (x2_9 + (1 : Int32))), (1, .int x2_9), (0, .ref (b 0))]) hx hb dX3_advise_37 hl (k := 2) rfl rfl (by decide) rfl (fun ls hl => ?_)
          refine lv_goto (tgt := 9) hx hb dX3_advise_40 (by decide) ?_
          exact ih m H locs x2_9 (x2_9 + (1 : Int32))  ls (lv_sub hl [2, 1, 0] rfl) hP hD hS h
        · have h := o_f h q
          refine lv_aload_n hx hb dX3_advise_22 rfl (lv_at hl 0 rfl) ?_
          refine lv_iload_n hx hb dX3_advise_23 rfl (lv_at hl 2 rfl) ?_
          obtain ⟨v24, e24, h⟩ := o_bind h
          refine rw_calli (rw_runV (As := [.int x2_9]) (rest := []) ⟨hx, hb, hml, hown, hts⟩ hP hK hD (c_X3_gained l D c5 b m H.size x2_9 v24 e24) gG_RX3_177 (va_recv hK hP (ci := 3) (q0 := 0) rfl (MW_0 c5 b m)) hd_X3_gained ⟨Nat.le_of_ble_eq_true rfl, Nat.le_of_ble_eq_true rfl⟩ ⟨rfl, rfl⟩ hl.1 (Nat.le_of_ble_eq_true rfl) dX3_advise_24 ⟨Nat.le_of_ble_eq_true rfl, Nat.le_of_ble_eq_true rfl⟩ rfl) hD hS hA (fun H locs hP hD hS => ?_)
          refine lv_aload_n hx hb dX3_advise_27 rfl (lv_at hl 0 rfl) ?_
          refine lv_iload_n hx hb dX3_advise_28 rfl (lv_at hl 1 rfl) ?_
          obtain ⟨v29, e29, h⟩ := o_bind h
          refine rw_calli (rw_runV (As := [.int x1_9]) (rest := [.int v24.1]) ⟨hx, hb, hml, hown, hts⟩ hP hK hD (c_X3_gained l D c5 b v24.2 H.size x1_9 v29 e29) gG_RX3_177 (va_recv hK hP (ci := 3) (q0 := 0) rfl (MW_0 c5 b v24.2)) hd_X3_gained ⟨Nat.le_of_ble_eq_true rfl, Nat.le_of_ble_eq_true rfl⟩ ⟨rfl, rfl⟩ hl.1 (Nat.le_of_ble_eq_true rfl) dX3_advise_29 ⟨Nat.le_of_ble_eq_true rfl, Nat.le_of_ble_eq_true rfl⟩ rfl) hD hS hA (fun H locs hP hD hS => ?_)
          refine lv_icmp_le (tgt := 37) hx hb dX3_advise_32 (by decide) (fun q => ?_) (fun q => ?_)
          · have h := o_t h q
            refine lv_iinc (v := (x2_9 + (1 : Int32))) (lv' := [(2, .int (x2_9 + (1 : Int32))), (0, .ref (b 0)), (1, .int x1_9)]) hx hb dX3_advise_37 hl (k := 2) rfl rfl (by decide) rfl (fun ls hl => ?_)
            refine lv_goto (tgt := 9) hx hb dX3_advise_40 (by decide) ?_
            exact ih v29.2 H locs x1_9 (x2_9 + (1 : Int32))  ls (lv_sub hl [1, 2, 0] rfl) hP hD hS h
          · have h := o_f h q
            refine lv_iload_n hx hb dX3_advise_35 rfl (lv_at hl 2 rfl) ?_
            refine lv_istore_n (i := 1) (lv' := [(1, .int x2_9), (0, .ref (b 0)), (2, .int x2_9)]) hx hb dX3_advise_36 rfl hl (by decide) rfl (fun ls hl => ?_)
            refine lv_iinc (v := (x2_9 + (1 : Int32))) (lv' := [(2, .int (x2_9 + (1 : Int32))), (1, .int x2_9), (0, .ref (b 0))]) hx hb dX3_advise_37 hl (k := 2) rfl rfl (by decide) rfl (fun ls hl => ?_)
            refine lv_goto (tgt := 9) hx hb dX3_advise_40 (by decide) ?_
            exact ih v29.2 H locs x2_9 (x2_9 + (1 : Int32))  ls (lv_sub hl [2, 1, 0] rfl) hP hD hS h
  exact L9 FU (mFs m 0 (0 : Int32)) H locs (-1 : Int32) (0 : Int32)  ls (lv_sub hl [2, 1, 0] rfl) hP hD hS h
set_option maxHeartbeats 4000000 in
set_option maxRecDepth 100000 in
theorem c_X3_mean (l : Launch) (D : va_G) (c5 : Nat → ClassId) (b : Nat → Nat) (m : MSt) (sz : Nat) (r : UInt64 × MSt) (h : R_X3_mean m = some r) : Met l yX3_mean (ws_ yX3_mean cX3_mean 2 (some .double)) { frames := 3, cells := 0, slots := 0, locals := 65 } (va_Pc [.ref (b 0)] (rwB D (tyG c5) (MW c5 b m) sz)) (va_Qd (fun x u => x = r.1 ∧ u = r.2) (rwE D (tyG c5) (va_A (MW c5 b m) sz) (fun u => MW c5 b u)) (va_A (MW c5 b m) sz)) 0 0 (va_A (MW c5 b m) sz) := by
  refine Met.ofW (cc := cX3_mean) (maxL := 2) (ret := (some .double)) (by decide) rfl ?_
  intro p e s m9 args below meth c s₁ B hml hv
  obtain ⟨rfl, hsz, hP, hK, hD0⟩ := hv
  have hx := B.exec
  have hb := B.bytes
  have hr := B.returns
  have hts : ∀ w ∈ LA, w.before _ s = true := fun w hw => atoms_spec (ws := ws_ yX3_mean cX3_mean 2 (some .double)) B.pre w (List.mem_cons_of_mem _ hw)
  have hown : s.vm.findClass RX3 = some m9.cls := findClass_of_methodNamed B.named
  have hlocks := B.notSynchronized
  subst hsz
  have hD := hD0.self (sz := s.heap.size)
  generalize hAe : va_A (MW c5 b m) s.heap.size = A at hD ⊢
  have hA : ∀ q : Nat, s.heap.size ≤ q → A q := fun q h => by rw [← hAe]; exact Or.inr h
  have hS : va_S A s.heap s.heap [] := va_S.rf
  have hl := lv_entry ([.ref (b 0)] : List Value) (n := 2) (Nat.le_of_ble_eq_true rfl)
  rw [lg_entry_eq]
  generalize (lg_sl ([.ref (b 0)] : List Value) ++ List.replicate (2 - (lg_sl ([.ref (b 0)] : List Value)).length) Slot.unset).toArray = ls at hl ⊢
  have hl : lv_has ls 2 [(0, .ref (b 0))] := hl
  unfold R_X3_mean at h
  refine lv_aload_n hx hb dX3_mean_0 rfl (lv_at hl 0 rfl) ?_
  refine lv_iconst (v := (0 : Int32)) hx hb dX3_mean_1 (by decide) ?_
  refine va_put (D := D) (ci := 3) (v := .int (0 : Int32)) (ty := .int) (C := RX3) (T := TX3) (N := 14) hx hb hts iX3 tyX3 tyX3_ok nmX3 hown hK hP hD hS 0 (MW_0 c5 b m) rfl 0 (by decide) (hts _ wT3_28) (fun _ h9 => h9) rfl (by decide +kernel) rfl rfl (Nat.le_of_ble_eq_true rfl) dX3_mean_2 (fun H locs hP hD hS => ?_)
  have hP := wP (MW_set0 c5 b m 0 (by decide) _) hP
  have hD := wD (MW_set0 c5 b m 0 (by decide) _) hD
  refine lv_bipush (v := (12 : Int32)) hx hb dX3_mean_5 (by decide) ?_
  refine lv_aload_n hx hb dX3_mean_7 rfl (lv_at hl 0 rfl) ?_
  refine lv_iconst (v := (2 : Int32)) hx hb dX3_mean_8 (by decide) ?_
  obtain ⟨v9, e9, h⟩ := o_bind h
  refine ro_calli (ro_runV (As := [.int (2 : Int32)]) (rest := [.int (12 : Int32)]) ⟨hx, hb, hml, hown, hts⟩ hP hK (c_X3_sum l D c5 b (mFs m 0 (0 : Int32)) (2 : Int32) v9 e9) gG_RX3_157 (va_recv hK hP (ci := 3) (q0 := 0) rfl (MW_0 c5 b (mFs m 0 (0 : Int32)))) hd_X3_sum ⟨Nat.le_of_ble_eq_true rfl, Nat.le_of_ble_eq_true rfl⟩ ⟨rfl, rfl⟩ hl.1 (Nat.le_of_ble_eq_true rfl) dX3_mean_9 ⟨Nat.zero_le _, Nat.zero_le _⟩ rfl) ?_
  refine lv_isub hx hb dX3_mean_12 ?_
  refine lv_istore_n (i := 1) (lv' := [(1, .int ((12 : Int32) - v9)), (0, .ref (b 0))]) hx hb dX3_mean_13 rfl hl (by decide) rfl (fun ls hl => ?_)
  refine lv_iload_n hx hb dX3_mean_14 rfl (lv_at hl 0 rfl) ?_
  refine lv_if_ne (tgt := 22) hx hb dX3_mean_15 (by decide) (fun q => ?_) (fun q => ?_)
  · have h := o_t' h q
    refine lv_aload_n hx hb dX3_mean_22 rfl (lv_at hl 1 rfl) ?_
    refine lv_iconst (v := (3 : Int32)) hx hb dX3_mean_23 (by decide) ?_
    obtain ⟨v24, e24, h⟩ := o_bind h
    refine ro_calli (ro_runV (As := [.int (3 : Int32)]) (rest := []) ⟨hx, hb, hml, hown, hts⟩ hP hK (c_X3_sum l D c5 b (mFs m 0 (0 : Int32)) (3 : Int32) v24 e24) gG_RX3_157 (va_recv hK hP (ci := 3) (q0 := 0) rfl (MW_0 c5 b (mFs m 0 (0 : Int32)))) hd_X3_sum ⟨Nat.le_of_ble_eq_true rfl, Nat.le_of_ble_eq_true rfl⟩ ⟨rfl, rfl⟩ hl.1 (Nat.le_of_ble_eq_true rfl) dX3_mean_24 ⟨Nat.zero_le _, Nat.zero_le _⟩ rfl) ?_
    refine lv_i2d hx hb dX3_mean_27 ?_
    refine lv_iload_n hx hb dX3_mean_28 rfl (lv_at hl 0 rfl) ?_
    refine lv_i2d hx hb dX3_mean_29 ?_
    obtain ⟨g30, h⟩ := o_if h
    refine lv_ddiv hx hb dX3_mean_30 (n64b_ok g30) ?_
    obtain rfl := (Option.some.inj h)
    exact rw_dret (wf := fun u => MW c5 b u) hx hb hr hlocks hP hK hD hS dX3_mean_31 rfl
  · have h := o_f' h q
    refine lv_dconst0 hx hb dX3_mean_18 ?_
    refine lv_goto (tgt := 31) hx hb dX3_mean_19 (by decide) ?_
    obtain rfl := (Option.some.inj h)
    exact rw_dret (wf := fun u => MW c5 b u) hx hb hr hlocks hP hK hD hS dX3_mean_31 rfl
set_option maxHeartbeats 4000000 in
set_option maxRecDepth 100000 in
theorem c_X3_digest (l : Launch) (D : va_G) (c5 : Nat → ClassId) (b : Nat → Nat) (m : MSt) (sz : Nat) (r : Int64 × MSt) (h : R_X3_digest m = some r) : Met l yX3_digest (ws_ yX3_digest cX3_digest 5 (some .long)) { frames := 6, cells := 0, slots := 0, locals := 130 } (va_Pc [.ref (b 0)] (rwB D (tyG c5) (MW c5 b m) sz)) (va_Ql (fun x u => x = r.1 ∧ u = r.2) (rwE D (tyG c5) (va_A (MW c5 b m) sz) (fun u => MW c5 b u)) (va_A (MW c5 b m) sz)) 0 0 (va_A (MW c5 b m) sz) := by
  refine Met.ofW (cc := cX3_digest) (maxL := 5) (ret := (some .long)) (by decide) rfl ?_
  intro p e s m9 args below meth c s₁ B hml hv
  obtain ⟨rfl, hsz, hP, hK, hD0⟩ := hv
  have hx := B.exec
  have hb := B.bytes
  have hr := B.returns
  have hts : ∀ w ∈ LA, w.before _ s = true := fun w hw => atoms_spec (ws := ws_ yX3_digest cX3_digest 5 (some .long)) B.pre w (List.mem_cons_of_mem _ hw)
  have hown : s.vm.findClass RX3 = some m9.cls := findClass_of_methodNamed B.named
  have hlocks := B.notSynchronized
  subst hsz
  have hD := hD0.self (sz := s.heap.size)
  generalize hAe : va_A (MW c5 b m) s.heap.size = A at hD ⊢
  have hA : ∀ q : Nat, s.heap.size ≤ q → A q := fun q h => by rw [← hAe]; exact Or.inr h
  have hS : va_S A s.heap s.heap [] := va_S.rf
  have hl := lv_entry ([.ref (b 0)] : List Value) (n := 5) (Nat.le_of_ble_eq_true rfl)
  rw [lg_entry_eq]
  generalize (lg_sl ([.ref (b 0)] : List Value) ++ List.replicate (5 - (lg_sl ([.ref (b 0)] : List Value)).length) Slot.unset).toArray = ls at hl ⊢
  have hl : lv_has ls 5 [(0, .ref (b 0))] := hl
  unfold R_X3_digest at h
  refine lv_aload_n hx hb dX3_digest_0 rfl (lv_at hl 0 rfl) ?_
  refine lv_iconst (v := (0 : Int32)) hx hb dX3_digest_1 (by decide) ?_
  refine va_put (D := D) (ci := 3) (v := .int (0 : Int32)) (ty := .int) (C := RX3) (T := TX3) (N := 14) hx hb hts iX3 tyX3 tyX3_ok nmX3 hown hK hP hD hS 0 (MW_0 c5 b m) rfl 0 (by decide) (hts _ wT3_28) (fun _ h9 => h9) rfl (by decide +kernel) rfl rfl (Nat.le_of_ble_eq_true rfl) dX3_digest_2 (fun H locs hP hD hS => ?_)
  have hP := wP (MW_set0 c5 b m 0 (by decide) _) hP
  have hD := wD (MW_set0 c5 b m 0 (by decide) _) hD
  refine lv_ldc2 (v := 1733) hx hb hown (hts _ wT4_58) dX3_digest_5 ?_
  refine lv_lstore_n (i := 1) (lv' := [(1, .long (1733 : Int64)), (0, .ref (b 0))]) hx hb dX3_digest_8 rfl hl (by decide) rfl (fun ls hl => ?_)
  refine lv_iconst (v := (0 : Int32)) hx hb dX3_digest_9 (by decide) ?_
  refine lv_istore_n (i := 3) (lv' := [(3, .int (0 : Int32)), (1, .long (1733 : Int64)), (0, .ref (b 0))]) hx hb dX3_digest_10 rfl hl (by decide) rfl (fun ls hl => ?_)
  have L132 : ∀ (n : Nat) (x3_121 : Int32) (x1_132 : Int64) (x4_132 : Int32) (v9 : Int64 × Int32) (ls : Array Slot), lv_has ls 5 [(0, .ref (b 0)), (1, .long x1_132), (3, .int x3_121), (4, .int x4_132)] → R_X3_digest_L132 m x3_121 n x1_132 x4_132 = some v9 → (∀ (ls : Array Slot), lv_has ls 5 [(0, .ref (b 0)), (1, .long v9.1), (3, .int x3_121), (4, .int v9.2)] → W p l e (headSpec (ws_ yX3_digest cX3_digest 5 (some .long)) { frames := 6, cells := 0, slots := 0, locals := 130 }).room s m9 ([.ref (b 0)] : List Value).toArray below meth c H locs 0 0 (MQ below (va_Ql (fun x u => x = r.1 ∧ u = r.2) (rwE D (tyG c5) (A) (fun u => MW c5 b u)) (A)) ([.ref (b 0)] : List Value).toArray s 0 0 A) (F0 m9 160 ls [])) → W p l e (headSpec (ws_ yX3_digest cX3_digest 5 (some .long)) { frames := 6, cells := 0, slots := 0, locals := 130 }).room s m9 ([.ref (b 0)] : List Value).toArray below meth c H locs 0 0 (MQ below (va_Ql (fun x u => x = r.1 ∧ u = r.2) (rwE D (tyG c5) (A) (fun u => MW c5 b u)) (A)) ([.ref (b 0)] : List Value).toArray s 0 0 A) (F0 m9 132 ls []) := by
    intro n
    induction n with
    | zero =>
      intro x3_121 x1_132 x4_132 v9 ls hl h kx
      exact absurd h (by simp [R_X3_digest_L132])
    | succ n ih =>
      intro x3_121 x1_132 x4_132 v9 ls hl h kx
      rw [R_X3_digest_L132] at h
      refine lv_iload hx hb dX3_digest_132 (lv_at hl 3 rfl) ?_
      refine lv_bipush (v := (8 : Int32)) hx hb dX3_digest_134 (by decide) ?_
      refine lv_icmp_gt (tgt := 160) hx hb dX3_digest_136 (by decide) (fun q => ?_) (fun q => ?_)
      · have h := o_t h q
        obtain rfl := Option.some.inj h
        exact kx ls (lv_sub hl [0, 1, 2, 3] rfl)
      · have h := o_f h q
        refine lv_lload_n hx hb dX3_digest_139 rfl (lv_at hl 1 rfl) ?_
        refine lv_ldc2 (v := 31) hx hb hown (hts _ wT4_59) dX3_digest_140 ?_
        refine lv_lmul hx hb dX3_digest_143 ?_
        refine lv_aload_n hx hb dX3_digest_144 rfl (lv_at hl 0 rfl) ?_
        refine lv_iload_n hx hb dX3_digest_145 rfl (lv_at hl 2 rfl) ?_
        refine lv_iload hx hb dX3_digest_146 (lv_at hl 3 rfl) ?_
        obtain ⟨v148, e148, h⟩ := o_bind h
        refine ro_calli (ro_runV (As := [.int x3_121, .int x4_132]) (rest := [.long (x1_132 * (31 : Int64))]) ⟨hx, hb, hml, hown, hts⟩ hP hK (c_X3_kindTold l D c5 b (mFs m 0 (0 : Int32)) x3_121 x4_132 v148 e148) gG_RX3_151 (va_recv hK hP (ci := 3) (q0 := 0) rfl (MW_0 c5 b (mFs m 0 (0 : Int32)))) hd_X3_kindTold ⟨Nat.le_of_ble_eq_true rfl, Nat.le_of_ble_eq_true rfl⟩ ⟨rfl, rfl⟩ hl.1 (Nat.le_of_ble_eq_true rfl) dX3_digest_148 ⟨Nat.zero_le _, Nat.zero_le _⟩ rfl) ?_
        refine lv_i2l (v := v148.toInt64) hx hb dX3_digest_151 rfl ?_
        refine lv_ladd hx hb dX3_digest_152 ?_
        refine lv_lstore_n (i := 1) (lv' := [(1, .long ((x1_132 * (31 : Int64)) + v148.toInt64)), (0, .ref (b 0)), (3, .int x3_121), (4, .int x4_132)]) hx hb dX3_digest_153 rfl hl (by decide) rfl (fun ls hl => ?_)
        refine lv_iinc (v := (x4_132 + (1 : Int32))) (lv' := [(4, .int (x4_132 + (1 : Int32))), (1, .long ((x1_132 * (31 : Int64)) + v148.toInt64)), (0, .ref (b 0)), (3, .int x3_121)]) hx hb dX3_digest_154 hl (k := 3) rfl rfl (by decide) rfl (fun ls hl => ?_)
        refine lv_goto (tgt := 132) hx hb dX3_digest_157 (by decide) ?_
        exact ih x3_121 ((x1_132 * (31 : Int64)) + v148.toInt64) (x4_132 + (1 : Int32)) v9 ls (lv_sub hl [2, 1, 3, 0] rfl) h kx
  have L121 : ∀ (n : Nat) (x1_121 : Int64) (x3_121 : Int32) (ls : Array Slot), lv_has ls 5 [(0, .ref (b 0)), (1, .long x1_121), (3, .int x3_121)] → R_X3_digest_L121 m n x1_121 x3_121 = some r → W p l e (headSpec (ws_ yX3_digest cX3_digest 5 (some .long)) { frames := 6, cells := 0, slots := 0, locals := 130 }).room s m9 ([.ref (b 0)] : List Value).toArray below meth c H locs 0 0 (MQ below (va_Ql (fun x u => x = r.1 ∧ u = r.2) (rwE D (tyG c5) (A) (fun u => MW c5 b u)) (A)) ([.ref (b 0)] : List Value).toArray s 0 0 A) (F0 m9 121 ls []) := by
    intro n
    induction n with
    | zero =>
      intro x1_121 x3_121 ls hl h
      exact absurd h (by simp [R_X3_digest_L121])
    | succ n ih =>
      intro x1_121 x3_121 ls hl h
      rw [R_X3_digest_L121] at h
      refine lv_iload_n hx hb dX3_digest_121 rfl (lv_at hl 2 rfl) ?_
      refine lv_aload_n hx hb dX3_digest_122 rfl (lv_at hl 0 rfl) ?_
      refine va_get (D := D) (ci := 3) (v := .int (mF (mFs m 0 (0 : Int32)) 5)) (C := RX3) (T := TX3) (N := 14) hx hb hts iX3 hown hK hP 0 (MW_0 c5 b (mFs m 0 (0 : Int32))) rfl 5 (by decide) (hts _ wT3_33) (fun _ h9 => h9) rfl dX3_digest_123 ?_
      refine lv_icmp_ge (tgt := 179) hx hb dX3_digest_126 (by decide) (fun q => ?_) (fun q => ?_)
      · have h := o_t h q
        refine lv_lload_n hx hb dX3_digest_179 rfl (lv_at hl 1 rfl) ?_
        obtain rfl := (Option.some.inj h)
        exact rw_lret (wf := fun u => MW c5 b u) hx hb hr hlocks hP hK hD hS dX3_digest_180 rfl
      · have h := o_f h q
        refine lv_iconst (v := (0 : Int32)) hx hb dX3_digest_129 (by decide) ?_
        refine lv_istore (i := 4) (lv' := [(4, .int (0 : Int32)), (0, .ref (b 0)), (1, .long x1_121), (3, .int x3_121)]) hx hb dX3_digest_130 hl (by decide) rfl (fun ls hl => ?_)
        obtain ⟨v132, e132, h⟩ := o_bind h
        refine L132 FU x3_121 x1_121 (0 : Int32) v132 ls (lv_sub hl [1, 2, 3, 0] rfl) e132 (fun ls hl => ?_)
        refine lv_lload_n hx hb dX3_digest_160 rfl (lv_at hl 1 rfl) ?_
        refine lv_ldc2 (v := 31) hx hb hown (hts _ wT4_59) dX3_digest_161 ?_
        refine lv_lmul hx hb dX3_digest_164 ?_
        refine lv_aload_n hx hb dX3_digest_165 rfl (lv_at hl 0 rfl) ?_
        refine lv_iload_n hx hb dX3_digest_166 rfl (lv_at hl 2 rfl) ?_
        obtain ⟨v167, e167, h⟩ := o_bind h
        refine ro_calli (ro_runV (As := [.int x3_121]) (rest := [.long (v132.1 * (31 : Int64))]) ⟨hx, hb, hml, hown, hts⟩ hP hK (c_X3_spotFor l D c5 b (mFs m 0 (0 : Int32)) x3_121 v167 e167) gG_RX3_163 (va_recv hK hP (ci := 3) (q0 := 0) rfl (MW_0 c5 b (mFs m 0 (0 : Int32)))) hd_X3_spotFor ⟨Nat.le_of_ble_eq_true rfl, Nat.le_of_ble_eq_true rfl⟩ ⟨rfl, rfl⟩ hl.1 (Nat.le_of_ble_eq_true rfl) dX3_digest_167 ⟨Nat.zero_le _, Nat.zero_le _⟩ rfl) ?_
        refine lv_i2l (v := v167.toInt64) hx hb dX3_digest_170 rfl ?_
        refine lv_ladd hx hb dX3_digest_171 ?_
        refine lv_lstore_n (i := 1) (lv' := [(1, .long ((v132.1 * (31 : Int64)) + v167.toInt64)), (0, .ref (b 0)), (3, .int x3_121), (4, .int v132.2)]) hx hb dX3_digest_172 rfl hl (by decide) rfl (fun ls hl => ?_)
        refine lv_iinc (v := (x3_121 + (1 : Int32))) (lv' := [(3, .int (x3_121 + (1 : Int32))), (1, .long ((v132.1 * (31 : Int64)) + v167.toInt64)), (0, .ref (b 0)), (4, .int v132.2)]) hx hb dX3_digest_173 hl (k := 2) rfl rfl (by decide) rfl (fun ls hl => ?_)
        refine lv_goto (tgt := 121) hx hb dX3_digest_176 (by decide) ?_
        exact ih ((v132.1 * (31 : Int64)) + v167.toInt64) (x3_121 + (1 : Int32))  ls (lv_sub hl [2, 1, 0] rfl) h
  have L47 : ∀ (n : Nat) (x3_38 : Int32) (x1_47 : Int64) (x4_47 : Int32) (v9 : Int64 × Int32) (ls : Array Slot), lv_has ls 5 [(0, .ref (b 0)), (1, .long x1_47), (3, .int x3_38), (4, .int x4_47)] → R_X3_digest_L47 m x3_38 n x1_47 x4_47 = some v9 → (∀ (ls : Array Slot), lv_has ls 5 [(0, .ref (b 0)), (1, .long v9.1), (3, .int x3_38), (4, .int v9.2)] → W p l e (headSpec (ws_ yX3_digest cX3_digest 5 (some .long)) { frames := 6, cells := 0, slots := 0, locals := 130 }).room s m9 ([.ref (b 0)] : List Value).toArray below meth c H locs 0 0 (MQ below (va_Ql (fun x u => x = r.1 ∧ u = r.2) (rwE D (tyG c5) (A) (fun u => MW c5 b u)) (A)) ([.ref (b 0)] : List Value).toArray s 0 0 A) (F0 m9 74 ls [])) → W p l e (headSpec (ws_ yX3_digest cX3_digest 5 (some .long)) { frames := 6, cells := 0, slots := 0, locals := 130 }).room s m9 ([.ref (b 0)] : List Value).toArray below meth c H locs 0 0 (MQ below (va_Ql (fun x u => x = r.1 ∧ u = r.2) (rwE D (tyG c5) (A) (fun u => MW c5 b u)) (A)) ([.ref (b 0)] : List Value).toArray s 0 0 A) (F0 m9 47 ls []) := by
    intro n
    induction n with
    | zero =>
      intro x3_38 x1_47 x4_47 v9 ls hl h kx
      exact absurd h (by simp [R_X3_digest_L47])
    | succ n ih =>
      intro x3_38 x1_47 x4_47 v9 ls hl h kx
      rw [R_X3_digest_L47] at h
      refine lv_iload hx hb dX3_digest_47 (lv_at hl 3 rfl) ?_
      refine lv_iconst (v := (5 : Int32)) hx hb dX3_digest_49 (by decide) ?_
      refine lv_icmp_gt (tgt := 74) hx hb dX3_digest_50 (by decide) (fun q => ?_) (fun q => ?_)
      · have h := o_t h q
        obtain rfl := Option.some.inj h
        exact kx ls (lv_sub hl [0, 1, 2, 3] rfl)
      · have h := o_f h q
        refine lv_lload_n hx hb dX3_digest_53 rfl (lv_at hl 1 rfl) ?_
        refine lv_ldc2 (v := 31) hx hb hown (hts _ wT4_59) dX3_digest_54 ?_
        refine lv_lmul hx hb dX3_digest_57 ?_
        refine lv_aload_n hx hb dX3_digest_58 rfl (lv_at hl 0 rfl) ?_
        refine lv_iload_n hx hb dX3_digest_59 rfl (lv_at hl 2 rfl) ?_
        refine lv_iload hx hb dX3_digest_60 (lv_at hl 3 rfl) ?_
        obtain ⟨v62, e62, h⟩ := o_bind h
        refine ro_calli (ro_runV (As := [.int x3_38, .int x4_47]) (rest := [.long (x1_47 * (31 : Int64))]) ⟨hx, hb, hml, hown, hts⟩ hP hK (c_X3_shelfTold l D c5 b (mFs m 0 (0 : Int32)) x3_38 x4_47 v62 e62) gG_RX3_145 (va_recv hK hP (ci := 3) (q0 := 0) rfl (MW_0 c5 b (mFs m 0 (0 : Int32)))) hd_X3_shelfTold ⟨Nat.le_of_ble_eq_true rfl, Nat.le_of_ble_eq_true rfl⟩ ⟨rfl, rfl⟩ hl.1 (Nat.le_of_ble_eq_true rfl) dX3_digest_62 ⟨Nat.zero_le _, Nat.zero_le _⟩ rfl) ?_
        refine lv_i2l (v := v62.toInt64) hx hb dX3_digest_65 rfl ?_
        refine lv_ladd hx hb dX3_digest_66 ?_
        refine lv_lstore_n (i := 1) (lv' := [(1, .long ((x1_47 * (31 : Int64)) + v62.toInt64)), (0, .ref (b 0)), (3, .int x3_38), (4, .int x4_47)]) hx hb dX3_digest_67 rfl hl (by decide) rfl (fun ls hl => ?_)
        refine lv_iinc (v := (x4_47 + (1 : Int32))) (lv' := [(4, .int (x4_47 + (1 : Int32))), (1, .long ((x1_47 * (31 : Int64)) + v62.toInt64)), (0, .ref (b 0)), (3, .int x3_38)]) hx hb dX3_digest_68 hl (k := 3) rfl rfl (by decide) rfl (fun ls hl => ?_)
        refine lv_goto (tgt := 47) hx hb dX3_digest_71 (by decide) ?_
        exact ih x3_38 ((x1_47 * (31 : Int64)) + v62.toInt64) (x4_47 + (1 : Int32)) v9 ls (lv_sub hl [2, 1, 3, 0] rfl) h kx
  have L77 : ∀ (n : Nat) (x3_38 : Int32) (x1_77 : Int64) (x4_77 : Int32) (v9 : Int64 × Int32) (ls : Array Slot), lv_has ls 5 [(0, .ref (b 0)), (1, .long x1_77), (3, .int x3_38), (4, .int x4_77)] → R_X3_digest_L77 m x3_38 n x1_77 x4_77 = some v9 → (∀ (ls : Array Slot), lv_has ls 5 [(0, .ref (b 0)), (1, .long v9.1), (3, .int x3_38), (4, .int v9.2)] → W p l e (headSpec (ws_ yX3_digest cX3_digest 5 (some .long)) { frames := 6, cells := 0, slots := 0, locals := 130 }).room s m9 ([.ref (b 0)] : List Value).toArray below meth c H locs 0 0 (MQ below (va_Ql (fun x u => x = r.1 ∧ u = r.2) (rwE D (tyG c5) (A) (fun u => MW c5 b u)) (A)) ([.ref (b 0)] : List Value).toArray s 0 0 A) (F0 m9 113 ls [])) → W p l e (headSpec (ws_ yX3_digest cX3_digest 5 (some .long)) { frames := 6, cells := 0, slots := 0, locals := 130 }).room s m9 ([.ref (b 0)] : List Value).toArray below meth c H locs 0 0 (MQ below (va_Ql (fun x u => x = r.1 ∧ u = r.2) (rwE D (tyG c5) (A) (fun u => MW c5 b u)) (A)) ([.ref (b 0)] : List Value).toArray s 0 0 A) (F0 m9 77 ls []) := by
    intro n
    induction n with
    | zero =>
      intro x3_38 x1_77 x4_77 v9 ls hl h kx
      exact absurd h (by simp [R_X3_digest_L77])
    | succ n ih =>
      intro x3_38 x1_77 x4_77 v9 ls hl h kx
      rw [R_X3_digest_L77] at h
      refine lv_iload hx hb dX3_digest_77 (lv_at hl 3 rfl) ?_
      refine lv_aload_n hx hb dX3_digest_79 rfl (lv_at hl 0 rfl) ?_
      refine lv_iload_n hx hb dX3_digest_80 rfl (lv_at hl 2 rfl) ?_
      refine lv_iconst (v := (3 : Int32)) hx hb dX3_digest_81 (by decide) ?_
      obtain ⟨v82, e82, h⟩ := o_bind h
      refine ro_calli (ro_runV (As := [.int x3_38, .int (3 : Int32)]) (rest := [.int x4_77]) ⟨hx, hb, hml, hown, hts⟩ hP hK (c_X3_shelfTold l D c5 b (mFs m 0 (0 : Int32)) x3_38 (3 : Int32) v82 e82) gG_RX3_145 (va_recv hK hP (ci := 3) (q0 := 0) rfl (MW_0 c5 b (mFs m 0 (0 : Int32)))) hd_X3_shelfTold ⟨Nat.le_of_ble_eq_true rfl, Nat.le_of_ble_eq_true rfl⟩ ⟨rfl, rfl⟩ hl.1 (Nat.le_of_ble_eq_true rfl) dX3_digest_82 ⟨Nat.zero_le _, Nat.zero_le _⟩ rfl) ?_
      refine lv_icmp_ge (tgt := 113) hx hb dX3_digest_85 (by decide) (fun q => ?_) (fun q => ?_)
      · have h := o_t h q
        obtain rfl := Option.some.inj h
        exact kx ls (lv_sub hl [0, 1, 2, 3] rfl)
      · have h := o_f h q
        refine lv_lload_n hx hb dX3_digest_88 rfl (lv_at hl 1 rfl) ?_
        refine lv_ldc2 (v := 31) hx hb hown (hts _ wT4_59) dX3_digest_89 ?_
        refine lv_lmul hx hb dX3_digest_92 ?_
        refine lv_aload_n hx hb dX3_digest_93 rfl (lv_at hl 0 rfl) ?_
        refine va_get (D := D) (ci := 3) (v := .ref (b 5)) (C := RX3) (T := TX3) (N := 14) hx hb hts iX3 hown hK hP 0 (MW_0 c5 b (mFs m 0 (0 : Int32))) rfl 10 (by decide) (hts _ wT3_38) (fun _ h9 => h9) rfl dX3_digest_94 ?_
        refine lv_iload_n hx hb dX3_digest_97 rfl (lv_at hl 2 rfl) ?_
        obtain ⟨g98, h⟩ := o_if h
        refine va_iald hx hb hK hP 5 3 (MW_5 c5 b (mFs m 0 (0 : Int32))) rfl (inb_in g98) dX3_digest_98 ?_
        refine lv_iload hx hb dX3_digest_99 (lv_at hl 3 rfl) ?_
        refine lv_ishr hx hb dX3_digest_101 ?_
        refine lv_iconst (v := (1 : Int32)) hx hb dX3_digest_102 (by decide) ?_
        refine lv_iand hx hb dX3_digest_103 ?_
        refine lv_i2l (v := (((mA (mFs m 0 (0 : Int32)) 4 (x3_38.toNatClampNeg)) >>> (x4_77 &&& 31)) &&& (1 : Int32)).toInt64) hx hb dX3_digest_104 rfl ?_
        refine lv_ladd hx hb dX3_digest_105 ?_
        refine lv_lstore_n (i := 1) (lv' := [(1, .long ((x1_77 * (31 : Int64)) + (((mA (mFs m 0 (0 : Int32)) 4 (x3_38.toNatClampNeg)) >>> (x4_77 &&& 31)) &&& (1 : Int32)).toInt64)), (0, .ref (b 0)), (3, .int x3_38), (4, .int x4_77)]) hx hb dX3_digest_106 rfl hl (by decide) rfl (fun ls hl => ?_)
        refine lv_iinc (v := (x4_77 + (1 : Int32))) (lv' := [(4, .int (x4_77 + (1 : Int32))), (1, .long ((x1_77 * (31 : Int64)) + (((mA (mFs m 0 (0 : Int32)) 4 (x3_38.toNatClampNeg)) >>> (x4_77 &&& 31)) &&& (1 : Int32)).toInt64)), (0, .ref (b 0)), (3, .int x3_38)]) hx hb dX3_digest_107 hl (k := 3) rfl rfl (by decide) rfl (fun ls hl => ?_)
        refine lv_goto (tgt := 77) hx hb dX3_digest_110 (by decide) ?_
        exact ih x3_38 ((x1_77 * (31 : Int64)) + (((mA (mFs m 0 (0 : Int32)) 4 (x3_38.toNatClampNeg)) >>> (x4_77 &&& 31)) &&& (1 : Int32)).toInt64) (x4_77 + (1 : Int32)) v9 ls (lv_sub hl [2, 1, 3, 0] rfl) h kx
  have L38 : ∀ (n : Nat) (x1_38 : Int64) (x3_38 : Int32) (ls : Array Slot), lv_has ls 5 [(0, .ref (b 0)), (1, .long x1_38), (3, .int x3_38)] → R_X3_digest_L38 m n x1_38 x3_38 = some r → W p l e (headSpec (ws_ yX3_digest cX3_digest 5 (some .long)) { frames := 6, cells := 0, slots := 0, locals := 130 }).room s m9 ([.ref (b 0)] : List Value).toArray below meth c H locs 0 0 (MQ below (va_Ql (fun x u => x = r.1 ∧ u = r.2) (rwE D (tyG c5) (A) (fun u => MW c5 b u)) (A)) ([.ref (b 0)] : List Value).toArray s 0 0 A) (F0 m9 38 ls []) := by
    intro n
    induction n with
    | zero =>
      intro x1_38 x3_38 ls hl h
      exact absurd h (by simp [R_X3_digest_L38])
    | succ n ih =>
      intro x1_38 x3_38 ls hl h
      rw [R_X3_digest_L38] at h
      refine lv_iload_n hx hb dX3_digest_38 rfl (lv_at hl 2 rfl) ?_
      refine lv_bipush (v := (12 : Int32)) hx hb dX3_digest_39 (by decide) ?_
      refine lv_icmp_ge (tgt := 119) hx hb dX3_digest_41 (by decide) (fun q => ?_) (fun q => ?_)
      · have h := o_t h q
        refine lv_iconst (v := (0 : Int32)) hx hb dX3_digest_119 (by decide) ?_
        refine lv_istore_n (i := 3) (lv' := [(3, .int (0 : Int32)), (0, .ref (b 0)), (1, .long x1_38)]) hx hb dX3_digest_120 rfl hl (by decide) rfl (fun ls hl => ?_)
        exact L121 FU x1_38 (0 : Int32)  ls (lv_sub hl [1, 2, 0] rfl) h
      · have h := o_f h q
        refine lv_iconst (v := (0 : Int32)) hx hb dX3_digest_44 (by decide) ?_
        refine lv_istore (i := 4) (lv' := [(4, .int (0 : Int32)), (0, .ref (b 0)), (1, .long x1_38), (3, .int x3_38)]) hx hb dX3_digest_45 hl (by decide) rfl (fun ls hl => ?_)
        obtain ⟨v47, e47, h⟩ := o_bind h
        refine L47 FU x3_38 x1_38 (0 : Int32) v47 ls (lv_sub hl [1, 2, 3, 0] rfl) e47 (fun ls hl => ?_)
        refine lv_iconst (v := (0 : Int32)) hx hb dX3_digest_74 (by decide) ?_
        refine lv_istore (i := 4) (lv' := [(4, .int (0 : Int32)), (0, .ref (b 0)), (1, .long v47.1), (3, .int x3_38)]) hx hb dX3_digest_75 hl (by decide) rfl (fun ls hl => ?_)
        obtain ⟨v77, e77, h⟩ := o_bind h
        refine L77 FU x3_38 v47.1 (0 : Int32) v77 ls (lv_sub hl [1, 2, 3, 0] rfl) e77 (fun ls hl => ?_)
        refine lv_iinc (v := (x3_38 + (1 : Int32))) (lv' := [(3, .int (x3_38 + (1 : Int32))), (0, .ref (b 0)), (1, .long v77.1), (4, .int v77.2)]) hx hb dX3_digest_113 hl (k := 2) rfl rfl (by decide) rfl (fun ls hl => ?_)
        refine lv_goto (tgt := 38) hx hb dX3_digest_116 (by decide) ?_
        exact ih v77.1 (x3_38 + (1 : Int32))  ls (lv_sub hl [1, 2, 0] rfl) h
  have L11 : ∀ (n : Nat) (x1_11 : Int64) (x3_11 : Int32) (ls : Array Slot), lv_has ls 5 [(0, .ref (b 0)), (1, .long x1_11), (3, .int x3_11)] → R_X3_digest_L11 m n x1_11 x3_11 = some r → W p l e (headSpec (ws_ yX3_digest cX3_digest 5 (some .long)) { frames := 6, cells := 0, slots := 0, locals := 130 }).room s m9 ([.ref (b 0)] : List Value).toArray below meth c H locs 0 0 (MQ below (va_Ql (fun x u => x = r.1 ∧ u = r.2) (rwE D (tyG c5) (A) (fun u => MW c5 b u)) (A)) ([.ref (b 0)] : List Value).toArray s 0 0 A) (F0 m9 11 ls []) := by
    intro n
    induction n with
    | zero =>
      intro x1_11 x3_11 ls hl h
      exact absurd h (by simp [R_X3_digest_L11])
    | succ n ih =>
      intro x1_11 x3_11 ls hl h
      rw [R_X3_digest_L11] at h
      refine lv_iload_n hx hb dX3_digest_11 rfl (lv_at hl 2 rfl) ?_
      refine lv_bipush (v := (9 : Int32)) hx hb dX3_digest_12 (by decide) ?_
      refine lv_icmp_gt (tgt := 36) hx hb dX3_digest_14 (by decide) (fun q => ?_) (fun q => ?_)
      · have h := o_t h q
        refine lv_iconst (v := (0 : Int32)) hx hb dX3_digest_36 (by decide) ?_
        refine lv_istore_n (i := 3) (lv' := [(3, .int (0 : Int32)), (0, .ref (b 0)), (1, .long x1_11)]) hx hb dX3_digest_37 rfl hl (by decide) rfl (fun ls hl => ?_)
        exact L38 FU x1_11 (0 : Int32)  ls (lv_sub hl [1, 2, 0] rfl) h
      · have h := o_f h q
        refine lv_lload_n hx hb dX3_digest_17 rfl (lv_at hl 1 rfl) ?_
        refine lv_ldc2 (v := 31) hx hb hown (hts _ wT4_59) dX3_digest_18 ?_
        refine lv_lmul hx hb dX3_digest_21 ?_
        refine lv_aload_n hx hb dX3_digest_22 rfl (lv_at hl 0 rfl) ?_
        refine lv_iload_n hx hb dX3_digest_23 rfl (lv_at hl 2 rfl) ?_
        obtain ⟨v24, e24, h⟩ := o_bind h
        refine ro_calli (ro_runV (As := [.int x3_11]) (rest := [.long (x1_11 * (31 : Int64))]) ⟨hx, hb, hml, hown, hts⟩ hP hK (c_X3_counted l D c5 b (mFs m 0 (0 : Int32)) x3_11 v24 e24) gG_RX3_160 (va_recv hK hP (ci := 3) (q0 := 0) rfl (MW_0 c5 b (mFs m 0 (0 : Int32)))) hd_X3_counted ⟨Nat.le_of_ble_eq_true rfl, Nat.le_of_ble_eq_true rfl⟩ ⟨rfl, rfl⟩ hl.1 (Nat.le_of_ble_eq_true rfl) dX3_digest_24 ⟨Nat.zero_le _, Nat.zero_le _⟩ rfl) ?_
        refine lv_i2l (v := v24.toInt64) hx hb dX3_digest_27 rfl ?_
        refine lv_ladd hx hb dX3_digest_28 ?_
        refine lv_lstore_n (i := 1) (lv' := [(1, .long ((x1_11 * (31 : Int64)) + v24.toInt64)), (0, .ref (b 0)), (3, .int x3_11)]) hx hb dX3_digest_29 rfl hl (by decide) rfl (fun ls hl => ?_)
        refine lv_iinc (v := (x3_11 + (1 : Int32))) (lv' := [(3, .int (x3_11 + (1 : Int32))), (1, .long ((x1_11 * (31 : Int64)) + v24.toInt64)), (0, .ref (b 0))]) hx hb dX3_digest_30 hl (k := 2) rfl rfl (by decide) rfl (fun ls hl => ?_)
        refine lv_goto (tgt := 11) hx hb dX3_digest_33 (by decide) ?_
        exact ih ((x1_11 * (31 : Int64)) + v24.toInt64) (x3_11 + (1 : Int32))  ls (lv_sub hl [2, 1, 0] rfl) h
  exact L11 FU (1733 : Int64) (0 : Int32)  ls (lv_sub hl [2, 1, 0] rfl) h
