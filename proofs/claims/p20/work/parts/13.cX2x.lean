set_option maxHeartbeats 4000000 in
set_option maxRecDepth 100000 in
theorem c_X2_requireAnswer (l : Launch) (D : va_G) (tys : List (ClassId × FieldType)) (ws : va_W) (p0 : Int32) (p1 : Int32) (r : Unit) (h : R_X2_requireAnswer p0 p1 = some (.ok r)) : Met l yX2_requireAnswer (ws_ yX2_requireAnswer cX2_requireAnswer 2 none) { frames := 0, cells := 0, slots := 0, locals := 0 } (va_Pc [.int p0, .int p1] (roB D (tys) (ws))) (va_Sv (fun _ => True)) 0 0 (fun _ => False) := by
  refine Met.ofW (cc := cX2_requireAnswer) (maxL := 2) (ret := none) (by decide) rfl ?_
  intro p e s m args below meth c s₁ B hml hv
  obtain ⟨rfl, hP, hK⟩ := hv
  have hx := B.exec
  have hb := B.bytes
  have hr := B.returns
  have hts : ∀ w ∈ LA, w.before _ s = true := fun w hw => atoms_spec (ws := ws_ yX2_requireAnswer cX2_requireAnswer 2 none) B.pre w (List.mem_cons_of_mem _ hw)
  have hown : s.vm.findClass RX2 = some m.cls := findClass_of_methodNamed B.named
  have hlocks := B.notSynchronized
  have hl := lv_entry ([.int p0, .int p1] : List Value) (n := 2) (Nat.le_of_ble_eq_true rfl)
  rw [lg_entry_eq]
  generalize (lg_sl ([.int p0, .int p1] : List Value) ++ List.replicate (2 - (lg_sl ([.int p0, .int p1] : List Value)).length) Slot.unset).toArray = ls at hl ⊢
  have hl : lv_has ls 2 [(0, .int p0), (1, .int p1)] := hl
  unfold R_X2_requireAnswer at h
  refine lv_iload_n hx hb dX2_requireAnswer_0 rfl (lv_at hl 0 rfl) ?_
  refine lv_if_lt (tgt := 9) hx hb dX2_requireAnswer_1 (by decide) (fun q => ?_) (fun q => ?_)
  · have h := o_t h q
    cases h
  · have h := o_f h q
    refine lv_iload_n hx hb dX2_requireAnswer_4 rfl (lv_at hl 0 rfl) ?_
    refine lv_iload_n hx hb dX2_requireAnswer_5 rfl (lv_at hl 1 rfl) ?_
    refine lv_icmp_lt (tgt := 19) hx hb dX2_requireAnswer_6 (by decide) (fun q => ?_) (fun q => ?_)
    · have h := o_t h q
      exact ro_vret hx hb hr hlocks dX2_requireAnswer_19
    · have h := o_f h q
      cases h

set_option maxHeartbeats 4000000 in
set_option maxRecDepth 100000 in
theorem x_X2_requireAnswer (l : Launch) (D : va_G) (tys : List (ClassId × FieldType)) (ws : va_W) (sx : Nat → Nat) (hflags : l.flags = flags0) (p0 : Int32) (p1 : Int32) (E : String) (h : R_X2_requireAnswer p0 p1 = some (.error E)) : vx_Met l yX2_requireAnswer (ws_ yX2_requireAnswer cX2_requireAnswer 2 none) { frames := 6, cells := 1, slots := 6, locals := 90 } (va_Pc [.int p0, .int p1] (erB D (tys) (ws) sx)) ErrQ (ErrX E) 1 6 (fun _ => False) := by
  refine vx_ofW (cc := cX2_requireAnswer) (maxL := 2) (ret := none) (by decide) rfl ?_
  intro p e s m args below meth c s₁ B hml ht hv
  obtain ⟨rfl, hP, hK, hX⟩ := hv
  have hx := B.exec
  have hb := B.bytes
  have hr := B.returns
  have hts : ∀ w ∈ LA, w.before _ s = true := fun w hw => atoms_spec (ws := ws_ yX2_requireAnswer cX2_requireAnswer 2 none) B.pre w (List.mem_cons_of_mem _ hw)
  have hown : s.vm.findClass RX2 = some m.cls := findClass_of_methodNamed B.named
  have hlocks := B.notSynchronized
  have hs : va_S (fun _ => False) s.heap s.heap [] := va_S.rf
  have hl := lv_entry ([.int p0, .int p1] : List Value) (n := 2) (Nat.le_of_ble_eq_true rfl)
  rw [lg_entry_eq]
  generalize (lg_sl ([.int p0, .int p1] : List Value) ++ List.replicate (2 - (lg_sl ([.int p0, .int p1] : List Value)).length) Slot.unset).toArray = ls at hl ⊢
  have hl : lv_has ls 2 [(0, .int p0), (1, .int p1)] := hl
  unfold R_X2_requireAnswer at h
  refine lv_iload_n hx hb dX2_requireAnswer_0 rfl (lv_at hl 0 rfl) ?_
  refine lv_if_lt (tgt := 9) hx hb dX2_requireAnswer_1 (by decide) (fun q => ?_) (fun q => ?_)
  · have h := o_t h q
    obtain rfl := Except.error.inj (Option.some.inj h)
    exact err_throw (own := RX2) hx hb hflags hown hX (hts _ wT1_90) (hts _ wT1_10) (st_191 hX) (at_59 hts hX) gd_59 hs (hl.1.trans hml.symm) dX2_requireAnswer_9 dX2_requireAnswer_12 dX2_requireAnswer_13 dX2_requireAnswer_15 dX2_requireAnswer_18 ht hlocks (Nat.le_of_ble_eq_true rfl) (Nat.le_of_ble_eq_true rfl) ⟨Nat.le_of_ble_eq_true rfl, Nat.le_of_ble_eq_true rfl⟩ (by decide +kernel)
  · have h := o_f h q
    refine lv_iload_n hx hb dX2_requireAnswer_4 rfl (lv_at hl 0 rfl) ?_
    refine lv_iload_n hx hb dX2_requireAnswer_5 rfl (lv_at hl 1 rfl) ?_
    refine lv_icmp_lt (tgt := 19) hx hb dX2_requireAnswer_6 (by decide) (fun q => ?_) (fun q => ?_)
    · have h := o_t h q
      cases h
    · have h := o_f h q
      obtain rfl := Except.error.inj (Option.some.inj h)
      exact err_throw (own := RX2) hx hb hflags hown hX (hts _ wT1_90) (hts _ wT1_10) (st_191 hX) (at_59 hts hX) gd_59 hs (hl.1.trans hml.symm) dX2_requireAnswer_9 dX2_requireAnswer_12 dX2_requireAnswer_13 dX2_requireAnswer_15 dX2_requireAnswer_18 ht hlocks (Nat.le_of_ble_eq_true rfl) (Nat.le_of_ble_eq_true rfl) ⟨Nat.le_of_ble_eq_true rfl, Nat.le_of_ble_eq_true rfl⟩ (by decide +kernel)
set_option maxHeartbeats 4000000 in
set_option maxRecDepth 100000 in
theorem c_X2_kindOf (l : Launch) (D : va_G) (c5 : Nat → ClassId) (a : KAd) (k : KSt) (hI : KI a) (p1 : Int32) (r : Nat) (h : R_X2_kindOf k p1 = some (.ok r)) : Met l yX2_kindOf (ws_ yX2_kindOf cX2_kindOf 2 (some (.object "SlabKitchen$Kind"))) { frames := 0, cells := 0, slots := 0, locals := 0 } (va_Pc [.ref (aO a 0), .int p1] (roB D (tyG c5) (KW c5 a k))) (va_Se (aK a) (fun x => x = some r)) 0 0 (fun _ => False) := by
  refine Met.ofW (cc := cX2_kindOf) (maxL := 2) (ret := (some (.object "SlabKitchen$Kind"))) (by decide) rfl ?_
  intro p e s m args below meth c s₁ B hml hv
  obtain ⟨rfl, hP, hK⟩ := hv
  have hx := B.exec
  have hb := B.bytes
  have hr := B.returns
  have hts : ∀ w ∈ LA, w.before _ s = true := fun w hw => atoms_spec (ws := ws_ yX2_kindOf cX2_kindOf 2 (some (.object "SlabKitchen$Kind"))) B.pre w (List.mem_cons_of_mem _ hw)
  have hown : s.vm.findClass RX2 = some m.cls := findClass_of_methodNamed B.named
  have hlocks := B.notSynchronized
  have hl := lv_entry ([.ref (aO a 0), .int p1] : List Value) (n := 2) (Nat.le_of_ble_eq_true rfl)
  rw [lg_entry_eq]
  generalize (lg_sl ([.ref (aO a 0), .int p1] : List Value) ++ List.replicate (2 - (lg_sl ([.ref (aO a 0), .int p1] : List Value)).length) Slot.unset).toArray = ls at hl ⊢
  have hl : lv_has ls 2 [(0, .ref (aO a 0)), (1, .int p1)] := hl
  unfold R_X2_kindOf at h
  refine lv_iload_n hx hb dX2_kindOf_0 rfl (lv_at hl 1 rfl) ?_
  refine lv_if_lt (tgt := 22) hx hb dX2_kindOf_1 (by decide) (fun q => ?_) (fun q => ?_)
  · have h := o_t h q
    cases h
  · have h := o_f h q
    refine lv_iload_n hx hb dX2_kindOf_4 rfl (lv_at hl 1 rfl) ?_
    refine lv_aload_n hx hb dX2_kindOf_5 rfl (lv_at hl 0 rfl) ?_
    refine va_get (D := D) (ci := 2) (v := .ref (aO a 2)) (C := RX2) (T := TX2) (N := 7) hx hb hts iX2 hown hK hP 0 (KW_0 c5 a k) rfl 1 (by decide) (hts _ wT1_61) (fun _ h9 => h9) rfl dX2_kindOf_6 ?_
    refine va_alen (v := (5 : Int32)) hx hb hK hP 2 1 (KW_2 c5 a k) rfl rfl dX2_kindOf_9 ?_
    refine lv_icmp_ge (tgt := 22) hx hb dX2_kindOf_10 (by decide) (fun q => ?_) (fun q => ?_)
    · have h := o_t h q
      cases h
    · have h := o_f h q
      refine lv_aload_n hx hb dX2_kindOf_13 rfl (lv_at hl 0 rfl) ?_
      refine va_get (D := D) (ci := 2) (v := .ref (aO a 2)) (C := RX2) (T := TX2) (N := 7) hx hb hts iX2 hown hK hP 0 (KW_0 c5 a k) rfl 1 (by decide) (hts _ wT1_61) (fun _ h9 => h9) rfl dX2_kindOf_14 ?_
      refine lv_iload_n hx hb dX2_kindOf_17 rfl (lv_at hl 1 rfl) ?_
      obtain ⟨g18, h⟩ := o_if h
      refine va_aldK hx hb hK hP g18 dX2_kindOf_18 ?_
      generalize hq19 : (knd k (p1.toNatClampNeg)) = q19 at h hl ⊢
      cases q19 with
      | none =>
        have h := oe_n h
        have hl : lv_has ls 2 [(0, .ref (aO a 0)), (1, .int p1)] := hl
        refine lv_ifnonnullN hx hb dX2_kindOf_19 ?_
        cases h
      | some j19 =>
        obtain ⟨hj19, h⟩ := oe_sif h
        have hl : lv_has ls 2 [(0, .ref (aO a 0)), (1, .int p1)] := hl
        refine lv_ifnonnull (tgt := 32) hx hb dX2_kindOf_19 (by decide) ?_
        refine lv_aload_n hx hb dX2_kindOf_32 rfl (lv_at hl 0 rfl) ?_
        refine va_get (D := D) (ci := 2) (v := .ref (aO a 2)) (C := RX2) (T := TX2) (N := 7) hx hb hts iX2 hown hK hP 0 (KW_0 c5 a k) rfl 1 (by decide) (hts _ wT1_61) (fun _ h9 => h9) rfl dX2_kindOf_33 ?_
        refine lv_iload_n hx hb dX2_kindOf_36 rfl (lv_at hl 1 rfl) ?_
        obtain ⟨g37, h⟩ := o_if h
        refine va_aldK1 hx hb hK hP g37 hq19 dX2_kindOf_37 ?_
        exact ro_aret1 (ad := aK a) (v := j19) hx hb hr hlocks dX2_kindOf_38 (Except.ok.inj (Option.some.inj h))

set_option maxHeartbeats 4000000 in
set_option maxRecDepth 100000 in
theorem x_X2_kindOf (l : Launch) (D : va_G) (c5 : Nat → ClassId) (a : KAd) (k : KSt) (hI : KI a) (sx : Nat → Nat) (hflags : l.flags = flags0) (p1 : Int32) (E : String) (h : R_X2_kindOf k p1 = some (.error E)) : vx_Met l yX2_kindOf (ws_ yX2_kindOf cX2_kindOf 2 (some (.object "SlabKitchen$Kind"))) { frames := 6, cells := 1, slots := 6, locals := 90 } (va_Pc [.ref (aO a 0), .int p1] (erB D (tyG c5) (KW c5 a k) sx)) ErrQ (ErrX E) 1 6 (fun _ => False) := by
  refine vx_ofW (cc := cX2_kindOf) (maxL := 2) (ret := (some (.object "SlabKitchen$Kind"))) (by decide) rfl ?_
  intro p e s m args below meth c s₁ B hml ht hv
  obtain ⟨rfl, hP, hK, hX⟩ := hv
  have hx := B.exec
  have hb := B.bytes
  have hr := B.returns
  have hts : ∀ w ∈ LA, w.before _ s = true := fun w hw => atoms_spec (ws := ws_ yX2_kindOf cX2_kindOf 2 (some (.object "SlabKitchen$Kind"))) B.pre w (List.mem_cons_of_mem _ hw)
  have hown : s.vm.findClass RX2 = some m.cls := findClass_of_methodNamed B.named
  have hlocks := B.notSynchronized
  have hs : va_S (fun _ => False) s.heap s.heap [] := va_S.rf
  have hl := lv_entry ([.ref (aO a 0), .int p1] : List Value) (n := 2) (Nat.le_of_ble_eq_true rfl)
  rw [lg_entry_eq]
  generalize (lg_sl ([.ref (aO a 0), .int p1] : List Value) ++ List.replicate (2 - (lg_sl ([.ref (aO a 0), .int p1] : List Value)).length) Slot.unset).toArray = ls at hl ⊢
  have hl : lv_has ls 2 [(0, .ref (aO a 0)), (1, .int p1)] := hl
  unfold R_X2_kindOf at h
  refine lv_iload_n hx hb dX2_kindOf_0 rfl (lv_at hl 1 rfl) ?_
  refine lv_if_lt (tgt := 22) hx hb dX2_kindOf_1 (by decide) (fun q => ?_) (fun q => ?_)
  · have h := o_t h q
    obtain rfl := Except.error.inj (Option.some.inj h)
    exact err_throw (own := RX2) hx hb hflags hown hX (hts _ wT1_90) (hts _ wT1_10) (st_187 hX) (at_59 hts hX) gd_59 hs (hl.1.trans hml.symm) dX2_kindOf_22 dX2_kindOf_25 dX2_kindOf_26 dX2_kindOf_28 dX2_kindOf_31 ht hlocks (Nat.le_of_ble_eq_true rfl) (Nat.le_of_ble_eq_true rfl) ⟨Nat.le_of_ble_eq_true rfl, Nat.le_of_ble_eq_true rfl⟩ (by decide +kernel)
  · have h := o_f h q
    refine lv_iload_n hx hb dX2_kindOf_4 rfl (lv_at hl 1 rfl) ?_
    refine lv_aload_n hx hb dX2_kindOf_5 rfl (lv_at hl 0 rfl) ?_
    refine va_get (D := D) (ci := 2) (v := .ref (aO a 2)) (C := RX2) (T := TX2) (N := 7) hx hb hts iX2 hown hK hP 0 (KW_0 c5 a k) rfl 1 (by decide) (hts _ wT1_61) (fun _ h9 => h9) rfl dX2_kindOf_6 ?_
    refine va_alen (v := (5 : Int32)) hx hb hK hP 2 1 (KW_2 c5 a k) rfl rfl dX2_kindOf_9 ?_
    refine lv_icmp_ge (tgt := 22) hx hb dX2_kindOf_10 (by decide) (fun q => ?_) (fun q => ?_)
    · have h := o_t h q
      obtain rfl := Except.error.inj (Option.some.inj h)
      exact err_throw (own := RX2) hx hb hflags hown hX (hts _ wT1_90) (hts _ wT1_10) (st_187 hX) (at_59 hts hX) gd_59 hs (hl.1.trans hml.symm) dX2_kindOf_22 dX2_kindOf_25 dX2_kindOf_26 dX2_kindOf_28 dX2_kindOf_31 ht hlocks (Nat.le_of_ble_eq_true rfl) (Nat.le_of_ble_eq_true rfl) ⟨Nat.le_of_ble_eq_true rfl, Nat.le_of_ble_eq_true rfl⟩ (by decide +kernel)
    · have h := o_f h q
      refine lv_aload_n hx hb dX2_kindOf_13 rfl (lv_at hl 0 rfl) ?_
      refine va_get (D := D) (ci := 2) (v := .ref (aO a 2)) (C := RX2) (T := TX2) (N := 7) hx hb hts iX2 hown hK hP 0 (KW_0 c5 a k) rfl 1 (by decide) (hts _ wT1_61) (fun _ h9 => h9) rfl dX2_kindOf_14 ?_
      refine lv_iload_n hx hb dX2_kindOf_17 rfl (lv_at hl 1 rfl) ?_
      obtain ⟨g18, h⟩ := o_if h
      refine va_aldK hx hb hK hP g18 dX2_kindOf_18 ?_
      generalize hq19 : (knd k (p1.toNatClampNeg)) = q19 at h hl ⊢
      cases q19 with
      | none =>
        have h := oe_n h
        have hl : lv_has ls 2 [(0, .ref (aO a 0)), (1, .int p1)] := hl
        refine lv_ifnonnullN hx hb dX2_kindOf_19 ?_
        obtain rfl := Except.error.inj (Option.some.inj h)
        exact err_throw (own := RX2) hx hb hflags hown hX (hts _ wT1_90) (hts _ wT1_10) (st_187 hX) (at_59 hts hX) gd_59 hs (hl.1.trans hml.symm) dX2_kindOf_22 dX2_kindOf_25 dX2_kindOf_26 dX2_kindOf_28 dX2_kindOf_31 ht hlocks (Nat.le_of_ble_eq_true rfl) (Nat.le_of_ble_eq_true rfl) ⟨Nat.le_of_ble_eq_true rfl, Nat.le_of_ble_eq_true rfl⟩ (by decide +kernel)
      | some j19 =>
        obtain ⟨hj19, h⟩ := oe_sif h
        have hl : lv_has ls 2 [(0, .ref (aO a 0)), (1, .int p1)] := hl
        refine lv_ifnonnull (tgt := 32) hx hb dX2_kindOf_19 (by decide) ?_
        refine lv_aload_n hx hb dX2_kindOf_32 rfl (lv_at hl 0 rfl) ?_
        refine va_get (D := D) (ci := 2) (v := .ref (aO a 2)) (C := RX2) (T := TX2) (N := 7) hx hb hts iX2 hown hK hP 0 (KW_0 c5 a k) rfl 1 (by decide) (hts _ wT1_61) (fun _ h9 => h9) rfl dX2_kindOf_33 ?_
        refine lv_iload_n hx hb dX2_kindOf_36 rfl (lv_at hl 1 rfl) ?_
        obtain ⟨g37, h⟩ := o_if h
        refine va_aldK1 hx hb hK hP g37 hq19 dX2_kindOf_37 ?_
        cases h
set_option maxHeartbeats 4000000 in
set_option maxRecDepth 100000 in
theorem c_X2_shelfAt (l : Launch) (D : va_G) (c5 : Nat → ClassId) (a : KAd) (k : KSt) (hI : KI a) (p1 : Int32) (r : Nat) (h : R_X2_shelfAt k p1 = some (.ok r)) : Met l yX2_shelfAt (ws_ yX2_shelfAt cX2_shelfAt 2 (some (.object "SlabKitchen$Shelf"))) { frames := 0, cells := 0, slots := 0, locals := 0 } (va_Pc [.ref (aO a 0), .int p1] (roB D (tyG c5) (KW c5 a k))) (va_Se (aS a) (fun x => x = some r)) 0 0 (fun _ => False) := by
  refine Met.ofW (cc := cX2_shelfAt) (maxL := 2) (ret := (some (.object "SlabKitchen$Shelf"))) (by decide) rfl ?_
  intro p e s m args below meth c s₁ B hml hv
  obtain ⟨rfl, hP, hK⟩ := hv
  have hx := B.exec
  have hb := B.bytes
  have hr := B.returns
  have hts : ∀ w ∈ LA, w.before _ s = true := fun w hw => atoms_spec (ws := ws_ yX2_shelfAt cX2_shelfAt 2 (some (.object "SlabKitchen$Shelf"))) B.pre w (List.mem_cons_of_mem _ hw)
  have hown : s.vm.findClass RX2 = some m.cls := findClass_of_methodNamed B.named
  have hlocks := B.notSynchronized
  have hl := lv_entry ([.ref (aO a 0), .int p1] : List Value) (n := 2) (Nat.le_of_ble_eq_true rfl)
  rw [lg_entry_eq]
  generalize (lg_sl ([.ref (aO a 0), .int p1] : List Value) ++ List.replicate (2 - (lg_sl ([.ref (aO a 0), .int p1] : List Value)).length) Slot.unset).toArray = ls at hl ⊢
  have hl : lv_has ls 2 [(0, .ref (aO a 0)), (1, .int p1)] := hl
  unfold R_X2_shelfAt at h
  refine lv_iload_n hx hb dX2_shelfAt_0 rfl (lv_at hl 1 rfl) ?_
  refine lv_if_lt (tgt := 11) hx hb dX2_shelfAt_1 (by decide) (fun q => ?_) (fun q => ?_)
  · have h := o_t h q
    cases h
  · have h := o_f h q
    refine lv_iload_n hx hb dX2_shelfAt_4 rfl (lv_at hl 1 rfl) ?_
    refine lv_sipush (v := (288 : Int32)) hx hb dX2_shelfAt_5 (by decide) ?_
    refine lv_icmp_lt (tgt := 21) hx hb dX2_shelfAt_8 (by decide) (fun q => ?_) (fun q => ?_)
    · have h := o_t h q
      refine lv_aload_n hx hb dX2_shelfAt_21 rfl (lv_at hl 0 rfl) ?_
      refine va_get (D := D) (ci := 2) (v := .ref (aO a 1)) (C := RX2) (T := TX2) (N := 7) hx hb hts iX2 hown hK hP 0 (KW_0 c5 a k) rfl 0 (by decide) (hts _ wT1_60) (fun _ h9 => h9) rfl dX2_shelfAt_22 ?_
      refine lv_iload_n hx hb dX2_shelfAt_25 rfl (lv_at hl 1 rfl) ?_
      refine lv_bipush (v := (24 : Int32)) hx hb dX2_shelfAt_26 (by decide) ?_
      refine lv_idiv hx hb dX2_shelfAt_28 (by decide) ?_
      obtain ⟨g29, h⟩ := o_if h
      refine va_aldS hx hb hK hP g29 dX2_shelfAt_29 ?_
      exact ro_aret1 (ad := aS a) (v := ((p1 / (24 : Int32)).toNatClampNeg)) hx hb hr hlocks dX2_shelfAt_30 (Except.ok.inj (Option.some.inj h))
    · have h := o_f h q
      cases h

set_option maxHeartbeats 4000000 in
set_option maxRecDepth 100000 in
theorem x_X2_shelfAt (l : Launch) (D : va_G) (c5 : Nat → ClassId) (a : KAd) (k : KSt) (hI : KI a) (sx : Nat → Nat) (hflags : l.flags = flags0) (p1 : Int32) (E : String) (h : R_X2_shelfAt k p1 = some (.error E)) : vx_Met l yX2_shelfAt (ws_ yX2_shelfAt cX2_shelfAt 2 (some (.object "SlabKitchen$Shelf"))) { frames := 6, cells := 1, slots := 6, locals := 90 } (va_Pc [.ref (aO a 0), .int p1] (erB D (tyG c5) (KW c5 a k) sx)) ErrQ (ErrX E) 1 6 (fun _ => False) := by
  refine vx_ofW (cc := cX2_shelfAt) (maxL := 2) (ret := (some (.object "SlabKitchen$Shelf"))) (by decide) rfl ?_
  intro p e s m args below meth c s₁ B hml ht hv
  obtain ⟨rfl, hP, hK, hX⟩ := hv
  have hx := B.exec
  have hb := B.bytes
  have hr := B.returns
  have hts : ∀ w ∈ LA, w.before _ s = true := fun w hw => atoms_spec (ws := ws_ yX2_shelfAt cX2_shelfAt 2 (some (.object "SlabKitchen$Shelf"))) B.pre w (List.mem_cons_of_mem _ hw)
  have hown : s.vm.findClass RX2 = some m.cls := findClass_of_methodNamed B.named
  have hlocks := B.notSynchronized
  have hs : va_S (fun _ => False) s.heap s.heap [] := va_S.rf
  have hl := lv_entry ([.ref (aO a 0), .int p1] : List Value) (n := 2) (Nat.le_of_ble_eq_true rfl)
  rw [lg_entry_eq]
  generalize (lg_sl ([.ref (aO a 0), .int p1] : List Value) ++ List.replicate (2 - (lg_sl ([.ref (aO a 0), .int p1] : List Value)).length) Slot.unset).toArray = ls at hl ⊢
  have hl : lv_has ls 2 [(0, .ref (aO a 0)), (1, .int p1)] := hl
  unfold R_X2_shelfAt at h
  refine lv_iload_n hx hb dX2_shelfAt_0 rfl (lv_at hl 1 rfl) ?_
  refine lv_if_lt (tgt := 11) hx hb dX2_shelfAt_1 (by decide) (fun q => ?_) (fun q => ?_)
  · have h := o_t h q
    obtain rfl := Except.error.inj (Option.some.inj h)
    exact err_throw (own := RX2) hx hb hflags hown hX (hts _ wT1_90) (hts _ wT1_10) (st_189 hX) (at_59 hts hX) gd_59 hs (hl.1.trans hml.symm) dX2_shelfAt_11 dX2_shelfAt_14 dX2_shelfAt_15 dX2_shelfAt_17 dX2_shelfAt_20 ht hlocks (Nat.le_of_ble_eq_true rfl) (Nat.le_of_ble_eq_true rfl) ⟨Nat.le_of_ble_eq_true rfl, Nat.le_of_ble_eq_true rfl⟩ (by decide +kernel)
  · have h := o_f h q
    refine lv_iload_n hx hb dX2_shelfAt_4 rfl (lv_at hl 1 rfl) ?_
    refine lv_sipush (v := (288 : Int32)) hx hb dX2_shelfAt_5 (by decide) ?_
    refine lv_icmp_lt (tgt := 21) hx hb dX2_shelfAt_8 (by decide) (fun q => ?_) (fun q => ?_)
    · have h := o_t h q
      refine lv_aload_n hx hb dX2_shelfAt_21 rfl (lv_at hl 0 rfl) ?_
      refine va_get (D := D) (ci := 2) (v := .ref (aO a 1)) (C := RX2) (T := TX2) (N := 7) hx hb hts iX2 hown hK hP 0 (KW_0 c5 a k) rfl 0 (by decide) (hts _ wT1_60) (fun _ h9 => h9) rfl dX2_shelfAt_22 ?_
      refine lv_iload_n hx hb dX2_shelfAt_25 rfl (lv_at hl 1 rfl) ?_
      refine lv_bipush (v := (24 : Int32)) hx hb dX2_shelfAt_26 (by decide) ?_
      refine lv_idiv hx hb dX2_shelfAt_28 (by decide) ?_
      obtain ⟨g29, h⟩ := o_if h
      refine va_aldS hx hb hK hP g29 dX2_shelfAt_29 ?_
      cases h
    · have h := o_f h q
      obtain rfl := Except.error.inj (Option.some.inj h)
      exact err_throw (own := RX2) hx hb hflags hown hX (hts _ wT1_90) (hts _ wT1_10) (st_189 hX) (at_59 hts hX) gd_59 hs (hl.1.trans hml.symm) dX2_shelfAt_11 dX2_shelfAt_14 dX2_shelfAt_15 dX2_shelfAt_17 dX2_shelfAt_20 ht hlocks (Nat.le_of_ble_eq_true rfl) (Nat.le_of_ble_eq_true rfl) ⟨Nat.le_of_ble_eq_true rfl, Nat.le_of_ble_eq_true rfl⟩ (by decide +kernel)
set_option maxHeartbeats 4000000 in
set_option maxRecDepth 100000 in
theorem c_X2_setWay (l : Launch) (D : va_G) (c5 : Nat → ClassId) (a : KAd) (k : KSt) (hI : KI a) (sz : Nat) (p1 : Int32) (r : Int32 × KSt) (h : R_X2_setWay k p1 = some (.ok r)) : Met l yX2_setWay (ws_ yX2_setWay cX2_setWay 3 (some .int)) { frames := 0, cells := 0, slots := 0, locals := 0 } (va_Pc [.ref (aO a 0), .int p1] (rwB D (tyG c5) (KW c5 a k) sz)) (va_Qi (fun x u => x = r.1 ∧ u = r.2) (rwE D (tyG c5) (va_A (KW c5 a k) sz) (fun u => KW c5 a u)) (va_A (KW c5 a k) sz)) 0 0 (va_A (KW c5 a k) sz) := by
  refine Met.ofW (cc := cX2_setWay) (maxL := 3) (ret := (some .int)) (by decide) rfl ?_
  intro p e s m args below meth c s₁ B hml hv
  obtain ⟨rfl, hsz, hP, hK, hD0⟩ := hv
  have hx := B.exec
  have hb := B.bytes
  have hr := B.returns
  have hts : ∀ w ∈ LA, w.before _ s = true := fun w hw => atoms_spec (ws := ws_ yX2_setWay cX2_setWay 3 (some .int)) B.pre w (List.mem_cons_of_mem _ hw)
  have hown : s.vm.findClass RX2 = some m.cls := findClass_of_methodNamed B.named
  have hlocks := B.notSynchronized
  subst hsz
  have hD := hD0.self (sz := s.heap.size)
  generalize hAe : va_A (KW c5 a k) s.heap.size = A at hD ⊢
  have hA : ∀ q : Nat, s.heap.size ≤ q → A q := fun q h => by rw [← hAe]; exact Or.inr h
  have hS : va_S A s.heap s.heap [] := va_S.rf
  have hl := lv_entry ([.ref (aO a 0), .int p1] : List Value) (n := 3) (Nat.le_of_ble_eq_true rfl)
  rw [lg_entry_eq]
  generalize (lg_sl ([.ref (aO a 0), .int p1] : List Value) ++ List.replicate (3 - (lg_sl ([.ref (aO a 0), .int p1] : List Value)).length) Slot.unset).toArray = ls at hl ⊢
  have hl : lv_has ls 3 [(0, .ref (aO a 0)), (1, .int p1)] := hl
  unfold R_X2_setWay at h
  refine lv_iload_n hx hb dX2_setWay_0 rfl (lv_at hl 1 rfl) ?_
  refine lv_if_lt (tgt := 9) hx hb dX2_setWay_1 (by decide) (fun q => ?_) (fun q => ?_)
  · have h := o_t h q
    cases h
  · have h := o_f h q
    refine lv_iload_n hx hb dX2_setWay_4 rfl (lv_at hl 1 rfl) ?_
    refine lv_iconst (v := (2 : Int32)) hx hb dX2_setWay_5 (by decide) ?_
    refine lv_icmp_le (tgt := 19) hx hb dX2_setWay_6 (by decide) (fun q => ?_) (fun q => ?_)
    · have h := o_t h q
      refine lv_aload_n hx hb dX2_setWay_19 rfl (lv_at hl 0 rfl) ?_
      refine va_get (D := D) (ci := 2) (v := .int (kG k 1)) (C := RX2) (T := TX2) (N := 7) hx hb hts iX2 hown hK hP 0 (KW_0 c5 a k) rfl 3 (by decide) (hts _ wT1_63) (fun _ h9 => h9) rfl dX2_setWay_20 ?_
      refine lv_istore_n (i := 2) (lv' := [(2, .int (kG k 1)), (0, .ref (aO a 0)), (1, .int p1)]) hx hb dX2_setWay_23 rfl hl (by decide) rfl (fun ls hl => ?_)
      refine lv_aload_n hx hb dX2_setWay_24 rfl (lv_at hl 1 rfl) ?_
      refine lv_iload_n hx hb dX2_setWay_25 rfl (lv_at hl 2 rfl) ?_
      refine va_put (D := D) (ci := 2) (v := .int p1) (ty := .int) (C := RX2) (T := TX2) (N := 7) hx hb hts iX2 tyX2 tyX2_ok nmX2 hown hK hP hD hS 0 (KW_0 c5 a k) rfl 3 (by decide) (hts _ wT1_63) (fun _ h9 => h9) rfl (by decide +kernel) rfl rfl (Nat.le_of_ble_eq_true rfl) dX2_setWay_26 (fun H locs hP hD hS => ?_)
      have hP := wP (KW_set0 c5 a k 1 (by decide) _) hP
      have hD := wD (KW_set0 c5 a k 1 (by decide) _) hD
      refine lv_iload_n hx hb dX2_setWay_29 rfl (lv_at hl 0 rfl) ?_
      obtain rfl := (Except.ok.inj (Option.some.inj h))
      exact rw_iret (wf := fun u => KW c5 a u) hx hb hr hlocks hP hK hD hS dX2_setWay_30 rfl
    · have h := o_f h q
      cases h

set_option maxHeartbeats 4000000 in
set_option maxRecDepth 100000 in
theorem x_X2_setWay (l : Launch) (D : va_G) (c5 : Nat → ClassId) (a : KAd) (k : KSt) (hI : KI a) (sx : Nat → Nat) (hflags : l.flags = flags0) (p1 : Int32) (E : String) (h : R_X2_setWay k p1 = some (.error E)) : vx_Met l yX2_setWay (ws_ yX2_setWay cX2_setWay 3 (some .int)) { frames := 6, cells := 1, slots := 6, locals := 90 } (va_Pc [.ref (aO a 0), .int p1] (erB D (tyG c5) (KW c5 a k) sx)) ErrQ (ErrX E) 1 6 (fun _ => False) := by
  refine vx_ofW (cc := cX2_setWay) (maxL := 3) (ret := (some .int)) (by decide) rfl ?_
  intro p e s m args below meth c s₁ B hml ht hv
  obtain ⟨rfl, hP, hK, hX⟩ := hv
  have hx := B.exec
  have hb := B.bytes
  have hr := B.returns
  have hts : ∀ w ∈ LA, w.before _ s = true := fun w hw => atoms_spec (ws := ws_ yX2_setWay cX2_setWay 3 (some .int)) B.pre w (List.mem_cons_of_mem _ hw)
  have hown : s.vm.findClass RX2 = some m.cls := findClass_of_methodNamed B.named
  have hlocks := B.notSynchronized
  have hs : va_S (fun _ => False) s.heap s.heap [] := va_S.rf
  have hl := lv_entry ([.ref (aO a 0), .int p1] : List Value) (n := 3) (Nat.le_of_ble_eq_true rfl)
  rw [lg_entry_eq]
  generalize (lg_sl ([.ref (aO a 0), .int p1] : List Value) ++ List.replicate (3 - (lg_sl ([.ref (aO a 0), .int p1] : List Value)).length) Slot.unset).toArray = ls at hl ⊢
  have hl : lv_has ls 3 [(0, .ref (aO a 0)), (1, .int p1)] := hl
  unfold R_X2_setWay at h
  refine lv_iload_n hx hb dX2_setWay_0 rfl (lv_at hl 1 rfl) ?_
  refine lv_if_lt (tgt := 9) hx hb dX2_setWay_1 (by decide) (fun q => ?_) (fun q => ?_)
  · have h := o_t h q
    obtain rfl := Except.error.inj (Option.some.inj h)
    exact err_throw (own := RX2) hx hb hflags hown hX (hts _ wT1_90) (hts _ wT1_10) (st_57 hX) (at_59 hts hX) gd_59 hs (hl.1.trans hml.symm) dX2_setWay_9 dX2_setWay_12 dX2_setWay_13 dX2_setWay_15 dX2_setWay_18 ht hlocks (Nat.le_of_ble_eq_true rfl) (Nat.le_of_ble_eq_true rfl) ⟨Nat.le_of_ble_eq_true rfl, Nat.le_of_ble_eq_true rfl⟩ (by decide +kernel)
  · have h := o_f h q
    refine lv_iload_n hx hb dX2_setWay_4 rfl (lv_at hl 1 rfl) ?_
    refine lv_iconst (v := (2 : Int32)) hx hb dX2_setWay_5 (by decide) ?_
    refine lv_icmp_le (tgt := 19) hx hb dX2_setWay_6 (by decide) (fun q => ?_) (fun q => ?_)
    · have h := o_t h q
      refine lv_aload_n hx hb dX2_setWay_19 rfl (lv_at hl 0 rfl) ?_
      refine va_get (D := D) (ci := 2) (v := .int (kG k 1)) (C := RX2) (T := TX2) (N := 7) hx hb hts iX2 hown hK hP 0 (KW_0 c5 a k) rfl 3 (by decide) (hts _ wT1_63) (fun _ h9 => h9) rfl dX2_setWay_20 ?_
      refine lv_istore_n (i := 2) (lv' := [(2, .int (kG k 1)), (0, .ref (aO a 0)), (1, .int p1)]) hx hb dX2_setWay_23 rfl hl (by decide) rfl (fun ls hl => ?_)
      refine lv_aload_n hx hb dX2_setWay_24 rfl (lv_at hl 1 rfl) ?_
      refine lv_iload_n hx hb dX2_setWay_25 rfl (lv_at hl 2 rfl) ?_
      exfalso
      cases h
    · have h := o_f h q
      obtain rfl := Except.error.inj (Option.some.inj h)
      exact err_throw (own := RX2) hx hb hflags hown hX (hts _ wT1_90) (hts _ wT1_10) (st_57 hX) (at_59 hts hX) gd_59 hs (hl.1.trans hml.symm) dX2_setWay_9 dX2_setWay_12 dX2_setWay_13 dX2_setWay_15 dX2_setWay_18 ht hlocks (Nat.le_of_ble_eq_true rfl) (Nat.le_of_ble_eq_true rfl) ⟨Nat.le_of_ble_eq_true rfl, Nat.le_of_ble_eq_true rfl⟩ (by decide +kernel)
set_option maxHeartbeats 4000000 in
set_option maxRecDepth 100000 in
theorem c_X2_shelf (l : Launch) (D : va_G) (c5 : Nat → ClassId) (a : KAd) (k : KSt) (hI : KI a) (p1 : Int32) (p2 : Int32) (r : Int32) (h : R_X2_shelf k p1 p2 = some (.ok r)) : Met l yX2_shelf (ws_ yX2_shelf cX2_shelf 3 (some .int)) { frames := 3, cells := 0, slots := 0, locals := 63 } (va_Pc [.ref (aO a 0), .int p1, .int p2] (roB D (tyG c5) (KW c5 a k))) (vp_Si (fun x => x = r)) 0 0 (fun _ => False) := by
  refine Met.ofW (cc := cX2_shelf) (maxL := 3) (ret := (some .int)) (by decide) rfl ?_
  intro p e s m args below meth c s₁ B hml hv
  obtain ⟨rfl, hP, hK⟩ := hv
  have hx := B.exec
  have hb := B.bytes
  have hr := B.returns
  have hts : ∀ w ∈ LA, w.before _ s = true := fun w hw => atoms_spec (ws := ws_ yX2_shelf cX2_shelf 3 (some .int)) B.pre w (List.mem_cons_of_mem _ hw)
  have hown : s.vm.findClass RX2 = some m.cls := findClass_of_methodNamed B.named
  have hlocks := B.notSynchronized
  have hl := lv_entry ([.ref (aO a 0), .int p1, .int p2] : List Value) (n := 3) (Nat.le_of_ble_eq_true rfl)
  rw [lg_entry_eq]
  generalize (lg_sl ([.ref (aO a 0), .int p1, .int p2] : List Value) ++ List.replicate (3 - (lg_sl ([.ref (aO a 0), .int p1, .int p2] : List Value)).length) Slot.unset).toArray = ls at hl ⊢
  have hl : lv_has ls 3 [(0, .ref (aO a 0)), (1, .int p1), (2, .int p2)] := hl
  unfold R_X2_shelf at h
  refine lv_iload_n hx hb dX2_shelf_0 rfl (lv_at hl 1 rfl) ?_
  refine lv_if_lt (tgt := 13) hx hb dX2_shelf_1 (by decide) (fun q => ?_) (fun q => ?_)
  · have h := o_t h q
    cases h
  · have h := o_f h q
    refine lv_iload_n hx hb dX2_shelf_4 rfl (lv_at hl 1 rfl) ?_
    refine lv_aload_n hx hb dX2_shelf_5 rfl (lv_at hl 0 rfl) ?_
    refine va_get (D := D) (ci := 2) (v := .ref (aO a 1)) (C := RX2) (T := TX2) (N := 7) hx hb hts iX2 hown hK hP 0 (KW_0 c5 a k) rfl 0 (by decide) (hts _ wT1_60) (fun _ h9 => h9) rfl dX2_shelf_6 ?_
    refine va_alen (v := (12 : Int32)) hx hb hK hP 1 0 (KW_1 c5 a k) rfl rfl dX2_shelf_9 ?_
    refine lv_icmp_lt (tgt := 23) hx hb dX2_shelf_10 (by decide) (fun q => ?_) (fun q => ?_)
    · have h := o_t h q
      refine lv_iload_n hx hb dX2_shelf_23 rfl (lv_at hl 2 rfl) ?_
      refine lv_bipush (v := (6 : Int32)) hx hb dX2_shelf_24 (by decide) ?_
      obtain ⟨v26, e26, h⟩ := xb_ok h
      refine ro_callv (ro_runS (As := [.int p2, .int (6 : Int32)]) (rest := []) ⟨hx, hb, hml, hown, hts⟩ hP hK (c_X2_requireAnswer l D (tyG c5) (KW c5 a k) p2 (6 : Int32) v26 e26) gG_RX2_121 hd_X2_requireAnswer ⟨Nat.le_of_ble_eq_true rfl, Nat.le_of_ble_eq_true rfl⟩ ⟨rfl, rfl⟩ hl.1 (Nat.le_of_ble_eq_true rfl) dX2_shelf_26 ⟨Nat.zero_le _, Nat.zero_le _⟩ rfl) ?_
      refine lv_aload_n hx hb dX2_shelf_29 rfl (lv_at hl 0 rfl) ?_
      refine va_get (D := D) (ci := 2) (v := .ref (aO a 1)) (C := RX2) (T := TX2) (N := 7) hx hb hts iX2 hown hK hP 0 (KW_0 c5 a k) rfl 0 (by decide) (hts _ wT1_60) (fun _ h9 => h9) rfl dX2_shelf_30 ?_
      refine lv_iload_n hx hb dX2_shelf_33 rfl (lv_at hl 1 rfl) ?_
      obtain ⟨g34, h⟩ := o_if h
      refine va_aldS hx hb hK hP g34 dX2_shelf_34 ?_
      refine lv_iload_n hx hb dX2_shelf_35 rfl (lv_at hl 2 rfl) ?_
      obtain ⟨v36, e36, h⟩ := o_bind h
      refine ro_calli (ro_runV (As := [.int p2]) (rest := []) ⟨hx, hb, hml, hown, hts⟩ hP hK (c_X1_answer l D c5 a k hI (p1.toNatClampNeg) (inb_lt g34) p2 v36 e36) gG_RX2_124 (va_recv hK hP (ci := 1) (q0 := (3 + (p1.toNatClampNeg))) rfl (KW_S c5 a k (inb_lt g34))) hd_X1_answer ⟨Nat.le_of_ble_eq_true rfl, Nat.le_of_ble_eq_true rfl⟩ ⟨rfl, rfl⟩ hl.1 (Nat.le_of_ble_eq_true rfl) dX2_shelf_36 ⟨Nat.zero_le _, Nat.zero_le _⟩ rfl) ?_
      exact ro_iret hx hb hr hlocks dX2_shelf_39 (Except.ok.inj (Option.some.inj h))
    · have h := o_f h q
      cases h

set_option maxHeartbeats 4000000 in
set_option maxRecDepth 100000 in
theorem x_X2_shelf (l : Launch) (D : va_G) (c5 : Nat → ClassId) (a : KAd) (k : KSt) (hI : KI a) (sx : Nat → Nat) (hflags : l.flags = flags0) (p1 : Int32) (p2 : Int32) (E : String) (h : R_X2_shelf k p1 p2 = some (.error E)) : vx_Met l yX2_shelf (ws_ yX2_shelf cX2_shelf 3 (some .int)) { frames := 7, cells := 1, slots := 6, locals := 111 } (va_Pc [.ref (aO a 0), .int p1, .int p2] (erB D (tyG c5) (KW c5 a k) sx)) ErrQ (ErrX E) 1 6 (fun _ => False) := by
  refine vx_ofW (cc := cX2_shelf) (maxL := 3) (ret := (some .int)) (by decide) rfl ?_
  intro p e s m args below meth c s₁ B hml ht hv
  obtain ⟨rfl, hP, hK, hX⟩ := hv
  have hx := B.exec
  have hb := B.bytes
  have hr := B.returns
  have hts : ∀ w ∈ LA, w.before _ s = true := fun w hw => atoms_spec (ws := ws_ yX2_shelf cX2_shelf 3 (some .int)) B.pre w (List.mem_cons_of_mem _ hw)
  have hown : s.vm.findClass RX2 = some m.cls := findClass_of_methodNamed B.named
  have hlocks := B.notSynchronized
  have hs : va_S (fun _ => False) s.heap s.heap [] := va_S.rf
  have hl := lv_entry ([.ref (aO a 0), .int p1, .int p2] : List Value) (n := 3) (Nat.le_of_ble_eq_true rfl)
  rw [lg_entry_eq]
  generalize (lg_sl ([.ref (aO a 0), .int p1, .int p2] : List Value) ++ List.replicate (3 - (lg_sl ([.ref (aO a 0), .int p1, .int p2] : List Value)).length) Slot.unset).toArray = ls at hl ⊢
  have hl : lv_has ls 3 [(0, .ref (aO a 0)), (1, .int p1), (2, .int p2)] := hl
  unfold R_X2_shelf at h
  refine lv_iload_n hx hb dX2_shelf_0 rfl (lv_at hl 1 rfl) ?_
  refine lv_if_lt (tgt := 13) hx hb dX2_shelf_1 (by decide) (fun q => ?_) (fun q => ?_)
  · have h := o_t h q
    obtain rfl := Except.error.inj (Option.some.inj h)
    exact err_throw (own := RX2) hx hb hflags hown hX (hts _ wT1_90) (hts _ wT1_10) (st_119 hX) (at_59 hts hX) gd_59 hs (hl.1.trans hml.symm) dX2_shelf_13 dX2_shelf_16 dX2_shelf_17 dX2_shelf_19 dX2_shelf_22 ht hlocks (Nat.le_of_ble_eq_true rfl) (Nat.le_of_ble_eq_true rfl) ⟨Nat.le_of_ble_eq_true rfl, Nat.le_of_ble_eq_true rfl⟩ (by decide +kernel)
  · have h := o_f h q
    refine lv_iload_n hx hb dX2_shelf_4 rfl (lv_at hl 1 rfl) ?_
    refine lv_aload_n hx hb dX2_shelf_5 rfl (lv_at hl 0 rfl) ?_
    refine va_get (D := D) (ci := 2) (v := .ref (aO a 1)) (C := RX2) (T := TX2) (N := 7) hx hb hts iX2 hown hK hP 0 (KW_0 c5 a k) rfl 0 (by decide) (hts _ wT1_60) (fun _ h9 => h9) rfl dX2_shelf_6 ?_
    refine va_alen (v := (12 : Int32)) hx hb hK hP 1 0 (KW_1 c5 a k) rfl rfl dX2_shelf_9 ?_
    refine lv_icmp_lt (tgt := 23) hx hb dX2_shelf_10 (by decide) (fun q => ?_) (fun q => ?_)
    · have h := o_t h q
      refine lv_iload_n hx hb dX2_shelf_23 rfl (lv_at hl 2 rfl) ?_
      refine lv_bipush (v := (6 : Int32)) hx hb dX2_shelf_24 (by decide) ?_
      rcases xb_some h with ⟨v26, e26, h⟩ | ⟨x9, e26, h⟩
      · refine ro_callv (ro_runS (As := [.int p2, .int (6 : Int32)]) (rest := []) ⟨hx, hb, hml, hown, hts⟩ hP hK (c_X2_requireAnswer l D (tyG c5) (KW c5 a k) p2 (6 : Int32) v26 e26) gG_RX2_121 hd_X2_requireAnswer ⟨Nat.le_of_ble_eq_true rfl, Nat.le_of_ble_eq_true rfl⟩ ⟨rfl, rfl⟩ hl.1 (Nat.le_of_ble_eq_true rfl) dX2_shelf_26 ⟨Nat.zero_le _, Nat.zero_le _⟩ rfl) ?_
        refine lv_aload_n hx hb dX2_shelf_29 rfl (lv_at hl 0 rfl) ?_
        refine va_get (D := D) (ci := 2) (v := .ref (aO a 1)) (C := RX2) (T := TX2) (N := 7) hx hb hts iX2 hown hK hP 0 (KW_0 c5 a k) rfl 0 (by decide) (hts _ wT1_60) (fun _ h9 => h9) rfl dX2_shelf_30 ?_
        refine lv_iload_n hx hb dX2_shelf_33 rfl (lv_at hl 1 rfl) ?_
        obtain ⟨g34, h⟩ := o_if h
        refine va_aldS hx hb hK hP g34 dX2_shelf_34 ?_
        refine lv_iload_n hx hb dX2_shelf_35 rfl (lv_at hl 2 rfl) ?_
        obtain ⟨v36, e36, h⟩ := o_bind h
        refine ro_calli (ro_runV (As := [.int p2]) (rest := []) ⟨hx, hb, hml, hown, hts⟩ hP hK (c_X1_answer l D c5 a k hI (p1.toNatClampNeg) (inb_lt g34) p2 v36 e36) gG_RX2_124 (va_recv hK hP (ci := 1) (q0 := (3 + (p1.toNatClampNeg))) rfl (KW_S c5 a k (inb_lt g34))) hd_X1_answer ⟨Nat.le_of_ble_eq_true rfl, Nat.le_of_ble_eq_true rfl⟩ ⟨rfl, rfl⟩ hl.1 (Nat.le_of_ble_eq_true rfl) dX2_shelf_36 ⟨Nat.zero_le _, Nat.zero_le _⟩ rfl) ?_
        cases h
      · obtain rfl := Except.error.inj h
        exact er_call (er_runS (As := [.int p2, .int (6 : Int32)]) (rest := []) ⟨hx, hb, hml, hown, hts⟩ hP hK hX (x_X2_requireAnswer l D (tyG c5) (KW c5 a k) sx hflags p2 (6 : Int32) E e26) gG_RX2_121 hd_X2_requireAnswer ⟨Nat.le_of_ble_eq_true rfl, Nat.le_of_ble_eq_true rfl⟩ ⟨rfl, rfl⟩ hl.1 (Nat.le_of_ble_eq_true rfl) dX2_shelf_26 ⟨Nat.le_of_ble_eq_true rfl, Nat.le_of_ble_eq_true rfl⟩ rfl) ht hlocks
    · have h := o_f h q
      obtain rfl := Except.error.inj (Option.some.inj h)
      exact err_throw (own := RX2) hx hb hflags hown hX (hts _ wT1_90) (hts _ wT1_10) (st_119 hX) (at_59 hts hX) gd_59 hs (hl.1.trans hml.symm) dX2_shelf_13 dX2_shelf_16 dX2_shelf_17 dX2_shelf_19 dX2_shelf_22 ht hlocks (Nat.le_of_ble_eq_true rfl) (Nat.le_of_ble_eq_true rfl) ⟨Nat.le_of_ble_eq_true rfl, Nat.le_of_ble_eq_true rfl⟩ (by decide +kernel)
set_option maxHeartbeats 4000000 in
set_option maxRecDepth 100000 in
theorem c_X2_about (l : Launch) (D : va_G) (c5 : Nat → ClassId) (a : KAd) (k : KSt) (hI : KI a) (p1 : Int32) (p2 : Int32) (r : Int32) (h : R_X2_about k p1 p2 = some (.ok r)) : Met l yX2_about (ws_ yX2_about cX2_about 4 (some .int)) { frames := 3, cells := 0, slots := 0, locals := 70 } (va_Pc [.ref (aO a 0), .int p1, .int p2] (roB D (tyG c5) (KW c5 a k))) (vp_Si (fun x => x = r)) 0 0 (fun _ => False) := by
  refine Met.ofW (cc := cX2_about) (maxL := 4) (ret := (some .int)) (by decide) rfl ?_
  intro p e s m args below meth c s₁ B hml hv
  obtain ⟨rfl, hP, hK⟩ := hv
  have hx := B.exec
  have hb := B.bytes
  have hr := B.returns
  have hts : ∀ w ∈ LA, w.before _ s = true := fun w hw => atoms_spec (ws := ws_ yX2_about cX2_about 4 (some .int)) B.pre w (List.mem_cons_of_mem _ hw)
  have hown : s.vm.findClass RX2 = some m.cls := findClass_of_methodNamed B.named
  have hlocks := B.notSynchronized
  have hl := lv_entry ([.ref (aO a 0), .int p1, .int p2] : List Value) (n := 4) (Nat.le_of_ble_eq_true rfl)
  rw [lg_entry_eq]
  generalize (lg_sl ([.ref (aO a 0), .int p1, .int p2] : List Value) ++ List.replicate (4 - (lg_sl ([.ref (aO a 0), .int p1, .int p2] : List Value)).length) Slot.unset).toArray = ls at hl ⊢
  have hl : lv_has ls 4 [(0, .ref (aO a 0)), (1, .int p1), (2, .int p2)] := hl
  unfold R_X2_about at h
  refine lv_aload_n hx hb dX2_about_0 rfl (lv_at hl 0 rfl) ?_
  refine lv_iload_n hx hb dX2_about_1 rfl (lv_at hl 1 rfl) ?_
  obtain ⟨v2, e2, h⟩ := xb_ok h
  refine ro_calle1 (ro_runV (As := [.int p1]) (rest := []) ⟨hx, hb, hml, hown, hts⟩ hP hK (c_X2_kindOf l D c5 a k hI p1 v2 e2) gG_RX2_60 (va_recv hK hP (ci := 2) (q0 := 0) rfl (KW_0 c5 a k)) hd_X2_kindOf ⟨Nat.le_of_ble_eq_true rfl, Nat.le_of_ble_eq_true rfl⟩ ⟨rfl, rfl⟩ hl.1 (Nat.le_of_ble_eq_true rfl) dX2_about_2 ⟨Nat.zero_le _, Nat.zero_le _⟩ rfl) ?_
  obtain ⟨gr2, h⟩ := o_if h
  refine lv_astore_n (i := 3) (lv' := [(3, .ref (aK a v2)), (0, .ref (aO a 0)), (1, .int p1), (2, .int p2)]) hx hb dX2_about_5 rfl hl (by decide) rfl (fun ls hl => ?_)
  refine lv_iload_n hx hb dX2_about_6 rfl (lv_at hl 3 rfl) ?_
  refine lv_bipush (v := (9 : Int32)) hx hb dX2_about_7 (by decide) ?_
  obtain ⟨v9, e9, h⟩ := xb_ok h
  refine ro_callv (ro_runS (As := [.int p2, .int (9 : Int32)]) (rest := []) ⟨hx, hb, hml, hown, hts⟩ hP hK (c_X2_requireAnswer l D (tyG c5) (KW c5 a k) p2 (9 : Int32) v9 e9) gG_RX2_121 hd_X2_requireAnswer ⟨Nat.le_of_ble_eq_true rfl, Nat.le_of_ble_eq_true rfl⟩ ⟨rfl, rfl⟩ hl.1 (Nat.le_of_ble_eq_true rfl) dX2_about_9 ⟨Nat.zero_le _, Nat.zero_le _⟩ rfl) ?_
  refine lv_aload_n hx hb dX2_about_12 rfl (lv_at hl 1 rfl) ?_
  refine lv_aload_n hx hb dX2_about_13 rfl (lv_at hl 0 rfl) ?_
  refine lv_iload_n hx hb dX2_about_14 rfl (lv_at hl 3 rfl) ?_
  obtain ⟨v15, e15, h⟩ := o_bind h
  refine ro_calli (ro_runV (As := [.ref (aK a v2), .int p2]) (rest := []) ⟨hx, hb, hml, hown, hts⟩ hP hK (c_X2_answerAbout l D c5 a k hI v2 gr2 p2 v15 e15) gG_RX2_127 (va_recv hK hP (ci := 2) (q0 := 0) rfl (KW_0 c5 a k)) hd_X2_answerAbout ⟨Nat.le_of_ble_eq_true rfl, Nat.le_of_ble_eq_true rfl⟩ ⟨rfl, rfl⟩ hl.1 (Nat.le_of_ble_eq_true rfl) dX2_about_15 ⟨Nat.zero_le _, Nat.zero_le _⟩ rfl) ?_
  exact ro_iret hx hb hr hlocks dX2_about_18 (Except.ok.inj (Option.some.inj h))

set_option maxHeartbeats 4000000 in
set_option maxRecDepth 100000 in
theorem x_X2_about (l : Launch) (D : va_G) (c5 : Nat → ClassId) (a : KAd) (k : KSt) (hI : KI a) (sx : Nat → Nat) (hflags : l.flags = flags0) (p1 : Int32) (p2 : Int32) (E : String) (h : R_X2_about k p1 p2 = some (.error E)) : vx_Met l yX2_about (ws_ yX2_about cX2_about 4 (some .int)) { frames := 7, cells := 1, slots := 6, locals := 111 } (va_Pc [.ref (aO a 0), .int p1, .int p2] (erB D (tyG c5) (KW c5 a k) sx)) ErrQ (ErrX E) 1 6 (fun _ => False) := by
  refine vx_ofW (cc := cX2_about) (maxL := 4) (ret := (some .int)) (by decide) rfl ?_
  intro p e s m args below meth c s₁ B hml ht hv
  obtain ⟨rfl, hP, hK, hX⟩ := hv
  have hx := B.exec
  have hb := B.bytes
  have hr := B.returns
  have hts : ∀ w ∈ LA, w.before _ s = true := fun w hw => atoms_spec (ws := ws_ yX2_about cX2_about 4 (some .int)) B.pre w (List.mem_cons_of_mem _ hw)
  have hown : s.vm.findClass RX2 = some m.cls := findClass_of_methodNamed B.named
  have hlocks := B.notSynchronized
  have hs : va_S (fun _ => False) s.heap s.heap [] := va_S.rf
  have hl := lv_entry ([.ref (aO a 0), .int p1, .int p2] : List Value) (n := 4) (Nat.le_of_ble_eq_true rfl)
  rw [lg_entry_eq]
  generalize (lg_sl ([.ref (aO a 0), .int p1, .int p2] : List Value) ++ List.replicate (4 - (lg_sl ([.ref (aO a 0), .int p1, .int p2] : List Value)).length) Slot.unset).toArray = ls at hl ⊢
  have hl : lv_has ls 4 [(0, .ref (aO a 0)), (1, .int p1), (2, .int p2)] := hl
  unfold R_X2_about at h
  refine lv_aload_n hx hb dX2_about_0 rfl (lv_at hl 0 rfl) ?_
  refine lv_iload_n hx hb dX2_about_1 rfl (lv_at hl 1 rfl) ?_
  rcases xb_some h with ⟨v2, e2, h⟩ | ⟨x9, e2, h⟩
  · refine ro_calle1 (ro_runV (As := [.int p1]) (rest := []) ⟨hx, hb, hml, hown, hts⟩ hP hK (c_X2_kindOf l D c5 a k hI p1 v2 e2) gG_RX2_60 (va_recv hK hP (ci := 2) (q0 := 0) rfl (KW_0 c5 a k)) hd_X2_kindOf ⟨Nat.le_of_ble_eq_true rfl, Nat.le_of_ble_eq_true rfl⟩ ⟨rfl, rfl⟩ hl.1 (Nat.le_of_ble_eq_true rfl) dX2_about_2 ⟨Nat.zero_le _, Nat.zero_le _⟩ rfl) ?_
    obtain ⟨gr2, h⟩ := o_if h
    refine lv_astore_n (i := 3) (lv' := [(3, .ref (aK a v2)), (0, .ref (aO a 0)), (1, .int p1), (2, .int p2)]) hx hb dX2_about_5 rfl hl (by decide) rfl (fun ls hl => ?_)
    refine lv_iload_n hx hb dX2_about_6 rfl (lv_at hl 3 rfl) ?_
    refine lv_bipush (v := (9 : Int32)) hx hb dX2_about_7 (by decide) ?_
    rcases xb_some h with ⟨v9, e9, h⟩ | ⟨x9, e9, h⟩
    · refine ro_callv (ro_runS (As := [.int p2, .int (9 : Int32)]) (rest := []) ⟨hx, hb, hml, hown, hts⟩ hP hK (c_X2_requireAnswer l D (tyG c5) (KW c5 a k) p2 (9 : Int32) v9 e9) gG_RX2_121 hd_X2_requireAnswer ⟨Nat.le_of_ble_eq_true rfl, Nat.le_of_ble_eq_true rfl⟩ ⟨rfl, rfl⟩ hl.1 (Nat.le_of_ble_eq_true rfl) dX2_about_9 ⟨Nat.zero_le _, Nat.zero_le _⟩ rfl) ?_
      refine lv_aload_n hx hb dX2_about_12 rfl (lv_at hl 1 rfl) ?_
      refine lv_aload_n hx hb dX2_about_13 rfl (lv_at hl 0 rfl) ?_
      refine lv_iload_n hx hb dX2_about_14 rfl (lv_at hl 3 rfl) ?_
      obtain ⟨v15, e15, h⟩ := o_bind h
      refine ro_calli (ro_runV (As := [.ref (aK a v2), .int p2]) (rest := []) ⟨hx, hb, hml, hown, hts⟩ hP hK (c_X2_answerAbout l D c5 a k hI v2 gr2 p2 v15 e15) gG_RX2_127 (va_recv hK hP (ci := 2) (q0 := 0) rfl (KW_0 c5 a k)) hd_X2_answerAbout ⟨Nat.le_of_ble_eq_true rfl, Nat.le_of_ble_eq_true rfl⟩ ⟨rfl, rfl⟩ hl.1 (Nat.le_of_ble_eq_true rfl) dX2_about_15 ⟨Nat.zero_le _, Nat.zero_le _⟩ rfl) ?_
      cases h
    · obtain rfl := Except.error.inj h
      exact er_call (er_runS (As := [.int p2, .int (9 : Int32)]) (rest := []) ⟨hx, hb, hml, hown, hts⟩ hP hK hX (x_X2_requireAnswer l D (tyG c5) (KW c5 a k) sx hflags p2 (9 : Int32) E e9) gG_RX2_121 hd_X2_requireAnswer ⟨Nat.le_of_ble_eq_true rfl, Nat.le_of_ble_eq_true rfl⟩ ⟨rfl, rfl⟩ hl.1 (Nat.le_of_ble_eq_true rfl) dX2_about_9 ⟨Nat.le_of_ble_eq_true rfl, Nat.le_of_ble_eq_true rfl⟩ rfl) ht hlocks
  · obtain rfl := Except.error.inj h
    exact er_call (er_runV (As := [.int p1]) (rest := []) ⟨hx, hb, hml, hown, hts⟩ hP hK hX (x_X2_kindOf l D c5 a k hI sx hflags p1 E e2) gG_RX2_60 (va_recv hK hP (ci := 2) (q0 := 0) rfl (KW_0 c5 a k)) hd_X2_kindOf ⟨Nat.le_of_ble_eq_true rfl, Nat.le_of_ble_eq_true rfl⟩ ⟨rfl, rfl⟩ hl.1 (Nat.le_of_ble_eq_true rfl) dX2_about_2 ⟨Nat.le_of_ble_eq_true rfl, Nat.le_of_ble_eq_true rfl⟩ rfl) ht hlocks
set_option maxHeartbeats 4000000 in
set_option maxRecDepth 100000 in
theorem c_X2_place (l : Launch) (D : va_G) (c5 : Nat → ClassId) (a : KAd) (k : KSt) (hI : KI a) (p1 : Int32) (p2 : Int32) (r : Int32) (h : R_X2_place k p1 p2 = some (.ok r)) : Met l yX2_place (ws_ yX2_place cX2_place 5 (some .int)) { frames := 1, cells := 0, slots := 0, locals := 22 } (va_Pc [.ref (aO a 0), .int p1, .int p2] (roB D (tyG c5) (KW c5 a k))) (vp_Si (fun x => x = r)) 0 0 (fun _ => False) := by
  refine Met.ofW (cc := cX2_place) (maxL := 5) (ret := (some .int)) (by decide) rfl ?_
  intro p e s m args below meth c s₁ B hml hv
  obtain ⟨rfl, hP, hK⟩ := hv
  have hx := B.exec
  have hb := B.bytes
  have hr := B.returns
  have hts : ∀ w ∈ LA, w.before _ s = true := fun w hw => atoms_spec (ws := ws_ yX2_place cX2_place 5 (some .int)) B.pre w (List.mem_cons_of_mem _ hw)
  have hown : s.vm.findClass RX2 = some m.cls := findClass_of_methodNamed B.named
  have hlocks := B.notSynchronized
  have hl := lv_entry ([.ref (aO a 0), .int p1, .int p2] : List Value) (n := 5) (Nat.le_of_ble_eq_true rfl)
  rw [lg_entry_eq]
  generalize (lg_sl ([.ref (aO a 0), .int p1, .int p2] : List Value) ++ List.replicate (5 - (lg_sl ([.ref (aO a 0), .int p1, .int p2] : List Value)).length) Slot.unset).toArray = ls at hl ⊢
  have hl : lv_has ls 5 [(0, .ref (aO a 0)), (1, .int p1), (2, .int p2)] := hl
  unfold R_X2_place at h
  refine lv_aload_n hx hb dX2_place_0 rfl (lv_at hl 0 rfl) ?_
  refine lv_iload_n hx hb dX2_place_1 rfl (lv_at hl 1 rfl) ?_
  obtain ⟨v2, e2, h⟩ := xb_ok h
  refine ro_calle1 (ro_runV (As := [.int p1]) (rest := []) ⟨hx, hb, hml, hown, hts⟩ hP hK (c_X2_shelfAt l D c5 a k hI p1 v2 e2) gG_RX2_88 (va_recv hK hP (ci := 2) (q0 := 0) rfl (KW_0 c5 a k)) hd_X2_shelfAt ⟨Nat.le_of_ble_eq_true rfl, Nat.le_of_ble_eq_true rfl⟩ ⟨rfl, rfl⟩ hl.1 (Nat.le_of_ble_eq_true rfl) dX2_place_2 ⟨Nat.zero_le _, Nat.zero_le _⟩ rfl) ?_
  obtain ⟨gr2, h⟩ := o_if h
  refine lv_astore_n (i := 3) (lv' := [(3, .ref (aS a v2)), (0, .ref (aO a 0)), (1, .int p1), (2, .int p2)]) hx hb dX2_place_5 rfl hl (by decide) rfl (fun ls hl => ?_)
  refine lv_iload_n hx hb dX2_place_6 rfl (lv_at hl 3 rfl) ?_
  refine lv_iconst (v := (4 : Int32)) hx hb dX2_place_7 (by decide) ?_
  obtain ⟨v8, e8, h⟩ := xb_ok h
  refine ro_callv (ro_runS (As := [.int p2, .int (4 : Int32)]) (rest := []) ⟨hx, hb, hml, hown, hts⟩ hP hK (c_X2_requireAnswer l D (tyG c5) (KW c5 a k) p2 (4 : Int32) v8 e8) gG_RX2_121 hd_X2_requireAnswer ⟨Nat.le_of_ble_eq_true rfl, Nat.le_of_ble_eq_true rfl⟩ ⟨rfl, rfl⟩ hl.1 (Nat.le_of_ble_eq_true rfl) dX2_place_8 ⟨Nat.zero_le _, Nat.zero_le _⟩ rfl) ?_
  refine lv_aload_n hx hb dX2_place_11 rfl (lv_at hl 0 rfl) ?_
  refine lv_iload_n hx hb dX2_place_12 rfl (lv_at hl 2 rfl) ?_
  obtain ⟨v13, e13, h⟩ := o_bind h
  refine ro_calli (ro_runV (As := [.int p1]) (rest := []) ⟨hx, hb, hml, hown, hts⟩ hP hK (c_X1_placeAt l D c5 a k hI v2 gr2 p1 v13 e13) gG_RX2_92 (va_recv hK hP (ci := 1) (q0 := (3 + v2)) rfl (KW_S c5 a k gr2)) hd_X1_placeAt ⟨Nat.le_of_ble_eq_true rfl, Nat.le_of_ble_eq_true rfl⟩ ⟨rfl, rfl⟩ hl.1 (Nat.le_of_ble_eq_true rfl) dX2_place_13 ⟨Nat.zero_le _, Nat.zero_le _⟩ rfl) ?_
  refine lv_istore (i := 4) (lv' := [(4, .int v13), (3, .ref (aS a v2)), (0, .ref (aO a 0)), (1, .int p1), (2, .int p2)]) hx hb dX2_place_16 hl (by decide) rfl (fun ls hl => ?_)
  refine lv_iload hx hb dX2_place_18 (lv_at hl 0 rfl) ?_
  refine lv_iconst (v := (-1 : Int32)) hx hb dX2_place_20 (by decide) ?_
  refine lv_icmp_ne (tgt := 26) hx hb dX2_place_21 (by decide) (fun q => ?_) (fun q => ?_)
  · have h := o_t' h q
    refine lv_iload_n hx hb dX2_place_26 rfl (lv_at hl 4 rfl) ?_
    rcases Decidable.em (p2 = 0) with c27_0 | c27_0
    · have h := o_t h c27_0
      refine lv_tableIn (off := 25) (tgt := 52) hx hb dX2_place_27 (by rw [c27_0]; decide) (by rw [c27_0]; decide) (by rw [c27_0]; rfl) (by decide) ?_
      refine lv_aload_n hx hb dX2_place_52 rfl (lv_at hl 1 rfl) ?_
      refine va_get (D := D) (ci := 1) (v := .int (kS k 2 v2)) (C := RX1) (T := TX1) (N := 8) hx hb hts iX1 hown hK hP (3 + v2) (KW_S c5 a k gr2) rfl 2 (by decide) (hts _ wT1_32) (fun _ h9 => h9) rfl dX2_place_53 ?_
      exact ro_iret hx hb hr hlocks dX2_place_56 (Except.ok.inj (Option.some.inj h))
    · have h := o_f h c27_0
      rcases Decidable.em (p2 = 1) with c27_1 | c27_1
      · have h := o_t h c27_1
        refine lv_tableIn (off := 30) (tgt := 57) hx hb dX2_place_27 (by rw [c27_1]; decide) (by rw [c27_1]; decide) (by rw [c27_1]; rfl) (by decide) ?_
        refine lv_iload hx hb dX2_place_57 (lv_at hl 0 rfl) ?_
        exact ro_iret hx hb hr hlocks dX2_place_59 (Except.ok.inj (Option.some.inj h))
      · have h := o_f h c27_1
        rcases Decidable.em (p2 = 2) with c27_2 | c27_2
        · have h := o_t h c27_2
          refine lv_tableIn (off := 33) (tgt := 60) hx hb dX2_place_27 (by rw [c27_2]; decide) (by rw [c27_2]; decide) (by rw [c27_2]; rfl) (by decide) ?_
          refine lv_aload_n hx hb dX2_place_60 rfl (lv_at hl 1 rfl) ?_
          refine lv_iload hx hb dX2_place_61 (lv_at hl 0 rfl) ?_
          obtain ⟨v63, e63, h⟩ := o_bind h
          refine ro_calli (ro_runV (As := [.int v13]) (rest := []) ⟨hx, hb, hml, hown, hts⟩ hP hK (c_X1_standsOn l D c5 a k hI v2 gr2 v13 v63 e63) gG_RX2_95 (va_recv hK hP (ci := 1) (q0 := (3 + v2)) rfl (KW_S c5 a k gr2)) hd_X1_standsOn ⟨Nat.le_of_ble_eq_true rfl, Nat.le_of_ble_eq_true rfl⟩ ⟨rfl, rfl⟩ hl.1 (Nat.le_of_ble_eq_true rfl) dX2_place_63 ⟨Nat.zero_le _, Nat.zero_le _⟩ rfl) ?_
          refine lv_if_eq (tgt := 73) hx hb dX2_place_66 (by decide) (fun q => ?_) (fun q => ?_)
          · have h := o_t h q
            refine lv_iconst (v := (0 : Int32)) hx hb dX2_place_73 (by decide) ?_
            exact ro_iret hx hb hr hlocks dX2_place_74 (Except.ok.inj (Option.some.inj h))
          · have h := o_f h q
            refine lv_iconst (v := (1 : Int32)) hx hb dX2_place_69 (by decide) ?_
            refine lv_goto (tgt := 74) hx hb dX2_place_70 (by decide) ?_
            exact ro_iret hx hb hr hlocks dX2_place_74 (Except.ok.inj (Option.some.inj h))
        · have h := o_f h c27_2
          have n27_0 := lv_neT (a := 0) c27_0 rfl
          have n27_1 := lv_neT (a := 1) c27_1 rfl
          have n27_2 := lv_neT (a := 2) c27_2 rfl
          refine lv_tableOut (tgt := 75) hx hb dX2_place_27 (by omega) (by decide) ?_
          refine lv_aload_n hx hb dX2_place_75 rfl (lv_at hl 1 rfl) ?_
          refine lv_iload hx hb dX2_place_76 (lv_at hl 0 rfl) ?_
          obtain ⟨v78, e78, h⟩ := o_bind h
          refine ro_calli (ro_runV (As := [.int v13]) (rest := []) ⟨hx, hb, hml, hown, hts⟩ hP hK (c_X1_beginOf l D c5 a k hI v2 gr2 v13 v78 e78) gG_RX2_84 (va_recv hK hP (ci := 1) (q0 := (3 + v2)) rfl (KW_S c5 a k gr2)) hd_X1_beginOf ⟨Nat.le_of_ble_eq_true rfl, Nat.le_of_ble_eq_true rfl⟩ ⟨rfl, rfl⟩ hl.1 (Nat.le_of_ble_eq_true rfl) dX2_place_78 ⟨Nat.zero_le _, Nat.zero_le _⟩ rfl) ?_
          exact ro_iret hx hb hr hlocks dX2_place_81 (Except.ok.inj (Option.some.inj h))
  · have h := o_f' h q
    refine lv_iconst (v := (-1 : Int32)) hx hb dX2_place_24 (by decide) ?_
    exact ro_iret hx hb hr hlocks dX2_place_25 (Except.ok.inj (Option.some.inj h))

set_option maxHeartbeats 4000000 in
set_option maxRecDepth 100000 in
theorem x_X2_place (l : Launch) (D : va_G) (c5 : Nat → ClassId) (a : KAd) (k : KSt) (hI : KI a) (sx : Nat → Nat) (hflags : l.flags = flags0) (p1 : Int32) (p2 : Int32) (E : String) (h : R_X2_place k p1 p2 = some (.error E)) : vx_Met l yX2_place (ws_ yX2_place cX2_place 5 (some .int)) { frames := 7, cells := 1, slots := 6, locals := 111 } (va_Pc [.ref (aO a 0), .int p1, .int p2] (erB D (tyG c5) (KW c5 a k) sx)) ErrQ (ErrX E) 1 6 (fun _ => False) := by
  refine vx_ofW (cc := cX2_place) (maxL := 5) (ret := (some .int)) (by decide) rfl ?_
  intro p e s m args below meth c s₁ B hml ht hv
  obtain ⟨rfl, hP, hK, hX⟩ := hv
  have hx := B.exec
  have hb := B.bytes
  have hr := B.returns
  have hts : ∀ w ∈ LA, w.before _ s = true := fun w hw => atoms_spec (ws := ws_ yX2_place cX2_place 5 (some .int)) B.pre w (List.mem_cons_of_mem _ hw)
  have hown : s.vm.findClass RX2 = some m.cls := findClass_of_methodNamed B.named
  have hlocks := B.notSynchronized
  have hs : va_S (fun _ => False) s.heap s.heap [] := va_S.rf
  have hl := lv_entry ([.ref (aO a 0), .int p1, .int p2] : List Value) (n := 5) (Nat.le_of_ble_eq_true rfl)
  rw [lg_entry_eq]
  generalize (lg_sl ([.ref (aO a 0), .int p1, .int p2] : List Value) ++ List.replicate (5 - (lg_sl ([.ref (aO a 0), .int p1, .int p2] : List Value)).length) Slot.unset).toArray = ls at hl ⊢
  have hl : lv_has ls 5 [(0, .ref (aO a 0)), (1, .int p1), (2, .int p2)] := hl
  unfold R_X2_place at h
  refine lv_aload_n hx hb dX2_place_0 rfl (lv_at hl 0 rfl) ?_
  refine lv_iload_n hx hb dX2_place_1 rfl (lv_at hl 1 rfl) ?_
  rcases xb_some h with ⟨v2, e2, h⟩ | ⟨x9, e2, h⟩
  · refine ro_calle1 (ro_runV (As := [.int p1]) (rest := []) ⟨hx, hb, hml, hown, hts⟩ hP hK (c_X2_shelfAt l D c5 a k hI p1 v2 e2) gG_RX2_88 (va_recv hK hP (ci := 2) (q0 := 0) rfl (KW_0 c5 a k)) hd_X2_shelfAt ⟨Nat.le_of_ble_eq_true rfl, Nat.le_of_ble_eq_true rfl⟩ ⟨rfl, rfl⟩ hl.1 (Nat.le_of_ble_eq_true rfl) dX2_place_2 ⟨Nat.zero_le _, Nat.zero_le _⟩ rfl) ?_
    obtain ⟨gr2, h⟩ := o_if h
    refine lv_astore_n (i := 3) (lv' := [(3, .ref (aS a v2)), (0, .ref (aO a 0)), (1, .int p1), (2, .int p2)]) hx hb dX2_place_5 rfl hl (by decide) rfl (fun ls hl => ?_)
    refine lv_iload_n hx hb dX2_place_6 rfl (lv_at hl 3 rfl) ?_
    refine lv_iconst (v := (4 : Int32)) hx hb dX2_place_7 (by decide) ?_
    rcases xb_some h with ⟨v8, e8, h⟩ | ⟨x9, e8, h⟩
    · refine ro_callv (ro_runS (As := [.int p2, .int (4 : Int32)]) (rest := []) ⟨hx, hb, hml, hown, hts⟩ hP hK (c_X2_requireAnswer l D (tyG c5) (KW c5 a k) p2 (4 : Int32) v8 e8) gG_RX2_121 hd_X2_requireAnswer ⟨Nat.le_of_ble_eq_true rfl, Nat.le_of_ble_eq_true rfl⟩ ⟨rfl, rfl⟩ hl.1 (Nat.le_of_ble_eq_true rfl) dX2_place_8 ⟨Nat.zero_le _, Nat.zero_le _⟩ rfl) ?_
      refine lv_aload_n hx hb dX2_place_11 rfl (lv_at hl 0 rfl) ?_
      refine lv_iload_n hx hb dX2_place_12 rfl (lv_at hl 2 rfl) ?_
      obtain ⟨v13, e13, h⟩ := o_bind h
      refine ro_calli (ro_runV (As := [.int p1]) (rest := []) ⟨hx, hb, hml, hown, hts⟩ hP hK (c_X1_placeAt l D c5 a k hI v2 gr2 p1 v13 e13) gG_RX2_92 (va_recv hK hP (ci := 1) (q0 := (3 + v2)) rfl (KW_S c5 a k gr2)) hd_X1_placeAt ⟨Nat.le_of_ble_eq_true rfl, Nat.le_of_ble_eq_true rfl⟩ ⟨rfl, rfl⟩ hl.1 (Nat.le_of_ble_eq_true rfl) dX2_place_13 ⟨Nat.zero_le _, Nat.zero_le _⟩ rfl) ?_
      refine lv_istore (i := 4) (lv' := [(4, .int v13), (3, .ref (aS a v2)), (0, .ref (aO a 0)), (1, .int p1), (2, .int p2)]) hx hb dX2_place_16 hl (by decide) rfl (fun ls hl => ?_)
      refine lv_iload hx hb dX2_place_18 (lv_at hl 0 rfl) ?_
      refine lv_iconst (v := (-1 : Int32)) hx hb dX2_place_20 (by decide) ?_
      refine lv_icmp_ne (tgt := 26) hx hb dX2_place_21 (by decide) (fun q => ?_) (fun q => ?_)
      · have h := o_t' h q
        refine lv_iload_n hx hb dX2_place_26 rfl (lv_at hl 4 rfl) ?_
        rcases Decidable.em (p2 = 0) with c27_0 | c27_0
        · have h := o_t h c27_0
          refine lv_tableIn (off := 25) (tgt := 52) hx hb dX2_place_27 (by rw [c27_0]; decide) (by rw [c27_0]; decide) (by rw [c27_0]; rfl) (by decide) ?_
          refine lv_aload_n hx hb dX2_place_52 rfl (lv_at hl 1 rfl) ?_
          refine va_get (D := D) (ci := 1) (v := .int (kS k 2 v2)) (C := RX1) (T := TX1) (N := 8) hx hb hts iX1 hown hK hP (3 + v2) (KW_S c5 a k gr2) rfl 2 (by decide) (hts _ wT1_32) (fun _ h9 => h9) rfl dX2_place_53 ?_
          cases h
        · have h := o_f h c27_0
          rcases Decidable.em (p2 = 1) with c27_1 | c27_1
          · have h := o_t h c27_1
            refine lv_tableIn (off := 30) (tgt := 57) hx hb dX2_place_27 (by rw [c27_1]; decide) (by rw [c27_1]; decide) (by rw [c27_1]; rfl) (by decide) ?_
            refine lv_iload hx hb dX2_place_57 (lv_at hl 0 rfl) ?_
            cases h
          · have h := o_f h c27_1
            rcases Decidable.em (p2 = 2) with c27_2 | c27_2
            · have h := o_t h c27_2
              refine lv_tableIn (off := 33) (tgt := 60) hx hb dX2_place_27 (by rw [c27_2]; decide) (by rw [c27_2]; decide) (by rw [c27_2]; rfl) (by decide) ?_
              refine lv_aload_n hx hb dX2_place_60 rfl (lv_at hl 1 rfl) ?_
              refine lv_iload hx hb dX2_place_61 (lv_at hl 0 rfl) ?_
              obtain ⟨v63, e63, h⟩ := o_bind h
              refine ro_calli (ro_runV (As := [.int v13]) (rest := []) ⟨hx, hb, hml, hown, hts⟩ hP hK (c_X1_standsOn l D c5 a k hI v2 gr2 v13 v63 e63) gG_RX2_95 (va_recv hK hP (ci := 1) (q0 := (3 + v2)) rfl (KW_S c5 a k gr2)) hd_X1_standsOn ⟨Nat.le_of_ble_eq_true rfl, Nat.le_of_ble_eq_true rfl⟩ ⟨rfl, rfl⟩ hl.1 (Nat.le_of_ble_eq_true rfl) dX2_place_63 ⟨Nat.zero_le _, Nat.zero_le _⟩ rfl) ?_
              refine lv_if_eq (tgt := 73) hx hb dX2_place_66 (by decide) (fun q => ?_) (fun q => ?_)
              · have h := o_t h q
                refine lv_iconst (v := (0 : Int32)) hx hb dX2_place_73 (by decide) ?_
                cases h
              · have h := o_f h q
                refine lv_iconst (v := (1 : Int32)) hx hb dX2_place_69 (by decide) ?_
                refine lv_goto (tgt := 74) hx hb dX2_place_70 (by decide) ?_
                cases h
            · have h := o_f h c27_2
              have n27_0 := lv_neT (a := 0) c27_0 rfl
              have n27_1 := lv_neT (a := 1) c27_1 rfl
              have n27_2 := lv_neT (a := 2) c27_2 rfl
              refine lv_tableOut (tgt := 75) hx hb dX2_place_27 (by omega) (by decide) ?_
              refine lv_aload_n hx hb dX2_place_75 rfl (lv_at hl 1 rfl) ?_
              refine lv_iload hx hb dX2_place_76 (lv_at hl 0 rfl) ?_
              obtain ⟨v78, e78, h⟩ := o_bind h
              refine ro_calli (ro_runV (As := [.int v13]) (rest := []) ⟨hx, hb, hml, hown, hts⟩ hP hK (c_X1_beginOf l D c5 a k hI v2 gr2 v13 v78 e78) gG_RX2_84 (va_recv hK hP (ci := 1) (q0 := (3 + v2)) rfl (KW_S c5 a k gr2)) hd_X1_beginOf ⟨Nat.le_of_ble_eq_true rfl, Nat.le_of_ble_eq_true rfl⟩ ⟨rfl, rfl⟩ hl.1 (Nat.le_of_ble_eq_true rfl) dX2_place_78 ⟨Nat.zero_le _, Nat.zero_le _⟩ rfl) ?_
              cases h
      · have h := o_f' h q
        refine lv_iconst (v := (-1 : Int32)) hx hb dX2_place_24 (by decide) ?_
        cases h
    · obtain rfl := Except.error.inj h
      exact er_call (er_runS (As := [.int p2, .int (4 : Int32)]) (rest := []) ⟨hx, hb, hml, hown, hts⟩ hP hK hX (x_X2_requireAnswer l D (tyG c5) (KW c5 a k) sx hflags p2 (4 : Int32) E e8) gG_RX2_121 hd_X2_requireAnswer ⟨Nat.le_of_ble_eq_true rfl, Nat.le_of_ble_eq_true rfl⟩ ⟨rfl, rfl⟩ hl.1 (Nat.le_of_ble_eq_true rfl) dX2_place_8 ⟨Nat.le_of_ble_eq_true rfl, Nat.le_of_ble_eq_true rfl⟩ rfl) ht hlocks
  · obtain rfl := Except.error.inj h
    exact er_call (er_runV (As := [.int p1]) (rest := []) ⟨hx, hb, hml, hown, hts⟩ hP hK hX (x_X2_shelfAt l D c5 a k hI sx hflags p1 E e2) gG_RX2_88 (va_recv hK hP (ci := 2) (q0 := 0) rfl (KW_0 c5 a k)) hd_X2_shelfAt ⟨Nat.le_of_ble_eq_true rfl, Nat.le_of_ble_eq_true rfl⟩ ⟨rfl, rfl⟩ hl.1 (Nat.le_of_ble_eq_true rfl) dX2_place_2 ⟨Nat.le_of_ble_eq_true rfl, Nat.le_of_ble_eq_true rfl⟩ rfl) ht hlocks
set_option maxHeartbeats 4000000 in
set_option maxRecDepth 100000 in
theorem c_X2_next (l : Launch) (D : va_G) (c5 : Nat → ClassId) (a : KAd) (k : KSt) (hI : KI a) (p1 : Int32) (r : Int32) (h : R_X2_next k p1 = some (.ok r)) : Met l yX2_next (ws_ yX2_next cX2_next 2 (some .int)) { frames := 5, cells := 0, slots := 0, locals := 113 } (va_Pc [.ref (aO a 0), .int p1] (roB D (tyG c5) (KW c5 a k))) (vp_Si (fun x => x = r)) 0 0 (fun _ => False) := by
  refine Met.ofW (cc := cX2_next) (maxL := 2) (ret := (some .int)) (by decide) rfl ?_
  intro p e s m args below meth c s₁ B hml hv
  obtain ⟨rfl, hP, hK⟩ := hv
  have hx := B.exec
  have hb := B.bytes
  have hr := B.returns
  have hts : ∀ w ∈ LA, w.before _ s = true := fun w hw => atoms_spec (ws := ws_ yX2_next cX2_next 2 (some .int)) B.pre w (List.mem_cons_of_mem _ hw)
  have hown : s.vm.findClass RX2 = some m.cls := findClass_of_methodNamed B.named
  have hlocks := B.notSynchronized
  have hl := lv_entry ([.ref (aO a 0), .int p1] : List Value) (n := 2) (Nat.le_of_ble_eq_true rfl)
  rw [lg_entry_eq]
  generalize (lg_sl ([.ref (aO a 0), .int p1] : List Value) ++ List.replicate (2 - (lg_sl ([.ref (aO a 0), .int p1] : List Value)).length) Slot.unset).toArray = ls at hl ⊢
  have hl : lv_has ls 2 [(0, .ref (aO a 0)), (1, .int p1)] := hl
  unfold R_X2_next at h
  refine lv_aload_n hx hb dX2_next_0 rfl (lv_at hl 0 rfl) ?_
  refine lv_aload_n hx hb dX2_next_1 rfl (lv_at hl 0 rfl) ?_
  refine lv_iload_n hx hb dX2_next_2 rfl (lv_at hl 1 rfl) ?_
  obtain ⟨v3, e3, h⟩ := xb_ok h
  refine ro_calle1 (ro_runV (As := [.int p1]) (rest := [.ref (aO a 0)]) ⟨hx, hb, hml, hown, hts⟩ hP hK (c_X2_kindOf l D c5 a k hI p1 v3 e3) gG_RX2_60 (va_recv hK hP (ci := 2) (q0 := 0) rfl (KW_0 c5 a k)) hd_X2_kindOf ⟨Nat.le_of_ble_eq_true rfl, Nat.le_of_ble_eq_true rfl⟩ ⟨rfl, rfl⟩ hl.1 (Nat.le_of_ble_eq_true rfl) dX2_next_3 ⟨Nat.zero_le _, Nat.zero_le _⟩ rfl) ?_
  obtain ⟨gr3, h⟩ := o_if h
  obtain ⟨v6, e6, h⟩ := o_bind h
  refine ro_calli (ro_runV (As := [.ref (aK a v3)]) (rest := []) ⟨hx, hb, hml, hown, hts⟩ hP hK (c_X2_nextSpot l D c5 a k hI v3 gr3 v6 e6) gG_RX2_149 (va_recv hK hP (ci := 2) (q0 := 0) rfl (KW_0 c5 a k)) hd_X2_nextSpot ⟨Nat.le_of_ble_eq_true rfl, Nat.le_of_ble_eq_true rfl⟩ ⟨rfl, rfl⟩ hl.1 (Nat.le_of_ble_eq_true rfl) dX2_next_6 ⟨Nat.zero_le _, Nat.zero_le _⟩ rfl) ?_
  exact ro_iret hx hb hr hlocks dX2_next_9 (Except.ok.inj (Option.some.inj h))

set_option maxHeartbeats 4000000 in
set_option maxRecDepth 100000 in
theorem x_X2_next (l : Launch) (D : va_G) (c5 : Nat → ClassId) (a : KAd) (k : KSt) (hI : KI a) (sx : Nat → Nat) (hflags : l.flags = flags0) (p1 : Int32) (E : String) (h : R_X2_next k p1 = some (.error E)) : vx_Met l yX2_next (ws_ yX2_next cX2_next 2 (some .int)) { frames := 7, cells := 1, slots := 6, locals := 113 } (va_Pc [.ref (aO a 0), .int p1] (erB D (tyG c5) (KW c5 a k) sx)) ErrQ (ErrX E) 1 6 (fun _ => False) := by
  refine vx_ofW (cc := cX2_next) (maxL := 2) (ret := (some .int)) (by decide) rfl ?_
  intro p e s m args below meth c s₁ B hml ht hv
  obtain ⟨rfl, hP, hK, hX⟩ := hv
  have hx := B.exec
  have hb := B.bytes
  have hr := B.returns
  have hts : ∀ w ∈ LA, w.before _ s = true := fun w hw => atoms_spec (ws := ws_ yX2_next cX2_next 2 (some .int)) B.pre w (List.mem_cons_of_mem _ hw)
  have hown : s.vm.findClass RX2 = some m.cls := findClass_of_methodNamed B.named
  have hlocks := B.notSynchronized
  have hs : va_S (fun _ => False) s.heap s.heap [] := va_S.rf
  have hl := lv_entry ([.ref (aO a 0), .int p1] : List Value) (n := 2) (Nat.le_of_ble_eq_true rfl)
  rw [lg_entry_eq]
  generalize (lg_sl ([.ref (aO a 0), .int p1] : List Value) ++ List.replicate (2 - (lg_sl ([.ref (aO a 0), .int p1] : List Value)).length) Slot.unset).toArray = ls at hl ⊢
  have hl : lv_has ls 2 [(0, .ref (aO a 0)), (1, .int p1)] := hl
  unfold R_X2_next at h
  refine lv_aload_n hx hb dX2_next_0 rfl (lv_at hl 0 rfl) ?_
  refine lv_aload_n hx hb dX2_next_1 rfl (lv_at hl 0 rfl) ?_
  refine lv_iload_n hx hb dX2_next_2 rfl (lv_at hl 1 rfl) ?_
  rcases xb_some h with ⟨v3, e3, h⟩ | ⟨x9, e3, h⟩
  · refine ro_calle1 (ro_runV (As := [.int p1]) (rest := [.ref (aO a 0)]) ⟨hx, hb, hml, hown, hts⟩ hP hK (c_X2_kindOf l D c5 a k hI p1 v3 e3) gG_RX2_60 (va_recv hK hP (ci := 2) (q0 := 0) rfl (KW_0 c5 a k)) hd_X2_kindOf ⟨Nat.le_of_ble_eq_true rfl, Nat.le_of_ble_eq_true rfl⟩ ⟨rfl, rfl⟩ hl.1 (Nat.le_of_ble_eq_true rfl) dX2_next_3 ⟨Nat.zero_le _, Nat.zero_le _⟩ rfl) ?_
    obtain ⟨gr3, h⟩ := o_if h
    obtain ⟨v6, e6, h⟩ := o_bind h
    refine ro_calli (ro_runV (As := [.ref (aK a v3)]) (rest := []) ⟨hx, hb, hml, hown, hts⟩ hP hK (c_X2_nextSpot l D c5 a k hI v3 gr3 v6 e6) gG_RX2_149 (va_recv hK hP (ci := 2) (q0 := 0) rfl (KW_0 c5 a k)) hd_X2_nextSpot ⟨Nat.le_of_ble_eq_true rfl, Nat.le_of_ble_eq_true rfl⟩ ⟨rfl, rfl⟩ hl.1 (Nat.le_of_ble_eq_true rfl) dX2_next_6 ⟨Nat.zero_le _, Nat.zero_le _⟩ rfl) ?_
    cases h
  · obtain rfl := Except.error.inj h
    exact er_call (er_runV (As := [.int p1]) (rest := [.ref (aO a 0)]) ⟨hx, hb, hml, hown, hts⟩ hP hK hX (x_X2_kindOf l D c5 a k hI sx hflags p1 E e3) gG_RX2_60 (va_recv hK hP (ci := 2) (q0 := 0) rfl (KW_0 c5 a k)) hd_X2_kindOf ⟨Nat.le_of_ble_eq_true rfl, Nat.le_of_ble_eq_true rfl⟩ ⟨rfl, rfl⟩ hl.1 (Nat.le_of_ble_eq_true rfl) dX2_next_3 ⟨Nat.le_of_ble_eq_true rfl, Nat.le_of_ble_eq_true rfl⟩ rfl) ht hlocks
set_option maxHeartbeats 4000000 in
set_option maxRecDepth 100000 in
theorem c_X2_fits (l : Launch) (D : va_G) (c5 : Nat → ClassId) (a : KAd) (k : KSt) (hI : KI a) (p1 : Int32) (r : Int32) (h : R_X2_fits k p1 = some (.ok r)) : Met l yX2_fits (ws_ yX2_fits cX2_fits 3 (some .int)) { frames := 3, cells := 0, slots := 0, locals := 68 } (va_Pc [.ref (aO a 0), .int p1] (roB D (tyG c5) (KW c5 a k))) (vp_Si (fun x => x = r)) 0 0 (fun _ => False) := by
  refine Met.ofW (cc := cX2_fits) (maxL := 3) (ret := (some .int)) (by decide) rfl ?_
  intro p e s m args below meth c s₁ B hml hv
  obtain ⟨rfl, hP, hK⟩ := hv
  have hx := B.exec
  have hb := B.bytes
  have hr := B.returns
  have hts : ∀ w ∈ LA, w.before _ s = true := fun w hw => atoms_spec (ws := ws_ yX2_fits cX2_fits 3 (some .int)) B.pre w (List.mem_cons_of_mem _ hw)
  have hown : s.vm.findClass RX2 = some m.cls := findClass_of_methodNamed B.named
  have hlocks := B.notSynchronized
  have hl := lv_entry ([.ref (aO a 0), .int p1] : List Value) (n := 3) (Nat.le_of_ble_eq_true rfl)
  rw [lg_entry_eq]
  generalize (lg_sl ([.ref (aO a 0), .int p1] : List Value) ++ List.replicate (3 - (lg_sl ([.ref (aO a 0), .int p1] : List Value)).length) Slot.unset).toArray = ls at hl ⊢
  have hl : lv_has ls 3 [(0, .ref (aO a 0)), (1, .int p1)] := hl
  unfold R_X2_fits at h
  refine lv_aload_n hx hb dX2_fits_0 rfl (lv_at hl 0 rfl) ?_
  refine lv_iload_n hx hb dX2_fits_1 rfl (lv_at hl 1 rfl) ?_
  obtain ⟨v2, e2, h⟩ := xb_ok h
  refine ro_calle1 (ro_runV (As := [.int p1]) (rest := []) ⟨hx, hb, hml, hown, hts⟩ hP hK (c_X2_kindOf l D c5 a k hI p1 v2 e2) gG_RX2_60 (va_recv hK hP (ci := 2) (q0 := 0) rfl (KW_0 c5 a k)) hd_X2_kindOf ⟨Nat.le_of_ble_eq_true rfl, Nat.le_of_ble_eq_true rfl⟩ ⟨rfl, rfl⟩ hl.1 (Nat.le_of_ble_eq_true rfl) dX2_fits_2 ⟨Nat.zero_le _, Nat.zero_le _⟩ rfl) ?_
  obtain ⟨gr2, h⟩ := o_if h
  refine lv_astore_n (i := 2) (lv' := [(2, .ref (aK a v2)), (0, .ref (aO a 0)), (1, .int p1)]) hx hb dX2_fits_5 rfl hl (by decide) rfl (fun ls hl => ?_)
  refine lv_aload_n hx hb dX2_fits_6 rfl (lv_at hl 1 rfl) ?_
  refine lv_aload_n hx hb dX2_fits_7 rfl (lv_at hl 0 rfl) ?_
  obtain ⟨v8, e8, h⟩ := o_bind h
  refine ro_calli (ro_runV (As := [.ref (aK a v2)]) (rest := []) ⟨hx, hb, hml, hown, hts⟩ hP hK (c_X2_gapsOf l D c5 a k hI v2 gr2 v8 e8) gG_RX2_153 (va_recv hK hP (ci := 2) (q0 := 0) rfl (KW_0 c5 a k)) hd_X2_gapsOf ⟨Nat.le_of_ble_eq_true rfl, Nat.le_of_ble_eq_true rfl⟩ ⟨rfl, rfl⟩ hl.1 (Nat.le_of_ble_eq_true rfl) dX2_fits_8 ⟨Nat.zero_le _, Nat.zero_le _⟩ rfl) ?_
  refine lv_aload_n hx hb dX2_fits_11 rfl (lv_at hl 1 rfl) ?_
  obtain ⟨v12, e12, h⟩ := o_bind h
  refine ro_calli (ro_runV (As := []) (rest := [.int v8]) ⟨hx, hb, hml, hown, hts⟩ hP hK (c_X2_freeShelves l D c5 a k hI  v12 e12) gG_RX2_134 (va_recv hK hP (ci := 2) (q0 := 0) rfl (KW_0 c5 a k)) hd_X2_freeShelves ⟨Nat.le_of_ble_eq_true rfl, Nat.le_of_ble_eq_true rfl⟩ ⟨rfl, rfl⟩ hl.1 (Nat.le_of_ble_eq_true rfl) dX2_fits_12 ⟨Nat.zero_le _, Nat.zero_le _⟩ rfl) ?_
  refine lv_aload_n hx hb dX2_fits_15 rfl (lv_at hl 0 rfl) ?_
  refine va_get (D := D) (ci := 0) (v := .int (kK k 2 v2)) (C := RX0) (T := TX0) (N := 6) hx hb hts iX0 hown hK hP (27 + v2) (KW_K c5 a k gr2) rfl 2 (by decide) (hts _ wT3_58) (fun _ h9 => h9) rfl dX2_fits_16 ?_
  refine lv_imul hx hb dX2_fits_19 ?_
  refine lv_iadd hx hb dX2_fits_20 ?_
  exact ro_iret hx hb hr hlocks dX2_fits_21 (Except.ok.inj (Option.some.inj h))

set_option maxHeartbeats 4000000 in
set_option maxRecDepth 100000 in
theorem x_X2_fits (l : Launch) (D : va_G) (c5 : Nat → ClassId) (a : KAd) (k : KSt) (hI : KI a) (sx : Nat → Nat) (hflags : l.flags = flags0) (p1 : Int32) (E : String) (h : R_X2_fits k p1 = some (.error E)) : vx_Met l yX2_fits (ws_ yX2_fits cX2_fits 3 (some .int)) { frames := 7, cells := 1, slots := 6, locals := 111 } (va_Pc [.ref (aO a 0), .int p1] (erB D (tyG c5) (KW c5 a k) sx)) ErrQ (ErrX E) 1 6 (fun _ => False) := by
  refine vx_ofW (cc := cX2_fits) (maxL := 3) (ret := (some .int)) (by decide) rfl ?_
  intro p e s m args below meth c s₁ B hml ht hv
  obtain ⟨rfl, hP, hK, hX⟩ := hv
  have hx := B.exec
  have hb := B.bytes
  have hr := B.returns
  have hts : ∀ w ∈ LA, w.before _ s = true := fun w hw => atoms_spec (ws := ws_ yX2_fits cX2_fits 3 (some .int)) B.pre w (List.mem_cons_of_mem _ hw)
  have hown : s.vm.findClass RX2 = some m.cls := findClass_of_methodNamed B.named
  have hlocks := B.notSynchronized
  have hs : va_S (fun _ => False) s.heap s.heap [] := va_S.rf
  have hl := lv_entry ([.ref (aO a 0), .int p1] : List Value) (n := 3) (Nat.le_of_ble_eq_true rfl)
  rw [lg_entry_eq]
  generalize (lg_sl ([.ref (aO a 0), .int p1] : List Value) ++ List.replicate (3 - (lg_sl ([.ref (aO a 0), .int p1] : List Value)).length) Slot.unset).toArray = ls at hl ⊢
  have hl : lv_has ls 3 [(0, .ref (aO a 0)), (1, .int p1)] := hl
  unfold R_X2_fits at h
  refine lv_aload_n hx hb dX2_fits_0 rfl (lv_at hl 0 rfl) ?_
  refine lv_iload_n hx hb dX2_fits_1 rfl (lv_at hl 1 rfl) ?_
  rcases xb_some h with ⟨v2, e2, h⟩ | ⟨x9, e2, h⟩
  · refine ro_calle1 (ro_runV (As := [.int p1]) (rest := []) ⟨hx, hb, hml, hown, hts⟩ hP hK (c_X2_kindOf l D c5 a k hI p1 v2 e2) gG_RX2_60 (va_recv hK hP (ci := 2) (q0 := 0) rfl (KW_0 c5 a k)) hd_X2_kindOf ⟨Nat.le_of_ble_eq_true rfl, Nat.le_of_ble_eq_true rfl⟩ ⟨rfl, rfl⟩ hl.1 (Nat.le_of_ble_eq_true rfl) dX2_fits_2 ⟨Nat.zero_le _, Nat.zero_le _⟩ rfl) ?_
    obtain ⟨gr2, h⟩ := o_if h
    refine lv_astore_n (i := 2) (lv' := [(2, .ref (aK a v2)), (0, .ref (aO a 0)), (1, .int p1)]) hx hb dX2_fits_5 rfl hl (by decide) rfl (fun ls hl => ?_)
    refine lv_aload_n hx hb dX2_fits_6 rfl (lv_at hl 1 rfl) ?_
    refine lv_aload_n hx hb dX2_fits_7 rfl (lv_at hl 0 rfl) ?_
    obtain ⟨v8, e8, h⟩ := o_bind h
    refine ro_calli (ro_runV (As := [.ref (aK a v2)]) (rest := []) ⟨hx, hb, hml, hown, hts⟩ hP hK (c_X2_gapsOf l D c5 a k hI v2 gr2 v8 e8) gG_RX2_153 (va_recv hK hP (ci := 2) (q0 := 0) rfl (KW_0 c5 a k)) hd_X2_gapsOf ⟨Nat.le_of_ble_eq_true rfl, Nat.le_of_ble_eq_true rfl⟩ ⟨rfl, rfl⟩ hl.1 (Nat.le_of_ble_eq_true rfl) dX2_fits_8 ⟨Nat.zero_le _, Nat.zero_le _⟩ rfl) ?_
    refine lv_aload_n hx hb dX2_fits_11 rfl (lv_at hl 1 rfl) ?_
    obtain ⟨v12, e12, h⟩ := o_bind h
    refine ro_calli (ro_runV (As := []) (rest := [.int v8]) ⟨hx, hb, hml, hown, hts⟩ hP hK (c_X2_freeShelves l D c5 a k hI  v12 e12) gG_RX2_134 (va_recv hK hP (ci := 2) (q0 := 0) rfl (KW_0 c5 a k)) hd_X2_freeShelves ⟨Nat.le_of_ble_eq_true rfl, Nat.le_of_ble_eq_true rfl⟩ ⟨rfl, rfl⟩ hl.1 (Nat.le_of_ble_eq_true rfl) dX2_fits_12 ⟨Nat.zero_le _, Nat.zero_le _⟩ rfl) ?_
    refine lv_aload_n hx hb dX2_fits_15 rfl (lv_at hl 0 rfl) ?_
    refine va_get (D := D) (ci := 0) (v := .int (kK k 2 v2)) (C := RX0) (T := TX0) (N := 6) hx hb hts iX0 hown hK hP (27 + v2) (KW_K c5 a k gr2) rfl 2 (by decide) (hts _ wT3_58) (fun _ h9 => h9) rfl dX2_fits_16 ?_
    refine lv_imul hx hb dX2_fits_19 ?_
    refine lv_iadd hx hb dX2_fits_20 ?_
    cases h
  · obtain rfl := Except.error.inj h
    exact er_call (er_runV (As := [.int p1]) (rest := []) ⟨hx, hb, hml, hown, hts⟩ hP hK hX (x_X2_kindOf l D c5 a k hI sx hflags p1 E e2) gG_RX2_60 (va_recv hK hP (ci := 2) (q0 := 0) rfl (KW_0 c5 a k)) hd_X2_kindOf ⟨Nat.le_of_ble_eq_true rfl, Nat.le_of_ble_eq_true rfl⟩ ⟨rfl, rfl⟩ hl.1 (Nat.le_of_ble_eq_true rfl) dX2_fits_2 ⟨Nat.le_of_ble_eq_true rfl, Nat.le_of_ble_eq_true rfl⟩ rfl) ht hlocks
set_option maxHeartbeats 4000000 in
set_option maxRecDepth 100000 in
theorem c_X2_would (l : Launch) (D : va_G) (c5 : Nat → ClassId) (a : KAd) (k : KSt) (hI : KI a) (p1 : Int32) (p2 : Int32) (r : Int32) (h : R_X2_would k p1 p2 = some (.ok r)) : Met l yX2_would (ws_ yX2_would cX2_would 6 (some .int)) { frames := 3, cells := 0, slots := 0, locals := 68 } (va_Pc [.ref (aO a 0), .int p1, .int p2] (roB D (tyG c5) (KW c5 a k))) (vp_Si (fun x => x = r)) 0 0 (fun _ => False) := by
  refine Met.ofW (cc := cX2_would) (maxL := 6) (ret := (some .int)) (by decide) rfl ?_
  intro p e s m args below meth c s₁ B hml hv
  obtain ⟨rfl, hP, hK⟩ := hv
  have hx := B.exec
  have hb := B.bytes
  have hr := B.returns
  have hts : ∀ w ∈ LA, w.before _ s = true := fun w hw => atoms_spec (ws := ws_ yX2_would cX2_would 6 (some .int)) B.pre w (List.mem_cons_of_mem _ hw)
  have hown : s.vm.findClass RX2 = some m.cls := findClass_of_methodNamed B.named
  have hlocks := B.notSynchronized
  have hl := lv_entry ([.ref (aO a 0), .int p1, .int p2] : List Value) (n := 6) (Nat.le_of_ble_eq_true rfl)
  rw [lg_entry_eq]
  generalize (lg_sl ([.ref (aO a 0), .int p1, .int p2] : List Value) ++ List.replicate (6 - (lg_sl ([.ref (aO a 0), .int p1, .int p2] : List Value)).length) Slot.unset).toArray = ls at hl ⊢
  have hl : lv_has ls 6 [(0, .ref (aO a 0)), (1, .int p1), (2, .int p2)] := hl
  unfold R_X2_would at h
  refine lv_aload_n hx hb dX2_would_0 rfl (lv_at hl 0 rfl) ?_
  refine lv_iload_n hx hb dX2_would_1 rfl (lv_at hl 1 rfl) ?_
  obtain ⟨v2, e2, h⟩ := xb_ok h
  refine ro_calle1 (ro_runV (As := [.int p1]) (rest := []) ⟨hx, hb, hml, hown, hts⟩ hP hK (c_X2_kindOf l D c5 a k hI p1 v2 e2) gG_RX2_60 (va_recv hK hP (ci := 2) (q0 := 0) rfl (KW_0 c5 a k)) hd_X2_kindOf ⟨Nat.le_of_ble_eq_true rfl, Nat.le_of_ble_eq_true rfl⟩ ⟨rfl, rfl⟩ hl.1 (Nat.le_of_ble_eq_true rfl) dX2_would_2 ⟨Nat.zero_le _, Nat.zero_le _⟩ rfl) ?_
  obtain ⟨gr2, h⟩ := o_if h
  refine lv_astore_n (i := 3) (lv' := [(3, .ref (aK a v2)), (0, .ref (aO a 0)), (1, .int p1), (2, .int p2)]) hx hb dX2_would_5 rfl hl (by decide) rfl (fun ls hl => ?_)
  refine lv_iload_n hx hb dX2_would_6 rfl (lv_at hl 3 rfl) ?_
  refine lv_iconst (v := (1 : Int32)) hx hb dX2_would_7 (by decide) ?_
  refine lv_icmp_lt (tgt := 18) hx hb dX2_would_8 (by decide) (fun q => ?_) (fun q => ?_)
  · have h := o_t h q
    cases h
  · have h := o_f h q
    refine lv_iload_n hx hb dX2_would_11 rfl (lv_at hl 3 rfl) ?_
    refine lv_sipush (v := (150 : Int32)) hx hb dX2_would_12 (by decide) ?_
    refine lv_icmp_le (tgt := 28) hx hb dX2_would_15 (by decide) (fun q => ?_) (fun q => ?_)
    · have h := o_t h q
      refine lv_iload_n hx hb dX2_would_28 rfl (lv_at hl 3 rfl) ?_
      refine lv_aload_n hx hb dX2_would_29 rfl (lv_at hl 1 rfl) ?_
      refine lv_aload_n hx hb dX2_would_30 rfl (lv_at hl 0 rfl) ?_
      obtain ⟨v31, e31, h⟩ := o_bind h
      refine ro_calli (ro_runV (As := [.ref (aK a v2)]) (rest := [.int p2]) ⟨hx, hb, hml, hown, hts⟩ hP hK (c_X2_gapsOf l D c5 a k hI v2 gr2 v31 e31) gG_RX2_153 (va_recv hK hP (ci := 2) (q0 := 0) rfl (KW_0 c5 a k)) hd_X2_gapsOf ⟨Nat.le_of_ble_eq_true rfl, Nat.le_of_ble_eq_true rfl⟩ ⟨rfl, rfl⟩ hl.1 (Nat.le_of_ble_eq_true rfl) dX2_would_31 ⟨Nat.zero_le _, Nat.zero_le _⟩ rfl) ?_
      refine lv_isub hx hb dX2_would_34 ?_
      refine lv_istore (i := 4) (lv' := [(4, .int (p2 - v31)), (3, .ref (aK a v2)), (0, .ref (aO a 0)), (1, .int p1), (2, .int p2)]) hx hb dX2_would_35 hl (by decide) rfl (fun ls hl => ?_)
      refine lv_iload hx hb dX2_would_37 (lv_at hl 0 rfl) ?_
      refine lv_if_gt (tgt := 44) hx hb dX2_would_39 (by decide) (fun q => ?_) (fun q => ?_)
      · have h := o_t h q
        refine lv_aload_n hx hb dX2_would_44 rfl (lv_at hl 1 rfl) ?_
        refine lv_iload hx hb dX2_would_45 (lv_at hl 0 rfl) ?_
        obtain ⟨v47, e47, h⟩ := o_bind h
        refine ro_calli (ro_runV (As := [.int (p2 - v31)]) (rest := []) ⟨hx, hb, hml, hown, hts⟩ hP hK (c_X0_shelvesFor l D c5 a k hI v2 gr2 (p2 - v31) v47 e47) gG_RX2_161 (va_recv hK hP (ci := 0) (q0 := (27 + v2)) rfl (KW_K c5 a k gr2)) hd_X0_shelvesFor ⟨Nat.le_of_ble_eq_true rfl, Nat.le_of_ble_eq_true rfl⟩ ⟨rfl, rfl⟩ hl.1 (Nat.le_of_ble_eq_true rfl) dX2_would_47 ⟨Nat.zero_le _, Nat.zero_le _⟩ rfl) ?_
        refine lv_istore (i := 5) (lv' := [(5, .int v47), (4, .int (p2 - v31)), (3, .ref (aK a v2)), (0, .ref (aO a 0)), (1, .int p1), (2, .int p2)]) hx hb dX2_would_50 hl (by decide) rfl (fun ls hl => ?_)
        refine lv_iload hx hb dX2_would_52 (lv_at hl 0 rfl) ?_
        refine lv_aload_n hx hb dX2_would_54 rfl (lv_at hl 3 rfl) ?_
        obtain ⟨v55, e55, h⟩ := o_bind h
        refine ro_calli (ro_runV (As := []) (rest := [.int v47]) ⟨hx, hb, hml, hown, hts⟩ hP hK (c_X2_freeShelves l D c5 a k hI  v55 e55) gG_RX2_134 (va_recv hK hP (ci := 2) (q0 := 0) rfl (KW_0 c5 a k)) hd_X2_freeShelves ⟨Nat.le_of_ble_eq_true rfl, Nat.le_of_ble_eq_true rfl⟩ ⟨rfl, rfl⟩ hl.1 (Nat.le_of_ble_eq_true rfl) dX2_would_55 ⟨Nat.zero_le _, Nat.zero_le _⟩ rfl) ?_
        refine lv_icmp_le (tgt := 65) hx hb dX2_would_58 (by decide) (fun q => ?_) (fun q => ?_)
        · have h := o_t h q
          refine lv_iload hx hb dX2_would_65 (lv_at hl 0 rfl) ?_
          exact ro_iret hx hb hr hlocks dX2_would_67 (Except.ok.inj (Option.some.inj h))
        · have h := o_f h q
          refine lv_iconst (v := (-1 : Int32)) hx hb dX2_would_61 (by decide) ?_
          refine lv_goto (tgt := 67) hx hb dX2_would_62 (by decide) ?_
          exact ro_iret hx hb hr hlocks dX2_would_67 (Except.ok.inj (Option.some.inj h))
      · have h := o_f h q
        refine lv_iconst (v := (0 : Int32)) hx hb dX2_would_42 (by decide) ?_
        exact ro_iret hx hb hr hlocks dX2_would_43 (Except.ok.inj (Option.some.inj h))
    · have h := o_f h q
      cases h

set_option maxHeartbeats 4000000 in
set_option maxRecDepth 100000 in
theorem x_X2_would (l : Launch) (D : va_G) (c5 : Nat → ClassId) (a : KAd) (k : KSt) (hI : KI a) (sx : Nat → Nat) (hflags : l.flags = flags0) (p1 : Int32) (p2 : Int32) (E : String) (h : R_X2_would k p1 p2 = some (.error E)) : vx_Met l yX2_would (ws_ yX2_would cX2_would 6 (some .int)) { frames := 7, cells := 1, slots := 6, locals := 111 } (va_Pc [.ref (aO a 0), .int p1, .int p2] (erB D (tyG c5) (KW c5 a k) sx)) ErrQ (ErrX E) 1 6 (fun _ => False) := by
  refine vx_ofW (cc := cX2_would) (maxL := 6) (ret := (some .int)) (by decide) rfl ?_
  intro p e s m args below meth c s₁ B hml ht hv
  obtain ⟨rfl, hP, hK, hX⟩ := hv
  have hx := B.exec
  have hb := B.bytes
  have hr := B.returns
  have hts : ∀ w ∈ LA, w.before _ s = true := fun w hw => atoms_spec (ws := ws_ yX2_would cX2_would 6 (some .int)) B.pre w (List.mem_cons_of_mem _ hw)
  have hown : s.vm.findClass RX2 = some m.cls := findClass_of_methodNamed B.named
  have hlocks := B.notSynchronized
  have hs : va_S (fun _ => False) s.heap s.heap [] := va_S.rf
  have hl := lv_entry ([.ref (aO a 0), .int p1, .int p2] : List Value) (n := 6) (Nat.le_of_ble_eq_true rfl)
  rw [lg_entry_eq]
  generalize (lg_sl ([.ref (aO a 0), .int p1, .int p2] : List Value) ++ List.replicate (6 - (lg_sl ([.ref (aO a 0), .int p1, .int p2] : List Value)).length) Slot.unset).toArray = ls at hl ⊢
  have hl : lv_has ls 6 [(0, .ref (aO a 0)), (1, .int p1), (2, .int p2)] := hl
  unfold R_X2_would at h
  refine lv_aload_n hx hb dX2_would_0 rfl (lv_at hl 0 rfl) ?_
  refine lv_iload_n hx hb dX2_would_1 rfl (lv_at hl 1 rfl) ?_
  rcases xb_some h with ⟨v2, e2, h⟩ | ⟨x9, e2, h⟩
  · refine ro_calle1 (ro_runV (As := [.int p1]) (rest := []) ⟨hx, hb, hml, hown, hts⟩ hP hK (c_X2_kindOf l D c5 a k hI p1 v2 e2) gG_RX2_60 (va_recv hK hP (ci := 2) (q0 := 0) rfl (KW_0 c5 a k)) hd_X2_kindOf ⟨Nat.le_of_ble_eq_true rfl, Nat.le_of_ble_eq_true rfl⟩ ⟨rfl, rfl⟩ hl.1 (Nat.le_of_ble_eq_true rfl) dX2_would_2 ⟨Nat.zero_le _, Nat.zero_le _⟩ rfl) ?_
    obtain ⟨gr2, h⟩ := o_if h
    refine lv_astore_n (i := 3) (lv' := [(3, .ref (aK a v2)), (0, .ref (aO a 0)), (1, .int p1), (2, .int p2)]) hx hb dX2_would_5 rfl hl (by decide) rfl (fun ls hl => ?_)
    refine lv_iload_n hx hb dX2_would_6 rfl (lv_at hl 3 rfl) ?_
    refine lv_iconst (v := (1 : Int32)) hx hb dX2_would_7 (by decide) ?_
    refine lv_icmp_lt (tgt := 18) hx hb dX2_would_8 (by decide) (fun q => ?_) (fun q => ?_)
    · have h := o_t h q
      obtain rfl := Except.error.inj (Option.some.inj h)
      exact err_throw (own := RX2) hx hb hflags hown hX (hts _ wT2_4) (hts _ wT1_7) (st_159 hX) (at_44 hts hX) gd_44 hs (hl.1.trans hml.symm) dX2_would_18 dX2_would_21 dX2_would_22 dX2_would_24 dX2_would_27 ht hlocks (Nat.le_of_ble_eq_true rfl) (Nat.le_of_ble_eq_true rfl) ⟨Nat.le_of_ble_eq_true rfl, Nat.le_of_ble_eq_true rfl⟩ (by decide +kernel)
    · have h := o_f h q
      refine lv_iload_n hx hb dX2_would_11 rfl (lv_at hl 3 rfl) ?_
      refine lv_sipush (v := (150 : Int32)) hx hb dX2_would_12 (by decide) ?_
      refine lv_icmp_le (tgt := 28) hx hb dX2_would_15 (by decide) (fun q => ?_) (fun q => ?_)
      · have h := o_t h q
        refine lv_iload_n hx hb dX2_would_28 rfl (lv_at hl 3 rfl) ?_
        refine lv_aload_n hx hb dX2_would_29 rfl (lv_at hl 1 rfl) ?_
        refine lv_aload_n hx hb dX2_would_30 rfl (lv_at hl 0 rfl) ?_
        obtain ⟨v31, e31, h⟩ := o_bind h
        refine ro_calli (ro_runV (As := [.ref (aK a v2)]) (rest := [.int p2]) ⟨hx, hb, hml, hown, hts⟩ hP hK (c_X2_gapsOf l D c5 a k hI v2 gr2 v31 e31) gG_RX2_153 (va_recv hK hP (ci := 2) (q0 := 0) rfl (KW_0 c5 a k)) hd_X2_gapsOf ⟨Nat.le_of_ble_eq_true rfl, Nat.le_of_ble_eq_true rfl⟩ ⟨rfl, rfl⟩ hl.1 (Nat.le_of_ble_eq_true rfl) dX2_would_31 ⟨Nat.zero_le _, Nat.zero_le _⟩ rfl) ?_
        refine lv_isub hx hb dX2_would_34 ?_
        refine lv_istore (i := 4) (lv' := [(4, .int (p2 - v31)), (3, .ref (aK a v2)), (0, .ref (aO a 0)), (1, .int p1), (2, .int p2)]) hx hb dX2_would_35 hl (by decide) rfl (fun ls hl => ?_)
        refine lv_iload hx hb dX2_would_37 (lv_at hl 0 rfl) ?_
        refine lv_if_gt (tgt := 44) hx hb dX2_would_39 (by decide) (fun q => ?_) (fun q => ?_)
        · have h := o_t h q
          refine lv_aload_n hx hb dX2_would_44 rfl (lv_at hl 1 rfl) ?_
          refine lv_iload hx hb dX2_would_45 (lv_at hl 0 rfl) ?_
          obtain ⟨v47, e47, h⟩ := o_bind h
          refine ro_calli (ro_runV (As := [.int (p2 - v31)]) (rest := []) ⟨hx, hb, hml, hown, hts⟩ hP hK (c_X0_shelvesFor l D c5 a k hI v2 gr2 (p2 - v31) v47 e47) gG_RX2_161 (va_recv hK hP (ci := 0) (q0 := (27 + v2)) rfl (KW_K c5 a k gr2)) hd_X0_shelvesFor ⟨Nat.le_of_ble_eq_true rfl, Nat.le_of_ble_eq_true rfl⟩ ⟨rfl, rfl⟩ hl.1 (Nat.le_of_ble_eq_true rfl) dX2_would_47 ⟨Nat.zero_le _, Nat.zero_le _⟩ rfl) ?_
          refine lv_istore (i := 5) (lv' := [(5, .int v47), (4, .int (p2 - v31)), (3, .ref (aK a v2)), (0, .ref (aO a 0)), (1, .int p1), (2, .int p2)]) hx hb dX2_would_50 hl (by decide) rfl (fun ls hl => ?_)
          refine lv_iload hx hb dX2_would_52 (lv_at hl 0 rfl) ?_
          refine lv_aload_n hx hb dX2_would_54 rfl (lv_at hl 3 rfl) ?_
          obtain ⟨v55, e55, h⟩ := o_bind h
          refine ro_calli (ro_runV (As := []) (rest := [.int v47]) ⟨hx, hb, hml, hown, hts⟩ hP hK (c_X2_freeShelves l D c5 a k hI  v55 e55) gG_RX2_134 (va_recv hK hP (ci := 2) (q0 := 0) rfl (KW_0 c5 a k)) hd_X2_freeShelves ⟨Nat.le_of_ble_eq_true rfl, Nat.le_of_ble_eq_true rfl⟩ ⟨rfl, rfl⟩ hl.1 (Nat.le_of_ble_eq_true rfl) dX2_would_55 ⟨Nat.zero_le _, Nat.zero_le _⟩ rfl) ?_
          refine lv_icmp_le (tgt := 65) hx hb dX2_would_58 (by decide) (fun q => ?_) (fun q => ?_)
          · have h := o_t h q
            refine lv_iload hx hb dX2_would_65 (lv_at hl 0 rfl) ?_
            cases h
          · have h := o_f h q
            refine lv_iconst (v := (-1 : Int32)) hx hb dX2_would_61 (by decide) ?_
            refine lv_goto (tgt := 67) hx hb dX2_would_62 (by decide) ?_
            cases h
        · have h := o_f h q
          refine lv_iconst (v := (0 : Int32)) hx hb dX2_would_42 (by decide) ?_
          cases h
      · have h := o_f h q
        obtain rfl := Except.error.inj (Option.some.inj h)
        exact err_throw (own := RX2) hx hb hflags hown hX (hts _ wT2_4) (hts _ wT1_7) (st_159 hX) (at_44 hts hX) gd_44 hs (hl.1.trans hml.symm) dX2_would_18 dX2_would_21 dX2_would_22 dX2_would_24 dX2_would_27 ht hlocks (Nat.le_of_ble_eq_true rfl) (Nat.le_of_ble_eq_true rfl) ⟨Nat.le_of_ble_eq_true rfl, Nat.le_of_ble_eq_true rfl⟩ (by decide +kernel)
  · obtain rfl := Except.error.inj h
    exact er_call (er_runV (As := [.int p1]) (rest := []) ⟨hx, hb, hml, hown, hts⟩ hP hK hX (x_X2_kindOf l D c5 a k hI sx hflags p1 E e2) gG_RX2_60 (va_recv hK hP (ci := 2) (q0 := 0) rfl (KW_0 c5 a k)) hd_X2_kindOf ⟨Nat.le_of_ble_eq_true rfl, Nat.le_of_ble_eq_true rfl⟩ ⟨rfl, rfl⟩ hl.1 (Nat.le_of_ble_eq_true rfl) dX2_would_2 ⟨Nat.le_of_ble_eq_true rfl, Nat.le_of_ble_eq_true rfl⟩ rfl) ht hlocks
set_option maxHeartbeats 4000000 in
set_option maxRecDepth 100000 in
theorem c_X2_gains (l : Launch) (D : va_G) (c5 : Nat → ClassId) (a : KAd) (k : KSt) (hI : KI a) (p1 : Int32) (r : Int32) (h : R_X2_gains k p1 = some (.ok r)) : Met l yX2_gains (ws_ yX2_gains cX2_gains 2 (some .int)) { frames := 2, cells := 0, slots := 0, locals := 48 } (va_Pc [.ref (aO a 0), .int p1] (roB D (tyG c5) (KW c5 a k))) (vp_Si (fun x => x = r)) 0 0 (fun _ => False) := by
  refine Met.ofW (cc := cX2_gains) (maxL := 2) (ret := (some .int)) (by decide) rfl ?_
  intro p e s m args below meth c s₁ B hml hv
  obtain ⟨rfl, hP, hK⟩ := hv
  have hx := B.exec
  have hb := B.bytes
  have hr := B.returns
  have hts : ∀ w ∈ LA, w.before _ s = true := fun w hw => atoms_spec (ws := ws_ yX2_gains cX2_gains 2 (some .int)) B.pre w (List.mem_cons_of_mem _ hw)
  have hown : s.vm.findClass RX2 = some m.cls := findClass_of_methodNamed B.named
  have hlocks := B.notSynchronized
  have hl := lv_entry ([.ref (aO a 0), .int p1] : List Value) (n := 2) (Nat.le_of_ble_eq_true rfl)
  rw [lg_entry_eq]
  generalize (lg_sl ([.ref (aO a 0), .int p1] : List Value) ++ List.replicate (2 - (lg_sl ([.ref (aO a 0), .int p1] : List Value)).length) Slot.unset).toArray = ls at hl ⊢
  have hl : lv_has ls 2 [(0, .ref (aO a 0)), (1, .int p1)] := hl
  unfold R_X2_gains at h
  refine lv_aload_n hx hb dX2_gains_0 rfl (lv_at hl 0 rfl) ?_
  refine lv_aload_n hx hb dX2_gains_1 rfl (lv_at hl 0 rfl) ?_
  refine lv_iload_n hx hb dX2_gains_2 rfl (lv_at hl 1 rfl) ?_
  obtain ⟨v3, e3, h⟩ := xb_ok h
  refine ro_calle1 (ro_runV (As := [.int p1]) (rest := [.ref (aO a 0)]) ⟨hx, hb, hml, hown, hts⟩ hP hK (c_X2_kindOf l D c5 a k hI p1 v3 e3) gG_RX2_60 (va_recv hK hP (ci := 2) (q0 := 0) rfl (KW_0 c5 a k)) hd_X2_kindOf ⟨Nat.le_of_ble_eq_true rfl, Nat.le_of_ble_eq_true rfl⟩ ⟨rfl, rfl⟩ hl.1 (Nat.le_of_ble_eq_true rfl) dX2_gains_3 ⟨Nat.zero_le _, Nat.zero_le _⟩ rfl) ?_
  obtain ⟨gr3, h⟩ := o_if h
  obtain ⟨v6, e6, h⟩ := o_bind h
  refine ro_calli (ro_runV (As := [.ref (aK a v3)]) (rest := []) ⟨hx, hb, hml, hown, hts⟩ hP hK (c_X2_gainsOf l D c5 a k hI v3 gr3 v6 e6) gG_RX2_164 (va_recv hK hP (ci := 2) (q0 := 0) rfl (KW_0 c5 a k)) hd_X2_gainsOf ⟨Nat.le_of_ble_eq_true rfl, Nat.le_of_ble_eq_true rfl⟩ ⟨rfl, rfl⟩ hl.1 (Nat.le_of_ble_eq_true rfl) dX2_gains_6 ⟨Nat.zero_le _, Nat.zero_le _⟩ rfl) ?_
  exact ro_iret hx hb hr hlocks dX2_gains_9 (Except.ok.inj (Option.some.inj h))

set_option maxHeartbeats 4000000 in
set_option maxRecDepth 100000 in
theorem x_X2_gains (l : Launch) (D : va_G) (c5 : Nat → ClassId) (a : KAd) (k : KSt) (hI : KI a) (sx : Nat → Nat) (hflags : l.flags = flags0) (p1 : Int32) (E : String) (h : R_X2_gains k p1 = some (.error E)) : vx_Met l yX2_gains (ws_ yX2_gains cX2_gains 2 (some .int)) { frames := 7, cells := 1, slots := 6, locals := 111 } (va_Pc [.ref (aO a 0), .int p1] (erB D (tyG c5) (KW c5 a k) sx)) ErrQ (ErrX E) 1 6 (fun _ => False) := by
  refine vx_ofW (cc := cX2_gains) (maxL := 2) (ret := (some .int)) (by decide) rfl ?_
  intro p e s m args below meth c s₁ B hml ht hv
  obtain ⟨rfl, hP, hK, hX⟩ := hv
  have hx := B.exec
  have hb := B.bytes
  have hr := B.returns
  have hts : ∀ w ∈ LA, w.before _ s = true := fun w hw => atoms_spec (ws := ws_ yX2_gains cX2_gains 2 (some .int)) B.pre w (List.mem_cons_of_mem _ hw)
  have hown : s.vm.findClass RX2 = some m.cls := findClass_of_methodNamed B.named
  have hlocks := B.notSynchronized
  have hs : va_S (fun _ => False) s.heap s.heap [] := va_S.rf
  have hl := lv_entry ([.ref (aO a 0), .int p1] : List Value) (n := 2) (Nat.le_of_ble_eq_true rfl)
  rw [lg_entry_eq]
  generalize (lg_sl ([.ref (aO a 0), .int p1] : List Value) ++ List.replicate (2 - (lg_sl ([.ref (aO a 0), .int p1] : List Value)).length) Slot.unset).toArray = ls at hl ⊢
  have hl : lv_has ls 2 [(0, .ref (aO a 0)), (1, .int p1)] := hl
  unfold R_X2_gains at h
  refine lv_aload_n hx hb dX2_gains_0 rfl (lv_at hl 0 rfl) ?_
  refine lv_aload_n hx hb dX2_gains_1 rfl (lv_at hl 0 rfl) ?_
  refine lv_iload_n hx hb dX2_gains_2 rfl (lv_at hl 1 rfl) ?_
  rcases xb_some h with ⟨v3, e3, h⟩ | ⟨x9, e3, h⟩
  · refine ro_calle1 (ro_runV (As := [.int p1]) (rest := [.ref (aO a 0)]) ⟨hx, hb, hml, hown, hts⟩ hP hK (c_X2_kindOf l D c5 a k hI p1 v3 e3) gG_RX2_60 (va_recv hK hP (ci := 2) (q0 := 0) rfl (KW_0 c5 a k)) hd_X2_kindOf ⟨Nat.le_of_ble_eq_true rfl, Nat.le_of_ble_eq_true rfl⟩ ⟨rfl, rfl⟩ hl.1 (Nat.le_of_ble_eq_true rfl) dX2_gains_3 ⟨Nat.zero_le _, Nat.zero_le _⟩ rfl) ?_
    obtain ⟨gr3, h⟩ := o_if h
    obtain ⟨v6, e6, h⟩ := o_bind h
    refine ro_calli (ro_runV (As := [.ref (aK a v3)]) (rest := []) ⟨hx, hb, hml, hown, hts⟩ hP hK (c_X2_gainsOf l D c5 a k hI v3 gr3 v6 e6) gG_RX2_164 (va_recv hK hP (ci := 2) (q0 := 0) rfl (KW_0 c5 a k)) hd_X2_gainsOf ⟨Nat.le_of_ble_eq_true rfl, Nat.le_of_ble_eq_true rfl⟩ ⟨rfl, rfl⟩ hl.1 (Nat.le_of_ble_eq_true rfl) dX2_gains_6 ⟨Nat.zero_le _, Nat.zero_le _⟩ rfl) ?_
    cases h
  · obtain rfl := Except.error.inj h
    exact er_call (er_runV (As := [.int p1]) (rest := [.ref (aO a 0)]) ⟨hx, hb, hml, hown, hts⟩ hP hK hX (x_X2_kindOf l D c5 a k hI sx hflags p1 E e3) gG_RX2_60 (va_recv hK hP (ci := 2) (q0 := 0) rfl (KW_0 c5 a k)) hd_X2_kindOf ⟨Nat.le_of_ble_eq_true rfl, Nat.le_of_ble_eq_true rfl⟩ ⟨rfl, rfl⟩ hl.1 (Nat.le_of_ble_eq_true rfl) dX2_gains_3 ⟨Nat.le_of_ble_eq_true rfl, Nat.le_of_ble_eq_true rfl⟩ rfl) ht hlocks
set_option maxHeartbeats 4000000 in
set_option maxRecDepth 100000 in
theorem c_X2_count (l : Launch) (D : va_G) (c5 : Nat → ClassId) (a : KAd) (k : KSt) (hI : KI a) (p1 : Int32) (r : Int32) (h : R_X2_count k p1 = some (.ok r)) : Met l yX2_count (ws_ yX2_count cX2_count 2 (some .int)) { frames := 3, cells := 0, slots := 0, locals := 65 } (va_Pc [.ref (aO a 0), .int p1] (roB D (tyG c5) (KW c5 a k))) (vp_Si (fun x => x = r)) 0 0 (fun _ => False) := by
  refine Met.ofW (cc := cX2_count) (maxL := 2) (ret := (some .int)) (by decide) rfl ?_
  intro p e s m args below meth c s₁ B hml hv
  obtain ⟨rfl, hP, hK⟩ := hv
  have hx := B.exec
  have hb := B.bytes
  have hr := B.returns
  have hts : ∀ w ∈ LA, w.before _ s = true := fun w hw => atoms_spec (ws := ws_ yX2_count cX2_count 2 (some .int)) B.pre w (List.mem_cons_of_mem _ hw)
  have hown : s.vm.findClass RX2 = some m.cls := findClass_of_methodNamed B.named
  have hlocks := B.notSynchronized
  have hl := lv_entry ([.ref (aO a 0), .int p1] : List Value) (n := 2) (Nat.le_of_ble_eq_true rfl)
  rw [lg_entry_eq]
  generalize (lg_sl ([.ref (aO a 0), .int p1] : List Value) ++ List.replicate (2 - (lg_sl ([.ref (aO a 0), .int p1] : List Value)).length) Slot.unset).toArray = ls at hl ⊢
  have hl : lv_has ls 2 [(0, .ref (aO a 0)), (1, .int p1)] := hl
  unfold R_X2_count at h
  refine lv_iload_n hx hb dX2_count_0 rfl (lv_at hl 1 rfl) ?_
  refine lv_bipush (v := (10 : Int32)) hx hb dX2_count_1 (by decide) ?_
  obtain ⟨v3, e3, h⟩ := xb_ok h
  refine ro_callv (ro_runS (As := [.int p1, .int (10 : Int32)]) (rest := []) ⟨hx, hb, hml, hown, hts⟩ hP hK (c_X2_requireAnswer l D (tyG c5) (KW c5 a k) p1 (10 : Int32) v3 e3) gG_RX2_121 hd_X2_requireAnswer ⟨Nat.le_of_ble_eq_true rfl, Nat.le_of_ble_eq_true rfl⟩ ⟨rfl, rfl⟩ hl.1 (Nat.le_of_ble_eq_true rfl) dX2_count_3 ⟨Nat.zero_le _, Nat.zero_le _⟩ rfl) ?_
  refine lv_iload_n hx hb dX2_count_6 rfl (lv_at hl 1 rfl) ?_
  rcases Decidable.em (p1 = 0) with c7_0 | c7_0
  · have h := o_t h c7_0
    refine lv_tableIn (off := 49) (tgt := 56) hx hb dX2_count_7 (by rw [c7_0]; decide) (by rw [c7_0]; decide) (by rw [c7_0]; rfl) (by decide) ?_
    refine lv_aload_n hx hb dX2_count_56 rfl (lv_at hl 0 rfl) ?_
    refine va_get (D := D) (ci := 2) (v := .int (kG k 2)) (C := RX2) (T := TX2) (N := 7) hx hb hts iX2 hown hK hP 0 (KW_0 c5 a k) rfl 4 (by decide) (hts _ wT1_64) (fun _ h9 => h9) rfl dX2_count_57 ?_
    exact ro_iret hx hb hr hlocks dX2_count_60 (Except.ok.inj (Option.some.inj h))
  · have h := o_f h c7_0
    rcases Decidable.em (p1 = 1) with c7_1 | c7_1
    · have h := o_t h c7_1
      refine lv_tableIn (off := 54) (tgt := 61) hx hb dX2_count_7 (by rw [c7_1]; decide) (by rw [c7_1]; decide) (by rw [c7_1]; rfl) (by decide) ?_
      refine lv_aload_n hx hb dX2_count_61 rfl (lv_at hl 0 rfl) ?_
      refine va_get (D := D) (ci := 2) (v := .int (kG k 0)) (C := RX2) (T := TX2) (N := 7) hx hb hts iX2 hown hK hP 0 (KW_0 c5 a k) rfl 2 (by decide) (hts _ wT1_62) (fun _ h9 => h9) rfl dX2_count_62 ?_
      exact ro_iret hx hb hr hlocks dX2_count_65 (Except.ok.inj (Option.some.inj h))
    · have h := o_f h c7_1
      rcases Decidable.em (p1 = 2) with c7_2 | c7_2
      · have h := o_t h c7_2
        refine lv_tableIn (off := 59) (tgt := 66) hx hb dX2_count_7 (by rw [c7_2]; decide) (by rw [c7_2]; decide) (by rw [c7_2]; rfl) (by decide) ?_
        refine lv_aload_n hx hb dX2_count_66 rfl (lv_at hl 0 rfl) ?_
        obtain ⟨v67, e67, h⟩ := o_bind h
        refine ro_calli (ro_runV (As := []) (rest := []) ⟨hx, hb, hml, hown, hts⟩ hP hK (c_X2_freeShelves l D c5 a k hI  v67 e67) gG_RX2_134 (va_recv hK hP (ci := 2) (q0 := 0) rfl (KW_0 c5 a k)) hd_X2_freeShelves ⟨Nat.le_of_ble_eq_true rfl, Nat.le_of_ble_eq_true rfl⟩ ⟨rfl, rfl⟩ hl.1 (Nat.le_of_ble_eq_true rfl) dX2_count_67 ⟨Nat.zero_le _, Nat.zero_le _⟩ rfl) ?_
        exact ro_iret hx hb hr hlocks dX2_count_70 (Except.ok.inj (Option.some.inj h))
      · have h := o_f h c7_2
        rcases Decidable.em (p1 = 3) with c7_3 | c7_3
        · have h := o_t h c7_3
          refine lv_tableIn (off := 64) (tgt := 71) hx hb dX2_count_7 (by rw [c7_3]; decide) (by rw [c7_3]; decide) (by rw [c7_3]; rfl) (by decide) ?_
          refine lv_aload_n hx hb dX2_count_71 rfl (lv_at hl 0 rfl) ?_
          obtain ⟨v72, e72, h⟩ := o_bind h
          refine ro_calli (ro_runV (As := []) (rest := []) ⟨hx, hb, hml, hown, hts⟩ hP hK (c_X2_bowlsInAll l D c5 a k hI  v72 e72) gG_RX2_137 (va_recv hK hP (ci := 2) (q0 := 0) rfl (KW_0 c5 a k)) hd_X2_bowlsInAll ⟨Nat.le_of_ble_eq_true rfl, Nat.le_of_ble_eq_true rfl⟩ ⟨rfl, rfl⟩ hl.1 (Nat.le_of_ble_eq_true rfl) dX2_count_72 ⟨Nat.zero_le _, Nat.zero_le _⟩ rfl) ?_
          exact ro_iret hx hb hr hlocks dX2_count_75 (Except.ok.inj (Option.some.inj h))
        · have h := o_f h c7_3
          rcases Decidable.em (p1 = 4) with c7_4 | c7_4
          · have h := o_t h c7_4
            refine lv_tableIn (off := 69) (tgt := 76) hx hb dX2_count_7 (by rw [c7_4]; decide) (by rw [c7_4]; decide) (by rw [c7_4]; rfl) (by decide) ?_
            refine lv_aload_n hx hb dX2_count_76 rfl (lv_at hl 0 rfl) ?_
            obtain ⟨v77, e77, h⟩ := o_bind h
            refine ro_calli (ro_runV (As := []) (rest := []) ⟨hx, hb, hml, hown, hts⟩ hP hK (c_X2_spansUnderBowls l D c5 a k hI  v77 e77) gG_RX2_140 (va_recv hK hP (ci := 2) (q0 := 0) rfl (KW_0 c5 a k)) hd_X2_spansUnderBowls ⟨Nat.le_of_ble_eq_true rfl, Nat.le_of_ble_eq_true rfl⟩ ⟨rfl, rfl⟩ hl.1 (Nat.le_of_ble_eq_true rfl) dX2_count_77 ⟨Nat.zero_le _, Nat.zero_le _⟩ rfl) ?_
            exact ro_iret hx hb hr hlocks dX2_count_80 (Except.ok.inj (Option.some.inj h))
          · have h := o_f h c7_4
            rcases Decidable.em (p1 = 5) with c7_5 | c7_5
            · have h := o_t h c7_5
              refine lv_tableIn (off := 74) (tgt := 81) hx hb dX2_count_7 (by rw [c7_5]; decide) (by rw [c7_5]; decide) (by rw [c7_5]; rfl) (by decide) ?_
              refine lv_aload_n hx hb dX2_count_81 rfl (lv_at hl 0 rfl) ?_
              obtain ⟨v82, e82, h⟩ := o_bind h
              refine ro_calli (ro_runV (As := []) (rest := []) ⟨hx, hb, hml, hown, hts⟩ hP hK (c_X2_takenShelves l D c5 a k hI  v82 e82) gG_RX2_143 (va_recv hK hP (ci := 2) (q0 := 0) rfl (KW_0 c5 a k)) hd_X2_takenShelves ⟨Nat.le_of_ble_eq_true rfl, Nat.le_of_ble_eq_true rfl⟩ ⟨rfl, rfl⟩ hl.1 (Nat.le_of_ble_eq_true rfl) dX2_count_82 ⟨Nat.zero_le _, Nat.zero_le _⟩ rfl) ?_
              refine lv_bipush (v := (24 : Int32)) hx hb dX2_count_85 (by decide) ?_
              refine lv_imul hx hb dX2_count_87 ?_
              refine lv_aload_n hx hb dX2_count_88 rfl (lv_at hl 0 rfl) ?_
              obtain ⟨v89, e89, h⟩ := o_bind h
              refine ro_calli (ro_runV (As := []) (rest := [.int (v82 * (24 : Int32))]) ⟨hx, hb, hml, hown, hts⟩ hP hK (c_X2_spansUnderBowls l D c5 a k hI  v89 e89) gG_RX2_140 (va_recv hK hP (ci := 2) (q0 := 0) rfl (KW_0 c5 a k)) hd_X2_spansUnderBowls ⟨Nat.le_of_ble_eq_true rfl, Nat.le_of_ble_eq_true rfl⟩ ⟨rfl, rfl⟩ hl.1 (Nat.le_of_ble_eq_true rfl) dX2_count_89 ⟨Nat.zero_le _, Nat.zero_le _⟩ rfl) ?_
              refine lv_isub hx hb dX2_count_92 ?_
              exact ro_iret hx hb hr hlocks dX2_count_93 (Except.ok.inj (Option.some.inj h))
            · have h := o_f h c7_5
              rcases Decidable.em (p1 = 6) with c7_6 | c7_6
              · have h := o_t h c7_6
                refine lv_tableIn (off := 87) (tgt := 94) hx hb dX2_count_7 (by rw [c7_6]; decide) (by rw [c7_6]; decide) (by rw [c7_6]; rfl) (by decide) ?_
                refine lv_aload_n hx hb dX2_count_94 rfl (lv_at hl 0 rfl) ?_
                obtain ⟨v95, e95, h⟩ := o_bind h
                refine ro_calli (ro_runV (As := []) (rest := []) ⟨hx, hb, hml, hown, hts⟩ hP hK (c_X2_spansOfNoPlace l D c5 a k hI  v95 e95) gG_RX2_146 (va_recv hK hP (ci := 2) (q0 := 0) rfl (KW_0 c5 a k)) hd_X2_spansOfNoPlace ⟨Nat.le_of_ble_eq_true rfl, Nat.le_of_ble_eq_true rfl⟩ ⟨rfl, rfl⟩ hl.1 (Nat.le_of_ble_eq_true rfl) dX2_count_95 ⟨Nat.zero_le _, Nat.zero_le _⟩ rfl) ?_
                exact ro_iret hx hb hr hlocks dX2_count_98 (Except.ok.inj (Option.some.inj h))
              · have h := o_f h c7_6
                rcases Decidable.em (p1 = 7) with c7_7 | c7_7
                · have h := o_t h c7_7
                  refine lv_tableIn (off := 92) (tgt := 99) hx hb dX2_count_7 (by rw [c7_7]; decide) (by rw [c7_7]; decide) (by rw [c7_7]; rfl) (by decide) ?_
                  refine lv_aload_n hx hb dX2_count_99 rfl (lv_at hl 0 rfl) ?_
                  refine va_get (D := D) (ci := 2) (v := .int (kG k 3)) (C := RX2) (T := TX2) (N := 7) hx hb hts iX2 hown hK hP 0 (KW_0 c5 a k) rfl 5 (by decide) (hts _ wT1_65) (fun _ h9 => h9) rfl dX2_count_100 ?_
                  exact ro_iret hx hb hr hlocks dX2_count_103 (Except.ok.inj (Option.some.inj h))
                · have h := o_f h c7_7
                  rcases Decidable.em (p1 = 8) with c7_8 | c7_8
                  · have h := o_t h c7_8
                    refine lv_tableIn (off := 97) (tgt := 104) hx hb dX2_count_7 (by rw [c7_8]; decide) (by rw [c7_8]; decide) (by rw [c7_8]; rfl) (by decide) ?_
                    refine lv_aload_n hx hb dX2_count_104 rfl (lv_at hl 0 rfl) ?_
                    refine va_get (D := D) (ci := 2) (v := .int (kG k 4)) (C := RX2) (T := TX2) (N := 7) hx hb hts iX2 hown hK hP 0 (KW_0 c5 a k) rfl 6 (by decide) (hts _ wT1_66) (fun _ h9 => h9) rfl dX2_count_105 ?_
                    exact ro_iret hx hb hr hlocks dX2_count_108 (Except.ok.inj (Option.some.inj h))
                  · have h := o_f h c7_8
                    have n7_0 := lv_neT (a := 0) c7_0 rfl
                    have n7_1 := lv_neT (a := 1) c7_1 rfl
                    have n7_2 := lv_neT (a := 2) c7_2 rfl
                    have n7_3 := lv_neT (a := 3) c7_3 rfl
                    have n7_4 := lv_neT (a := 4) c7_4 rfl
                    have n7_5 := lv_neT (a := 5) c7_5 rfl
                    have n7_6 := lv_neT (a := 6) c7_6 rfl
                    have n7_7 := lv_neT (a := 7) c7_7 rfl
                    have n7_8 := lv_neT (a := 8) c7_8 rfl
                    refine lv_tableOut (tgt := 109) hx hb dX2_count_7 (by omega) (by decide) ?_
                    refine lv_aload_n hx hb dX2_count_109 rfl (lv_at hl 0 rfl) ?_
                    refine va_get (D := D) (ci := 2) (v := .int (kG k 1)) (C := RX2) (T := TX2) (N := 7) hx hb hts iX2 hown hK hP 0 (KW_0 c5 a k) rfl 3 (by decide) (hts _ wT1_63) (fun _ h9 => h9) rfl dX2_count_110 ?_
                    exact ro_iret hx hb hr hlocks dX2_count_113 (Except.ok.inj (Option.some.inj h))

set_option maxHeartbeats 4000000 in
set_option maxRecDepth 100000 in
theorem x_X2_count (l : Launch) (D : va_G) (c5 : Nat → ClassId) (a : KAd) (k : KSt) (hI : KI a) (sx : Nat → Nat) (hflags : l.flags = flags0) (p1 : Int32) (E : String) (h : R_X2_count k p1 = some (.error E)) : vx_Met l yX2_count (ws_ yX2_count cX2_count 2 (some .int)) { frames := 7, cells := 1, slots := 6, locals := 111 } (va_Pc [.ref (aO a 0), .int p1] (erB D (tyG c5) (KW c5 a k) sx)) ErrQ (ErrX E) 1 6 (fun _ => False) := by
  refine vx_ofW (cc := cX2_count) (maxL := 2) (ret := (some .int)) (by decide) rfl ?_
  intro p e s m args below meth c s₁ B hml ht hv
  obtain ⟨rfl, hP, hK, hX⟩ := hv
  have hx := B.exec
  have hb := B.bytes
  have hr := B.returns
  have hts : ∀ w ∈ LA, w.before _ s = true := fun w hw => atoms_spec (ws := ws_ yX2_count cX2_count 2 (some .int)) B.pre w (List.mem_cons_of_mem _ hw)
  have hown : s.vm.findClass RX2 = some m.cls := findClass_of_methodNamed B.named
  have hlocks := B.notSynchronized
  have hs : va_S (fun _ => False) s.heap s.heap [] := va_S.rf
  have hl := lv_entry ([.ref (aO a 0), .int p1] : List Value) (n := 2) (Nat.le_of_ble_eq_true rfl)
  rw [lg_entry_eq]
  generalize (lg_sl ([.ref (aO a 0), .int p1] : List Value) ++ List.replicate (2 - (lg_sl ([.ref (aO a 0), .int p1] : List Value)).length) Slot.unset).toArray = ls at hl ⊢
  have hl : lv_has ls 2 [(0, .ref (aO a 0)), (1, .int p1)] := hl
  unfold R_X2_count at h
  refine lv_iload_n hx hb dX2_count_0 rfl (lv_at hl 1 rfl) ?_
  refine lv_bipush (v := (10 : Int32)) hx hb dX2_count_1 (by decide) ?_
  rcases xb_some h with ⟨v3, e3, h⟩ | ⟨x9, e3, h⟩
  · refine ro_callv (ro_runS (As := [.int p1, .int (10 : Int32)]) (rest := []) ⟨hx, hb, hml, hown, hts⟩ hP hK (c_X2_requireAnswer l D (tyG c5) (KW c5 a k) p1 (10 : Int32) v3 e3) gG_RX2_121 hd_X2_requireAnswer ⟨Nat.le_of_ble_eq_true rfl, Nat.le_of_ble_eq_true rfl⟩ ⟨rfl, rfl⟩ hl.1 (Nat.le_of_ble_eq_true rfl) dX2_count_3 ⟨Nat.zero_le _, Nat.zero_le _⟩ rfl) ?_
    refine lv_iload_n hx hb dX2_count_6 rfl (lv_at hl 1 rfl) ?_
    rcases Decidable.em (p1 = 0) with c7_0 | c7_0
    · have h := o_t h c7_0
      refine lv_tableIn (off := 49) (tgt := 56) hx hb dX2_count_7 (by rw [c7_0]; decide) (by rw [c7_0]; decide) (by rw [c7_0]; rfl) (by decide) ?_
      refine lv_aload_n hx hb dX2_count_56 rfl (lv_at hl 0 rfl) ?_
      refine va_get (D := D) (ci := 2) (v := .int (kG k 2)) (C := RX2) (T := TX2) (N := 7) hx hb hts iX2 hown hK hP 0 (KW_0 c5 a k) rfl 4 (by decide) (hts _ wT1_64) (fun _ h9 => h9) rfl dX2_count_57 ?_
      cases h
    · have h := o_f h c7_0
      rcases Decidable.em (p1 = 1) with c7_1 | c7_1
      · have h := o_t h c7_1
        refine lv_tableIn (off := 54) (tgt := 61) hx hb dX2_count_7 (by rw [c7_1]; decide) (by rw [c7_1]; decide) (by rw [c7_1]; rfl) (by decide) ?_
        refine lv_aload_n hx hb dX2_count_61 rfl (lv_at hl 0 rfl) ?_
        refine va_get (D := D) (ci := 2) (v := .int (kG k 0)) (C := RX2) (T := TX2) (N := 7) hx hb hts iX2 hown hK hP 0 (KW_0 c5 a k) rfl 2 (by decide) (hts _ wT1_62) (fun _ h9 => h9) rfl dX2_count_62 ?_
        cases h
      · have h := o_f h c7_1
        rcases Decidable.em (p1 = 2) with c7_2 | c7_2
        · have h := o_t h c7_2
          refine lv_tableIn (off := 59) (tgt := 66) hx hb dX2_count_7 (by rw [c7_2]; decide) (by rw [c7_2]; decide) (by rw [c7_2]; rfl) (by decide) ?_
          refine lv_aload_n hx hb dX2_count_66 rfl (lv_at hl 0 rfl) ?_
          obtain ⟨v67, e67, h⟩ := o_bind h
          refine ro_calli (ro_runV (As := []) (rest := []) ⟨hx, hb, hml, hown, hts⟩ hP hK (c_X2_freeShelves l D c5 a k hI  v67 e67) gG_RX2_134 (va_recv hK hP (ci := 2) (q0 := 0) rfl (KW_0 c5 a k)) hd_X2_freeShelves ⟨Nat.le_of_ble_eq_true rfl, Nat.le_of_ble_eq_true rfl⟩ ⟨rfl, rfl⟩ hl.1 (Nat.le_of_ble_eq_true rfl) dX2_count_67 ⟨Nat.zero_le _, Nat.zero_le _⟩ rfl) ?_
          cases h
        · have h := o_f h c7_2
          rcases Decidable.em (p1 = 3) with c7_3 | c7_3
          · have h := o_t h c7_3
            refine lv_tableIn (off := 64) (tgt := 71) hx hb dX2_count_7 (by rw [c7_3]; decide) (by rw [c7_3]; decide) (by rw [c7_3]; rfl) (by decide) ?_
            refine lv_aload_n hx hb dX2_count_71 rfl (lv_at hl 0 rfl) ?_
            obtain ⟨v72, e72, h⟩ := o_bind h
            refine ro_calli (ro_runV (As := []) (rest := []) ⟨hx, hb, hml, hown, hts⟩ hP hK (c_X2_bowlsInAll l D c5 a k hI  v72 e72) gG_RX2_137 (va_recv hK hP (ci := 2) (q0 := 0) rfl (KW_0 c5 a k)) hd_X2_bowlsInAll ⟨Nat.le_of_ble_eq_true rfl, Nat.le_of_ble_eq_true rfl⟩ ⟨rfl, rfl⟩ hl.1 (Nat.le_of_ble_eq_true rfl) dX2_count_72 ⟨Nat.zero_le _, Nat.zero_le _⟩ rfl) ?_
            cases h
          · have h := o_f h c7_3
            rcases Decidable.em (p1 = 4) with c7_4 | c7_4
            · have h := o_t h c7_4
              refine lv_tableIn (off := 69) (tgt := 76) hx hb dX2_count_7 (by rw [c7_4]; decide) (by rw [c7_4]; decide) (by rw [c7_4]; rfl) (by decide) ?_
              refine lv_aload_n hx hb dX2_count_76 rfl (lv_at hl 0 rfl) ?_
              obtain ⟨v77, e77, h⟩ := o_bind h
              refine ro_calli (ro_runV (As := []) (rest := []) ⟨hx, hb, hml, hown, hts⟩ hP hK (c_X2_spansUnderBowls l D c5 a k hI  v77 e77) gG_RX2_140 (va_recv hK hP (ci := 2) (q0 := 0) rfl (KW_0 c5 a k)) hd_X2_spansUnderBowls ⟨Nat.le_of_ble_eq_true rfl, Nat.le_of_ble_eq_true rfl⟩ ⟨rfl, rfl⟩ hl.1 (Nat.le_of_ble_eq_true rfl) dX2_count_77 ⟨Nat.zero_le _, Nat.zero_le _⟩ rfl) ?_
              cases h
            · have h := o_f h c7_4
              rcases Decidable.em (p1 = 5) with c7_5 | c7_5
              · have h := o_t h c7_5
                refine lv_tableIn (off := 74) (tgt := 81) hx hb dX2_count_7 (by rw [c7_5]; decide) (by rw [c7_5]; decide) (by rw [c7_5]; rfl) (by decide) ?_
                refine lv_aload_n hx hb dX2_count_81 rfl (lv_at hl 0 rfl) ?_
                obtain ⟨v82, e82, h⟩ := o_bind h
                refine ro_calli (ro_runV (As := []) (rest := []) ⟨hx, hb, hml, hown, hts⟩ hP hK (c_X2_takenShelves l D c5 a k hI  v82 e82) gG_RX2_143 (va_recv hK hP (ci := 2) (q0 := 0) rfl (KW_0 c5 a k)) hd_X2_takenShelves ⟨Nat.le_of_ble_eq_true rfl, Nat.le_of_ble_eq_true rfl⟩ ⟨rfl, rfl⟩ hl.1 (Nat.le_of_ble_eq_true rfl) dX2_count_82 ⟨Nat.zero_le _, Nat.zero_le _⟩ rfl) ?_
                refine lv_bipush (v := (24 : Int32)) hx hb dX2_count_85 (by decide) ?_
                refine lv_imul hx hb dX2_count_87 ?_
                refine lv_aload_n hx hb dX2_count_88 rfl (lv_at hl 0 rfl) ?_
                obtain ⟨v89, e89, h⟩ := o_bind h
                refine ro_calli (ro_runV (As := []) (rest := [.int (v82 * (24 : Int32))]) ⟨hx, hb, hml, hown, hts⟩ hP hK (c_X2_spansUnderBowls l D c5 a k hI  v89 e89) gG_RX2_140 (va_recv hK hP (ci := 2) (q0 := 0) rfl (KW_0 c5 a k)) hd_X2_spansUnderBowls ⟨Nat.le_of_ble_eq_true rfl, Nat.le_of_ble_eq_true rfl⟩ ⟨rfl, rfl⟩ hl.1 (Nat.le_of_ble_eq_true rfl) dX2_count_89 ⟨Nat.zero_le _, Nat.zero_le _⟩ rfl) ?_
                refine lv_isub hx hb dX2_count_92 ?_
                cases h
              · have h := o_f h c7_5
                rcases Decidable.em (p1 = 6) with c7_6 | c7_6
                · have h := o_t h c7_6
                  refine lv_tableIn (off := 87) (tgt := 94) hx hb dX2_count_7 (by rw [c7_6]; decide) (by rw [c7_6]; decide) (by rw [c7_6]; rfl) (by decide) ?_
                  refine lv_aload_n hx hb dX2_count_94 rfl (lv_at hl 0 rfl) ?_
                  obtain ⟨v95, e95, h⟩ := o_bind h
                  refine ro_calli (ro_runV (As := []) (rest := []) ⟨hx, hb, hml, hown, hts⟩ hP hK (c_X2_spansOfNoPlace l D c5 a k hI  v95 e95) gG_RX2_146 (va_recv hK hP (ci := 2) (q0 := 0) rfl (KW_0 c5 a k)) hd_X2_spansOfNoPlace ⟨Nat.le_of_ble_eq_true rfl, Nat.le_of_ble_eq_true rfl⟩ ⟨rfl, rfl⟩ hl.1 (Nat.le_of_ble_eq_true rfl) dX2_count_95 ⟨Nat.zero_le _, Nat.zero_le _⟩ rfl) ?_
                  cases h
                · have h := o_f h c7_6
                  rcases Decidable.em (p1 = 7) with c7_7 | c7_7
                  · have h := o_t h c7_7
                    refine lv_tableIn (off := 92) (tgt := 99) hx hb dX2_count_7 (by rw [c7_7]; decide) (by rw [c7_7]; decide) (by rw [c7_7]; rfl) (by decide) ?_
                    refine lv_aload_n hx hb dX2_count_99 rfl (lv_at hl 0 rfl) ?_
                    refine va_get (D := D) (ci := 2) (v := .int (kG k 3)) (C := RX2) (T := TX2) (N := 7) hx hb hts iX2 hown hK hP 0 (KW_0 c5 a k) rfl 5 (by decide) (hts _ wT1_65) (fun _ h9 => h9) rfl dX2_count_100 ?_
                    cases h
                  · have h := o_f h c7_7
                    rcases Decidable.em (p1 = 8) with c7_8 | c7_8
                    · have h := o_t h c7_8
                      refine lv_tableIn (off := 97) (tgt := 104) hx hb dX2_count_7 (by rw [c7_8]; decide) (by rw [c7_8]; decide) (by rw [c7_8]; rfl) (by decide) ?_
                      refine lv_aload_n hx hb dX2_count_104 rfl (lv_at hl 0 rfl) ?_
                      refine va_get (D := D) (ci := 2) (v := .int (kG k 4)) (C := RX2) (T := TX2) (N := 7) hx hb hts iX2 hown hK hP 0 (KW_0 c5 a k) rfl 6 (by decide) (hts _ wT1_66) (fun _ h9 => h9) rfl dX2_count_105 ?_
                      cases h
                    · have h := o_f h c7_8
                      have n7_0 := lv_neT (a := 0) c7_0 rfl
                      have n7_1 := lv_neT (a := 1) c7_1 rfl
                      have n7_2 := lv_neT (a := 2) c7_2 rfl
                      have n7_3 := lv_neT (a := 3) c7_3 rfl
                      have n7_4 := lv_neT (a := 4) c7_4 rfl
                      have n7_5 := lv_neT (a := 5) c7_5 rfl
                      have n7_6 := lv_neT (a := 6) c7_6 rfl
                      have n7_7 := lv_neT (a := 7) c7_7 rfl
                      have n7_8 := lv_neT (a := 8) c7_8 rfl
                      refine lv_tableOut (tgt := 109) hx hb dX2_count_7 (by omega) (by decide) ?_
                      refine lv_aload_n hx hb dX2_count_109 rfl (lv_at hl 0 rfl) ?_
                      refine va_get (D := D) (ci := 2) (v := .int (kG k 1)) (C := RX2) (T := TX2) (N := 7) hx hb hts iX2 hown hK hP 0 (KW_0 c5 a k) rfl 3 (by decide) (hts _ wT1_63) (fun _ h9 => h9) rfl dX2_count_110 ?_
                      cases h
  · obtain rfl := Except.error.inj h
    exact er_call (er_runS (As := [.int p1, .int (10 : Int32)]) (rest := []) ⟨hx, hb, hml, hown, hts⟩ hP hK hX (x_X2_requireAnswer l D (tyG c5) (KW c5 a k) sx hflags p1 (10 : Int32) E e3) gG_RX2_121 hd_X2_requireAnswer ⟨Nat.le_of_ble_eq_true rfl, Nat.le_of_ble_eq_true rfl⟩ ⟨rfl, rfl⟩ hl.1 (Nat.le_of_ble_eq_true rfl) dX2_count_3 ⟨Nat.le_of_ble_eq_true rfl, Nat.le_of_ble_eq_true rfl⟩ rfl) ht hlocks
