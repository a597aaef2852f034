set_option maxHeartbeats 4000000 in
set_option maxRecDepth 100000 in
theorem c_X3_many (l : Launch) (D : va_G) (c5 : Nat → ClassId) (bo : Nat → Nat) (bv : BV) (zs : SSt) (p1 : Int32) (r : Int32) (h : R_X3_many zs p1 = some r) : Met l yX3_many (ws_ yX3_many cX3_many 7 (some .int)) { frames := 0, cells := 0, slots := 0, locals := 0 } (va_Pc [.ref (bo 0), .int p1] (roB D (tyG c5) (SW c5 bo bv zs))) (vp_Si (fun x => x = r)) 0 0 (fun _ => False) := by
  refine Met.ofW (cc := cX3_many) (maxL := 7) (ret := (some .int)) (by decide) rfl ?_
  intro p e s m args below meth c s₁ B hml hv
  obtain ⟨rfl, hP, hK⟩ := hv
  have hx := B.exec
  have hb := B.bytes
  have hr := B.returns
  have hts : ∀ w ∈ LA, w.before _ s = true := fun w hw => atoms_spec (ws := ws_ yX3_many cX3_many 7 (some .int)) B.pre w (List.mem_cons_of_mem _ hw)
  have hown : s.vm.findClass RX3 = some m.cls := findClass_of_methodNamed B.named
  have hlocks := B.notSynchronized
  have hl := lv_entry ([.ref (bo 0), .int p1] : List Value) (n := 7) (Nat.le_of_ble_eq_true rfl)
  rw [lg_entry_eq]
  generalize (lg_sl ([.ref (bo 0), .int p1] : List Value) ++ List.replicate (7 - (lg_sl ([.ref (bo 0), .int p1] : List Value)).length) Slot.unset).toArray = ls at hl ⊢
  have hl : lv_has ls 7 [(0, .ref (bo 0)), (1, .int p1)] := hl
  unfold R_X3_many at h
  refine lv_iconst (v := (0 : Int32)) hx hb dX3_many_0 (by decide) ?_
  refine lv_istore_n (i := 2) (lv' := [(2, .int (0 : Int32)), (0, .ref (bo 0)), (1, .int p1)]) hx hb dX3_many_1 rfl hl (by decide) rfl (fun ls hl => ?_)
  refine lv_aload_n hx hb dX3_many_2 rfl (lv_at hl 1 rfl) ?_
  refine va_get (D := D) (ci := 3) (v := .ref (bo 3)) (C := RX3) (T := TX3) (N := 7) hx hb hts iX3 hown hK hP 0 (SW_0 c5 bo bv zs) rfl 6 (by decide) (hts _ wT3_19) (fun _ h9 => h9) rfl dX3_many_3 ?_
  refine lv_iload_n hx hb dX3_many_6 rfl (lv_at hl 2 rfl) ?_
  obtain ⟨g7, h⟩ := o_if h
  refine ar_ld hx hb hK hP 3 5 (SW_3 c5 bo bv zs) rfl (inb_in g7) rfl dX3_many_7 ?_
  refine lv_astore_n (i := 3) (lv' := [(3, .ref (bB bv (p1.toNatClampNeg))), (2, .int (0 : Int32)), (0, .ref (bo 0)), (1, .int p1)]) hx hb dX3_many_8 rfl hl (by decide) rfl (fun ls hl => ?_)
  refine lv_aload_n hx hb dX3_many_9 rfl (lv_at hl 0 rfl) ?_
  refine va_alen (v := (nI (zL zs (p1.toNatClampNeg)))) hx hb hK hP (16 + (p1.toNatClampNeg)) 2 (SW_B c5 bo bv zs (inb_lt g7)) rfl rfl dX3_many_10 ?_
  refine lv_istore (i := 4) (lv' := [(4, .int (nI (zL zs (p1.toNatClampNeg)))), (3, .ref (bB bv (p1.toNatClampNeg))), (2, .int (0 : Int32)), (0, .ref (bo 0)), (1, .int p1)]) hx hb dX3_many_11 hl (by decide) rfl (fun ls hl => ?_)
  refine lv_iconst (v := (0 : Int32)) hx hb dX3_many_13 (by decide) ?_
  refine lv_istore (i := 5) (lv' := [(5, .int (0 : Int32)), (4, .int (nI (zL zs (p1.toNatClampNeg)))), (3, .ref (bB bv (p1.toNatClampNeg))), (2, .int (0 : Int32)), (0, .ref (bo 0)), (1, .int p1)]) hx hb dX3_many_14 hl (by decide) rfl (fun ls hl => ?_)
  have L16 : ∀ (n16 : Nat) (x5_16 : Int32) (x2_16 : Int32) (ls : Array Slot), lv_has ls 7 [(5, .int x5_16), (4, .int (nI (zL zs (p1.toNatClampNeg)))), (3, .ref (bB bv (p1.toNatClampNeg))), (2, .int x2_16), (0, .ref (bo 0)), (1, .int p1)] → R_X3_many_L16 zs p1 n16 x5_16 x2_16 = some r → W p l e (headSpec (ws_ yX3_many cX3_many 7 (some .int)) { frames := 0, cells := 0, slots := 0, locals := 0 }).room s m ([.ref (bo 0), .int p1] : List Value).toArray below meth c s.heap [] (0) (0) (MQ below (vp_Si (fun x => x = r)) ([.ref (bo 0), .int p1] : List Value).toArray s 0 0 (fun _ => False)) (F0 m 16 ls []) := by
    intro n16
    induction n16 with
    | zero =>
      intro x5_16 x2_16 ls hl h
      exact absurd h (by simp [R_X3_many_L16])
    | succ n16 ih16 =>
      intro x5_16 x2_16 ls hl h
      rw [R_X3_many_L16] at h
      refine lv_iload hx hb dX3_many_16 (lv_at hl 0 rfl) ?_
      refine lv_iload hx hb dX3_many_18 (lv_at hl 1 rfl) ?_
      refine lv_icmp_ge (tgt := 48) hx hb dX3_many_20 (by decide) (fun q => ?_) (fun q => ?_)
      · have h := o_t h q
        refine lv_iload_n hx hb dX3_many_48 rfl (lv_at hl 3 rfl) ?_
        exact ro_iret hx hb hr hlocks dX3_many_49 (Option.some.inj h)
      · have h := o_f h q
        refine lv_aload_n hx hb dX3_many_23 rfl (lv_at hl 2 rfl) ?_
        refine lv_iload hx hb dX3_many_24 (lv_at hl 0 rfl) ?_
        obtain ⟨g26, h⟩ := o_if h
        refine va_zald hx hb hK hP (16 + (p1.toNatClampNeg)) 2 (SW_B c5 bo bv zs (inb_lt g7)) rfl (inb_in g26) dX3_many_26 ?_
        refine lv_istore (i := 6) (lv' := [(6, .int (zB zs (p1.toNatClampNeg) (x5_16.toNatClampNeg))), (5, .int x5_16), (4, .int (nI (zL zs (p1.toNatClampNeg)))), (3, .ref (bB bv (p1.toNatClampNeg))), (2, .int x2_16), (0, .ref (bo 0)), (1, .int p1)]) hx hb dX3_many_27 hl (by decide) rfl (fun ls hl => ?_)
        refine lv_iload_n hx hb dX3_many_29 rfl (lv_at hl 4 rfl) ?_
        refine lv_iload hx hb dX3_many_30 (lv_at hl 0 rfl) ?_
        refine lv_if_eq (tgt := 39) hx hb dX3_many_32 (by decide) (fun q => ?_) (fun q => ?_)
        · have h := o_t h q
          refine lv_iconst (v := (0 : Int32)) hx hb dX3_many_39 (by decide) ?_
          refine lv_iadd hx hb dX3_many_40 ?_
          refine lv_istore_n (i := 2) (lv' := [(2, .int (x2_16 + (0 : Int32))), (6, .int (zB zs (p1.toNatClampNeg) (x5_16.toNatClampNeg))), (5, .int x5_16), (4, .int (nI (zL zs (p1.toNatClampNeg)))), (3, .ref (bB bv (p1.toNatClampNeg))), (0, .ref (bo 0)), (1, .int p1)]) hx hb dX3_many_41 rfl hl (by decide) rfl (fun ls hl => ?_)
          refine lv_iinc (v := (x5_16 + (1 : Int32))) (lv' := [(5, .int (x5_16 + (1 : Int32))), (2, .int (x2_16 + (0 : Int32))), (6, .int (zB zs (p1.toNatClampNeg) (x5_16.toNatClampNeg))), (4, .int (nI (zL zs (p1.toNatClampNeg)))), (3, .ref (bB bv (p1.toNatClampNeg))), (0, .ref (bo 0)), (1, .int p1)]) hx hb dX3_many_42 hl (k := 2) rfl rfl (by decide) rfl (fun ls hl => ?_)
          refine lv_goto (tgt := 16) hx hb dX3_many_45 (by decide) ?_
          exact ih16 (x5_16 + (1 : Int32)) (x2_16 + (0 : Int32)) ls (lv_sub hl [0, 3, 4, 1, 5, 6] rfl) h
        · have h := o_f h q
          refine lv_iconst (v := (1 : Int32)) hx hb dX3_many_35 (by decide) ?_
          refine lv_goto (tgt := 40) hx hb dX3_many_36 (by decide) ?_
          refine lv_iadd hx hb dX3_many_40 ?_
          refine lv_istore_n (i := 2) (lv' := [(2, .int (x2_16 + (1 : Int32))), (6, .int (zB zs (p1.toNatClampNeg) (x5_16.toNatClampNeg))), (5, .int x5_16), (4, .int (nI (zL zs (p1.toNatClampNeg)))), (3, .ref (bB bv (p1.toNatClampNeg))), (0, .ref (bo 0)), (1, .int p1)]) hx hb dX3_many_41 rfl hl (by decide) rfl (fun ls hl => ?_)
          refine lv_iinc (v := (x5_16 + (1 : Int32))) (lv' := [(5, .int (x5_16 + (1 : Int32))), (2, .int (x2_16 + (1 : Int32))), (6, .int (zB zs (p1.toNatClampNeg) (x5_16.toNatClampNeg))), (4, .int (nI (zL zs (p1.toNatClampNeg)))), (3, .ref (bB bv (p1.toNatClampNeg))), (0, .ref (bo 0)), (1, .int p1)]) hx hb dX3_many_42 hl (k := 2) rfl rfl (by decide) rfl (fun ls hl => ?_)
          refine lv_goto (tgt := 16) hx hb dX3_many_45 (by decide) ?_
          exact ih16 (x5_16 + (1 : Int32)) (x2_16 + (1 : Int32)) ls (lv_sub hl [0, 3, 4, 1, 5, 6] rfl) h
  exact L16 FU (0 : Int32) (0 : Int32) ls (lv_sub hl [0, 1, 2, 3, 4, 5] rfl) h
set_option maxHeartbeats 4000000 in
set_option maxRecDepth 100000 in
theorem c_X3_isUsed (l : Launch) (D : va_G) (c5 : Nat → ClassId) (bo : Nat → Nat) (bv : BV) (zs : SSt) (p1 : Int32) (p2 : Int32) (r : Int32) (h : R_X3_isUsed zs p1 p2 = some r) : Met l yX3_isUsed (ws_ yX3_isUsed cX3_isUsed 3 (some .boolean)) { frames := 1, cells := 0, slots := 0, locals := 26 } (va_Pc [.ref (bo 0), .int p1, .int p2] (roB D (tyG c5) (SW c5 bo bv zs))) (vp_Si (fun x => x = r)) 0 0 (fun _ => False) := by
  refine Met.ofW (cc := cX3_isUsed) (maxL := 3) (ret := (some .boolean)) (by decide) rfl ?_
  intro p e s m args below meth c s₁ B hml hv
  obtain ⟨rfl, hP, hK⟩ := hv
  have hx := B.exec
  have hb := B.bytes
  have hr := B.returns
  have hts : ∀ w ∈ LA, w.before _ s = true := fun w hw => atoms_spec (ws := ws_ yX3_isUsed cX3_isUsed 3 (some .boolean)) B.pre w (List.mem_cons_of_mem _ hw)
  have hown : s.vm.findClass RX3 = some m.cls := findClass_of_methodNamed B.named
  have hlocks := B.notSynchronized
  have hl := lv_entry ([.ref (bo 0), .int p1, .int p2] : List Value) (n := 3) (Nat.le_of_ble_eq_true rfl)
  rw [lg_entry_eq]
  generalize (lg_sl ([.ref (bo 0), .int p1, .int p2] : List Value) ++ List.replicate (3 - (lg_sl ([.ref (bo 0), .int p1, .int p2] : List Value)).length) Slot.unset).toArray = ls at hl ⊢
  have hl : lv_has ls 3 [(0, .ref (bo 0)), (1, .int p1), (2, .int p2)] := hl
  unfold R_X3_isUsed at h
  refine lv_aload_n hx hb dX3_isUsed_0 rfl (lv_at hl 0 rfl) ?_
  refine va_get (D := D) (ci := 3) (v := .ref (bo 2)) (C := RX3) (T := TX3) (N := 7) hx hb hts iX3 hown hK hP 0 (SW_0 c5 bo bv zs) rfl 5 (by decide) (hts _ wT3_18) (fun _ h9 => h9) rfl dX3_isUsed_1 ?_
  refine lv_iload_n hx hb dX3_isUsed_4 rfl (lv_at hl 1 rfl) ?_
  obtain ⟨g5, h⟩ := o_if h
  refine ar_ld hx hb hK hP 2 4 (SW_2 c5 bo bv zs) rfl (inb_in g5) rfl dX3_isUsed_5 ?_
  refine lv_iconst (v := (0 : Int32)) hx hb dX3_isUsed_6 (by decide) ?_
  obtain ⟨g7, h⟩ := o_if h
  refine va_iald hx hb hK hP (4 + (p1.toNatClampNeg)) 3 (SW_H c5 bo bv zs (inb_lt g5)) rfl (inb_in g7) dX3_isUsed_7 ?_
  refine lv_iload_n hx hb dX3_isUsed_8 rfl (lv_at hl 2 rfl) ?_
  refine lv_icmp_ne (tgt := 39) hx hb dX3_isUsed_9 (by decide) (fun q => ?_) (fun q => ?_)
  · have h := o_t' h q
    refine lv_iconst (v := (0 : Int32)) hx hb dX3_isUsed_39 (by decide) ?_
    exact ro_zret hx hb hr hlocks dX3_isUsed_40 rfl (Option.some.inj h)
  · have h := o_f' h q
    refine lv_aload_n hx hb dX3_isUsed_12 rfl (lv_at hl 0 rfl) ?_
    refine lv_iload_n hx hb dX3_isUsed_13 rfl (lv_at hl 1 rfl) ?_
    obtain ⟨v14, e14, h⟩ := o_bind h
    refine ro_calli (ro_runV (As := [.int p1]) (rest := []) ⟨hx, hb, hml, hown, hts⟩ hP hK (c_X3_many l D c5 bo bv zs p1 v14 e14) gG_RX3_45 (va_recv hK hP (ci := 3) (q0 := 0) rfl (SW_0 c5 bo bv zs)) hd_X3_many ⟨Nat.le_of_ble_eq_true rfl, Nat.le_of_ble_eq_true rfl⟩ ⟨rfl, rfl⟩ hl.1 (Nat.le_of_ble_eq_true rfl) dX3_isUsed_14 ⟨show 0 ≤ 0 by omega, show 0 ≤ 0 by omega⟩ rfl) ?_
    refine lv_if_le (tgt := 39) hx hb dX3_isUsed_17 (by decide) (fun q => ?_) (fun q => ?_)
    · have h := o_t h q
      refine lv_iconst (v := (0 : Int32)) hx hb dX3_isUsed_39 (by decide) ?_
      exact ro_zret hx hb hr hlocks dX3_isUsed_40 rfl (Option.some.inj h)
    · have h := o_f h q
      refine lv_aload_n hx hb dX3_isUsed_20 rfl (lv_at hl 0 rfl) ?_
      refine lv_iload_n hx hb dX3_isUsed_21 rfl (lv_at hl 1 rfl) ?_
      obtain ⟨v22, e22, h⟩ := o_bind h
      refine ro_calli (ro_runV (As := [.int p1]) (rest := []) ⟨hx, hb, hml, hown, hts⟩ hP hK (c_X3_many l D c5 bo bv zs p1 v22 e22) gG_RX3_45 (va_recv hK hP (ci := 3) (q0 := 0) rfl (SW_0 c5 bo bv zs)) hd_X3_many ⟨Nat.le_of_ble_eq_true rfl, Nat.le_of_ble_eq_true rfl⟩ ⟨rfl, rfl⟩ hl.1 (Nat.le_of_ble_eq_true rfl) dX3_isUsed_22 ⟨show 0 ≤ 0 by omega, show 0 ≤ 0 by omega⟩ rfl) ?_
      refine lv_aload_n hx hb dX3_isUsed_25 rfl (lv_at hl 0 rfl) ?_
      refine va_get (D := D) (ci := 3) (v := .ref (bo 3)) (C := RX3) (T := TX3) (N := 7) hx hb hts iX3 hown hK hP 0 (SW_0 c5 bo bv zs) rfl 6 (by decide) (hts _ wT3_19) (fun _ h9 => h9) rfl dX3_isUsed_26 ?_
      refine lv_iload_n hx hb dX3_isUsed_29 rfl (lv_at hl 1 rfl) ?_
      obtain ⟨g30, h⟩ := o_if h
      refine ar_ld hx hb hK hP 3 5 (SW_3 c5 bo bv zs) rfl (inb_in g30) rfl dX3_isUsed_30 ?_
      refine va_alen (v := (nI (zL zs (p1.toNatClampNeg)))) hx hb hK hP (16 + (p1.toNatClampNeg)) 2 (SW_B c5 bo bv zs (inb_lt g30)) rfl rfl dX3_isUsed_31 ?_
      refine lv_icmp_ge (tgt := 39) hx hb dX3_isUsed_32 (by decide) (fun q => ?_) (fun q => ?_)
      · have h := o_t h q
        refine lv_iconst (v := (0 : Int32)) hx hb dX3_isUsed_39 (by decide) ?_
        exact ro_zret hx hb hr hlocks dX3_isUsed_40 rfl (Option.some.inj h)
      · have h := o_f h q
        refine lv_iconst (v := (1 : Int32)) hx hb dX3_isUsed_35 (by decide) ?_
        refine lv_goto (tgt := 40) hx hb dX3_isUsed_36 (by decide) ?_
        exact ro_zret hx hb hr hlocks dX3_isUsed_40 rfl (Option.some.inj h)
set_option maxHeartbeats 4000000 in
set_option maxRecDepth 100000 in
theorem c_X3_isEmpty (l : Launch) (D : va_G) (c5 : Nat → ClassId) (bo : Nat → Nat) (bv : BV) (zs : SSt) (p1 : Int32) (p2 : Int32) (r : Int32) (h : R_X3_isEmpty zs p1 p2 = some r) : Met l yX3_isEmpty (ws_ yX3_isEmpty cX3_isEmpty 3 (some .boolean)) { frames := 1, cells := 0, slots := 0, locals := 26 } (va_Pc [.ref (bo 0), .int p1, .int p2] (roB D (tyG c5) (SW c5 bo bv zs))) (vp_Si (fun x => x = r)) 0 0 (fun _ => False) := by
  refine Met.ofW (cc := cX3_isEmpty) (maxL := 3) (ret := (some .boolean)) (by decide) rfl ?_
  intro p e s m args below meth c s₁ B hml hv
  obtain ⟨rfl, hP, hK⟩ := hv
  have hx := B.exec
  have hb := B.bytes
  have hr := B.returns
  have hts : ∀ w ∈ LA, w.before _ s = true := fun w hw => atoms_spec (ws := ws_ yX3_isEmpty cX3_isEmpty 3 (some .boolean)) B.pre w (List.mem_cons_of_mem _ hw)
  have hown : s.vm.findClass RX3 = some m.cls := findClass_of_methodNamed B.named
  have hlocks := B.notSynchronized
  have hl := lv_entry ([.ref (bo 0), .int p1, .int p2] : List Value) (n := 3) (Nat.le_of_ble_eq_true rfl)
  rw [lg_entry_eq]
  generalize (lg_sl ([.ref (bo 0), .int p1, .int p2] : List Value) ++ List.replicate (3 - (lg_sl ([.ref (bo 0), .int p1, .int p2] : List Value)).length) Slot.unset).toArray = ls at hl ⊢
  have hl : lv_has ls 3 [(0, .ref (bo 0)), (1, .int p1), (2, .int p2)] := hl
  unfold R_X3_isEmpty at h
  refine lv_aload_n hx hb dX3_isEmpty_0 rfl (lv_at hl 0 rfl) ?_
  refine va_get (D := D) (ci := 3) (v := .ref (bo 2)) (C := RX3) (T := TX3) (N := 7) hx hb hts iX3 hown hK hP 0 (SW_0 c5 bo bv zs) rfl 5 (by decide) (hts _ wT3_18) (fun _ h9 => h9) rfl dX3_isEmpty_1 ?_
  refine lv_iload_n hx hb dX3_isEmpty_4 rfl (lv_at hl 1 rfl) ?_
  obtain ⟨g5, h⟩ := o_if h
  refine ar_ld hx hb hK hP 2 4 (SW_2 c5 bo bv zs) rfl (inb_in g5) rfl dX3_isEmpty_5 ?_
  refine lv_iconst (v := (0 : Int32)) hx hb dX3_isEmpty_6 (by decide) ?_
  obtain ⟨g7, h⟩ := o_if h
  refine va_iald hx hb hK hP (4 + (p1.toNatClampNeg)) 3 (SW_H c5 bo bv zs (inb_lt g5)) rfl (inb_in g7) dX3_isEmpty_7 ?_
  refine lv_iload_n hx hb dX3_isEmpty_8 rfl (lv_at hl 2 rfl) ?_
  refine lv_icmp_ne (tgt := 24) hx hb dX3_isEmpty_9 (by decide) (fun q => ?_) (fun q => ?_)
  · have h := o_t' h q
    refine lv_iconst (v := (0 : Int32)) hx hb dX3_isEmpty_24 (by decide) ?_
    exact ro_zret hx hb hr hlocks dX3_isEmpty_25 rfl (Option.some.inj h)
  · have h := o_f' h q
    refine lv_aload_n hx hb dX3_isEmpty_12 rfl (lv_at hl 0 rfl) ?_
    refine lv_iload_n hx hb dX3_isEmpty_13 rfl (lv_at hl 1 rfl) ?_
    obtain ⟨v14, e14, h⟩ := o_bind h
    refine ro_calli (ro_runV (As := [.int p1]) (rest := []) ⟨hx, hb, hml, hown, hts⟩ hP hK (c_X3_many l D c5 bo bv zs p1 v14 e14) gG_RX3_45 (va_recv hK hP (ci := 3) (q0 := 0) rfl (SW_0 c5 bo bv zs)) hd_X3_many ⟨Nat.le_of_ble_eq_true rfl, Nat.le_of_ble_eq_true rfl⟩ ⟨rfl, rfl⟩ hl.1 (Nat.le_of_ble_eq_true rfl) dX3_isEmpty_14 ⟨show 0 ≤ 0 by omega, show 0 ≤ 0 by omega⟩ rfl) ?_
    refine lv_if_ne (tgt := 24) hx hb dX3_isEmpty_17 (by decide) (fun q => ?_) (fun q => ?_)
    · have h := o_t' h q
      refine lv_iconst (v := (0 : Int32)) hx hb dX3_isEmpty_24 (by decide) ?_
      exact ro_zret hx hb hr hlocks dX3_isEmpty_25 rfl (Option.some.inj h)
    · have h := o_f' h q
      refine lv_iconst (v := (1 : Int32)) hx hb dX3_isEmpty_20 (by decide) ?_
      refine lv_goto (tgt := 25) hx hb dX3_isEmpty_21 (by decide) ?_
      exact ro_zret hx hb hr hlocks dX3_isEmpty_25 rfl (Option.some.inj h)
set_option maxHeartbeats 4000000 in
set_option maxRecDepth 100000 in
theorem c_X3_hole (l : Launch) (D : va_G) (c5 : Nat → ClassId) (bo : Nat → Nat) (bv : BV) (zs : SSt) (p1 : Int32) (r : Int32) (h : R_X3_hole zs p1 = some r) : Met l yX3_hole (ws_ yX3_hole cX3_hole 3 (some .int)) { frames := 0, cells := 0, slots := 0, locals := 0 } (va_Pc [.ref (bo 0), .int p1] (roB D (tyG c5) (SW c5 bo bv zs))) (vp_Si (fun x => x = r)) 0 0 (fun _ => False) := by
  refine Met.ofW (cc := cX3_hole) (maxL := 3) (ret := (some .int)) (by decide) rfl ?_
  intro p e s m args below meth c s₁ B hml hv
  obtain ⟨rfl, hP, hK⟩ := hv
  have hx := B.exec
  have hb := B.bytes
  have hr := B.returns
  have hts : ∀ w ∈ LA, w.before _ s = true := fun w hw => atoms_spec (ws := ws_ yX3_hole cX3_hole 3 (some .int)) B.pre w (List.mem_cons_of_mem _ hw)
  have hown : s.vm.findClass RX3 = some m.cls := findClass_of_methodNamed B.named
  have hlocks := B.notSynchronized
  have hl := lv_entry ([.ref (bo 0), .int p1] : List Value) (n := 3) (Nat.le_of_ble_eq_true rfl)
  rw [lg_entry_eq]
  generalize (lg_sl ([.ref (bo 0), .int p1] : List Value) ++ List.replicate (3 - (lg_sl ([.ref (bo 0), .int p1] : List Value)).length) Slot.unset).toArray = ls at hl ⊢
  have hl : lv_has ls 3 [(0, .ref (bo 0)), (1, .int p1)] := hl
  unfold R_X3_hole at h
  refine lv_iconst (v := (0 : Int32)) hx hb dX3_hole_0 (by decide) ?_
  refine lv_istore_n (i := 2) (lv' := [(2, .int (0 : Int32)), (0, .ref (bo 0)), (1, .int p1)]) hx hb dX3_hole_1 rfl hl (by decide) rfl (fun ls hl => ?_)
  have L2 : ∀ (n2 : Nat) (x2_2 : Int32) (ls : Array Slot), lv_has ls 3 [(2, .int x2_2), (0, .ref (bo 0)), (1, .int p1)] → R_X3_hole_L2 zs p1 n2 x2_2 = some r → W p l e (headSpec (ws_ yX3_hole cX3_hole 3 (some .int)) { frames := 0, cells := 0, slots := 0, locals := 0 }).room s m ([.ref (bo 0), .int p1] : List Value).toArray below meth c s.heap [] (0) (0) (MQ below (vp_Si (fun x => x = r)) ([.ref (bo 0), .int p1] : List Value).toArray s 0 0 (fun _ => False)) (F0 m 2 ls []) := by
    intro n2
    induction n2 with
    | zero =>
      intro x2_2 ls hl h
      exact absurd h (by simp [R_X3_hole_L2])
    | succ n2 ih2 =>
      intro x2_2 ls hl h
      rw [R_X3_hole_L2] at h
      refine lv_iload_n hx hb dX3_hole_2 rfl (lv_at hl 0 rfl) ?_
      refine lv_aload_n hx hb dX3_hole_3 rfl (lv_at hl 1 rfl) ?_
      refine va_get (D := D) (ci := 3) (v := .ref (bo 3)) (C := RX3) (T := TX3) (N := 7) hx hb hts iX3 hown hK hP 0 (SW_0 c5 bo bv zs) rfl 6 (by decide) (hts _ wT3_19) (fun _ h9 => h9) rfl dX3_hole_4 ?_
      refine lv_iload_n hx hb dX3_hole_7 rfl (lv_at hl 2 rfl) ?_
      obtain ⟨g8, h⟩ := o_if h
      refine ar_ld hx hb hK hP 3 5 (SW_3 c5 bo bv zs) rfl (inb_in g8) rfl dX3_hole_8 ?_
      refine va_alen (v := (nI (zL zs (p1.toNatClampNeg)))) hx hb hK hP (16 + (p1.toNatClampNeg)) 2 (SW_B c5 bo bv zs (inb_lt g8)) rfl rfl dX3_hole_9 ?_
      refine lv_icmp_ge (tgt := 30) hx hb dX3_hole_10 (by decide) (fun q => ?_) (fun q => ?_)
      · have h := o_t h q
        refine lv_iload_n hx hb dX3_hole_30 rfl (lv_at hl 0 rfl) ?_
        refine lv_aload_n hx hb dX3_hole_31 rfl (lv_at hl 1 rfl) ?_
        refine va_get (D := D) (ci := 3) (v := .ref (bo 3)) (C := RX3) (T := TX3) (N := 7) hx hb hts iX3 hown hK hP 0 (SW_0 c5 bo bv zs) rfl 6 (by decide) (hts _ wT3_19) (fun _ h9 => h9) rfl dX3_hole_32 ?_
        refine lv_iload_n hx hb dX3_hole_35 rfl (lv_at hl 2 rfl) ?_
        obtain ⟨g36, h⟩ := o_if h
        refine ar_ld hx hb hK hP 3 5 (SW_3 c5 bo bv zs) rfl (inb_in g36) rfl dX3_hole_36 ?_
        refine va_alen (v := (nI (zL zs (p1.toNatClampNeg)))) hx hb hK hP (16 + (p1.toNatClampNeg)) 2 (SW_B c5 bo bv zs (inb_lt g36)) rfl rfl dX3_hole_37 ?_
        refine lv_icmp_ge (tgt := 45) hx hb dX3_hole_38 (by decide) (fun q => ?_) (fun q => ?_)
        · have h := o_t h q
          refine lv_iconst (v := (-1 : Int32)) hx hb dX3_hole_45 (by decide) ?_
          exact ro_iret hx hb hr hlocks dX3_hole_46 (Option.some.inj h)
        · have h := o_f h q
          refine lv_iload_n hx hb dX3_hole_41 rfl (lv_at hl 0 rfl) ?_
          refine lv_goto (tgt := 46) hx hb dX3_hole_42 (by decide) ?_
          exact ro_iret hx hb hr hlocks dX3_hole_46 (Option.some.inj h)
      · have h := o_f h q
        refine lv_aload_n hx hb dX3_hole_13 rfl (lv_at hl 1 rfl) ?_
        refine va_get (D := D) (ci := 3) (v := .ref (bo 3)) (C := RX3) (T := TX3) (N := 7) hx hb hts iX3 hown hK hP 0 (SW_0 c5 bo bv zs) rfl 6 (by decide) (hts _ wT3_19) (fun _ h9 => h9) rfl dX3_hole_14 ?_
        refine lv_iload_n hx hb dX3_hole_17 rfl (lv_at hl 2 rfl) ?_
        obtain ⟨g18, h⟩ := o_if h
        refine ar_ld hx hb hK hP 3 5 (SW_3 c5 bo bv zs) rfl (inb_in g18) rfl dX3_hole_18 ?_
        refine lv_iload_n hx hb dX3_hole_19 rfl (lv_at hl 0 rfl) ?_
        obtain ⟨g20, h⟩ := o_if h
        refine va_zald hx hb hK hP (16 + (p1.toNatClampNeg)) 2 (SW_B c5 bo bv zs (inb_lt g18)) rfl (inb_in g20) dX3_hole_20 ?_
        refine lv_if_eq (tgt := 30) hx hb dX3_hole_21 (by decide) (fun q => ?_) (fun q => ?_)
        · have h := o_t h q
          refine lv_iload_n hx hb dX3_hole_30 rfl (lv_at hl 0 rfl) ?_
          refine lv_aload_n hx hb dX3_hole_31 rfl (lv_at hl 1 rfl) ?_
          refine va_get (D := D) (ci := 3) (v := .ref (bo 3)) (C := RX3) (T := TX3) (N := 7) hx hb hts iX3 hown hK hP 0 (SW_0 c5 bo bv zs) rfl 6 (by decide) (hts _ wT3_19) (fun _ h9 => h9) rfl dX3_hole_32 ?_
          refine lv_iload_n hx hb dX3_hole_35 rfl (lv_at hl 2 rfl) ?_
          obtain ⟨g36, h⟩ := o_if h
          refine ar_ld hx hb hK hP 3 5 (SW_3 c5 bo bv zs) rfl (inb_in g36) rfl dX3_hole_36 ?_
          refine va_alen (v := (nI (zL zs (p1.toNatClampNeg)))) hx hb hK hP (16 + (p1.toNatClampNeg)) 2 (SW_B c5 bo bv zs (inb_lt g36)) rfl rfl dX3_hole_37 ?_
          refine lv_icmp_ge (tgt := 45) hx hb dX3_hole_38 (by decide) (fun q => ?_) (fun q => ?_)
          · have h := o_t h q
            refine lv_iconst (v := (-1 : Int32)) hx hb dX3_hole_45 (by decide) ?_
            exact ro_iret hx hb hr hlocks dX3_hole_46 (Option.some.inj h)
          · have h := o_f h q
            refine lv_iload_n hx hb dX3_hole_41 rfl (lv_at hl 0 rfl) ?_
            refine lv_goto (tgt := 46) hx hb dX3_hole_42 (by decide) ?_
            exact ro_iret hx hb hr hlocks dX3_hole_46 (Option.some.inj h)
        · have h := o_f h q
          refine lv_iinc (v := (x2_2 + (1 : Int32))) (lv' := [(2, .int (x2_2 + (1 : Int32))), (0, .ref (bo 0)), (1, .int p1)]) hx hb dX3_hole_24 hl (k := 0) rfl rfl (by decide) rfl (fun ls hl => ?_)
          refine lv_goto (tgt := 2) hx hb dX3_hole_27 (by decide) ?_
          exact ih2 (x2_2 + (1 : Int32)) ls (lv_sub hl [0, 1, 2] rfl) h
  exact L2 FU (0 : Int32) ls (lv_sub hl [0, 1, 2] rfl) h
set_option maxHeartbeats 4000000 in
set_option maxRecDepth 100000 in
theorem c_X3_spot (l : Launch) (D : va_G) (c5 : Nat → ClassId) (bo : Nat → Nat) (bv : BV) (zs : SSt) (p1 : Int32) (p2 : Int32) (r : Int32) (h : R_X3_spot zs p1 p2 = some r) : Met l yX3_spot (ws_ yX3_spot cX3_spot 3 (some .int)) { frames := 0, cells := 0, slots := 0, locals := 0 } (va_Pc [.ref (bo 0), .int p1, .int p2] (roB D (tyG c5) (SW c5 bo bv zs))) (vp_Si (fun x => x = r)) 0 0 (fun _ => False) := by
  refine Met.ofW (cc := cX3_spot) (maxL := 3) (ret := (some .int)) (by decide) rfl ?_
  intro p e s m args below meth c s₁ B hml hv
  obtain ⟨rfl, hP, hK⟩ := hv
  have hx := B.exec
  have hb := B.bytes
  have hr := B.returns
  have hts : ∀ w ∈ LA, w.before _ s = true := fun w hw => atoms_spec (ws := ws_ yX3_spot cX3_spot 3 (some .int)) B.pre w (List.mem_cons_of_mem _ hw)
  have hown : s.vm.findClass RX3 = some m.cls := findClass_of_methodNamed B.named
  have hlocks := B.notSynchronized
  have hl := lv_entry ([.ref (bo 0), .int p1, .int p2] : List Value) (n := 3) (Nat.le_of_ble_eq_true rfl)
  rw [lg_entry_eq]
  generalize (lg_sl ([.ref (bo 0), .int p1, .int p2] : List Value) ++ List.replicate (3 - (lg_sl ([.ref (bo 0), .int p1, .int p2] : List Value)).length) Slot.unset).toArray = ls at hl ⊢
  have hl : lv_has ls 3 [(0, .ref (bo 0)), (1, .int p1), (2, .int p2)] := hl
  unfold R_X3_spot at h
  refine lv_bipush (v := (24 : Int32)) hx hb dX3_spot_0 (by decide) ?_
  refine lv_iload_n hx hb dX3_spot_2 rfl (lv_at hl 1 rfl) ?_
  refine lv_imul hx hb dX3_spot_3 ?_
  refine lv_aload_n hx hb dX3_spot_4 rfl (lv_at hl 0 rfl) ?_
  refine va_get (D := D) (ci := 3) (v := .ref (bo 2)) (C := RX3) (T := TX3) (N := 7) hx hb hts iX3 hown hK hP 0 (SW_0 c5 bo bv zs) rfl 5 (by decide) (hts _ wT3_18) (fun _ h9 => h9) rfl dX3_spot_5 ?_
  refine lv_iload_n hx hb dX3_spot_8 rfl (lv_at hl 1 rfl) ?_
  obtain ⟨g9, h⟩ := o_if h
  refine ar_ld hx hb hK hP 2 4 (SW_2 c5 bo bv zs) rfl (inb_in g9) rfl dX3_spot_9 ?_
  refine lv_iconst (v := (1 : Int32)) hx hb dX3_spot_10 (by decide) ?_
  obtain ⟨g11, h⟩ := o_if h
  refine va_iald hx hb hK hP (4 + (p1.toNatClampNeg)) 3 (SW_H c5 bo bv zs (inb_lt g9)) rfl (inb_in g11) dX3_spot_11 ?_
  refine lv_iadd hx hb dX3_spot_12 ?_
  refine lv_iload_n hx hb dX3_spot_13 rfl (lv_at hl 2 rfl) ?_
  refine lv_aload_n hx hb dX3_spot_14 rfl (lv_at hl 0 rfl) ?_
  refine va_get (D := D) (ci := 3) (v := .ref (bo 1)) (C := RX3) (T := TX3) (N := 7) hx hb hts iX3 hown hK hP 0 (SW_0 c5 bo bv zs) rfl 4 (by decide) (hts _ wT3_16) (fun _ h9 => h9) rfl dX3_spot_15 ?_
  refine lv_aload_n hx hb dX3_spot_18 rfl (lv_at hl 0 rfl) ?_
  refine va_get (D := D) (ci := 3) (v := .ref (bo 2)) (C := RX3) (T := TX3) (N := 7) hx hb hts iX3 hown hK hP 0 (SW_0 c5 bo bv zs) rfl 5 (by decide) (hts _ wT3_18) (fun _ h9 => h9) rfl dX3_spot_19 ?_
  refine lv_iload_n hx hb dX3_spot_22 rfl (lv_at hl 1 rfl) ?_
  obtain ⟨g23, h⟩ := o_if h
  refine ar_ld hx hb hK hP 2 4 (SW_2 c5 bo bv zs) rfl (inb_in g23) rfl dX3_spot_23 ?_
  refine lv_iconst (v := (0 : Int32)) hx hb dX3_spot_24 (by decide) ?_
  obtain ⟨g25, h⟩ := o_if h
  refine va_iald hx hb hK hP (4 + (p1.toNatClampNeg)) 3 (SW_H c5 bo bv zs (inb_lt g23)) rfl (inb_in g25) dX3_spot_25 ?_
  obtain ⟨g26, h⟩ := o_if h
  refine ar_ld hx hb hK hP 1 4 (SW_1 c5 bo bv zs) rfl (inb_in g26) rfl dX3_spot_26 ?_
  refine lv_iconst (v := (0 : Int32)) hx hb dX3_spot_27 (by decide) ?_
  obtain ⟨g28, h⟩ := o_if h
  refine va_iald hx hb hK hP (28 + ((zH zs (p1.toNatClampNeg) ((0 : Int32).toNatClampNeg)).toNatClampNeg)) 3 (SW_K c5 bo bv zs (inb_lt g26)) rfl (inb_in g28) dX3_spot_28 ?_
  refine lv_imul hx hb dX3_spot_29 ?_
  refine lv_iadd hx hb dX3_spot_30 ?_
  exact ro_iret hx hb hr hlocks dX3_spot_31 (Option.some.inj h)
