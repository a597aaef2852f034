set_option maxHeartbeats 4000000 in
set_option maxRecDepth 100000 in
theorem c_X3_takes (l : Launch) (D : va_G) (c5 : Nat → ClassId) (bo : Nat → Nat) (bv : BV) (zs : SSt) (sz : Nat) (p1 : Int32) (r : Int32 × SSt) (h : R_X3_takes zs p1 = some r) : Met l yX3_takes (ws_ yX3_takes cX3_takes 4 (some .int)) { frames := 1, cells := 0, slots := 0, locals := 26 } (va_Pc [.ref (bo 0), .int p1] (swB D c5 (SW c5 bo bv zs) sz)) (va_Qi (fun x (u : BV × SSt) => x = r.1 ∧ u.2 = r.2) (rwE D (tyG c5) (va_A (SW c5 bo bv zs) sz) (fun u : BV × SSt => SW c5 bo u.1 u.2)) (va_A (SW c5 bo bv zs) sz)) 0 0 (va_A (SW c5 bo bv zs) sz) := by
  refine Met.ofW (cc := cX3_takes) (maxL := 4) (ret := (some .int)) (by decide) rfl ?_
  intro p e s m args below meth c s₁ B hml hv
  obtain ⟨rfl, hsz, hP, hK, hD0, hOI, hOZ⟩ := hv
  have hx := B.exec
  have hb := B.bytes
  have hr := B.returns
  have hts : ∀ w ∈ LA, w.before _ s = true := fun w hw => atoms_spec (ws := ws_ yX3_takes cX3_takes 4 (some .int)) B.pre w (List.mem_cons_of_mem _ hw)
  have hown : s.vm.findClass RX3 = some m.cls := findClass_of_methodNamed B.named
  have hlocks := B.notSynchronized
  subst hsz
  have hD := hD0.self (sz := s.heap.size)
  generalize hAe : va_A (SW c5 bo bv zs) s.heap.size = A at hD ⊢
  have hA : ∀ q : Nat, s.heap.size ≤ q → A q := fun q h => by rw [← hAe]; exact Or.inr h
  have hS : va_S A s.heap s.heap [] := va_S.rf
  have hl := lv_entry ([.ref (bo 0), .int p1] : List Value) (n := 4) (Nat.le_of_ble_eq_true rfl)
  rw [lg_entry_eq]
  generalize (lg_sl ([.ref (bo 0), .int p1] : List Value) ++ List.replicate (4 - (lg_sl ([.ref (bo 0), .int p1] : List Value)).length) Slot.unset).toArray = ls at hl ⊢
  have hl : lv_has ls 4 [(0, .ref (bo 0)), (1, .int p1)] := hl
  unfold R_X3_takes at h
  refine lv_iload_n hx hb dX3_takes_0 rfl (lv_at hl 1 rfl) ?_
  refine lv_bipush (v := (24 : Int32)) hx hb dX3_takes_1 (by decide) ?_
  refine lv_idiv hx hb dX3_takes_3 (by decide) ?_
  refine lv_istore_n (i := 2) (lv' := [(2, .int (p1 / (24 : Int32))), (0, .ref (bo 0)), (1, .int p1)]) hx hb dX3_takes_4 rfl hl (by decide) rfl (fun ls hl => ?_)
  refine lv_iconst (v := (0 : Int32)) hx hb dX3_takes_5 (by decide) ?_
  refine lv_istore_n (i := 3) (lv' := [(3, .int (0 : Int32)), (2, .int (p1 / (24 : Int32))), (0, .ref (bo 0)), (1, .int p1)]) hx hb dX3_takes_6 rfl hl (by decide) rfl (fun ls hl => ?_)
  have L7 : ∀ (n7 : Nat) (x3_7 : Int32) (ls : Array Slot), lv_has ls 4 [(3, .int x3_7), (2, .int (p1 / (24 : Int32))), (0, .ref (bo 0)), (1, .int p1)] → R_X3_takes_L7 zs p1 n7 x3_7 = some r → W p l e (headSpec (ws_ yX3_takes cX3_takes 4 (some .int)) { frames := 1, cells := 0, slots := 0, locals := 26 }).room s m ([.ref (bo 0), .int p1] : List Value).toArray below meth c s.heap [] (0) (0) (MQ below (va_Qi (fun x (u : BV × SSt) => x = r.1 ∧ u.2 = r.2) (rwE D (tyG c5) (A) (fun u : BV × SSt => SW c5 bo u.1 u.2)) (A)) ([.ref (bo 0), .int p1] : List Value).toArray s 0 0 A) (F0 m 7 ls []) := by
    intro n7
    induction n7 with
    | zero =>
      intro x3_7 ls hl h
      exact absurd h (by simp [R_X3_takes_L7])
    | succ n7 ih7 =>
      intro x3_7 ls hl h
      rw [R_X3_takes_L7] at h
      refine lv_iload_n hx hb dX3_takes_7 rfl (lv_at hl 0 rfl) ?_
      refine lv_aload_n hx hb dX3_takes_8 rfl (lv_at hl 2 rfl) ?_
      refine va_get (D := D) (ci := 3) (v := .ref (bo 3)) (C := RX3) (T := TX3) (N := 7) hx hb hts iX3 hown hK hP 0 (SW_0 c5 bo bv zs) rfl 6 (by decide) (hts _ wT3_19) (fun _ h9 => h9) rfl dX3_takes_9 ?_
      refine lv_iload_n hx hb dX3_takes_12 rfl (lv_at hl 1 rfl) ?_
      obtain ⟨g13, h⟩ := o_if h
      refine ar_ld hx hb hK hP 3 5 (SW_3 c5 bo bv zs) rfl (inb_in g13) rfl dX3_takes_13 ?_
      refine va_alen (v := (nI (zL zs ((p1 / (24 : Int32)).toNatClampNeg)))) hx hb hK hP (16 + ((p1 / (24 : Int32)).toNatClampNeg)) 2 (SW_B c5 bo bv zs (inb_lt g13)) rfl rfl dX3_takes_14 ?_
      refine lv_icmp_ge (tgt := 93) hx hb dX3_takes_15 (by decide) (fun q => ?_) (fun q => ?_)
      · have h := o_t h q
        refine lv_iconst (v := (-1 : Int32)) hx hb dX3_takes_93 (by decide) ?_
        obtain rfl := Option.some.inj h
        exact W.iret hx hb hr (fun t ht hW => ⟨⟨_, (bv, zs), rfl, ⟨rfl, rfl⟩, by rw [ht]; exact hP, va_K.moved hW.alike hK, hD⟩, hS.F ht⟩) hS.2.2 dX3_takes_94 hlocks
      · have h := o_f h q
        refine lv_aload_n hx hb dX3_takes_18 rfl (lv_at hl 2 rfl) ?_
        refine va_get (D := D) (ci := 3) (v := .ref (bo 3)) (C := RX3) (T := TX3) (N := 7) hx hb hts iX3 hown hK hP 0 (SW_0 c5 bo bv zs) rfl 6 (by decide) (hts _ wT3_19) (fun _ h9 => h9) rfl dX3_takes_19 ?_
        refine lv_iload_n hx hb dX3_takes_22 rfl (lv_at hl 1 rfl) ?_
        obtain ⟨g23, h⟩ := o_if h
        refine ar_ld hx hb hK hP 3 5 (SW_3 c5 bo bv zs) rfl (inb_in g23) rfl dX3_takes_23 ?_
        refine lv_iload_n hx hb dX3_takes_24 rfl (lv_at hl 0 rfl) ?_
        obtain ⟨g25, h⟩ := o_if h
        refine va_zald hx hb hK hP (16 + ((p1 / (24 : Int32)).toNatClampNeg)) 2 (SW_B c5 bo bv zs (inb_lt g23)) rfl (inb_in g25) dX3_takes_25 ?_
        refine lv_if_eq (tgt := 87) hx hb dX3_takes_26 (by decide) (fun q => ?_) (fun q => ?_)
        · have h := o_t h q
          refine lv_iinc (v := (x3_7 + (1 : Int32))) (lv' := [(3, .int (x3_7 + (1 : Int32))), (2, .int (p1 / (24 : Int32))), (0, .ref (bo 0)), (1, .int p1)]) hx hb dX3_takes_87 hl (k := 0) rfl rfl (by decide) rfl (fun ls hl => ?_)
          refine lv_goto (tgt := 7) hx hb dX3_takes_90 (by decide) ?_
          exact ih7 (x3_7 + (1 : Int32)) ls (lv_sub hl [0, 1, 2, 3] rfl) h
        · have h := o_f h q
          refine lv_aload_n hx hb dX3_takes_29 rfl (lv_at hl 2 rfl) ?_
          refine lv_iload_n hx hb dX3_takes_30 rfl (lv_at hl 1 rfl) ?_
          refine lv_iload_n hx hb dX3_takes_31 rfl (lv_at hl 0 rfl) ?_
          obtain ⟨v32, e32, h⟩ := o_bind h
          refine ro_calli (ro_runV (As := [.int (p1 / (24 : Int32)), .int x3_7]) (rest := []) ⟨hx, hb, hml, hown, hts⟩ hP hK (c_X3_spot l D c5 bo bv zs (p1 / (24 : Int32)) x3_7 v32 e32) gG_RX3_59 (va_recv hK hP (ci := 3) (q0 := 0) rfl (SW_0 c5 bo bv zs)) hd_X3_spot ⟨Nat.le_of_ble_eq_true rfl, Nat.le_of_ble_eq_true rfl⟩ ⟨rfl, rfl⟩ hl.1 (Nat.le_of_ble_eq_true rfl) dX3_takes_32 ⟨show 0 ≤ 0 by omega, show 0 ≤ 0 by omega⟩ rfl) ?_
          refine lv_iload_n hx hb dX3_takes_35 rfl (lv_at hl 3 rfl) ?_
          refine lv_icmp_eq (tgt := 42) hx hb dX3_takes_36 (by decide) (fun q => ?_) (fun q => ?_)
          · have h := o_t h q
            refine lv_aload_n hx hb dX3_takes_42 rfl (lv_at hl 2 rfl) ?_
            refine va_get (D := D) (ci := 3) (v := .ref (bo 3)) (C := RX3) (T := TX3) (N := 7) hx hb hts iX3 hown hK hP 0 (SW_0 c5 bo bv zs) rfl 6 (by decide) (hts _ wT3_19) (fun _ h9 => h9) rfl dX3_takes_43 ?_
            refine lv_iload_n hx hb dX3_takes_46 rfl (lv_at hl 1 rfl) ?_
            obtain ⟨g47, h⟩ := o_if h
            refine ar_ld hx hb hK hP 3 5 (SW_3 c5 bo bv zs) rfl (inb_in g47) rfl dX3_takes_47 ?_
            refine lv_iload_n hx hb dX3_takes_48 rfl (lv_at hl 0 rfl) ?_
            refine lv_iconst (v := (0 : Int32)) hx hb dX3_takes_49 (by decide) ?_
            obtain ⟨g50, h⟩ := o_if h
            obtain ⟨z50, ez50, h⟩ := o_bind h
            refine va_zast hx hb hK hP hD hS (16 + ((p1 / (24 : Int32)).toNatClampNeg)) 2 (SW_B c5 bo bv zs (inb_lt g47)) rfl (inb_in g50) dX3_takes_50 (fun H locs hP hD hS => ?_)
            have hP := wP (SW_setB c5 bo bv zs (inb_lt g47) _) hP
            have hD := wD (SW_setB c5 bo bv zs (inb_lt g47) _) hD
            have hP := wP (congrArg (fun y9 => SW c5 bo bv y9) (Option.some.inj ez50)) hP
            have hD := wD (congrArg (fun y9 => SW c5 bo bv y9) (Option.some.inj ez50)) hD
            refine lv_aload_n hx hb dX3_takes_51 rfl (lv_at hl 2 rfl) ?_
            refine lv_dup hx hb dX3_takes_52 rfl ?_
            refine va_get (D := D) (ci := 3) (v := .int (zF z50 0)) (C := RX3) (T := TX3) (N := 7) hx hb hts iX3 hown hK hP 0 (SW_0 c5 bo bv z50) rfl 0 (by decide) (hts _ wT3_11) (fun _ h9 => h9) rfl dX3_takes_53 ?_
            refine lv_iconst (v := (1 : Int32)) hx hb dX3_takes_56 (by decide) ?_
            refine lv_iadd hx hb dX3_takes_57 ?_
            obtain ⟨z58, ez58, h⟩ := o_bind h
            refine va_put (D := D) (ci := 3) (v := .int ((zF z50 0) + (1 : Int32))) (ty := .int) (C := RX3) (T := TX3) (N := 7) hx hb hts iX3 tyX3 tyX3_ok nmX3 hown hK hP hD hS 0 (SW_0 c5 bo bv z50) rfl 0 (by decide) (hts _ wT3_11) (fun _ h9 => h9) rfl (by decide +kernel) rfl rfl (Nat.le_of_ble_eq_true rfl) dX3_takes_58 (fun H locs hP hD hS => ?_)
            have hP := wP (SW_setF c5 bo bv z50 0 (by decide) _) hP
            have hD := wD (SW_setF c5 bo bv z50 0 (by decide) _) hD
            have hP := wP (congrArg (fun y9 => SW c5 bo bv y9) (Option.some.inj ez58)) hP
            have hD := wD (congrArg (fun y9 => SW c5 bo bv y9) (Option.some.inj ez58)) hD
            refine lv_aload_n hx hb dX3_takes_61 rfl (lv_at hl 2 rfl) ?_
            refine lv_iload_n hx hb dX3_takes_62 rfl (lv_at hl 1 rfl) ?_
            obtain ⟨v63, e63, h⟩ := o_bind h
            refine ro_calli (ro_runV (As := [.int (p1 / (24 : Int32))]) (rest := []) ⟨hx, hb, hml, hown, hts⟩ hP hK (c_X3_many l D c5 bo bv z58 (p1 / (24 : Int32)) v63 e63) gG_RX3_45 (va_recv hK hP (ci := 3) (q0 := 0) rfl (SW_0 c5 bo bv z58)) hd_X3_many ⟨Nat.le_of_ble_eq_true rfl, Nat.le_of_ble_eq_true rfl⟩ ⟨rfl, rfl⟩ hl.1 (Nat.le_of_ble_eq_true rfl) dX3_takes_63 ⟨show 0 ≤ 0 by omega, show 0 ≤ 0 by omega⟩ rfl) ?_
            obtain ⟨v66, e66, h⟩ := o_bind h
            have tn66 : ∀ (bv66 : BV) (H : Heap) (locs : List Loc) (ls : Array Slot), lv_has ls 4 [(3, .int x3_7), (2, .int (p1 / (24 : Int32))), (0, .ref (bo 0)), (1, .int p1)] → va_P D vwCl (SW c5 bo bv66 v66) H → va_D A (SW c5 bo bv66 v66) → va_S A s.heap H locs → W p l e (headSpec (ws_ yX3_takes cX3_takes 4 (some .int)) { frames := 1, cells := 0, slots := 0, locals := 26 }).room s m ([.ref (bo 0), .int p1] : List Value).toArray below meth c H locs (0) (0) (MQ below (va_Qi (fun x (u : BV × SSt) => x = r.1 ∧ u.2 = r.2) (rwE D (tyG c5) (A) (fun u : BV × SSt => SW c5 bo u.1 u.2)) (A)) ([.ref (bo 0), .int p1] : List Value).toArray s 0 0 A) (F0 m 81 ls []) := by
              intro bv66 H locs ls hl hP hD hS
              refine lv_aload_n hx hb dX3_takes_81 rfl (lv_at hl 2 rfl) ?_
              refine lv_iload_n hx hb dX3_takes_82 rfl (lv_at hl 1 rfl) ?_
              obtain ⟨v83, e83, h⟩ := o_bind h
              refine ro_calli (ro_runV (As := [.int (p1 / (24 : Int32))]) (rest := []) ⟨hx, hb, hml, hown, hts⟩ hP hK (c_X3_many l D c5 bo bv66 v66 (p1 / (24 : Int32)) v83 e83) gG_RX3_45 (va_recv hK hP (ci := 3) (q0 := 0) rfl (SW_0 c5 bo bv66 v66)) hd_X3_many ⟨Nat.le_of_ble_eq_true rfl, Nat.le_of_ble_eq_true rfl⟩ ⟨rfl, rfl⟩ hl.1 (Nat.le_of_ble_eq_true rfl) dX3_takes_83 ⟨show 0 ≤ 0 by omega, show 0 ≤ 0 by omega⟩ rfl) ?_
              obtain rfl := Option.some.inj h
              exact W.iret hx hb hr (fun t ht hW => ⟨⟨_, (bv66, v66), rfl, ⟨rfl, rfl⟩, by rw [ht]; exact hP, va_K.moved hW.alike hK, hD⟩, hS.F ht⟩) hS.2.2 dX3_takes_86 hlocks
            have h := e66
            refine lv_if_ne (tgt := 81) hx hb dX3_takes_66 (by decide) (fun q => ?_) (fun q => ?_)
            · have h := o_t' h q
              obtain rfl := Option.some.inj h
              exact tn66 bv H locs ls (lv_sub hl [0, 1, 2, 3] rfl) hP hD hS
            · have h := o_f' h q
              refine lv_aload_n hx hb dX3_takes_69 rfl (lv_at hl 2 rfl) ?_
              refine va_get (D := D) (ci := 3) (v := .ref (bo 2)) (C := RX3) (T := TX3) (N := 7) hx hb hts iX3 hown hK hP 0 (SW_0 c5 bo bv z58) rfl 5 (by decide) (hts _ wT3_18) (fun _ h9 => h9) rfl dX3_takes_70 ?_
              refine lv_iload_n hx hb dX3_takes_73 rfl (lv_at hl 1 rfl) ?_
              obtain ⟨g74, h⟩ := o_if h
              refine ar_ld hx hb hK hP 2 4 (SW_2 c5 bo bv z58) rfl (inb_in g74) rfl dX3_takes_74 ?_
              refine lv_iconst (v := (2 : Int32)) hx hb dX3_takes_75 (by decide) ?_
              refine lv_aload_n hx hb dX3_takes_76 rfl (lv_at hl 2 rfl) ?_
              refine va_get (D := D) (ci := 3) (v := .int (zF z58 0)) (C := RX3) (T := TX3) (N := 7) hx hb hts iX3 hown hK hP 0 (SW_0 c5 bo bv z58) rfl 0 (by decide) (hts _ wT3_11) (fun _ h9 => h9) rfl dX3_takes_77 ?_
              obtain ⟨g80, h⟩ := o_if h
              obtain ⟨z80, ez80, h⟩ := o_bind h
              refine va_iast hx hb hK hP hD hS (4 + ((p1 / (24 : Int32)).toNatClampNeg)) 3 (SW_H c5 bo bv z58 (inb_lt g74)) rfl (inb_in g80) dX3_takes_80 (fun H locs hP hD hS => ?_)
              have hP := wP (SW_setH c5 bo bv z58 (inb_lt g74) _) hP
              have hD := wD (SW_setH c5 bo bv z58 (inb_lt g74) _) hD
              have hP := wP (congrArg (fun y9 => SW c5 bo bv y9) (Option.some.inj ez80)) hP
              have hD := wD (congrArg (fun y9 => SW c5 bo bv y9) (Option.some.inj ez80)) hD
              obtain rfl := Option.some.inj h
              exact tn66 bv H locs ls (lv_sub hl [0, 1, 2, 3] rfl) hP hD hS
          · have h := o_f h q
            refine lv_goto (tgt := 87) hx hb dX3_takes_39 (by decide) ?_
            refine lv_iinc (v := (x3_7 + (1 : Int32))) (lv' := [(3, .int (x3_7 + (1 : Int32))), (2, .int (p1 / (24 : Int32))), (0, .ref (bo 0)), (1, .int p1)]) hx hb dX3_takes_87 hl (k := 0) rfl rfl (by decide) rfl (fun ls hl => ?_)
            refine lv_goto (tgt := 7) hx hb dX3_takes_90 (by decide) ?_
            exact ih7 (x3_7 + (1 : Int32)) ls (lv_sub hl [0, 1, 2, 3] rfl) h
  exact L7 FU (0 : Int32) ls (lv_sub hl [0, 1, 2, 3] rfl) h
set_option maxHeartbeats 4000000 in
set_option maxRecDepth 100000 in
theorem c_X3_packs (l : Launch) (D : va_G) (c5 : Nat → ClassId) (bo : Nat → Nat) (bv : BV) (zs : SSt) (sz : Nat) (p1 : Int32) (r : Int32 × SSt) (h : R_X3_packs zs p1 = some r) : Met l yX3_packs (ws_ yX3_packs cX3_packs 6 (some .int)) { frames := 2, cells := 0, slots := 0, locals := 48 } (va_Pc [.ref (bo 0), .int p1] (swB D c5 (SW c5 bo bv zs) sz)) (va_Qi (fun x (u : BV × SSt) => x = r.1 ∧ u.2 = r.2) (rwE D (tyG c5) (va_A (SW c5 bo bv zs) sz) (fun u : BV × SSt => SW c5 bo u.1 u.2)) (va_A (SW c5 bo bv zs) sz)) 0 0 (va_A (SW c5 bo bv zs) sz) := by
  refine Met.ofW (cc := cX3_packs) (maxL := 6) (ret := (some .int)) (by decide) rfl ?_
  intro p e s m args below meth c s₁ B hml hv
  obtain ⟨rfl, hsz, hP, hK, hD0, hOI, hOZ⟩ := hv
  have hx := B.exec
  have hb := B.bytes
  have hr := B.returns
  have hts : ∀ w ∈ LA, w.before _ s = true := fun w hw => atoms_spec (ws := ws_ yX3_packs cX3_packs 6 (some .int)) B.pre w (List.mem_cons_of_mem _ hw)
  have hown : s.vm.findClass RX3 = some m.cls := findClass_of_methodNamed B.named
  have hlocks := B.notSynchronized
  subst hsz
  have hD := hD0.self (sz := s.heap.size)
  generalize hAe : va_A (SW c5 bo bv zs) s.heap.size = A at hD ⊢
  have hA : ∀ q : Nat, s.heap.size ≤ q → A q := fun q h => by rw [← hAe]; exact Or.inr h
  have hS : va_S A s.heap s.heap [] := va_S.rf
  have hl := lv_entry ([.ref (bo 0), .int p1] : List Value) (n := 6) (Nat.le_of_ble_eq_true rfl)
  rw [lg_entry_eq]
  generalize (lg_sl ([.ref (bo 0), .int p1] : List Value) ++ List.replicate (6 - (lg_sl ([.ref (bo 0), .int p1] : List Value)).length) Slot.unset).toArray = ls at hl ⊢
  have hl : lv_has ls 6 [(0, .ref (bo 0)), (1, .int p1)] := hl
  unfold R_X3_packs at h
  refine lv_iconst (v := (0 : Int32)) hx hb dX3_packs_0 (by decide) ?_
  refine lv_istore_n (i := 2) (lv' := [(2, .int (0 : Int32)), (0, .ref (bo 0)), (1, .int p1)]) hx hb dX3_packs_1 rfl hl (by decide) rfl (fun ls hl => ?_)
  have L2 : ∀ (n2 : Nat) (bv2 : BV) (H : Heap) (locs : List Loc) (zs2 : SSt) (x2_2 : Int32) (ls : Array Slot), lv_has ls 6 [(2, .int x2_2), (0, .ref (bo 0)), (1, .int p1)] → va_P D vwCl (SW c5 bo bv2 zs2) H → va_D A (SW c5 bo bv2 zs2) → va_S A s.heap H locs → R_X3_packs_L2 p1 n2 zs2 x2_2 = some r → W p l e (headSpec (ws_ yX3_packs cX3_packs 6 (some .int)) { frames := 2, cells := 0, slots := 0, locals := 48 }).room s m ([.ref (bo 0), .int p1] : List Value).toArray below meth c H locs (0) (0) (MQ below (va_Qi (fun x (u : BV × SSt) => x = r.1 ∧ u.2 = r.2) (rwE D (tyG c5) (A) (fun u : BV × SSt => SW c5 bo u.1 u.2)) (A)) ([.ref (bo 0), .int p1] : List Value).toArray s 0 0 A) (F0 m 2 ls []) := by
    intro n2
    induction n2 with
    | zero =>
      intro bv2 H locs zs2 x2_2 ls hl hP hD hS h
      exact absurd h (by simp [R_X3_packs_L2])
    | succ n2 ih2 =>
      intro bv2 H locs zs2 x2_2 ls hl hP hD hS h
      rw [R_X3_packs_L2] at h
      refine lv_iconst (v := (-1 : Int32)) hx hb dX3_packs_2 (by decide) ?_
      refine lv_istore_n (i := 3) (lv' := [(3, .int (-1 : Int32)), (2, .int x2_2), (0, .ref (bo 0)), (1, .int p1)]) hx hb dX3_packs_3 rfl hl (by decide) rfl (fun ls hl => ?_)
      refine lv_iconst (v := (-1 : Int32)) hx hb dX3_packs_4 (by decide) ?_
      refine lv_istore (i := 4) (lv' := [(4, .int (-1 : Int32)), (3, .int (-1 : Int32)), (2, .int x2_2), (0, .ref (bo 0)), (1, .int p1)]) hx hb dX3_packs_5 hl (by decide) rfl (fun ls hl => ?_)
      refine lv_iconst (v := (0 : Int32)) hx hb dX3_packs_7 (by decide) ?_
      refine lv_istore (i := 5) (lv' := [(5, .int (0 : Int32)), (4, .int (-1 : Int32)), (3, .int (-1 : Int32)), (2, .int x2_2), (0, .ref (bo 0)), (1, .int p1)]) hx hb dX3_packs_8 hl (by decide) rfl (fun ls hl => ?_)
      obtain ⟨v10, e10, h⟩ := o_bind h
      have L10 : ∀ (n10 : Nat) (x5_10 : Int32) (x3_10 : Int32) (v9 : Int32 × Int32) (ls : Array Slot), lv_has ls 6 [(5, .int x5_10), (4, .int (-1 : Int32)), (3, .int x3_10), (2, .int x2_2), (0, .ref (bo 0)), (1, .int p1)] → R_X3_packs_L10 p1 zs2 n10 x5_10 x3_10 = some v9 → (∀ (ls : Array Slot), lv_has ls 6 [(5, .int v9.1), (4, .int (-1 : Int32)), (3, .int v9.2), (2, .int x2_2), (0, .ref (bo 0)), (1, .int p1)] → W p l e (headSpec (ws_ yX3_packs cX3_packs 6 (some .int)) { frames := 2, cells := 0, slots := 0, locals := 48 }).room s m ([.ref (bo 0), .int p1] : List Value).toArray below meth c H locs (0) (0) (MQ below (va_Qi (fun x (u : BV × SSt) => x = r.1 ∧ u.2 = r.2) (rwE D (tyG c5) (A) (fun u : BV × SSt => SW c5 bo u.1 u.2)) (A)) ([.ref (bo 0), .int p1] : List Value).toArray s 0 0 A) (F0 m 54 ls [])) → W p l e (headSpec (ws_ yX3_packs cX3_packs 6 (some .int)) { frames := 2, cells := 0, slots := 0, locals := 48 }).room s m ([.ref (bo 0), .int p1] : List Value).toArray below meth c H locs (0) (0) (MQ below (va_Qi (fun x (u : BV × SSt) => x = r.1 ∧ u.2 = r.2) (rwE D (tyG c5) (A) (fun u : BV × SSt => SW c5 bo u.1 u.2)) (A)) ([.ref (bo 0), .int p1] : List Value).toArray s 0 0 A) (F0 m 10 ls []) := by
        intro n10
        induction n10 with
        | zero =>
          intro x5_10 x3_10 v9 ls hl h kx
          exact absurd h (by simp [R_X3_packs_L10])
        | succ n10 ih10 =>
          intro x5_10 x3_10 v9 ls hl h kx
          rw [R_X3_packs_L10] at h
          refine lv_iload hx hb dX3_packs_10 (lv_at hl 0 rfl) ?_
          refine lv_bipush (v := (12 : Int32)) hx hb dX3_packs_12 (by decide) ?_
          refine lv_icmp_ge (tgt := 54) hx hb dX3_packs_14 (by decide) (fun q => ?_) (fun q => ?_)
          · have h := o_t h q
            obtain rfl := Option.some.inj h
            exact kx ls (lv_sub hl [0, 1, 2, 3, 4, 5] rfl)
          · have h := o_f h q
            refine lv_aload_n hx hb dX3_packs_17 rfl (lv_at hl 4 rfl) ?_
            refine lv_iload hx hb dX3_packs_18 (lv_at hl 0 rfl) ?_
            refine lv_iload_n hx hb dX3_packs_20 rfl (lv_at hl 5 rfl) ?_
            obtain ⟨v21, e21, h⟩ := o_bind h
            refine ro_calli (ro_runV (As := [.int x5_10, .int p1]) (rest := []) ⟨hx, hb, hml, hown, hts⟩ hP hK (c_X3_isUsed l D c5 bo bv2 zs2 x5_10 p1 v21 e21) gG_RX3_49 (va_recv hK hP (ci := 3) (q0 := 0) rfl (SW_0 c5 bo bv2 zs2)) hd_X3_isUsed ⟨Nat.le_of_ble_eq_true rfl, Nat.le_of_ble_eq_true rfl⟩ ⟨rfl, rfl⟩ hl.1 (Nat.le_of_ble_eq_true rfl) dX3_packs_21 ⟨show 0 ≤ 0 by omega, show 0 ≤ 0 by omega⟩ rfl) ?_
            obtain ⟨v24, e24, h⟩ := o_bind h
            have tn24 : ∀ (ls : Array Slot), lv_has ls 6 [(5, .int x5_10), (4, .int (-1 : Int32)), (3, .int v24), (2, .int x2_2), (0, .ref (bo 0)), (1, .int p1)] → W p l e (headSpec (ws_ yX3_packs cX3_packs 6 (some .int)) { frames := 2, cells := 0, slots := 0, locals := 48 }).room s m ([.ref (bo 0), .int p1] : List Value).toArray below meth c H locs (0) (0) (MQ below (va_Qi (fun x (u : BV × SSt) => x = r.1 ∧ u.2 = r.2) (rwE D (tyG c5) (A) (fun u : BV × SSt => SW c5 bo u.1 u.2)) (A)) ([.ref (bo 0), .int p1] : List Value).toArray s 0 0 A) (F0 m 48 ls []) := by
              intro ls hl
              refine lv_iinc (v := (x5_10 + (1 : Int32))) (lv' := [(5, .int (x5_10 + (1 : Int32))), (4, .int (-1 : Int32)), (3, .int v24), (2, .int x2_2), (0, .ref (bo 0)), (1, .int p1)]) hx hb dX3_packs_48 hl (k := 0) rfl rfl (by decide) rfl (fun ls hl => ?_)
              refine lv_goto (tgt := 10) hx hb dX3_packs_51 (by decide) ?_
              exact ih10 (x5_10 + (1 : Int32)) v24 v9 ls (lv_sub hl [0, 1, 2, 3, 4, 5] rfl) h kx
            have h := e24
            refine lv_if_eq (tgt := 48) hx hb dX3_packs_24 (by decide) (fun q => ?_) (fun q => ?_)
            · have h := o_t h q
              obtain rfl := Option.some.inj h
              exact tn24 ls (lv_sub hl [0, 1, 2, 3, 4, 5] rfl)
            · have h := o_f h q
              refine lv_iload_n hx hb dX3_packs_27 rfl (lv_at hl 2 rfl) ?_
              refine lv_if_lt (tgt := 45) hx hb dX3_packs_28 (by decide) (fun q => ?_) (fun q => ?_)
              · have h := o_t h q
                refine lv_iload hx hb dX3_packs_45 (lv_at hl 0 rfl) ?_
                refine lv_istore_n (i := 3) (lv' := [(3, .int x5_10), (5, .int x5_10), (4, .int (-1 : Int32)), (2, .int x2_2), (0, .ref (bo 0)), (1, .int p1)]) hx hb dX3_packs_47 rfl hl (by decide) rfl (fun ls hl => ?_)
                obtain rfl := Option.some.inj h
                exact tn24 ls (lv_sub hl [1, 2, 0, 3, 4, 5] rfl)
              · have h := o_f h q
                refine lv_aload_n hx hb dX3_packs_31 rfl (lv_at hl 4 rfl) ?_
                refine lv_iload hx hb dX3_packs_32 (lv_at hl 0 rfl) ?_
                obtain ⟨v34, e34, h⟩ := o_bind h
                refine ro_calli (ro_runV (As := [.int x5_10]) (rest := []) ⟨hx, hb, hml, hown, hts⟩ hP hK (c_X3_many l D c5 bo bv2 zs2 x5_10 v34 e34) gG_RX3_45 (va_recv hK hP (ci := 3) (q0 := 0) rfl (SW_0 c5 bo bv2 zs2)) hd_X3_many ⟨Nat.le_of_ble_eq_true rfl, Nat.le_of_ble_eq_true rfl⟩ ⟨rfl, rfl⟩ hl.1 (Nat.le_of_ble_eq_true rfl) dX3_packs_34 ⟨show 0 ≤ 0 by omega, show 0 ≤ 0 by omega⟩ rfl) ?_
                refine lv_aload_n hx hb dX3_packs_37 rfl (lv_at hl 4 rfl) ?_
                refine lv_iload_n hx hb dX3_packs_38 rfl (lv_at hl 2 rfl) ?_
                obtain ⟨v39, e39, h⟩ := o_bind h
                refine ro_calli (ro_runV (As := [.int x3_10]) (rest := [.int v34]) ⟨hx, hb, hml, hown, hts⟩ hP hK (c_X3_many l D c5 bo bv2 zs2 x3_10 v39 e39) gG_RX3_45 (va_recv hK hP (ci := 3) (q0 := 0) rfl (SW_0 c5 bo bv2 zs2)) hd_X3_many ⟨Nat.le_of_ble_eq_true rfl, Nat.le_of_ble_eq_true rfl⟩ ⟨rfl, rfl⟩ hl.1 (Nat.le_of_ble_eq_true rfl) dX3_packs_39 ⟨show 0 ≤ 0 by omega, show 0 ≤ 0 by omega⟩ rfl) ?_
                refine lv_icmp_gt (tgt := 48) hx hb dX3_packs_42 (by decide) (fun q => ?_) (fun q => ?_)
                · have h := o_t h q
                  obtain rfl := Option.some.inj h
                  exact tn24 ls (lv_sub hl [0, 1, 2, 3, 4, 5] rfl)
                · have h := o_f h q
                  refine lv_iload hx hb dX3_packs_45 (lv_at hl 0 rfl) ?_
                  refine lv_istore_n (i := 3) (lv' := [(3, .int x5_10), (5, .int x5_10), (4, .int (-1 : Int32)), (2, .int x2_2), (0, .ref (bo 0)), (1, .int p1)]) hx hb dX3_packs_47 rfl hl (by decide) rfl (fun ls hl => ?_)
                  obtain rfl := Option.some.inj h
                  exact tn24 ls (lv_sub hl [1, 2, 0, 3, 4, 5] rfl)
      refine L10 FU (0 : Int32) (-1 : Int32) v10 ls (lv_sub hl [0, 1, 2, 3, 4, 5] rfl) e10 (fun ls hl => ?_)
      refine lv_bipush (v := (11 : Int32)) hx hb dX3_packs_54 (by decide) ?_
      refine lv_istore (i := 5) (lv' := [(5, .int (11 : Int32)), (4, .int (-1 : Int32)), (3, .int v10.2), (2, .int x2_2), (0, .ref (bo 0)), (1, .int p1)]) hx hb dX3_packs_56 hl (by decide) rfl (fun ls hl => ?_)
      obtain ⟨v58, e58, h⟩ := o_bind h
      have L58 : ∀ (n58 : Nat) (x5_58 : Int32) (x4_58 : Int32) (v9 : Int32 × Int32) (ls : Array Slot), lv_has ls 6 [(5, .int x5_58), (4, .int x4_58), (3, .int v10.2), (2, .int x2_2), (0, .ref (bo 0)), (1, .int p1)] → R_X3_packs_L58 p1 zs2 v10 n58 x5_58 x4_58 = some v9 → (∀ (ls : Array Slot), lv_has ls 6 [(5, .int v9.1), (4, .int v9.2), (3, .int v10.2), (2, .int x2_2), (0, .ref (bo 0)), (1, .int p1)] → W p l e (headSpec (ws_ yX3_packs cX3_packs 6 (some .int)) { frames := 2, cells := 0, slots := 0, locals := 48 }).room s m ([.ref (bo 0), .int p1] : List Value).toArray below meth c H locs (0) (0) (MQ below (va_Qi (fun x (u : BV × SSt) => x = r.1 ∧ u.2 = r.2) (rwE D (tyG c5) (A) (fun u : BV × SSt => SW c5 bo u.1 u.2)) (A)) ([.ref (bo 0), .int p1] : List Value).toArray s 0 0 A) (F0 m 109 ls [])) → W p l e (headSpec (ws_ yX3_packs cX3_packs 6 (some .int)) { frames := 2, cells := 0, slots := 0, locals := 48 }).room s m ([.ref (bo 0), .int p1] : List Value).toArray below meth c H locs (0) (0) (MQ below (va_Qi (fun x (u : BV × SSt) => x = r.1 ∧ u.2 = r.2) (rwE D (tyG c5) (A) (fun u : BV × SSt => SW c5 bo u.1 u.2)) (A)) ([.ref (bo 0), .int p1] : List Value).toArray s 0 0 A) (F0 m 58 ls []) := by
        intro n58
        induction n58 with
        | zero =>
          intro x5_58 x4_58 v9 ls hl h kx
          exact absurd h (by simp [R_X3_packs_L58])
        | succ n58 ih58 =>
          intro x5_58 x4_58 v9 ls hl h kx
          rw [R_X3_packs_L58] at h
          refine lv_iload hx hb dX3_packs_58 (lv_at hl 0 rfl) ?_
          refine lv_if_lt (tgt := 109) hx hb dX3_packs_60 (by decide) (fun q => ?_) (fun q => ?_)
          · have h := o_t h q
            obtain rfl := Option.some.inj h
            exact kx ls (lv_sub hl [0, 1, 2, 3, 4, 5] rfl)
          · have h := o_f h q
            refine lv_iload hx hb dX3_packs_63 (lv_at hl 0 rfl) ?_
            refine lv_iload_n hx hb dX3_packs_65 rfl (lv_at hl 2 rfl) ?_
            obtain ⟨v66, e66, h⟩ := o_bind h
            have tn66 : ∀ (ls : Array Slot), lv_has ls 6 [(5, .int x5_58), (4, .int v66), (3, .int v10.2), (2, .int x2_2), (0, .ref (bo 0)), (1, .int p1)] → W p l e (headSpec (ws_ yX3_packs cX3_packs 6 (some .int)) { frames := 2, cells := 0, slots := 0, locals := 48 }).room s m ([.ref (bo 0), .int p1] : List Value).toArray below meth c H locs (0) (0) (MQ below (va_Qi (fun x (u : BV × SSt) => x = r.1 ∧ u.2 = r.2) (rwE D (tyG c5) (A) (fun u : BV × SSt => SW c5 bo u.1 u.2)) (A)) ([.ref (bo 0), .int p1] : List Value).toArray s 0 0 A) (F0 m 103 ls []) := by
              intro ls hl
              refine lv_iinc (v := (x5_58 + (-1 : Int32))) (lv' := [(5, .int (x5_58 + (-1 : Int32))), (4, .int v66), (3, .int v10.2), (2, .int x2_2), (0, .ref (bo 0)), (1, .int p1)]) hx hb dX3_packs_103 hl (k := 0) rfl rfl (by decide) rfl (fun ls hl => ?_)
              refine lv_goto (tgt := 58) hx hb dX3_packs_106 (by decide) ?_
              exact ih58 (x5_58 + (-1 : Int32)) v66 v9 ls (lv_sub hl [0, 1, 2, 3, 4, 5] rfl) h kx
            have h := e66
            refine lv_icmp_eq (tgt := 103) hx hb dX3_packs_66 (by decide) (fun q => ?_) (fun q => ?_)
            · have h := o_t h q
              obtain rfl := Option.some.inj h
              exact tn66 ls (lv_sub hl [0, 1, 2, 3, 4, 5] rfl)
            · have h := o_f h q
              refine lv_aload_n hx hb dX3_packs_69 rfl (lv_at hl 4 rfl) ?_
              refine lv_iload hx hb dX3_packs_70 (lv_at hl 0 rfl) ?_
              refine lv_iload_n hx hb dX3_packs_72 rfl (lv_at hl 5 rfl) ?_
              obtain ⟨v73, e73, h⟩ := o_bind h
              refine ro_calli (ro_runV (As := [.int x5_58, .int p1]) (rest := []) ⟨hx, hb, hml, hown, hts⟩ hP hK (c_X3_isUsed l D c5 bo bv2 zs2 x5_58 p1 v73 e73) gG_RX3_49 (va_recv hK hP (ci := 3) (q0 := 0) rfl (SW_0 c5 bo bv2 zs2)) hd_X3_isUsed ⟨Nat.le_of_ble_eq_true rfl, Nat.le_of_ble_eq_true rfl⟩ ⟨rfl, rfl⟩ hl.1 (Nat.le_of_ble_eq_true rfl) dX3_packs_73 ⟨show 0 ≤ 0 by omega, show 0 ≤ 0 by omega⟩ rfl) ?_
              refine lv_if_eq (tgt := 103) hx hb dX3_packs_76 (by decide) (fun q => ?_) (fun q => ?_)
              · have h := o_t h q
                obtain rfl := Option.some.inj h
                exact tn66 ls (lv_sub hl [0, 1, 2, 3, 4, 5] rfl)
              · have h := o_f h q
                refine lv_iload hx hb dX3_packs_79 (lv_at hl 1 rfl) ?_
                refine lv_if_lt (tgt := 99) hx hb dX3_packs_81 (by decide) (fun q => ?_) (fun q => ?_)
                · have h := o_t h q
                  refine lv_iload hx hb dX3_packs_99 (lv_at hl 0 rfl) ?_
                  refine lv_istore (i := 4) (lv' := [(4, .int x5_58), (5, .int x5_58), (3, .int v10.2), (2, .int x2_2), (0, .ref (bo 0)), (1, .int p1)]) hx hb dX3_packs_101 hl (by decide) rfl (fun ls hl => ?_)
                  obtain rfl := Option.some.inj h
                  exact tn66 ls (lv_sub hl [1, 0, 2, 3, 4, 5] rfl)
                · have h := o_f h q
                  refine lv_aload_n hx hb dX3_packs_84 rfl (lv_at hl 4 rfl) ?_
                  refine lv_iload hx hb dX3_packs_85 (lv_at hl 0 rfl) ?_
                  obtain ⟨v87, e87, h⟩ := o_bind h
                  refine ro_calli (ro_runV (As := [.int x5_58]) (rest := []) ⟨hx, hb, hml, hown, hts⟩ hP hK (c_X3_many l D c5 bo bv2 zs2 x5_58 v87 e87) gG_RX3_45 (va_recv hK hP (ci := 3) (q0 := 0) rfl (SW_0 c5 bo bv2 zs2)) hd_X3_many ⟨Nat.le_of_ble_eq_true rfl, Nat.le_of_ble_eq_true rfl⟩ ⟨rfl, rfl⟩ hl.1 (Nat.le_of_ble_eq_true rfl) dX3_packs_87 ⟨show 0 ≤ 0 by omega, show 0 ≤ 0 by omega⟩ rfl) ?_
                  refine lv_aload_n hx hb dX3_packs_90 rfl (lv_at hl 4 rfl) ?_
                  refine lv_iload hx hb dX3_packs_91 (lv_at hl 1 rfl) ?_
                  obtain ⟨v93, e93, h⟩ := o_bind h
                  refine ro_calli (ro_runV (As := [.int x4_58]) (rest := [.int v87]) ⟨hx, hb, hml, hown, hts⟩ hP hK (c_X3_many l D c5 bo bv2 zs2 x4_58 v93 e93) gG_RX3_45 (va_recv hK hP (ci := 3) (q0 := 0) rfl (SW_0 c5 bo bv2 zs2)) hd_X3_many ⟨Nat.le_of_ble_eq_true rfl, Nat.le_of_ble_eq_true rfl⟩ ⟨rfl, rfl⟩ hl.1 (Nat.le_of_ble_eq_true rfl) dX3_packs_93 ⟨show 0 ≤ 0 by omega, show 0 ≤ 0 by omega⟩ rfl) ?_
                  refine lv_icmp_lt (tgt := 103) hx hb dX3_packs_96 (by decide) (fun q => ?_) (fun q => ?_)
                  · have h := o_t h q
                    obtain rfl := Option.some.inj h
                    exact tn66 ls (lv_sub hl [0, 1, 2, 3, 4, 5] rfl)
                  · have h := o_f h q
                    refine lv_iload hx hb dX3_packs_99 (lv_at hl 0 rfl) ?_
                    refine lv_istore (i := 4) (lv' := [(4, .int x5_58), (5, .int x5_58), (3, .int v10.2), (2, .int x2_2), (0, .ref (bo 0)), (1, .int p1)]) hx hb dX3_packs_101 hl (by decide) rfl (fun ls hl => ?_)
                    obtain rfl := Option.some.inj h
                    exact tn66 ls (lv_sub hl [1, 0, 2, 3, 4, 5] rfl)
      refine L58 FU (11 : Int32) (-1 : Int32) v58 ls (lv_sub hl [0, 1, 2, 3, 4, 5] rfl) e58 (fun ls hl => ?_)
      refine lv_iload hx hb dX3_packs_109 (lv_at hl 1 rfl) ?_
      refine lv_if_ge (tgt := 116) hx hb dX3_packs_111 (by decide) (fun q => ?_) (fun q => ?_)
      · have h := o_t h q
        refine lv_aload_n hx hb dX3_packs_116 rfl (lv_at hl 4 rfl) ?_
        refine va_get (D := D) (ci := 3) (v := .ref (bo 3)) (C := RX3) (T := TX3) (N := 7) hx hb hts iX3 hown hK hP 0 (SW_0 c5 bo bv2 zs2) rfl 6 (by decide) (hts _ wT3_19) (fun _ h9 => h9) rfl dX3_packs_117 ?_
        refine lv_iload_n hx hb dX3_packs_120 rfl (lv_at hl 2 rfl) ?_
        obtain ⟨g121, h⟩ := o_if h
        refine ar_ld hx hb hK hP 3 5 (SW_3 c5 bo bv2 zs2) rfl (inb_in g121) rfl dX3_packs_121 ?_
        refine va_alen (v := (nI (zL zs2 (v10.2.toNatClampNeg)))) hx hb hK hP (16 + (v10.2.toNatClampNeg)) 2 (SW_B c5 bo bv2 zs2 (inb_lt g121)) rfl rfl dX3_packs_122 ?_
        refine lv_iconst (v := (1 : Int32)) hx hb dX3_packs_123 (by decide) ?_
        refine lv_isub hx hb dX3_packs_124 ?_
        refine lv_istore (i := 5) (lv' := [(5, .int ((nI (zL zs2 (v10.2.toNatClampNeg))) - (1 : Int32))), (4, .int v58.2), (3, .int v10.2), (2, .int x2_2), (0, .ref (bo 0)), (1, .int p1)]) hx hb dX3_packs_125 hl (by decide) rfl (fun ls hl => ?_)
        obtain ⟨v127, e127, h⟩ := o_bind h
        have L127 : ∀ (n127 : Nat) (x5_127 : Int32) (v9 : Int32) (ls : Array Slot), lv_has ls 6 [(5, .int x5_127), (4, .int v58.2), (3, .int v10.2), (2, .int x2_2), (0, .ref (bo 0)), (1, .int p1)] → R_X3_packs_L127 zs2 v10 n127 x5_127 = some v9 → (∀ (ls : Array Slot), lv_has ls 6 [(5, .int v9), (4, .int v58.2), (3, .int v10.2), (2, .int x2_2), (0, .ref (bo 0)), (1, .int p1)] → W p l e (headSpec (ws_ yX3_packs cX3_packs 6 (some .int)) { frames := 2, cells := 0, slots := 0, locals := 48 }).room s m ([.ref (bo 0), .int p1] : List Value).toArray below meth c H locs (0) (0) (MQ below (va_Qi (fun x (u : BV × SSt) => x = r.1 ∧ u.2 = r.2) (rwE D (tyG c5) (A) (fun u : BV × SSt => SW c5 bo u.1 u.2)) (A)) ([.ref (bo 0), .int p1] : List Value).toArray s 0 0 A) (F0 m 145 ls [])) → W p l e (headSpec (ws_ yX3_packs cX3_packs 6 (some .int)) { frames := 2, cells := 0, slots := 0, locals := 48 }).room s m ([.ref (bo 0), .int p1] : List Value).toArray below meth c H locs (0) (0) (MQ below (va_Qi (fun x (u : BV × SSt) => x = r.1 ∧ u.2 = r.2) (rwE D (tyG c5) (A) (fun u : BV × SSt => SW c5 bo u.1 u.2)) (A)) ([.ref (bo 0), .int p1] : List Value).toArray s 0 0 A) (F0 m 127 ls []) := by
          intro n127
          induction n127 with
          | zero =>
            intro x5_127 v9 ls hl h kx
            exact absurd h (by simp [R_X3_packs_L127])
          | succ n127 ih127 =>
            intro x5_127 v9 ls hl h kx
            rw [R_X3_packs_L127] at h
            refine lv_aload_n hx hb dX3_packs_127 rfl (lv_at hl 4 rfl) ?_
            refine va_get (D := D) (ci := 3) (v := .ref (bo 3)) (C := RX3) (T := TX3) (N := 7) hx hb hts iX3 hown hK hP 0 (SW_0 c5 bo bv2 zs2) rfl 6 (by decide) (hts _ wT3_19) (fun _ h9 => h9) rfl dX3_packs_128 ?_
            refine lv_iload_n hx hb dX3_packs_131 rfl (lv_at hl 2 rfl) ?_
            obtain ⟨g132, h⟩ := o_if h
            refine ar_ld hx hb hK hP 3 5 (SW_3 c5 bo bv2 zs2) rfl (inb_in g132) rfl dX3_packs_132 ?_
            refine lv_iload hx hb dX3_packs_133 (lv_at hl 0 rfl) ?_
            obtain ⟨g135, h⟩ := o_if h
            refine va_zald hx hb hK hP (16 + (v10.2.toNatClampNeg)) 2 (SW_B c5 bo bv2 zs2 (inb_lt g132)) rfl (inb_in g135) dX3_packs_135 ?_
            refine lv_if_ne (tgt := 145) hx hb dX3_packs_136 (by decide) (fun q => ?_) (fun q => ?_)
            · have h := o_t' h q
              obtain rfl := Option.some.inj h
              exact kx ls (lv_sub hl [0, 1, 2, 3, 4, 5] rfl)
            · have h := o_f' h q
              refine lv_iinc (v := (x5_127 + (-1 : Int32))) (lv' := [(5, .int (x5_127 + (-1 : Int32))), (4, .int v58.2), (3, .int v10.2), (2, .int x2_2), (0, .ref (bo 0)), (1, .int p1)]) hx hb dX3_packs_139 hl (k := 0) rfl rfl (by decide) rfl (fun ls hl => ?_)
              refine lv_goto (tgt := 127) hx hb dX3_packs_142 (by decide) ?_
              exact ih127 (x5_127 + (-1 : Int32)) v9 ls (lv_sub hl [0, 1, 2, 3, 4, 5] rfl) h kx
        refine L127 FU ((nI (zL zs2 (v10.2.toNatClampNeg))) - (1 : Int32)) v127 ls (lv_sub hl [0, 1, 2, 3, 4, 5] rfl) e127 (fun ls hl => ?_)
        refine lv_aload_n hx hb dX3_packs_145 rfl (lv_at hl 4 rfl) ?_
        refine va_get (D := D) (ci := 3) (v := .ref (bo 3)) (C := RX3) (T := TX3) (N := 7) hx hb hts iX3 hown hK hP 0 (SW_0 c5 bo bv2 zs2) rfl 6 (by decide) (hts _ wT3_19) (fun _ h9 => h9) rfl dX3_packs_146 ?_
        refine lv_iload_n hx hb dX3_packs_149 rfl (lv_at hl 2 rfl) ?_
        obtain ⟨g150, h⟩ := o_if h
        refine ar_ld hx hb hK hP 3 5 (SW_3 c5 bo bv2 zs2) rfl (inb_in g150) rfl dX3_packs_150 ?_
        refine lv_iload hx hb dX3_packs_151 (lv_at hl 0 rfl) ?_
        refine lv_iconst (v := (0 : Int32)) hx hb dX3_packs_153 (by decide) ?_
        obtain ⟨g154, h⟩ := o_if h
        obtain ⟨z154, ez154, h⟩ := o_bind h
        refine va_zast hx hb hK hP hD hS (16 + (v10.2.toNatClampNeg)) 2 (SW_B c5 bo bv2 zs2 (inb_lt g150)) rfl (inb_in g154) dX3_packs_154 (fun H locs hP hD hS => ?_)
        have hP := wP (SW_setB c5 bo bv2 zs2 (inb_lt g150) _) hP
        have hD := wD (SW_setB c5 bo bv2 zs2 (inb_lt g150) _) hD
        have hP := wP (congrArg (fun y9 => SW c5 bo bv2 y9) (Option.some.inj ez154)) hP
        have hD := wD (congrArg (fun y9 => SW c5 bo bv2 y9) (Option.some.inj ez154)) hD
        refine lv_aload_n hx hb dX3_packs_155 rfl (lv_at hl 4 rfl) ?_
        refine va_get (D := D) (ci := 3) (v := .ref (bo 3)) (C := RX3) (T := TX3) (N := 7) hx hb hts iX3 hown hK hP 0 (SW_0 c5 bo bv2 z154) rfl 6 (by decide) (hts _ wT3_19) (fun _ h9 => h9) rfl dX3_packs_156 ?_
        refine lv_iload hx hb dX3_packs_159 (lv_at hl 1 rfl) ?_
        obtain ⟨g161, h⟩ := o_if h
        refine ar_ld hx hb hK hP 3 5 (SW_3 c5 bo bv2 z154) rfl (inb_in g161) rfl dX3_packs_161 ?_
        refine lv_aload_n hx hb dX3_packs_162 rfl (lv_at hl 4 rfl) ?_
        refine lv_iload hx hb dX3_packs_163 (lv_at hl 1 rfl) ?_
        obtain ⟨v165, e165, h⟩ := o_bind h
        refine ro_calli (ro_runV (As := [.int v58.2]) (rest := [.ref (bB bv2 (v58.2.toNatClampNeg))]) ⟨hx, hb, hml, hown, hts⟩ hP hK (c_X3_hole l D c5 bo bv2 z154 v58.2 v165 e165) gG_RX3_56 (va_recv hK hP (ci := 3) (q0 := 0) rfl (SW_0 c5 bo bv2 z154)) hd_X3_hole ⟨Nat.le_of_ble_eq_true rfl, Nat.le_of_ble_eq_true rfl⟩ ⟨rfl, rfl⟩ hl.1 (Nat.le_of_ble_eq_true rfl) dX3_packs_165 ⟨show 0 ≤ 0 by omega, show 0 ≤ 0 by omega⟩ rfl) ?_
        refine lv_iconst (v := (1 : Int32)) hx hb dX3_packs_168 (by decide) ?_
        obtain ⟨g169, h⟩ := o_if h
        obtain ⟨z169, ez169, h⟩ := o_bind h
        refine va_zast hx hb hK hP hD hS (16 + (v58.2.toNatClampNeg)) 2 (SW_B c5 bo bv2 z154 (inb_lt g161)) rfl (inb_in g169) dX3_packs_169 (fun H locs hP hD hS => ?_)
        have hP := wP (SW_setB c5 bo bv2 z154 (inb_lt g161) _) hP
        have hD := wD (SW_setB c5 bo bv2 z154 (inb_lt g161) _) hD
        have hP := wP (congrArg (fun y9 => SW c5 bo bv2 y9) (Option.some.inj ez169)) hP
        have hD := wD (congrArg (fun y9 => SW c5 bo bv2 y9) (Option.some.inj ez169)) hD
        refine lv_aload_n hx hb dX3_packs_170 rfl (lv_at hl 4 rfl) ?_
        refine lv_iload_n hx hb dX3_packs_171 rfl (lv_at hl 2 rfl) ?_
        obtain ⟨v172, e172, h⟩ := o_bind h
        refine ro_calli (ro_runV (As := [.int v10.2]) (rest := []) ⟨hx, hb, hml, hown, hts⟩ hP hK (c_X3_many l D c5 bo bv2 z169 v10.2 v172 e172) gG_RX3_45 (va_recv hK hP (ci := 3) (q0 := 0) rfl (SW_0 c5 bo bv2 z169)) hd_X3_many ⟨Nat.le_of_ble_eq_true rfl, Nat.le_of_ble_eq_true rfl⟩ ⟨rfl, rfl⟩ hl.1 (Nat.le_of_ble_eq_true rfl) dX3_packs_172 ⟨show 0 ≤ 0 by omega, show 0 ≤ 0 by omega⟩ rfl) ?_
        obtain ⟨v175, e175, h⟩ := o_bind h
        have tn175 : ∀ (bv175 : BV) (H : Heap) (locs : List Loc) (ls : Array Slot), lv_has ls 6 [(5, .int v127), (4, .int v58.2), (3, .int v10.2), (2, .int x2_2), (0, .ref (bo 0)), (1, .int p1)] → va_P D vwCl (SW c5 bo bv175 v175) H → va_D A (SW c5 bo bv175 v175) → va_S A s.heap H locs → W p l e (headSpec (ws_ yX3_packs cX3_packs 6 (some .int)) { frames := 2, cells := 0, slots := 0, locals := 48 }).room s m ([.ref (bo 0), .int p1] : List Value).toArray below meth c H locs (0) (0) (MQ below (va_Qi (fun x (u : BV × SSt) => x = r.1 ∧ u.2 = r.2) (rwE D (tyG c5) (A) (fun u : BV × SSt => SW c5 bo u.1 u.2)) (A)) ([.ref (bo 0), .int p1] : List Value).toArray s 0 0 A) (F0 m 190 ls []) := by
          intro bv175 H locs ls hl hP hD hS
          refine lv_aload_n hx hb dX3_packs_190 rfl (lv_at hl 4 rfl) ?_
          refine lv_dup hx hb dX3_packs_191 rfl ?_
          refine va_get (D := D) (ci := 3) (v := .int (zF v175 3)) (C := RX3) (T := TX3) (N := 7) hx hb hts iX3 hown hK hP 0 (SW_0 c5 bo bv175 v175) rfl 3 (by decide) (hts _ wT3_15) (fun _ h9 => h9) rfl dX3_packs_192 ?_
          refine lv_iconst (v := (1 : Int32)) hx hb dX3_packs_195 (by decide) ?_
          refine lv_iadd hx hb dX3_packs_196 ?_
          obtain ⟨z197, ez197, h⟩ := o_bind h
          refine va_put (D := D) (ci := 3) (v := .int ((zF v175 3) + (1 : Int32))) (ty := .int) (C := RX3) (T := TX3) (N := 7) hx hb hts iX3 tyX3 tyX3_ok nmX3 hown hK hP hD hS 0 (SW_0 c5 bo bv175 v175) rfl 3 (by decide) (hts _ wT3_15) (fun _ h9 => h9) rfl (by decide +kernel) rfl rfl (Nat.le_of_ble_eq_true rfl) dX3_packs_197 (fun H locs hP hD hS => ?_)
          have hP := wP (SW_setF c5 bo bv175 v175 3 (by decide) _) hP
          have hD := wD (SW_setF c5 bo bv175 v175 3 (by decide) _) hD
          have hP := wP (congrArg (fun y9 => SW c5 bo bv175 y9) (Option.some.inj ez197)) hP
          have hD := wD (congrArg (fun y9 => SW c5 bo bv175 y9) (Option.some.inj ez197)) hD
          refine lv_iinc (v := (x2_2 + (1 : Int32))) (lv' := [(2, .int (x2_2 + (1 : Int32))), (5, .int v127), (4, .int v58.2), (3, .int v10.2), (0, .ref (bo 0)), (1, .int p1)]) hx hb dX3_packs_200 hl (k := 3) rfl rfl (by decide) rfl (fun ls hl => ?_)
          refine lv_goto (tgt := 2) hx hb dX3_packs_203 (by decide) ?_
          exact ih2 bv175 H locs z197 (x2_2 + (1 : Int32)) ls (lv_sub hl [0, 4, 5] rfl) hP hD hS h
        have h := e175
        refine lv_if_ne (tgt := 190) hx hb dX3_packs_175 (by decide) (fun q => ?_) (fun q => ?_)
        · have h := o_t' h q
          obtain rfl := Option.some.inj h
          exact tn175 bv2 H locs ls (lv_sub hl [0, 1, 2, 3, 4, 5] rfl) hP hD hS
        · have h := o_f' h q
          refine lv_aload_n hx hb dX3_packs_178 rfl (lv_at hl 4 rfl) ?_
          refine va_get (D := D) (ci := 3) (v := .ref (bo 2)) (C := RX3) (T := TX3) (N := 7) hx hb hts iX3 hown hK hP 0 (SW_0 c5 bo bv2 z169) rfl 5 (by decide) (hts _ wT3_18) (fun _ h9 => h9) rfl dX3_packs_179 ?_
          refine lv_iload_n hx hb dX3_packs_182 rfl (lv_at hl 2 rfl) ?_
          obtain ⟨g183, h⟩ := o_if h
          refine ar_ld hx hb hK hP 2 4 (SW_2 c5 bo bv2 z169) rfl (inb_in g183) rfl dX3_packs_183 ?_
          refine lv_iconst (v := (2 : Int32)) hx hb dX3_packs_184 (by decide) ?_
          refine lv_aload_n hx hb dX3_packs_185 rfl (lv_at hl 4 rfl) ?_
          refine va_get (D := D) (ci := 3) (v := .int (zF z169 0)) (C := RX3) (T := TX3) (N := 7) hx hb hts iX3 hown hK hP 0 (SW_0 c5 bo bv2 z169) rfl 0 (by decide) (hts _ wT3_11) (fun _ h9 => h9) rfl dX3_packs_186 ?_
          obtain ⟨g189, h⟩ := o_if h
          obtain ⟨z189, ez189, h⟩ := o_bind h
          refine va_iast hx hb hK hP hD hS (4 + (v10.2.toNatClampNeg)) 3 (SW_H c5 bo bv2 z169 (inb_lt g183)) rfl (inb_in g189) dX3_packs_189 (fun H locs hP hD hS => ?_)
          have hP := wP (SW_setH c5 bo bv2 z169 (inb_lt g183) _) hP
          have hD := wD (SW_setH c5 bo bv2 z169 (inb_lt g183) _) hD
          have hP := wP (congrArg (fun y9 => SW c5 bo bv2 y9) (Option.some.inj ez189)) hP
          have hD := wD (congrArg (fun y9 => SW c5 bo bv2 y9) (Option.some.inj ez189)) hD
          obtain rfl := Option.some.inj h
          exact tn175 bv2 H locs ls (lv_sub hl [0, 1, 2, 3, 4, 5] rfl) hP hD hS
      · have h := o_f h q
        refine lv_iload_n hx hb dX3_packs_114 rfl (lv_at hl 3 rfl) ?_
        obtain rfl := Option.some.inj h
        exact W.iret hx hb hr (fun t ht hW => ⟨⟨_, (bv2, zs2), rfl, ⟨rfl, rfl⟩, by rw [ht]; exact hP, va_K.moved hW.alike hK, hD⟩, hS.F ht⟩) hS.2.2 dX3_packs_115 hlocks
  exact L2 FU bv s.heap [] zs (0 : Int32) ls (lv_sub hl [0, 1, 2] rfl) hP hD hS h
