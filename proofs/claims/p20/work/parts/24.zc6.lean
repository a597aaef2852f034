set_option maxHeartbeats 4000000 in
set_option maxRecDepth 100000 in
theorem c_L_act (l : Launch) (D : va_G) (c5 : Nat → ClassId) (a : KAd) (k : KSt) (bo : Nat → Nat) (bv : BV) (zs : SSt) (sx : Nat → Nat) (hflags : l.flags = flags0) (sz : Nat) (p2 : Int32) (r : KSt × SSt) (h : R_L_act k zs p2 = some r) : Met l yL_act (wsw_ yL_act cL_act 9 (some .boolean) [(270, 278, 281, 59), (306, 313, 316, 67)]) { frames := 8, cells := 27, slots := 45, locals := 135 } (va_Pc [.ref (aO a 0), .ref (bo 0), .int p2] (lwB D c5 (KW c5 a k ++ SW c5 bo bv zs) sx sz)) (va_Qi (fun x (u : KSt × BV × SSt) => x = 1 ∧ u.1 = r.1 ∧ u.2.2 = r.2) (rwE D (tyG c5) (va_A (KW c5 a k ++ SW c5 bo bv zs) sz) (fun u : KSt × BV × SSt => KW c5 a u.1 ++ SW c5 bo u.2.1 u.2.2)) (va_A (KW c5 a k ++ SW c5 bo bv zs) sz)) 27 45 (va_A (KW c5 a k ++ SW c5 bo bv zs) sz) := by
  refine Met.ofWH (cc := cL_act) (maxL := 9) (ret := (some .boolean)) (hh := [(270, 278, 281, 59), (306, 313, 316, 67)]) (by decide) rfl ?_
  intro p e s m args below meth c s₁ B hml hv
  obtain ⟨rfl, ⟨hsz, hP, hK, hD0, hOI, hOZ⟩, hX⟩ := hv
  have hx := B.exec
  have hb := B.bytes
  have hr := B.returns
  have hts : ∀ w ∈ LA, w.before _ s = true := fun w hw => atoms_spec (ws := wsw_ yL_act cL_act 9 (some .boolean) [(270, 278, 281, 59), (306, 313, 316, 67)]) B.pre w (List.mem_cons_of_mem _ hw)
  have htb : c.exceptionTable.toList = tableOf [(270, 278, 281, 59), (306, 313, 316, 67)] := vx_table (x := yL_act) B (atoms_spec (ws := wsw_ yL_act cL_act 9 (some .boolean) [(270, 278, 281, 59), (306, 313, 316, 67)]) B.pre _ List.mem_cons_self)
  have hown : s.vm.findClass RL = some m.cls := findClass_of_methodNamed B.named
  have hlocks := B.notSynchronized
  subst hsz
  have hI : KI a := KI_of (fr_D (X := []) (Y := SW c5 bo bv zs) hD0)
  have hD := hD0.self (sz := s.heap.size)
  generalize hAe : va_A (KW c5 a k ++ SW c5 bo bv zs) s.heap.size = A at hX hD ⊢
  have hA : ∀ q : Nat, s.heap.size ≤ q → A q := fun q h => by rw [← hAe]; exact Or.inr h
  have hS : va_S A s.heap s.heap [] := va_S.rf
  have hP := i2_P hP
  have hD := i2_D hD
  have hl := lv_entry ([.ref (aO a 0), .ref (bo 0), .int p2] : List Value) (n := 9) (Nat.le_of_ble_eq_true rfl)
  rw [lg_entry_eq]
  generalize (lg_sl ([.ref (aO a 0), .ref (bo 0), .int p2] : List Value) ++ List.replicate (9 - (lg_sl ([.ref (aO a 0), .ref (bo 0), .int p2] : List Value)).length) Slot.unset).toArray = ls at hl ⊢
  have hl : lv_has ls 9 [(0, .ref (aO a 0)), (1, .ref (bo 0)), (2, .int p2)] := hl
  unfold R_L_act at h
  refine lv_iload_n hx hb dL_act_0 rfl (lv_at hl 2 rfl) ?_
  refine lv_iconst (v := (4 : Int32)) hx hb dL_act_1 (by decide) ?_
  refine lv_ishr hx hb dL_act_2 ?_
  refine lv_aload_n hx hb dL_act_3 rfl (lv_at hl 1 rfl) ?_
  refine va_get (D := D) (ci := 3) (v := .ref (bo 1)) (C := RX3) (T := TX3) (N := 7) hx hb hts iX3 hown hK hP ((KW c5 a k).length + 0) (ap_r (ap_l (SW_0 c5 bo bv zs))) rfl 4 (by decide) (hts _ wT3_17) (fun _ h9 => h9) rfl dL_act_4 ?_
  refine va_alen (v := (nI (zN zs))) hx hb hK hP ((KW c5 a k).length + 1) 4 (ap_r (ap_l (SW_1 c5 bo bv zs))) rfl rfl dL_act_7 ?_
  obtain ⟨g8, h⟩ := o_if h
  refine ro_calli (ro_runS (As := [.int (p2 >>> ((4 : Int32) &&& 31)), .int (nI (zN zs))]) (rest := []) ⟨hx, hb, hml, hown, hts⟩ hP hK (c_L_below l D (tyG c5) (KW c5 a k ++ (SW c5 bo bv zs ++ ([] : va_W))) (p2 >>> ((4 : Int32) &&& 31)) (nI (zN zs)) g8) gG_RL_15 hd_L_below ⟨Nat.le_of_ble_eq_true rfl, Nat.le_of_ble_eq_true rfl⟩ ⟨rfl, rfl⟩ hl.1 (Nat.le_of_ble_eq_true rfl) dL_act_8 ⟨show 0 ≤ 27 by omega, show 0 ≤ 45 by omega⟩ rfl) ?_
  refine lv_istore_n (i := 3) (lv' := [(3, .int (bl_ (p2 >>> ((4 : Int32) &&& 31)) (nI (zN zs)))), (0, .ref (aO a 0)), (1, .ref (bo 0)), (2, .int p2)]) hx hb dL_act_11 rfl hl (by decide) rfl (fun ls hl => ?_)
  refine lv_iload_n hx hb dL_act_12 rfl (lv_at hl 3 rfl) ?_
  refine lv_bipush (v := (12 : Int32)) hx hb dL_act_13 (by decide) ?_
  obtain ⟨g15, h⟩ := o_if h
  refine ro_calli (ro_runS (As := [.int p2, .int (12 : Int32)]) (rest := []) ⟨hx, hb, hml, hown, hts⟩ hP hK (c_L_below l D (tyG c5) (KW c5 a k ++ (SW c5 bo bv zs ++ ([] : va_W))) p2 (12 : Int32) g15) gG_RL_15 hd_L_below ⟨Nat.le_of_ble_eq_true rfl, Nat.le_of_ble_eq_true rfl⟩ ⟨rfl, rfl⟩ hl.1 (Nat.le_of_ble_eq_true rfl) dL_act_15 ⟨show 0 ≤ 27 by omega, show 0 ≤ 45 by omega⟩ rfl) ?_
  rcases Decidable.em ((bl_ p2 (12 : Int32)) = 0) with c18_g0 | c18_g0
  · have h := o_t h c18_g0
    refine lv_tableIn (off := 42) (tgt := 60) hx hb dL_act_18 (by rw [c18_g0]; decide) (by rw [c18_g0]; decide) (by rw [c18_g0]; rfl) (by decide) ?_
    refine lv_aload_n hx hb dL_act_60 rfl (lv_at hl 2 rfl) ?_
    refine va_get (D := D) (ci := 3) (v := .int (zF zs 1)) (C := RX3) (T := TX3) (N := 7) hx hb hts iX3 hown hK hP ((KW c5 a k).length + 0) (ap_r (ap_l (SW_0 c5 bo bv zs))) rfl 1 (by decide) (hts _ wT3_12) (fun _ h9 => h9) rfl dL_act_61 ?_
    refine lv_istore (i := 5) (lv' := [(5, .int (zF zs 1)), (3, .int (bl_ (p2 >>> ((4 : Int32) &&& 31)) (nI (zN zs)))), (0, .ref (aO a 0)), (1, .ref (bo 0)), (2, .int p2)]) hx hb dL_act_64 hl (by decide) rfl (fun ls hl => ?_)
    refine lv_aload_n hx hb dL_act_66 rfl (lv_at hl 3 rfl) ?_
    refine lv_iload_n hx hb dL_act_67 rfl (lv_at hl 4 rfl) ?_
    refine lv_iconst (v := (4 : Int32)) hx hb dL_act_68 (by decide) ?_
    refine lv_ishr hx hb dL_act_69 ?_
    refine lv_iconst (v := (3 : Int32)) hx hb dL_act_70 (by decide) ?_
    obtain ⟨g71, h⟩ := o_if h
    refine ro_calli (ro_runS (As := [.int (p2 >>> ((4 : Int32) &&& 31)), .int (3 : Int32)]) (rest := [.ref (bo 0)]) ⟨hx, hb, hml, hown, hts⟩ hP hK (c_L_below l D (tyG c5) (KW c5 a k ++ (SW c5 bo bv zs ++ ([] : va_W))) (p2 >>> ((4 : Int32) &&& 31)) (3 : Int32) g71) gG_RL_15 hd_L_below ⟨Nat.le_of_ble_eq_true rfl, Nat.le_of_ble_eq_true rfl⟩ ⟨rfl, rfl⟩ hl.1 (Nat.le_of_ble_eq_true rfl) dL_act_71 ⟨show 0 ≤ 27 by omega, show 0 ≤ 45 by omega⟩ rfl) ?_
    obtain ⟨z74, ez74, h⟩ := o_bind h
    refine va_put (D := D) (ci := 3) (v := .int (bl_ (p2 >>> ((4 : Int32) &&& 31)) (3 : Int32))) (ty := .int) (C := RX3) (T := TX3) (N := 7) hx hb hts iX3 tyX3 tyX3_ok nmX3 hown hK hP hD hS ((KW c5 a k).length + 0) (ap_r (ap_l (SW_0 c5 bo bv zs))) rfl 1 (by decide) (hts _ wT3_12) (fun _ h9 => h9) rfl (by decide +kernel) rfl rfl (Nat.le_of_ble_eq_true rfl) dL_act_74 (fun H locs hP hD hS => ?_)
    have hP := wP (ap_sr (ap_sl (SW_0 c5 bo bv zs) (SW_setF c5 bo bv zs 1 (by decide) _))) hP
    have hD := wD (ap_sr (ap_sl (SW_0 c5 bo bv zs) (SW_setF c5 bo bv zs 1 (by decide) _))) hD
    have hP := wP (congrArg (fun y9 => KW c5 a k ++ (SW c5 bo bv y9 ++ ([] : va_W))) (Option.some.inj ez74)) hP
    have hD := wD (congrArg (fun y9 => KW c5 a k ++ (SW c5 bo bv y9 ++ ([] : va_W))) (Option.some.inj ez74)) hD
    refine lv_aload_n hx hb dL_act_77 rfl (lv_at hl 2 rfl) ?_
    refine lv_aload_n hx hb dL_act_78 rfl (lv_at hl 3 rfl) ?_
    refine va_get (D := D) (ci := 3) (v := .int (zF z74 1)) (C := RX3) (T := TX3) (N := 7) hx hb hts iX3 hown hK hP ((KW c5 a k).length + 0) (ap_r (ap_l (SW_0 c5 bo bv z74))) rfl 1 (by decide) (hts _ wT3_12) (fun _ h9 => h9) rfl dL_act_79 ?_
    obtain ⟨v82, e82, h⟩ := yb_some h
    refine fr_calli (wc := KW c5 a k) (X := []) (Y := SW c5 bo bv z74 ++ ([] : va_W)) (rw_runV (As := [.int (zF z74 1)]) (rest := []) ⟨hx, hb, hml, hown, hts⟩ (fr_P (X := []) (Y := SW c5 bo bv z74 ++ ([] : va_W)) hP) hK (fr_D (X := []) (Y := SW c5 bo bv z74 ++ ([] : va_W)) hD) (c_X2_setWay l D c5 a k hI H.size (zF z74 1) v82 e82) gG_RL_25 (va_recv hK hP (ci := 2) (q0 := 0) rfl (ap_l (KW_0 c5 a k))) hd_X2_setWay ⟨Nat.le_of_ble_eq_true rfl, Nat.le_of_ble_eq_true rfl⟩ ⟨rfl, rfl⟩ hl.1 (Nat.le_of_ble_eq_true rfl) dL_act_82 ⟨show 0 ≤ 27 by omega, show 0 ≤ 45 by omega⟩ rfl) hP hD hS hA (fun x82 u82 H locs hpost hP hD hS => ?_)
    obtain ⟨ex82, eu82⟩ := hpost
    subst ex82
    subst eu82
    refine lv_iload hx hb dL_act_85 (lv_at hl 0 rfl) ?_
    refine lv_icmp_ne (tgt := 94) hx hb dL_act_87 (by decide) (fun q => ?_) (fun q => ?_)
    · have h := o_t' h q
      refine lv_iconst (v := (0 : Int32)) hx hb dL_act_94 (by decide) ?_
      cases h
    · have h := o_f' h q
      refine lv_iconst (v := (1 : Int32)) hx hb dL_act_90 (by decide) ?_
      refine lv_goto (tgt := 95) hx hb dL_act_91 (by decide) ?_
      obtain rfl := Option.some.inj h
      have hP := eW_P (V := KW c5 a v82.2) (W := SW c5 bo bv z74) (X := []) hP
      have hD := eW_D (V := KW c5 a v82.2) (W := SW c5 bo bv z74) (X := []) hD
      refine W.widen (k := 27) (n := 45) (by omega) (by omega) ?_
      exact W.zret hx hb hr rfl (fun t ht hW => ⟨⟨_, (v82.2, bv, z74), rfl, ⟨rfl, rfl, rfl⟩, by rw [ht]; exact hP, va_K.moved hW.alike hK, hD⟩, hS.F ht⟩) hS.2.2 dL_act_95 hlocks
  · have h := o_f h c18_g0
    have c18_0 := c18_g0
    rcases Decidable.em ((bl_ p2 (12 : Int32)) = 1) with c18_g1 | c18_g1
    · have h := o_t h c18_g1
      refine lv_tableIn (off := 78) (tgt := 96) hx hb dL_act_18 (by rw [c18_g1]; decide) (by rw [c18_g1]; decide) (by rw [c18_g1]; rfl) (by decide) ?_
      refine lv_iload_n hx hb dL_act_96 rfl (lv_at hl 3 rfl) ?_
      refine lv_iconst (v := (4 : Int32)) hx hb dL_act_97 (by decide) ?_
      refine lv_ishr hx hb dL_act_98 ?_
      refine lv_iload_n hx hb dL_act_99 rfl (lv_at hl 3 rfl) ?_
      refine lv_bipush (v := (7 : Int32)) hx hb dL_act_100 (by decide) ?_
      refine lv_ishr hx hb dL_act_102 ?_
      refine lv_iconst (v := (3 : Int32)) hx hb dL_act_103 (by decide) ?_
      obtain ⟨g104, h⟩ := o_if h
      refine ro_calli (ro_runS (As := [.int (p2 >>> ((7 : Int32) &&& 31)), .int (3 : Int32)]) (rest := [.int (p2 >>> ((4 : Int32) &&& 31))]) ⟨hx, hb, hml, hown, hts⟩ hP hK (c_L_below l D (tyG c5) (KW c5 a k ++ (SW c5 bo bv zs ++ ([] : va_W))) (p2 >>> ((7 : Int32) &&& 31)) (3 : Int32) g104) gG_RL_15 hd_L_below ⟨Nat.le_of_ble_eq_true rfl, Nat.le_of_ble_eq_true rfl⟩ ⟨rfl, rfl⟩ hl.1 (Nat.le_of_ble_eq_true rfl) dL_act_104 ⟨show 0 ≤ 27 by omega, show 0 ≤ 45 by omega⟩ rfl) ?_
      obtain ⟨v107, e107, h⟩ := o_bind h
      have tn107 : ∀ (ls : Array Slot), lv_has ls 9 [(3, .int (bl_ (p2 >>> ((4 : Int32) &&& 31)) (nI (zN zs)))), (0, .ref (aO a 0)), (1, .ref (bo 0)), (2, .int p2)] → W p l e (headSpec (wsw_ yL_act cL_act 9 (some .boolean) [(270, 278, 281, 59), (306, 313, 316, 67)]) { frames := 8, cells := 27, slots := 45, locals := 135 }).room s m ([.ref (aO a 0), .ref (bo 0), .int p2] : List Value).toArray below meth c s.heap [] (0) (0) (MQ below (va_Qi (fun x (u : KSt × BV × SSt) => x = 1 ∧ u.1 = r.1 ∧ u.2.2 = r.2) (rwE D (tyG c5) (A) (fun u : KSt × BV × SSt => KW c5 a u.1 ++ SW c5 bo u.2.1 u.2.2)) (A)) ([.ref (aO a 0), .ref (bo 0), .int p2] : List Value).toArray s 27 45 A) (F0 m 117 ls [.int v107, .int (p2 >>> ((4 : Int32) &&& 31))]) := by
        intro ls hl
        obtain ⟨g117, h⟩ := o_if h
        refine ro_calli (ro_runS (As := [.int (p2 >>> ((4 : Int32) &&& 31)), .int v107]) (rest := []) ⟨hx, hb, hml, hown, hts⟩ hP hK (c_L_below l D (tyG c5) (KW c5 a k ++ (SW c5 bo bv zs ++ ([] : va_W))) (p2 >>> ((4 : Int32) &&& 31)) v107 g117) gG_RL_15 hd_L_below ⟨Nat.le_of_ble_eq_true rfl, Nat.le_of_ble_eq_true rfl⟩ ⟨rfl, rfl⟩ hl.1 (Nat.le_of_ble_eq_true rfl) dL_act_117 ⟨show 0 ≤ 27 by omega, show 0 ≤ 45 by omega⟩ rfl) ?_
        refine lv_istore (i := 5) (lv' := [(5, .int (bl_ (p2 >>> ((4 : Int32) &&& 31)) v107)), (3, .int (bl_ (p2 >>> ((4 : Int32) &&& 31)) (nI (zN zs)))), (0, .ref (aO a 0)), (1, .ref (bo 0)), (2, .int p2)]) hx hb dL_act_120 hl (by decide) rfl (fun ls hl => ?_)
        refine lv_aload_n hx hb dL_act_122 rfl (lv_at hl 2 rfl) ?_
        refine lv_iload hx hb dL_act_123 (lv_at hl 0 rfl) ?_
        obtain ⟨v125, e125, h⟩ := yb_some h
        refine fr_calli (wc := KW c5 a k) (X := []) (Y := SW c5 bo bv zs ++ ([] : va_W)) (rw_runV (As := [.int (bl_ (p2 >>> ((4 : Int32) &&& 31)) v107)]) (rest := []) ⟨hx, hb, hml, hown, hts⟩ (fr_P (X := []) (Y := SW c5 bo bv zs ++ ([] : va_W)) hP) hK (fr_D (X := []) (Y := SW c5 bo bv zs ++ ([] : va_W)) hD) (c_X2_reap l D c5 a k hI s.heap.size (bl_ (p2 >>> ((4 : Int32) &&& 31)) v107) v125 e125) gG_RL_31 (va_recv hK hP (ci := 2) (q0 := 0) rfl (ap_l (KW_0 c5 a k))) hd_X2_reap ⟨Nat.le_of_ble_eq_true rfl, Nat.le_of_ble_eq_true rfl⟩ ⟨rfl, rfl⟩ hl.1 (Nat.le_of_ble_eq_true rfl) dL_act_125 ⟨show 0 ≤ 27 by omega, show 0 ≤ 45 by omega⟩ rfl) hP hD hS hA (fun x125 u125 H locs hpost hP hD hS => ?_)
        obtain ⟨ex125, eu125⟩ := hpost
        subst ex125
        subst eu125
        refine lv_aload_n hx hb dL_act_128 rfl (lv_at hl 3 rfl) ?_
        refine lv_iload hx hb dL_act_129 (lv_at hl 0 rfl) ?_
        obtain ⟨v131, e131, h⟩ := o_bind h
        refine fr_calli (wc := SW c5 bo bv zs) (X := KW c5 a v125.2) (Y := []) (sw_runV (As := [.int (bl_ (p2 >>> ((4 : Int32) &&& 31)) v107)]) (rest := [.int v125.1]) ⟨hx, hb, hml, hown, hts⟩ (fr_P (X := KW c5 a v125.2) (Y := []) hP) hK (fr_D (X := KW c5 a v125.2) (Y := []) hD) hOI hOZ (c_X3_reaps l D c5 bo bv zs H.size (bl_ (p2 >>> ((4 : Int32) &&& 31)) v107) v131 e131) gG_RL_34 (va_recv hK hP (ci := 3) (q0 := ((KW c5 a v125.2).length + 0)) rfl (ap_r (ap_l (SW_0 c5 bo bv zs)))) hd_X3_reaps ⟨Nat.le_of_ble_eq_true rfl, Nat.le_of_ble_eq_true rfl⟩ ⟨rfl, rfl⟩ hl.1 (Nat.le_of_ble_eq_true rfl) dL_act_131 ⟨show 0 + 0 + 26 ≤ 27 by omega, show 0 + 0 + 39 ≤ 45 by omega⟩ rfl) hP hD hS hA (fun x131 u131 H locs hpost hP hD hS => ?_)
        obtain ⟨bv131, z131⟩ := u131
        obtain ⟨rfl, rfl⟩ := hpost
        refine lv_icmp_ne (tgt := 141) hx hb dL_act_134 (by decide) (fun q => ?_) (fun q => ?_)
        · have h := o_t' h q
          refine lv_iconst (v := (0 : Int32)) hx hb dL_act_141 (by decide) ?_
          cases h
        · have h := o_f' h q
          refine lv_iconst (v := (1 : Int32)) hx hb dL_act_137 (by decide) ?_
          refine lv_goto (tgt := 142) hx hb dL_act_138 (by decide) ?_
          obtain rfl := Option.some.inj h
          have hP := eW_P (V := KW c5 a v125.2) (W := SW c5 bo bv131 v131.2) (X := []) hP
          have hD := eW_D (V := KW c5 a v125.2) (W := SW c5 bo bv131 v131.2) (X := []) hD
          refine W.widen (k := 27) (n := 45) (by omega) (by omega) ?_
          exact W.zret hx hb hr rfl (fun t ht hW => ⟨⟨_, (v125.2, bv131, v131.2), rfl, ⟨rfl, rfl, rfl⟩, by rw [ht]; exact hP, va_K.moved hW.alike hK, hD⟩, hS.F ht⟩) hS.2.2 dL_act_142 hlocks
      have h := e107
      refine lv_if_ne (tgt := 115) hx hb dL_act_107 (by decide) (fun q => ?_) (fun q => ?_)
      · have h := o_t' h q
        refine lv_bipush (v := (6 : Int32)) hx hb dL_act_115 (by decide) ?_
        obtain rfl := Option.some.inj h
        exact tn107 ls (lv_sub hl [0, 1, 2, 3] rfl)
      · have h := o_f' h q
        refine lv_bipush (v := (100 : Int32)) hx hb dL_act_110 (by decide) ?_
        refine lv_goto (tgt := 117) hx hb dL_act_112 (by decide) ?_
        obtain rfl := Option.some.inj h
        exact tn107 ls (lv_sub hl [0, 1, 2, 3] rfl)
    · have h := o_f h c18_g1
      have c18_1 := c18_g1
      rcases Decidable.em ((bl_ p2 (12 : Int32)) = 2) with c18_g2 | c18_g2
      · have h := o_t h c18_g2
        refine lv_tableIn (off := 125) (tgt := 143) hx hb dL_act_18 (by rw [c18_g2]; decide) (by rw [c18_g2]; decide) (by rw [c18_g2]; rfl) (by decide) ?_
        refine lv_aload_n hx hb dL_act_143 rfl (lv_at hl 1 rfl) ?_
        refine lv_iload_n hx hb dL_act_144 rfl (lv_at hl 0 rfl) ?_
        obtain ⟨v145, e145, h⟩ := yb_some h
        refine fr_calli (wc := KW c5 a k) (X := []) (Y := SW c5 bo bv zs ++ ([] : va_W)) (rw_runV (As := [.int (bl_ (p2 >>> ((4 : Int32) &&& 31)) (nI (zN zs)))]) (rest := []) ⟨hx, hb, hml, hown, hts⟩ (fr_P (X := []) (Y := SW c5 bo bv zs ++ ([] : va_W)) hP) hK (fr_D (X := []) (Y := SW c5 bo bv zs ++ ([] : va_W)) hD) (c_X2_pack l D c5 a k hI s.heap.size (bl_ (p2 >>> ((4 : Int32) &&& 31)) (nI (zN zs))) v145 e145) gG_RL_37 (va_recv hK hP (ci := 2) (q0 := 0) rfl (ap_l (KW_0 c5 a k))) hd_X2_pack ⟨Nat.le_of_ble_eq_true rfl, Nat.le_of_ble_eq_true rfl⟩ ⟨rfl, rfl⟩ hl.1 (Nat.le_of_ble_eq_true rfl) dL_act_145 ⟨show 0 ≤ 27 by omega, show 0 ≤ 45 by omega⟩ rfl) hP hD hS hA (fun x145 u145 H locs hpost hP hD hS => ?_)
        obtain ⟨ex145, eu145⟩ := hpost
        subst ex145
        subst eu145
        refine lv_aload_n hx hb dL_act_148 rfl (lv_at hl 2 rfl) ?_
        refine lv_iload_n hx hb dL_act_149 rfl (lv_at hl 0 rfl) ?_
        obtain ⟨v150, e150, h⟩ := o_bind h
        refine fr_calli (wc := SW c5 bo bv zs) (X := KW c5 a v145.2) (Y := []) (sw_runV (As := [.int (bl_ (p2 >>> ((4 : Int32) &&& 31)) (nI (zN zs)))]) (rest := [.int v145.1]) ⟨hx, hb, hml, hown, hts⟩ (fr_P (X := KW c5 a v145.2) (Y := []) hP) hK (fr_D (X := KW c5 a v145.2) (Y := []) hD) hOI hOZ (c_X3_packs l D c5 bo bv zs H.size (bl_ (p2 >>> ((4 : Int32) &&& 31)) (nI (zN zs))) v150 e150) gG_RL_40 (va_recv hK hP (ci := 3) (q0 := ((KW c5 a v145.2).length + 0)) rfl (ap_r (ap_l (SW_0 c5 bo bv zs)))) hd_X3_packs ⟨Nat.le_of_ble_eq_true rfl, Nat.le_of_ble_eq_true rfl⟩ ⟨rfl, rfl⟩ hl.1 (Nat.le_of_ble_eq_true rfl) dL_act_150 ⟨show 0 + 0 ≤ 27 by omega, show 0 + 0 ≤ 45 by omega⟩ rfl) hP hD hS hA (fun x150 u150 H locs hpost hP hD hS => ?_)
        obtain ⟨bv150, z150⟩ := u150
        obtain ⟨rfl, rfl⟩ := hpost
        refine lv_icmp_ne (tgt := 160) hx hb dL_act_153 (by decide) (fun q => ?_) (fun q => ?_)
        · have h := o_t' h q
          refine lv_iconst (v := (0 : Int32)) hx hb dL_act_160 (by decide) ?_
          cases h
        · have h := o_f' h q
          refine lv_iconst (v := (1 : Int32)) hx hb dL_act_156 (by decide) ?_
          refine lv_goto (tgt := 161) hx hb dL_act_157 (by decide) ?_
          obtain rfl := Option.some.inj h
          have hP := eW_P (V := KW c5 a v145.2) (W := SW c5 bo bv150 v150.2) (X := []) hP
          have hD := eW_D (V := KW c5 a v145.2) (W := SW c5 bo bv150 v150.2) (X := []) hD
          refine W.widen (k := 27) (n := 45) (by omega) (by omega) ?_
          exact W.zret hx hb hr rfl (fun t ht hW => ⟨⟨_, (v145.2, bv150, v150.2), rfl, ⟨rfl, rfl, rfl⟩, by rw [ht]; exact hP, va_K.moved hW.alike hK, hD⟩, hS.F ht⟩) hS.2.2 dL_act_161 hlocks
      · have h := o_f h c18_g2
        have c18_2 := c18_g2
        rcases Decidable.em ((bl_ p2 (12 : Int32)) = 3 ∨ (bl_ p2 (12 : Int32)) = 4 ∨ (bl_ p2 (12 : Int32)) = 5 ∨ (bl_ p2 (12 : Int32)) = 6) with c18_g3 | c18_g3
        · have h := o_t h c18_g3
          have tn18 : W p l e (headSpec (wsw_ yL_act cL_act 9 (some .boolean) [(270, 278, 281, 59), (306, 313, 316, 67)]) { frames := 8, cells := 27, slots := 45, locals := 135 }).room s m ([.ref (aO a 0), .ref (bo 0), .int p2] : List Value).toArray below meth c s.heap [] (0) (0) (MQ below (va_Qi (fun x (u : KSt × BV × SSt) => x = 1 ∧ u.1 = r.1 ∧ u.2.2 = r.2) (rwE D (tyG c5) (A) (fun u : KSt × BV × SSt => KW c5 a u.1 ++ SW c5 bo u.2.1 u.2.2)) (A)) ([.ref (aO a 0), .ref (bo 0), .int p2] : List Value).toArray s 27 45 A) (F0 m 162 ls []) := by
            refine lv_iload_n hx hb dL_act_162 rfl (lv_at hl 3 rfl) ?_
            refine lv_iconst (v := (4 : Int32)) hx hb dL_act_163 (by decide) ?_
            refine lv_ishr hx hb dL_act_164 ?_
            refine lv_sipush (v := (288 : Int32)) hx hb dL_act_165 (by decide) ?_
            obtain ⟨g168, h⟩ := o_if h
            refine ro_calli (ro_runS (As := [.int (p2 >>> ((4 : Int32) &&& 31)), .int (288 : Int32)]) (rest := []) ⟨hx, hb, hml, hown, hts⟩ hP hK (c_L_below l D (tyG c5) (KW c5 a k ++ (SW c5 bo bv zs ++ ([] : va_W))) (p2 >>> ((4 : Int32) &&& 31)) (288 : Int32) g168) gG_RL_15 hd_L_below ⟨Nat.le_of_ble_eq_true rfl, Nat.le_of_ble_eq_true rfl⟩ ⟨rfl, rfl⟩ hl.1 (Nat.le_of_ble_eq_true rfl) dL_act_168 ⟨show 0 ≤ 27 by omega, show 0 ≤ 45 by omega⟩ rfl) ?_
            refine lv_istore (i := 5) (lv' := [(5, .int (bl_ (p2 >>> ((4 : Int32) &&& 31)) (288 : Int32))), (3, .int (bl_ (p2 >>> ((4 : Int32) &&& 31)) (nI (zN zs)))), (0, .ref (aO a 0)), (1, .ref (bo 0)), (2, .int p2)]) hx hb dL_act_171 hl (by decide) rfl (fun ls hl => ?_)
            refine lv_iload_n hx hb dL_act_173 rfl (lv_at hl 4 rfl) ?_
            refine lv_iconst (v := (5 : Int32)) hx hb dL_act_174 (by decide) ?_
            refine lv_ishr hx hb dL_act_175 ?_
            refine lv_bipush (v := (12 : Int32)) hx hb dL_act_176 (by decide) ?_
            obtain ⟨g178, h⟩ := o_if h
            refine ro_calli (ro_runS (As := [.int (p2 >>> ((5 : Int32) &&& 31)), .int (12 : Int32)]) (rest := []) ⟨hx, hb, hml, hown, hts⟩ hP hK (c_L_below l D (tyG c5) (KW c5 a k ++ (SW c5 bo bv zs ++ ([] : va_W))) (p2 >>> ((5 : Int32) &&& 31)) (12 : Int32) g178) gG_RL_15 hd_L_below ⟨Nat.le_of_ble_eq_true rfl, Nat.le_of_ble_eq_true rfl⟩ ⟨rfl, rfl⟩ hl.1 (Nat.le_of_ble_eq_true rfl) dL_act_178 ⟨show 0 ≤ 27 by omega, show 0 ≤ 45 by omega⟩ rfl) ?_
            refine lv_istore (i := 6) (lv' := [(6, .int (bl_ (p2 >>> ((5 : Int32) &&& 31)) (12 : Int32))), (5, .int (bl_ (p2 >>> ((4 : Int32) &&& 31)) (288 : Int32))), (3, .int (bl_ (p2 >>> ((4 : Int32) &&& 31)) (nI (zN zs)))), (0, .ref (aO a 0)), (1, .ref (bo 0)), (2, .int p2)]) hx hb dL_act_181 hl (by decide) rfl (fun ls hl => ?_)
            refine lv_iload_n hx hb dL_act_183 rfl (lv_at hl 5 rfl) ?_
            refine lv_bipush (v := (9 : Int32)) hx hb dL_act_184 (by decide) ?_
            refine lv_ishr hx hb dL_act_186 ?_
            refine lv_bipush (v := (8 : Int32)) hx hb dL_act_187 (by decide) ?_
            obtain ⟨g189, h⟩ := o_if h
            refine ro_calli (ro_runS (As := [.int (p2 >>> ((9 : Int32) &&& 31)), .int (8 : Int32)]) (rest := []) ⟨hx, hb, hml, hown, hts⟩ hP hK (c_L_below l D (tyG c5) (KW c5 a k ++ (SW c5 bo bv zs ++ ([] : va_W))) (p2 >>> ((9 : Int32) &&& 31)) (8 : Int32) g189) gG_RL_15 hd_L_below ⟨Nat.le_of_ble_eq_true rfl, Nat.le_of_ble_eq_true rfl⟩ ⟨rfl, rfl⟩ hl.1 (Nat.le_of_ble_eq_true rfl) dL_act_189 ⟨show 0 ≤ 27 by omega, show 0 ≤ 45 by omega⟩ rfl) ?_
            obtain ⟨v192, e192, h⟩ := o_bind h
            have tn192 : ∀ (ls : Array Slot), lv_has ls 9 [(6, .int (bl_ (p2 >>> ((5 : Int32) &&& 31)) (12 : Int32))), (5, .int v192), (3, .int (bl_ (p2 >>> ((4 : Int32) &&& 31)) (nI (zN zs)))), (0, .ref (aO a 0)), (1, .ref (bo 0)), (2, .int p2)] → W p l e (headSpec (wsw_ yL_act cL_act 9 (some .boolean) [(270, 278, 281, 59), (306, 313, 316, 67)]) { frames := 8, cells := 27, slots := 45, locals := 135 }).room s m ([.ref (aO a 0), .ref (bo 0), .int p2] : List Value).toArray below meth c s.heap [] (0) (0) (MQ below (va_Qi (fun x (u : KSt × BV × SSt) => x = 1 ∧ u.1 = r.1 ∧ u.2.2 = r.2) (rwE D (tyG c5) (A) (fun u : KSt × BV × SSt => KW c5 a u.1 ++ SW c5 bo u.2.1 u.2.2)) (A)) ([.ref (aO a 0), .ref (bo 0), .int p2] : List Value).toArray s 27 45 A) (F0 m 262 ls []) := by
              intro ls hl
              refine lv_aload_n hx hb dL_act_262 rfl (lv_at hl 4 rfl) ?_
              refine lv_iload hx hb dL_act_263 (lv_at hl 1 rfl) ?_
              obtain ⟨v265, e265, h⟩ := o_bind h
              refine fr_calli (wc := SW c5 bo bv zs) (X := KW c5 a k) (Y := []) (sw_runV (As := [.int v192]) (rest := []) ⟨hx, hb, hml, hown, hts⟩ (fr_P (X := KW c5 a k) (Y := []) hP) hK (fr_D (X := KW c5 a k) (Y := []) hD) hOI hOZ (c_X3_takes l D c5 bo bv zs s.heap.size v192 v265 e265) gG_RL_53 (va_recv hK hP (ci := 3) (q0 := ((KW c5 a k).length + 0)) rfl (ap_r (ap_l (SW_0 c5 bo bv zs)))) hd_X3_takes ⟨Nat.le_of_ble_eq_true rfl, Nat.le_of_ble_eq_true rfl⟩ ⟨rfl, rfl⟩ hl.1 (Nat.le_of_ble_eq_true rfl) dL_act_265 ⟨show 0 ≤ 27 by omega, show 0 ≤ 45 by omega⟩ rfl) hP hD hS hA (fun x265 u265 H locs hpost hP hD hS => ?_)
              obtain ⟨bv265, z265⟩ := u265
              obtain ⟨rfl, rfl⟩ := hpost
              refine lv_istore (i := 7) (lv' := [(7, .int v265.1), (6, .int (bl_ (p2 >>> ((5 : Int32) &&& 31)) (12 : Int32))), (5, .int v192), (3, .int (bl_ (p2 >>> ((4 : Int32) &&& 31)) (nI (zN zs)))), (0, .ref (aO a 0)), (1, .ref (bo 0)), (2, .int p2)]) hx hb dL_act_268 hl (by decide) rfl (fun ls hl => ?_)
              refine lv_aload_n hx hb dL_act_270 rfl (lv_at hl 4 rfl) ?_
              refine lv_iload hx hb dL_act_271 (lv_at hl 2 rfl) ?_
              rcases tb_some h with ⟨v273, e273, h⟩ | ⟨e273, h⟩
              · refine fr_calli (wc := KW c5 a k) (X := []) (Y := SW c5 bo bv265 v265.2 ++ ([] : va_W)) (rw_runV (As := [.int v192]) (rest := []) ⟨hx, hb, hml, hown, hts⟩ (fr_P (X := []) (Y := SW c5 bo bv265 v265.2 ++ ([] : va_W)) hP) hK (fr_D (X := []) (Y := SW c5 bo bv265 v265.2 ++ ([] : va_W)) hD) (c_X2_take l D c5 a k hI H.size v192 v273 e273) gG_RL_56 (va_recv hK hP (ci := 2) (q0 := 0) rfl (ap_l (KW_0 c5 a k))) hd_X2_take ⟨Nat.le_of_ble_eq_true rfl, Nat.le_of_ble_eq_true rfl⟩ ⟨rfl, rfl⟩ hl.1 (Nat.le_of_ble_eq_true rfl) dL_act_273 ⟨show 0 + 0 ≤ 27 by omega, show 0 + 0 ≤ 45 by omega⟩ rfl) hP hD hS hA (fun x273 u273 H locs hpost hP hD hS => ?_)
                obtain ⟨ex273, eu273⟩ := hpost
                subst ex273
                subst eu273
                refine lv_istore (i := 4) (lv' := [(4, .int v273.1), (7, .int v265.1), (6, .int (bl_ (p2 >>> ((5 : Int32) &&& 31)) (12 : Int32))), (5, .int v192), (3, .int (bl_ (p2 >>> ((4 : Int32) &&& 31)) (nI (zN zs)))), (0, .ref (aO a 0)), (1, .ref (bo 0)), (2, .int p2)]) hx hb dL_act_276 hl (by decide) rfl (fun ls hl => ?_)
                refine lv_goto (tgt := 286) hx hb dL_act_278 (by decide) ?_
                refine lv_iload hx hb dL_act_286 (lv_at hl 0 rfl) ?_
                refine lv_iload hx hb dL_act_288 (lv_at hl 1 rfl) ?_
                refine lv_icmp_ne (tgt := 297) hx hb dL_act_290 (by decide) (fun q => ?_) (fun q => ?_)
                · have h := o_t' h q
                  refine lv_iconst (v := (0 : Int32)) hx hb dL_act_297 (by decide) ?_
                  cases h
                · have h := o_f' h q
                  refine lv_iconst (v := (1 : Int32)) hx hb dL_act_293 (by decide) ?_
                  refine lv_goto (tgt := 298) hx hb dL_act_294 (by decide) ?_
                  obtain rfl := Option.some.inj h
                  have hP := eW_P (V := KW c5 a v273.2) (W := SW c5 bo bv265 v265.2) (X := []) hP
                  have hD := eW_D (V := KW c5 a v273.2) (W := SW c5 bo bv265 v265.2) (X := []) hD
                  refine W.widen (k := 27) (n := 45) (by omega) (by omega) ?_
                  exact W.zret hx hb hr rfl (fun t ht hW => ⟨⟨_, (v273.2, bv265, v265.2), rfl, ⟨rfl, rfl, rfl⟩, by rw [ht]; exact hP, va_K.moved hW.alike hK, hD⟩, hS.F ht⟩) hS.2.2 dL_act_298 hlocks
              · refine er_catchG (er_runG (As := [.int v192]) (rest := []) ⟨hx, hb, hml, hown, hts⟩ (fr_P (X := []) (Y := SW c5 bo bv265 v265.2 ++ ([] : va_W)) hP) hK hX hS (x_X2_take l D c5 a k hI sx hflags v192 exIA e273) gG_RL_56 (va_recv hK hP (ci := 2) (q0 := 0) rfl (ap_l (KW_0 c5 a k))) hd_X2_take ⟨Nat.le_of_ble_eq_true rfl, Nat.le_of_ble_eq_true rfl⟩ ⟨rfl, rfl⟩ hl.1 (Nat.le_of_ble_eq_true rfl) dL_act_273 ⟨show 0 + 0 + 0 + 1 ≤ 27 by omega, show 0 + 0 + 0 + 6 ≤ 45 by omega⟩ rfl) (fun ce q9 H hz9 hk9 hce hcv hcl => ?_)
                have hP : va_P D vwCl (KW c5 a k ++ (SW c5 bo bv265 v265.2 ++ ([] : va_W))) H := fun i9 q hi => (hP i9 q hi).kept (hk9 q.1 (hP i9 q hi).lt)
                have hS := sx_kept hS hz9 hk9
                refine vx_catch (own := RL) (name := exIA) (E := exIA) hown [] ⟨270, 278, 281, 59⟩ [⟨306, 313, 316, 67⟩] (htb.trans rfl) (fun _ h9 => absurd h9 List.not_mem_nil) rfl (by decide) (hts _ wT2_228) (va_Nw.use rfl (hX.2.2.2.1 exIA (by decide +kernel))) hce hcv hcl ?_
                refine lv_astore (i := 8) (lv' := [(8, .ref q9), (7, .int v265.1), (6, .int (bl_ (p2 >>> ((5 : Int32) &&& 31)) (12 : Int32))), (5, .int v192), (3, .int (bl_ (p2 >>> ((4 : Int32) &&& 31)) (nI (zN zs)))), (0, .ref (aO a 0)), (1, .ref (bo 0)), (2, .int p2)]) hx hb dL_act_281 hl (by decide) rfl (fun ls hl => ?_)
                refine lv_iconst (v := (-1 : Int32)) hx hb dL_act_283 (by decide) ?_
                refine lv_istore (i := 4) (lv' := [(4, .int (-1 : Int32)), (8, .ref q9), (7, .int v265.1), (6, .int (bl_ (p2 >>> ((5 : Int32) &&& 31)) (12 : Int32))), (5, .int v192), (3, .int (bl_ (p2 >>> ((4 : Int32) &&& 31)) (nI (zN zs)))), (0, .ref (aO a 0)), (1, .ref (bo 0)), (2, .int p2)]) hx hb dL_act_284 hl (by decide) rfl (fun ls hl => ?_)
                refine lv_iload hx hb dL_act_286 (lv_at hl 0 rfl) ?_
                refine lv_iload hx hb dL_act_288 (lv_at hl 2 rfl) ?_
                refine lv_icmp_ne (tgt := 297) hx hb dL_act_290 (by decide) (fun q => ?_) (fun q => ?_)
                · have h := o_t' h q
                  refine lv_iconst (v := (0 : Int32)) hx hb dL_act_297 (by decide) ?_
                  cases h
                · have h := o_f' h q
                  refine lv_iconst (v := (1 : Int32)) hx hb dL_act_293 (by decide) ?_
                  refine lv_goto (tgt := 298) hx hb dL_act_294 (by decide) ?_
                  obtain rfl := Option.some.inj h
                  have hP := eW_P (V := KW c5 a k) (W := SW c5 bo bv265 v265.2) (X := []) hP
                  have hD := eW_D (V := KW c5 a k) (W := SW c5 bo bv265 v265.2) (X := []) hD
                  refine W.widen (k := 27) (n := 45) (by omega) (by omega) ?_
                  exact W.zret hx hb hr rfl (fun t ht hW => ⟨⟨_, (k, bv265, v265.2), rfl, ⟨rfl, rfl, rfl⟩, by rw [ht]; exact hP, va_K.moved hW.alike hK, hD⟩, hS.F ht⟩) hS.2.2 dL_act_298 hlocks
            have h := e192
            refine lv_if_le (tgt := 262) hx hb dL_act_192 (by decide) (fun q => ?_) (fun q => ?_)
            · have h := o_t h q
              obtain rfl := Option.some.inj h
              exact tn192 ls (lv_sub hl [0, 1, 2, 3, 4, 5] rfl)
            · have h := o_f h q
              refine lv_aload_n hx hb dL_act_195 rfl (lv_at hl 4 rfl) ?_
              refine lv_iload hx hb dL_act_196 (lv_at hl 0 rfl) ?_
              obtain ⟨v198, e198, h⟩ := o_bind h
              refine ro_calli (ro_runV (As := [.int (bl_ (p2 >>> ((5 : Int32) &&& 31)) (12 : Int32))]) (rest := []) ⟨hx, hb, hml, hown, hts⟩ (fr_P (X := KW c5 a k) (Y := []) hP) hK (c_X3_many l D c5 bo bv zs (bl_ (p2 >>> ((5 : Int32) &&& 31)) (12 : Int32)) v198 e198) gG_RL_43 (va_recv hK hP (ci := 3) (q0 := ((KW c5 a k).length + 0)) rfl (ap_r (ap_l (SW_0 c5 bo bv zs)))) hd_X3_many ⟨Nat.le_of_ble_eq_true rfl, Nat.le_of_ble_eq_true rfl⟩ ⟨rfl, rfl⟩ hl.1 (Nat.le_of_ble_eq_true rfl) dL_act_198 ⟨show 0 ≤ 27 by omega, show 0 ≤ 45 by omega⟩ rfl) ?_
              refine lv_if_le (tgt := 262) hx hb dL_act_201 (by decide) (fun q => ?_) (fun q => ?_)
              · have h := o_t h q
                obtain rfl := Option.some.inj h
                exact tn192 ls (lv_sub hl [0, 1, 2, 3, 4, 5] rfl)
              · have h := o_f h q
                refine lv_iload_n hx hb dL_act_204 rfl (lv_at hl 5 rfl) ?_
                refine lv_bipush (v := (7 : Int32)) hx hb dL_act_205 (by decide) ?_
                refine lv_ishr hx hb dL_act_207 ?_
                refine lv_aload_n hx hb dL_act_208 rfl (lv_at hl 4 rfl) ?_
                refine va_get (D := D) (ci := 3) (v := .ref (bo 3)) (C := RX3) (T := TX3) (N := 7) hx hb hts iX3 hown hK hP ((KW c5 a k).length + 0) (ap_r (ap_l (SW_0 c5 bo bv zs))) rfl 6 (by decide) (hts _ wT3_20) (fun _ h9 => h9) rfl dL_act_209 ?_
                refine lv_iload hx hb dL_act_212 (lv_at hl 0 rfl) ?_
                obtain ⟨g214, h⟩ := o_if h
                refine ar_ld hx hb hK hP ((KW c5 a k).length + 3) 5 (ap_r (ap_l (SW_3 c5 bo bv zs))) rfl (inb_in g214) rfl dL_act_214 ?_
                refine va_alen (v := (nI (zL zs ((bl_ (p2 >>> ((5 : Int32) &&& 31)) (12 : Int32)).toNatClampNeg)))) hx hb hK hP ((KW c5 a k).length + (16 + ((bl_ (p2 >>> ((5 : Int32) &&& 31)) (12 : Int32)).toNatClampNeg))) 2 (ap_r (ap_l (SW_B c5 bo bv zs (inb_lt g214)))) rfl rfl dL_act_215 ?_
                obtain ⟨g216, h⟩ := o_if h
                refine ro_calli (ro_runS (As := [.int (p2 >>> ((7 : Int32) &&& 31)), .int (nI (zL zs ((bl_ (p2 >>> ((5 : Int32) &&& 31)) (12 : Int32)).toNatClampNeg)))]) (rest := []) ⟨hx, hb, hml, hown, hts⟩ hP hK (c_L_below l D (tyG c5) (KW c5 a k ++ (SW c5 bo bv zs ++ ([] : va_W))) (p2 >>> ((7 : Int32) &&& 31)) (nI (zL zs ((bl_ (p2 >>> ((5 : Int32) &&& 31)) (12 : Int32)).toNatClampNeg))) g216) gG_RL_15 hd_L_below ⟨Nat.le_of_ble_eq_true rfl, Nat.le_of_ble_eq_true rfl⟩ ⟨rfl, rfl⟩ hl.1 (Nat.le_of_ble_eq_true rfl) dL_act_216 ⟨show 0 ≤ 27 by omega, show 0 ≤ 45 by omega⟩ rfl) ?_
                refine lv_istore (i := 7) (lv' := [(7, .int (bl_ (p2 >>> ((7 : Int32) &&& 31)) (nI (zL zs ((bl_ (p2 >>> ((5 : Int32) &&& 31)) (12 : Int32)).toNatClampNeg))))), (6, .int (bl_ (p2 >>> ((5 : Int32) &&& 31)) (12 : Int32))), (5, .int (bl_ (p2 >>> ((4 : Int32) &&& 31)) (288 : Int32))), (3, .int (bl_ (p2 >>> ((4 : Int32) &&& 31)) (nI (zN zs)))), (0, .ref (aO a 0)), (1, .ref (bo 0)), (2, .int p2)]) hx hb dL_act_219 hl (by decide) rfl (fun ls hl => ?_)
                obtain ⟨v221, e221, h⟩ := o_bind h
                have L221 : ∀ (n221 : Nat) (x7_221 : Int32) (v9 : Int32) (ls : Array Slot), lv_has ls 9 [(7, .int x7_221), (6, .int (bl_ (p2 >>> ((5 : Int32) &&& 31)) (12 : Int32))), (5, .int (bl_ (p2 >>> ((4 : Int32) &&& 31)) (288 : Int32))), (3, .int (bl_ (p2 >>> ((4 : Int32) &&& 31)) (nI (zN zs)))), (0, .ref (aO a 0)), (1, .ref (bo 0)), (2, .int p2)] → R_L_act_L221 zs p2 n221 x7_221 = some v9 → (∀ (ls : Array Slot), lv_has ls 9 [(7, .int v9), (6, .int (bl_ (p2 >>> ((5 : Int32) &&& 31)) (12 : Int32))), (5, .int (bl_ (p2 >>> ((4 : Int32) &&& 31)) (288 : Int32))), (3, .int (bl_ (p2 >>> ((4 : Int32) &&& 31)) (nI (zN zs)))), (0, .ref (aO a 0)), (1, .ref (bo 0)), (2, .int p2)] → W p l e (headSpec (wsw_ yL_act cL_act 9 (some .boolean) [(270, 278, 281, 59), (306, 313, 316, 67)]) { frames := 8, cells := 27, slots := 45, locals := 135 }).room s m ([.ref (aO a 0), .ref (bo 0), .int p2] : List Value).toArray below meth c s.heap [] (0) (0) (MQ below (va_Qi (fun x (u : KSt × BV × SSt) => x = 1 ∧ u.1 = r.1 ∧ u.2.2 = r.2) (rwE D (tyG c5) (A) (fun u : KSt × BV × SSt => KW c5 a u.1 ++ SW c5 bo u.2.1 u.2.2)) (A)) ([.ref (aO a 0), .ref (bo 0), .int p2] : List Value).toArray s 27 45 A) (F0 m 252 ls [])) → W p l e (headSpec (wsw_ yL_act cL_act 9 (some .boolean) [(270, 278, 281, 59), (306, 313, 316, 67)]) { frames := 8, cells := 27, slots := 45, locals := 135 }).room s m ([.ref (aO a 0), .ref (bo 0), .int p2] : List Value).toArray below meth c s.heap [] (0) (0) (MQ below (va_Qi (fun x (u : KSt × BV × SSt) => x = 1 ∧ u.1 = r.1 ∧ u.2.2 = r.2) (rwE D (tyG c5) (A) (fun u : KSt × BV × SSt => KW c5 a u.1 ++ SW c5 bo u.2.1 u.2.2)) (A)) ([.ref (aO a 0), .ref (bo 0), .int p2] : List Value).toArray s 27 45 A) (F0 m 221 ls []) := by
                  intro n221
                  induction n221 with
                  | zero =>
                    intro x7_221 v9 ls hl h kx
                    exact absurd h (by simp [R_L_act_L221])
                  | succ n221 ih221 =>
                    intro x7_221 v9 ls hl h kx
                    rw [R_L_act_L221] at h
                    refine lv_aload_n hx hb dL_act_221 rfl (lv_at hl 5 rfl) ?_
                    refine va_get (D := D) (ci := 3) (v := .ref (bo 3)) (C := RX3) (T := TX3) (N := 7) hx hb hts iX3 hown hK hP ((KW c5 a k).length + 0) (ap_r (ap_l (SW_0 c5 bo bv zs))) rfl 6 (by decide) (hts _ wT3_20) (fun _ h9 => h9) rfl dL_act_222 ?_
                    refine lv_iload hx hb dL_act_225 (lv_at hl 1 rfl) ?_
                    obtain ⟨g227, h⟩ := o_if h
                    refine ar_ld hx hb hK hP ((KW c5 a k).length + 3) 5 (ap_r (ap_l (SW_3 c5 bo bv zs))) rfl (inb_in g227) rfl dL_act_227 ?_
                    refine lv_iload hx hb dL_act_228 (lv_at hl 0 rfl) ?_
                    obtain ⟨g230, h⟩ := o_if h
                    refine va_zald hx hb hK hP ((KW c5 a k).length + (16 + ((bl_ (p2 >>> ((5 : Int32) &&& 31)) (12 : Int32)).toNatClampNeg))) 2 (ap_r (ap_l (SW_B c5 bo bv zs (inb_lt g227)))) rfl (inb_in g230) dL_act_230 ?_
                    refine lv_if_ne (tgt := 252) hx hb dL_act_231 (by decide) (fun q => ?_) (fun q => ?_)
                    · have h := o_t' h q
                      obtain rfl := Option.some.inj h
                      exact kx ls (lv_sub hl [0, 1, 2, 3, 4, 5, 6] rfl)
                    · have h := o_f' h q
                      refine lv_iload hx hb dL_act_234 (lv_at hl 0 rfl) ?_
                      refine lv_iconst (v := (1 : Int32)) hx hb dL_act_236 (by decide) ?_
                      refine lv_iadd hx hb dL_act_237 ?_
                      refine lv_aload_n hx hb dL_act_238 rfl (lv_at hl 5 rfl) ?_
                      refine va_get (D := D) (ci := 3) (v := .ref (bo 3)) (C := RX3) (T := TX3) (N := 7) hx hb hts iX3 hown hK hP ((KW c5 a k).length + 0) (ap_r (ap_l (SW_0 c5 bo bv zs))) rfl 6 (by decide) (hts _ wT3_20) (fun _ h9 => h9) rfl dL_act_239 ?_
                      refine lv_iload hx hb dL_act_242 (lv_at hl 1 rfl) ?_
                      obtain ⟨g244, h⟩ := o_if h
                      refine ar_ld hx hb hK hP ((KW c5 a k).length + 3) 5 (ap_r (ap_l (SW_3 c5 bo bv zs))) rfl (inb_in g244) rfl dL_act_244 ?_
                      refine va_alen (v := (nI (zL zs ((bl_ (p2 >>> ((5 : Int32) &&& 31)) (12 : Int32)).toNatClampNeg)))) hx hb hK hP ((KW c5 a k).length + (16 + ((bl_ (p2 >>> ((5 : Int32) &&& 31)) (12 : Int32)).toNatClampNeg))) 2 (ap_r (ap_l (SW_B c5 bo bv zs (inb_lt g244)))) rfl rfl dL_act_245 ?_
                      obtain ⟨g246, h⟩ := o_if h
                      refine lv_irem hx hb dL_act_246 g246 ?_
                      refine lv_istore (i := 7) (lv' := [(7, .int ((x7_221 + (1 : Int32)) - (x7_221 + (1 : Int32)) / (nI (zL zs ((bl_ (p2 >>> ((5 : Int32) &&& 31)) (12 : Int32)).toNatClampNeg))) * (nI (zL zs ((bl_ (p2 >>> ((5 : Int32) &&& 31)) (12 : Int32)).toNatClampNeg))))), (6, .int (bl_ (p2 >>> ((5 : Int32) &&& 31)) (12 : Int32))), (5, .int (bl_ (p2 >>> ((4 : Int32) &&& 31)) (288 : Int32))), (3, .int (bl_ (p2 >>> ((4 : Int32) &&& 31)) (nI (zN zs)))), (0, .ref (aO a 0)), (1, .ref (bo 0)), (2, .int p2)]) hx hb dL_act_247 hl (by decide) rfl (fun ls hl => ?_)
                      refine lv_goto (tgt := 221) hx hb dL_act_249 (by decide) ?_
                      exact ih221 ((x7_221 + (1 : Int32)) - (x7_221 + (1 : Int32)) / (nI (zL zs ((bl_ (p2 >>> ((5 : Int32) &&& 31)) (12 : Int32)).toNatClampNeg))) * (nI (zL zs ((bl_ (p2 >>> ((5 : Int32) &&& 31)) (12 : Int32)).toNatClampNeg)))) v9 ls (lv_sub hl [0, 1, 2, 3, 4, 5, 6] rfl) h kx
                refine L221 FU (bl_ (p2 >>> ((7 : Int32) &&& 31)) (nI (zL zs ((bl_ (p2 >>> ((5 : Int32) &&& 31)) (12 : Int32)).toNatClampNeg)))) v221 ls (lv_sub hl [0, 1, 2, 3, 4, 5, 6] rfl) e221 (fun ls hl => ?_)
                refine lv_aload_n hx hb dL_act_252 rfl (lv_at hl 5 rfl) ?_
                refine lv_iload hx hb dL_act_253 (lv_at hl 1 rfl) ?_
                refine lv_iload hx hb dL_act_255 (lv_at hl 0 rfl) ?_
                obtain ⟨v257, e257, h⟩ := o_bind h
                refine ro_calli (ro_runV (As := [.int (bl_ (p2 >>> ((5 : Int32) &&& 31)) (12 : Int32)), .int v221]) (rest := []) ⟨hx, hb, hml, hown, hts⟩ (fr_P (X := KW c5 a k) (Y := []) hP) hK (c_X3_spot l D c5 bo bv zs (bl_ (p2 >>> ((5 : Int32) &&& 31)) (12 : Int32)) v221 v257 e257) gG_RL_50 (va_recv hK hP (ci := 3) (q0 := ((KW c5 a k).length + 0)) rfl (ap_r (ap_l (SW_0 c5 bo bv zs)))) hd_X3_spot ⟨Nat.le_of_ble_eq_true rfl, Nat.le_of_ble_eq_true rfl⟩ ⟨rfl, rfl⟩ hl.1 (Nat.le_of_ble_eq_true rfl) dL_act_257 ⟨show 0 ≤ 27 by omega, show 0 ≤ 45 by omega⟩ rfl) ?_
                refine lv_istore (i := 5) (lv' := [(5, .int v257), (7, .int v221), (6, .int (bl_ (p2 >>> ((5 : Int32) &&& 31)) (12 : Int32))), (3, .int (bl_ (p2 >>> ((4 : Int32) &&& 31)) (nI (zN zs)))), (0, .ref (aO a 0)), (1, .ref (bo 0)), (2, .int p2)]) hx hb dL_act_260 hl (by decide) rfl (fun ls hl => ?_)
                obtain rfl := Option.some.inj h
                exact tn192 ls (lv_sub hl [2, 0, 3, 4, 5, 6] rfl)
          rcases c18_g3 with c9 | c9 | c9 | c9
          · refine lv_tableIn (off := 144) (tgt := 162) hx hb dL_act_18 (by rw [c9]; decide) (by rw [c9]; decide) (by rw [c9]; rfl) (by decide) ?_
            exact tn18
          · refine lv_tableIn (off := 144) (tgt := 162) hx hb dL_act_18 (by rw [c9]; decide) (by rw [c9]; decide) (by rw [c9]; rfl) (by decide) ?_
            exact tn18
          · refine lv_tableIn (off := 144) (tgt := 162) hx hb dL_act_18 (by rw [c9]; decide) (by rw [c9]; decide) (by rw [c9]; rfl) (by decide) ?_
            exact tn18
          · refine lv_tableIn (off := 144) (tgt := 162) hx hb dL_act_18 (by rw [c9]; decide) (by rw [c9]; decide) (by rw [c9]; rfl) (by decide) ?_
            exact tn18
        · have h := o_f h c18_g3
          have c18_3 : ¬ (bl_ p2 (12 : Int32)) = 3 := fun q9 => c18_g3 (Or.inl q9)
          have c18_4 : ¬ (bl_ p2 (12 : Int32)) = 4 := fun q9 => c18_g3 (Or.inr (Or.inl q9))
          have c18_5 : ¬ (bl_ p2 (12 : Int32)) = 5 := fun q9 => c18_g3 (Or.inr (Or.inr (Or.inl q9)))
          have c18_6 : ¬ (bl_ p2 (12 : Int32)) = 6 := fun q9 => c18_g3 (Or.inr (Or.inr (Or.inr q9)))
          have n18_0 := lv_neT (a := 0) c18_0 rfl
          have n18_1 := lv_neT (a := 1) c18_1 rfl
          have n18_2 := lv_neT (a := 2) c18_2 rfl
          have n18_3 := lv_neT (a := 3) c18_3 rfl
          have n18_4 := lv_neT (a := 4) c18_4 rfl
          have n18_5 := lv_neT (a := 5) c18_5 rfl
          have n18_6 := lv_neT (a := 6) c18_6 rfl
          refine lv_tableOut (tgt := 299) hx hb dL_act_18 (by omega) (by decide) ?_
          refine lv_aload_n hx hb dL_act_299 rfl (lv_at hl 2 rfl) ?_
          refine lv_iload_n hx hb dL_act_300 rfl (lv_at hl 0 rfl) ?_
          obtain ⟨v301, e301, h⟩ := o_bind h
          refine fr_calli (wc := SW c5 bo bv zs) (X := KW c5 a k) (Y := []) (sw_runV (As := [.int (bl_ (p2 >>> ((4 : Int32) &&& 31)) (nI (zN zs)))]) (rest := []) ⟨hx, hb, hml, hown, hts⟩ (fr_P (X := KW c5 a k) (Y := []) hP) hK (fr_D (X := KW c5 a k) (Y := []) hD) hOI hOZ (c_X3_puts l D c5 bo bv zs s.heap.size (bl_ (p2 >>> ((4 : Int32) &&& 31)) (nI (zN zs))) v301 e301) gG_RL_61 (va_recv hK hP (ci := 3) (q0 := ((KW c5 a k).length + 0)) rfl (ap_r (ap_l (SW_0 c5 bo bv zs)))) hd_X3_puts ⟨Nat.le_of_ble_eq_true rfl, Nat.le_of_ble_eq_true rfl⟩ ⟨rfl, rfl⟩ hl.1 (Nat.le_of_ble_eq_true rfl) dL_act_301 ⟨show 0 + 2 ≤ 27 by omega, show 0 + 27 ≤ 45 by omega⟩ rfl) hP hD hS hA (fun x301 u301 H locs hpost hP hD hS => ?_)
          obtain ⟨bv301, z301⟩ := u301
          obtain ⟨rfl, rfl⟩ := hpost
          refine lv_istore (i := 5) (lv' := [(5, .int v301.1), (3, .int (bl_ (p2 >>> ((4 : Int32) &&& 31)) (nI (zN zs)))), (0, .ref (aO a 0)), (1, .ref (bo 0)), (2, .int p2)]) hx hb dL_act_304 hl (by decide) rfl (fun ls hl => ?_)
          refine lv_aload_n hx hb dL_act_306 rfl (lv_at hl 2 rfl) ?_
          refine lv_iload_n hx hb dL_act_307 rfl (lv_at hl 1 rfl) ?_
          rcases tb_some h with ⟨v308, e308, h⟩ | ⟨e308, h⟩
          · refine fr_calli (wc := KW c5 a k) (X := []) (Y := SW c5 bo bv301 v301.2 ++ ([] : va_W)) (rw_runV (As := [.int (bl_ (p2 >>> ((4 : Int32) &&& 31)) (nI (zN zs)))]) (rest := []) ⟨hx, hb, hml, hown, hts⟩ (fr_P (X := []) (Y := SW c5 bo bv301 v301.2 ++ ([] : va_W)) hP) hK (fr_D (X := []) (Y := SW c5 bo bv301 v301.2 ++ ([] : va_W)) hD) (c_X2_put l D c5 a k hI H.size (bl_ (p2 >>> ((4 : Int32) &&& 31)) (nI (zN zs))) v308 e308) gG_RL_64 (va_recv hK hP (ci := 2) (q0 := 0) rfl (ap_l (KW_0 c5 a k))) hd_X2_put ⟨Nat.le_of_ble_eq_true rfl, Nat.le_of_ble_eq_true rfl⟩ ⟨rfl, rfl⟩ hl.1 (Nat.le_of_ble_eq_true rfl) dL_act_308 ⟨show 0 + 2 ≤ 27 by omega, show 0 + 27 ≤ 45 by omega⟩ rfl) hP hD hS hA (fun x308 u308 H locs hpost hP hD hS => ?_)
            obtain ⟨ex308, eu308⟩ := hpost
            subst ex308
            subst eu308
            refine lv_istore (i := 4) (lv' := [(4, .int v308.1), (5, .int v301.1), (3, .int (bl_ (p2 >>> ((4 : Int32) &&& 31)) (nI (zN zs)))), (0, .ref (aO a 0)), (1, .ref (bo 0)), (2, .int p2)]) hx hb dL_act_311 hl (by decide) rfl (fun ls hl => ?_)
            refine lv_goto (tgt := 321) hx hb dL_act_313 (by decide) ?_
            refine lv_iload hx hb dL_act_321 (lv_at hl 0 rfl) ?_
            refine lv_iload hx hb dL_act_323 (lv_at hl 1 rfl) ?_
            refine lv_icmp_ne (tgt := 332) hx hb dL_act_325 (by decide) (fun q => ?_) (fun q => ?_)
            · have h := o_t' h q
              refine lv_iconst (v := (0 : Int32)) hx hb dL_act_332 (by decide) ?_
              cases h
            · have h := o_f' h q
              refine lv_iconst (v := (1 : Int32)) hx hb dL_act_328 (by decide) ?_
              refine lv_goto (tgt := 333) hx hb dL_act_329 (by decide) ?_
              obtain rfl := Option.some.inj h
              have hP := eW_P (V := KW c5 a v308.2) (W := SW c5 bo bv301 v301.2) (X := []) hP
              have hD := eW_D (V := KW c5 a v308.2) (W := SW c5 bo bv301 v301.2) (X := []) hD
              refine W.widen (k := 27) (n := 45) (by omega) (by omega) ?_
              exact W.zret hx hb hr rfl (fun t ht hW => ⟨⟨_, (v308.2, bv301, v301.2), rfl, ⟨rfl, rfl, rfl⟩, by rw [ht]; exact hP, va_K.moved hW.alike hK, hD⟩, hS.F ht⟩) hS.2.2 dL_act_333 hlocks
          · refine er_catchG (er_runG (As := [.int (bl_ (p2 >>> ((4 : Int32) &&& 31)) (nI (zN zs)))]) (rest := []) ⟨hx, hb, hml, hown, hts⟩ (fr_P (X := []) (Y := SW c5 bo bv301 v301.2 ++ ([] : va_W)) hP) hK hX hS (x_X2_put l D c5 a k hI sx hflags (bl_ (p2 >>> ((4 : Int32) &&& 31)) (nI (zN zs))) exIS e308) gG_RL_64 (va_recv hK hP (ci := 2) (q0 := 0) rfl (ap_l (KW_0 c5 a k))) hd_X2_put ⟨Nat.le_of_ble_eq_true rfl, Nat.le_of_ble_eq_true rfl⟩ ⟨rfl, rfl⟩ hl.1 (Nat.le_of_ble_eq_true rfl) dL_act_308 ⟨show 0 + 2 + 0 + 1 ≤ 27 by omega, show 0 + 27 + 0 + 6 ≤ 45 by omega⟩ rfl) (fun ce q9 H hz9 hk9 hce hcv hcl => ?_)
            have hP : va_P D vwCl (KW c5 a k ++ (SW c5 bo bv301 v301.2 ++ ([] : va_W))) H := fun i9 q hi => (hP i9 q hi).kept (hk9 q.1 (hP i9 q hi).lt)
            have hS := sx_kept hS hz9 hk9
            refine vx_catch (own := RL) (name := exIS) (E := exIS) hown [⟨270, 278, 281, 59⟩] ⟨306, 313, 316, 67⟩ [] (htb.trans rfl) (fun z9 hz9 => by obtain rfl := List.mem_singleton.mp hz9; exact Or.inl (by decide)) rfl (by decide) (hts _ wT2_229) (va_Nw.use rfl (hX.2.2.2.1 exIS (by decide +kernel))) hce hcv hcl ?_
            refine lv_astore (i := 6) (lv' := [(6, .ref q9), (5, .int v301.1), (3, .int (bl_ (p2 >>> ((4 : Int32) &&& 31)) (nI (zN zs)))), (0, .ref (aO a 0)), (1, .ref (bo 0)), (2, .int p2)]) hx hb dL_act_316 hl (by decide) rfl (fun ls hl => ?_)
            refine lv_iconst (v := (-1 : Int32)) hx hb dL_act_318 (by decide) ?_
            refine lv_istore (i := 4) (lv' := [(4, .int (-1 : Int32)), (6, .ref q9), (5, .int v301.1), (3, .int (bl_ (p2 >>> ((4 : Int32) &&& 31)) (nI (zN zs)))), (0, .ref (aO a 0)), (1, .ref (bo 0)), (2, .int p2)]) hx hb dL_act_319 hl (by decide) rfl (fun ls hl => ?_)
            refine lv_iload hx hb dL_act_321 (lv_at hl 0 rfl) ?_
            refine lv_iload hx hb dL_act_323 (lv_at hl 2 rfl) ?_
            refine lv_icmp_ne (tgt := 332) hx hb dL_act_325 (by decide) (fun q => ?_) (fun q => ?_)
            · have h := o_t' h q
              refine lv_iconst (v := (0 : Int32)) hx hb dL_act_332 (by decide) ?_
              cases h
            · have h := o_f' h q
              refine lv_iconst (v := (1 : Int32)) hx hb dL_act_328 (by decide) ?_
              refine lv_goto (tgt := 333) hx hb dL_act_329 (by decide) ?_
              obtain rfl := Option.some.inj h
              have hP := eW_P (V := KW c5 a k) (W := SW c5 bo bv301 v301.2) (X := []) hP
              have hD := eW_D (V := KW c5 a k) (W := SW c5 bo bv301 v301.2) (X := []) hD
              refine W.widen (k := 27) (n := 45) (by omega) (by omega) ?_
              exact W.zret hx hb hr rfl (fun t ht hW => ⟨⟨_, (k, bv301, v301.2), rfl, ⟨rfl, rfl, rfl⟩, by rw [ht]; exact hP, va_K.moved hW.alike hK, hD⟩, hS.F ht⟩) hS.2.2 dL_act_333 hlocks
