/-! build -/
theorem hd_L_cell : yL_cell.cls ≠ "java/lang/invoke/MethodHandle" ∧ yL_cell.cls ≠ "java/lang/invoke/VarHandle" ∧ (parseMethodDescriptor yL_cell.desc).map (fun d => d.parameters.length) = some 2 := by decide +kernel
theorem hd_X3_more : yX3_more.cls ≠ "java/lang/invoke/MethodHandle" ∧ yX3_more.cls ≠ "java/lang/invoke/VarHandle" ∧ (parseMethodDescriptor yX3_more.desc).map (fun d => d.parameters.length) = some 2 := by decide +kernel
theorem gG_RL_70 : GoodIn LA (va_wsS RL 70 yL_cell (ws_ yL_cell cL_cell 2 (some .int))) := la_S wT2_221 wT2_222 wT1_0 wT2_223
theorem gG_RL_74 : GoodIn LA (va_wsS RL 74 yX3_more (ws_ yX3_more cX3_more 4 (some (.array (.array .int))))) := la_S wT3_36 wT3_37 wT1_3 wT3_38
theorem gG_RL_78 : GoodIn LA (wsV RL 78 RX2 yX2_kind (ws_ yX2_kind cX2_kind 3 (some .int))) := la_V wT3_39 wT3_40 wT3_41 wT1_1 wT3_42
theorem ha_X3i : yX3_init.cls ≠ "java/lang/invoke/MethodHandle" ∧ yX3_init.cls ≠ "java/lang/invoke/VarHandle" ∧ (parseMethodDescriptor yX3_init.desc).map (fun d => d.parameters.length) = some 0 := by decide +kernel
def R_L_build_L23 (L : Nat) (xs : Nat → Int32) (v11 : Int32) : Nat → KSt → SSt → Int32 → Option (KSt × SSt × Int32)
  | 0, _, _, _ => none
  | n + 1, k23, zs23, x4_23 => if ((1 : Int32) + (bl_ v11 (5 : Int32))) ≤ x4_23 then some (k23, zs23, x4_23) else (cl_ L xs (0 : Int32)).bind fun v32 => if ¬ (11 : Int32) = 0 then (some ((2 : Int32) + (bl_ (v32 >>> (((3 : Int32) + ((3 : Int32) * x4_23)) &&& 31)) (11 : Int32))) : Option Int32).bind fun w62 => if inb (0 : Int32) (2) = true then (some (upd (fun _ => (0 : Int32)) ((0 : Int32).toNatClampNeg) w62) : Option (Nat → Int32)).bind fun gx62 => if inb (1 : Int32) (2) = true then (some (upd gx62 ((1 : Int32).toNatClampNeg) (0 : Int32)) : Option (Nat → Int32)).bind fun gx66 => if zN zs23 < 5 then (some (zNs zs23 gx66) : Option SSt).bind fun z70 => yb (R_X2_kind k23 ((2 : Int32) + (bl_ (v32 >>> (((3 : Int32) + ((3 : Int32) * x4_23)) &&& 31)) (11 : Int32)))) fun v76 => if v76.1 = x4_23 then R_L_build_L23 L xs v11 n v76.2 z70 (x4_23 + (1 : Int32)) else none else none else none else none else none
def R_L_build_L107 (L : Nat) (xs : Nat → Int32) (v11 : Int32) (v94 : Int32) : Nat → KSt → SSt → Int32 → Option (KSt × SSt × Int32)
  | 0, _, _, _ => none
  | n + 1, k107, zs107, x5_107 => if (bl_ v94 (60 : Int32)) ≤ x5_107 then some (k107, zs107, x5_107) else (cl_ L xs ((2 : Int32) + (x5_107 - x5_107 / (14 : Int32) * (14 : Int32)))).bind fun v122 => if ¬ ((1 : Int32) + (bl_ v11 (5 : Int32))) = 0 then (R_X3_puts zs107 (bl_ ((v122 >>> (((x5_107 / (14 : Int32)) * (5 : Int32)) &&& 31)) + ((3 : Int32) * x5_107)) ((1 : Int32) + (bl_ v11 (5 : Int32))))).bind fun v147 => if 0 ≤ v147.1 then yb (R_X2_put k107 (bl_ ((v122 >>> (((x5_107 / (14 : Int32)) * (5 : Int32)) &&& 31)) + ((3 : Int32) * x5_107)) ((1 : Int32) + (bl_ v11 (5 : Int32))))) fun v163 => if v163.1 = v147.1 then R_L_build_L107 L xs v11 v94 n v163.2 v147.2 (x5_107 + (1 : Int32)) else none else some (k107, v147.2, x5_107) else none
def R_L_build (L : Nat) (xs : Nat → Int32) (k : KSt) : Option (KSt × SSt) := (cl_ L xs (0 : Int32)).bind fun v11 => if ¬ (5 : Int32) = 0 then (R_L_build_L23 L xs v11 6 k (zi 12) (0 : Int32)).bind fun v23 => (cl_ L xs (1 : Int32)).bind fun v94 => if ¬ (60 : Int32) = 0 then (R_L_build_L107 L xs v11 v94 61 v23.1 v23.2.1 (0 : Int32)).bind fun v107 => some (v107.1, v107.2.1) else none else none
set_option maxHeartbeats 8000000 in
set_option maxRecDepth 100000 in
theorem c_L_build (l : Launch) (D : va_G) (c5 : Nat → ClassId) (a : KAd) (k : KSt) (b L : Nat) (xs : Nat → Int32) (sz : Nat) (r : KSt × SSt) (h : R_L_build L xs k = some r) : Met l yL_build (ws_ yL_build cL_build 8 (some (.object "SlabKitchenLaw$Sim"))) { frames := 5, cells := 220, slots := 2100, locals := 115 } (va_Pc [.ref (aO a 0), .ref b] (bdB D c5 (KW c5 a k) b L xs sz)) (va_Qr (fun u : ((Nat → Nat) × (Nat → Nat) × (Nat → Nat)) × KSt × (Nat → Nat) × BV × SSt => u.2.1 = r.1 ∧ u.2.2.2.2 = r.2) (fun u q t => q = u.2.2.1 0 ∧ va_P D vwCl (KW c5 (a.1, u.1) u.2.1 ++ SW c5 u.2.2.1 u.2.2.2.1 u.2.2.2.2) t.heap ∧ va_K D vwCl (tyG c5) t ∧ va_D (va_A (KW c5 a k) sz) (KW c5 (a.1, u.1) u.2.1 ++ SW c5 u.2.2.1 u.2.2.2.1 u.2.2.2.2)) (va_A (KW c5 a k) sz)) 220 2100 (va_A (KW c5 a k) sz) := by
  refine Met.ofW (cc := cL_build) (maxL := 8) (ret := (some (.object "SlabKitchenLaw$Sim"))) (by decide) rfl ?_
  intro p e s m args below meth c s₁ B hml hv
  obtain ⟨rfl, ⟨hsz, hP, hK, hD0, hOI, hOZ⟩, hXs, hbl, hbA⟩ := hv
  have hx := B.exec
  have hb := B.bytes
  have hr := B.returns
  have hts : ∀ w ∈ LA, w.before _ s = true := fun w hw => atoms_spec (ws := ws_ yL_build cL_build 8 (some (.object "SlabKitchenLaw$Sim"))) B.pre w (List.mem_cons_of_mem _ hw)
  have hown : s.vm.findClass RL = some m.cls := findClass_of_methodNamed B.named
  have hlocks := B.notSynchronized
  subst hsz
  have hI : KI a := KI_of hD0
  have hD := hD0.self (sz := s.heap.size)
  generalize hAe : va_A (KW c5 a k) s.heap.size = A at hbA hD ⊢
  have hA : ∀ q : Nat, s.heap.size ≤ q → A q := fun q h => by rw [← hAe]; exact Or.inr h
  have hS : va_S A s.heap s.heap [] := va_S.rf
  have hl := lv_entry ([.ref (aO a 0), .ref b] : List Value) (n := 8) (Nat.le_of_ble_eq_true rfl)
  rw [lg_entry_eq]
  generalize (lg_sl ([.ref (aO a 0), .ref b] : List Value) ++ List.replicate (8 - (lg_sl ([.ref (aO a 0), .ref b] : List Value)).length) Slot.unset).toArray = ls at hl ⊢
  have hl : lv_has ls 8 [(0, .ref (aO a 0)), (1, .ref b)] := hl
  unfold R_L_build at h
  refine va_new (ci := 3) (fs := [.int 0, .int 0, .int 0, .int 0, .null, .null, .null]) (C := RX3) (T := TX3) (N := 7) hx hb hts iX3 tyX3 tyX3_ok hown (hts _ wT3_0) (hts _ wT3_1) (hts _ wT1_3) hK hP hD hS hA rfl (by intro j hj; match j, hj with | 0, _ => rfl | 1, _ => rfl | 2, _ => rfl | 3, _ => rfl | 4, _ => rfl | 5, _ => rfl | 6, _ => rfl) (Nat.le_of_ble_eq_true rfl) (Nat.le_of_ble_eq_true rfl) dL_build_0 (fun q0 H hP hD hS => ?_)
  refine lv_dup hx hb dL_build_3 rfl ?_
  refine fr_callv (wc := [(q0, (.inr (3, [.int 0, .int 0, .int 0, .int 0, .null, .null, .null]) : va_E))]) (X := KW c5 a k) (Y := []) (sw_runI (As := []) (rest := [.ref q0]) ⟨hx, hb, hml, hown, hts⟩ (fr_P (X := KW c5 a k) (Y := []) (i2_P hP)) hK (fr_D (X := KW c5 a k) (Y := []) (i2_D hD)) hOI hOZ (c_X3_init l D c5 q0 H.size) wT3_4 wT1_3 wT3_2 wT3_3 rfl ha_X3i ⟨Nat.le_of_ble_eq_true rfl, Nat.le_of_ble_eq_true rfl⟩ ⟨rfl, rfl⟩ hl.1 (Nat.le_of_ble_eq_true rfl) dL_build_4 ⟨Nat.le_of_ble_eq_true rfl, Nat.le_of_ble_eq_true rfl⟩ rfl) (i2_P hP) (i2_D hD) hS hA (fun u H locs hpost hP hD hS => ?_)
  obtain ⟨bo, bv⟩ := u
  have hq0 : bo 0 = q0 := hpost
  rw [← hq0]
  refine lv_astore_n (i := 2) (lv' := [(2, .ref (bo 0)), (0, .ref (aO a 0)), (1, .ref b)]) hx hb dL_build_7 rfl hl (by decide) rfl (fun ls hl => ?_)
  refine lv_iconst (v := (1 : Int32)) hx hb dL_build_8 (by decide) ?_
  refine lv_aload_n hx hb dL_build_9 rfl (lv_at hl 2 rfl) ?_
  refine lv_iconst (v := (0 : Int32)) hx hb dL_build_10 (by decide) ?_
  obtain ⟨v11, e11, h⟩ := o_bind h
  refine sc_cell (rest := [.int (1 : Int32)]) ⟨hx, hb, hml, hown, hts⟩ hXs hbl hbA hS e11 gG_RL_70 hd_L_cell ⟨Nat.le_of_ble_eq_true rfl, Nat.le_of_ble_eq_true rfl⟩ hl.1 (Nat.le_of_ble_eq_true rfl) dL_build_11 ⟨show 0 + 1 + 27 ≤ 220 by omega, show 0 + 7 + 60 ≤ 2100 by omega⟩ rfl ?_
  refine lv_iconst (v := (5 : Int32)) hx hb dL_build_14 (by decide) ?_
  obtain ⟨g15, h⟩ := o_if h
  refine ro_calli (ro_runS (As := [.int v11, .int (5 : Int32)]) (rest := [.int (1 : Int32)]) ⟨hx, hb, hml, hown, hts⟩ hP hK (c_L_below l D (tyG c5) (KW c5 a k ++ (SW c5 bo bv (zi 12) ++ ([] : va_W))) v11 (5 : Int32) g15) gG_RL_15 hd_L_below ⟨Nat.le_of_ble_eq_true rfl, Nat.le_of_ble_eq_true rfl⟩ ⟨rfl, rfl⟩ hl.1 (Nat.le_of_ble_eq_true rfl) dL_build_15 ⟨show 0 + 1 + 27 ≤ 220 by omega, show 0 + 7 + 60 ≤ 2100 by omega⟩ rfl) ?_
  refine lv_iadd hx hb dL_build_18 ?_
  refine lv_istore_n (i := 3) (lv' := [(3, .int ((1 : Int32) + (bl_ v11 (5 : Int32)))), (2, .ref (bo 0)), (0, .ref (aO a 0)), (1, .ref b)]) hx hb dL_build_19 rfl hl (by decide) rfl (fun ls hl => ?_)
  refine lv_iconst (v := (0 : Int32)) hx hb dL_build_20 (by decide) ?_
  refine lv_istore (i := 4) (lv' := [(4, .int (0 : Int32)), (3, .int ((1 : Int32) + (bl_ v11 (5 : Int32)))), (2, .ref (bo 0)), (0, .ref (aO a 0)), (1, .ref b)]) hx hb dL_build_21 hl (by decide) rfl (fun ls hl => ?_)
  obtain ⟨v23, e23, h⟩ := o_bind h
  have L23 : ∀ (n23 : Nat) (cells23 slots23 : Nat) (ar23 : (Nat → Nat) × (Nat → Nat) × (Nat → Nat)) (bo23 : Nat → Nat) (bv23 : BV) (H : Heap) (locs : List Loc) (k23 : KSt) (zs23 : SSt) (x4_23 : Int32) (v9 : KSt × SSt × Int32) (ls : Array Slot), lv_has ls 8 [(4, .int x4_23), (3, .int ((1 : Int32) + (bl_ v11 (5 : Int32)))), (2, .ref (bo23 0)), (0, .ref (aO a 0)), (1, .ref b)] → va_P D vwCl (KW c5 (a.1, ar23) k23 ++ (SW c5 bo23 bv23 zs23 ++ ([] : va_W))) H → va_D A (KW c5 (a.1, ar23) k23 ++ (SW c5 bo23 bv23 zs23 ++ ([] : va_W))) → va_S A s.heap H locs → cells23 + n23 * 3 ≤ 0 + 1 + 27 + 18 → slots23 + n23 * 14 ≤ 0 + 7 + 60 + 84 → R_L_build_L23 L xs v11 n23 k23 zs23 x4_23 = some v9 → (∀ (ar23 : (Nat → Nat) × (Nat → Nat) × (Nat → Nat)) (bo23 : Nat → Nat) (bv23 : BV) (H : Heap) (locs : List Loc) (ls : Array Slot), lv_has ls 8 [(4, .int v9.2.2), (3, .int ((1 : Int32) + (bl_ v11 (5 : Int32)))), (2, .ref (bo23 0)), (0, .ref (aO a 0)), (1, .ref b)] → va_P D vwCl (KW c5 (a.1, ar23) v9.1 ++ (SW c5 bo23 bv23 v9.2.1 ++ ([] : va_W))) H → va_D A (KW c5 (a.1, ar23) v9.1 ++ (SW c5 bo23 bv23 v9.2.1 ++ ([] : va_W))) → va_S A s.heap H locs → W p l e (headSpec (ws_ yL_build cL_build 8 (some (.object "SlabKitchenLaw$Sim"))) { frames := 5, cells := 220, slots := 2100, locals := 115 }).room s m ([.ref (aO a 0), .ref b] : List Value).toArray below meth c H locs (0 + 1 + 27 + 18) (0 + 7 + 60 + 84) (MQ below (va_Qr (fun u : ((Nat → Nat) × (Nat → Nat) × (Nat → Nat)) × KSt × (Nat → Nat) × BV × SSt => u.2.1 = r.1 ∧ u.2.2.2.2 = r.2) (fun u q t => q = u.2.2.1 0 ∧ va_P D vwCl (KW c5 (a.1, u.1) u.2.1 ++ SW c5 u.2.2.1 u.2.2.2.1 u.2.2.2.2) t.heap ∧ va_K D vwCl (tyG c5) t ∧ va_D (A) (KW c5 (a.1, u.1) u.2.1 ++ SW c5 u.2.2.1 u.2.2.2.1 u.2.2.2.2)) (A)) ([.ref (aO a 0), .ref b] : List Value).toArray s 220 2100 A) (F0 m 92 ls [])) → W p l e (headSpec (ws_ yL_build cL_build 8 (some (.object "SlabKitchenLaw$Sim"))) { frames := 5, cells := 220, slots := 2100, locals := 115 }).room s m ([.ref (aO a 0), .ref b] : List Value).toArray below meth c H locs (cells23) (slots23) (MQ below (va_Qr (fun u : ((Nat → Nat) × (Nat → Nat) × (Nat → Nat)) × KSt × (Nat → Nat) × BV × SSt => u.2.1 = r.1 ∧ u.2.2.2.2 = r.2) (fun u q t => q = u.2.2.1 0 ∧ va_P D vwCl (KW c5 (a.1, u.1) u.2.1 ++ SW c5 u.2.2.1 u.2.2.2.1 u.2.2.2.2) t.heap ∧ va_K D vwCl (tyG c5) t ∧ va_D (A) (KW c5 (a.1, u.1) u.2.1 ++ SW c5 u.2.2.1 u.2.2.2.1 u.2.2.2.2)) (A)) ([.ref (aO a 0), .ref b] : List Value).toArray s 220 2100 A) (F0 m 23 ls []) := by
    intro n23
    induction n23 with
    | zero =>
      intro cells23 slots23 ar23 bo23 bv23 H locs k23 zs23 x4_23 v9 ls hl hP hD hS hc23 hn23 h kx
      exact absurd h (by simp [R_L_build_L23])
    | succ n23 ih23 =>
      intro cells23 slots23 ar23 bo23 bv23 H locs k23 zs23 x4_23 v9 ls hl hP hD hS hc23 hn23 h kx
      rw [R_L_build_L23] at h
      refine lv_iload hx hb dL_build_23 (lv_at hl 0 rfl) ?_
      refine lv_iload_n hx hb dL_build_25 rfl (lv_at hl 1 rfl) ?_
      refine lv_icmp_ge (tgt := 92) hx hb dL_build_26 (by decide) (fun q => ?_) (fun q => ?_)
      · have h := o_t h q
        obtain rfl := Option.some.inj h
        refine W.widen (k := 0 + 1 + 27 + 18) (n := 0 + 7 + 60 + 84) (by omega) (by omega) ?_
        exact kx ar23 bo23 bv23 H locs ls (lv_sub hl [0, 1, 2, 3, 4] rfl) hP hD hS
      · have h := o_f h q
        refine lv_iconst (v := (2 : Int32)) hx hb dL_build_29 (by decide) ?_
        refine lv_aload_n hx hb dL_build_30 rfl (lv_at hl 4 rfl) ?_
        refine lv_iconst (v := (0 : Int32)) hx hb dL_build_31 (by decide) ?_
        obtain ⟨v32, e32, h⟩ := o_bind h
        refine sc_cell (rest := [.int (2 : Int32)]) ⟨hx, hb, hml, hown, hts⟩ hXs hbl hbA hS e32 gG_RL_70 hd_L_cell ⟨Nat.le_of_ble_eq_true rfl, Nat.le_of_ble_eq_true rfl⟩ hl.1 (Nat.le_of_ble_eq_true rfl) dL_build_32 ⟨show cells23 ≤ 220 by omega, show slots23 ≤ 2100 by omega⟩ rfl ?_
        refine lv_iconst (v := (3 : Int32)) hx hb dL_build_35 (by decide) ?_
        refine lv_iconst (v := (3 : Int32)) hx hb dL_build_36 (by decide) ?_
        refine lv_iload hx hb dL_build_37 (lv_at hl 0 rfl) ?_
        refine lv_imul hx hb dL_build_39 ?_
        refine lv_iadd hx hb dL_build_40 ?_
        refine lv_ishr hx hb dL_build_41 ?_
        refine lv_bipush (v := (11 : Int32)) hx hb dL_build_42 (by decide) ?_
        obtain ⟨g44, h⟩ := o_if h
        refine ro_calli (ro_runS (As := [.int (v32 >>> (((3 : Int32) + ((3 : Int32) * x4_23)) &&& 31)), .int (11 : Int32)]) (rest := [.int (2 : Int32)]) ⟨hx, hb, hml, hown, hts⟩ hP hK (c_L_below l D (tyG c5) (KW c5 (a.1, ar23) k23 ++ (SW c5 bo23 bv23 zs23 ++ ([] : va_W))) (v32 >>> (((3 : Int32) + ((3 : Int32) * x4_23)) &&& 31)) (11 : Int32) g44) gG_RL_15 hd_L_below ⟨Nat.le_of_ble_eq_true rfl, Nat.le_of_ble_eq_true rfl⟩ ⟨rfl, rfl⟩ hl.1 (Nat.le_of_ble_eq_true rfl) dL_build_44 ⟨show cells23 ≤ 220 by omega, show slots23 ≤ 2100 by omega⟩ rfl) ?_
        refine lv_iadd hx hb dL_build_47 ?_
        refine lv_istore (i := 5) (lv' := [(5, .int ((2 : Int32) + (bl_ (v32 >>> (((3 : Int32) + ((3 : Int32) * x4_23)) &&& 31)) (11 : Int32)))), (4, .int x4_23), (3, .int ((1 : Int32) + (bl_ v11 (5 : Int32)))), (2, .ref (bo23 0)), (0, .ref (aO a 0)), (1, .ref b)]) hx hb dL_build_48 hl (by decide) rfl (fun ls hl => ?_)
        refine lv_aload_n hx hb dL_build_50 rfl (lv_at hl 3 rfl) ?_
        refine lv_aload_n hx hb dL_build_51 rfl (lv_at hl 3 rfl) ?_
        refine va_get (D := D) (ci := 3) (v := .ref (bo23 1)) (C := RX3) (T := TX3) (N := 7) hx hb hts iX3 hown hK hP ((KW c5 (a.1, ar23) k23).length + 0) (ap_r (ap_l (SW_0 c5 bo23 bv23 zs23))) rfl 4 (by decide) (hts _ wT3_17) (fun _ h9 => h9) rfl dL_build_52 ?_
        refine lv_iconst (v := (2 : Int32)) hx hb dL_build_55 (by decide) ?_
        refine va_newa (atype := .int) (a0 := (2, .inl (fun _ => (0 : Int32)))) (N' := 2) hx hb (hts _ wT2_184) rfl hK hP hD hS hA (fun _ => rfl) (by decide) rfl (by decide) (show cells23 + 1 ≤ 220 by omega) (show slots23 + 2 ≤ 2100 by omega) dL_build_56 (fun qn56 cA H hK9 hP hD hS => ?_)
        obtain rfl : cA = c5 3 := ca_eq (i := 6) (j := 3) hK9 rfl rfl
        have hP := as2_P hP
        have hD := as2_D hD
        refine lv_dup hx hb dL_build_58 rfl ?_
        refine lv_iconst (v := (0 : Int32)) hx hb dL_build_59 (by decide) ?_
        refine lv_iload hx hb dL_build_60 (lv_at hl 0 rfl) ?_
        obtain ⟨w62, ew62, h⟩ := o_bind h
        rw [Option.some.inj ew62]
        obtain ⟨g62, h⟩ := o_if h
        obtain ⟨gx62, ez62, h⟩ := o_bind h
        refine va_iast hx hb hK hP hD hS ((KW c5 (a.1, ar23) k23).length + ((SW c5 bo23 bv23 zs23).length + 0)) 3 (ap_r (ap_r (Y := [(qn56, .inl (c5 3, 2, .inl (fun _ => (0 : Int32))))]) rfl)) rfl (inb_in g62) dL_build_62 (fun H locs hP hD hS => ?_)
        have hP := wP (ap_sr (ap_sr rfl)) hP
        have hD := wD (ap_sr (ap_sr rfl)) hD
        have hP := wP (congrArg (fun y9 => KW c5 (a.1, ar23) k23 ++ (SW c5 bo23 bv23 zs23 ++ ([(qn56, .inl (c5 3, 2, .inl y9))] : va_W))) (Option.some.inj ez62)) hP
        have hD := wD (congrArg (fun y9 => KW c5 (a.1, ar23) k23 ++ (SW c5 bo23 bv23 zs23 ++ ([(qn56, .inl (c5 3, 2, .inl y9))] : va_W))) (Option.some.inj ez62)) hD
        refine lv_dup hx hb dL_build_63 rfl ?_
        refine lv_iconst (v := (1 : Int32)) hx hb dL_build_64 (by decide) ?_
        refine lv_iconst (v := (0 : Int32)) hx hb dL_build_65 (by decide) ?_
        obtain ⟨g66, h⟩ := o_if h
        obtain ⟨gx66, ez66, h⟩ := o_bind h
        refine va_iast hx hb hK hP hD hS ((KW c5 (a.1, ar23) k23).length + ((SW c5 bo23 bv23 zs23).length + 0)) 3 (ap_r (ap_r (Y := [(qn56, .inl (c5 3, 2, .inl gx62))]) rfl)) rfl (inb_in g66) dL_build_66 (fun H locs hP hD hS => ?_)
        have hP := wP (ap_sr (ap_sr rfl)) hP
        have hD := wD (ap_sr (ap_sr rfl)) hD
        have hP := wP (congrArg (fun y9 => KW c5 (a.1, ar23) k23 ++ (SW c5 bo23 bv23 zs23 ++ ([(qn56, .inl (c5 3, 2, .inl y9))] : va_W))) (Option.some.inj ez66)) hP
        have hD := wD (congrArg (fun y9 => KW c5 (a.1, ar23) k23 ++ (SW c5 bo23 bv23 zs23 ++ ([(qn56, .inl (c5 3, 2, .inl y9))] : va_W))) (Option.some.inj ez66)) hD
        obtain ⟨g67, h⟩ := o_if h
        refine mo_call (V := KW c5 (a.1, ar23) k23) (rest := [.ref (bo23 0)]) ⟨hx, hb, hml, hown, hts⟩ hP hK hD hS hA hOI hOZ (z := zs23) (q := qn56) (g := gx66) g67 gG_RL_74 hd_X3_more ⟨Nat.le_of_ble_eq_true rfl, Nat.le_of_ble_eq_true rfl⟩ hl.1 (Nat.le_of_ble_eq_true rfl) dL_build_67 ⟨show cells23 + 1 + 1 ≤ 220 by omega, show slots23 + 2 + 6 ≤ 2100 by omega⟩ rfl (fun qn67 H locs hP hD hS => ?_)
        obtain ⟨z70, ez70, h⟩ := o_bind h
        refine va_put (D := D) (ci := 3) (v := .ref qn67) (ty := .array (.array .int)) (C := RX3) (T := TX3) (N := 7) hx hb hts iX3 tyX3 tyX3_ok nmX3 hown hK hP hD hS ((KW c5 (a.1, ar23) k23).length + 0) (ap_r (ap_l (SW_0 c5 bo23 bv23 zs23))) rfl 4 (by decide) (hts _ wT3_17) (fun _ h9 => h9) rfl (by decide +kernel) rfl rfl (Nat.le_of_ble_eq_true rfl) dL_build_70 (fun H locs hP hD hS => ?_)
        have hP := mk_P (wP (ap_sr (ap_sl (SW_0 c5 bo23 bv23 zs23) rfl)) hP)
        have hD := mk_D (wD (ap_sr (ap_sl (SW_0 c5 bo23 bv23 zs23) rfl)) hD)
        have hP := wP (congrArg (fun y9 => KW c5 (a.1, ar23) k23 ++ (SW c5 (va_up bo23 1 qn67) (bKs bv23 (zN zs23) qn56) y9 ++ ([] : va_W))) (Option.some.inj ez70)) hP
        have hD := wD (congrArg (fun y9 => KW c5 (a.1, ar23) k23 ++ (SW c5 (va_up bo23 1 qn67) (bKs bv23 (zN zs23) qn56) y9 ++ ([] : va_W))) (Option.some.inj ez70)) hD
        refine lv_aload_n hx hb dL_build_73 rfl (lv_at hl 4 rfl) ?_
        refine lv_iload hx hb dL_build_74 (lv_at hl 0 rfl) ?_
        obtain ⟨v76, e76, h⟩ := yb_some h
        refine fr_calli (wc := KW c5 (a.1, ar23) k23) (X := []) (Y := SW c5 (va_up bo23 1 qn67) (bKs bv23 (zN zs23) qn56) z70 ++ ([] : va_W)) (rw_runV (As := [.int ((2 : Int32) + (bl_ (v32 >>> (((3 : Int32) + ((3 : Int32) * x4_23)) &&& 31)) (11 : Int32)))]) (rest := []) ⟨hx, hb, hml, hown, hts⟩ (fr_P (X := []) (Y := SW c5 (va_up bo23 1 qn67) (bKs bv23 (zN zs23) qn56) z70 ++ ([] : va_W)) hP) hK (fr_D (X := []) (Y := SW c5 (va_up bo23 1 qn67) (bKs bv23 (zN zs23) qn56) z70 ++ ([] : va_W)) hD) (c_X2_kind l D c5 (a.1, ar23) k23 H.size ((2 : Int32) + (bl_ (v32 >>> (((3 : Int32) + ((3 : Int32) * x4_23)) &&& 31)) (11 : Int32))) v76 e76) gG_RL_78 (va_recv hK hP (ci := 2) (q0 := 0) rfl (ap_l (KW_0 c5 (a.1, ar23) k23))) hd_X2_kind ⟨Nat.le_of_ble_eq_true rfl, Nat.le_of_ble_eq_true rfl⟩ ⟨rfl, rfl⟩ hl.1 (Nat.le_of_ble_eq_true rfl) dL_build_76 ⟨show cells23 + 1 + 1 + 1 ≤ 220 by omega, show slots23 + 2 + 6 + 6 ≤ 2100 by omega⟩ rfl) hP hD hS hA (fun x76 u76 H locs hpost hP hD hS => ?_)
        obtain ⟨⟨aq, ar76⟩, uk76⟩ := u76
        obtain ⟨ex76, eu76, ea76⟩ := hpost
        subst ex76
        have eu76 : uk76 = v76.2 := eu76
        subst eu76
        have ea76 : aq = a.1 := ea76
        subst ea76
        refine lv_iload hx hb dL_build_79 (lv_at hl 1 rfl) ?_
        refine lv_icmp_eq (tgt := 86) hx hb dL_build_81 (by decide) (fun q => ?_) (fun q => ?_)
        · have h := o_t h q
          refine lv_iinc (v := (x4_23 + (1 : Int32))) (lv' := [(4, .int (x4_23 + (1 : Int32))), (5, .int ((2 : Int32) + (bl_ (v32 >>> (((3 : Int32) + ((3 : Int32) * x4_23)) &&& 31)) (11 : Int32)))), (3, .int ((1 : Int32) + (bl_ v11 (5 : Int32)))), (2, .ref ((va_up bo23 1 qn67) 0)), (0, .ref (aO a 0)), (1, .ref b)]) hx hb dL_build_86 hl (k := 1) rfl rfl (by decide) rfl (fun ls hl => ?_)
          refine lv_goto (tgt := 23) hx hb dL_build_89 (by decide) ?_
          exact ih23 (cells23 + 1 + 1 + 1) (slots23 + 2 + 6 + 6) ar76 (va_up bo23 1 qn67) (bKs bv23 (zN zs23) qn56) H locs v76.2 z70 (x4_23 + (1 : Int32)) v9 ls (lv_sub hl [0, 2, 3, 4, 5] rfl) hP hD hS (by omega) (by omega) h kx
        · have h := o_f h q
          refine lv_null hx hb dL_build_84 ?_
          cases h
  refine L23 6 (0 + 1 + 27) (0 + 7 + 60) a.2 bo bv H locs k (zi 12) (0 : Int32) v23 ls (lv_sub hl [0, 1, 2, 3, 4] rfl) hP hD hS (by omega) (by omega) e23 (fun ar23 bo23 bv23 H locs ls hl hP hD hS => ?_)
  refine lv_aload_n hx hb dL_build_92 rfl (lv_at hl 4 rfl) ?_
  refine lv_iconst (v := (1 : Int32)) hx hb dL_build_93 (by decide) ?_
  obtain ⟨v94, e94, h⟩ := o_bind h
  refine sc_cell (rest := []) ⟨hx, hb, hml, hown, hts⟩ hXs hbl hbA hS e94 gG_RL_70 hd_L_cell ⟨Nat.le_of_ble_eq_true rfl, Nat.le_of_ble_eq_true rfl⟩ hl.1 (Nat.le_of_ble_eq_true rfl) dL_build_94 ⟨show 0 + 1 + 27 + 18 ≤ 220 by omega, show 0 + 7 + 60 + 84 ≤ 2100 by omega⟩ rfl ?_
  refine lv_bipush (v := (60 : Int32)) hx hb dL_build_97 (by decide) ?_
  obtain ⟨g99, h⟩ := o_if h
  refine ro_calli (ro_runS (As := [.int v94, .int (60 : Int32)]) (rest := []) ⟨hx, hb, hml, hown, hts⟩ hP hK (c_L_below l D (tyG c5) (KW c5 (a.1, ar23) v23.1 ++ (SW c5 bo23 bv23 v23.2.1 ++ ([] : va_W))) v94 (60 : Int32) g99) gG_RL_15 hd_L_below ⟨Nat.le_of_ble_eq_true rfl, Nat.le_of_ble_eq_true rfl⟩ ⟨rfl, rfl⟩ hl.1 (Nat.le_of_ble_eq_true rfl) dL_build_99 ⟨show 0 + 1 + 27 + 18 ≤ 220 by omega, show 0 + 7 + 60 + 84 ≤ 2100 by omega⟩ rfl) ?_
  refine lv_istore (i := 4) (lv' := [(4, .int (bl_ v94 (60 : Int32))), (3, .int ((1 : Int32) + (bl_ v11 (5 : Int32)))), (2, .ref (bo23 0)), (0, .ref (aO a 0)), (1, .ref b)]) hx hb dL_build_102 hl (by decide) rfl (fun ls hl => ?_)
  refine lv_iconst (v := (0 : Int32)) hx hb dL_build_104 (by decide) ?_
  refine lv_istore (i := 5) (lv' := [(5, .int (0 : Int32)), (4, .int (bl_ v94 (60 : Int32))), (3, .int ((1 : Int32) + (bl_ v11 (5 : Int32)))), (2, .ref (bo23 0)), (0, .ref (aO a 0)), (1, .ref b)]) hx hb dL_build_105 hl (by decide) rfl (fun ls hl => ?_)
  obtain ⟨v107, e107, h⟩ := o_bind h
  have L107 : ∀ (n107 : Nat) (cells107 slots107 : Nat) (bv107 : BV) (H : Heap) (locs : List Loc) (k107 : KSt) (zs107 : SSt) (x5_107 : Int32) (v9 : KSt × SSt × Int32) (ls : Array Slot), lv_has ls 8 [(5, .int x5_107), (4, .int (bl_ v94 (60 : Int32))), (3, .int ((1 : Int32) + (bl_ v11 (5 : Int32)))), (2, .ref (bo23 0)), (0, .ref (aO a 0)), (1, .ref b)] → va_P D vwCl (KW c5 (a.1, ar23) k107 ++ (SW c5 bo23 bv107 zs107 ++ ([] : va_W))) H → va_D A (KW c5 (a.1, ar23) k107 ++ (SW c5 bo23 bv107 zs107 ++ ([] : va_W))) → va_S A s.heap H locs → cells107 + n107 * 2 ≤ 0 + 1 + 27 + 18 + 122 → slots107 + n107 * 27 ≤ 0 + 7 + 60 + 84 + 1647 → R_L_build_L107 L xs v11 v94 n107 k107 zs107 x5_107 = some v9 → (∀ (bv107 : BV) (H : Heap) (locs : List Loc) (ls : Array Slot), lv_has ls 8 [(5, .int v9.2.2), (4, .int (bl_ v94 (60 : Int32))), (3, .int ((1 : Int32) + (bl_ v11 (5 : Int32)))), (2, .ref (bo23 0)), (0, .ref (aO a 0)), (1, .ref b)] → va_P D vwCl (KW c5 (a.1, ar23) v9.1 ++ (SW c5 bo23 bv107 v9.2.1 ++ ([] : va_W))) H → va_D A (KW c5 (a.1, ar23) v9.1 ++ (SW c5 bo23 bv107 v9.2.1 ++ ([] : va_W))) → va_S A s.heap H locs → W p l e (headSpec (ws_ yL_build cL_build 8 (some (.object "SlabKitchenLaw$Sim"))) { frames := 5, cells := 220, slots := 2100, locals := 115 }).room s m ([.ref (aO a 0), .ref b] : List Value).toArray below meth c H locs (0 + 1 + 27 + 18 + 122) (0 + 7 + 60 + 84 + 1647) (MQ below (va_Qr (fun u : ((Nat → Nat) × (Nat → Nat) × (Nat → Nat)) × KSt × (Nat → Nat) × BV × SSt => u.2.1 = r.1 ∧ u.2.2.2.2 = r.2) (fun u q t => q = u.2.2.1 0 ∧ va_P D vwCl (KW c5 (a.1, u.1) u.2.1 ++ SW c5 u.2.2.1 u.2.2.2.1 u.2.2.2.2) t.heap ∧ va_K D vwCl (tyG c5) t ∧ va_D (A) (KW c5 (a.1, u.1) u.2.1 ++ SW c5 u.2.2.1 u.2.2.2.1 u.2.2.2.2)) (A)) ([.ref (aO a 0), .ref b] : List Value).toArray s 220 2100 A) (F0 m 179 ls [])) → W p l e (headSpec (ws_ yL_build cL_build 8 (some (.object "SlabKitchenLaw$Sim"))) { frames := 5, cells := 220, slots := 2100, locals := 115 }).room s m ([.ref (aO a 0), .ref b] : List Value).toArray below meth c H locs (cells107) (slots107) (MQ below (va_Qr (fun u : ((Nat → Nat) × (Nat → Nat) × (Nat → Nat)) × KSt × (Nat → Nat) × BV × SSt => u.2.1 = r.1 ∧ u.2.2.2.2 = r.2) (fun u q t => q = u.2.2.1 0 ∧ va_P D vwCl (KW c5 (a.1, u.1) u.2.1 ++ SW c5 u.2.2.1 u.2.2.2.1 u.2.2.2.2) t.heap ∧ va_K D vwCl (tyG c5) t ∧ va_D (A) (KW c5 (a.1, u.1) u.2.1 ++ SW c5 u.2.2.1 u.2.2.2.1 u.2.2.2.2)) (A)) ([.ref (aO a 0), .ref b] : List Value).toArray s 220 2100 A) (F0 m 107 ls []) := by
    intro n107
    induction n107 with
    | zero =>
      intro cells107 slots107 bv107 H locs k107 zs107 x5_107 v9 ls hl hP hD hS hc107 hn107 h kx
      exact absurd h (by simp [R_L_build_L107])
    | succ n107 ih107 =>
      intro cells107 slots107 bv107 H locs k107 zs107 x5_107 v9 ls hl hP hD hS hc107 hn107 h kx
      rw [R_L_build_L107] at h
      refine lv_iload hx hb dL_build_107 (lv_at hl 0 rfl) ?_
      refine lv_iload hx hb dL_build_109 (lv_at hl 1 rfl) ?_
      refine lv_icmp_ge (tgt := 179) hx hb dL_build_111 (by decide) (fun q => ?_) (fun q => ?_)
      · have h := o_t h q
        obtain rfl := Option.some.inj h
        refine W.widen (k := 0 + 1 + 27 + 18 + 122) (n := 0 + 7 + 60 + 84 + 1647) (by omega) (by omega) ?_
        exact kx bv107 H locs ls (lv_sub hl [0, 1, 2, 3, 4, 5] rfl) hP hD hS
      · have h := o_f h q
        refine lv_aload_n hx hb dL_build_114 rfl (lv_at hl 5 rfl) ?_
        refine lv_iconst (v := (2 : Int32)) hx hb dL_build_115 (by decide) ?_
        refine lv_iload hx hb dL_build_116 (lv_at hl 0 rfl) ?_
        refine lv_bipush (v := (14 : Int32)) hx hb dL_build_118 (by decide) ?_
        refine lv_irem hx hb dL_build_120 (by decide) ?_
        refine lv_iadd hx hb dL_build_121 ?_
        obtain ⟨v122, e122, h⟩ := o_bind h
        refine sc_cell (rest := []) ⟨hx, hb, hml, hown, hts⟩ hXs hbl hbA hS e122 gG_RL_70 hd_L_cell ⟨Nat.le_of_ble_eq_true rfl, Nat.le_of_ble_eq_true rfl⟩ hl.1 (Nat.le_of_ble_eq_true rfl) dL_build_122 ⟨show cells107 ≤ 220 by omega, show slots107 ≤ 2100 by omega⟩ rfl ?_
        refine lv_iload hx hb dL_build_125 (lv_at hl 0 rfl) ?_
        refine lv_bipush (v := (14 : Int32)) hx hb dL_build_127 (by decide) ?_
        refine lv_idiv hx hb dL_build_129 (by decide) ?_
        refine lv_iconst (v := (5 : Int32)) hx hb dL_build_130 (by decide) ?_
        refine lv_imul hx hb dL_build_131 ?_
        refine lv_ishr hx hb dL_build_132 ?_
        refine lv_iconst (v := (3 : Int32)) hx hb dL_build_133 (by decide) ?_
        refine lv_iload hx hb dL_build_134 (lv_at hl 0 rfl) ?_
        refine lv_imul hx hb dL_build_136 ?_
        refine lv_iadd hx hb dL_build_137 ?_
        refine lv_iload_n hx hb dL_build_138 rfl (lv_at hl 2 rfl) ?_
        obtain ⟨g139, h⟩ := o_if h
        refine ro_calli (ro_runS (As := [.int ((v122 >>> (((x5_107 / (14 : Int32)) * (5 : Int32)) &&& 31)) + ((3 : Int32) * x5_107)), .int ((1 : Int32) + (bl_ v11 (5 : Int32)))]) (rest := []) ⟨hx, hb, hml, hown, hts⟩ hP hK (c_L_below l D (tyG c5) (KW c5 (a.1, ar23) k107 ++ (SW c5 bo23 bv107 zs107 ++ ([] : va_W))) ((v122 >>> (((x5_107 / (14 : Int32)) * (5 : Int32)) &&& 31)) + ((3 : Int32) * x5_107)) ((1 : Int32) + (bl_ v11 (5 : Int32))) g139) gG_RL_15 hd_L_below ⟨Nat.le_of_ble_eq_true rfl, Nat.le_of_ble_eq_true rfl⟩ ⟨rfl, rfl⟩ hl.1 (Nat.le_of_ble_eq_true rfl) dL_build_139 ⟨show cells107 ≤ 220 by omega, show slots107 ≤ 2100 by omega⟩ rfl) ?_
        refine lv_istore (i := 6) (lv' := [(6, .int (bl_ ((v122 >>> (((x5_107 / (14 : Int32)) * (5 : Int32)) &&& 31)) + ((3 : Int32) * x5_107)) ((1 : Int32) + (bl_ v11 (5 : Int32))))), (5, .int x5_107), (4, .int (bl_ v94 (60 : Int32))), (3, .int ((1 : Int32) + (bl_ v11 (5 : Int32)))), (2, .ref (bo23 0)), (0, .ref (aO a 0)), (1, .ref b)]) hx hb dL_build_142 hl (by decide) rfl (fun ls hl => ?_)
        refine lv_aload_n hx hb dL_build_144 rfl (lv_at hl 4 rfl) ?_
        refine lv_iload hx hb dL_build_145 (lv_at hl 0 rfl) ?_
        obtain ⟨v147, e147, h⟩ := o_bind h
        refine fr_calli (wc := SW c5 bo23 bv107 zs107) (X := KW c5 (a.1, ar23) k107) (Y := []) (sw_runV (As := [.int (bl_ ((v122 >>> (((x5_107 / (14 : Int32)) * (5 : Int32)) &&& 31)) + ((3 : Int32) * x5_107)) ((1 : Int32) + (bl_ v11 (5 : Int32))))]) (rest := []) ⟨hx, hb, hml, hown, hts⟩ (fr_P (X := KW c5 (a.1, ar23) k107) (Y := []) hP) hK (fr_D (X := KW c5 (a.1, ar23) k107) (Y := []) hD) hOI hOZ (c_X3_puts l D c5 bo23 bv107 zs107 H.size (bl_ ((v122 >>> (((x5_107 / (14 : Int32)) * (5 : Int32)) &&& 31)) + ((3 : Int32) * x5_107)) ((1 : Int32) + (bl_ v11 (5 : Int32)))) v147 e147) gG_RL_61 (va_recv hK hP (ci := 3) (q0 := ((KW c5 (a.1, ar23) k107).length + 0)) rfl (ap_r (ap_l (SW_0 c5 bo23 bv107 zs107)))) hd_X3_puts ⟨Nat.le_of_ble_eq_true rfl, Nat.le_of_ble_eq_true rfl⟩ ⟨rfl, rfl⟩ hl.1 (Nat.le_of_ble_eq_true rfl) dL_build_147 ⟨show cells107 + 2 ≤ 220 by omega, show slots107 + 27 ≤ 2100 by omega⟩ rfl) hP hD hS hA (fun x147 u147 H locs hpost hP hD hS => ?_)
        obtain ⟨bv147, z147⟩ := u147
        obtain ⟨rfl, rfl⟩ := hpost
        refine lv_istore (i := 7) (lv' := [(7, .int v147.1), (6, .int (bl_ ((v122 >>> (((x5_107 / (14 : Int32)) * (5 : Int32)) &&& 31)) + ((3 : Int32) * x5_107)) ((1 : Int32) + (bl_ v11 (5 : Int32))))), (5, .int x5_107), (4, .int (bl_ v94 (60 : Int32))), (3, .int ((1 : Int32) + (bl_ v11 (5 : Int32)))), (2, .ref (bo23 0)), (0, .ref (aO a 0)), (1, .ref b)]) hx hb dL_build_150 hl (by decide) rfl (fun ls hl => ?_)
        refine lv_iload hx hb dL_build_152 (lv_at hl 0 rfl) ?_
        refine lv_if_ge (tgt := 160) hx hb dL_build_154 (by decide) (fun q => ?_) (fun q => ?_)
        · have h := o_t h q
          refine lv_aload_n hx hb dL_build_160 rfl (lv_at hl 6 rfl) ?_
          refine lv_iload hx hb dL_build_161 (lv_at hl 1 rfl) ?_
          obtain ⟨v163, e163, h⟩ := yb_some h
          refine fr_calli (wc := KW c5 (a.1, ar23) k107) (X := []) (Y := SW c5 bo23 bv147 v147.2 ++ ([] : va_W)) (rw_runV (As := [.int (bl_ ((v122 >>> (((x5_107 / (14 : Int32)) * (5 : Int32)) &&& 31)) + ((3 : Int32) * x5_107)) ((1 : Int32) + (bl_ v11 (5 : Int32))))]) (rest := []) ⟨hx, hb, hml, hown, hts⟩ (fr_P (X := []) (Y := SW c5 bo23 bv147 v147.2 ++ ([] : va_W)) hP) hK (fr_D (X := []) (Y := SW c5 bo23 bv147 v147.2 ++ ([] : va_W)) hD) (c_X2_put l D c5 (a.1, ar23) k107 (KI_of (fr_D (X := []) (Y := SW c5 bo23 bv147 v147.2 ++ ([] : va_W)) hD)) H.size (bl_ ((v122 >>> (((x5_107 / (14 : Int32)) * (5 : Int32)) &&& 31)) + ((3 : Int32) * x5_107)) ((1 : Int32) + (bl_ v11 (5 : Int32)))) v163 e163) gG_RL_64 (va_recv hK hP (ci := 2) (q0 := 0) rfl (ap_l (KW_0 c5 (a.1, ar23) k107))) hd_X2_put ⟨Nat.le_of_ble_eq_true rfl, Nat.le_of_ble_eq_true rfl⟩ ⟨rfl, rfl⟩ hl.1 (Nat.le_of_ble_eq_true rfl) dL_build_163 ⟨show cells107 + 2 ≤ 220 by omega, show slots107 + 27 ≤ 2100 by omega⟩ rfl) hP hD hS hA (fun x163 u163 H locs hpost hP hD hS => ?_)
          obtain ⟨ex163, eu163⟩ := hpost
          subst ex163
          subst eu163
          refine lv_iload hx hb dL_build_166 (lv_at hl 0 rfl) ?_
          refine lv_icmp_eq (tgt := 173) hx hb dL_build_168 (by decide) (fun q => ?_) (fun q => ?_)
          · have h := o_t h q
            refine lv_iinc (v := (x5_107 + (1 : Int32))) (lv' := [(5, .int (x5_107 + (1 : Int32))), (7, .int v147.1), (6, .int (bl_ ((v122 >>> (((x5_107 / (14 : Int32)) * (5 : Int32)) &&& 31)) + ((3 : Int32) * x5_107)) ((1 : Int32) + (bl_ v11 (5 : Int32))))), (4, .int (bl_ v94 (60 : Int32))), (3, .int ((1 : Int32) + (bl_ v11 (5 : Int32)))), (2, .ref (bo23 0)), (0, .ref (aO a 0)), (1, .ref b)]) hx hb dL_build_173 hl (k := 2) rfl rfl (by decide) rfl (fun ls hl => ?_)
            refine lv_goto (tgt := 107) hx hb dL_build_176 (by decide) ?_
            exact ih107 (cells107 + 2 + 0) (slots107 + 27 + 0) bv147 H locs v163.2 v147.2 (x5_107 + (1 : Int32)) v9 ls (lv_sub hl [0, 3, 4, 5, 6, 7] rfl) hP hD hS (by omega) (by omega) h kx
          · have h := o_f h q
            refine lv_null hx hb dL_build_171 ?_
            cases h
        · have h := o_f h q
          refine lv_goto (tgt := 179) hx hb dL_build_157 (by decide) ?_
          obtain rfl := Option.some.inj h
          refine W.widen (k := 0 + 1 + 27 + 18 + 122) (n := 0 + 7 + 60 + 84 + 1647) (by omega) (by omega) ?_
          exact kx bv147 H locs ls (lv_sub hl [2, 3, 4, 5, 6, 7] rfl) hP hD hS
  refine L107 61 (0 + 1 + 27 + 18) (0 + 7 + 60 + 84) bv23 H locs v23.1 v23.2.1 (0 : Int32) v107 ls (lv_sub hl [0, 1, 2, 3, 4, 5] rfl) hP hD hS (by omega) (by omega) e107 (fun bv107 H locs ls hl hP hD hS => ?_)
  refine lv_aload_n hx hb dL_build_179 rfl (lv_at hl 3 rfl) ?_
  obtain rfl := Option.some.inj h
  have hP := eW_P (V := KW c5 (a.1, ar23) v107.1) (W := SW c5 bo23 bv107 v107.2.1) (X := []) hP
  have hD := eW_D (V := KW c5 (a.1, ar23) v107.1) (W := SW c5 bo23 bv107 v107.2.1) (X := []) hD
  refine W.widen (k := 220) (n := 2100) (by omega) (by omega) ?_
  exact W.aret hx hb hr (Or.inl ⟨_, rfl⟩) (Or.inr ⟨_, rfl⟩) (fun t ht hW => ⟨⟨(ar23, v107.1, bo23, bv107, v107.2.1), bo23 0, rfl, ⟨rfl, rfl⟩, rfl, by rw [ht]; exact hP, va_K.moved hW.alike hK, hD⟩, hS.F ht⟩) hS.2.2 dL_build_180 hlocks
