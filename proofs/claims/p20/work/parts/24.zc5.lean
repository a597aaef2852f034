set_option maxHeartbeats 4000000 in
set_option maxRecDepth 100000 in
theorem c_X3_isSame (l : Launch) (D : va_G) (c5 : Nat → ClassId) (a : KAd) (k : KSt) (bo : Nat → Nat) (bv : BV) (zs : SSt) (sz : Nat) (r : Unit) (h : R_X3_isSame k zs = some r) : Met l yX3_isSame (ws_ yX3_isSame cX3_isSame 8 (some .boolean)) { frames := 4, cells := 20, slots := 142, locals := 93 } (va_Pc [.ref (bo 0), .ref (aO a 0)] (swB D c5 (KW c5 a k ++ SW c5 bo bv zs) sz)) (va_Qi (fun x (_ : Unit) => x = 1) (rwE D (tyG c5) (va_A (KW c5 a k ++ SW c5 bo bv zs) sz) (fun _ : Unit => KW c5 a k ++ SW c5 bo bv zs)) (va_A (KW c5 a k ++ SW c5 bo bv zs) sz)) 20 142 (va_A (KW c5 a k ++ SW c5 bo bv zs) sz) := by
  refine Met.ofW (cc := cX3_isSame) (maxL := 8) (ret := (some .boolean)) (by decide) rfl ?_
  intro p e s m args below meth c s₁ B hml hv
  obtain ⟨rfl, hsz, hP, hK, hD0, hOI, hOZ⟩ := hv
  have hx := B.exec
  have hb := B.bytes
  have hr := B.returns
  have hts : ∀ w ∈ LA, w.before _ s = true := fun w hw => atoms_spec (ws := ws_ yX3_isSame cX3_isSame 8 (some .boolean)) B.pre w (List.mem_cons_of_mem _ hw)
  have hown : s.vm.findClass RX3 = some m.cls := findClass_of_methodNamed B.named
  have hlocks := B.notSynchronized
  subst hsz
  have hI : KI a := KI_of (fr_D (X := []) (Y := SW c5 bo bv zs) hD0)
  have hD := hD0.self (sz := s.heap.size)
  generalize hAe : va_A (KW c5 a k ++ SW c5 bo bv zs) s.heap.size = A at hD ⊢
  have hA : ∀ q : Nat, s.heap.size ≤ q → A q := fun q h => by rw [← hAe]; exact Or.inr h
  have hS : va_S A s.heap s.heap [] := va_S.rf
  have hP := i2_P hP
  have hD := i2_D hD
  have hl := lv_entry ([.ref (bo 0), .ref (aO a 0)] : List Value) (n := 8) (Nat.le_of_ble_eq_true rfl)
  rw [lg_entry_eq]
  generalize (lg_sl ([.ref (bo 0), .ref (aO a 0)] : List Value) ++ List.replicate (8 - (lg_sl ([.ref (bo 0), .ref (aO a 0)] : List Value)).length) Slot.unset).toArray = ls at hl ⊢
  have hl : lv_has ls 8 [(0, .ref (bo 0)), (1, .ref (aO a 0))] := hl
  unfold R_X3_isSame at h
  refine lv_bipush (v := (10 : Int32)) hx hb dX3_isSame_0 (by decide) ?_
  refine va_newa (atype := .int) (a0 := (10, .inl (fun _ => (0 : Int32)))) (N' := 10) hx hb (hts _ wT2_184) rfl hK hP hD hS hA (fun _ => rfl) (by decide) rfl (by decide) (show 0 + 1 ≤ 20 by omega) (show 0 + 10 ≤ 142 by omega) dX3_isSame_2 (fun qn2 cA H hK9 hP hD hS => ?_)
  obtain rfl : cA = c5 3 := ca_eq (i := 6) (j := 3) hK9 rfl rfl
  have hP := as2_P hP
  have hD := as2_D hD
  refine lv_dup hx hb dX3_isSame_4 rfl ?_
  refine lv_iconst (v := (0 : Int32)) hx hb dX3_isSame_5 (by decide) ?_
  refine lv_aload_n hx hb dX3_isSame_6 rfl (lv_at hl 0 rfl) ?_
  refine va_get (D := D) (ci := 3) (v := .int (zF zs 0)) (C := RX3) (T := TX3) (N := 7) hx hb hts iX3 hown hK hP ((KW c5 a k).length + 0) (ap_r (ap_l (SW_0 c5 bo bv zs))) rfl 0 (by decide) (hts _ wT3_11) (fun _ h9 => h9) rfl dX3_isSame_7 ?_
  obtain ⟨g10, h⟩ := o_if h
  obtain ⟨gx10, ez10, h⟩ := o_bind h
  refine va_iast hx hb hK hP hD hS ((KW c5 a k).length + ((SW c5 bo bv zs).length + 0)) 3 (ap_r (ap_r (Y := [(qn2, .inl (c5 3, 10, .inl (fun _ => (0 : Int32))))]) rfl)) rfl (inb_in g10) dX3_isSame_10 (fun H locs hP hD hS => ?_)
  have hP := wP (ap_sr (ap_sr rfl)) hP
  have hD := wD (ap_sr (ap_sr rfl)) hD
  have hP := wP (congrArg (fun y9 => KW c5 a k ++ (SW c5 bo bv zs ++ ([(qn2, .inl (c5 3, 10, .inl y9))] : va_W))) (Option.some.inj ez10)) hP
  have hD := wD (congrArg (fun y9 => KW c5 a k ++ (SW c5 bo bv zs ++ ([(qn2, .inl (c5 3, 10, .inl y9))] : va_W))) (Option.some.inj ez10)) hD
  refine lv_dup hx hb dX3_isSame_11 rfl ?_
  refine lv_iconst (v := (1 : Int32)) hx hb dX3_isSame_12 (by decide) ?_
  refine lv_aload_n hx hb dX3_isSame_13 rfl (lv_at hl 0 rfl) ?_
  refine va_get (D := D) (ci := 3) (v := .ref (bo 1)) (C := RX3) (T := TX3) (N := 7) hx hb hts iX3 hown hK hP ((KW c5 a k).length + 0) (ap_r (ap_l (SW_0 c5 bo bv zs))) rfl 4 (by decide) (hts _ wT3_16) (fun _ h9 => h9) rfl dX3_isSame_14 ?_
  refine va_alen (v := (nI (zN zs))) hx hb hK hP ((KW c5 a k).length + 1) 4 (ap_r (ap_l (SW_1 c5 bo bv zs))) rfl rfl dX3_isSame_17 ?_
  obtain ⟨g18, h⟩ := o_if h
  obtain ⟨gx18, ez18, h⟩ := o_bind h
  refine va_iast hx hb hK hP hD hS ((KW c5 a k).length + ((SW c5 bo bv zs).length + 0)) 3 (ap_r (ap_r (Y := [(qn2, .inl (c5 3, 10, .inl gx10))]) rfl)) rfl (inb_in g18) dX3_isSame_18 (fun H locs hP hD hS => ?_)
  have hP := wP (ap_sr (ap_sr rfl)) hP
  have hD := wD (ap_sr (ap_sr rfl)) hD
  have hP := wP (congrArg (fun y9 => KW c5 a k ++ (SW c5 bo bv zs ++ ([(qn2, .inl (c5 3, 10, .inl y9))] : va_W))) (Option.some.inj ez18)) hP
  have hD := wD (congrArg (fun y9 => KW c5 a k ++ (SW c5 bo bv zs ++ ([(qn2, .inl (c5 3, 10, .inl y9))] : va_W))) (Option.some.inj ez18)) hD
  refine lv_dup hx hb dX3_isSame_19 rfl ?_
  refine lv_iconst (v := (2 : Int32)) hx hb dX3_isSame_20 (by decide) ?_
  refine lv_iconst (v := (0 : Int32)) hx hb dX3_isSame_21 (by decide) ?_
  obtain ⟨g22, h⟩ := o_if h
  obtain ⟨gx22, ez22, h⟩ := o_bind h
  refine va_iast hx hb hK hP hD hS ((KW c5 a k).length + ((SW c5 bo bv zs).length + 0)) 3 (ap_r (ap_r (Y := [(qn2, .inl (c5 3, 10, .inl gx18))]) rfl)) rfl (inb_in g22) dX3_isSame_22 (fun H locs hP hD hS => ?_)
  have hP := wP (ap_sr (ap_sr rfl)) hP
  have hD := wD (ap_sr (ap_sr rfl)) hD
  have hP := wP (congrArg (fun y9 => KW c5 a k ++ (SW c5 bo bv zs ++ ([(qn2, .inl (c5 3, 10, .inl y9))] : va_W))) (Option.some.inj ez22)) hP
  have hD := wD (congrArg (fun y9 => KW c5 a k ++ (SW c5 bo bv zs ++ ([(qn2, .inl (c5 3, 10, .inl y9))] : va_W))) (Option.some.inj ez22)) hD
  refine lv_dup hx hb dX3_isSame_23 rfl ?_
  refine lv_iconst (v := (3 : Int32)) hx hb dX3_isSame_24 (by decide) ?_
  refine lv_iconst (v := (0 : Int32)) hx hb dX3_isSame_25 (by decide) ?_
  obtain ⟨g26, h⟩ := o_if h
  obtain ⟨gx26, ez26, h⟩ := o_bind h
  refine va_iast hx hb hK hP hD hS ((KW c5 a k).length + ((SW c5 bo bv zs).length + 0)) 3 (ap_r (ap_r (Y := [(qn2, .inl (c5 3, 10, .inl gx22))]) rfl)) rfl (inb_in g26) dX3_isSame_26 (fun H locs hP hD hS => ?_)
  have hP := wP (ap_sr (ap_sr rfl)) hP
  have hD := wD (ap_sr (ap_sr rfl)) hD
  have hP := wP (congrArg (fun y9 => KW c5 a k ++ (SW c5 bo bv zs ++ ([(qn2, .inl (c5 3, 10, .inl y9))] : va_W))) (Option.some.inj ez26)) hP
  have hD := wD (congrArg (fun y9 => KW c5 a k ++ (SW c5 bo bv zs ++ ([(qn2, .inl (c5 3, 10, .inl y9))] : va_W))) (Option.some.inj ez26)) hD
  refine lv_dup hx hb dX3_isSame_27 rfl ?_
  refine lv_iconst (v := (4 : Int32)) hx hb dX3_isSame_28 (by decide) ?_
  refine lv_iconst (v := (0 : Int32)) hx hb dX3_isSame_29 (by decide) ?_
  obtain ⟨g30, h⟩ := o_if h
  obtain ⟨gx30, ez30, h⟩ := o_bind h
  refine va_iast hx hb hK hP hD hS ((KW c5 a k).length + ((SW c5 bo bv zs).length + 0)) 3 (ap_r (ap_r (Y := [(qn2, .inl (c5 3, 10, .inl gx26))]) rfl)) rfl (inb_in g30) dX3_isSame_30 (fun H locs hP hD hS => ?_)
  have hP := wP (ap_sr (ap_sr rfl)) hP
  have hD := wD (ap_sr (ap_sr rfl)) hD
  have hP := wP (congrArg (fun y9 => KW c5 a k ++ (SW c5 bo bv zs ++ ([(qn2, .inl (c5 3, 10, .inl y9))] : va_W))) (Option.some.inj ez30)) hP
  have hD := wD (congrArg (fun y9 => KW c5 a k ++ (SW c5 bo bv zs ++ ([(qn2, .inl (c5 3, 10, .inl y9))] : va_W))) (Option.some.inj ez30)) hD
  refine lv_dup hx hb dX3_isSame_31 rfl ?_
  refine lv_iconst (v := (5 : Int32)) hx hb dX3_isSame_32 (by decide) ?_
  refine lv_iconst (v := (0 : Int32)) hx hb dX3_isSame_33 (by decide) ?_
  obtain ⟨g34, h⟩ := o_if h
  obtain ⟨gx34, ez34, h⟩ := o_bind h
  refine va_iast hx hb hK hP hD hS ((KW c5 a k).length + ((SW c5 bo bv zs).length + 0)) 3 (ap_r (ap_r (Y := [(qn2, .inl (c5 3, 10, .inl gx30))]) rfl)) rfl (inb_in g34) dX3_isSame_34 (fun H locs hP hD hS => ?_)
  have hP := wP (ap_sr (ap_sr rfl)) hP
  have hD := wD (ap_sr (ap_sr rfl)) hD
  have hP := wP (congrArg (fun y9 => KW c5 a k ++ (SW c5 bo bv zs ++ ([(qn2, .inl (c5 3, 10, .inl y9))] : va_W))) (Option.some.inj ez34)) hP
  have hD := wD (congrArg (fun y9 => KW c5 a k ++ (SW c5 bo bv zs ++ ([(qn2, .inl (c5 3, 10, .inl y9))] : va_W))) (Option.some.inj ez34)) hD
  refine lv_dup hx hb dX3_isSame_35 rfl ?_
  refine lv_bipush (v := (6 : Int32)) hx hb dX3_isSame_36 (by decide) ?_
  refine lv_iconst (v := (0 : Int32)) hx hb dX3_isSame_38 (by decide) ?_
  obtain ⟨g39, h⟩ := o_if h
  obtain ⟨gx39, ez39, h⟩ := o_bind h
  refine va_iast hx hb hK hP hD hS ((KW c5 a k).length + ((SW c5 bo bv zs).length + 0)) 3 (ap_r (ap_r (Y := [(qn2, .inl (c5 3, 10, .inl gx34))]) rfl)) rfl (inb_in g39) dX3_isSame_39 (fun H locs hP hD hS => ?_)
  have hP := wP (ap_sr (ap_sr rfl)) hP
  have hD := wD (ap_sr (ap_sr rfl)) hD
  have hP := wP (congrArg (fun y9 => KW c5 a k ++ (SW c5 bo bv zs ++ ([(qn2, .inl (c5 3, 10, .inl y9))] : va_W))) (Option.some.inj ez39)) hP
  have hD := wD (congrArg (fun y9 => KW c5 a k ++ (SW c5 bo bv zs ++ ([(qn2, .inl (c5 3, 10, .inl y9))] : va_W))) (Option.some.inj ez39)) hD
  refine lv_dup hx hb dX3_isSame_40 rfl ?_
  refine lv_bipush (v := (7 : Int32)) hx hb dX3_isSame_41 (by decide) ?_
  refine lv_aload_n hx hb dX3_isSame_43 rfl (lv_at hl 0 rfl) ?_
  refine va_get (D := D) (ci := 3) (v := .int (zF zs 2)) (C := RX3) (T := TX3) (N := 7) hx hb hts iX3 hown hK hP ((KW c5 a k).length + 0) (ap_r (ap_l (SW_0 c5 bo bv zs))) rfl 2 (by decide) (hts _ wT3_14) (fun _ h9 => h9) rfl dX3_isSame_44 ?_
  obtain ⟨g47, h⟩ := o_if h
  obtain ⟨gx47, ez47, h⟩ := o_bind h
  refine va_iast hx hb hK hP hD hS ((KW c5 a k).length + ((SW c5 bo bv zs).length + 0)) 3 (ap_r (ap_r (Y := [(qn2, .inl (c5 3, 10, .inl gx39))]) rfl)) rfl (inb_in g47) dX3_isSame_47 (fun H locs hP hD hS => ?_)
  have hP := wP (ap_sr (ap_sr rfl)) hP
  have hD := wD (ap_sr (ap_sr rfl)) hD
  have hP := wP (congrArg (fun y9 => KW c5 a k ++ (SW c5 bo bv zs ++ ([(qn2, .inl (c5 3, 10, .inl y9))] : va_W))) (Option.some.inj ez47)) hP
  have hD := wD (congrArg (fun y9 => KW c5 a k ++ (SW c5 bo bv zs ++ ([(qn2, .inl (c5 3, 10, .inl y9))] : va_W))) (Option.some.inj ez47)) hD
  refine lv_dup hx hb dX3_isSame_48 rfl ?_
  refine lv_bipush (v := (8 : Int32)) hx hb dX3_isSame_49 (by decide) ?_
  refine lv_aload_n hx hb dX3_isSame_51 rfl (lv_at hl 0 rfl) ?_
  refine va_get (D := D) (ci := 3) (v := .int (zF zs 3)) (C := RX3) (T := TX3) (N := 7) hx hb hts iX3 hown hK hP ((KW c5 a k).length + 0) (ap_r (ap_l (SW_0 c5 bo bv zs))) rfl 3 (by decide) (hts _ wT3_15) (fun _ h9 => h9) rfl dX3_isSame_52 ?_
  obtain ⟨g55, h⟩ := o_if h
  obtain ⟨gx55, ez55, h⟩ := o_bind h
  refine va_iast hx hb hK hP hD hS ((KW c5 a k).length + ((SW c5 bo bv zs).length + 0)) 3 (ap_r (ap_r (Y := [(qn2, .inl (c5 3, 10, .inl gx47))]) rfl)) rfl (inb_in g55) dX3_isSame_55 (fun H locs hP hD hS => ?_)
  have hP := wP (ap_sr (ap_sr rfl)) hP
  have hD := wD (ap_sr (ap_sr rfl)) hD
  have hP := wP (congrArg (fun y9 => KW c5 a k ++ (SW c5 bo bv zs ++ ([(qn2, .inl (c5 3, 10, .inl y9))] : va_W))) (Option.some.inj ez55)) hP
  have hD := wD (congrArg (fun y9 => KW c5 a k ++ (SW c5 bo bv zs ++ ([(qn2, .inl (c5 3, 10, .inl y9))] : va_W))) (Option.some.inj ez55)) hD
  refine lv_dup hx hb dX3_isSame_56 rfl ?_
  refine lv_bipush (v := (9 : Int32)) hx hb dX3_isSame_57 (by decide) ?_
  refine lv_aload_n hx hb dX3_isSame_59 rfl (lv_at hl 0 rfl) ?_
  refine va_get (D := D) (ci := 3) (v := .int (zF zs 1)) (C := RX3) (T := TX3) (N := 7) hx hb hts iX3 hown hK hP ((KW c5 a k).length + 0) (ap_r (ap_l (SW_0 c5 bo bv zs))) rfl 1 (by decide) (hts _ wT3_13) (fun _ h9 => h9) rfl dX3_isSame_60 ?_
  obtain ⟨g63, h⟩ := o_if h
  obtain ⟨gx63, ez63, h⟩ := o_bind h
  refine va_iast hx hb hK hP hD hS ((KW c5 a k).length + ((SW c5 bo bv zs).length + 0)) 3 (ap_r (ap_r (Y := [(qn2, .inl (c5 3, 10, .inl gx55))]) rfl)) rfl (inb_in g63) dX3_isSame_63 (fun H locs hP hD hS => ?_)
  have hP := wP (ap_sr (ap_sr rfl)) hP
  have hD := wD (ap_sr (ap_sr rfl)) hD
  have hP := wP (congrArg (fun y9 => KW c5 a k ++ (SW c5 bo bv zs ++ ([(qn2, .inl (c5 3, 10, .inl y9))] : va_W))) (Option.some.inj ez63)) hP
  have hD := wD (congrArg (fun y9 => KW c5 a k ++ (SW c5 bo bv zs ++ ([(qn2, .inl (c5 3, 10, .inl y9))] : va_W))) (Option.some.inj ez63)) hD
  refine lv_astore_n (i := 2) (lv' := [(2, .ref qn2), (0, .ref (bo 0)), (1, .ref (aO a 0))]) hx hb dX3_isSame_64 rfl hl (by decide) rfl (fun ls hl => ?_)
  refine lv_iconst (v := (0 : Int32)) hx hb dX3_isSame_65 (by decide) ?_
  refine lv_istore_n (i := 3) (lv' := [(3, .int (0 : Int32)), (2, .ref qn2), (0, .ref (bo 0)), (1, .ref (aO a 0))]) hx hb dX3_isSame_66 rfl hl (by decide) rfl (fun ls hl => ?_)
  obtain ⟨v67, e67, h⟩ := o_bind h
  have L67 : ∀ (n67 : Nat) (cells67 slots67 : Nat) (H : Heap) (locs : List Loc) (gx0_67 : Nat → Int32) (x3_67 : Int32) (v9 : (Nat → Int32) × Int32) (ls : Array Slot), lv_has ls 8 [(3, .int x3_67), (2, .ref qn2), (0, .ref (bo 0)), (1, .ref (aO a 0))] → va_P D vwCl (KW c5 a k ++ (SW c5 bo bv zs ++ ([(qn2, .inl (c5 3, 10, .inl gx0_67))] : va_W))) H → va_D A (KW c5 a k ++ (SW c5 bo bv zs ++ ([(qn2, .inl (c5 3, 10, .inl gx0_67))] : va_W))) → va_S A s.heap H locs → cells67 + n67 * 1 ≤ 0 + 1 + 13 → slots67 + n67 * 6 ≤ 0 + 10 + 78 → R_X3_isSame_L67 k zs n67 gx0_67 x3_67 = some v9 → (∀ (H : Heap) (locs : List Loc) (ls : Array Slot), lv_has ls 8 [(3, .int v9.2), (2, .ref qn2), (0, .ref (bo 0)), (1, .ref (aO a 0))] → va_P D vwCl (KW c5 a k ++ (SW c5 bo bv zs ++ ([(qn2, .inl (c5 3, 10, .inl v9.1))] : va_W))) H → va_D A (KW c5 a k ++ (SW c5 bo bv zs ++ ([(qn2, .inl (c5 3, 10, .inl v9.1))] : va_W))) → va_S A s.heap H locs → W p l e (headSpec (ws_ yX3_isSame cX3_isSame 8 (some .boolean)) { frames := 4, cells := 20, slots := 142, locals := 93 }).room s m ([.ref (bo 0), .ref (aO a 0)] : List Value).toArray below meth c H locs (0 + 1 + 13) (0 + 10 + 78) (MQ below (va_Qi (fun x (_ : Unit) => x = 1) (rwE D (tyG c5) (A) (fun _ : Unit => KW c5 a k ++ SW c5 bo bv zs)) (A)) ([.ref (bo 0), .ref (aO a 0)] : List Value).toArray s 20 142 A) (F0 m 344 ls [])) → W p l e (headSpec (ws_ yX3_isSame cX3_isSame 8 (some .boolean)) { frames := 4, cells := 20, slots := 142, locals := 93 }).room s m ([.ref (bo 0), .ref (aO a 0)] : List Value).toArray below meth c H locs (cells67) (slots67) (MQ below (va_Qi (fun x (_ : Unit) => x = 1) (rwE D (tyG c5) (A) (fun _ : Unit => KW c5 a k ++ SW c5 bo bv zs)) (A)) ([.ref (bo 0), .ref (aO a 0)] : List Value).toArray s 20 142 A) (F0 m 67 ls []) := by
    intro n67
    induction n67 with
    | zero =>
      intro cells67 slots67 H locs gx0_67 x3_67 v9 ls hl hP hD hS hc67 hn67 h kx
      exact absurd h (by simp [R_X3_isSame_L67])
    | succ n67 ih67 =>
      intro cells67 slots67 H locs gx0_67 x3_67 v9 ls hl hP hD hS hc67 hn67 h kx
      rw [R_X3_isSame_L67] at h
      refine lv_iload_n hx hb dX3_isSame_67 rfl (lv_at hl 0 rfl) ?_
      refine lv_bipush (v := (12 : Int32)) hx hb dX3_isSame_68 (by decide) ?_
      refine lv_icmp_ge (tgt := 344) hx hb dX3_isSame_70 (by decide) (fun q => ?_) (fun q => ?_)
      · have h := o_t h q
        obtain rfl := Option.some.inj h
        refine W.widen (k := 0 + 1 + 13) (n := 0 + 10 + 78) (by omega) (by omega) ?_
        exact kx H locs ls (lv_sub hl [0, 1, 2, 3] rfl) hP hD hS
      · have h := o_f h q
        refine lv_aload_n hx hb dX3_isSame_73 rfl (lv_at hl 2 rfl) ?_
        refine va_get (D := D) (ci := 3) (v := .ref (bo 2)) (C := RX3) (T := TX3) (N := 7) hx hb hts iX3 hown hK hP ((KW c5 a k).length + 0) (ap_r (ap_l (SW_0 c5 bo bv zs))) rfl 5 (by decide) (hts _ wT3_18) (fun _ h9 => h9) rfl dX3_isSame_74 ?_
        refine lv_iload_n hx hb dX3_isSame_77 rfl (lv_at hl 0 rfl) ?_
        obtain ⟨g78, h⟩ := o_if h
        refine ar_ld hx hb hK hP ((KW c5 a k).length + 2) 4 (ap_r (ap_l (SW_2 c5 bo bv zs))) rfl (inb_in g78) rfl dX3_isSame_78 ?_
        refine lv_iconst (v := (0 : Int32)) hx hb dX3_isSame_79 (by decide) ?_
        obtain ⟨g80, h⟩ := o_if h
        refine va_iald hx hb hK hP ((KW c5 a k).length + (4 + (x3_67.toNatClampNeg))) 3 (ap_r (ap_l (SW_H c5 bo bv zs (inb_lt g78)))) rfl (inb_in g80) dX3_isSame_80 ?_
        obtain ⟨v81, e81, h⟩ := o_bind h
        have tn81 : ∀ (ls : Array Slot), lv_has ls 8 [(3, .int x3_67), (2, .ref qn2), (0, .ref (bo 0)), (1, .ref (aO a 0))] → W p l e (headSpec (ws_ yX3_isSame cX3_isSame 8 (some .boolean)) { frames := 4, cells := 20, slots := 142, locals := 93 }).room s m ([.ref (bo 0), .ref (aO a 0)] : List Value).toArray below meth c H locs (cells67) (slots67) (MQ below (va_Qi (fun x (_ : Unit) => x = 1) (rwE D (tyG c5) (A) (fun _ : Unit => KW c5 a k ++ SW c5 bo bv zs)) (A)) ([.ref (bo 0), .ref (aO a 0)] : List Value).toArray s 20 142 A) (F0 m 89 ls [.int v81]) := by
          intro ls hl
          refine lv_istore (i := 4) (lv' := [(4, .int v81), (3, .int x3_67), (2, .ref qn2), (0, .ref (bo 0)), (1, .ref (aO a 0))]) hx hb dX3_isSame_89 hl (by decide) rfl (fun ls hl => ?_)
          refine lv_bipush (v := (6 : Int32)) hx hb dX3_isSame_91 (by decide) ?_
          refine va_newa (atype := .int) (a0 := (6, .inl (fun _ => (0 : Int32)))) (N' := 6) hx hb (hts _ wT2_184) rfl hK hP hD hS hA (fun _ => rfl) (by decide) rfl (by decide) (show cells67 + 1 ≤ 20 by omega) (show slots67 + 6 ≤ 142 by omega) dX3_isSame_93 (fun qn93 cA H hK9 hP hD hS => ?_)
          obtain rfl : cA = c5 3 := ca_eq (i := 6) (j := 3) hK9 rfl rfl
          have hP := as2_P hP
          have hD := as2_D hD
          refine lv_dup hx hb dX3_isSame_95 rfl ?_
          refine lv_iconst (v := (0 : Int32)) hx hb dX3_isSame_96 (by decide) ?_
          refine lv_aload_n hx hb dX3_isSame_97 rfl (lv_at hl 3 rfl) ?_
          refine va_get (D := D) (ci := 3) (v := .ref (bo 2)) (C := RX3) (T := TX3) (N := 7) hx hb hts iX3 hown hK hP ((KW c5 a k).length + 0) (ap_r (ap_l (SW_0 c5 bo bv zs))) rfl 5 (by decide) (hts _ wT3_18) (fun _ h9 => h9) rfl dX3_isSame_98 ?_
          refine lv_iload_n hx hb dX3_isSame_101 rfl (lv_at hl 1 rfl) ?_
          obtain ⟨g102, h⟩ := o_if h
          refine ar_ld hx hb hK hP ((KW c5 a k).length + 2) 4 (ap_r (ap_l (SW_2 c5 bo bv zs))) rfl (inb_in g102) rfl dX3_isSame_102 ?_
          refine lv_iconst (v := (0 : Int32)) hx hb dX3_isSame_103 (by decide) ?_
          obtain ⟨g104, h⟩ := o_if h
          refine va_iald hx hb hK hP ((KW c5 a k).length + (4 + (x3_67.toNatClampNeg))) 3 (ap_r (ap_l (SW_H c5 bo bv zs (inb_lt g102)))) rfl (inb_in g104) dX3_isSame_104 ?_
          obtain ⟨w105, ew105, h⟩ := o_bind h
          rw [Option.some.inj ew105]
          obtain ⟨g105, h⟩ := o_if h
          obtain ⟨gx105, ez105, h⟩ := o_bind h
          refine va_iast hx hb hK hP hD hS ((KW c5 a k).length + ((SW c5 bo bv zs).length + 1)) 3 (ap_r (ap_r (Y := [(qn2, .inl (c5 3, 10, .inl gx0_67)), (qn93, .inl (c5 3, 6, .inl (fun _ => (0 : Int32))))]) rfl)) rfl (inb_in g105) dX3_isSame_105 (fun H locs hP hD hS => ?_)
          have hP := wP (ap_sr (ap_sr rfl)) hP
          have hD := wD (ap_sr (ap_sr rfl)) hD
          have hP := wP (congrArg (fun y9 => KW c5 a k ++ (SW c5 bo bv zs ++ ([(qn2, .inl (c5 3, 10, .inl gx0_67)), (qn93, .inl (c5 3, 6, .inl y9))] : va_W))) (Option.some.inj ez105)) hP
          have hD := wD (congrArg (fun y9 => KW c5 a k ++ (SW c5 bo bv zs ++ ([(qn2, .inl (c5 3, 10, .inl gx0_67)), (qn93, .inl (c5 3, 6, .inl y9))] : va_W))) (Option.some.inj ez105)) hD
          refine lv_dup hx hb dX3_isSame_106 rfl ?_
          refine lv_iconst (v := (1 : Int32)) hx hb dX3_isSame_107 (by decide) ?_
          refine lv_aload_n hx hb dX3_isSame_108 rfl (lv_at hl 3 rfl) ?_
          refine lv_iload_n hx hb dX3_isSame_109 rfl (lv_at hl 1 rfl) ?_
          obtain ⟨v110, e110, h⟩ := o_bind h
          refine ro_calli (ro_runV (As := [.int x3_67]) (rest := [.int (1 : Int32), .ref qn93, .ref qn93]) ⟨hx, hb, hml, hown, hts⟩ (fr_P (X := KW c5 a k) (Y := [(qn2, .inl (c5 3, 10, .inl gx0_67)), (qn93, .inl (c5 3, 6, .inl gx105))]) hP) hK (c_X3_many l D c5 bo bv zs x3_67 v110 e110) gG_RX3_45 (va_recv hK hP (ci := 3) (q0 := ((KW c5 a k).length + 0)) rfl (ap_r (ap_l (SW_0 c5 bo bv zs)))) hd_X3_many ⟨Nat.le_of_ble_eq_true rfl, Nat.le_of_ble_eq_true rfl⟩ ⟨rfl, rfl⟩ hl.1 (Nat.le_of_ble_eq_true rfl) dX3_isSame_110 ⟨show cells67 + 1 ≤ 20 by omega, show slots67 + 6 ≤ 142 by omega⟩ rfl) ?_
          obtain ⟨g113, h⟩ := o_if h
          obtain ⟨gx113, ez113, h⟩ := o_bind h
          refine va_iast hx hb hK hP hD hS ((KW c5 a k).length + ((SW c5 bo bv zs).length + 1)) 3 (ap_r (ap_r (Y := [(qn2, .inl (c5 3, 10, .inl gx0_67)), (qn93, .inl (c5 3, 6, .inl gx105))]) rfl)) rfl (inb_in g113) dX3_isSame_113 (fun H locs hP hD hS => ?_)
          have hP := wP (ap_sr (ap_sr rfl)) hP
          have hD := wD (ap_sr (ap_sr rfl)) hD
          have hP := wP (congrArg (fun y9 => KW c5 a k ++ (SW c5 bo bv zs ++ ([(qn2, .inl (c5 3, 10, .inl gx0_67)), (qn93, .inl (c5 3, 6, .inl y9))] : va_W))) (Option.some.inj ez113)) hP
          have hD := wD (congrArg (fun y9 => KW c5 a k ++ (SW c5 bo bv zs ++ ([(qn2, .inl (c5 3, 10, .inl gx0_67)), (qn93, .inl (c5 3, 6, .inl y9))] : va_W))) (Option.some.inj ez113)) hD
          refine lv_dup hx hb dX3_isSame_114 rfl ?_
          refine lv_iconst (v := (2 : Int32)) hx hb dX3_isSame_115 (by decide) ?_
          refine lv_iload hx hb dX3_isSame_116 (lv_at hl 0 rfl) ?_
          obtain ⟨v118, e118, h⟩ := o_bind h
          have tn118 : ∀ (ls : Array Slot), lv_has ls 8 [(4, .int v81), (3, .int x3_67), (2, .ref qn2), (0, .ref (bo 0)), (1, .ref (aO a 0))] → W p l e (headSpec (ws_ yX3_isSame cX3_isSame 8 (some .boolean)) { frames := 4, cells := 20, slots := 142, locals := 93 }).room s m ([.ref (bo 0), .ref (aO a 0)] : List Value).toArray below meth c H locs (cells67 + 1) (slots67 + 6) (MQ below (va_Qi (fun x (_ : Unit) => x = 1) (rwE D (tyG c5) (A) (fun _ : Unit => KW c5 a k ++ SW c5 bo bv zs)) (A)) ([.ref (bo 0), .ref (aO a 0)] : List Value).toArray s 20 142 A) (F0 m 133 ls [.int v118, .int (2 : Int32), .ref qn93, .ref qn93]) := by
            intro ls hl
            obtain ⟨g133, h⟩ := o_if h
            obtain ⟨gx133, ez133, h⟩ := o_bind h
            refine va_iast hx hb hK hP hD hS ((KW c5 a k).length + ((SW c5 bo bv zs).length + 1)) 3 (ap_r (ap_r (Y := [(qn2, .inl (c5 3, 10, .inl gx0_67)), (qn93, .inl (c5 3, 6, .inl gx113))]) rfl)) rfl (inb_in g133) dX3_isSame_133 (fun H locs hP hD hS => ?_)
            have hP := wP (ap_sr (ap_sr rfl)) hP
            have hD := wD (ap_sr (ap_sr rfl)) hD
            have hP := wP (congrArg (fun y9 => KW c5 a k ++ (SW c5 bo bv zs ++ ([(qn2, .inl (c5 3, 10, .inl gx0_67)), (qn93, .inl (c5 3, 6, .inl y9))] : va_W))) (Option.some.inj ez133)) hP
            have hD := wD (congrArg (fun y9 => KW c5 a k ++ (SW c5 bo bv zs ++ ([(qn2, .inl (c5 3, 10, .inl gx0_67)), (qn93, .inl (c5 3, 6, .inl y9))] : va_W))) (Option.some.inj ez133)) hD
            refine lv_dup hx hb dX3_isSame_134 rfl ?_
            refine lv_iconst (v := (3 : Int32)) hx hb dX3_isSame_135 (by decide) ?_
            refine lv_aload_n hx hb dX3_isSame_136 rfl (lv_at hl 3 rfl) ?_
            refine va_get (D := D) (ci := 3) (v := .ref (bo 3)) (C := RX3) (T := TX3) (N := 7) hx hb hts iX3 hown hK hP ((KW c5 a k).length + 0) (ap_r (ap_l (SW_0 c5 bo bv zs))) rfl 6 (by decide) (hts _ wT3_19) (fun _ h9 => h9) rfl dX3_isSame_137 ?_
            refine lv_iload_n hx hb dX3_isSame_140 rfl (lv_at hl 1 rfl) ?_
            obtain ⟨g141, h⟩ := o_if h
            refine ar_ld hx hb hK hP ((KW c5 a k).length + 3) 5 (ap_r (ap_l (SW_3 c5 bo bv zs))) rfl (inb_in g141) rfl dX3_isSame_141 ?_
            refine va_alen (v := (nI (zL zs (x3_67.toNatClampNeg)))) hx hb hK hP ((KW c5 a k).length + (16 + (x3_67.toNatClampNeg))) 2 (ap_r (ap_l (SW_B c5 bo bv zs (inb_lt g141)))) rfl rfl dX3_isSame_142 ?_
            obtain ⟨g143, h⟩ := o_if h
            obtain ⟨gx143, ez143, h⟩ := o_bind h
            refine va_iast hx hb hK hP hD hS ((KW c5 a k).length + ((SW c5 bo bv zs).length + 1)) 3 (ap_r (ap_r (Y := [(qn2, .inl (c5 3, 10, .inl gx0_67)), (qn93, .inl (c5 3, 6, .inl gx133))]) rfl)) rfl (inb_in g143) dX3_isSame_143 (fun H locs hP hD hS => ?_)
            have hP := wP (ap_sr (ap_sr rfl)) hP
            have hD := wD (ap_sr (ap_sr rfl)) hD
            have hP := wP (congrArg (fun y9 => KW c5 a k ++ (SW c5 bo bv zs ++ ([(qn2, .inl (c5 3, 10, .inl gx0_67)), (qn93, .inl (c5 3, 6, .inl y9))] : va_W))) (Option.some.inj ez143)) hP
            have hD := wD (congrArg (fun y9 => KW c5 a k ++ (SW c5 bo bv zs ++ ([(qn2, .inl (c5 3, 10, .inl gx0_67)), (qn93, .inl (c5 3, 6, .inl y9))] : va_W))) (Option.some.inj ez143)) hD
            refine lv_dup hx hb dX3_isSame_144 rfl ?_
            refine lv_iconst (v := (4 : Int32)) hx hb dX3_isSame_145 (by decide) ?_
            refine lv_aload_n hx hb dX3_isSame_146 rfl (lv_at hl 3 rfl) ?_
            refine lv_iload_n hx hb dX3_isSame_147 rfl (lv_at hl 1 rfl) ?_
            obtain ⟨v148, e148, h⟩ := o_bind h
            refine ro_calli (ro_runV (As := [.int x3_67]) (rest := [.int (4 : Int32), .ref qn93, .ref qn93]) ⟨hx, hb, hml, hown, hts⟩ (fr_P (X := KW c5 a k) (Y := [(qn2, .inl (c5 3, 10, .inl gx0_67)), (qn93, .inl (c5 3, 6, .inl gx143))]) hP) hK (c_X3_hole l D c5 bo bv zs x3_67 v148 e148) gG_RX3_56 (va_recv hK hP (ci := 3) (q0 := ((KW c5 a k).length + 0)) rfl (ap_r (ap_l (SW_0 c5 bo bv zs)))) hd_X3_hole ⟨Nat.le_of_ble_eq_true rfl, Nat.le_of_ble_eq_true rfl⟩ ⟨rfl, rfl⟩ hl.1 (Nat.le_of_ble_eq_true rfl) dX3_isSame_148 ⟨show cells67 + 1 ≤ 20 by omega, show slots67 + 6 ≤ 142 by omega⟩ rfl) ?_
            obtain ⟨g151, h⟩ := o_if h
            obtain ⟨gx151, ez151, h⟩ := o_bind h
            refine va_iast hx hb hK hP hD hS ((KW c5 a k).length + ((SW c5 bo bv zs).length + 1)) 3 (ap_r (ap_r (Y := [(qn2, .inl (c5 3, 10, .inl gx0_67)), (qn93, .inl (c5 3, 6, .inl gx143))]) rfl)) rfl (inb_in g151) dX3_isSame_151 (fun H locs hP hD hS => ?_)
            have hP := wP (ap_sr (ap_sr rfl)) hP
            have hD := wD (ap_sr (ap_sr rfl)) hD
            have hP := wP (congrArg (fun y9 => KW c5 a k ++ (SW c5 bo bv zs ++ ([(qn2, .inl (c5 3, 10, .inl gx0_67)), (qn93, .inl (c5 3, 6, .inl y9))] : va_W))) (Option.some.inj ez151)) hP
            have hD := wD (congrArg (fun y9 => KW c5 a k ++ (SW c5 bo bv zs ++ ([(qn2, .inl (c5 3, 10, .inl gx0_67)), (qn93, .inl (c5 3, 6, .inl y9))] : va_W))) (Option.some.inj ez151)) hD
            refine lv_dup hx hb dX3_isSame_152 rfl ?_
            refine lv_iconst (v := (5 : Int32)) hx hb dX3_isSame_153 (by decide) ?_
            refine lv_aload_n hx hb dX3_isSame_154 rfl (lv_at hl 3 rfl) ?_
            refine va_get (D := D) (ci := 3) (v := .ref (bo 2)) (C := RX3) (T := TX3) (N := 7) hx hb hts iX3 hown hK hP ((KW c5 a k).length + 0) (ap_r (ap_l (SW_0 c5 bo bv zs))) rfl 5 (by decide) (hts _ wT3_18) (fun _ h9 => h9) rfl dX3_isSame_155 ?_
            refine lv_iload_n hx hb dX3_isSame_158 rfl (lv_at hl 1 rfl) ?_
            obtain ⟨g159, h⟩ := o_if h
            refine ar_ld hx hb hK hP ((KW c5 a k).length + 2) 4 (ap_r (ap_l (SW_2 c5 bo bv zs))) rfl (inb_in g159) rfl dX3_isSame_159 ?_
            refine lv_iconst (v := (2 : Int32)) hx hb dX3_isSame_160 (by decide) ?_
            obtain ⟨g161, h⟩ := o_if h
            refine va_iald hx hb hK hP ((KW c5 a k).length + (4 + (x3_67.toNatClampNeg))) 3 (ap_r (ap_l (SW_H c5 bo bv zs (inb_lt g159)))) rfl (inb_in g161) dX3_isSame_161 ?_
            obtain ⟨w162, ew162, h⟩ := o_bind h
            rw [Option.some.inj ew162]
            obtain ⟨g162, h⟩ := o_if h
            obtain ⟨gx162, ez162, h⟩ := o_bind h
            refine va_iast hx hb hK hP hD hS ((KW c5 a k).length + ((SW c5 bo bv zs).length + 1)) 3 (ap_r (ap_r (Y := [(qn2, .inl (c5 3, 10, .inl gx0_67)), (qn93, .inl (c5 3, 6, .inl gx151))]) rfl)) rfl (inb_in g162) dX3_isSame_162 (fun H locs hP hD hS => ?_)
            have hP := wP (ap_sr (ap_sr rfl)) hP
            have hD := wD (ap_sr (ap_sr rfl)) hD
            have hP := wP (congrArg (fun y9 => KW c5 a k ++ (SW c5 bo bv zs ++ ([(qn2, .inl (c5 3, 10, .inl gx0_67)), (qn93, .inl (c5 3, 6, .inl y9))] : va_W))) (Option.some.inj ez162)) hP
            have hD := wD (congrArg (fun y9 => KW c5 a k ++ (SW c5 bo bv zs ++ ([(qn2, .inl (c5 3, 10, .inl gx0_67)), (qn93, .inl (c5 3, 6, .inl y9))] : va_W))) (Option.some.inj ez162)) hD
            refine lv_astore (i := 5) (lv' := [(5, .ref qn93), (4, .int v81), (3, .int x3_67), (2, .ref qn2), (0, .ref (bo 0)), (1, .ref (aO a 0))]) hx hb dX3_isSame_163 hl (by decide) rfl (fun ls hl => ?_)
            refine lv_iconst (v := (0 : Int32)) hx hb dX3_isSame_165 (by decide) ?_
            refine lv_istore (i := 6) (lv' := [(6, .int (0 : Int32)), (5, .ref qn93), (4, .int v81), (3, .int x3_67), (2, .ref qn2), (0, .ref (bo 0)), (1, .ref (aO a 0))]) hx hb dX3_isSame_166 hl (by decide) rfl (fun ls hl => ?_)
            obtain ⟨v168, e168, h⟩ := o_bind h
            have L168 : ∀ (n168 : Nat) (x6_168 : Int32) (v9 : Int32) (ls : Array Slot), lv_has ls 8 [(6, .int x6_168), (5, .ref qn93), (4, .int v81), (3, .int x3_67), (2, .ref qn2), (0, .ref (bo 0)), (1, .ref (aO a 0))] → R_X3_isSame_L168 k x3_67 gx162 n168 x6_168 = some v9 → (∀ (ls : Array Slot), lv_has ls 8 [(6, .int v9), (5, .ref qn93), (4, .int v81), (3, .int x3_67), (2, .ref qn2), (0, .ref (bo 0)), (1, .ref (aO a 0))] → W p l e (headSpec (ws_ yX3_isSame cX3_isSame 8 (some .boolean)) { frames := 4, cells := 20, slots := 142, locals := 93 }).room s m ([.ref (bo 0), .ref (aO a 0)] : List Value).toArray below meth c H locs (cells67 + 1) (slots67 + 6) (MQ below (va_Qi (fun x (_ : Unit) => x = 1) (rwE D (tyG c5) (A) (fun _ : Unit => KW c5 a k ++ SW c5 bo bv zs)) (A)) ([.ref (bo 0), .ref (aO a 0)] : List Value).toArray s 20 142 A) (F0 m 198 ls [])) → W p l e (headSpec (ws_ yX3_isSame cX3_isSame 8 (some .boolean)) { frames := 4, cells := 20, slots := 142, locals := 93 }).room s m ([.ref (bo 0), .ref (aO a 0)] : List Value).toArray below meth c H locs (cells67 + 1) (slots67 + 6) (MQ below (va_Qi (fun x (_ : Unit) => x = 1) (rwE D (tyG c5) (A) (fun _ : Unit => KW c5 a k ++ SW c5 bo bv zs)) (A)) ([.ref (bo 0), .ref (aO a 0)] : List Value).toArray s 20 142 A) (F0 m 168 ls []) := by
              intro n168
              induction n168 with
              | zero =>
                intro x6_168 v9 ls hl h kx
                exact absurd h (by simp [R_X3_isSame_L168])
              | succ n168 ih168 =>
                intro x6_168 v9 ls hl h kx
                rw [R_X3_isSame_L168] at h
                refine lv_iload hx hb dX3_isSame_168 (lv_at hl 0 rfl) ?_
                refine lv_bipush (v := (6 : Int32)) hx hb dX3_isSame_170 (by decide) ?_
                refine lv_icmp_ge (tgt := 198) hx hb dX3_isSame_172 (by decide) (fun q => ?_) (fun q => ?_)
                · have h := o_t h q
                  obtain rfl := Option.some.inj h
                  exact kx ls (lv_sub hl [0, 1, 2, 3, 4, 5, 6] rfl)
                · have h := o_f h q
                  refine lv_aload_n hx hb dX3_isSame_175 rfl (lv_at hl 6 rfl) ?_
                  refine lv_iload_n hx hb dX3_isSame_176 rfl (lv_at hl 3 rfl) ?_
                  refine lv_iload hx hb dX3_isSame_177 (lv_at hl 0 rfl) ?_
                  obtain ⟨v179, e179, h⟩ := yb_some h
                  refine ro_calli (ro_runV (As := [.int x3_67, .int x6_168]) (rest := []) ⟨hx, hb, hml, hown, hts⟩ (fr_P (X := []) (Y := SW c5 bo bv zs ++ ([(qn2, .inl (c5 3, 10, .inl gx0_67)), (qn93, .inl (c5 3, 6, .inl gx162))] : va_W)) hP) hK (c_X2_shelf l D c5 a k hI x3_67 x6_168 v179 e179) gG_RX3_63 (va_recv hK hP (ci := 2) (q0 := 0) rfl (ap_l (KW_0 c5 a k))) hd_X2_shelf ⟨Nat.le_of_ble_eq_true rfl, Nat.le_of_ble_eq_true rfl⟩ ⟨rfl, rfl⟩ hl.1 (Nat.le_of_ble_eq_true rfl) dX3_isSame_179 ⟨show cells67 + 1 ≤ 20 by omega, show slots67 + 6 ≤ 142 by omega⟩ rfl) ?_
                  refine lv_aload hx hb dX3_isSame_182 (lv_at hl 1 rfl) ?_
                  refine lv_iload hx hb dX3_isSame_184 (lv_at hl 0 rfl) ?_
                  obtain ⟨g186, h⟩ := o_if h
                  refine va_iald hx hb hK hP ((KW c5 a k).length + ((SW c5 bo bv zs).length + 1)) 3 (ap_r (ap_r (Y := [(qn2, .inl (c5 3, 10, .inl gx0_67)), (qn93, .inl (c5 3, 6, .inl gx162))]) rfl)) rfl (inb_in g186) dX3_isSame_186 ?_
                  refine lv_icmp_eq (tgt := 192) hx hb dX3_isSame_187 (by decide) (fun q => ?_) (fun q => ?_)
                  · have h := o_t h q
                    refine lv_iinc (v := (x6_168 + (1 : Int32))) (lv' := [(6, .int (x6_168 + (1 : Int32))), (5, .ref qn93), (4, .int v81), (3, .int x3_67), (2, .ref qn2), (0, .ref (bo 0)), (1, .ref (aO a 0))]) hx hb dX3_isSame_192 hl (k := 0) rfl rfl (by decide) rfl (fun ls hl => ?_)
                    refine lv_goto (tgt := 168) hx hb dX3_isSame_195 (by decide) ?_
                    exact ih168 (x6_168 + (1 : Int32)) v9 ls (lv_sub hl [0, 1, 2, 3, 4, 5, 6] rfl) h kx
                  · have h := o_f h q
                    refine lv_iconst (v := (0 : Int32)) hx hb dX3_isSame_190 (by decide) ?_
                    cases h
            refine L168 FU (0 : Int32) v168 ls (lv_sub hl [0, 1, 2, 3, 4, 5, 6] rfl) e168 (fun ls hl => ?_)
            refine lv_aload_n hx hb dX3_isSame_198 rfl (lv_at hl 4 rfl) ?_
            refine lv_iconst (v := (2 : Int32)) hx hb dX3_isSame_199 (by decide) ?_
            refine lv_dup2_11 hx hb dX3_isSame_200 rfl rfl ?_
            obtain ⟨g201, h⟩ := o_if h
            refine va_iald hx hb hK hP ((KW c5 a k).length + ((SW c5 bo bv zs).length + 0)) 3 (ap_r (ap_r (Y := [(qn2, .inl (c5 3, 10, .inl gx0_67)), (qn93, .inl (c5 3, 6, .inl gx162))]) rfl)) rfl (inb_in g201) dX3_isSame_201 ?_
            refine lv_iload hx hb dX3_isSame_202 (lv_at hl 2 rfl) ?_
            obtain ⟨v204, e204, h⟩ := o_bind h
            have tn204 : ∀ (ls : Array Slot), lv_has ls 8 [(6, .int v168), (5, .ref qn93), (4, .int v81), (3, .int x3_67), (2, .ref qn2), (0, .ref (bo 0)), (1, .ref (aO a 0))] → W p l e (headSpec (ws_ yX3_isSame cX3_isSame 8 (some .boolean)) { frames := 4, cells := 20, slots := 142, locals := 93 }).room s m ([.ref (bo 0), .ref (aO a 0)] : List Value).toArray below meth c H locs (cells67 + 1) (slots67 + 6) (MQ below (va_Qi (fun x (_ : Unit) => x = 1) (rwE D (tyG c5) (A) (fun _ : Unit => KW c5 a k ++ SW c5 bo bv zs)) (A)) ([.ref (bo 0), .ref (aO a 0)] : List Value).toArray s 20 142 A) (F0 m 212 ls [.int v204, .int (gx0_67 ((2 : Int32).toNatClampNeg)), .int (2 : Int32), .ref qn2]) := by
              intro ls hl
              refine lv_iadd hx hb dX3_isSame_212 ?_
              obtain ⟨g213, h⟩ := o_if h
              obtain ⟨gx213, ez213, h⟩ := o_bind h
              refine va_iast hx hb hK hP hD hS ((KW c5 a k).length + ((SW c5 bo bv zs).length + 0)) 3 (ap_r (ap_r (Y := [(qn2, .inl (c5 3, 10, .inl gx0_67)), (qn93, .inl (c5 3, 6, .inl gx162))]) rfl)) rfl (inb_in g213) dX3_isSame_213 (fun H locs hP hD hS => ?_)
              have hP := wP (ap_sr (ap_sr rfl)) hP
              have hD := wD (ap_sr (ap_sr rfl)) hD
              have hP := wP (congrArg (fun y9 => KW c5 a k ++ (SW c5 bo bv zs ++ ([(qn2, .inl (c5 3, 10, .inl y9)), (qn93, .inl (c5 3, 6, .inl gx162))] : va_W))) (Option.some.inj ez213)) hP
              have hD := wD (congrArg (fun y9 => KW c5 a k ++ (SW c5 bo bv zs ++ ([(qn2, .inl (c5 3, 10, .inl y9)), (qn93, .inl (c5 3, 6, .inl gx162))] : va_W))) (Option.some.inj ez213)) hD
              refine lv_iload hx hb dX3_isSame_214 (lv_at hl 2 rfl) ?_
              refine lv_if_eq (tgt := 222) hx hb dX3_isSame_216 (by decide) (fun q => ?_) (fun q => ?_)
              · have h := o_t h q
                refine lv_aload_n hx hb dX3_isSame_222 rfl (lv_at hl 5 rfl) ?_
                refine va_get (D := D) (ci := 3) (v := .ref (bo 1)) (C := RX3) (T := TX3) (N := 7) hx hb hts iX3 hown hK hP ((KW c5 a k).length + 0) (ap_r (ap_l (SW_0 c5 bo bv zs))) rfl 4 (by decide) (hts _ wT3_16) (fun _ h9 => h9) rfl dX3_isSame_223 ?_
                refine lv_aload hx hb dX3_isSame_226 (lv_at hl 1 rfl) ?_
                refine lv_iconst (v := (0 : Int32)) hx hb dX3_isSame_228 (by decide) ?_
                obtain ⟨g229, h⟩ := o_if h
                refine va_iald hx hb hK hP ((KW c5 a k).length + ((SW c5 bo bv zs).length + 1)) 3 (ap_r (ap_r (Y := [(qn2, .inl (c5 3, 10, .inl gx213)), (qn93, .inl (c5 3, 6, .inl gx162))]) rfl)) rfl (inb_in g229) dX3_isSame_229 ?_
                obtain ⟨g230, h⟩ := o_if h
                refine ar_ld hx hb hK hP ((KW c5 a k).length + 1) 4 (ap_r (ap_l (SW_1 c5 bo bv zs))) rfl (inb_in g230) rfl dX3_isSame_230 ?_
                refine lv_iconst (v := (0 : Int32)) hx hb dX3_isSame_231 (by decide) ?_
                obtain ⟨g232, h⟩ := o_if h
                refine va_iald hx hb hK hP ((KW c5 a k).length + (28 + ((gx162 ((0 : Int32).toNatClampNeg)).toNatClampNeg))) 3 (ap_r (ap_l (SW_K c5 bo bv zs (inb_lt g230)))) rfl (inb_in g232) dX3_isSame_232 ?_
                refine lv_istore (i := 6) (lv' := [(6, .int (zK zs ((gx162 ((0 : Int32).toNatClampNeg)).toNatClampNeg) ((0 : Int32).toNatClampNeg))), (5, .ref qn93), (4, .int v81), (3, .int x3_67), (2, .ref qn2), (0, .ref (bo 0)), (1, .ref (aO a 0))]) hx hb dX3_isSame_233 hl (by decide) rfl (fun ls hl => ?_)
                refine lv_aload_n hx hb dX3_isSame_235 rfl (lv_at hl 4 rfl) ?_
                refine lv_iconst (v := (3 : Int32)) hx hb dX3_isSame_236 (by decide) ?_
                refine lv_dup2_11 hx hb dX3_isSame_237 rfl rfl ?_
                obtain ⟨g238, h⟩ := o_if h
                refine va_iald hx hb hK hP ((KW c5 a k).length + ((SW c5 bo bv zs).length + 0)) 3 (ap_r (ap_r (Y := [(qn2, .inl (c5 3, 10, .inl gx213)), (qn93, .inl (c5 3, 6, .inl gx162))]) rfl)) rfl (inb_in g238) dX3_isSame_238 ?_
                refine lv_aload hx hb dX3_isSame_239 (lv_at hl 1 rfl) ?_
                refine lv_iconst (v := (1 : Int32)) hx hb dX3_isSame_241 (by decide) ?_
                obtain ⟨g242, h⟩ := o_if h
                refine va_iald hx hb hK hP ((KW c5 a k).length + ((SW c5 bo bv zs).length + 1)) 3 (ap_r (ap_r (Y := [(qn2, .inl (c5 3, 10, .inl gx213)), (qn93, .inl (c5 3, 6, .inl gx162))]) rfl)) rfl (inb_in g242) dX3_isSame_242 ?_
                refine lv_iadd hx hb dX3_isSame_243 ?_
                obtain ⟨w244, ew244, h⟩ := o_bind h
                rw [Option.some.inj ew244]
                obtain ⟨g244, h⟩ := o_if h
                obtain ⟨gx244, ez244, h⟩ := o_bind h
                refine va_iast hx hb hK hP hD hS ((KW c5 a k).length + ((SW c5 bo bv zs).length + 0)) 3 (ap_r (ap_r (Y := [(qn2, .inl (c5 3, 10, .inl gx213)), (qn93, .inl (c5 3, 6, .inl gx162))]) rfl)) rfl (inb_in g244) dX3_isSame_244 (fun H locs hP hD hS => ?_)
                have hP := wP (ap_sr (ap_sr rfl)) hP
                have hD := wD (ap_sr (ap_sr rfl)) hD
                have hP := wP (congrArg (fun y9 => KW c5 a k ++ (SW c5 bo bv zs ++ ([(qn2, .inl (c5 3, 10, .inl y9)), (qn93, .inl (c5 3, 6, .inl gx162))] : va_W))) (Option.some.inj ez244)) hP
                have hD := wD (congrArg (fun y9 => KW c5 a k ++ (SW c5 bo bv zs ++ ([(qn2, .inl (c5 3, 10, .inl y9)), (qn93, .inl (c5 3, 6, .inl gx162))] : va_W))) (Option.some.inj ez244)) hD
                refine lv_aload_n hx hb dX3_isSame_245 rfl (lv_at hl 4 rfl) ?_
                refine lv_iconst (v := (4 : Int32)) hx hb dX3_isSame_246 (by decide) ?_
                refine lv_dup2_11 hx hb dX3_isSame_247 rfl rfl ?_
                obtain ⟨g248, h⟩ := o_if h
                refine va_iald hx hb hK hP ((KW c5 a k).length + ((SW c5 bo bv zs).length + 0)) 3 (ap_r (ap_r (Y := [(qn2, .inl (c5 3, 10, .inl gx244)), (qn93, .inl (c5 3, 6, .inl gx162))]) rfl)) rfl (inb_in g248) dX3_isSame_248 ?_
                refine lv_aload hx hb dX3_isSame_249 (lv_at hl 1 rfl) ?_
                refine lv_iconst (v := (1 : Int32)) hx hb dX3_isSame_251 (by decide) ?_
                obtain ⟨g252, h⟩ := o_if h
                refine va_iald hx hb hK hP ((KW c5 a k).length + ((SW c5 bo bv zs).length + 1)) 3 (ap_r (ap_r (Y := [(qn2, .inl (c5 3, 10, .inl gx244)), (qn93, .inl (c5 3, 6, .inl gx162))]) rfl)) rfl (inb_in g252) dX3_isSame_252 ?_
                refine lv_iload hx hb dX3_isSame_253 (lv_at hl 0 rfl) ?_
                refine lv_imul hx hb dX3_isSame_255 ?_
                refine lv_iadd hx hb dX3_isSame_256 ?_
                obtain ⟨w257, ew257, h⟩ := o_bind h
                rw [Option.some.inj ew257]
                obtain ⟨g257, h⟩ := o_if h
                obtain ⟨gx257, ez257, h⟩ := o_bind h
                refine va_iast hx hb hK hP hD hS ((KW c5 a k).length + ((SW c5 bo bv zs).length + 0)) 3 (ap_r (ap_r (Y := [(qn2, .inl (c5 3, 10, .inl gx244)), (qn93, .inl (c5 3, 6, .inl gx162))]) rfl)) rfl (inb_in g257) dX3_isSame_257 (fun H locs hP hD hS => ?_)
                have hP := wP (ap_sr (ap_sr rfl)) hP
                have hD := wD (ap_sr (ap_sr rfl)) hD
                have hP := wP (congrArg (fun y9 => KW c5 a k ++ (SW c5 bo bv zs ++ ([(qn2, .inl (c5 3, 10, .inl y9)), (qn93, .inl (c5 3, 6, .inl gx162))] : va_W))) (Option.some.inj ez257)) hP
                have hD := wD (congrArg (fun y9 => KW c5 a k ++ (SW c5 bo bv zs ++ ([(qn2, .inl (c5 3, 10, .inl y9)), (qn93, .inl (c5 3, 6, .inl gx162))] : va_W))) (Option.some.inj ez257)) hD
                refine lv_aload_n hx hb dX3_isSame_258 rfl (lv_at hl 4 rfl) ?_
                refine lv_iconst (v := (5 : Int32)) hx hb dX3_isSame_259 (by decide) ?_
                refine lv_dup2_11 hx hb dX3_isSame_260 rfl rfl ?_
                obtain ⟨g261, h⟩ := o_if h
                refine va_iald hx hb hK hP ((KW c5 a k).length + ((SW c5 bo bv zs).length + 0)) 3 (ap_r (ap_r (Y := [(qn2, .inl (c5 3, 10, .inl gx257)), (qn93, .inl (c5 3, 6, .inl gx162))]) rfl)) rfl (inb_in g261) dX3_isSame_261 ?_
                refine lv_bipush (v := (24 : Int32)) hx hb dX3_isSame_262 (by decide) ?_
                refine lv_aload hx hb dX3_isSame_264 (lv_at hl 1 rfl) ?_
                refine lv_iconst (v := (1 : Int32)) hx hb dX3_isSame_266 (by decide) ?_
                obtain ⟨g267, h⟩ := o_if h
                refine va_iald hx hb hK hP ((KW c5 a k).length + ((SW c5 bo bv zs).length + 1)) 3 (ap_r (ap_r (Y := [(qn2, .inl (c5 3, 10, .inl gx257)), (qn93, .inl (c5 3, 6, .inl gx162))]) rfl)) rfl (inb_in g267) dX3_isSame_267 ?_
                refine lv_iload hx hb dX3_isSame_268 (lv_at hl 0 rfl) ?_
                refine lv_imul hx hb dX3_isSame_270 ?_
                refine lv_isub hx hb dX3_isSame_271 ?_
                refine lv_iadd hx hb dX3_isSame_272 ?_
                obtain ⟨w273, ew273, h⟩ := o_bind h
                rw [Option.some.inj ew273]
                obtain ⟨g273, h⟩ := o_if h
                obtain ⟨gx273, ez273, h⟩ := o_bind h
                refine va_iast hx hb hK hP hD hS ((KW c5 a k).length + ((SW c5 bo bv zs).length + 0)) 3 (ap_r (ap_r (Y := [(qn2, .inl (c5 3, 10, .inl gx257)), (qn93, .inl (c5 3, 6, .inl gx162))]) rfl)) rfl (inb_in g273) dX3_isSame_273 (fun H locs hP hD hS => ?_)
                have hP := wP (ap_sr (ap_sr rfl)) hP
                have hD := wD (ap_sr (ap_sr rfl)) hD
                have hP := wP (congrArg (fun y9 => KW c5 a k ++ (SW c5 bo bv zs ++ ([(qn2, .inl (c5 3, 10, .inl y9)), (qn93, .inl (c5 3, 6, .inl gx162))] : va_W))) (Option.some.inj ez273)) hP
                have hD := wD (congrArg (fun y9 => KW c5 a k ++ (SW c5 bo bv zs ++ ([(qn2, .inl (c5 3, 10, .inl y9)), (qn93, .inl (c5 3, 6, .inl gx162))] : va_W))) (Option.some.inj ez273)) hD
                refine lv_aload_n hx hb dX3_isSame_274 rfl (lv_at hl 4 rfl) ?_
                refine lv_bipush (v := (6 : Int32)) hx hb dX3_isSame_275 (by decide) ?_
                refine lv_dup2_11 hx hb dX3_isSame_277 rfl rfl ?_
                obtain ⟨g278, h⟩ := o_if h
                refine va_iald hx hb hK hP ((KW c5 a k).length + ((SW c5 bo bv zs).length + 0)) 3 (ap_r (ap_r (Y := [(qn2, .inl (c5 3, 10, .inl gx273)), (qn93, .inl (c5 3, 6, .inl gx162))]) rfl)) rfl (inb_in g278) dX3_isSame_278 ?_
                refine lv_bipush (v := (24 : Int32)) hx hb dX3_isSame_279 (by decide) ?_
                refine lv_iload hx hb dX3_isSame_281 (lv_at hl 0 rfl) ?_
                obtain ⟨g283, h⟩ := o_if h
                refine lv_irem hx hb dX3_isSame_283 g283 ?_
                refine lv_iadd hx hb dX3_isSame_284 ?_
                obtain ⟨w285, ew285, h⟩ := o_bind h
                rw [Option.some.inj ew285]
                obtain ⟨g285, h⟩ := o_if h
                obtain ⟨gx285, ez285, h⟩ := o_bind h
                refine va_iast hx hb hK hP hD hS ((KW c5 a k).length + ((SW c5 bo bv zs).length + 0)) 3 (ap_r (ap_r (Y := [(qn2, .inl (c5 3, 10, .inl gx273)), (qn93, .inl (c5 3, 6, .inl gx162))]) rfl)) rfl (inb_in g285) dX3_isSame_285 (fun H locs hP hD hS => ?_)
                have hP := wP (ap_sr (ap_sr rfl)) hP
                have hD := wD (ap_sr (ap_sr rfl)) hD
                have hP := wP (congrArg (fun y9 => KW c5 a k ++ (SW c5 bo bv zs ++ ([(qn2, .inl (c5 3, 10, .inl y9)), (qn93, .inl (c5 3, 6, .inl gx162))] : va_W))) (Option.some.inj ez285)) hP
                have hD := wD (congrArg (fun y9 => KW c5 a k ++ (SW c5 bo bv zs ++ ([(qn2, .inl (c5 3, 10, .inl y9)), (qn93, .inl (c5 3, 6, .inl gx162))] : va_W))) (Option.some.inj ez285)) hD
                refine lv_iconst (v := (0 : Int32)) hx hb dX3_isSame_286 (by decide) ?_
                refine lv_istore (i := 7) (lv' := [(7, .int (0 : Int32)), (6, .int (zK zs ((gx162 ((0 : Int32).toNatClampNeg)).toNatClampNeg) ((0 : Int32).toNatClampNeg))), (5, .ref qn93), (4, .int v81), (3, .int x3_67), (2, .ref qn2), (0, .ref (bo 0)), (1, .ref (aO a 0))]) hx hb dX3_isSame_287 hl (by decide) rfl (fun ls hl => ?_)
                obtain ⟨v289, e289, h⟩ := o_bind h
                have L289 : ∀ (n289 : Nat) (x7_289 : Int32) (v9 : Int32) (ls : Array Slot), lv_has ls 8 [(7, .int x7_289), (6, .int (zK zs ((gx162 ((0 : Int32).toNatClampNeg)).toNatClampNeg) ((0 : Int32).toNatClampNeg))), (5, .ref qn93), (4, .int v81), (3, .int x3_67), (2, .ref qn2), (0, .ref (bo 0)), (1, .ref (aO a 0))] → R_X3_isSame_L289 k zs x3_67 gx162 n289 x7_289 = some v9 → (∀ (ls : Array Slot), lv_has ls 8 [(7, .int v9), (6, .int (zK zs ((gx162 ((0 : Int32).toNatClampNeg)).toNatClampNeg) ((0 : Int32).toNatClampNeg))), (5, .ref qn93), (4, .int v81), (3, .int x3_67), (2, .ref qn2), (0, .ref (bo 0)), (1, .ref (aO a 0))] → W p l e (headSpec (ws_ yX3_isSame cX3_isSame 8 (some .boolean)) { frames := 4, cells := 20, slots := 142, locals := 93 }).room s m ([.ref (bo 0), .ref (aO a 0)] : List Value).toArray below meth c H locs (cells67 + 1) (slots67 + 6) (MQ below (va_Qi (fun x (_ : Unit) => x = 1) (rwE D (tyG c5) (A) (fun _ : Unit => KW c5 a k ++ SW c5 bo bv zs)) (A)) ([.ref (bo 0), .ref (aO a 0)] : List Value).toArray s 20 142 A) (F0 m 338 ls [])) → W p l e (headSpec (ws_ yX3_isSame cX3_isSame 8 (some .boolean)) { frames := 4, cells := 20, slots := 142, locals := 93 }).room s m ([.ref (bo 0), .ref (aO a 0)] : List Value).toArray below meth c H locs (cells67 + 1) (slots67 + 6) (MQ below (va_Qi (fun x (_ : Unit) => x = 1) (rwE D (tyG c5) (A) (fun _ : Unit => KW c5 a k ++ SW c5 bo bv zs)) (A)) ([.ref (bo 0), .ref (aO a 0)] : List Value).toArray s 20 142 A) (F0 m 289 ls []) := by
                  intro n289
                  induction n289 with
                  | zero =>
                    intro x7_289 v9 ls hl h kx
                    exact absurd h (by simp [R_X3_isSame_L289])
                  | succ n289 ih289 =>
                    intro x7_289 v9 ls hl h kx
                    rw [R_X3_isSame_L289] at h
                    refine lv_iload hx hb dX3_isSame_289 (lv_at hl 0 rfl) ?_
                    refine lv_aload hx hb dX3_isSame_291 (lv_at hl 2 rfl) ?_
                    refine lv_iconst (v := (3 : Int32)) hx hb dX3_isSame_293 (by decide) ?_
                    obtain ⟨g294, h⟩ := o_if h
                    refine va_iald hx hb hK hP ((KW c5 a k).length + ((SW c5 bo bv zs).length + 1)) 3 (ap_r (ap_r (Y := [(qn2, .inl (c5 3, 10, .inl gx285)), (qn93, .inl (c5 3, 6, .inl gx162))]) rfl)) rfl (inb_in g294) dX3_isSame_294 ?_
                    refine lv_icmp_ge (tgt := 338) hx hb dX3_isSame_295 (by decide) (fun q => ?_) (fun q => ?_)
                    · have h := o_t h q
                      obtain rfl := Option.some.inj h
                      exact kx ls (lv_sub hl [0, 1, 2, 3, 4, 5, 6, 7] rfl)
                    · have h := o_f h q
                      refine lv_aload_n hx hb dX3_isSame_298 rfl (lv_at hl 7 rfl) ?_
                      refine lv_aload_n hx hb dX3_isSame_299 rfl (lv_at hl 6 rfl) ?_
                      refine lv_iload_n hx hb dX3_isSame_300 rfl (lv_at hl 4 rfl) ?_
                      refine lv_iload hx hb dX3_isSame_301 (lv_at hl 0 rfl) ?_
                      obtain ⟨v303, e303, h⟩ := o_bind h
                      refine ro_calli (ro_runV (As := [.int x3_67, .int x7_289]) (rest := [.ref (aO a 0)]) ⟨hx, hb, hml, hown, hts⟩ (fr_P (X := KW c5 a k) (Y := [(qn2, .inl (c5 3, 10, .inl gx285)), (qn93, .inl (c5 3, 6, .inl gx162))]) hP) hK (c_X3_spot l D c5 bo bv zs x3_67 x7_289 v303 e303) gG_RX3_59 (va_recv hK hP (ci := 3) (q0 := ((KW c5 a k).length + 0)) rfl (ap_r (ap_l (SW_0 c5 bo bv zs)))) hd_X3_spot ⟨Nat.le_of_ble_eq_true rfl, Nat.le_of_ble_eq_true rfl⟩ ⟨rfl, rfl⟩ hl.1 (Nat.le_of_ble_eq_true rfl) dX3_isSame_303 ⟨show cells67 + 1 ≤ 20 by omega, show slots67 + 6 ≤ 142 by omega⟩ rfl) ?_
                      refine lv_iconst (v := (2 : Int32)) hx hb dX3_isSame_306 (by decide) ?_
                      obtain ⟨v307, e307, h⟩ := yb_some h
                      refine ro_calli (ro_runV (As := [.int v303, .int (2 : Int32)]) (rest := []) ⟨hx, hb, hml, hown, hts⟩ (fr_P (X := []) (Y := SW c5 bo bv zs ++ ([(qn2, .inl (c5 3, 10, .inl gx285)), (qn93, .inl (c5 3, 6, .inl gx162))] : va_W)) hP) hK (c_X2_place l D c5 a k hI v303 (2 : Int32) v307 e307) gG_RX3_68 (va_recv hK hP (ci := 2) (q0 := 0) rfl (ap_l (KW_0 c5 a k))) hd_X2_place ⟨Nat.le_of_ble_eq_true rfl, Nat.le_of_ble_eq_true rfl⟩ ⟨rfl, rfl⟩ hl.1 (Nat.le_of_ble_eq_true rfl) dX3_isSame_307 ⟨show cells67 + 1 ≤ 20 by omega, show slots67 + 6 ≤ 142 by omega⟩ rfl) ?_
                      refine lv_aload_n hx hb dX3_isSame_310 rfl (lv_at hl 6 rfl) ?_
                      refine va_get (D := D) (ci := 3) (v := .ref (bo 3)) (C := RX3) (T := TX3) (N := 7) hx hb hts iX3 hown hK hP ((KW c5 a k).length + 0) (ap_r (ap_l (SW_0 c5 bo bv zs))) rfl 6 (by decide) (hts _ wT3_19) (fun _ h9 => h9) rfl dX3_isSame_311 ?_
                      refine lv_iload_n hx hb dX3_isSame_314 rfl (lv_at hl 4 rfl) ?_
                      obtain ⟨g315, h⟩ := o_if h
                      refine ar_ld hx hb hK hP ((KW c5 a k).length + 3) 5 (ap_r (ap_l (SW_3 c5 bo bv zs))) rfl (inb_in g315) rfl dX3_isSame_315 ?_
                      refine lv_iload hx hb dX3_isSame_316 (lv_at hl 0 rfl) ?_
                      obtain ⟨g318, h⟩ := o_if h
                      refine va_zald hx hb hK hP ((KW c5 a k).length + (16 + (x3_67.toNatClampNeg))) 2 (ap_r (ap_l (SW_B c5 bo bv zs (inb_lt g315)))) rfl (inb_in g318) dX3_isSame_318 ?_
                      obtain ⟨v319, e319, h⟩ := o_bind h
                      have tn319 : ∀ (ls : Array Slot), lv_has ls 8 [(7, .int x7_289), (6, .int (zK zs ((gx162 ((0 : Int32).toNatClampNeg)).toNatClampNeg) ((0 : Int32).toNatClampNeg))), (5, .ref qn93), (4, .int v81), (3, .int x3_67), (2, .ref qn2), (0, .ref (bo 0)), (1, .ref (aO a 0))] → W p l e (headSpec (ws_ yX3_isSame cX3_isSame 8 (some .boolean)) { frames := 4, cells := 20, slots := 142, locals := 93 }).room s m ([.ref (bo 0), .ref (aO a 0)] : List Value).toArray below meth c H locs (cells67 + 1) (slots67 + 6) (MQ below (va_Qi (fun x (_ : Unit) => x = 1) (rwE D (tyG c5) (A) (fun _ : Unit => KW c5 a k ++ SW c5 bo bv zs)) (A)) ([.ref (bo 0), .ref (aO a 0)] : List Value).toArray s 20 142 A) (F0 m 327 ls [.int v319, .int v307]) := by
                        intro ls hl
                        refine lv_icmp_eq (tgt := 332) hx hb dX3_isSame_327 (by decide) (fun q => ?_) (fun q => ?_)
                        · have h := o_t h q
                          refine lv_iinc (v := (x7_289 + (1 : Int32))) (lv' := [(7, .int (x7_289 + (1 : Int32))), (6, .int (zK zs ((gx162 ((0 : Int32).toNatClampNeg)).toNatClampNeg) ((0 : Int32).toNatClampNeg))), (5, .ref qn93), (4, .int v81), (3, .int x3_67), (2, .ref qn2), (0, .ref (bo 0)), (1, .ref (aO a 0))]) hx hb dX3_isSame_332 hl (k := 0) rfl rfl (by decide) rfl (fun ls hl => ?_)
                          refine lv_goto (tgt := 289) hx hb dX3_isSame_335 (by decide) ?_
                          exact ih289 (x7_289 + (1 : Int32)) v9 ls (lv_sub hl [0, 1, 2, 3, 4, 5, 6, 7] rfl) h kx
                        · have h := o_f h q
                          refine lv_iconst (v := (0 : Int32)) hx hb dX3_isSame_330 (by decide) ?_
                          cases h
                      have h := e319
                      refine lv_if_eq (tgt := 326) hx hb dX3_isSame_319 (by decide) (fun q => ?_) (fun q => ?_)
                      · have h := o_t h q
                        refine lv_iconst (v := (0 : Int32)) hx hb dX3_isSame_326 (by decide) ?_
                        obtain rfl := Option.some.inj h
                        exact tn319 ls (lv_sub hl [0, 1, 2, 3, 4, 5, 6, 7] rfl)
                      · have h := o_f h q
                        refine lv_iconst (v := (1 : Int32)) hx hb dX3_isSame_322 (by decide) ?_
                        refine lv_goto (tgt := 327) hx hb dX3_isSame_323 (by decide) ?_
                        obtain rfl := Option.some.inj h
                        exact tn319 ls (lv_sub hl [0, 1, 2, 3, 4, 5, 6, 7] rfl)
                refine L289 FU (0 : Int32) v289 ls (lv_sub hl [0, 1, 2, 3, 4, 5, 6, 7] rfl) e289 (fun ls hl => ?_)
                refine lv_iinc (v := (x3_67 + (1 : Int32))) (lv' := [(3, .int (x3_67 + (1 : Int32))), (7, .int v289), (6, .int (zK zs ((gx162 ((0 : Int32).toNatClampNeg)).toNatClampNeg) ((0 : Int32).toNatClampNeg))), (5, .ref qn93), (4, .int v81), (2, .ref qn2), (0, .ref (bo 0)), (1, .ref (aO a 0))]) hx hb dX3_isSame_338 hl (k := 4) rfl rfl (by decide) rfl (fun ls hl => ?_)
                refine lv_goto (tgt := 67) hx hb dX3_isSame_341 (by decide) ?_
                have hP := dr2_P (A1 := [(qn2, .inl (c5 3, 10, .inl gx285))]) (B1 := [(qn93, .inl (c5 3, 6, .inl gx162))]) hP
                have hD := dr2_D (A1 := [(qn2, .inl (c5 3, 10, .inl gx285))]) (B1 := [(qn93, .inl (c5 3, 6, .inl gx162))]) hD
                exact ih67 (cells67 + 1) (slots67 + 6) H locs gx285 (x3_67 + (1 : Int32)) v9 ls (lv_sub hl [0, 5, 6, 7] rfl) hP hD hS (by omega) (by omega) h kx
              · have h := o_f h q
                refine lv_goto (tgt := 338) hx hb dX3_isSame_219 (by decide) ?_
                refine lv_iinc (v := (x3_67 + (1 : Int32))) (lv' := [(3, .int (x3_67 + (1 : Int32))), (6, .int v168), (5, .ref qn93), (4, .int v81), (2, .ref qn2), (0, .ref (bo 0)), (1, .ref (aO a 0))]) hx hb dX3_isSame_338 hl (k := 3) rfl rfl (by decide) rfl (fun ls hl => ?_)
                refine lv_goto (tgt := 67) hx hb dX3_isSame_341 (by decide) ?_
                have hP := dr2_P (A1 := [(qn2, .inl (c5 3, 10, .inl gx213))]) (B1 := [(qn93, .inl (c5 3, 6, .inl gx162))]) hP
                have hD := dr2_D (A1 := [(qn2, .inl (c5 3, 10, .inl gx213))]) (B1 := [(qn93, .inl (c5 3, 6, .inl gx162))]) hD
                exact ih67 (cells67 + 1) (slots67 + 6) H locs gx213 (x3_67 + (1 : Int32)) v9 ls (lv_sub hl [0, 4, 5, 6] rfl) hP hD hS (by omega) (by omega) h kx
            have h := e204
            refine lv_if_eq (tgt := 211) hx hb dX3_isSame_204 (by decide) (fun q => ?_) (fun q => ?_)
            · have h := o_t h q
              refine lv_iconst (v := (0 : Int32)) hx hb dX3_isSame_211 (by decide) ?_
              obtain rfl := Option.some.inj h
              exact tn204 ls (lv_sub hl [0, 1, 2, 3, 4, 5, 6] rfl)
            · have h := o_f h q
              refine lv_iconst (v := (1 : Int32)) hx hb dX3_isSame_207 (by decide) ?_
              refine lv_goto (tgt := 212) hx hb dX3_isSame_208 (by decide) ?_
              obtain rfl := Option.some.inj h
              exact tn204 ls (lv_sub hl [0, 1, 2, 3, 4, 5, 6] rfl)
          have h := e118
          refine lv_if_eq (tgt := 125) hx hb dX3_isSame_118 (by decide) (fun q => ?_) (fun q => ?_)
          · have h := o_t h q
            refine lv_aload_n hx hb dX3_isSame_125 rfl (lv_at hl 3 rfl) ?_
            refine va_get (D := D) (ci := 3) (v := .ref (bo 2)) (C := RX3) (T := TX3) (N := 7) hx hb hts iX3 hown hK hP ((KW c5 a k).length + 0) (ap_r (ap_l (SW_0 c5 bo bv zs))) rfl 5 (by decide) (hts _ wT3_18) (fun _ h9 => h9) rfl dX3_isSame_126 ?_
            refine lv_iload_n hx hb dX3_isSame_129 rfl (lv_at hl 1 rfl) ?_
            obtain ⟨g130, h⟩ := o_if h
            refine ar_ld hx hb hK hP ((KW c5 a k).length + 2) 4 (ap_r (ap_l (SW_2 c5 bo bv zs))) rfl (inb_in g130) rfl dX3_isSame_130 ?_
            refine lv_iconst (v := (1 : Int32)) hx hb dX3_isSame_131 (by decide) ?_
            obtain ⟨g132, h⟩ := o_if h
            refine va_iald hx hb hK hP ((KW c5 a k).length + (4 + (x3_67.toNatClampNeg))) 3 (ap_r (ap_l (SW_H c5 bo bv zs (inb_lt g130)))) rfl (inb_in g132) dX3_isSame_132 ?_
            obtain rfl := Option.some.inj h
            exact tn118 ls (lv_sub hl [0, 1, 2, 3, 4] rfl)
          · have h := o_f h q
            refine lv_iconst (v := (0 : Int32)) hx hb dX3_isSame_121 (by decide) ?_
            refine lv_goto (tgt := 133) hx hb dX3_isSame_122 (by decide) ?_
            obtain rfl := Option.some.inj h
            exact tn118 ls (lv_sub hl [0, 1, 2, 3, 4] rfl)
        have h := e81
        refine lv_if_ge (tgt := 88) hx hb dX3_isSame_81 (by decide) (fun q => ?_) (fun q => ?_)
        · have h := o_t h q
          refine lv_iconst (v := (0 : Int32)) hx hb dX3_isSame_88 (by decide) ?_
          obtain rfl := Option.some.inj h
          exact tn81 ls (lv_sub hl [0, 1, 2, 3] rfl)
        · have h := o_f h q
          refine lv_iconst (v := (1 : Int32)) hx hb dX3_isSame_84 (by decide) ?_
          refine lv_goto (tgt := 89) hx hb dX3_isSame_85 (by decide) ?_
          obtain rfl := Option.some.inj h
          exact tn81 ls (lv_sub hl [0, 1, 2, 3] rfl)
  refine L67 13 (0 + 1) (0 + 10) H locs gx63 (0 : Int32) v67 ls (lv_sub hl [0, 1, 2, 3] rfl) hP hD hS (by omega) (by omega) e67 (fun H locs ls hl hP hD hS => ?_)
  refine lv_iconst (v := (0 : Int32)) hx hb dX3_isSame_344 (by decide) ?_
  refine lv_istore_n (i := 3) (lv' := [(3, .int (0 : Int32)), (2, .ref qn2), (0, .ref (bo 0)), (1, .ref (aO a 0))]) hx hb dX3_isSame_345 rfl hl (by decide) rfl (fun ls hl => ?_)
  obtain ⟨v346, e346, h⟩ := o_bind h
  have L346 : ∀ (n346 : Nat) (x3_346 : Int32) (v9 : Int32) (ls : Array Slot), lv_has ls 8 [(3, .int x3_346), (2, .ref qn2), (0, .ref (bo 0)), (1, .ref (aO a 0))] → R_X3_isSame_L346 k v67 n346 x3_346 = some v9 → (∀ (ls : Array Slot), lv_has ls 8 [(3, .int v9), (2, .ref qn2), (0, .ref (bo 0)), (1, .ref (aO a 0))] → W p l e (headSpec (ws_ yX3_isSame cX3_isSame 8 (some .boolean)) { frames := 4, cells := 20, slots := 142, locals := 93 }).room s m ([.ref (bo 0), .ref (aO a 0)] : List Value).toArray below meth c H locs (0 + 1 + 13) (0 + 10 + 78) (MQ below (va_Qi (fun x (_ : Unit) => x = 1) (rwE D (tyG c5) (A) (fun _ : Unit => KW c5 a k ++ SW c5 bo bv zs)) (A)) ([.ref (bo 0), .ref (aO a 0)] : List Value).toArray s 20 142 A) (F0 m 371 ls [])) → W p l e (headSpec (ws_ yX3_isSame cX3_isSame 8 (some .boolean)) { frames := 4, cells := 20, slots := 142, locals := 93 }).room s m ([.ref (bo 0), .ref (aO a 0)] : List Value).toArray below meth c H locs (0 + 1 + 13) (0 + 10 + 78) (MQ below (va_Qi (fun x (_ : Unit) => x = 1) (rwE D (tyG c5) (A) (fun _ : Unit => KW c5 a k ++ SW c5 bo bv zs)) (A)) ([.ref (bo 0), .ref (aO a 0)] : List Value).toArray s 20 142 A) (F0 m 346 ls []) := by
    intro n346
    induction n346 with
    | zero =>
      intro x3_346 v9 ls hl h kx
      exact absurd h (by simp [R_X3_isSame_L346])
    | succ n346 ih346 =>
      intro x3_346 v9 ls hl h kx
      rw [R_X3_isSame_L346] at h
      refine lv_iload_n hx hb dX3_isSame_346 rfl (lv_at hl 0 rfl) ?_
      refine lv_bipush (v := (10 : Int32)) hx hb dX3_isSame_347 (by decide) ?_
      refine lv_icmp_ge (tgt := 371) hx hb dX3_isSame_349 (by decide) (fun q => ?_) (fun q => ?_)
      · have h := o_t h q
        obtain rfl := Option.some.inj h
        exact kx ls (lv_sub hl [0, 1, 2, 3] rfl)
      · have h := o_f h q
        refine lv_aload_n hx hb dX3_isSame_352 rfl (lv_at hl 3 rfl) ?_
        refine lv_iload_n hx hb dX3_isSame_353 rfl (lv_at hl 0 rfl) ?_
        obtain ⟨v354, e354, h⟩ := yb_some h
        refine ro_calli (ro_runV (As := [.int x3_346]) (rest := []) ⟨hx, hb, hml, hown, hts⟩ (fr_P (X := []) (Y := SW c5 bo bv zs ++ ([(qn2, .inl (c5 3, 10, .inl v67.1))] : va_W)) hP) hK (c_X2_count l D c5 a k hI x3_346 v354 e354) gG_RX3_71 (va_recv hK hP (ci := 2) (q0 := 0) rfl (ap_l (KW_0 c5 a k))) hd_X2_count ⟨Nat.le_of_ble_eq_true rfl, Nat.le_of_ble_eq_true rfl⟩ ⟨rfl, rfl⟩ hl.1 (Nat.le_of_ble_eq_true rfl) dX3_isSame_354 ⟨show 0 + 1 + 13 ≤ 20 by omega, show 0 + 10 + 78 ≤ 142 by omega⟩ rfl) ?_
        refine lv_aload_n hx hb dX3_isSame_357 rfl (lv_at hl 1 rfl) ?_
        refine lv_iload_n hx hb dX3_isSame_358 rfl (lv_at hl 0 rfl) ?_
        obtain ⟨g359, h⟩ := o_if h
        refine va_iald hx hb hK hP ((KW c5 a k).length + ((SW c5 bo bv zs).length + 0)) 3 (ap_r (ap_r (Y := [(qn2, .inl (c5 3, 10, .inl v67.1))]) rfl)) rfl (inb_in g359) dX3_isSame_359 ?_
        refine lv_icmp_eq (tgt := 365) hx hb dX3_isSame_360 (by decide) (fun q => ?_) (fun q => ?_)
        · have h := o_t h q
          refine lv_iinc (v := (x3_346 + (1 : Int32))) (lv' := [(3, .int (x3_346 + (1 : Int32))), (2, .ref qn2), (0, .ref (bo 0)), (1, .ref (aO a 0))]) hx hb dX3_isSame_365 hl (k := 0) rfl rfl (by decide) rfl (fun ls hl => ?_)
          refine lv_goto (tgt := 346) hx hb dX3_isSame_368 (by decide) ?_
          exact ih346 (x3_346 + (1 : Int32)) v9 ls (lv_sub hl [0, 1, 2, 3] rfl) h kx
        · have h := o_f h q
          refine lv_iconst (v := (0 : Int32)) hx hb dX3_isSame_363 (by decide) ?_
          cases h
  refine L346 FU (0 : Int32) v346 ls (lv_sub hl [0, 1, 2, 3] rfl) e346 (fun ls hl => ?_)
  refine lv_iconst (v := (0 : Int32)) hx hb dX3_isSame_371 (by decide) ?_
  refine lv_istore_n (i := 3) (lv' := [(3, .int (0 : Int32)), (2, .ref qn2), (0, .ref (bo 0)), (1, .ref (aO a 0))]) hx hb dX3_isSame_372 rfl hl (by decide) rfl (fun ls hl => ?_)
  obtain ⟨v373, e373, h⟩ := o_bind h
  have L373 : ∀ (n373 : Nat) (cells373 slots373 : Nat) (H : Heap) (locs : List Loc) (x3_373 : Int32) (v9 : Int32) (ls : Array Slot), lv_has ls 8 [(3, .int x3_373), (2, .ref qn2), (0, .ref (bo 0)), (1, .ref (aO a 0))] → va_P D vwCl (KW c5 a k ++ (SW c5 bo bv zs ++ ([(qn2, .inl (c5 3, 10, .inl v67.1))] : va_W))) H → va_D A (KW c5 a k ++ (SW c5 bo bv zs ++ ([(qn2, .inl (c5 3, 10, .inl v67.1))] : va_W))) → va_S A s.heap H locs → cells373 + n373 * 1 ≤ 0 + 1 + 13 + 6 → slots373 + n373 * 9 ≤ 0 + 10 + 78 + 54 → R_X3_isSame_L373 k zs n373 x3_373 = some v9 → (∀ (H : Heap) (locs : List Loc) (ls : Array Slot), lv_has ls 8 [(3, .int v9), (2, .ref qn2), (0, .ref (bo 0)), (1, .ref (aO a 0))] → va_P D vwCl (KW c5 a k ++ (SW c5 bo bv zs ++ ([(qn2, .inl (c5 3, 10, .inl v67.1))] : va_W))) H → va_D A (KW c5 a k ++ (SW c5 bo bv zs ++ ([(qn2, .inl (c5 3, 10, .inl v67.1))] : va_W))) → va_S A s.heap H locs → W p l e (headSpec (ws_ yX3_isSame cX3_isSame 8 (some .boolean)) { frames := 4, cells := 20, slots := 142, locals := 93 }).room s m ([.ref (bo 0), .ref (aO a 0)] : List Value).toArray below meth c H locs (0 + 1 + 13 + 6) (0 + 10 + 78 + 54) (MQ below (va_Qi (fun x (_ : Unit) => x = 1) (rwE D (tyG c5) (A) (fun _ : Unit => KW c5 a k ++ SW c5 bo bv zs)) (A)) ([.ref (bo 0), .ref (aO a 0)] : List Value).toArray s 20 142 A) (F0 m 428 ls [])) → W p l e (headSpec (ws_ yX3_isSame cX3_isSame 8 (some .boolean)) { frames := 4, cells := 20, slots := 142, locals := 93 }).room s m ([.ref (bo 0), .ref (aO a 0)] : List Value).toArray below meth c H locs (cells373) (slots373) (MQ below (va_Qi (fun x (_ : Unit) => x = 1) (rwE D (tyG c5) (A) (fun _ : Unit => KW c5 a k ++ SW c5 bo bv zs)) (A)) ([.ref (bo 0), .ref (aO a 0)] : List Value).toArray s 20 142 A) (F0 m 373 ls []) := by
    intro n373
    induction n373 with
    | zero =>
      intro cells373 slots373 H locs x3_373 v9 ls hl hP hD hS hc373 hn373 h kx
      exact absurd h (by simp [R_X3_isSame_L373])
    | succ n373 ih373 =>
      intro cells373 slots373 H locs x3_373 v9 ls hl hP hD hS hc373 hn373 h kx
      rw [R_X3_isSame_L373] at h
      refine lv_iload_n hx hb dX3_isSame_373 rfl (lv_at hl 0 rfl) ?_
      refine lv_aload_n hx hb dX3_isSame_374 rfl (lv_at hl 2 rfl) ?_
      refine va_get (D := D) (ci := 3) (v := .ref (bo 1)) (C := RX3) (T := TX3) (N := 7) hx hb hts iX3 hown hK hP ((KW c5 a k).length + 0) (ap_r (ap_l (SW_0 c5 bo bv zs))) rfl 4 (by decide) (hts _ wT3_16) (fun _ h9 => h9) rfl dX3_isSame_375 ?_
      refine va_alen (v := (nI (zN zs))) hx hb hK hP ((KW c5 a k).length + 1) 4 (ap_r (ap_l (SW_1 c5 bo bv zs))) rfl rfl dX3_isSame_378 ?_
      refine lv_icmp_ge (tgt := 428) hx hb dX3_isSame_379 (by decide) (fun q => ?_) (fun q => ?_)
      · have h := o_t h q
        obtain rfl := Option.some.inj h
        refine W.widen (k := 0 + 1 + 13 + 6) (n := 0 + 10 + 78 + 54) (by omega) (by omega) ?_
        exact kx H locs ls (lv_sub hl [0, 1, 2, 3] rfl) hP hD hS
      · have h := o_f h q
        refine lv_aload_n hx hb dX3_isSame_382 rfl (lv_at hl 2 rfl) ?_
        refine lv_iload_n hx hb dX3_isSame_383 rfl (lv_at hl 0 rfl) ?_
        obtain ⟨v384, e384, h⟩ := o_bind h
        refine ab_call (wc := SW c5 bo bv zs) (X := KW c5 a k) (Y := [(qn2, .inl (c5 3, 10, .inl v67.1))]) (sw_runV (As := [.int x3_373]) (rest := []) ⟨hx, hb, hml, hown, hts⟩ (fr_P (X := KW c5 a k) (Y := [(qn2, .inl (c5 3, 10, .inl v67.1))]) hP) hK (fr_D (X := KW c5 a k) (Y := [(qn2, .inl (c5 3, 10, .inl v67.1))]) hD) hOI hOZ (c_X3_about l D c5 bo bv zs H.size x3_373 v384 e384) gG_RX3_74 (va_recv hK hP (ci := 3) (q0 := ((KW c5 a k).length + 0)) rfl (ap_r (ap_l (SW_0 c5 bo bv zs)))) hd_X3_about ⟨Nat.le_of_ble_eq_true rfl, Nat.le_of_ble_eq_true rfl⟩ ⟨rfl, rfl⟩ hl.1 (Nat.le_of_ble_eq_true rfl) dX3_isSame_384 ⟨show cells373 + 1 ≤ 20 by omega, show slots373 + 9 ≤ 142 by omega⟩ rfl) hP hD hS hA (fun qn384 H locs hP hD hS => ?_)
        refine lv_astore (i := 4) (lv' := [(4, .ref qn384), (3, .int x3_373), (2, .ref qn2), (0, .ref (bo 0)), (1, .ref (aO a 0))]) hx hb dX3_isSame_387 hl (by decide) rfl (fun ls hl => ?_)
        refine lv_iconst (v := (0 : Int32)) hx hb dX3_isSame_389 (by decide) ?_
        refine lv_istore (i := 5) (lv' := [(5, .int (0 : Int32)), (4, .ref qn384), (3, .int x3_373), (2, .ref qn2), (0, .ref (bo 0)), (1, .ref (aO a 0))]) hx hb dX3_isSame_390 hl (by decide) rfl (fun ls hl => ?_)
        obtain ⟨v392, e392, h⟩ := o_bind h
        have L392 : ∀ (n392 : Nat) (x5_392 : Int32) (v9 : Int32) (ls : Array Slot), lv_has ls 8 [(5, .int x5_392), (4, .ref qn384), (3, .int x3_373), (2, .ref qn2), (0, .ref (bo 0)), (1, .ref (aO a 0))] → R_X3_isSame_L392 k x3_373 v384 n392 x5_392 = some v9 → (∀ (ls : Array Slot), lv_has ls 8 [(5, .int v9), (4, .ref qn384), (3, .int x3_373), (2, .ref qn2), (0, .ref (bo 0)), (1, .ref (aO a 0))] → W p l e (headSpec (ws_ yX3_isSame cX3_isSame 8 (some .boolean)) { frames := 4, cells := 20, slots := 142, locals := 93 }).room s m ([.ref (bo 0), .ref (aO a 0)] : List Value).toArray below meth c H locs (cells373 + 1) (slots373 + 9) (MQ below (va_Qi (fun x (_ : Unit) => x = 1) (rwE D (tyG c5) (A) (fun _ : Unit => KW c5 a k ++ SW c5 bo bv zs)) (A)) ([.ref (bo 0), .ref (aO a 0)] : List Value).toArray s 20 142 A) (F0 m 422 ls [])) → W p l e (headSpec (ws_ yX3_isSame cX3_isSame 8 (some .boolean)) { frames := 4, cells := 20, slots := 142, locals := 93 }).room s m ([.ref (bo 0), .ref (aO a 0)] : List Value).toArray below meth c H locs (cells373 + 1) (slots373 + 9) (MQ below (va_Qi (fun x (_ : Unit) => x = 1) (rwE D (tyG c5) (A) (fun _ : Unit => KW c5 a k ++ SW c5 bo bv zs)) (A)) ([.ref (bo 0), .ref (aO a 0)] : List Value).toArray s 20 142 A) (F0 m 392 ls []) := by
          intro n392
          induction n392 with
          | zero =>
            intro x5_392 v9 ls hl h kx
            exact absurd h (by simp [R_X3_isSame_L392])
          | succ n392 ih392 =>
            intro x5_392 v9 ls hl h kx
            rw [R_X3_isSame_L392] at h
            refine lv_iload hx hb dX3_isSame_392 (lv_at hl 0 rfl) ?_
            refine lv_bipush (v := (9 : Int32)) hx hb dX3_isSame_394 (by decide) ?_
            refine lv_icmp_ge (tgt := 422) hx hb dX3_isSame_396 (by decide) (fun q => ?_) (fun q => ?_)
            · have h := o_t h q
              obtain rfl := Option.some.inj h
              exact kx ls (lv_sub hl [0, 1, 2, 3, 4, 5] rfl)
            · have h := o_f h q
              refine lv_aload_n hx hb dX3_isSame_399 rfl (lv_at hl 5 rfl) ?_
              refine lv_iload_n hx hb dX3_isSame_400 rfl (lv_at hl 2 rfl) ?_
              refine lv_iload hx hb dX3_isSame_401 (lv_at hl 0 rfl) ?_
              obtain ⟨v403, e403, h⟩ := yb_some h
              refine ro_calli (ro_runV (As := [.int x3_373, .int x5_392]) (rest := []) ⟨hx, hb, hml, hown, hts⟩ (fr_P (X := []) (Y := SW c5 bo bv zs ++ ([(qn2, .inl (c5 3, 10, .inl v67.1)), (qn384, .inl (c5 3, 9, .inl v384))] : va_W)) hP) hK (c_X2_about l D c5 a k hI x3_373 x5_392 v403 e403) gG_RX3_78 (va_recv hK hP (ci := 2) (q0 := 0) rfl (ap_l (KW_0 c5 a k))) hd_X2_about ⟨Nat.le_of_ble_eq_true rfl, Nat.le_of_ble_eq_true rfl⟩ ⟨rfl, rfl⟩ hl.1 (Nat.le_of_ble_eq_true rfl) dX3_isSame_403 ⟨show cells373 + 1 ≤ 20 by omega, show slots373 + 9 ≤ 142 by omega⟩ rfl) ?_
              refine lv_aload hx hb dX3_isSame_406 (lv_at hl 1 rfl) ?_
              refine lv_iload hx hb dX3_isSame_408 (lv_at hl 0 rfl) ?_
              obtain ⟨g410, h⟩ := o_if h
              refine va_iald hx hb hK hP ((KW c5 a k).length + ((SW c5 bo bv zs).length + 1)) 3 (ap_r (ap_r (Y := [(qn2, .inl (c5 3, 10, .inl v67.1)), (qn384, .inl (c5 3, 9, .inl v384))]) rfl)) rfl (inb_in g410) dX3_isSame_410 ?_
              refine lv_icmp_eq (tgt := 416) hx hb dX3_isSame_411 (by decide) (fun q => ?_) (fun q => ?_)
              · have h := o_t h q
                refine lv_iinc (v := (x5_392 + (1 : Int32))) (lv' := [(5, .int (x5_392 + (1 : Int32))), (4, .ref qn384), (3, .int x3_373), (2, .ref qn2), (0, .ref (bo 0)), (1, .ref (aO a 0))]) hx hb dX3_isSame_416 hl (k := 0) rfl rfl (by decide) rfl (fun ls hl => ?_)
                refine lv_goto (tgt := 392) hx hb dX3_isSame_419 (by decide) ?_
                exact ih392 (x5_392 + (1 : Int32)) v9 ls (lv_sub hl [0, 1, 2, 3, 4, 5] rfl) h kx
              · have h := o_f h q
                refine lv_iconst (v := (0 : Int32)) hx hb dX3_isSame_414 (by decide) ?_
                cases h
        refine L392 FU (0 : Int32) v392 ls (lv_sub hl [0, 1, 2, 3, 4, 5] rfl) e392 (fun ls hl => ?_)
        refine lv_iinc (v := (x3_373 + (1 : Int32))) (lv' := [(3, .int (x3_373 + (1 : Int32))), (5, .int v392), (4, .ref qn384), (2, .ref qn2), (0, .ref (bo 0)), (1, .ref (aO a 0))]) hx hb dX3_isSame_422 hl (k := 2) rfl rfl (by decide) rfl (fun ls hl => ?_)
        refine lv_goto (tgt := 373) hx hb dX3_isSame_425 (by decide) ?_
        have hP := dr2_P (A1 := [(qn2, .inl (c5 3, 10, .inl v67.1))]) (B1 := [(qn384, .inl (c5 3, 9, .inl v384))]) hP
        have hD := dr2_D (A1 := [(qn2, .inl (c5 3, 10, .inl v67.1))]) (B1 := [(qn384, .inl (c5 3, 9, .inl v384))]) hD
        exact ih373 (cells373 + 1) (slots373 + 9) H locs (x3_373 + (1 : Int32)) v9 ls (lv_sub hl [0, 3, 4, 5] rfl) hP hD hS (by omega) (by omega) h kx
  refine L373 6 (0 + 1 + 13) (0 + 10 + 78) H locs (0 : Int32) v373 ls (lv_sub hl [0, 1, 2, 3] rfl) hP hD hS (by omega) (by omega) e373 (fun H locs ls hl hP hD hS => ?_)
  refine lv_aload_n hx hb dX3_isSame_428 rfl (lv_at hl 3 rfl) ?_
  obtain ⟨v429, e429, h⟩ := o_bind h
  refine ro_calld (ro_runV (As := []) (rest := []) ⟨hx, hb, hml, hown, hts⟩ (fr_P (X := []) (Y := SW c5 bo bv zs ++ ([(qn2, .inl (c5 3, 10, .inl v67.1))] : va_W)) hP) hK (c_X2_mean l D c5 a k hI  v429 e429) gG_RX3_80 (va_recv hK hP (ci := 2) (q0 := 0) rfl (ap_l (KW_0 c5 a k))) hd_X2_mean ⟨Nat.le_of_ble_eq_true rfl, Nat.le_of_ble_eq_true rfl⟩ ⟨rfl, rfl⟩ hl.1 (Nat.le_of_ble_eq_true rfl) dX3_isSame_429 ⟨show 0 + 1 + 13 + 6 ≤ 20 by omega, show 0 + 10 + 78 + 54 ≤ 142 by omega⟩ rfl) ?_
  refine lv_aload_n hx hb dX3_isSame_432 rfl (lv_at hl 1 rfl) ?_
  refine lv_iconst (v := (2 : Int32)) hx hb dX3_isSame_433 (by decide) ?_
  obtain ⟨g434, h⟩ := o_if h
  refine va_iald hx hb hK hP ((KW c5 a k).length + ((SW c5 bo bv zs).length + 0)) 3 (ap_r (ap_r (Y := [(qn2, .inl (c5 3, 10, .inl v67.1))]) rfl)) rfl (inb_in g434) dX3_isSame_434 ?_
  refine lv_bipush (v := (12 : Int32)) hx hb dX3_isSame_435 (by decide) ?_
  obtain ⟨v437, e437, h⟩ := o_bind h
  have tn437 : ∀ (ls : Array Slot), lv_has ls 8 [(3, .int v373), (2, .ref qn2), (0, .ref (bo 0)), (1, .ref (aO a 0))] → W p l e (headSpec (ws_ yX3_isSame cX3_isSame 8 (some .boolean)) { frames := 4, cells := 20, slots := 142, locals := 93 }).room s m ([.ref (bo 0), .ref (aO a 0)] : List Value).toArray below meth c H locs (0 + 1 + 13 + 6) (0 + 10 + 78 + 54) (MQ below (va_Qi (fun x (_ : Unit) => x = 1) (rwE D (tyG c5) (A) (fun _ : Unit => KW c5 a k ++ SW c5 bo bv zs)) (A)) ([.ref (bo 0), .ref (aO a 0)] : List Value).toArray s 20 142 A) (F0 m 456 ls [.double v437, .double v429]) := by
    intro ls hl
    refine lv_dcmp hx hb dX3_isSame_456 ?_
    refine lv_if_ne (tgt := 464) hx hb dX3_isSame_457 (by decide) (fun q => ?_) (fun q => ?_)
    · have h := o_t' h q
      refine lv_iconst (v := (0 : Int32)) hx hb dX3_isSame_464 (by decide) ?_
      cases h
    · have h := o_f' h q
      refine lv_iconst (v := (1 : Int32)) hx hb dX3_isSame_460 (by decide) ?_
      refine lv_goto (tgt := 465) hx hb dX3_isSame_461 (by decide) ?_
      have hP := eW_P (V := KW c5 a k) (W := SW c5 bo bv zs) (X := [(qn2, .inl (c5 3, 10, .inl v67.1))]) hP
      have hD := eW_D (V := KW c5 a k) (W := SW c5 bo bv zs) (X := [(qn2, .inl (c5 3, 10, .inl v67.1))]) hD
      refine W.widen (k := 20) (n := 142) (by omega) (by omega) ?_
      exact W.zret hx hb hr rfl (fun t ht hW => ⟨⟨_, (), rfl, rfl, by rw [ht]; exact hP, va_K.moved hW.alike hK, hD⟩, hS.F ht⟩) hS.2.2 dX3_isSame_465 hlocks
  have h := e437
  refine lv_icmp_ne (tgt := 444) hx hb dX3_isSame_437 (by decide) (fun q => ?_) (fun q => ?_)
  · have h := o_t' h q
    refine lv_aload_n hx hb dX3_isSame_444 rfl (lv_at hl 1 rfl) ?_
    refine lv_iconst (v := (3 : Int32)) hx hb dX3_isSame_445 (by decide) ?_
    obtain ⟨g446, h⟩ := o_if h
    refine va_iald hx hb hK hP ((KW c5 a k).length + ((SW c5 bo bv zs).length + 0)) 3 (ap_r (ap_r (Y := [(qn2, .inl (c5 3, 10, .inl v67.1))]) rfl)) rfl (inb_in g446) dX3_isSame_446 ?_
    refine lv_i2d hx hb dX3_isSame_447 ?_
    refine lv_bipush (v := (12 : Int32)) hx hb dX3_isSame_448 (by decide) ?_
    refine lv_aload_n hx hb dX3_isSame_450 rfl (lv_at hl 1 rfl) ?_
    refine lv_iconst (v := (2 : Int32)) hx hb dX3_isSame_451 (by decide) ?_
    obtain ⟨g452, h⟩ := o_if h
    refine va_iald hx hb hK hP ((KW c5 a k).length + ((SW c5 bo bv zs).length + 0)) 3 (ap_r (ap_r (Y := [(qn2, .inl (c5 3, 10, .inl v67.1))]) rfl)) rfl (inb_in g452) dX3_isSame_452 ?_
    refine lv_isub hx hb dX3_isSame_453 ?_
    refine lv_i2d hx hb dX3_isSame_454 ?_
    obtain ⟨g455, h⟩ := o_if h
    refine lv_ddiv hx hb dX3_isSame_455 (n64b_ok g455) ?_
    obtain rfl := Option.some.inj h
    exact tn437 ls (lv_sub hl [0, 1, 2, 3] rfl)
  · have h := o_f' h q
    refine lv_dconst0 hx hb dX3_isSame_440 ?_
    refine lv_goto (tgt := 456) hx hb dX3_isSame_441 (by decide) ?_
    obtain rfl := Option.some.inj h
    exact tn437 ls (lv_sub hl [0, 1, 2, 3] rfl)
