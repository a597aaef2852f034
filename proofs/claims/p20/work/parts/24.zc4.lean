set_option maxHeartbeats 4000000 in
set_option maxRecDepth 100000 in
theorem c_X3_about (l : Launch) (D : va_G) (c5 : Nat → ClassId) (bo : Nat → Nat) (bv : BV) (zs : SSt) (sz : Nat) (p1 : Int32) (r : Nat → Int32) (h : R_X3_about zs p1 = some r) : Met l yX3_about (ws_ yX3_about cX3_about 5 (some (.array .int))) { frames := 1, cells := 1, slots := 9, locals := 26 } (va_Pc [.ref (bo 0), .int p1] (swB D c5 (SW c5 bo bv zs) sz)) (va_Qr (fun _ : Unit => True) (fun _ q t => va_P D vwCl (SW c5 bo bv zs ++ [(q, .inl (c5 3, 9, .inl r))]) t.heap ∧ va_K D vwCl (tyG c5) t ∧ va_D (va_A (SW c5 bo bv zs) sz) (SW c5 bo bv zs ++ [(q, .inl (c5 3, 9, .inl r))])) (va_A (SW c5 bo bv zs) sz)) 1 9 (va_A (SW c5 bo bv zs) sz) := by
  refine Met.ofW (cc := cX3_about) (maxL := 5) (ret := (some (.array .int))) (by decide) rfl ?_
  intro p e s m args below meth c s₁ B hml hv
  obtain ⟨rfl, hsz, hP, hK, hD0, hOI, hOZ⟩ := hv
  have hx := B.exec
  have hb := B.bytes
  have hr := B.returns
  have hts : ∀ w ∈ LA, w.before _ s = true := fun w hw => atoms_spec (ws := ws_ yX3_about cX3_about 5 (some (.array .int))) B.pre w (List.mem_cons_of_mem _ hw)
  have hown : s.vm.findClass RX3 = some m.cls := findClass_of_methodNamed B.named
  have hlocks := B.notSynchronized
  subst hsz
  have hD := hD0.self (sz := s.heap.size)
  generalize hAe : va_A (SW c5 bo bv zs) s.heap.size = A at hD ⊢
  have hA : ∀ q : Nat, s.heap.size ≤ q → A q := fun q h => by rw [← hAe]; exact Or.inr h
  have hS : va_S A s.heap s.heap [] := va_S.rf
  have hP := i1_P hP
  have hD := i1_D hD
  have hl := lv_entry ([.ref (bo 0), .int p1] : List Value) (n := 5) (Nat.le_of_ble_eq_true rfl)
  rw [lg_entry_eq]
  generalize (lg_sl ([.ref (bo 0), .int p1] : List Value) ++ List.replicate (5 - (lg_sl ([.ref (bo 0), .int p1] : List Value)).length) Slot.unset).toArray = ls at hl ⊢
  have hl : lv_has ls 5 [(0, .ref (bo 0)), (1, .int p1)] := hl
  unfold R_X3_about at h
  refine lv_bipush (v := (24 : Int32)) hx hb dX3_about_0 (by decide) ?_
  refine lv_aload_n hx hb dX3_about_2 rfl (lv_at hl 0 rfl) ?_
  refine va_get (D := D) (ci := 3) (v := .ref (bo 1)) (C := RX3) (T := TX3) (N := 7) hx hb hts iX3 hown hK hP 0 (ap_l (SW_0 c5 bo bv zs)) rfl 4 (by decide) (hts _ wT3_16) (fun _ h9 => h9) rfl dX3_about_3 ?_
  refine lv_iload_n hx hb dX3_about_6 rfl (lv_at hl 1 rfl) ?_
  obtain ⟨g7, h⟩ := o_if h
  refine ar_ld hx hb hK hP 1 4 (ap_l (SW_1 c5 bo bv zs)) rfl (inb_in g7) rfl dX3_about_7 ?_
  refine lv_iconst (v := (0 : Int32)) hx hb dX3_about_8 (by decide) ?_
  obtain ⟨g9, h⟩ := o_if h
  refine va_iald hx hb hK hP (28 + (p1.toNatClampNeg)) 3 (ap_l (SW_K c5 bo bv zs (inb_lt g7))) rfl (inb_in g9) dX3_about_9 ?_
  obtain ⟨g10, h⟩ := o_if h
  refine lv_idiv hx hb dX3_about_10 g10 ?_
  refine lv_istore_n (i := 2) (lv' := [(2, .int ((24 : Int32) / (zK zs (p1.toNatClampNeg) ((0 : Int32).toNatClampNeg)))), (0, .ref (bo 0)), (1, .int p1)]) hx hb dX3_about_11 rfl hl (by decide) rfl (fun ls hl => ?_)
  refine lv_bipush (v := (9 : Int32)) hx hb dX3_about_12 (by decide) ?_
  refine va_newa (atype := .int) (a0 := (9, .inl (fun _ => (0 : Int32)))) (N' := 9) hx hb (hts _ wT2_184) rfl hK hP hD hS hA (fun _ => rfl) (by decide) rfl (by decide) (show 0 + 1 ≤ 1 by omega) (show 0 + 9 ≤ 9 by omega) dX3_about_14 (fun qn14 cA H hK9 hP hD hS => ?_)
  obtain rfl : cA = c5 3 := ca_eq (i := 6) (j := 3) hK9 rfl rfl
  have hP := as1_P hP
  have hD := as1_D hD
  refine lv_dup hx hb dX3_about_16 rfl ?_
  refine lv_iconst (v := (0 : Int32)) hx hb dX3_about_17 (by decide) ?_
  refine lv_aload_n hx hb dX3_about_18 rfl (lv_at hl 1 rfl) ?_
  refine va_get (D := D) (ci := 3) (v := .ref (bo 1)) (C := RX3) (T := TX3) (N := 7) hx hb hts iX3 hown hK hP 0 (ap_l (SW_0 c5 bo bv zs)) rfl 4 (by decide) (hts _ wT3_16) (fun _ h9 => h9) rfl dX3_about_19 ?_
  refine lv_iload_n hx hb dX3_about_22 rfl (lv_at hl 2 rfl) ?_
  obtain ⟨g23, h⟩ := o_if h
  refine ar_ld hx hb hK hP 1 4 (ap_l (SW_1 c5 bo bv zs)) rfl (inb_in g23) rfl dX3_about_23 ?_
  refine lv_iconst (v := (0 : Int32)) hx hb dX3_about_24 (by decide) ?_
  obtain ⟨g25, h⟩ := o_if h
  refine va_iald hx hb hK hP (28 + (p1.toNatClampNeg)) 3 (ap_l (SW_K c5 bo bv zs (inb_lt g23))) rfl (inb_in g25) dX3_about_25 ?_
  obtain ⟨w26, ew26, h⟩ := o_bind h
  rw [Option.some.inj ew26]
  obtain ⟨g26, h⟩ := o_if h
  obtain ⟨gx26, ez26, h⟩ := o_bind h
  refine va_iast hx hb hK hP hD hS ((SW c5 bo bv zs).length + 0) 3 (ap_r (Y := [(qn14, .inl (c5 3, 9, .inl (fun _ => (0 : Int32))))]) rfl) rfl (inb_in g26) dX3_about_26 (fun H locs hP hD hS => ?_)
  have hP := wP (ap_sr rfl) hP
  have hD := wD (ap_sr rfl) hD
  have hP := wP (congrArg (fun y9 => SW c5 bo bv zs ++ ([(qn14, .inl (c5 3, 9, .inl y9))] : va_W)) (Option.some.inj ez26)) hP
  have hD := wD (congrArg (fun y9 => SW c5 bo bv zs ++ ([(qn14, .inl (c5 3, 9, .inl y9))] : va_W)) (Option.some.inj ez26)) hD
  refine lv_dup hx hb dX3_about_27 rfl ?_
  refine lv_iconst (v := (1 : Int32)) hx hb dX3_about_28 (by decide) ?_
  refine lv_iload_n hx hb dX3_about_29 rfl (lv_at hl 0 rfl) ?_
  obtain ⟨w30, ew30, h⟩ := o_bind h
  rw [Option.some.inj ew30]
  obtain ⟨g30, h⟩ := o_if h
  obtain ⟨gx30, ez30, h⟩ := o_bind h
  refine va_iast hx hb hK hP hD hS ((SW c5 bo bv zs).length + 0) 3 (ap_r (Y := [(qn14, .inl (c5 3, 9, .inl gx26))]) rfl) rfl (inb_in g30) dX3_about_30 (fun H locs hP hD hS => ?_)
  have hP := wP (ap_sr rfl) hP
  have hD := wD (ap_sr rfl) hD
  have hP := wP (congrArg (fun y9 => SW c5 bo bv zs ++ ([(qn14, .inl (c5 3, 9, .inl y9))] : va_W)) (Option.some.inj ez30)) hP
  have hD := wD (congrArg (fun y9 => SW c5 bo bv zs ++ ([(qn14, .inl (c5 3, 9, .inl y9))] : va_W)) (Option.some.inj ez30)) hD
  refine lv_dup hx hb dX3_about_31 rfl ?_
  refine lv_iconst (v := (2 : Int32)) hx hb dX3_about_32 (by decide) ?_
  refine lv_bipush (v := (24 : Int32)) hx hb dX3_about_33 (by decide) ?_
  refine lv_iload_n hx hb dX3_about_35 rfl (lv_at hl 0 rfl) ?_
  refine lv_aload_n hx hb dX3_about_36 rfl (lv_at hl 1 rfl) ?_
  refine va_get (D := D) (ci := 3) (v := .ref (bo 1)) (C := RX3) (T := TX3) (N := 7) hx hb hts iX3 hown hK hP 0 (ap_l (SW_0 c5 bo bv zs)) rfl 4 (by decide) (hts _ wT3_16) (fun _ h9 => h9) rfl dX3_about_37 ?_
  refine lv_iload_n hx hb dX3_about_40 rfl (lv_at hl 2 rfl) ?_
  obtain ⟨g41, h⟩ := o_if h
  refine ar_ld hx hb hK hP 1 4 (ap_l (SW_1 c5 bo bv zs)) rfl (inb_in g41) rfl dX3_about_41 ?_
  refine lv_iconst (v := (0 : Int32)) hx hb dX3_about_42 (by decide) ?_
  obtain ⟨g43, h⟩ := o_if h
  refine va_iald hx hb hK hP (28 + (p1.toNatClampNeg)) 3 (ap_l (SW_K c5 bo bv zs (inb_lt g41))) rfl (inb_in g43) dX3_about_43 ?_
  refine lv_imul hx hb dX3_about_44 ?_
  refine lv_isub hx hb dX3_about_45 ?_
  obtain ⟨w46, ew46, h⟩ := o_bind h
  rw [Option.some.inj ew46]
  obtain ⟨g46, h⟩ := o_if h
  obtain ⟨gx46, ez46, h⟩ := o_bind h
  refine va_iast hx hb hK hP hD hS ((SW c5 bo bv zs).length + 0) 3 (ap_r (Y := [(qn14, .inl (c5 3, 9, .inl gx30))]) rfl) rfl (inb_in g46) dX3_about_46 (fun H locs hP hD hS => ?_)
  have hP := wP (ap_sr rfl) hP
  have hD := wD (ap_sr rfl) hD
  have hP := wP (congrArg (fun y9 => SW c5 bo bv zs ++ ([(qn14, .inl (c5 3, 9, .inl y9))] : va_W)) (Option.some.inj ez46)) hP
  have hD := wD (congrArg (fun y9 => SW c5 bo bv zs ++ ([(qn14, .inl (c5 3, 9, .inl y9))] : va_W)) (Option.some.inj ez46)) hD
  refine lv_dup hx hb dX3_about_47 rfl ?_
  refine lv_iconst (v := (3 : Int32)) hx hb dX3_about_48 (by decide) ?_
  refine lv_iconst (v := (0 : Int32)) hx hb dX3_about_49 (by decide) ?_
  obtain ⟨g50, h⟩ := o_if h
  obtain ⟨gx50, ez50, h⟩ := o_bind h
  refine va_iast hx hb hK hP hD hS ((SW c5 bo bv zs).length + 0) 3 (ap_r (Y := [(qn14, .inl (c5 3, 9, .inl gx46))]) rfl) rfl (inb_in g50) dX3_about_50 (fun H locs hP hD hS => ?_)
  have hP := wP (ap_sr rfl) hP
  have hD := wD (ap_sr rfl) hD
  have hP := wP (congrArg (fun y9 => SW c5 bo bv zs ++ ([(qn14, .inl (c5 3, 9, .inl y9))] : va_W)) (Option.some.inj ez50)) hP
  have hD := wD (congrArg (fun y9 => SW c5 bo bv zs ++ ([(qn14, .inl (c5 3, 9, .inl y9))] : va_W)) (Option.some.inj ez50)) hD
  refine lv_dup hx hb dX3_about_51 rfl ?_
  refine lv_iconst (v := (4 : Int32)) hx hb dX3_about_52 (by decide) ?_
  refine lv_iconst (v := (0 : Int32)) hx hb dX3_about_53 (by decide) ?_
  obtain ⟨g54, h⟩ := o_if h
  obtain ⟨gx54, ez54, h⟩ := o_bind h
  refine va_iast hx hb hK hP hD hS ((SW c5 bo bv zs).length + 0) 3 (ap_r (Y := [(qn14, .inl (c5 3, 9, .inl gx50))]) rfl) rfl (inb_in g54) dX3_about_54 (fun H locs hP hD hS => ?_)
  have hP := wP (ap_sr rfl) hP
  have hD := wD (ap_sr rfl) hD
  have hP := wP (congrArg (fun y9 => SW c5 bo bv zs ++ ([(qn14, .inl (c5 3, 9, .inl y9))] : va_W)) (Option.some.inj ez54)) hP
  have hD := wD (congrArg (fun y9 => SW c5 bo bv zs ++ ([(qn14, .inl (c5 3, 9, .inl y9))] : va_W)) (Option.some.inj ez54)) hD
  refine lv_dup hx hb dX3_about_55 rfl ?_
  refine lv_iconst (v := (5 : Int32)) hx hb dX3_about_56 (by decide) ?_
  refine lv_iconst (v := (0 : Int32)) hx hb dX3_about_57 (by decide) ?_
  obtain ⟨g58, h⟩ := o_if h
  obtain ⟨gx58, ez58, h⟩ := o_bind h
  refine va_iast hx hb hK hP hD hS ((SW c5 bo bv zs).length + 0) 3 (ap_r (Y := [(qn14, .inl (c5 3, 9, .inl gx54))]) rfl) rfl (inb_in g58) dX3_about_58 (fun H locs hP hD hS => ?_)
  have hP := wP (ap_sr rfl) hP
  have hD := wD (ap_sr rfl) hD
  have hP := wP (congrArg (fun y9 => SW c5 bo bv zs ++ ([(qn14, .inl (c5 3, 9, .inl y9))] : va_W)) (Option.some.inj ez58)) hP
  have hD := wD (congrArg (fun y9 => SW c5 bo bv zs ++ ([(qn14, .inl (c5 3, 9, .inl y9))] : va_W)) (Option.some.inj ez58)) hD
  refine lv_dup hx hb dX3_about_59 rfl ?_
  refine lv_bipush (v := (6 : Int32)) hx hb dX3_about_60 (by decide) ?_
  refine lv_iconst (v := (0 : Int32)) hx hb dX3_about_62 (by decide) ?_
  obtain ⟨g63, h⟩ := o_if h
  obtain ⟨gx63, ez63, h⟩ := o_bind h
  refine va_iast hx hb hK hP hD hS ((SW c5 bo bv zs).length + 0) 3 (ap_r (Y := [(qn14, .inl (c5 3, 9, .inl gx58))]) rfl) rfl (inb_in g63) dX3_about_63 (fun H locs hP hD hS => ?_)
  have hP := wP (ap_sr rfl) hP
  have hD := wD (ap_sr rfl) hD
  have hP := wP (congrArg (fun y9 => SW c5 bo bv zs ++ ([(qn14, .inl (c5 3, 9, .inl y9))] : va_W)) (Option.some.inj ez63)) hP
  have hD := wD (congrArg (fun y9 => SW c5 bo bv zs ++ ([(qn14, .inl (c5 3, 9, .inl y9))] : va_W)) (Option.some.inj ez63)) hD
  refine lv_dup hx hb dX3_about_64 rfl ?_
  refine lv_bipush (v := (7 : Int32)) hx hb dX3_about_65 (by decide) ?_
  refine lv_iconst (v := (0 : Int32)) hx hb dX3_about_67 (by decide) ?_
  obtain ⟨g68, h⟩ := o_if h
  obtain ⟨gx68, ez68, h⟩ := o_bind h
  refine va_iast hx hb hK hP hD hS ((SW c5 bo bv zs).length + 0) 3 (ap_r (Y := [(qn14, .inl (c5 3, 9, .inl gx63))]) rfl) rfl (inb_in g68) dX3_about_68 (fun H locs hP hD hS => ?_)
  have hP := wP (ap_sr rfl) hP
  have hD := wD (ap_sr rfl) hD
  have hP := wP (congrArg (fun y9 => SW c5 bo bv zs ++ ([(qn14, .inl (c5 3, 9, .inl y9))] : va_W)) (Option.some.inj ez68)) hP
  have hD := wD (congrArg (fun y9 => SW c5 bo bv zs ++ ([(qn14, .inl (c5 3, 9, .inl y9))] : va_W)) (Option.some.inj ez68)) hD
  refine lv_dup hx hb dX3_about_69 rfl ?_
  refine lv_bipush (v := (8 : Int32)) hx hb dX3_about_70 (by decide) ?_
  refine lv_aload_n hx hb dX3_about_72 rfl (lv_at hl 1 rfl) ?_
  refine va_get (D := D) (ci := 3) (v := .ref (bo 1)) (C := RX3) (T := TX3) (N := 7) hx hb hts iX3 hown hK hP 0 (ap_l (SW_0 c5 bo bv zs)) rfl 4 (by decide) (hts _ wT3_16) (fun _ h9 => h9) rfl dX3_about_73 ?_
  refine lv_iload_n hx hb dX3_about_76 rfl (lv_at hl 2 rfl) ?_
  obtain ⟨g77, h⟩ := o_if h
  refine ar_ld hx hb hK hP 1 4 (ap_l (SW_1 c5 bo bv zs)) rfl (inb_in g77) rfl dX3_about_77 ?_
  refine lv_iconst (v := (1 : Int32)) hx hb dX3_about_78 (by decide) ?_
  obtain ⟨g79, h⟩ := o_if h
  refine va_iald hx hb hK hP (28 + (p1.toNatClampNeg)) 3 (ap_l (SW_K c5 bo bv zs (inb_lt g77))) rfl (inb_in g79) dX3_about_79 ?_
  obtain ⟨w80, ew80, h⟩ := o_bind h
  rw [Option.some.inj ew80]
  obtain ⟨g80, h⟩ := o_if h
  obtain ⟨gx80, ez80, h⟩ := o_bind h
  refine va_iast hx hb hK hP hD hS ((SW c5 bo bv zs).length + 0) 3 (ap_r (Y := [(qn14, .inl (c5 3, 9, .inl gx68))]) rfl) rfl (inb_in g80) dX3_about_80 (fun H locs hP hD hS => ?_)
  have hP := wP (ap_sr rfl) hP
  have hD := wD (ap_sr rfl) hD
  have hP := wP (congrArg (fun y9 => SW c5 bo bv zs ++ ([(qn14, .inl (c5 3, 9, .inl y9))] : va_W)) (Option.some.inj ez80)) hP
  have hD := wD (congrArg (fun y9 => SW c5 bo bv zs ++ ([(qn14, .inl (c5 3, 9, .inl y9))] : va_W)) (Option.some.inj ez80)) hD
  refine lv_astore_n (i := 3) (lv' := [(3, .ref qn14), (2, .int ((24 : Int32) / (zK zs (p1.toNatClampNeg) ((0 : Int32).toNatClampNeg)))), (0, .ref (bo 0)), (1, .int p1)]) hx hb dX3_about_81 rfl hl (by decide) rfl (fun ls hl => ?_)
  refine lv_iconst (v := (0 : Int32)) hx hb dX3_about_82 (by decide) ?_
  refine lv_istore (i := 4) (lv' := [(4, .int (0 : Int32)), (3, .ref qn14), (2, .int ((24 : Int32) / (zK zs (p1.toNatClampNeg) ((0 : Int32).toNatClampNeg)))), (0, .ref (bo 0)), (1, .int p1)]) hx hb dX3_about_83 hl (by decide) rfl (fun ls hl => ?_)
  have L85 : ∀ (n85 : Nat) (H : Heap) (locs : List Loc) (gx0_85 : Nat → Int32) (x4_85 : Int32) (ls : Array Slot), lv_has ls 5 [(4, .int x4_85), (3, .ref qn14), (2, .int ((24 : Int32) / (zK zs (p1.toNatClampNeg) ((0 : Int32).toNatClampNeg)))), (0, .ref (bo 0)), (1, .int p1)] → va_P D vwCl (SW c5 bo bv zs ++ ([(qn14, .inl (c5 3, 9, .inl gx0_85))] : va_W)) H → va_D A (SW c5 bo bv zs ++ ([(qn14, .inl (c5 3, 9, .inl gx0_85))] : va_W)) → va_S A s.heap H locs → R_X3_about_L85 zs p1 n85 gx0_85 x4_85 = some r → W p l e (headSpec (ws_ yX3_about cX3_about 5 (some (.array .int))) { frames := 1, cells := 1, slots := 9, locals := 26 }).room s m ([.ref (bo 0), .int p1] : List Value).toArray below meth c H locs (0 + 1) (0 + 9) (MQ below (va_Qr (fun _ : Unit => True) (fun _ q t => va_P D vwCl (SW c5 bo bv zs ++ [(q, .inl (c5 3, 9, .inl r))]) t.heap ∧ va_K D vwCl (tyG c5) t ∧ va_D (A) (SW c5 bo bv zs ++ [(q, .inl (c5 3, 9, .inl r))])) (A)) ([.ref (bo 0), .int p1] : List Value).toArray s 1 9 A) (F0 m 85 ls []) := by
    intro n85
    induction n85 with
    | zero =>
      intro H locs gx0_85 x4_85 ls hl hP hD hS h
      exact absurd h (by simp [R_X3_about_L85])
    | succ n85 ih85 =>
      intro H locs gx0_85 x4_85 ls hl hP hD hS h
      rw [R_X3_about_L85] at h
      refine lv_iload hx hb dX3_about_85 (lv_at hl 0 rfl) ?_
      refine lv_bipush (v := (12 : Int32)) hx hb dX3_about_87 (by decide) ?_
      refine lv_icmp_ge (tgt := 169) hx hb dX3_about_89 (by decide) (fun q => ?_) (fun q => ?_)
      · have h := o_t h q
        refine lv_aload_n hx hb dX3_about_169 rfl (lv_at hl 1 rfl) ?_
        obtain rfl := Option.some.inj h
        refine W.widen (k := 1) (n := 9) (by omega) (by omega) ?_
        exact W.aret hx hb hr (Or.inr ⟨_, rfl⟩) (Or.inr ⟨_, rfl⟩) (fun t ht hW => ⟨⟨(), qn14, rfl, trivial, by rw [ht]; exact hP, va_K.moved hW.alike hK, hD⟩, hS.F ht⟩) hS.2.2 dX3_about_170 hlocks
      · have h := o_f h q
        refine lv_aload_n hx hb dX3_about_92 rfl (lv_at hl 3 rfl) ?_
        refine va_get (D := D) (ci := 3) (v := .ref (bo 2)) (C := RX3) (T := TX3) (N := 7) hx hb hts iX3 hown hK hP 0 (ap_l (SW_0 c5 bo bv zs)) rfl 5 (by decide) (hts _ wT3_18) (fun _ h9 => h9) rfl dX3_about_93 ?_
        refine lv_iload hx hb dX3_about_96 (lv_at hl 0 rfl) ?_
        obtain ⟨g98, h⟩ := o_if h
        refine ar_ld hx hb hK hP 2 4 (ap_l (SW_2 c5 bo bv zs)) rfl (inb_in g98) rfl dX3_about_98 ?_
        refine lv_iconst (v := (0 : Int32)) hx hb dX3_about_99 (by decide) ?_
        obtain ⟨g100, h⟩ := o_if h
        refine va_iald hx hb hK hP (4 + (x4_85.toNatClampNeg)) 3 (ap_l (SW_H c5 bo bv zs (inb_lt g98))) rfl (inb_in g100) dX3_about_100 ?_
        refine lv_iload_n hx hb dX3_about_101 rfl (lv_at hl 4 rfl) ?_
        obtain ⟨v102, e102, h⟩ := o_bind h
        have tn102 : ∀ (H : Heap) (locs : List Loc) (ls : Array Slot), lv_has ls 5 [(4, .int x4_85), (3, .ref qn14), (2, .int ((24 : Int32) / (zK zs (p1.toNatClampNeg) ((0 : Int32).toNatClampNeg)))), (0, .ref (bo 0)), (1, .int p1)] → va_P D vwCl (SW c5 bo bv zs ++ ([(qn14, .inl (c5 3, 9, .inl v102))] : va_W)) H → va_D A (SW c5 bo bv zs ++ ([(qn14, .inl (c5 3, 9, .inl v102))] : va_W)) → va_S A s.heap H locs → W p l e (headSpec (ws_ yX3_about cX3_about 5 (some (.array .int))) { frames := 1, cells := 1, slots := 9, locals := 26 }).room s m ([.ref (bo 0), .int p1] : List Value).toArray below meth c H locs (0 + 1) (0 + 9) (MQ below (va_Qr (fun _ : Unit => True) (fun _ q t => va_P D vwCl (SW c5 bo bv zs ++ [(q, .inl (c5 3, 9, .inl r))]) t.heap ∧ va_K D vwCl (tyG c5) t ∧ va_D (A) (SW c5 bo bv zs ++ [(q, .inl (c5 3, 9, .inl r))])) (A)) ([.ref (bo 0), .int p1] : List Value).toArray s 1 9 A) (F0 m 163 ls []) := by
          intro H locs ls hl hP hD hS
          refine lv_iinc (v := (x4_85 + (1 : Int32))) (lv' := [(4, .int (x4_85 + (1 : Int32))), (3, .ref qn14), (2, .int ((24 : Int32) / (zK zs (p1.toNatClampNeg) ((0 : Int32).toNatClampNeg)))), (0, .ref (bo 0)), (1, .int p1)]) hx hb dX3_about_163 hl (k := 0) rfl rfl (by decide) rfl (fun ls hl => ?_)
          refine lv_goto (tgt := 85) hx hb dX3_about_166 (by decide) ?_
          exact ih85 H locs v102 (x4_85 + (1 : Int32)) ls (lv_sub hl [0, 1, 2, 3, 4] rfl) hP hD hS h
        have h := e102
        refine lv_icmp_eq (tgt := 108) hx hb dX3_about_102 (by decide) (fun q => ?_) (fun q => ?_)
        · have h := o_t h q
          refine lv_aload_n hx hb dX3_about_108 rfl (lv_at hl 1 rfl) ?_
          refine lv_iconst (v := (3 : Int32)) hx hb dX3_about_109 (by decide) ?_
          refine lv_dup2_11 hx hb dX3_about_110 rfl rfl ?_
          obtain ⟨g111, h⟩ := o_if h
          refine va_iald hx hb hK hP ((SW c5 bo bv zs).length + 0) 3 (ap_r (Y := [(qn14, .inl (c5 3, 9, .inl gx0_85))]) rfl) rfl (inb_in g111) dX3_about_111 ?_
          refine lv_iconst (v := (1 : Int32)) hx hb dX3_about_112 (by decide) ?_
          refine lv_iadd hx hb dX3_about_113 ?_
          obtain ⟨w114, ew114, h⟩ := o_bind h
          rw [Option.some.inj ew114]
          obtain ⟨g114, h⟩ := o_if h
          obtain ⟨gx114, ez114, h⟩ := o_bind h
          refine va_iast hx hb hK hP hD hS ((SW c5 bo bv zs).length + 0) 3 (ap_r (Y := [(qn14, .inl (c5 3, 9, .inl gx0_85))]) rfl) rfl (inb_in g114) dX3_about_114 (fun H locs hP hD hS => ?_)
          have hP := wP (ap_sr rfl) hP
          have hD := wD (ap_sr rfl) hD
          have hP := wP (congrArg (fun y9 => SW c5 bo bv zs ++ ([(qn14, .inl (c5 3, 9, .inl y9))] : va_W)) (Option.some.inj ez114)) hP
          have hD := wD (congrArg (fun y9 => SW c5 bo bv zs ++ ([(qn14, .inl (c5 3, 9, .inl y9))] : va_W)) (Option.some.inj ez114)) hD
          refine lv_aload_n hx hb dX3_about_115 rfl (lv_at hl 1 rfl) ?_
          refine lv_aload_n hx hb dX3_about_116 rfl (lv_at hl 3 rfl) ?_
          refine lv_iload hx hb dX3_about_117 (lv_at hl 0 rfl) ?_
          obtain ⟨v119, e119, h⟩ := o_bind h
          refine ro_calli (ro_runV (As := [.int x4_85]) (rest := [.ref qn14]) ⟨hx, hb, hml, hown, hts⟩ (fr_P (X := []) (Y := [(qn14, .inl (c5 3, 9, .inl gx114))]) hP) hK (c_X3_many l D c5 bo bv zs x4_85 v119 e119) gG_RX3_45 (va_recv hK hP (ci := 3) (q0 := 0) rfl (ap_l (SW_0 c5 bo bv zs))) hd_X3_many ⟨Nat.le_of_ble_eq_true rfl, Nat.le_of_ble_eq_true rfl⟩ ⟨rfl, rfl⟩ hl.1 (Nat.le_of_ble_eq_true rfl) dX3_about_119 ⟨show 0 + 1 ≤ 1 by omega, show 0 + 9 ≤ 9 by omega⟩ rfl) ?_
          refine lv_iload_n hx hb dX3_about_122 rfl (lv_at hl 2 rfl) ?_
          refine lv_icmp_ne (tgt := 130) hx hb dX3_about_123 (by decide) (fun q => ?_) (fun q => ?_)
          · have h := o_t' h q
            refine lv_aload_n hx hb dX3_about_130 rfl (lv_at hl 3 rfl) ?_
            refine lv_iload hx hb dX3_about_131 (lv_at hl 0 rfl) ?_
            obtain ⟨v133, e133, h⟩ := o_bind h
            refine ro_calli (ro_runV (As := [.int x4_85]) (rest := [.ref qn14]) ⟨hx, hb, hml, hown, hts⟩ (fr_P (X := []) (Y := [(qn14, .inl (c5 3, 9, .inl gx114))]) hP) hK (c_X3_many l D c5 bo bv zs x4_85 v133 e133) gG_RX3_45 (va_recv hK hP (ci := 3) (q0 := 0) rfl (ap_l (SW_0 c5 bo bv zs))) hd_X3_many ⟨Nat.le_of_ble_eq_true rfl, Nat.le_of_ble_eq_true rfl⟩ ⟨rfl, rfl⟩ hl.1 (Nat.le_of_ble_eq_true rfl) dX3_about_133 ⟨show 0 + 1 ≤ 1 by omega, show 0 + 9 ≤ 9 by omega⟩ rfl) ?_
            refine lv_if_le (tgt := 143) hx hb dX3_about_136 (by decide) (fun q => ?_) (fun q => ?_)
            · have h := o_t h q
              refine lv_bipush (v := (6 : Int32)) hx hb dX3_about_143 (by decide) ?_
              refine lv_dup2_11 hx hb dX3_about_145 rfl rfl ?_
              obtain ⟨g146, h⟩ := o_if h
              refine va_iald hx hb hK hP ((SW c5 bo bv zs).length + 0) 3 (ap_r (Y := [(qn14, .inl (c5 3, 9, .inl gx114))]) rfl) rfl (inb_in g146) dX3_about_146 ?_
              refine lv_iconst (v := (1 : Int32)) hx hb dX3_about_147 (by decide) ?_
              refine lv_iadd hx hb dX3_about_148 ?_
              obtain ⟨w149, ew149, h⟩ := o_bind h
              rw [Option.some.inj ew149]
              obtain ⟨g149, h⟩ := o_if h
              obtain ⟨gx149, ez149, h⟩ := o_bind h
              refine va_iast hx hb hK hP hD hS ((SW c5 bo bv zs).length + 0) 3 (ap_r (Y := [(qn14, .inl (c5 3, 9, .inl gx114))]) rfl) rfl (inb_in g149) dX3_about_149 (fun H locs hP hD hS => ?_)
              have hP := wP (ap_sr rfl) hP
              have hD := wD (ap_sr rfl) hD
              have hP := wP (congrArg (fun y9 => SW c5 bo bv zs ++ ([(qn14, .inl (c5 3, 9, .inl y9))] : va_W)) (Option.some.inj ez149)) hP
              have hD := wD (congrArg (fun y9 => SW c5 bo bv zs ++ ([(qn14, .inl (c5 3, 9, .inl y9))] : va_W)) (Option.some.inj ez149)) hD
              refine lv_aload_n hx hb dX3_about_150 rfl (lv_at hl 1 rfl) ?_
              refine lv_bipush (v := (7 : Int32)) hx hb dX3_about_151 (by decide) ?_
              refine lv_dup2_11 hx hb dX3_about_153 rfl rfl ?_
              obtain ⟨g154, h⟩ := o_if h
              refine va_iald hx hb hK hP ((SW c5 bo bv zs).length + 0) 3 (ap_r (Y := [(qn14, .inl (c5 3, 9, .inl gx149))]) rfl) rfl (inb_in g154) dX3_about_154 ?_
              refine lv_aload_n hx hb dX3_about_155 rfl (lv_at hl 3 rfl) ?_
              refine lv_iload hx hb dX3_about_156 (lv_at hl 0 rfl) ?_
              obtain ⟨v158, e158, h⟩ := o_bind h
              refine ro_calli (ro_runV (As := [.int x4_85]) (rest := [.int (gx149 ((7 : Int32).toNatClampNeg)), .int (7 : Int32), .ref qn14]) ⟨hx, hb, hml, hown, hts⟩ (fr_P (X := []) (Y := [(qn14, .inl (c5 3, 9, .inl gx149))]) hP) hK (c_X3_many l D c5 bo bv zs x4_85 v158 e158) gG_RX3_45 (va_recv hK hP (ci := 3) (q0 := 0) rfl (ap_l (SW_0 c5 bo bv zs))) hd_X3_many ⟨Nat.le_of_ble_eq_true rfl, Nat.le_of_ble_eq_true rfl⟩ ⟨rfl, rfl⟩ hl.1 (Nat.le_of_ble_eq_true rfl) dX3_about_158 ⟨show 0 + 1 ≤ 1 by omega, show 0 + 9 ≤ 9 by omega⟩ rfl) ?_
              refine lv_iadd hx hb dX3_about_161 ?_
              obtain ⟨g162, h⟩ := o_if h
              obtain ⟨gx162, ez162, h⟩ := o_bind h
              refine va_iast hx hb hK hP hD hS ((SW c5 bo bv zs).length + 0) 3 (ap_r (Y := [(qn14, .inl (c5 3, 9, .inl gx149))]) rfl) rfl (inb_in g162) dX3_about_162 (fun H locs hP hD hS => ?_)
              have hP := wP (ap_sr rfl) hP
              have hD := wD (ap_sr rfl) hD
              have hP := wP (congrArg (fun y9 => SW c5 bo bv zs ++ ([(qn14, .inl (c5 3, 9, .inl y9))] : va_W)) (Option.some.inj ez162)) hP
              have hD := wD (congrArg (fun y9 => SW c5 bo bv zs ++ ([(qn14, .inl (c5 3, 9, .inl y9))] : va_W)) (Option.some.inj ez162)) hD
              obtain rfl := Option.some.inj h
              exact tn102 H locs ls (lv_sub hl [0, 1, 2, 3, 4] rfl) hP hD hS
            · have h := o_f h q
              refine lv_iconst (v := (5 : Int32)) hx hb dX3_about_139 (by decide) ?_
              refine lv_goto (tgt := 145) hx hb dX3_about_140 (by decide) ?_
              refine lv_dup2_11 hx hb dX3_about_145 rfl rfl ?_
              obtain ⟨g146, h⟩ := o_if h
              refine va_iald hx hb hK hP ((SW c5 bo bv zs).length + 0) 3 (ap_r (Y := [(qn14, .inl (c5 3, 9, .inl gx114))]) rfl) rfl (inb_in g146) dX3_about_146 ?_
              refine lv_iconst (v := (1 : Int32)) hx hb dX3_about_147 (by decide) ?_
              refine lv_iadd hx hb dX3_about_148 ?_
              obtain ⟨w149, ew149, h⟩ := o_bind h
              rw [Option.some.inj ew149]
              obtain ⟨g149, h⟩ := o_if h
              obtain ⟨gx149, ez149, h⟩ := o_bind h
              refine va_iast hx hb hK hP hD hS ((SW c5 bo bv zs).length + 0) 3 (ap_r (Y := [(qn14, .inl (c5 3, 9, .inl gx114))]) rfl) rfl (inb_in g149) dX3_about_149 (fun H locs hP hD hS => ?_)
              have hP := wP (ap_sr rfl) hP
              have hD := wD (ap_sr rfl) hD
              have hP := wP (congrArg (fun y9 => SW c5 bo bv zs ++ ([(qn14, .inl (c5 3, 9, .inl y9))] : va_W)) (Option.some.inj ez149)) hP
              have hD := wD (congrArg (fun y9 => SW c5 bo bv zs ++ ([(qn14, .inl (c5 3, 9, .inl y9))] : va_W)) (Option.some.inj ez149)) hD
              refine lv_aload_n hx hb dX3_about_150 rfl (lv_at hl 1 rfl) ?_
              refine lv_bipush (v := (7 : Int32)) hx hb dX3_about_151 (by decide) ?_
              refine lv_dup2_11 hx hb dX3_about_153 rfl rfl ?_
              obtain ⟨g154, h⟩ := o_if h
              refine va_iald hx hb hK hP ((SW c5 bo bv zs).length + 0) 3 (ap_r (Y := [(qn14, .inl (c5 3, 9, .inl gx149))]) rfl) rfl (inb_in g154) dX3_about_154 ?_
              refine lv_aload_n hx hb dX3_about_155 rfl (lv_at hl 3 rfl) ?_
              refine lv_iload hx hb dX3_about_156 (lv_at hl 0 rfl) ?_
              obtain ⟨v158, e158, h⟩ := o_bind h
              refine ro_calli (ro_runV (As := [.int x4_85]) (rest := [.int (gx149 ((7 : Int32).toNatClampNeg)), .int (7 : Int32), .ref qn14]) ⟨hx, hb, hml, hown, hts⟩ (fr_P (X := []) (Y := [(qn14, .inl (c5 3, 9, .inl gx149))]) hP) hK (c_X3_many l D c5 bo bv zs x4_85 v158 e158) gG_RX3_45 (va_recv hK hP (ci := 3) (q0 := 0) rfl (ap_l (SW_0 c5 bo bv zs))) hd_X3_many ⟨Nat.le_of_ble_eq_true rfl, Nat.le_of_ble_eq_true rfl⟩ ⟨rfl, rfl⟩ hl.1 (Nat.le_of_ble_eq_true rfl) dX3_about_158 ⟨show 0 + 1 ≤ 1 by omega, show 0 + 9 ≤ 9 by omega⟩ rfl) ?_
              refine lv_iadd hx hb dX3_about_161 ?_
              obtain ⟨g162, h⟩ := o_if h
              obtain ⟨gx162, ez162, h⟩ := o_bind h
              refine va_iast hx hb hK hP hD hS ((SW c5 bo bv zs).length + 0) 3 (ap_r (Y := [(qn14, .inl (c5 3, 9, .inl gx149))]) rfl) rfl (inb_in g162) dX3_about_162 (fun H locs hP hD hS => ?_)
              have hP := wP (ap_sr rfl) hP
              have hD := wD (ap_sr rfl) hD
              have hP := wP (congrArg (fun y9 => SW c5 bo bv zs ++ ([(qn14, .inl (c5 3, 9, .inl y9))] : va_W)) (Option.some.inj ez162)) hP
              have hD := wD (congrArg (fun y9 => SW c5 bo bv zs ++ ([(qn14, .inl (c5 3, 9, .inl y9))] : va_W)) (Option.some.inj ez162)) hD
              obtain rfl := Option.some.inj h
              exact tn102 H locs ls (lv_sub hl [0, 1, 2, 3, 4] rfl) hP hD hS
          · have h := o_f' h q
            refine lv_iconst (v := (4 : Int32)) hx hb dX3_about_126 (by decide) ?_
            refine lv_goto (tgt := 145) hx hb dX3_about_127 (by decide) ?_
            refine lv_dup2_11 hx hb dX3_about_145 rfl rfl ?_
            obtain ⟨g146, h⟩ := o_if h
            refine va_iald hx hb hK hP ((SW c5 bo bv zs).length + 0) 3 (ap_r (Y := [(qn14, .inl (c5 3, 9, .inl gx114))]) rfl) rfl (inb_in g146) dX3_about_146 ?_
            refine lv_iconst (v := (1 : Int32)) hx hb dX3_about_147 (by decide) ?_
            refine lv_iadd hx hb dX3_about_148 ?_
            obtain ⟨w149, ew149, h⟩ := o_bind h
            rw [Option.some.inj ew149]
            obtain ⟨g149, h⟩ := o_if h
            obtain ⟨gx149, ez149, h⟩ := o_bind h
            refine va_iast hx hb hK hP hD hS ((SW c5 bo bv zs).length + 0) 3 (ap_r (Y := [(qn14, .inl (c5 3, 9, .inl gx114))]) rfl) rfl (inb_in g149) dX3_about_149 (fun H locs hP hD hS => ?_)
            have hP := wP (ap_sr rfl) hP
            have hD := wD (ap_sr rfl) hD
            have hP := wP (congrArg (fun y9 => SW c5 bo bv zs ++ ([(qn14, .inl (c5 3, 9, .inl y9))] : va_W)) (Option.some.inj ez149)) hP
            have hD := wD (congrArg (fun y9 => SW c5 bo bv zs ++ ([(qn14, .inl (c5 3, 9, .inl y9))] : va_W)) (Option.some.inj ez149)) hD
            refine lv_aload_n hx hb dX3_about_150 rfl (lv_at hl 1 rfl) ?_
            refine lv_bipush (v := (7 : Int32)) hx hb dX3_about_151 (by decide) ?_
            refine lv_dup2_11 hx hb dX3_about_153 rfl rfl ?_
            obtain ⟨g154, h⟩ := o_if h
            refine va_iald hx hb hK hP ((SW c5 bo bv zs).length + 0) 3 (ap_r (Y := [(qn14, .inl (c5 3, 9, .inl gx149))]) rfl) rfl (inb_in g154) dX3_about_154 ?_
            refine lv_aload_n hx hb dX3_about_155 rfl (lv_at hl 3 rfl) ?_
            refine lv_iload hx hb dX3_about_156 (lv_at hl 0 rfl) ?_
            obtain ⟨v158, e158, h⟩ := o_bind h
            refine ro_calli (ro_runV (As := [.int x4_85]) (rest := [.int (gx149 ((7 : Int32).toNatClampNeg)), .int (7 : Int32), .ref qn14]) ⟨hx, hb, hml, hown, hts⟩ (fr_P (X := []) (Y := [(qn14, .inl (c5 3, 9, .inl gx149))]) hP) hK (c_X3_many l D c5 bo bv zs x4_85 v158 e158) gG_RX3_45 (va_recv hK hP (ci := 3) (q0 := 0) rfl (ap_l (SW_0 c5 bo bv zs))) hd_X3_many ⟨Nat.le_of_ble_eq_true rfl, Nat.le_of_ble_eq_true rfl⟩ ⟨rfl, rfl⟩ hl.1 (Nat.le_of_ble_eq_true rfl) dX3_about_158 ⟨show 0 + 1 ≤ 1 by omega, show 0 + 9 ≤ 9 by omega⟩ rfl) ?_
            refine lv_iadd hx hb dX3_about_161 ?_
            obtain ⟨g162, h⟩ := o_if h
            obtain ⟨gx162, ez162, h⟩ := o_bind h
            refine va_iast hx hb hK hP hD hS ((SW c5 bo bv zs).length + 0) 3 (ap_r (Y := [(qn14, .inl (c5 3, 9, .inl gx149))]) rfl) rfl (inb_in g162) dX3_about_162 (fun H locs hP hD hS => ?_)
            have hP := wP (ap_sr rfl) hP
            have hD := wD (ap_sr rfl) hD
            have hP := wP (congrArg (fun y9 => SW c5 bo bv zs ++ ([(qn14, .inl (c5 3, 9, .inl y9))] : va_W)) (Option.some.inj ez162)) hP
            have hD := wD (congrArg (fun y9 => SW c5 bo bv zs ++ ([(qn14, .inl (c5 3, 9, .inl y9))] : va_W)) (Option.some.inj ez162)) hD
            obtain rfl := Option.some.inj h
            exact tn102 H locs ls (lv_sub hl [0, 1, 2, 3, 4] rfl) hP hD hS
        · have h := o_f h q
          refine lv_goto (tgt := 163) hx hb dX3_about_105 (by decide) ?_
          obtain rfl := Option.some.inj h
          exact tn102 H locs ls (lv_sub hl [0, 1, 2, 3, 4] rfl) hP hD hS
  exact L85 FU H locs gx80 (0 : Int32) ls (lv_sub hl [0, 1, 2, 3, 4] rfl) hP hD hS h
