def m0 (i : Nat) : MSt := (fun _ => 0, fun n j => if (n = 2 ∨ n = 5) ∧ j < i then -1 else 0)
theorem m0_up2 {i : Nat} : mAs (mAs (m0 i) 2 (upd (mA (m0 i) 2) i (-1))) 5 (upd (mA (m0 i) 5) i (-1)) = m0 (i + 1) := by
  refine Prod.ext rfl (funext fun n => funext fun j => ?_)
  simp only [mAs, mA, m0, upd]
  by_cases h5 : n = 5
  · subst h5
    by_cases hj : j = i
    · subst hj; simp [upd]
    · have e : (j < i + 1) ↔ j < i := by omega
      simp [upd, hj, e]
  · by_cases h2 : n = 2
    · subst h2
      by_cases hj : j = i
      · subst hj; simp [upd]
      · have e : (j < i + 1) ↔ j < i := by omega
        simp [upd, hj, e]
    · simp [h5, h2]
set_option maxHeartbeats 4000000 in
set_option maxRecDepth 100000 in
theorem c_X3_init (l : Launch) (D : va_G) (c5 : Nat → ClassId) (b0 : Nat) (sz : Nat) : Met l yX3_init (ws_ yX3_init cX3_init 2 none) { frames := 1, cells := 8, slots := 82, locals := 12 } (va_Pc [.ref b0] (rwB D (tyG c5) [(b0, .inr (3, [.int 0, .int 0, .int 0, .int 0, .int 0, .int 0, .null, .null, .null, .null, .null, .null, .null, .null]))] sz)) (va_Qv (fun b : Nat → Nat => b 0 = b0) (rwE D (tyG c5) (va_A [(b0, .inr (3, [.int 0, .int 0, .int 0, .int 0, .int 0, .int 0, .null, .null, .null, .null, .null, .null, .null, .null]))] sz) (fun b => MW c5 b (m0 12))) (va_A [(b0, .inr (3, [.int 0, .int 0, .int 0, .int 0, .int 0, .int 0, .null, .null, .null, .null, .null, .null, .null, .null]))] sz)) 8 82 (va_A [(b0, .inr (3, [.int 0, .int 0, .int 0, .int 0, .int 0, .int 0, .null, .null, .null, .null, .null, .null, .null, .null]))] sz) := by
  refine Met.ofW (cc := cX3_init) (maxL := 2) (ret := none) (by decide) rfl ?_
  intro p e s m args below meth c s₁ B hml hv
  obtain ⟨rfl, hsz, hP, hK, hD0⟩ := hv
  have hx := B.exec
  have hb := B.bytes
  have hr := B.returns
  have hts : ∀ w ∈ LA, w.before _ s = true := fun w hw => atoms_spec (ws := ws_ yX3_init cX3_init 2 none) B.pre w (List.mem_cons_of_mem _ hw)
  have hown : s.vm.findClass RX3 = some m.cls := findClass_of_methodNamed B.named
  have hlocks := B.notSynchronized
  have hin : meth.name = "<init>" := (name_of_methodNamed B.named B.method).1
  subst hsz
  have hD := hD0.self (sz := s.heap.size)
  generalize hAe : va_A [(b0, .inr (3, [.int 0, .int 0, .int 0, .int 0, .int 0, .int 0, .null, .null, .null, .null, .null, .null, .null, .null]))] s.heap.size = A at hD ⊢
  have hA : ∀ q : Nat, s.heap.size ≤ q → A q := fun q h => by rw [← hAe]; exact Or.inr h
  have hS : va_S A s.heap s.heap [] := va_S.rf
  have hl := lv_entry ([.ref b0] : List Value) (n := 2) (Nat.le_of_ble_eq_true rfl)
  rw [lg_entry_eq]
  generalize (lg_sl ([.ref b0] : List Value) ++ List.replicate (2 - (lg_sl ([.ref b0] : List Value)).length) Slot.unset).toArray = ls at hl ⊢
  have hl : lv_has ls 2 [(0, .ref b0)] := hl
  refine lv_aload_n hx hb dX3_init_0 rfl (lv_at hl 0 rfl) ?_
  refine W.objInit hx hb hown (hts _ wT3_27) (hts _ wT1_20) (hts _ wT1_21) rfl (by rw [hml]; exact hl.1) rfl dX3_init_1 (Nat.le_of_ble_eq_true rfl) (Nat.le_of_ble_eq_true rfl) ?_
  refine W.eq (g2 := F0 m 4 ls []) rfl ?_
  refine lv_aload_n hx hb dX3_init_4 rfl (lv_at hl 0 rfl) ?_
  refine lv_iconst (v := (5 : Int32)) hx hb dX3_init_5 (by decide) ?_
  refine va_newa (atype := .int) (a0 := (5, .inl (fun _ => (0 : Int32)))) (N' := 5) hx hb (hts _ wT3_71) rfl hK hP hD hS hA (fun _ => rfl) (by decide) (by decide) (by decide) (Nat.le_of_ble_eq_true rfl) (Nat.le_of_ble_eq_true rfl) dX3_init_6 (fun b1 cA H hK9 hP hD hS => ?_)
  obtain rfl : cA = c5 3 := ca_eq (i := 5) (j := 3) hK9 rfl rfl
  refine va_putF (D := D) (ci := 3) (v := .ref b1) (ty := (.array .int)) (C := RX3) (T := TX3) (N := 14) hx hb hts iX3 tyX3 tyX3_ok nmX3 hown hK hP hD hS 0 rfl rfl 6 (by decide) (hts _ wT3_34) (fun _ h9 => h9) rfl hin rfl (by decide +kernel) rfl rfl (Nat.le_of_ble_eq_true rfl) dX3_init_8 (fun H locs hP hD hS => ?_)
  refine lv_aload_n hx hb dX3_init_11 rfl (lv_at hl 0 rfl) ?_
  refine lv_iconst (v := (5 : Int32)) hx hb dX3_init_12 (by decide) ?_
  refine va_newa (atype := .int) (a0 := (5, .inl (fun _ => (0 : Int32)))) (N' := 5) hx hb (hts _ wT3_71) rfl hK hP hD hS hA (fun _ => rfl) (by decide) (by decide) (by decide) (Nat.le_of_ble_eq_true rfl) (Nat.le_of_ble_eq_true rfl) dX3_init_13 (fun b2 cA H hK9 hP hD hS => ?_)
  obtain rfl : cA = c5 3 := ca_eq (i := 5) (j := 3) hK9 rfl rfl
  refine va_putF (D := D) (ci := 3) (v := .ref b2) (ty := (.array .int)) (C := RX3) (T := TX3) (N := 14) hx hb hts iX3 tyX3 tyX3_ok nmX3 hown hK hP hD hS 0 rfl rfl 7 (by decide) (hts _ wT3_35) (fun _ h9 => h9) rfl hin rfl (by decide +kernel) rfl rfl (Nat.le_of_ble_eq_true rfl) dX3_init_15 (fun H locs hP hD hS => ?_)
  refine lv_aload_n hx hb dX3_init_18 rfl (lv_at hl 0 rfl) ?_
  refine lv_bipush (v := (12 : Int32)) hx hb dX3_init_19 (by decide) ?_
  refine va_newa (atype := .int) (a0 := (12, .inl (fun _ => (0 : Int32)))) (N' := 12) hx hb (hts _ wT3_71) rfl hK hP hD hS hA (fun _ => rfl) (by decide) (by decide) (by decide) (Nat.le_of_ble_eq_true rfl) (Nat.le_of_ble_eq_true rfl) dX3_init_21 (fun b3 cA H hK9 hP hD hS => ?_)
  obtain rfl : cA = c5 3 := ca_eq (i := 5) (j := 3) hK9 rfl rfl
  refine va_putF (D := D) (ci := 3) (v := .ref b3) (ty := (.array .int)) (C := RX3) (T := TX3) (N := 14) hx hb hts iX3 tyX3 tyX3_ok nmX3 hown hK hP hD hS 0 rfl rfl 8 (by decide) (hts _ wT3_36) (fun _ h9 => h9) rfl hin rfl (by decide +kernel) rfl rfl (Nat.le_of_ble_eq_true rfl) dX3_init_23 (fun H locs hP hD hS => ?_)
  refine lv_aload_n hx hb dX3_init_26 rfl (lv_at hl 0 rfl) ?_
  refine lv_bipush (v := (12 : Int32)) hx hb dX3_init_27 (by decide) ?_
  refine va_newa (atype := .int) (a0 := (12, .inl (fun _ => (0 : Int32)))) (N' := 12) hx hb (hts _ wT3_71) rfl hK hP hD hS hA (fun _ => rfl) (by decide) (by decide) (by decide) (Nat.le_of_ble_eq_true rfl) (Nat.le_of_ble_eq_true rfl) dX3_init_29 (fun b4 cA H hK9 hP hD hS => ?_)
  obtain rfl : cA = c5 3 := ca_eq (i := 5) (j := 3) hK9 rfl rfl
  refine va_putF (D := D) (ci := 3) (v := .ref b4) (ty := (.array .int)) (C := RX3) (T := TX3) (N := 14) hx hb hts iX3 tyX3 tyX3_ok nmX3 hown hK hP hD hS 0 rfl rfl 9 (by decide) (hts _ wT3_37) (fun _ h9 => h9) rfl hin rfl (by decide +kernel) rfl rfl (Nat.le_of_ble_eq_true rfl) dX3_init_31 (fun H locs hP hD hS => ?_)
  refine lv_aload_n hx hb dX3_init_34 rfl (lv_at hl 0 rfl) ?_
  refine lv_bipush (v := (12 : Int32)) hx hb dX3_init_35 (by decide) ?_
  refine va_newa (atype := .int) (a0 := (12, .inl (fun _ => (0 : Int32)))) (N' := 12) hx hb (hts _ wT3_71) rfl hK hP hD hS hA (fun _ => rfl) (by decide) (by decide) (by decide) (Nat.le_of_ble_eq_true rfl) (Nat.le_of_ble_eq_true rfl) dX3_init_37 (fun b5 cA H hK9 hP hD hS => ?_)
  obtain rfl : cA = c5 3 := ca_eq (i := 5) (j := 3) hK9 rfl rfl
  refine va_putF (D := D) (ci := 3) (v := .ref b5) (ty := (.array .int)) (C := RX3) (T := TX3) (N := 14) hx hb hts iX3 tyX3 tyX3_ok nmX3 hown hK hP hD hS 0 rfl rfl 10 (by decide) (hts _ wT3_38) (fun _ h9 => h9) rfl hin rfl (by decide +kernel) rfl rfl (Nat.le_of_ble_eq_true rfl) dX3_init_39 (fun H locs hP hD hS => ?_)
  refine lv_aload_n hx hb dX3_init_42 rfl (lv_at hl 0 rfl) ?_
  refine lv_bipush (v := (12 : Int32)) hx hb dX3_init_43 (by decide) ?_
  refine va_newa (atype := .int) (a0 := (12, .inl (fun _ => (0 : Int32)))) (N' := 12) hx hb (hts _ wT3_71) rfl hK hP hD hS hA (fun _ => rfl) (by decide) (by decide) (by decide) (Nat.le_of_ble_eq_true rfl) (Nat.le_of_ble_eq_true rfl) dX3_init_45 (fun b6 cA H hK9 hP hD hS => ?_)
  obtain rfl : cA = c5 3 := ca_eq (i := 5) (j := 3) hK9 rfl rfl
  refine va_putF (D := D) (ci := 3) (v := .ref b6) (ty := (.array .int)) (C := RX3) (T := TX3) (N := 14) hx hb hts iX3 tyX3 tyX3_ok nmX3 hown hK hP hD hS 0 rfl rfl 11 (by decide) (hts _ wT3_39) (fun _ h9 => h9) rfl hin rfl (by decide +kernel) rfl rfl (Nat.le_of_ble_eq_true rfl) dX3_init_47 (fun H locs hP hD hS => ?_)
  refine lv_aload_n hx hb dX3_init_50 rfl (lv_at hl 0 rfl) ?_
  refine lv_bipush (v := (12 : Int32)) hx hb dX3_init_51 (by decide) ?_
  refine va_newa (atype := .int) (a0 := (12, .inl (fun _ => (0 : Int32)))) (N' := 12) hx hb (hts _ wT3_71) rfl hK hP hD hS hA (fun _ => rfl) (by decide) (by decide) (by decide) (Nat.le_of_ble_eq_true rfl) (Nat.le_of_ble_eq_true rfl) dX3_init_53 (fun b7 cA H hK9 hP hD hS => ?_)
  obtain rfl : cA = c5 3 := ca_eq (i := 5) (j := 3) hK9 rfl rfl
  refine va_putF (D := D) (ci := 3) (v := .ref b7) (ty := (.array .int)) (C := RX3) (T := TX3) (N := 14) hx hb hts iX3 tyX3 tyX3_ok nmX3 hown hK hP hD hS 0 rfl rfl 12 (by decide) (hts _ wT3_40) (fun _ h9 => h9) rfl hin rfl (by decide +kernel) rfl rfl (Nat.le_of_ble_eq_true rfl) dX3_init_55 (fun H locs hP hD hS => ?_)
  refine lv_aload_n hx hb dX3_init_58 rfl (lv_at hl 0 rfl) ?_
  refine lv_bipush (v := (12 : Int32)) hx hb dX3_init_59 (by decide) ?_
  refine va_newa (atype := .int) (a0 := (12, .inl (fun _ => (0 : Int32)))) (N' := 12) hx hb (hts _ wT3_71) rfl hK hP hD hS hA (fun _ => rfl) (by decide) (by decide) (by decide) (Nat.le_of_ble_eq_true rfl) (Nat.le_of_ble_eq_true rfl) dX3_init_61 (fun b8 cA H hK9 hP hD hS => ?_)
  obtain rfl : cA = c5 3 := ca_eq (i := 5) (j := 3) hK9 rfl rfl
  refine va_putF (D := D) (ci := 3) (v := .ref b8) (ty := (.array .int)) (C := RX3) (T := TX3) (N := 14) hx hb hts iX3 tyX3 tyX3_ok nmX3 hown hK hP hD hS 0 rfl rfl 13 (by decide) (hts _ wT3_41) (fun _ h9 => h9) rfl hin rfl (by decide +kernel) rfl rfl (Nat.le_of_ble_eq_true rfl) dX3_init_63 (fun H locs hP hD hS => ?_)
  refine lv_iconst (v := (0 : Int32)) hx hb dX3_init_66 (by decide) ?_
  refine lv_istore_n (i := 1) (lv' := [(1, .int (0 : Int32)), (0, .ref b0)]) hx hb dX3_init_67 rfl hl (by decide) rfl (fun ls hl => ?_)
  have key : ∃ b : Nat → Nat, b 0 = b0 ∧ va_P D vwCl (MW c5 b (m0 0)) H ∧ va_D A (MW c5 b (m0 0)) := ⟨fun n => match n with | 0 => b0 | 1 => b1 | 2 => b2 | 3 => b3 | 4 => b4 | 5 => b5 | 6 => b6 | 7 => b7 | _ => b8, rfl, wP (by rfl) hP, wD (by rfl) hD⟩
  clear hP hD
  obtain ⟨b, rfl, hP, hD⟩ := key
  suffices LP : ∀ (d i : Nat) (H : Heap) (locs : List Loc) (ls : Array Slot), i + d = 12 → lv_has ls 2 [(0, .ref (b 0)), (1, .int (nI i))] → va_P D vwCl (MW c5 b (m0 i)) H → va_D A (MW c5 b (m0 i)) → va_S A s.heap H locs → W p l e (headSpec (ws_ yX3_init cX3_init 2 none) { frames := 1, cells := 8, slots := 82, locals := 12 }).room s m ([.ref (b 0)] : List Value).toArray below meth c H locs 8 82 (MQ below (va_Qv (fun b9 : Nat → Nat => b9 0 = b 0) (rwE D (tyG c5) A (fun b => MW c5 b (m0 12))) A) ([.ref (b 0)] : List Value).toArray s 8 82 A) (F0 m 68 ls []) from LP 12 0 _ _ ls rfl (lv_sub hl [1, 0] rfl) hP hD hS
  intro d
  induction d with
  | zero =>
    intro i H locs ls hi hl hP hD hS
    obtain rfl : i = 12 := by omega
    refine lv_iload_n hx hb dX3_init_68 rfl (lv_at hl 1 rfl) ?_
    refine lv_bipush (v := (12 : Int32)) hx hb dX3_init_69 (by decide) ?_
    refine lv_icmp_ge (tgt := 94) hx hb dX3_init_71 (by decide) (fun _ => ?_) (fun q => absurd (by decide) q)
    exact W.vret hx hb hr (fun t ht hW => ⟨⟨b, rfl, rfl, by rw [ht]; exact hP, va_K.moved hW.alike hK, hD⟩, hS.F ht⟩) hS.2.2 dX3_init_94 hlocks
  | succ d ih =>
    intro i H locs ls hi hl hP hD hS
    have hi12 : i < 12 := by omega
    refine lv_iload_n hx hb dX3_init_68 rfl (lv_at hl 1 rfl) ?_
    refine lv_bipush (v := (12 : Int32)) hx hb dX3_init_69 (by decide) ?_
    refine lv_icmp_ge (tgt := 94) hx hb dX3_init_71 (by decide) (fun q => absurd q (nI_nge hi12)) (fun _ => ?_)
    refine lv_aload_n hx hb dX3_init_74 rfl (lv_at hl 0 rfl) ?_
    refine va_get (D := D) (ci := 3) (v := .ref (b 3)) (C := RX3) (T := TX3) (N := 14) hx hb hts iX3 hown hK hP 0 (MW_0 c5 b _) rfl 8 (by decide) (hts _ wT3_36) (fun _ h9 => h9) rfl dX3_init_75 ?_
    refine lv_iload_n hx hb dX3_init_78 rfl (lv_at hl 1 rfl) ?_
    refine lv_iconst (v := (-1 : Int32)) hx hb dX3_init_79 (by decide) ?_
    refine va_iast hx hb hK hP hD hS 3 3 (MW_3 c5 b _) rfl (inb_in (nI_inb hi12)) dX3_init_80 (fun H locs hP hD hS => ?_)
    have hP := wP (MW_set3 c5 b _ _) hP
    have hD := wD (MW_set3 c5 b _ _) hD
    refine lv_aload_n hx hb dX3_init_81 rfl (lv_at hl 0 rfl) ?_
    refine va_get (D := D) (ci := 3) (v := .ref (b 6)) (C := RX3) (T := TX3) (N := 14) hx hb hts iX3 hown hK hP 0 (MW_0 c5 b _) rfl 11 (by decide) (hts _ wT3_39) (fun _ h9 => h9) rfl dX3_init_82 ?_
    refine lv_iload_n hx hb dX3_init_85 rfl (lv_at hl 1 rfl) ?_
    refine lv_iconst (v := (-1 : Int32)) hx hb dX3_init_86 (by decide) ?_
    refine va_iast hx hb hK hP hD hS 6 3 (MW_6 c5 b _) rfl (inb_in (nI_inb hi12)) dX3_init_87 (fun H locs hP hD hS => ?_)
    have hP := wP (MW_set6 c5 b _ _) hP
    have hD := wD (MW_set6 c5 b _ _) hD
    rw [nI_cl hi12] at hP hD
    have hP := wP (congrArg (MW c5 b) m0_up2) hP
    have hD := wD (congrArg (MW c5 b) m0_up2) hD
    refine lv_iinc (v := nI (i + 1)) (lv' := [(1, .int (nI (i + 1))), (0, .ref (b 0))]) hx hb dX3_init_88 hl (k := 1) rfl (nI_s i) (by decide) rfl (fun ls hl => ?_)
    refine lv_goto (tgt := 68) hx hb dX3_init_91 (by decide) ?_
    exact ih (i + 1) H locs ls (by omega) (lv_sub hl [1, 0] rfl) hP hD hS
theorem ha_X1i : yX1_init.cls ≠ "java/lang/invoke/MethodHandle" ∧ yX1_init.cls ≠ "java/lang/invoke/VarHandle" ∧ (parseMethodDescriptor yX1_init.desc).map (fun d => d.parameters.length) = some 1 := by decide +kernel
theorem ha_X0i : yX0_init.cls ≠ "java/lang/invoke/MethodHandle" ∧ yX0_init.cls ≠ "java/lang/invoke/VarHandle" ∧ (parseMethodDescriptor yX0_init.desc).map (fun d => d.parameters.length) = some 2 := by decide +kernel
