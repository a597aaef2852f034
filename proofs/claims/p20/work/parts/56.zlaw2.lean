set_option maxHeartbeats 8000000 in
set_option maxRecDepth 100000 in
theorem law_C426 {p : Program} {e : Env} {s : State} {m : MethodId} {below : List Frame} {meth : Method} {c : Code} (l : Launch) (hflags : l.flags = flags0) {D : va_G} {c5 : Nat → ClassId} {sx : Nat → Nat} {a : KAd} {bo : Nat → Nat} {b L : Nat} {xs : Nat → Int32} (hx : p.tables.exec = Jvm.exec) (hb : c.code = cL_law) (hr : meth.sig.returnType = ret) (hml : c.maxLocals = 24) (hown : s.vm.findClass RL = some m.cls) (hts : ∀ w ∈ LA, w.before #[Value.ref b] s = true) (hlocks : meth.locks = false) (hXs : va_X b L xs s s.heap) (hbl : b < s.heap.size) (hK : va_K D vwCl (tyG c5) s) (hOI : va_AOA .int s) (hOZ : va_AOA .boolean s) (hX : exL (lwA s) sx s) (r : Unit) (k426 : KSt) (zs426 : SSt) (y15_426 : Int32) (y14_426 : Int32) (y13_426 : Int32) (y12_426 : Int32) (y11_426 : Int32) (y10_426 : Int32) (y9_426 : Int32) (y8_426 : Int32) (y6_426 : Int64) (y5_426 : Int32) (y4_426 : Int32) (y3_426 : Int32) (K : KSt → SSt → Int32 → Option Unit) (bv426 : BV) (n29 cells426 slots426 : Nat) (hc426 : cells426 + 50 + n29 * 160 ≤ 4000 + 2720) (hn426 : slots426 + 213 + n29 * 420 ≤ 40000 + 7140) (ih29 : ∀ (cells29 slots29 : Nat) (bv29 : BV) (H : Heap) (locs : List Loc) (k29 : KSt) (zs29 : SSt) (x4_29 : Int32) (ls : Array Slot), lv_has ls 24 [(4, .int x4_29), (3, .int y3_426), (1, .ref (aO a 0)), (2, .ref (bo 0)), (0, .ref b)] → va_P D vwCl (KW c5 a k29 ++ (SW c5 bo bv29 zs29 ++ ([] : va_W))) H → va_D (lwA s) (KW c5 a k29 ++ (SW c5 bo bv29 zs29 ++ ([] : va_W))) → va_S (lwA s) s.heap H locs → cells29 + n29 * 160 ≤ 4000 + 2720 → slots29 + n29 * 420 ≤ 40000 + 7140 → K k29 zs29 x4_29 = some r → W p l e room_1 s m #[Value.ref b] below meth c H locs (cells29) (slots29) (lw_Z below #[Value.ref b] s) (F0 m 29 ls [])) {H : Heap} {locs : List Loc} {ls : Array Slot} (hl : lv_has ls 24 [(15, .int y15_426), (14, .int y14_426), (13, .int y13_426), (12, .int y12_426), (11, .int y11_426), (10, .int y10_426), (9, .int y9_426), (8, .int y8_426), (6, .long y6_426), (5, .int y5_426), (4, .int y4_426), (3, .int y3_426), (1, .ref (aO a 0)), (2, .ref (bo 0)), (0, .ref b)]) (hP : va_P D vwCl (KW c5 a k426 ++ (SW c5 bo bv426 zs426 ++ ([] : va_W))) H) (hD : va_D (lwA s) (KW c5 a k426 ++ (SW c5 bo bv426 zs426 ++ ([] : va_W)))) (hS : va_S (lwA s) s.heap H locs) (h : R_L_law_C426 k426 zs426 y15_426 y14_426 y13_426 y12_426 y11_426 y10_426 y9_426 y8_426 y6_426 y5_426 y4_426 y3_426 K = some r) : W p l e room_1 s m #[Value.ref b] below meth c H locs (cells426) (slots426) (lw_Z below #[Value.ref b] s) (F0 m 426 ls []) := by
  have hA : ∀ q : Nat, s.heap.size ≤ q → lwA s q := fun _ h => h
  have hbA : ¬ lwA s b := Nat.not_le.mpr hbl
  have hI : KI a := KI_of (fr_D (X := []) (Y := SW c5 bo bv426 zs426 ++ ([] : va_W)) hD)
  unfold R_L_law_C426 at h
  refine lv_iload_n hx hb dL_law_426 rfl (lv_at hl 11 rfl) ?_
  obtain ⟨g427, h⟩ := o_if h
  refine va_newa (atype := .int) (a0 := (y3_426.toNatClampNeg, .inl (fun _ => (0 : Int32)))) (N' := y3_426.toNatClampNeg) hx hb (hts _ wT2_184) rfl hK hP hD hS hA (fun _ => rfl) g427.1 rfl (by have := g427.2; show y3_426.toNatClampNeg * 4 ≤ 536870912; omega) (show cells426 + 1 ≤ 881861 by omega) (show slots426 + y3_426.toNatClampNeg ≤ 6455599 by have := g427.2; omega) dL_law_427 (fun qn427 cA H hK9 hP hD hS => ?_)
  obtain rfl : cA = c5 3 := ca_eq (i := 6) (j := 3) hK9 rfl rfl
  have hP := as2_P hP
  have hD := as2_D hD
  refine lv_astore (i := 16) (lv' := [(16, .ref qn427), (15, .int y15_426), (14, .int y14_426), (13, .int y13_426), (12, .int y12_426), (11, .int y11_426), (10, .int y10_426), (9, .int y9_426), (8, .int y8_426), (6, .long y6_426), (5, .int y5_426), (4, .int y4_426), (3, .int y3_426), (1, .ref (aO a 0)), (2, .ref (bo 0)), (0, .ref b)]) hx hb dL_law_429 hl (by decide) rfl (fun ls hl => ?_)
  refine lv_iconst (v := (0 : Int32)) hx hb dL_law_431 (by decide) ?_
  refine lv_istore (i := 17) (lv' := [(17, .int (0 : Int32)), (16, .ref qn427), (15, .int y15_426), (14, .int y14_426), (13, .int y13_426), (12, .int y12_426), (11, .int y11_426), (10, .int y10_426), (9, .int y9_426), (8, .int y8_426), (6, .long y6_426), (5, .int y5_426), (4, .int y4_426), (3, .int y3_426), (1, .ref (aO a 0)), (2, .ref (bo 0)), (0, .ref b)]) hx hb dL_law_432 hl (by decide) rfl (fun ls hl => ?_)
  obtain ⟨v434, e434, h⟩ := o_bind h
  have L434 : ∀ (n434 : Nat) (H : Heap) (locs : List Loc) (gx0_434 : Nat → Int32) (x17_434 : Int32) (v9 : (Nat → Int32) × Int32) (ls : Array Slot), lv_has ls 24 [(17, .int x17_434), (16, .ref qn427), (15, .int y15_426), (14, .int y14_426), (13, .int y13_426), (12, .int y12_426), (11, .int y11_426), (10, .int y10_426), (9, .int y9_426), (8, .int y8_426), (6, .long y6_426), (5, .int y5_426), (4, .int y4_426), (3, .int y3_426), (1, .ref (aO a 0)), (2, .ref (bo 0)), (0, .ref b)] → va_P D vwCl (KW c5 a k426 ++ (SW c5 bo bv426 zs426 ++ ([(qn427, .inl (c5 3, (y3_426.toNatClampNeg), .inl gx0_434))] : va_W))) H → va_D (lwA s) (KW c5 a k426 ++ (SW c5 bo bv426 zs426 ++ ([(qn427, .inl (c5 3, (y3_426.toNatClampNeg), .inl gx0_434))] : va_W))) → va_S (lwA s) s.heap H locs → R_L_law_L434 k426 y3_426 n434 gx0_434 x17_434 = some v9 → (∀ (H : Heap) (locs : List Loc) (ls : Array Slot), lv_has ls 24 [(17, .int v9.2), (16, .ref qn427), (15, .int y15_426), (14, .int y14_426), (13, .int y13_426), (12, .int y12_426), (11, .int y11_426), (10, .int y10_426), (9, .int y9_426), (8, .int y8_426), (6, .long y6_426), (5, .int y5_426), (4, .int y4_426), (3, .int y3_426), (1, .ref (aO a 0)), (2, .ref (bo 0)), (0, .ref b)] → va_P D vwCl (KW c5 a k426 ++ (SW c5 bo bv426 zs426 ++ ([(qn427, .inl (c5 3, (y3_426.toNatClampNeg), .inl v9.1))] : va_W))) H → va_D (lwA s) (KW c5 a k426 ++ (SW c5 bo bv426 zs426 ++ ([(qn427, .inl (c5 3, (y3_426.toNatClampNeg), .inl v9.1))] : va_W))) → va_S (lwA s) s.heap H locs → W p l e room_1 s m #[Value.ref b] below meth c H locs (cells426 + 1) (slots426 + y3_426.toNatClampNeg) (lw_Z below #[Value.ref b] s) (F0 m 459 ls [])) → W p l e room_1 s m #[Value.ref b] below meth c H locs (cells426 + 1) (slots426 + y3_426.toNatClampNeg) (lw_Z below #[Value.ref b] s) (F0 m 434 ls []) := by
    intro n434
    induction n434 with
    | zero =>
      intro H locs gx0_434 x17_434 v9 ls hl hP hD hS h kx
      exact absurd h (by simp [R_L_law_L434])
    | succ n434 ih434 =>
      intro H locs gx0_434 x17_434 v9 ls hl hP hD hS h kx
      rw [R_L_law_L434] at h
      refine lv_iload hx hb dL_law_434 (lv_at hl 0 rfl) ?_
      refine lv_iload_n hx hb dL_law_436 rfl (lv_at hl 13 rfl) ?_
      refine lv_icmp_ge (tgt := 459) hx hb dL_law_437 (by decide) (fun q => ?_) (fun q => ?_)
      · have h := o_t h q
        obtain rfl := Option.some.inj h
        exact kx H locs ls (lv_sub hl [0, 1, 2, 3, 4, 5, 6, 7, 8, 9, 10, 11, 12, 13, 14, 15, 16] rfl) hP hD hS
      · have h := o_f h q
        refine lv_aload hx hb dL_law_440 (lv_at hl 1 rfl) ?_
        refine lv_iload hx hb dL_law_442 (lv_at hl 0 rfl) ?_
        refine lv_aload_n hx hb dL_law_444 rfl (lv_at hl 14 rfl) ?_
        refine lv_iload hx hb dL_law_445 (lv_at hl 0 rfl) ?_
        refine lv_bipush (v := (7 : Int32)) hx hb dL_law_447 (by decide) ?_
        obtain ⟨v449, e449, h⟩ := yb_some h
        refine ro_calli (ro_runV (As := [.int x17_434, .int (7 : Int32)]) (rest := [.int x17_434, .ref qn427]) ⟨hx, hb, hml, hown, hts⟩ (fr_P (X := []) (Y := SW c5 bo bv426 zs426 ++ ([(qn427, .inl (c5 3, (y3_426.toNatClampNeg), .inl gx0_434))] : va_W)) hP) hK (c_X2_about l D c5 a k426 hI x17_434 (7 : Int32) v449 e449) gG_RL_106 (va_recv hK hP (ci := 2) (q0 := 0) rfl (ap_l (KW_0 c5 a k426))) hd_X2_about ⟨Nat.le_of_ble_eq_true rfl, Nat.le_of_ble_eq_true rfl⟩ ⟨rfl, rfl⟩ hl.1 (Nat.le_of_ble_eq_true rfl) dL_law_449 ⟨show cells426 + 1 ≤ 881861 by omega, show slots426 + y3_426.toNatClampNeg ≤ 6455599 by omega⟩ rfl) ?_
        obtain ⟨g452, h⟩ := o_if h
        obtain ⟨gx452, ez452, h⟩ := o_bind h
        refine va_iast hx hb hK hP hD hS ((KW c5 a k426).length + ((SW c5 bo bv426 zs426).length + 0)) 3 (ap_r (ap_r (Y := [(qn427, .inl (c5 3, (y3_426.toNatClampNeg), .inl gx0_434))]) rfl)) rfl (inb_in g452) dL_law_452 (fun H locs hP hD hS => ?_)
        have hP := wP (ap_sr (ap_sr rfl)) hP
        have hD := wD (ap_sr (ap_sr rfl)) hD
        have hP := wP (congrArg (fun y9 => KW c5 a k426 ++ (SW c5 bo bv426 zs426 ++ ([(qn427, .inl (c5 3, (y3_426.toNatClampNeg), .inl y9))] : va_W))) (Option.some.inj ez452)) hP
        have hD := wD (congrArg (fun y9 => KW c5 a k426 ++ (SW c5 bo bv426 zs426 ++ ([(qn427, .inl (c5 3, (y3_426.toNatClampNeg), .inl y9))] : va_W))) (Option.some.inj ez452)) hD
        refine lv_iinc (v := (x17_434 + (1 : Int32))) (lv' := [(17, .int (x17_434 + (1 : Int32))), (16, .ref qn427), (15, .int y15_426), (14, .int y14_426), (13, .int y13_426), (12, .int y12_426), (11, .int y11_426), (10, .int y10_426), (9, .int y9_426), (8, .int y8_426), (6, .long y6_426), (5, .int y5_426), (4, .int y4_426), (3, .int y3_426), (1, .ref (aO a 0)), (2, .ref (bo 0)), (0, .ref b)]) hx hb dL_law_453 hl (k := 0) rfl rfl (by decide) rfl (fun ls hl => ?_)
        refine lv_goto (tgt := 434) hx hb dL_law_456 (by decide) ?_
        exact ih434 H locs gx452 (x17_434 + (1 : Int32)) v9 ls (lv_sub hl [0, 1, 2, 3, 4, 5, 6, 7, 8, 9, 10, 11, 12, 13, 14, 15, 16] rfl) hP hD hS h kx
  refine L434 FU H locs (fun _ => (0 : Int32)) (0 : Int32) v434 ls (lv_sub hl [0, 1, 2, 3, 4, 5, 6, 7, 8, 9, 10, 11, 12, 13, 14, 15, 16] rfl) hP hD hS e434 (fun H locs ls hl hP hD hS => ?_)
  refine lv_aload_n hx hb dL_law_459 rfl (lv_at hl 14 rfl) ?_
  refine lv_iload hx hb dL_law_460 (lv_at hl 9 rfl) ?_
  refine lv_bipush (v := (6 : Int32)) hx hb dL_law_462 (by decide) ?_
  obtain ⟨v464, e464, h⟩ := yb_some h
  refine ro_calli (ro_runV (As := [.int y8_426, .int (6 : Int32)]) (rest := []) ⟨hx, hb, hml, hown, hts⟩ (fr_P (X := []) (Y := SW c5 bo bv426 zs426 ++ ([(qn427, .inl (c5 3, (y3_426.toNatClampNeg), .inl v434.1))] : va_W)) hP) hK (c_X2_about l D c5 a k426 hI y8_426 (6 : Int32) v464 e464) gG_RL_106 (va_recv hK hP (ci := 2) (q0 := 0) rfl (ap_l (KW_0 c5 a k426))) hd_X2_about ⟨Nat.le_of_ble_eq_true rfl, Nat.le_of_ble_eq_true rfl⟩ ⟨rfl, rfl⟩ hl.1 (Nat.le_of_ble_eq_true rfl) dL_law_464 ⟨show cells426 + 1 ≤ 881861 by omega, show slots426 + y3_426.toNatClampNeg ≤ 6455599 by omega⟩ rfl) ?_
  refine lv_istore (i := 17) (lv' := [(17, .int v464), (16, .ref qn427), (15, .int y15_426), (14, .int y14_426), (13, .int y13_426), (12, .int y12_426), (11, .int y11_426), (10, .int y10_426), (9, .int y9_426), (8, .int y8_426), (6, .long y6_426), (5, .int y5_426), (4, .int y4_426), (3, .int y3_426), (1, .ref (aO a 0)), (2, .ref (bo 0)), (0, .ref b)]) hx hb dL_law_467 hl (by decide) rfl (fun ls hl => ?_)
  refine lv_aload_n hx hb dL_law_469 rfl (lv_at hl 14 rfl) ?_
  refine lv_iload hx hb dL_law_470 (lv_at hl 9 rfl) ?_
  obtain ⟨v472, e472, h⟩ := yb_some h
  refine ro_calli (ro_runV (As := [.int y8_426]) (rest := []) ⟨hx, hb, hml, hown, hts⟩ (fr_P (X := []) (Y := SW c5 bo bv426 zs426 ++ ([(qn427, .inl (c5 3, (y3_426.toNatClampNeg), .inl v434.1))] : va_W)) hP) hK (c_X2_gains l D c5 a k426 hI y8_426 v472 e472) gG_RL_112 (va_recv hK hP (ci := 2) (q0 := 0) rfl (ap_l (KW_0 c5 a k426))) hd_X2_gains ⟨Nat.le_of_ble_eq_true rfl, Nat.le_of_ble_eq_true rfl⟩ ⟨rfl, rfl⟩ hl.1 (Nat.le_of_ble_eq_true rfl) dL_law_472 ⟨show cells426 + 1 ≤ 881861 by omega, show slots426 + y3_426.toNatClampNeg ≤ 6455599 by omega⟩ rfl) ?_
  refine lv_istore (i := 18) (lv' := [(18, .int v472), (17, .int v464), (16, .ref qn427), (15, .int y15_426), (14, .int y14_426), (13, .int y13_426), (12, .int y12_426), (11, .int y11_426), (10, .int y10_426), (9, .int y9_426), (8, .int y8_426), (6, .long y6_426), (5, .int y5_426), (4, .int y4_426), (3, .int y3_426), (1, .ref (aO a 0)), (2, .ref (bo 0)), (0, .ref b)]) hx hb dL_law_475 hl (by decide) rfl (fun ls hl => ?_)
  refine lv_aload_n hx hb dL_law_477 rfl (lv_at hl 15 rfl) ?_
  refine lv_bipush (v := (8 : Int32)) hx hb dL_law_478 (by decide) ?_
  obtain ⟨v480, e480, h⟩ := yb_some h
  refine ro_calli (ro_runV (As := [.int (8 : Int32)]) (rest := []) ⟨hx, hb, hml, hown, hts⟩ (fr_P (X := []) (Y := SW c5 bo bv426 zs426 ++ ([(qn427, .inl (c5 3, (y3_426.toNatClampNeg), .inl v434.1))] : va_W)) hP) hK (c_X2_count l D c5 a k426 hI (8 : Int32) v480 e480) gG_RL_86 (va_recv hK hP (ci := 2) (q0 := 0) rfl (ap_l (KW_0 c5 a k426))) hd_X2_count ⟨Nat.le_of_ble_eq_true rfl, Nat.le_of_ble_eq_true rfl⟩ ⟨rfl, rfl⟩ hl.1 (Nat.le_of_ble_eq_true rfl) dL_law_480 ⟨show cells426 + 1 ≤ 881861 by omega, show slots426 + y3_426.toNatClampNeg ≤ 6455599 by omega⟩ rfl) ?_
  refine lv_istore (i := 19) (lv' := [(19, .int v480), (18, .int v472), (17, .int v464), (16, .ref qn427), (15, .int y15_426), (14, .int y14_426), (13, .int y13_426), (12, .int y12_426), (11, .int y11_426), (10, .int y10_426), (9, .int y9_426), (8, .int y8_426), (6, .long y6_426), (5, .int y5_426), (4, .int y4_426), (3, .int y3_426), (1, .ref (aO a 0)), (2, .ref (bo 0)), (0, .ref b)]) hx hb dL_law_483 hl (by decide) rfl (fun ls hl => ?_)
  refine lv_iload hx hb dL_law_485 (lv_at hl 1 rfl) ?_
  refine lv_if_lt (tgt := 503) hx hb dL_law_487 (by decide) (fun q => ?_) (fun q => ?_)
  · have h := o_t h q
    refine lv_iconst (v := (0 : Int32)) hx hb dL_law_503 (by decide) ?_
    cases h
  · have h := o_f h q
    refine lv_aload_n hx hb dL_law_490 rfl (lv_at hl 16 rfl) ?_
    refine lv_aload_n hx hb dL_law_491 rfl (lv_at hl 16 rfl) ?_
    obtain ⟨v492, e492, h⟩ := o_bind h
    refine ro_calli (ro_runV (As := []) (rest := [.ref (aO a 0)]) ⟨hx, hb, hml, hown, hts⟩ (fr_P (X := []) (Y := SW c5 bo bv426 zs426 ++ ([(qn427, .inl (c5 3, (y3_426.toNatClampNeg), .inl v434.1))] : va_W)) hP) hK (c_X2_advise l D c5 a k426 hI  v492 e492) gG_RL_115 (va_recv hK hP (ci := 2) (q0 := 0) rfl (ap_l (KW_0 c5 a k426))) hd_X2_advise ⟨Nat.le_of_ble_eq_true rfl, Nat.le_of_ble_eq_true rfl⟩ ⟨rfl, rfl⟩ hl.1 (Nat.le_of_ble_eq_true rfl) dL_law_492 ⟨show cells426 + 1 ≤ 881861 by omega, show slots426 + y3_426.toNatClampNeg ≤ 6455599 by omega⟩ rfl) ?_
    obtain ⟨v495, e495, h⟩ := yb_some h
    refine ro_calli (ro_runV (As := [.int v492]) (rest := []) ⟨hx, hb, hml, hown, hts⟩ (fr_P (X := []) (Y := SW c5 bo bv426 zs426 ++ ([(qn427, .inl (c5 3, (y3_426.toNatClampNeg), .inl v434.1))] : va_W)) hP) hK (c_X2_gains l D c5 a k426 hI v492 v495 e495) gG_RL_112 (va_recv hK hP (ci := 2) (q0 := 0) rfl (ap_l (KW_0 c5 a k426))) hd_X2_gains ⟨Nat.le_of_ble_eq_true rfl, Nat.le_of_ble_eq_true rfl⟩ ⟨rfl, rfl⟩ hl.1 (Nat.le_of_ble_eq_true rfl) dL_law_495 ⟨show cells426 + 1 ≤ 881861 by omega, show slots426 + y3_426.toNatClampNeg ≤ 6455599 by omega⟩ rfl) ?_
    refine lv_iload hx hb dL_law_498 (lv_at hl 1 rfl) ?_
    refine lv_icmp_ge (tgt := 505) hx hb dL_law_500 (by decide) (fun q => ?_) (fun q => ?_)
    · have h := o_t h q
      exact law_C505 l hflags hx hb hr hml hown hts hlocks hXs hbl hK hOI hOZ hX r k426 zs426 v480 v472 v464 y15_426 y14_426 y13_426 y12_426 y11_426 y10_426 y9_426 y8_426 y6_426 y5_426 y4_426 y3_426 (y3_426.toNatClampNeg) v434.1 _ bv426 n29 (cells426 + 1) (slots426 + y3_426.toNatClampNeg) (by omega) (by omega) ih29 hl hP hD hS h
    · have h := o_f h q
      refine lv_iconst (v := (0 : Int32)) hx hb dL_law_503 (by decide) ?_
      cases h
set_option maxHeartbeats 8000000 in
set_option maxRecDepth 100000 in
theorem law_C220 {p : Program} {e : Env} {s : State} {m : MethodId} {below : List Frame} {meth : Method} {c : Code} (l : Launch) (hflags : l.flags = flags0) {D : va_G} {c5 : Nat → ClassId} {sx : Nat → Nat} {a : KAd} {bo : Nat → Nat} {b L : Nat} {xs : Nat → Int32} (hx : p.tables.exec = Jvm.exec) (hb : c.code = cL_law) (hr : meth.sig.returnType = ret) (hml : c.maxLocals = 24) (hown : s.vm.findClass RL = some m.cls) (hts : ∀ w ∈ LA, w.before #[Value.ref b] s = true) (hlocks : meth.locks = false) (hXs : va_X b L xs s s.heap) (hbl : b < s.heap.size) (hK : va_K D vwCl (tyG c5) s) (hOI : va_AOA .int s) (hOZ : va_AOA .boolean s) (hX : exL (lwA s) sx s) (r : Unit) (k220 : KSt) (zs220 : SSt) (y15_220 : Int32) (y14_220 : Int32) (y13_220 : Int32) (y12_220 : Int32) (y11_220 : Int32) (y10_220 : Int32) (y9_220 : Int32) (y8_220 : Int32) (y6_220 : Int64) (y5_220 : Int32) (y4_220 : Int32) (y3_220 : Int32) (K : KSt → SSt → Int32 → Option Unit) (bv220 : BV) (n29 cells220 slots220 : Nat) (hc220 : cells220 + 52 + n29 * 160 ≤ 4000 + 2720) (hn220 : slots220 + 240 + n29 * 420 ≤ 40000 + 7140) (ih29 : ∀ (cells29 slots29 : Nat) (bv29 : BV) (H : Heap) (locs : List Loc) (k29 : KSt) (zs29 : SSt) (x4_29 : Int32) (ls : Array Slot), lv_has ls 24 [(4, .int x4_29), (3, .int y3_220), (1, .ref (aO a 0)), (2, .ref (bo 0)), (0, .ref b)] → va_P D vwCl (KW c5 a k29 ++ (SW c5 bo bv29 zs29 ++ ([] : va_W))) H → va_D (lwA s) (KW c5 a k29 ++ (SW c5 bo bv29 zs29 ++ ([] : va_W))) → va_S (lwA s) s.heap H locs → cells29 + n29 * 160 ≤ 4000 + 2720 → slots29 + n29 * 420 ≤ 40000 + 7140 → K k29 zs29 x4_29 = some r → W p l e room_1 s m #[Value.ref b] below meth c H locs (cells29) (slots29) (lw_Z below #[Value.ref b] s) (F0 m 29 ls [])) {H : Heap} {locs : List Loc} {ls : Array Slot} (hl : lv_has ls 24 [(15, .int y15_220), (14, .int y14_220), (13, .int y13_220), (12, .int y12_220), (11, .int y11_220), (10, .int y10_220), (9, .int y9_220), (8, .int y8_220), (6, .long y6_220), (5, .int y5_220), (4, .int y4_220), (3, .int y3_220), (1, .ref (aO a 0)), (2, .ref (bo 0)), (0, .ref b)]) (hP : va_P D vwCl (KW c5 a k220 ++ (SW c5 bo bv220 zs220 ++ ([] : va_W))) H) (hD : va_D (lwA s) (KW c5 a k220 ++ (SW c5 bo bv220 zs220 ++ ([] : va_W)))) (hS : va_S (lwA s) s.heap H locs) (h : R_L_law_C220 k220 zs220 y15_220 y14_220 y13_220 y12_220 y11_220 y10_220 y9_220 y8_220 y6_220 y5_220 y4_220 y3_220 K = some r) : W p l e room_1 s m #[Value.ref b] below meth c H locs (cells220) (slots220) (lw_Z below #[Value.ref b] s) (F0 m 220 ls []) := by
  have hA : ∀ q : Nat, s.heap.size ≤ q → lwA s q := fun _ h => h
  have hbA : ¬ lwA s b := Nat.not_le.mpr hbl
  have hI : KI a := KI_of (fr_D (X := []) (Y := SW c5 bo bv220 zs220 ++ ([] : va_W)) hD)
  unfold R_L_law_C220 at h
  refine lv_iload hx hb dL_law_220 (lv_at hl 6 rfl) ?_
  obtain ⟨v222, e222, h⟩ := o_bind h
  have tn222 : ∀ (bv222 : BV) (H : Heap) (locs : List Loc) (ls : Array Slot), lv_has ls 24 [(15, .int y15_220), (14, .int y14_220), (13, .int y13_220), (12, .int y12_220), (11, .int y11_220), (10, .int y10_220), (9, .int y9_220), (8, .int y8_220), (6, .long y6_220), (5, .int y5_220), (4, .int y4_220), (3, .int y3_220), (1, .ref (aO a 0)), (2, .ref (bo 0)), (0, .ref b)] → va_P D vwCl (KW c5 a v222.1 ++ (SW c5 bo bv222 v222.2 ++ ([] : va_W))) H → va_D (lwA s) (KW c5 a v222.1 ++ (SW c5 bo bv222 v222.2 ++ ([] : va_W))) → va_S (lwA s) s.heap H locs → W p l e room_1 s m #[Value.ref b] below meth c H locs (cells220 + 2) (slots220 + 27) (lw_Z below #[Value.ref b] s) (F0 m 426 ls []) := by
    intro bv222 H locs ls hl hP hD hS
    exact law_C426 l hflags hx hb hr hml hown hts hlocks hXs hbl hK hOI hOZ hX r v222.1 v222.2 y15_220 y14_220 y13_220 y12_220 y11_220 y10_220 y9_220 y8_220 y6_220 y5_220 y4_220 y3_220 _ bv222 n29 (cells220 + 2) (slots220 + 27) (by omega) (by omega) ih29 hl hP hD hS h
  have h := e222
  refine lv_if_lt (tgt := 426) hx hb dL_law_222 (by decide) (fun q => ?_) (fun q => ?_)
  · have h := o_t h q
    obtain rfl := Option.some.inj h
    refine W.widen (k := cells220 + 2) (n := slots220 + 27) (by omega) (by omega) ?_
    exact tn222 bv220 H locs ls (lv_sub hl [0, 1, 2, 3, 4, 5, 6, 7, 8, 9, 10, 11, 12, 13, 14] rfl) hP hD hS
  · have h := o_f h q
    refine lv_aload_n hx hb dL_law_225 rfl (lv_at hl 12 rfl) ?_
    refine lv_iload hx hb dL_law_226 (lv_at hl 7 rfl) ?_
    obtain ⟨v228, e228, h⟩ := yb_some h
    refine fr_calli (wc := KW c5 a k220) (X := []) (Y := SW c5 bo bv220 zs220 ++ ([] : va_W)) (rw_runV (As := [.int y8_220]) (rest := []) ⟨hx, hb, hml, hown, hts⟩ (fr_P (X := []) (Y := SW c5 bo bv220 zs220 ++ ([] : va_W)) hP) hK (fr_D (X := []) (Y := SW c5 bo bv220 zs220 ++ ([] : va_W)) hD) (c_X2_put l D c5 a k220 hI H.size y8_220 v228 e228) gG_RL_64 (va_recv hK hP (ci := 2) (q0 := 0) rfl (ap_l (KW_0 c5 a k220))) hd_X2_put ⟨Nat.le_of_ble_eq_true rfl, Nat.le_of_ble_eq_true rfl⟩ ⟨rfl, rfl⟩ hl.1 (Nat.le_of_ble_eq_true rfl) dL_law_228 ⟨show cells220 ≤ 881861 by omega, show slots220 ≤ 6455599 by omega⟩ rfl) hP hD hS hA (fun x228 u228 H locs hpost hP hD hS => ?_)
    obtain ⟨ex228, eu228⟩ := hpost
    subst ex228
    subst eu228
    have hP : va_P D vwCl (KW c5 a v228.2 ++ (SW c5 bo bv220 zs220 ++ ([] : va_W))) H := hP
    have hD : va_D (lwA s) (KW c5 a v228.2 ++ (SW c5 bo bv220 zs220 ++ ([] : va_W))) := hD
    refine lv_iload hx hb dL_law_231 (lv_at hl 6 rfl) ?_
    refine lv_icmp_ne (tgt := 335) hx hb dL_law_233 (by decide) (fun q => ?_) (fun q => ?_)
    · have h := o_t' h q
      refine lv_iconst (v := (0 : Int32)) hx hb dL_law_335 (by decide) ?_
      cases h
    · have h := o_f' h q
      refine lv_aload_n hx hb dL_law_236 rfl (lv_at hl 13 rfl) ?_
      refine lv_iload hx hb dL_law_237 (lv_at hl 7 rfl) ?_
      obtain ⟨v239, e239, h⟩ := o_bind h
      refine fr_calli (wc := SW c5 bo bv220 zs220) (X := KW c5 a v228.2) (Y := []) (sw_runV (As := [.int y8_220]) (rest := []) ⟨hx, hb, hml, hown, hts⟩ (fr_P (X := KW c5 a v228.2) (Y := []) hP) hK (fr_D (X := KW c5 a v228.2) (Y := []) hD) hOI hOZ (c_X3_puts l D c5 bo bv220 zs220 H.size y8_220 v239 e239) gG_RL_61 (va_recv hK hP (ci := 3) (q0 := ((KW c5 a v228.2).length + 0)) rfl (ap_r (ap_l (SW_0 c5 bo bv220 zs220)))) hd_X3_puts ⟨Nat.le_of_ble_eq_true rfl, Nat.le_of_ble_eq_true rfl⟩ ⟨rfl, rfl⟩ hl.1 (Nat.le_of_ble_eq_true rfl) dL_law_239 ⟨show cells220 + 0 + 2 ≤ 881861 by omega, show slots220 + 0 + 27 ≤ 6455599 by omega⟩ rfl) hP hD hS hA (fun x239 u239 H locs hpost hP hD hS => ?_)
      obtain ⟨bv239, z239⟩ := u239
      obtain ⟨rfl, rfl⟩ := hpost
      refine lv_iload hx hb dL_law_242 (lv_at hl 6 rfl) ?_
      refine lv_icmp_ne (tgt := 335) hx hb dL_law_244 (by decide) (fun q => ?_) (fun q => ?_)
      · have h := o_t' h q
        refine lv_iconst (v := (0 : Int32)) hx hb dL_law_335 (by decide) ?_
        cases h
      · have h := o_f' h q
        refine lv_aload_n hx hb dL_law_247 rfl (lv_at hl 12 rfl) ?_
        refine lv_iload hx hb dL_law_248 (lv_at hl 6 rfl) ?_
        refine lv_iconst (v := (0 : Int32)) hx hb dL_law_250 (by decide) ?_
        obtain ⟨v251, e251, h⟩ := yb_some h
        refine ro_calli (ro_runV (As := [.int y9_220, .int (0 : Int32)]) (rest := []) ⟨hx, hb, hml, hown, hts⟩ (fr_P (X := []) (Y := SW c5 bo bv239 v239.2 ++ ([] : va_W)) hP) hK (c_X2_place l D c5 a v228.2 hI y9_220 (0 : Int32) v251 e251) gG_RL_109 (va_recv hK hP (ci := 2) (q0 := 0) rfl (ap_l (KW_0 c5 a v228.2))) hd_X2_place ⟨Nat.le_of_ble_eq_true rfl, Nat.le_of_ble_eq_true rfl⟩ ⟨rfl, rfl⟩ hl.1 (Nat.le_of_ble_eq_true rfl) dL_law_251 ⟨show cells220 + 0 + 2 ≤ 881861 by omega, show slots220 + 0 + 27 ≤ 6455599 by omega⟩ rfl) ?_
        refine lv_iload hx hb dL_law_254 (lv_at hl 7 rfl) ?_
        refine lv_icmp_ne (tgt := 335) hx hb dL_law_256 (by decide) (fun q => ?_) (fun q => ?_)
        · have h := o_t' h q
          refine lv_iconst (v := (0 : Int32)) hx hb dL_law_335 (by decide) ?_
          cases h
        · have h := o_f' h q
          refine lv_aload_n hx hb dL_law_259 rfl (lv_at hl 12 rfl) ?_
          refine lv_iload hx hb dL_law_260 (lv_at hl 6 rfl) ?_
          refine lv_iconst (v := (2 : Int32)) hx hb dL_law_262 (by decide) ?_
          obtain ⟨v263, e263, h⟩ := yb_some h
          refine ro_calli (ro_runV (As := [.int y9_220, .int (2 : Int32)]) (rest := []) ⟨hx, hb, hml, hown, hts⟩ (fr_P (X := []) (Y := SW c5 bo bv239 v239.2 ++ ([] : va_W)) hP) hK (c_X2_place l D c5 a v228.2 hI y9_220 (2 : Int32) v263 e263) gG_RL_109 (va_recv hK hP (ci := 2) (q0 := 0) rfl (ap_l (KW_0 c5 a v228.2))) hd_X2_place ⟨Nat.le_of_ble_eq_true rfl, Nat.le_of_ble_eq_true rfl⟩ ⟨rfl, rfl⟩ hl.1 (Nat.le_of_ble_eq_true rfl) dL_law_263 ⟨show cells220 + 0 + 2 ≤ 881861 by omega, show slots220 + 0 + 27 ≤ 6455599 by omega⟩ rfl) ?_
          refine lv_iconst (v := (1 : Int32)) hx hb dL_law_266 (by decide) ?_
          refine lv_icmp_ne (tgt := 335) hx hb dL_law_267 (by decide) (fun q => ?_) (fun q => ?_)
          · have h := o_t' h q
            refine lv_iconst (v := (0 : Int32)) hx hb dL_law_335 (by decide) ?_
            cases h
          · have h := o_f' h q
            refine lv_aload_n hx hb dL_law_270 rfl (lv_at hl 12 rfl) ?_
            refine lv_iload hx hb dL_law_271 (lv_at hl 6 rfl) ?_
            refine lv_iconst (v := (3 : Int32)) hx hb dL_law_273 (by decide) ?_
            obtain ⟨v274, e274, h⟩ := yb_some h
            refine ro_calli (ro_runV (As := [.int y9_220, .int (3 : Int32)]) (rest := []) ⟨hx, hb, hml, hown, hts⟩ (fr_P (X := []) (Y := SW c5 bo bv239 v239.2 ++ ([] : va_W)) hP) hK (c_X2_place l D c5 a v228.2 hI y9_220 (3 : Int32) v274 e274) gG_RL_109 (va_recv hK hP (ci := 2) (q0 := 0) rfl (ap_l (KW_0 c5 a v228.2))) hd_X2_place ⟨Nat.le_of_ble_eq_true rfl, Nat.le_of_ble_eq_true rfl⟩ ⟨rfl, rfl⟩ hl.1 (Nat.le_of_ble_eq_true rfl) dL_law_274 ⟨show cells220 + 0 + 2 ≤ 881861 by omega, show slots220 + 0 + 27 ≤ 6455599 by omega⟩ rfl) ?_
            refine lv_iload hx hb dL_law_277 (lv_at hl 6 rfl) ?_
            refine lv_icmp_ne (tgt := 335) hx hb dL_law_279 (by decide) (fun q => ?_) (fun q => ?_)
            · have h := o_t' h q
              refine lv_iconst (v := (0 : Int32)) hx hb dL_law_335 (by decide) ?_
              cases h
            · have h := o_f' h q
              refine lv_aload_n hx hb dL_law_282 rfl (lv_at hl 12 rfl) ?_
              refine lv_iload hx hb dL_law_283 (lv_at hl 7 rfl) ?_
              refine lv_bipush (v := (7 : Int32)) hx hb dL_law_285 (by decide) ?_
              obtain ⟨v287, e287, h⟩ := yb_some h
              refine ro_calli (ro_runV (As := [.int y8_220, .int (7 : Int32)]) (rest := []) ⟨hx, hb, hml, hown, hts⟩ (fr_P (X := []) (Y := SW c5 bo bv239 v239.2 ++ ([] : va_W)) hP) hK (c_X2_about l D c5 a v228.2 hI y8_220 (7 : Int32) v287 e287) gG_RL_106 (va_recv hK hP (ci := 2) (q0 := 0) rfl (ap_l (KW_0 c5 a v228.2))) hd_X2_about ⟨Nat.le_of_ble_eq_true rfl, Nat.le_of_ble_eq_true rfl⟩ ⟨rfl, rfl⟩ hl.1 (Nat.le_of_ble_eq_true rfl) dL_law_287 ⟨show cells220 + 0 + 2 ≤ 881861 by omega, show slots220 + 0 + 27 ≤ 6455599 by omega⟩ rfl) ?_
              refine lv_iload hx hb dL_law_290 (lv_at hl 3 rfl) ?_
              refine lv_iconst (v := (1 : Int32)) hx hb dL_law_292 (by decide) ?_
              refine lv_iadd hx hb dL_law_293 ?_
              refine lv_icmp_ne (tgt := 335) hx hb dL_law_294 (by decide) (fun q => ?_) (fun q => ?_)
              · have h := o_t' h q
                refine lv_iconst (v := (0 : Int32)) hx hb dL_law_335 (by decide) ?_
                cases h
              · have h := o_f' h q
                refine lv_aload_n hx hb dL_law_297 rfl (lv_at hl 12 rfl) ?_
                refine lv_iconst (v := (3 : Int32)) hx hb dL_law_298 (by decide) ?_
                obtain ⟨v299, e299, h⟩ := yb_some h
                refine ro_calli (ro_runV (As := [.int (3 : Int32)]) (rest := []) ⟨hx, hb, hml, hown, hts⟩ (fr_P (X := []) (Y := SW c5 bo bv239 v239.2 ++ ([] : va_W)) hP) hK (c_X2_count l D c5 a v228.2 hI (3 : Int32) v299 e299) gG_RL_86 (va_recv hK hP (ci := 2) (q0 := 0) rfl (ap_l (KW_0 c5 a v228.2))) hd_X2_count ⟨Nat.le_of_ble_eq_true rfl, Nat.le_of_ble_eq_true rfl⟩ ⟨rfl, rfl⟩ hl.1 (Nat.le_of_ble_eq_true rfl) dL_law_299 ⟨show cells220 + 0 + 2 ≤ 881861 by omega, show slots220 + 0 + 27 ≤ 6455599 by omega⟩ rfl) ?_
                refine lv_iload hx hb dL_law_302 (lv_at hl 2 rfl) ?_
                refine lv_iconst (v := (1 : Int32)) hx hb dL_law_304 (by decide) ?_
                refine lv_iadd hx hb dL_law_305 ?_
                refine lv_icmp_ne (tgt := 335) hx hb dL_law_306 (by decide) (fun q => ?_) (fun q => ?_)
                · have h := o_t' h q
                  refine lv_iconst (v := (0 : Int32)) hx hb dL_law_335 (by decide) ?_
                  cases h
                · have h := o_f' h q
                  refine lv_aload_n hx hb dL_law_309 rfl (lv_at hl 12 rfl) ?_
                  refine lv_iconst (v := (2 : Int32)) hx hb dL_law_310 (by decide) ?_
                  obtain ⟨v311, e311, h⟩ := yb_some h
                  refine ro_calli (ro_runV (As := [.int (2 : Int32)]) (rest := []) ⟨hx, hb, hml, hown, hts⟩ (fr_P (X := []) (Y := SW c5 bo bv239 v239.2 ++ ([] : va_W)) hP) hK (c_X2_count l D c5 a v228.2 hI (2 : Int32) v311 e311) gG_RL_86 (va_recv hK hP (ci := 2) (q0 := 0) rfl (ap_l (KW_0 c5 a v228.2))) hd_X2_count ⟨Nat.le_of_ble_eq_true rfl, Nat.le_of_ble_eq_true rfl⟩ ⟨rfl, rfl⟩ hl.1 (Nat.le_of_ble_eq_true rfl) dL_law_311 ⟨show cells220 + 0 + 2 ≤ 881861 by omega, show slots220 + 0 + 27 ≤ 6455599 by omega⟩ rfl) ?_
                  refine lv_iload hx hb dL_law_314 (lv_at hl 1 rfl) ?_
                  refine lv_iload hx hb dL_law_316 (lv_at hl 4 rfl) ?_
                  refine lv_isub hx hb dL_law_318 ?_
                  refine lv_icmp_ne (tgt := 335) hx hb dL_law_319 (by decide) (fun q => ?_) (fun q => ?_)
                  · have h := o_t' h q
                    refine lv_iconst (v := (0 : Int32)) hx hb dL_law_335 (by decide) ?_
                    cases h
                  · have h := o_f' h q
                    refine lv_aload_n hx hb dL_law_322 rfl (lv_at hl 12 rfl) ?_
                    refine lv_iload hx hb dL_law_323 (lv_at hl 7 rfl) ?_
                    obtain ⟨v325, e325, h⟩ := yb_some h
                    refine ro_calli (ro_runV (As := [.int y8_220]) (rest := []) ⟨hx, hb, hml, hown, hts⟩ (fr_P (X := []) (Y := SW c5 bo bv239 v239.2 ++ ([] : va_W)) hP) hK (c_X2_fits l D c5 a v228.2 hI y8_220 v325 e325) gG_RL_100 (va_recv hK hP (ci := 2) (q0 := 0) rfl (ap_l (KW_0 c5 a v228.2))) hd_X2_fits ⟨Nat.le_of_ble_eq_true rfl, Nat.le_of_ble_eq_true rfl⟩ ⟨rfl, rfl⟩ hl.1 (Nat.le_of_ble_eq_true rfl) dL_law_325 ⟨show cells220 + 0 + 2 ≤ 881861 by omega, show slots220 + 0 + 27 ≤ 6455599 by omega⟩ rfl) ?_
                    refine lv_iload hx hb dL_law_328 (lv_at hl 5 rfl) ?_
                    refine lv_iconst (v := (1 : Int32)) hx hb dL_law_330 (by decide) ?_
                    refine lv_isub hx hb dL_law_331 ?_
                    refine lv_icmp_eq (tgt := 337) hx hb dL_law_332 (by decide) (fun q => ?_) (fun q => ?_)
                    · have h := o_t h q
                      refine lv_iload hx hb dL_law_337 (lv_at hl 9 rfl) ?_
                      refine lv_bipush (v := (6 : Int32)) hx hb dL_law_339 (by decide) ?_
                      refine lv_ishr hx hb dL_law_341 ?_
                      refine lv_iconst (v := (2 : Int32)) hx hb dL_law_342 (by decide) ?_
                      obtain ⟨g343, h⟩ := o_if h
                      refine ro_calli (ro_runS (As := [.int (y5_220 >>> ((6 : Int32) &&& 31)), .int (2 : Int32)]) (rest := []) ⟨hx, hb, hml, hown, hts⟩ hP hK (c_L_below l D (tyG c5) (KW c5 a v228.2 ++ (SW c5 bo bv239 v239.2 ++ ([] : va_W))) (y5_220 >>> ((6 : Int32) &&& 31)) (2 : Int32) g343) gG_RL_15 hd_L_below ⟨Nat.le_of_ble_eq_true rfl, Nat.le_of_ble_eq_true rfl⟩ ⟨rfl, rfl⟩ hl.1 (Nat.le_of_ble_eq_true rfl) dL_law_343 ⟨show cells220 + 0 + 2 ≤ 881861 by omega, show slots220 + 0 + 27 ≤ 6455599 by omega⟩ rfl) ?_
                      refine lv_if_ne (tgt := 426) hx hb dL_law_346 (by decide) (fun q => ?_) (fun q => ?_)
                      · have h := o_t' h q
                        obtain rfl := Option.some.inj h
                        refine W.widen (k := cells220 + 2) (n := slots220 + 27) (by omega) (by omega) ?_
                        exact tn222 bv239 H locs ls (lv_sub hl [0, 1, 2, 3, 4, 5, 6, 7, 8, 9, 10, 11, 12, 13, 14] rfl) hP hD hS
                      · have h := o_f' h q
                        refine lv_aload_n hx hb dL_law_349 rfl (lv_at hl 12 rfl) ?_
                        refine lv_iload hx hb dL_law_350 (lv_at hl 6 rfl) ?_
                        obtain ⟨v352, e352, h⟩ := yb_some h
                        refine fr_calli (wc := KW c5 a v228.2) (X := []) (Y := SW c5 bo bv239 v239.2 ++ ([] : va_W)) (rw_runV (As := [.int y9_220]) (rest := []) ⟨hx, hb, hml, hown, hts⟩ (fr_P (X := []) (Y := SW c5 bo bv239 v239.2 ++ ([] : va_W)) hP) hK (fr_D (X := []) (Y := SW c5 bo bv239 v239.2 ++ ([] : va_W)) hD) (c_X2_take l D c5 a v228.2 hI H.size y9_220 v352 e352) gG_RL_56 (va_recv hK hP (ci := 2) (q0 := 0) rfl (ap_l (KW_0 c5 a v228.2))) hd_X2_take ⟨Nat.le_of_ble_eq_true rfl, Nat.le_of_ble_eq_true rfl⟩ ⟨rfl, rfl⟩ hl.1 (Nat.le_of_ble_eq_true rfl) dL_law_352 ⟨show cells220 + 0 + 2 ≤ 881861 by omega, show slots220 + 0 + 27 ≤ 6455599 by omega⟩ rfl) hP hD hS hA (fun x352 u352 H locs hpost hP hD hS => ?_)
                        obtain ⟨ex352, eu352⟩ := hpost
                        subst ex352
                        subst eu352
                        have hP : va_P D vwCl (KW c5 a v352.2 ++ (SW c5 bo bv239 v239.2 ++ ([] : va_W))) H := hP
                        have hD : va_D (lwA s) (KW c5 a v352.2 ++ (SW c5 bo bv239 v239.2 ++ ([] : va_W))) := hD
                        refine lv_istore (i := 16) (lv' := [(16, .int v352.1), (15, .int y15_220), (14, .int y14_220), (13, .int y13_220), (12, .int y12_220), (11, .int y11_220), (10, .int y10_220), (9, .int y9_220), (8, .int y8_220), (6, .long y6_220), (5, .int y5_220), (4, .int y4_220), (3, .int y3_220), (1, .ref (aO a 0)), (2, .ref (bo 0)), (0, .ref b)]) hx hb dL_law_355 hl (by decide) rfl (fun ls hl => ?_)
                        refine lv_aload_n hx hb dL_law_357 rfl (lv_at hl 14 rfl) ?_
                        refine lv_iload hx hb dL_law_358 (lv_at hl 7 rfl) ?_
                        obtain ⟨v360, e360, h⟩ := o_bind h
                        refine fr_calli (wc := SW c5 bo bv239 v239.2) (X := KW c5 a v352.2) (Y := []) (sw_runV (As := [.int y9_220]) (rest := []) ⟨hx, hb, hml, hown, hts⟩ (fr_P (X := KW c5 a v352.2) (Y := []) hP) hK (fr_D (X := KW c5 a v352.2) (Y := []) hD) hOI hOZ (c_X3_takes l D c5 bo bv239 v239.2 H.size y9_220 v360 e360) gG_RL_53 (va_recv hK hP (ci := 3) (q0 := ((KW c5 a v352.2).length + 0)) rfl (ap_r (ap_l (SW_0 c5 bo bv239 v239.2)))) hd_X3_takes ⟨Nat.le_of_ble_eq_true rfl, Nat.le_of_ble_eq_true rfl⟩ ⟨rfl, rfl⟩ hl.1 (Nat.le_of_ble_eq_true rfl) dL_law_360 ⟨show cells220 + 0 + 2 + 0 ≤ 881861 by omega, show slots220 + 0 + 27 + 0 ≤ 6455599 by omega⟩ rfl) hP hD hS hA (fun x360 u360 H locs hpost hP hD hS => ?_)
                        obtain ⟨bv360, z360⟩ := u360
                        obtain ⟨rfl, rfl⟩ := hpost
                        refine lv_iload hx hb dL_law_363 (lv_at hl 0 rfl) ?_
                        refine lv_icmp_ne (tgt := 424) hx hb dL_law_365 (by decide) (fun q => ?_) (fun q => ?_)
                        · have h := o_t' h q
                          refine lv_iconst (v := (0 : Int32)) hx hb dL_law_424 (by decide) ?_
                          cases h
                        · have h := o_f' h q
                          refine lv_aload_n hx hb dL_law_368 rfl (lv_at hl 13 rfl) ?_
                          refine lv_iload hx hb dL_law_369 (lv_at hl 7 rfl) ?_
                          refine lv_iconst (v := (2 : Int32)) hx hb dL_law_371 (by decide) ?_
                          obtain ⟨v372, e372, h⟩ := yb_some h
                          refine ro_calli (ro_runV (As := [.int y9_220, .int (2 : Int32)]) (rest := []) ⟨hx, hb, hml, hown, hts⟩ (fr_P (X := []) (Y := SW c5 bo bv360 v360.2 ++ ([] : va_W)) hP) hK (c_X2_place l D c5 a v352.2 hI y9_220 (2 : Int32) v372 e372) gG_RL_109 (va_recv hK hP (ci := 2) (q0 := 0) rfl (ap_l (KW_0 c5 a v352.2))) hd_X2_place ⟨Nat.le_of_ble_eq_true rfl, Nat.le_of_ble_eq_true rfl⟩ ⟨rfl, rfl⟩ hl.1 (Nat.le_of_ble_eq_true rfl) dL_law_372 ⟨show cells220 + 0 + 2 + 0 + 0 ≤ 881861 by omega, show slots220 + 0 + 27 + 0 + 0 ≤ 6455599 by omega⟩ rfl) ?_
                          refine lv_if_ne (tgt := 424) hx hb dL_law_375 (by decide) (fun q => ?_) (fun q => ?_)
                          · have h := o_t' h q
                            refine lv_iconst (v := (0 : Int32)) hx hb dL_law_424 (by decide) ?_
                            cases h
                          · have h := o_f' h q
                            refine lv_aload_n hx hb dL_law_378 rfl (lv_at hl 13 rfl) ?_
                            refine lv_iload hx hb dL_law_379 (lv_at hl 8 rfl) ?_
                            refine lv_bipush (v := (7 : Int32)) hx hb dL_law_381 (by decide) ?_
                            obtain ⟨v383, e383, h⟩ := yb_some h
                            refine ro_calli (ro_runV (As := [.int y8_220, .int (7 : Int32)]) (rest := []) ⟨hx, hb, hml, hown, hts⟩ (fr_P (X := []) (Y := SW c5 bo bv360 v360.2 ++ ([] : va_W)) hP) hK (c_X2_about l D c5 a v352.2 hI y8_220 (7 : Int32) v383 e383) gG_RL_106 (va_recv hK hP (ci := 2) (q0 := 0) rfl (ap_l (KW_0 c5 a v352.2))) hd_X2_about ⟨Nat.le_of_ble_eq_true rfl, Nat.le_of_ble_eq_true rfl⟩ ⟨rfl, rfl⟩ hl.1 (Nat.le_of_ble_eq_true rfl) dL_law_383 ⟨show cells220 + 0 + 2 + 0 + 0 ≤ 881861 by omega, show slots220 + 0 + 27 + 0 + 0 ≤ 6455599 by omega⟩ rfl) ?_
                            refine lv_iload hx hb dL_law_386 (lv_at hl 4 rfl) ?_
                            refine lv_icmp_ne (tgt := 424) hx hb dL_law_388 (by decide) (fun q => ?_) (fun q => ?_)
                            · have h := o_t' h q
                              refine lv_iconst (v := (0 : Int32)) hx hb dL_law_424 (by decide) ?_
                              cases h
                            · have h := o_f' h q
                              refine lv_aload_n hx hb dL_law_391 rfl (lv_at hl 13 rfl) ?_
                              refine lv_iconst (v := (3 : Int32)) hx hb dL_law_392 (by decide) ?_
                              obtain ⟨v393, e393, h⟩ := yb_some h
                              refine ro_calli (ro_runV (As := [.int (3 : Int32)]) (rest := []) ⟨hx, hb, hml, hown, hts⟩ (fr_P (X := []) (Y := SW c5 bo bv360 v360.2 ++ ([] : va_W)) hP) hK (c_X2_count l D c5 a v352.2 hI (3 : Int32) v393 e393) gG_RL_86 (va_recv hK hP (ci := 2) (q0 := 0) rfl (ap_l (KW_0 c5 a v352.2))) hd_X2_count ⟨Nat.le_of_ble_eq_true rfl, Nat.le_of_ble_eq_true rfl⟩ ⟨rfl, rfl⟩ hl.1 (Nat.le_of_ble_eq_true rfl) dL_law_393 ⟨show cells220 + 0 + 2 + 0 + 0 ≤ 881861 by omega, show slots220 + 0 + 27 + 0 + 0 ≤ 6455599 by omega⟩ rfl) ?_
                              refine lv_iload hx hb dL_law_396 (lv_at hl 3 rfl) ?_
                              refine lv_icmp_ne (tgt := 424) hx hb dL_law_398 (by decide) (fun q => ?_) (fun q => ?_)
                              · have h := o_t' h q
                                refine lv_iconst (v := (0 : Int32)) hx hb dL_law_424 (by decide) ?_
                                cases h
                              · have h := o_f' h q
                                refine lv_aload_n hx hb dL_law_401 rfl (lv_at hl 13 rfl) ?_
                                refine lv_iconst (v := (0 : Int32)) hx hb dL_law_402 (by decide) ?_
                                obtain ⟨v403, e403, h⟩ := yb_some h
                                refine ro_calli (ro_runV (As := [.int (0 : Int32)]) (rest := []) ⟨hx, hb, hml, hown, hts⟩ (fr_P (X := []) (Y := SW c5 bo bv360 v360.2 ++ ([] : va_W)) hP) hK (c_X2_count l D c5 a v352.2 hI (0 : Int32) v403 e403) gG_RL_86 (va_recv hK hP (ci := 2) (q0 := 0) rfl (ap_l (KW_0 c5 a v352.2))) hd_X2_count ⟨Nat.le_of_ble_eq_true rfl, Nat.le_of_ble_eq_true rfl⟩ ⟨rfl, rfl⟩ hl.1 (Nat.le_of_ble_eq_true rfl) dL_law_403 ⟨show cells220 + 0 + 2 + 0 + 0 ≤ 881861 by omega, show slots220 + 0 + 27 + 0 + 0 ≤ 6455599 by omega⟩ rfl) ?_
                                refine lv_iload hx hb dL_law_406 (lv_at hl 1 rfl) ?_
                                refine lv_iconst (v := (2 : Int32)) hx hb dL_law_408 (by decide) ?_
                                refine lv_iadd hx hb dL_law_409 ?_
                                refine lv_icmp_ne (tgt := 424) hx hb dL_law_410 (by decide) (fun q => ?_) (fun q => ?_)
                                · have h := o_t' h q
                                  refine lv_iconst (v := (0 : Int32)) hx hb dL_law_424 (by decide) ?_
                                  cases h
                                · have h := o_f' h q
                                  refine lv_aload_n hx hb dL_law_413 rfl (lv_at hl 13 rfl) ?_
                                  refine lv_iload hx hb dL_law_414 (lv_at hl 8 rfl) ?_
                                  obtain ⟨v416, e416, h⟩ := yb_some h
                                  refine ro_calli (ro_runV (As := [.int y8_220]) (rest := []) ⟨hx, hb, hml, hown, hts⟩ (fr_P (X := []) (Y := SW c5 bo bv360 v360.2 ++ ([] : va_W)) hP) hK (c_X2_fits l D c5 a v352.2 hI y8_220 v416 e416) gG_RL_100 (va_recv hK hP (ci := 2) (q0 := 0) rfl (ap_l (KW_0 c5 a v352.2))) hd_X2_fits ⟨Nat.le_of_ble_eq_true rfl, Nat.le_of_ble_eq_true rfl⟩ ⟨rfl, rfl⟩ hl.1 (Nat.le_of_ble_eq_true rfl) dL_law_416 ⟨show cells220 + 0 + 2 + 0 + 0 ≤ 881861 by omega, show slots220 + 0 + 27 + 0 + 0 ≤ 6455599 by omega⟩ rfl) ?_
                                  refine lv_iload hx hb dL_law_419 (lv_at hl 6 rfl) ?_
                                  refine lv_icmp_eq (tgt := 426) hx hb dL_law_421 (by decide) (fun q => ?_) (fun q => ?_)
                                  · have h := o_t h q
                                    obtain rfl := Option.some.inj h
                                    refine W.widen (k := cells220 + 2) (n := slots220 + 27) (by omega) (by omega) ?_
                                    exact tn222 bv360 H locs ls (lv_sub hl [1, 2, 3, 4, 5, 6, 7, 8, 9, 10, 11, 12, 13, 14, 15] rfl) hP hD hS
                                  · have h := o_f h q
                                    refine lv_iconst (v := (0 : Int32)) hx hb dL_law_424 (by decide) ?_
                                    cases h
                    · have h := o_f h q
                      refine lv_iconst (v := (0 : Int32)) hx hb dL_law_335 (by decide) ?_
                      cases h
set_option maxHeartbeats 8000000 in
set_option maxRecDepth 100000 in
theorem law_C90 {p : Program} {e : Env} {s : State} {m : MethodId} {below : List Frame} {meth : Method} {c : Code} (l : Launch) (hflags : l.flags = flags0) {D : va_G} {c5 : Nat → ClassId} {sx : Nat → Nat} {a : KAd} {bo : Nat → Nat} {b L : Nat} {xs : Nat → Int32} (hx : p.tables.exec = Jvm.exec) (hb : c.code = cL_law) (hr : meth.sig.returnType = ret) (hml : c.maxLocals = 24) (hown : s.vm.findClass RL = some m.cls) (hts : ∀ w ∈ LA, w.before #[Value.ref b] s = true) (hlocks : meth.locks = false) (hXs : va_X b L xs s s.heap) (hbl : b < s.heap.size) (hK : va_K D vwCl (tyG c5) s) (hOI : va_AOA .int s) (hOZ : va_AOA .boolean s) (hX : exL (lwA s) sx s) (r : Unit) (k90 : KSt) (zs90 : SSt) (y6_90 : Int32) (y5_90 : Int32) (y4_90 : Int32) (y3_90 : Int32) (K : KSt → SSt → Int32 → Option Unit) (bv90 : BV) (n29 cells90 slots90 : Nat) (hc90 : cells90 + 52 + n29 * 160 ≤ 4000 + 2720) (hn90 : slots90 + 240 + n29 * 420 ≤ 40000 + 7140) (ih29 : ∀ (cells29 slots29 : Nat) (bv29 : BV) (H : Heap) (locs : List Loc) (k29 : KSt) (zs29 : SSt) (x4_29 : Int32) (ls : Array Slot), lv_has ls 24 [(4, .int x4_29), (3, .int y3_90), (1, .ref (aO a 0)), (2, .ref (bo 0)), (0, .ref b)] → va_P D vwCl (KW c5 a k29 ++ (SW c5 bo bv29 zs29 ++ ([] : va_W))) H → va_D (lwA s) (KW c5 a k29 ++ (SW c5 bo bv29 zs29 ++ ([] : va_W))) → va_S (lwA s) s.heap H locs → cells29 + n29 * 160 ≤ 4000 + 2720 → slots29 + n29 * 420 ≤ 40000 + 7140 → K k29 zs29 x4_29 = some r → W p l e room_1 s m #[Value.ref b] below meth c H locs (cells29) (slots29) (lw_Z below #[Value.ref b] s) (F0 m 29 ls [])) {H : Heap} {locs : List Loc} {ls : Array Slot} (hl : lv_has ls 24 [(6, .int y6_90), (5, .int y5_90), (4, .int y4_90), (3, .int y3_90), (1, .ref (aO a 0)), (2, .ref (bo 0)), (0, .ref b)]) (hP : va_P D vwCl (KW c5 a k90 ++ (SW c5 bo bv90 zs90 ++ ([] : va_W))) H) (hD : va_D (lwA s) (KW c5 a k90 ++ (SW c5 bo bv90 zs90 ++ ([] : va_W)))) (hS : va_S (lwA s) s.heap H locs) (h : R_L_law_C90 k90 zs90 y6_90 y5_90 y4_90 y3_90 K = some r) : W p l e room_1 s m #[Value.ref b] below meth c H locs (cells90) (slots90) (lw_Z below #[Value.ref b] s) (F0 m 90 ls []) := by
  have hA : ∀ q : Nat, s.heap.size ≤ q → lwA s q := fun _ h => h
  have hbA : ¬ lwA s b := Nat.not_le.mpr hbl
  have hI : KI a := KI_of (fr_D (X := []) (Y := SW c5 bo bv90 zs90 ++ ([] : va_W)) hD)
  unfold R_L_law_C90 at h
  refine lv_aload_n hx hb dL_law_90 rfl (lv_at hl 4 rfl) ?_
  obtain ⟨v91, e91, h⟩ := o_bind h
  refine ro_calll (ro_runV (As := []) (rest := []) ⟨hx, hb, hml, hown, hts⟩ (fr_P (X := []) (Y := SW c5 bo bv90 zs90 ++ ([] : va_W)) hP) hK (c_X2_digest l D c5 a k90 hI  v91 e91) gG_RL_93 (va_recv hK hP (ci := 2) (q0 := 0) rfl (ap_l (KW_0 c5 a k90))) hd_X2_digest ⟨Nat.le_of_ble_eq_true rfl, Nat.le_of_ble_eq_true rfl⟩ ⟨rfl, rfl⟩ hl.1 (Nat.le_of_ble_eq_true rfl) dL_law_91 ⟨show cells90 ≤ 881861 by omega, show slots90 ≤ 6455599 by omega⟩ rfl) ?_
  refine lv_lstore (i := 6) (lv' := [(6, .long v91), (5, .int y5_90), (4, .int y4_90), (3, .int y3_90), (1, .ref (aO a 0)), (2, .ref (bo 0)), (0, .ref b)]) hx hb dL_law_94 hl (by decide) rfl (fun ls hl => ?_)
  refine lv_iload hx hb dL_law_96 (lv_at hl 1 rfl) ?_
  refine lv_iconst (v := (4 : Int32)) hx hb dL_law_98 (by decide) ?_
  refine lv_ishr hx hb dL_law_99 ?_
  refine lv_iload_n hx hb dL_law_100 rfl (lv_at hl 3 rfl) ?_
  obtain ⟨g101, h⟩ := o_if h
  refine ro_calli (ro_runS (As := [.int (y5_90 >>> ((4 : Int32) &&& 31)), .int y3_90]) (rest := []) ⟨hx, hb, hml, hown, hts⟩ hP hK (c_L_below l D (tyG c5) (KW c5 a k90 ++ (SW c5 bo bv90 zs90 ++ ([] : va_W))) (y5_90 >>> ((4 : Int32) &&& 31)) y3_90 g101) gG_RL_15 hd_L_below ⟨Nat.le_of_ble_eq_true rfl, Nat.le_of_ble_eq_true rfl⟩ ⟨rfl, rfl⟩ hl.1 (Nat.le_of_ble_eq_true rfl) dL_law_101 ⟨show cells90 ≤ 881861 by omega, show slots90 ≤ 6455599 by omega⟩ rfl) ?_
  refine lv_istore (i := 8) (lv' := [(8, .int (bl_ (y5_90 >>> ((4 : Int32) &&& 31)) y3_90)), (6, .long v91), (5, .int y5_90), (4, .int y4_90), (3, .int y3_90), (1, .ref (aO a 0)), (2, .ref (bo 0)), (0, .ref b)]) hx hb dL_law_104 hl (by decide) rfl (fun ls hl => ?_)
  refine lv_aload_n hx hb dL_law_106 rfl (lv_at hl 5 rfl) ?_
  refine lv_iload hx hb dL_law_107 (lv_at hl 0 rfl) ?_
  obtain ⟨v109, e109, h⟩ := yb_some h
  refine ro_calli (ro_runV (As := [.int (bl_ (y5_90 >>> ((4 : Int32) &&& 31)) y3_90)]) (rest := []) ⟨hx, hb, hml, hown, hts⟩ (fr_P (X := []) (Y := SW c5 bo bv90 zs90 ++ ([] : va_W)) hP) hK (c_X2_next l D c5 a k90 hI (bl_ (y5_90 >>> ((4 : Int32) &&& 31)) y3_90) v109 e109) gG_RL_97 (va_recv hK hP (ci := 2) (q0 := 0) rfl (ap_l (KW_0 c5 a k90))) hd_X2_next ⟨Nat.le_of_ble_eq_true rfl, Nat.le_of_ble_eq_true rfl⟩ ⟨rfl, rfl⟩ hl.1 (Nat.le_of_ble_eq_true rfl) dL_law_109 ⟨show cells90 ≤ 881861 by omega, show slots90 ≤ 6455599 by omega⟩ rfl) ?_
  refine lv_istore (i := 9) (lv' := [(9, .int v109), (8, .int (bl_ (y5_90 >>> ((4 : Int32) &&& 31)) y3_90)), (6, .long v91), (5, .int y5_90), (4, .int y4_90), (3, .int y3_90), (1, .ref (aO a 0)), (2, .ref (bo 0)), (0, .ref b)]) hx hb dL_law_112 hl (by decide) rfl (fun ls hl => ?_)
  refine lv_aload_n hx hb dL_law_114 rfl (lv_at hl 6 rfl) ?_
  refine lv_iload hx hb dL_law_115 (lv_at hl 1 rfl) ?_
  obtain ⟨v117, e117, h⟩ := yb_some h
  refine ro_calli (ro_runV (As := [.int (bl_ (y5_90 >>> ((4 : Int32) &&& 31)) y3_90)]) (rest := []) ⟨hx, hb, hml, hown, hts⟩ (fr_P (X := []) (Y := SW c5 bo bv90 zs90 ++ ([] : va_W)) hP) hK (c_X2_fits l D c5 a k90 hI (bl_ (y5_90 >>> ((4 : Int32) &&& 31)) y3_90) v117 e117) gG_RL_100 (va_recv hK hP (ci := 2) (q0 := 0) rfl (ap_l (KW_0 c5 a k90))) hd_X2_fits ⟨Nat.le_of_ble_eq_true rfl, Nat.le_of_ble_eq_true rfl⟩ ⟨rfl, rfl⟩ hl.1 (Nat.le_of_ble_eq_true rfl) dL_law_117 ⟨show cells90 ≤ 881861 by omega, show slots90 ≤ 6455599 by omega⟩ rfl) ?_
  refine lv_istore (i := 10) (lv' := [(10, .int v117), (9, .int v109), (8, .int (bl_ (y5_90 >>> ((4 : Int32) &&& 31)) y3_90)), (6, .long v91), (5, .int y5_90), (4, .int y4_90), (3, .int y3_90), (1, .ref (aO a 0)), (2, .ref (bo 0)), (0, .ref b)]) hx hb dL_law_120 hl (by decide) rfl (fun ls hl => ?_)
  refine lv_aload_n hx hb dL_law_122 rfl (lv_at hl 7 rfl) ?_
  refine lv_iload hx hb dL_law_123 (lv_at hl 2 rfl) ?_
  refine lv_iconst (v := (1 : Int32)) hx hb dL_law_125 (by decide) ?_
  obtain ⟨v126, e126, h⟩ := yb_some h
  refine ro_calli (ro_runV (As := [.int (bl_ (y5_90 >>> ((4 : Int32) &&& 31)) y3_90), .int (1 : Int32)]) (rest := []) ⟨hx, hb, hml, hown, hts⟩ (fr_P (X := []) (Y := SW c5 bo bv90 zs90 ++ ([] : va_W)) hP) hK (c_X2_would l D c5 a k90 hI (bl_ (y5_90 >>> ((4 : Int32) &&& 31)) y3_90) (1 : Int32) v126 e126) gG_RL_103 (va_recv hK hP (ci := 2) (q0 := 0) rfl (ap_l (KW_0 c5 a k90))) hd_X2_would ⟨Nat.le_of_ble_eq_true rfl, Nat.le_of_ble_eq_true rfl⟩ ⟨rfl, rfl⟩ hl.1 (Nat.le_of_ble_eq_true rfl) dL_law_126 ⟨show cells90 ≤ 881861 by omega, show slots90 ≤ 6455599 by omega⟩ rfl) ?_
  refine lv_istore (i := 11) (lv' := [(11, .int v126), (10, .int v117), (9, .int v109), (8, .int (bl_ (y5_90 >>> ((4 : Int32) &&& 31)) y3_90)), (6, .long v91), (5, .int y5_90), (4, .int y4_90), (3, .int y3_90), (1, .ref (aO a 0)), (2, .ref (bo 0)), (0, .ref b)]) hx hb dL_law_129 hl (by decide) rfl (fun ls hl => ?_)
  refine lv_aload_n hx hb dL_law_131 rfl (lv_at hl 8 rfl) ?_
  refine lv_iload hx hb dL_law_132 (lv_at hl 3 rfl) ?_
  refine lv_bipush (v := (7 : Int32)) hx hb dL_law_134 (by decide) ?_
  obtain ⟨v136, e136, h⟩ := yb_some h
  refine ro_calli (ro_runV (As := [.int (bl_ (y5_90 >>> ((4 : Int32) &&& 31)) y3_90), .int (7 : Int32)]) (rest := []) ⟨hx, hb, hml, hown, hts⟩ (fr_P (X := []) (Y := SW c5 bo bv90 zs90 ++ ([] : va_W)) hP) hK (c_X2_about l D c5 a k90 hI (bl_ (y5_90 >>> ((4 : Int32) &&& 31)) y3_90) (7 : Int32) v136 e136) gG_RL_106 (va_recv hK hP (ci := 2) (q0 := 0) rfl (ap_l (KW_0 c5 a k90))) hd_X2_about ⟨Nat.le_of_ble_eq_true rfl, Nat.le_of_ble_eq_true rfl⟩ ⟨rfl, rfl⟩ hl.1 (Nat.le_of_ble_eq_true rfl) dL_law_136 ⟨show cells90 ≤ 881861 by omega, show slots90 ≤ 6455599 by omega⟩ rfl) ?_
  refine lv_istore (i := 12) (lv' := [(12, .int v136), (11, .int v126), (10, .int v117), (9, .int v109), (8, .int (bl_ (y5_90 >>> ((4 : Int32) &&& 31)) y3_90)), (6, .long v91), (5, .int y5_90), (4, .int y4_90), (3, .int y3_90), (1, .ref (aO a 0)), (2, .ref (bo 0)), (0, .ref b)]) hx hb dL_law_139 hl (by decide) rfl (fun ls hl => ?_)
  refine lv_aload_n hx hb dL_law_141 rfl (lv_at hl 9 rfl) ?_
  refine lv_iconst (v := (3 : Int32)) hx hb dL_law_142 (by decide) ?_
  obtain ⟨v143, e143, h⟩ := yb_some h
  refine ro_calli (ro_runV (As := [.int (3 : Int32)]) (rest := []) ⟨hx, hb, hml, hown, hts⟩ (fr_P (X := []) (Y := SW c5 bo bv90 zs90 ++ ([] : va_W)) hP) hK (c_X2_count l D c5 a k90 hI (3 : Int32) v143 e143) gG_RL_86 (va_recv hK hP (ci := 2) (q0 := 0) rfl (ap_l (KW_0 c5 a k90))) hd_X2_count ⟨Nat.le_of_ble_eq_true rfl, Nat.le_of_ble_eq_true rfl⟩ ⟨rfl, rfl⟩ hl.1 (Nat.le_of_ble_eq_true rfl) dL_law_143 ⟨show cells90 ≤ 881861 by omega, show slots90 ≤ 6455599 by omega⟩ rfl) ?_
  refine lv_istore (i := 13) (lv' := [(13, .int v143), (12, .int v136), (11, .int v126), (10, .int v117), (9, .int v109), (8, .int (bl_ (y5_90 >>> ((4 : Int32) &&& 31)) y3_90)), (6, .long v91), (5, .int y5_90), (4, .int y4_90), (3, .int y3_90), (1, .ref (aO a 0)), (2, .ref (bo 0)), (0, .ref b)]) hx hb dL_law_146 hl (by decide) rfl (fun ls hl => ?_)
  refine lv_aload_n hx hb dL_law_148 rfl (lv_at hl 10 rfl) ?_
  refine lv_iconst (v := (2 : Int32)) hx hb dL_law_149 (by decide) ?_
  obtain ⟨v150, e150, h⟩ := yb_some h
  refine ro_calli (ro_runV (As := [.int (2 : Int32)]) (rest := []) ⟨hx, hb, hml, hown, hts⟩ (fr_P (X := []) (Y := SW c5 bo bv90 zs90 ++ ([] : va_W)) hP) hK (c_X2_count l D c5 a k90 hI (2 : Int32) v150 e150) gG_RL_86 (va_recv hK hP (ci := 2) (q0 := 0) rfl (ap_l (KW_0 c5 a k90))) hd_X2_count ⟨Nat.le_of_ble_eq_true rfl, Nat.le_of_ble_eq_true rfl⟩ ⟨rfl, rfl⟩ hl.1 (Nat.le_of_ble_eq_true rfl) dL_law_150 ⟨show cells90 ≤ 881861 by omega, show slots90 ≤ 6455599 by omega⟩ rfl) ?_
  refine lv_istore (i := 14) (lv' := [(14, .int v150), (13, .int v143), (12, .int v136), (11, .int v126), (10, .int v117), (9, .int v109), (8, .int (bl_ (y5_90 >>> ((4 : Int32) &&& 31)) y3_90)), (6, .long v91), (5, .int y5_90), (4, .int y4_90), (3, .int y3_90), (1, .ref (aO a 0)), (2, .ref (bo 0)), (0, .ref b)]) hx hb dL_law_153 hl (by decide) rfl (fun ls hl => ?_)
  refine lv_aload_n hx hb dL_law_155 rfl (lv_at hl 11 rfl) ?_
  refine lv_iconst (v := (0 : Int32)) hx hb dL_law_156 (by decide) ?_
  obtain ⟨v157, e157, h⟩ := yb_some h
  refine ro_calli (ro_runV (As := [.int (0 : Int32)]) (rest := []) ⟨hx, hb, hml, hown, hts⟩ (fr_P (X := []) (Y := SW c5 bo bv90 zs90 ++ ([] : va_W)) hP) hK (c_X2_count l D c5 a k90 hI (0 : Int32) v157 e157) gG_RL_86 (va_recv hK hP (ci := 2) (q0 := 0) rfl (ap_l (KW_0 c5 a k90))) hd_X2_count ⟨Nat.le_of_ble_eq_true rfl, Nat.le_of_ble_eq_true rfl⟩ ⟨rfl, rfl⟩ hl.1 (Nat.le_of_ble_eq_true rfl) dL_law_157 ⟨show cells90 ≤ 881861 by omega, show slots90 ≤ 6455599 by omega⟩ rfl) ?_
  refine lv_istore (i := 15) (lv' := [(15, .int v157), (14, .int v150), (13, .int v143), (12, .int v136), (11, .int v126), (10, .int v117), (9, .int v109), (8, .int (bl_ (y5_90 >>> ((4 : Int32) &&& 31)) y3_90)), (6, .long v91), (5, .int y5_90), (4, .int y4_90), (3, .int y3_90), (1, .ref (aO a 0)), (2, .ref (bo 0)), (0, .ref b)]) hx hb dL_law_160 hl (by decide) rfl (fun ls hl => ?_)
  refine lv_iload hx hb dL_law_162 (lv_at hl 6 rfl) ?_
  obtain ⟨v164, e164, h⟩ := o_bind h
  have tn164 : ∀ (ls : Array Slot), lv_has ls 24 [(15, .int v157), (14, .int v150), (13, .int v143), (12, .int v136), (11, .int v126), (10, .int v117), (9, .int v109), (8, .int (bl_ (y5_90 >>> ((4 : Int32) &&& 31)) y3_90)), (6, .long v91), (5, .int y5_90), (4, .int y4_90), (3, .int y3_90), (1, .ref (aO a 0)), (2, .ref (bo 0)), (0, .ref b)] → W p l e room_1 s m #[Value.ref b] below meth c H locs (cells90) (slots90) (lw_Z below #[Value.ref b] s) (F0 m 172 ls [.int v164]) := by
    intro ls hl
    refine lv_iload hx hb dL_law_172 (lv_at hl 5 rfl) ?_
    obtain ⟨v174, e174, h⟩ := o_bind h
    have tn174 : ∀ (ls : Array Slot), lv_has ls 24 [(15, .int v157), (14, .int v150), (13, .int v143), (12, .int v136), (11, .int v126), (10, .int v117), (9, .int v109), (8, .int (bl_ (y5_90 >>> ((4 : Int32) &&& 31)) y3_90)), (6, .long v91), (5, .int y5_90), (4, .int y4_90), (3, .int y3_90), (1, .ref (aO a 0)), (2, .ref (bo 0)), (0, .ref b)] → W p l e room_1 s m #[Value.ref b] below meth c H locs (cells90) (slots90) (lw_Z below #[Value.ref b] s) (F0 m 182 ls [.int v174, .int v164]) := by
      intro ls hl
      refine lv_icmp_ne (tgt := 218) hx hb dL_law_182 (by decide) (fun q => ?_) (fun q => ?_)
      · have h := o_t' h q
        refine lv_iconst (v := (0 : Int32)) hx hb dL_law_218 (by decide) ?_
        cases h
      · have h := o_f' h q
        refine lv_iload hx hb dL_law_185 (lv_at hl 6 rfl) ?_
        obtain ⟨v187, e187, h⟩ := o_bind h
        have tn187 : ∀ (ls : Array Slot), lv_has ls 24 [(15, .int v157), (14, .int v150), (13, .int v143), (12, .int v136), (11, .int v126), (10, .int v117), (9, .int v109), (8, .int (bl_ (y5_90 >>> ((4 : Int32) &&& 31)) y3_90)), (6, .long v91), (5, .int y5_90), (4, .int y4_90), (3, .int y3_90), (1, .ref (aO a 0)), (2, .ref (bo 0)), (0, .ref b)] → W p l e room_1 s m #[Value.ref b] below meth c H locs (cells90) (slots90) (lw_Z below #[Value.ref b] s) (F0 m 195 ls [.int v187]) := by
          intro ls hl
          refine lv_iload hx hb dL_law_195 (lv_at hl 4 rfl) ?_
          obtain ⟨v197, e197, h⟩ := o_bind h
          have tn197 : ∀ (ls : Array Slot), lv_has ls 24 [(15, .int v157), (14, .int v150), (13, .int v143), (12, .int v136), (11, .int v126), (10, .int v117), (9, .int v109), (8, .int (bl_ (y5_90 >>> ((4 : Int32) &&& 31)) y3_90)), (6, .long v91), (5, .int y5_90), (4, .int y4_90), (3, .int y3_90), (1, .ref (aO a 0)), (2, .ref (bo 0)), (0, .ref b)] → W p l e room_1 s m #[Value.ref b] below meth c H locs (cells90) (slots90) (lw_Z below #[Value.ref b] s) (F0 m 205 ls [.int v197, .int v187]) := by
            intro ls hl
            refine lv_icmp_ne (tgt := 218) hx hb dL_law_205 (by decide) (fun q => ?_) (fun q => ?_)
            · have h := o_t' h q
              refine lv_iconst (v := (0 : Int32)) hx hb dL_law_218 (by decide) ?_
              cases h
            · have h := o_f' h q
              refine lv_aload_n hx hb dL_law_208 rfl (lv_at hl 12 rfl) ?_
              obtain ⟨v209, e209, h⟩ := o_bind h
              refine ro_calll (ro_runV (As := []) (rest := []) ⟨hx, hb, hml, hown, hts⟩ (fr_P (X := []) (Y := SW c5 bo bv90 zs90 ++ ([] : va_W)) hP) hK (c_X2_digest l D c5 a k90 hI  v209 e209) gG_RL_93 (va_recv hK hP (ci := 2) (q0 := 0) rfl (ap_l (KW_0 c5 a k90))) hd_X2_digest ⟨Nat.le_of_ble_eq_true rfl, Nat.le_of_ble_eq_true rfl⟩ ⟨rfl, rfl⟩ hl.1 (Nat.le_of_ble_eq_true rfl) dL_law_209 ⟨show cells90 ≤ 881861 by omega, show slots90 ≤ 6455599 by omega⟩ rfl) ?_
              refine lv_lload hx hb dL_law_212 (lv_at hl 8 rfl) ?_
              refine W.lcmp hx hb dL_law_214 ?_
              refine lv_if_eq (tgt := 220) hx hb dL_law_215 (by decide) (fun q => ?_) (fun q => ?_)
              · have h := o_t h q
                exact law_C220 l hflags hx hb hr hml hown hts hlocks hXs hbl hK hOI hOZ hX r k90 zs90 v157 v150 v143 v136 v126 v117 v109 (bl_ (y5_90 >>> ((4 : Int32) &&& 31)) y3_90) v91 y5_90 y4_90 y3_90 _ bv90 n29 (cells90) (slots90) (by omega) (by omega) ih29 hl hP hD hS h
              · have h := o_f h q
                refine lv_iconst (v := (0 : Int32)) hx hb dL_law_218 (by decide) ?_
                cases h
          have h := e197
          refine lv_if_ge (tgt := 204) hx hb dL_law_197 (by decide) (fun q => ?_) (fun q => ?_)
          · have h := o_t h q
            refine lv_iconst (v := (0 : Int32)) hx hb dL_law_204 (by decide) ?_
            obtain rfl := Option.some.inj h
            exact tn197 ls (lv_sub hl [0, 1, 2, 3, 4, 5, 6, 7, 8, 9, 10, 11, 12, 13, 14] rfl)
          · have h := o_f h q
            refine lv_iconst (v := (1 : Int32)) hx hb dL_law_200 (by decide) ?_
            refine lv_goto (tgt := 205) hx hb dL_law_201 (by decide) ?_
            obtain rfl := Option.some.inj h
            exact tn197 ls (lv_sub hl [0, 1, 2, 3, 4, 5, 6, 7, 8, 9, 10, 11, 12, 13, 14] rfl)
        have h := e187
        refine lv_if_ge (tgt := 194) hx hb dL_law_187 (by decide) (fun q => ?_) (fun q => ?_)
        · have h := o_t h q
          refine lv_iconst (v := (0 : Int32)) hx hb dL_law_194 (by decide) ?_
          obtain rfl := Option.some.inj h
          exact tn187 ls (lv_sub hl [0, 1, 2, 3, 4, 5, 6, 7, 8, 9, 10, 11, 12, 13, 14] rfl)
        · have h := o_f h q
          refine lv_iconst (v := (1 : Int32)) hx hb dL_law_190 (by decide) ?_
          refine lv_goto (tgt := 195) hx hb dL_law_191 (by decide) ?_
          obtain rfl := Option.some.inj h
          exact tn187 ls (lv_sub hl [0, 1, 2, 3, 4, 5, 6, 7, 8, 9, 10, 11, 12, 13, 14] rfl)
    have h := e174
    refine lv_if_ne (tgt := 181) hx hb dL_law_174 (by decide) (fun q => ?_) (fun q => ?_)
    · have h := o_t' h q
      refine lv_iconst (v := (0 : Int32)) hx hb dL_law_181 (by decide) ?_
      obtain rfl := Option.some.inj h
      exact tn174 ls (lv_sub hl [0, 1, 2, 3, 4, 5, 6, 7, 8, 9, 10, 11, 12, 13, 14] rfl)
    · have h := o_f' h q
      refine lv_iconst (v := (1 : Int32)) hx hb dL_law_177 (by decide) ?_
      refine lv_goto (tgt := 182) hx hb dL_law_178 (by decide) ?_
      obtain rfl := Option.some.inj h
      exact tn174 ls (lv_sub hl [0, 1, 2, 3, 4, 5, 6, 7, 8, 9, 10, 11, 12, 13, 14] rfl)
  have h := e164
  refine lv_if_ge (tgt := 171) hx hb dL_law_164 (by decide) (fun q => ?_) (fun q => ?_)
  · have h := o_t h q
    refine lv_iconst (v := (0 : Int32)) hx hb dL_law_171 (by decide) ?_
    obtain rfl := Option.some.inj h
    exact tn164 ls (lv_sub hl [0, 1, 2, 3, 4, 5, 6, 7, 8, 9, 10, 11, 12, 13, 14] rfl)
  · have h := o_f h q
    refine lv_iconst (v := (1 : Int32)) hx hb dL_law_167 (by decide) ?_
    refine lv_goto (tgt := 172) hx hb dL_law_168 (by decide) ?_
    obtain rfl := Option.some.inj h
    exact tn164 ls (lv_sub hl [0, 1, 2, 3, 4, 5, 6, 7, 8, 9, 10, 11, 12, 13, 14] rfl)
