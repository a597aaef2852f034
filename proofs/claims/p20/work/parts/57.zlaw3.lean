set_option maxHeartbeats 8000000 in
set_option maxRecDepth 100000 in
theorem law_walk {p : Program} {e : Env} {s : State} {m : MethodId} {below : List Frame} {meth : Method} {c : Code} (l : Launch) (hflags : l.flags = flags0) {D : va_G} {c5 : Nat → ClassId} {sx : Nat → Nat} {a : KAd} {k : KSt} {bo : Nat → Nat} {bv : BV} {zs : SSt} {b L : Nat} {xs : Nat → Int32} (hx : p.tables.exec = Jvm.exec) (hb : c.code = cL_law) (hr : meth.sig.returnType = ret) (hml : c.maxLocals = 24) (hown : s.vm.findClass RL = some m.cls) (hts : ∀ w ∈ LA, w.before #[Value.ref b] s = true) (hlocks : meth.locks = false) (hXs : va_X b L xs s s.heap) (hbl : b < s.heap.size) (hK : va_K D vwCl (tyG c5) s) (hOI : va_AOA .int s) (hOZ : va_AOA .boolean s) (hX : exL (lwA s) sx s) (r : Unit) (h : R_L_law L xs k zs = some r) {H : Heap} {locs : List Loc} {ls : Array Slot} (hl : lv_has ls 24 [(1, .ref (aO a 0)), (2, .ref (bo 0)), (0, .ref b)]) (hP : va_P D vwCl (KW c5 a k ++ (SW c5 bo bv zs ++ ([] : va_W))) H) (hD : va_D (lwA s) (KW c5 a k ++ (SW c5 bo bv zs ++ ([] : va_W)))) (hS : va_S (lwA s) s.heap H locs) : W p l e room_1 s m #[Value.ref b] below meth c H locs 4000 40000 (lw_Z below #[Value.ref b] s) (F0 m 20 ls []) := by
  have hA : ∀ q : Nat, s.heap.size ≤ q → lwA s q := fun _ h => h
  have hbA : ¬ lwA s b := Nat.not_le.mpr hbl
  have hI : KI a := KI_of (fr_D (X := []) (Y := SW c5 bo bv zs ++ ([] : va_W)) hD)
  unfold R_L_law at h
  refine lv_aload_n hx hb dL_law_20 rfl (lv_at hl 0 rfl) ?_
  refine lv_iconst (v := (1 : Int32)) hx hb dL_law_21 (by decide) ?_
  obtain ⟨v22, e22, h⟩ := yb_some h
  refine ro_calli (ro_runV (As := [.int (1 : Int32)]) (rest := []) ⟨hx, hb, hml, hown, hts⟩ (fr_P (X := []) (Y := SW c5 bo bv zs ++ ([] : va_W)) hP) hK (c_X2_count l D c5 a k hI (1 : Int32) v22 e22) gG_RL_86 (va_recv hK hP (ci := 2) (q0 := 0) rfl (ap_l (KW_0 c5 a k))) hd_X2_count ⟨Nat.le_of_ble_eq_true rfl, Nat.le_of_ble_eq_true rfl⟩ ⟨rfl, rfl⟩ hl.1 (Nat.le_of_ble_eq_true rfl) dL_law_22 ⟨show 4000 ≤ 881861 by omega, show 40000 ≤ 6455599 by omega⟩ rfl) ?_
  refine lv_istore_n (i := 3) (lv' := [(3, .int v22), (1, .ref (aO a 0)), (2, .ref (bo 0)), (0, .ref b)]) hx hb dL_law_25 rfl hl (by decide) rfl (fun ls hl => ?_)
  refine lv_iconst (v := (0 : Int32)) hx hb dL_law_26 (by decide) ?_
  refine lv_istore (i := 4) (lv' := [(4, .int (0 : Int32)), (3, .int v22), (1, .ref (aO a 0)), (2, .ref (bo 0)), (0, .ref b)]) hx hb dL_law_27 hl (by decide) rfl (fun ls hl => ?_)
  have L29 : ∀ (n29 : Nat) (cells29 slots29 : Nat) (bv29 : BV) (H : Heap) (locs : List Loc) (k29 : KSt) (zs29 : SSt) (x4_29 : Int32) (ls : Array Slot), lv_has ls 24 [(4, .int x4_29), (3, .int v22), (1, .ref (aO a 0)), (2, .ref (bo 0)), (0, .ref b)] → va_P D vwCl (KW c5 a k29 ++ (SW c5 bo bv29 zs29 ++ ([] : va_W))) H → va_D (lwA s) (KW c5 a k29 ++ (SW c5 bo bv29 zs29 ++ ([] : va_W))) → va_S (lwA s) s.heap H locs → cells29 + n29 * 160 ≤ 4000 + 2720 → slots29 + n29 * 420 ≤ 40000 + 7140 → R_L_law_L29 L xs v22 n29 k29 zs29 x4_29 = some r → W p l e room_1 s m #[Value.ref b] below meth c H locs (cells29) (slots29) (lw_Z below #[Value.ref b] s) (F0 m 29 ls []) := by
    intro n29
    induction n29 with
    | zero =>
      intro cells29 slots29 bv29 H locs k29 zs29 x4_29 ls hl hP hD hS hc29 hn29 h
      exact absurd h (by simp [R_L_law_L29])
    | succ n29 ih29 =>
      intro cells29 slots29 bv29 H locs k29 zs29 x4_29 ls hl hP hD hS hc29 hn29 h
      rw [R_L_law_L29] at h
      refine lv_iload hx hb dL_law_29 (lv_at hl 0 rfl) ?_
      refine lv_bipush (v := (16 : Int32)) hx hb dL_law_31 (by decide) ?_
      refine lv_icmp_ge (tgt := 752) hx hb dL_law_33 (by decide) (fun q => ?_) (fun q => ?_)
      · have h := o_t h q
        refine lv_iconst (v := (1 : Int32)) hx hb dL_law_752 (by decide) ?_
        refine va_forget hS.2.2 ?_
        refine W.widen (k := 881861) (n := 6455599) (by omega) (by omega) ?_
        refine W.base ?_
        exact lw_ret (Drawn.sameBut.refl s.drawn lw_cs) hx hb hr hlocks dL_law_753
      · have h := o_f h q
        refine lv_aload_n hx hb dL_law_36 rfl (lv_at hl 4 rfl) ?_
        refine lv_iload hx hb dL_law_37 (lv_at hl 0 rfl) ?_
        obtain ⟨v39, e39, h⟩ := o_bind h
        refine sc_cell (rest := []) ⟨hx, hb, hml, hown, hts⟩ hXs hbl hbA hS e39 gG_RL_70 hd_L_cell ⟨Nat.le_of_ble_eq_true rfl, Nat.le_of_ble_eq_true rfl⟩ hl.1 (Nat.le_of_ble_eq_true rfl) dL_law_39 ⟨show cells29 ≤ 881861 by omega, show slots29 ≤ 6455599 by omega⟩ rfl ?_
        refine lv_iconst (v := (2 : Int32)) hx hb dL_law_42 (by decide) ?_
        refine lv_ishr hx hb dL_law_43 ?_
        refine lv_bipush (v := (53 : Int32)) hx hb dL_law_44 (by decide) ?_
        refine lv_iload hx hb dL_law_46 (lv_at hl 0 rfl) ?_
        refine lv_imul hx hb dL_law_48 ?_
        refine lv_iadd hx hb dL_law_49 ?_
        refine lv_istore (i := 5) (lv' := [(5, .int ((v39 >>> ((2 : Int32) &&& 31)) + ((53 : Int32) * x4_29))), (4, .int x4_29), (3, .int v22), (1, .ref (aO a 0)), (2, .ref (bo 0)), (0, .ref b)]) hx hb dL_law_50 hl (by decide) rfl (fun ls hl => ?_)
        refine lv_iconst (v := (0 : Int32)) hx hb dL_law_52 (by decide) ?_
        refine lv_istore (i := 6) (lv' := [(6, .int (0 : Int32)), (5, .int ((v39 >>> ((2 : Int32) &&& 31)) + ((53 : Int32) * x4_29))), (4, .int x4_29), (3, .int v22), (1, .ref (aO a 0)), (2, .ref (bo 0)), (0, .ref b)]) hx hb dL_law_53 hl (by decide) rfl (fun ls hl => ?_)
        obtain ⟨v55, e55, h⟩ := o_bind h
        have L55 : ∀ (n55 : Nat) (cells55 slots55 : Nat) (bv55 : BV) (H : Heap) (locs : List Loc) (k55 : KSt) (zs55 : SSt) (x6_55 : Int32) (v9 : KSt × SSt × Int32) (ls : Array Slot), lv_has ls 24 [(6, .int x6_55), (5, .int ((v39 >>> ((2 : Int32) &&& 31)) + ((53 : Int32) * x4_29))), (4, .int x4_29), (3, .int v22), (1, .ref (aO a 0)), (2, .ref (bo 0)), (0, .ref b)] → va_P D vwCl (KW c5 a k55 ++ (SW c5 bo bv55 zs55 ++ ([] : va_W))) H → va_D (lwA s) (KW c5 a k55 ++ (SW c5 bo bv55 zs55 ++ ([] : va_W))) → va_S (lwA s) s.heap H locs → cells55 + n55 * 27 ≤ cells29 + 108 → slots55 + n55 * 45 ≤ slots29 + 180 → R_L_law_L55 x4_29 v39 n55 k55 zs55 x6_55 = some v9 → (∀ (bv55 : BV) (H : Heap) (locs : List Loc) (ls : Array Slot), lv_has ls 24 [(6, .int v9.2.2), (5, .int ((v39 >>> ((2 : Int32) &&& 31)) + ((53 : Int32) * x4_29))), (4, .int x4_29), (3, .int v22), (1, .ref (aO a 0)), (2, .ref (bo 0)), (0, .ref b)] → va_P D vwCl (KW c5 a v9.1 ++ (SW c5 bo bv55 v9.2.1 ++ ([] : va_W))) H → va_D (lwA s) (KW c5 a v9.1 ++ (SW c5 bo bv55 v9.2.1 ++ ([] : va_W))) → va_S (lwA s) s.heap H locs → W p l e room_1 s m #[Value.ref b] below meth c H locs (cells29 + 108) (slots29 + 180) (lw_Z below #[Value.ref b] s) (F0 m 90 ls [])) → W p l e room_1 s m #[Value.ref b] below meth c H locs (cells55) (slots55) (lw_Z below #[Value.ref b] s) (F0 m 55 ls []) := by
          intro n55
          induction n55 with
          | zero =>
            intro cells55 slots55 bv55 H locs k55 zs55 x6_55 v9 ls hl hP hD hS hc55 hn55 h kx
            exact absurd h (by simp [R_L_law_L55])
          | succ n55 ih55 =>
            intro cells55 slots55 bv55 H locs k55 zs55 x6_55 v9 ls hl hP hD hS hc55 hn55 h kx
            rw [R_L_law_L55] at h
            refine lv_iload hx hb dL_law_55 (lv_at hl 0 rfl) ?_
            refine lv_iconst (v := (3 : Int32)) hx hb dL_law_57 (by decide) ?_
            refine lv_icmp_ge (tgt := 90) hx hb dL_law_58 (by decide) (fun q => ?_) (fun q => ?_)
            · have h := o_t h q
              obtain rfl := Option.some.inj h
              refine W.widen (k := cells29 + 108) (n := slots29 + 180) (by omega) (by omega) ?_
              exact kx bv55 H locs ls (lv_sub hl [0, 1, 2, 3, 4, 5, 6] rfl) hP hD hS
            · have h := o_f h q
              refine lv_aload_n hx hb dL_law_61 rfl (lv_at hl 4 rfl) ?_
              refine lv_aload_n hx hb dL_law_62 rfl (lv_at hl 5 rfl) ?_
              refine lv_iload hx hb dL_law_63 (lv_at hl 1 rfl) ?_
              refine lv_iconst (v := (3 : Int32)) hx hb dL_law_65 (by decide) ?_
              refine lv_iload hx hb dL_law_66 (lv_at hl 0 rfl) ?_
              refine lv_imul hx hb dL_law_68 ?_
              refine lv_ishr hx hb dL_law_69 ?_
              refine lv_bipush (v := (29 : Int32)) hx hb dL_law_70 (by decide) ?_
              refine lv_iload hx hb dL_law_72 (lv_at hl 0 rfl) ?_
              refine lv_imul hx hb dL_law_74 ?_
              refine lv_iadd hx hb dL_law_75 ?_
              obtain ⟨v76, e76, h⟩ := o_bind h
              refine fr_calli (wc := KW c5 a k55 ++ SW c5 bo bv55 zs55) (X := []) (Y := []) (lw_runSW (As := [.ref (aO a 0), .ref (bo 0), .int ((((v39 >>> ((2 : Int32) &&& 31)) + ((53 : Int32) * x4_29)) >>> (((3 : Int32) * x6_55) &&& 31)) + ((29 : Int32) * x6_55))]) (rest := []) ⟨hx, hb, hml, hown, hts⟩ (fr_P (X := []) (Y := []) (ra_P hP)) hK (fr_D (X := []) (Y := []) (ra_D hD)) hOI hOZ hX hS hA (c_L_act l D c5 a k55 bo bv55 zs55 sx hflags H.size ((((v39 >>> ((2 : Int32) &&& 31)) + ((53 : Int32) * x4_29)) >>> (((3 : Int32) * x6_55) &&& 31)) + ((29 : Int32) * x6_55)) v76 e76) gG_RL_89 hd_L_act ⟨Nat.le_of_ble_eq_true rfl, Nat.le_of_ble_eq_true rfl⟩ ⟨rfl, rfl⟩ hl.1 (Nat.le_of_ble_eq_true rfl) dL_law_76 ⟨show cells55 + 27 ≤ 881861 by omega, show slots55 + 45 ≤ 6455599 by omega⟩ rfl) (ra_P hP) (ra_D hD) hS hA (fun x76 u76 H locs hpost hP hD hS => ?_)
              obtain ⟨k76, bv76, z76⟩ := u76
              obtain ⟨rfl, rfl, rfl⟩ := hpost
              have hP := rb_P (V := KW c5 a v76.1) (W := SW c5 bo bv76 v76.2) (X := []) hP
              have hD := rb_D (V := KW c5 a v76.1) (W := SW c5 bo bv76 v76.2) (X := []) hD
              refine lv_if_ne (tgt := 84) hx hb dL_law_79 (by decide) (fun q => ?_) (fun q => ?_)
              · have h := o_t' h q
                refine lv_iinc (v := (x6_55 + (1 : Int32))) (lv' := [(6, .int (x6_55 + (1 : Int32))), (5, .int ((v39 >>> ((2 : Int32) &&& 31)) + ((53 : Int32) * x4_29))), (4, .int x4_29), (3, .int v22), (1, .ref (aO a 0)), (2, .ref (bo 0)), (0, .ref b)]) hx hb dL_law_84 hl (k := 0) rfl rfl (by decide) rfl (fun ls hl => ?_)
                refine lv_goto (tgt := 55) hx hb dL_law_87 (by decide) ?_
                exact ih55 (cells55 + 27) (slots55 + 45) bv76 H locs v76.1 v76.2 (x6_55 + (1 : Int32)) v9 ls (lv_sub hl [0, 1, 2, 3, 4, 5, 6] rfl) hP hD hS (by omega) (by omega) h kx
              · have h := o_f' h q
                refine lv_iconst (v := (0 : Int32)) hx hb dL_law_82 (by decide) ?_
                cases h
        refine L55 4 (cells29) (slots29) bv29 H locs k29 zs29 (0 : Int32) v55 ls (lv_sub hl [0, 1, 2, 3, 4, 5, 6] rfl) hP hD hS (Nat.le_refl _) (Nat.le_refl _) e55 (fun bv55 H locs ls hl hP hD hS => ?_)
        exact law_C90 l hflags hx hb hr hml hown hts hlocks hXs hbl hK hOI hOZ hX r v55.1 v55.2.1 v55.2.2 ((v39 >>> ((2 : Int32) &&& 31)) + ((53 : Int32) * x4_29)) x4_29 v22 _ bv55 n29 (cells29 + 108) (slots29 + 180) (by omega) (by omega) ih29 hl hP hD hS h
  exact L29 17 (4000) (40000) bv H locs k zs (0 : Int32) ls (lv_sub hl [0, 1, 2, 3, 4] rfl) hP hD hS (Nat.le_refl _) (Nat.le_refl _) h
