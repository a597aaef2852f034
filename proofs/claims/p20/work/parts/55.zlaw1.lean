set_option maxHeartbeats 8000000 in
set_option maxRecDepth 100000 in
theorem law_C703 {p : Program} {e : Env} {s : State} {m : MethodId} {below : List Frame} {meth : Method} {c : Code} (l : Launch) (hflags : l.flags = flags0) {D : va_G} {c5 : Nat → ClassId} {sx : Nat → Nat} {a : KAd} {bo : Nat → Nat} {b L : Nat} {xs : Nat → Int32} (hx : p.tables.exec = Jvm.exec) (hb : c.code = cL_law) (hr : meth.sig.returnType = ret) (hml : c.maxLocals = 24) (hown : s.vm.findClass RL = some m.cls) (hts : ∀ w ∈ LA, w.before #[Value.ref b] s = true) (hlocks : meth.locks = false) (hXs : va_X b L xs s s.heap) (hbl : b < s.heap.size) (hK : va_K D vwCl (tyG c5) s) (hOI : va_AOA .int s) (hOZ : va_AOA .boolean s) (hX : exL (lwA s) sx s) (r : Unit) (k703 : KSt) (zs703 : SSt) (y22_703 : Int32) (y21_703 : Int32) (y14_703 : Int32) (y13_703 : Int32) (y20_703 : Int32) (y19_703 : Int32) (y18_703 : Int32) (y17_703 : Int32) (y15_703 : Int32) (y12_703 : Int32) (y11_703 : Int32) (y10_703 : Int32) (y9_703 : Int32) (y8_703 : Int32) (y6_703 : Int64) (y5_703 : Int32) (y4_703 : Int32) (y3_703 : Int32) (nx0_703 : Nat) (gx0_703 : Nat → Int32) (K : KSt → SSt → Int32 → Option Unit) (bv703 : BV) {qn427 : Nat} (n29 cells703 slots703 : Nat) (hc703 : cells703 + 23 + n29 * 160 ≤ 4000 + 2720) (hn703 : slots703 + 150 + n29 * 420 ≤ 40000 + 7140) (ih29 : ∀ (cells29 slots29 : Nat) (bv29 : BV) (H : Heap) (locs : List Loc) (k29 : KSt) (zs29 : SSt) (x4_29 : Int32) (ls : Array Slot), lv_has ls 24 [(4, .int x4_29), (3, .int y3_703), (1, .ref (aO a 0)), (2, .ref (bo 0)), (0, .ref b)] → va_P D vwCl (KW c5 a k29 ++ (SW c5 bo bv29 zs29 ++ ([] : va_W))) H → va_D (lwA s) (KW c5 a k29 ++ (SW c5 bo bv29 zs29 ++ ([] : va_W))) → va_S (lwA s) s.heap H locs → cells29 + n29 * 160 ≤ 4000 + 2720 → slots29 + n29 * 420 ≤ 40000 + 7140 → K k29 zs29 x4_29 = some r → W p l e room_1 s m #[Value.ref b] below meth c H locs (cells29) (slots29) (lw_Z below #[Value.ref b] s) (F0 m 29 ls [])) {H : Heap} {locs : List Loc} {ls : Array Slot} (hl : lv_has ls 24 [(22, .int y22_703), (21, .int y21_703), (14, .int y14_703), (13, .int y13_703), (20, .int y20_703), (19, .int y19_703), (18, .int y18_703), (17, .int y17_703), (16, .ref qn427), (15, .int y15_703), (12, .int y12_703), (11, .int y11_703), (10, .int y10_703), (9, .int y9_703), (8, .int y8_703), (6, .long y6_703), (5, .int y5_703), (4, .int y4_703), (3, .int y3_703), (1, .ref (aO a 0)), (2, .ref (bo 0)), (0, .ref b)]) (hP : va_P D vwCl (KW c5 a k703 ++ (SW c5 bo bv703 zs703 ++ ([(qn427, .inl (c5 3, nx0_703, .inl gx0_703))] : va_W))) H) (hD : va_D (lwA s) (KW c5 a k703 ++ (SW c5 bo bv703 zs703 ++ ([(qn427, .inl (c5 3, nx0_703, .inl gx0_703))] : va_W)))) (hS : va_S (lwA s) s.heap H locs) (h : R_L_law_C703 k703 zs703 y22_703 y21_703 y14_703 y13_703 y20_703 y19_703 y18_703 y17_703 y15_703 y12_703 y11_703 y10_703 y9_703 y8_703 y6_703 y5_703 y4_703 y3_703 nx0_703 gx0_703 K = some r) : W p l e room_1 s m #[Value.ref b] below meth c H locs (cells703) (slots703) (lw_Z below #[Value.ref b] s) (F0 m 703 ls []) := by
  have hA : ∀ q : Nat, s.heap.size ≤ q → lwA s q := fun _ h => h
  have hbA : ¬ lwA s b := Nat.not_le.mpr hbl
  have hI : KI a := KI_of (fr_D (X := []) (Y := SW c5 bo bv703 zs703 ++ ([(qn427, .inl (c5 3, nx0_703, .inl gx0_703))] : va_W)) hD)
  unfold R_L_law_C703 at h
  refine lv_iconst (v := (0 : Int32)) hx hb dL_law_703 (by decide) ?_
  refine lv_istore (i := 23) (lv' := [(23, .int (0 : Int32)), (22, .int y22_703), (21, .int y21_703), (14, .int y14_703), (13, .int y13_703), (20, .int y20_703), (19, .int y19_703), (18, .int y18_703), (17, .int y17_703), (16, .ref qn427), (15, .int y15_703), (12, .int y12_703), (11, .int y11_703), (10, .int y10_703), (9, .int y9_703), (8, .int y8_703), (6, .long y6_703), (5, .int y5_703), (4, .int y4_703), (3, .int y3_703), (1, .ref (aO a 0)), (2, .ref (bo 0)), (0, .ref b)]) hx hb dL_law_704 hl (by decide) rfl (fun ls hl => ?_)
  obtain ⟨v706, e706, h⟩ := o_bind h
  have L706 : ∀ (n706 : Nat) (x23_706 : Int32) (v9 : Int32) (ls : Array Slot), lv_has ls 24 [(23, .int x23_706), (22, .int y22_703), (21, .int y21_703), (14, .int y14_703), (13, .int y13_703), (20, .int y20_703), (19, .int y19_703), (18, .int y18_703), (17, .int y17_703), (16, .ref qn427), (15, .int y15_703), (12, .int y12_703), (11, .int y11_703), (10, .int y10_703), (9, .int y9_703), (8, .int y8_703), (6, .long y6_703), (5, .int y5_703), (4, .int y4_703), (3, .int y3_703), (1, .ref (aO a 0)), (2, .ref (bo 0)), (0, .ref b)] → R_L_law_L706 k703 y21_703 y3_703 n706 x23_706 = some v9 → (∀ (ls : Array Slot), lv_has ls 24 [(23, .int v9), (22, .int y22_703), (21, .int y21_703), (14, .int y14_703), (13, .int y13_703), (20, .int y20_703), (19, .int y19_703), (18, .int y18_703), (17, .int y17_703), (16, .ref qn427), (15, .int y15_703), (12, .int y12_703), (11, .int y11_703), (10, .int y10_703), (9, .int y9_703), (8, .int y8_703), (6, .long y6_703), (5, .int y5_703), (4, .int y4_703), (3, .int y3_703), (1, .ref (aO a 0)), (2, .ref (bo 0)), (0, .ref b)] → W p l e room_1 s m #[Value.ref b] below meth c H locs (cells703) (slots703) (lw_Z below #[Value.ref b] s) (F0 m 736 ls [])) → W p l e room_1 s m #[Value.ref b] below meth c H locs (cells703) (slots703) (lw_Z below #[Value.ref b] s) (F0 m 706 ls []) := by
    intro n706
    induction n706 with
    | zero =>
      intro x23_706 v9 ls hl h kx
      exact absurd h (by simp [R_L_law_L706])
    | succ n706 ih706 =>
      intro x23_706 v9 ls hl h kx
      rw [R_L_law_L706] at h
      refine lv_iload hx hb dL_law_706 (lv_at hl 0 rfl) ?_
      refine lv_iload_n hx hb dL_law_708 rfl (lv_at hl 19 rfl) ?_
      refine lv_icmp_ge (tgt := 736) hx hb dL_law_709 (by decide) (fun q => ?_) (fun q => ?_)
      · have h := o_t h q
        obtain rfl := Option.some.inj h
        exact kx ls (lv_sub hl [0, 1, 2, 3, 4, 5, 6, 7, 8, 9, 10, 11, 12, 13, 14, 15, 16, 17, 18, 19, 20, 21, 22] rfl)
      · have h := o_f h q
        refine lv_iload hx hb dL_law_712 (lv_at hl 2 rfl) ?_
        refine lv_if_ne (tgt := 736) hx hb dL_law_714 (by decide) (fun q => ?_) (fun q => ?_)
        · have h := o_t' h q
          obtain rfl := Option.some.inj h
          exact kx ls (lv_sub hl [0, 1, 2, 3, 4, 5, 6, 7, 8, 9, 10, 11, 12, 13, 14, 15, 16, 17, 18, 19, 20, 21, 22] rfl)
        · have h := o_f' h q
          refine lv_aload_n hx hb dL_law_717 rfl (lv_at hl 20 rfl) ?_
          refine lv_iload hx hb dL_law_718 (lv_at hl 0 rfl) ?_
          refine lv_bipush (v := (6 : Int32)) hx hb dL_law_720 (by decide) ?_
          obtain ⟨v722, e722, h⟩ := yb_some h
          refine ro_calli (ro_runV (As := [.int x23_706, .int (6 : Int32)]) (rest := []) ⟨hx, hb, hml, hown, hts⟩ (fr_P (X := []) (Y := SW c5 bo bv703 zs703 ++ ([(qn427, .inl (c5 3, nx0_703, .inl gx0_703))] : va_W)) hP) hK (c_X2_about l D c5 a k703 hI x23_706 (6 : Int32) v722 e722) gG_RL_106 (va_recv hK hP (ci := 2) (q0 := 0) rfl (ap_l (KW_0 c5 a k703))) hd_X2_about ⟨Nat.le_of_ble_eq_true rfl, Nat.le_of_ble_eq_true rfl⟩ ⟨rfl, rfl⟩ hl.1 (Nat.le_of_ble_eq_true rfl) dL_law_722 ⟨show cells703 ≤ 881861 by omega, show slots703 ≤ 6455599 by omega⟩ rfl) ?_
          refine lv_if_eq (tgt := 730) hx hb dL_law_725 (by decide) (fun q => ?_) (fun q => ?_)
          · have h := o_t h q
            refine lv_iinc (v := (x23_706 + (1 : Int32))) (lv' := [(23, .int (x23_706 + (1 : Int32))), (22, .int y22_703), (21, .int y21_703), (14, .int y14_703), (13, .int y13_703), (20, .int y20_703), (19, .int y19_703), (18, .int y18_703), (17, .int y17_703), (16, .ref qn427), (15, .int y15_703), (12, .int y12_703), (11, .int y11_703), (10, .int y10_703), (9, .int y9_703), (8, .int y8_703), (6, .long y6_703), (5, .int y5_703), (4, .int y4_703), (3, .int y3_703), (1, .ref (aO a 0)), (2, .ref (bo 0)), (0, .ref b)]) hx hb dL_law_730 hl (k := 0) rfl rfl (by decide) rfl (fun ls hl => ?_)
            refine lv_goto (tgt := 706) hx hb dL_law_733 (by decide) ?_
            exact ih706 (x23_706 + (1 : Int32)) v9 ls (lv_sub hl [0, 1, 2, 3, 4, 5, 6, 7, 8, 9, 10, 11, 12, 13, 14, 15, 16, 17, 18, 19, 20, 21, 22] rfl) h kx
          · have h := o_f h q
            refine lv_iconst (v := (0 : Int32)) hx hb dL_law_728 (by decide) ?_
            cases h
  refine L706 FU (0 : Int32) v706 ls (lv_sub hl [0, 1, 2, 3, 4, 5, 6, 7, 8, 9, 10, 11, 12, 13, 14, 15, 16, 17, 18, 19, 20, 21, 22] rfl) e706 (fun ls hl => ?_)
  refine lv_aload_n hx hb dL_law_736 rfl (lv_at hl 21 rfl) ?_
  refine lv_aload_n hx hb dL_law_737 rfl (lv_at hl 20 rfl) ?_
  obtain ⟨v738, e738, h⟩ := o_bind h
  refine fr_calli (wc := KW c5 a k703 ++ SW c5 bo bv703 zs703) (X := []) (Y := [(qn427, .inl (c5 3, nx0_703, .inl gx0_703))]) (sw_runV (As := [.ref (aO a 0)]) (rest := []) ⟨hx, hb, hml, hown, hts⟩ (fr_P (X := []) (Y := [(qn427, .inl (c5 3, nx0_703, .inl gx0_703))]) (ra_P hP)) hK (fr_D (X := []) (Y := [(qn427, .inl (c5 3, nx0_703, .inl gx0_703))]) (ra_D hD)) hOI hOZ (c_X3_isSame l D c5 a k703 bo bv703 zs703 H.size v738 e738) gG_RL_119 (va_recv hK hP (ci := 3) (q0 := ((KW c5 a k703).length + 0)) rfl (ap_r (ap_l (SW_0 c5 bo bv703 zs703)))) hd_X3_isSame ⟨Nat.le_of_ble_eq_true rfl, Nat.le_of_ble_eq_true rfl⟩ ⟨rfl, rfl⟩ hl.1 (Nat.le_of_ble_eq_true rfl) dL_law_738 ⟨show cells703 + 20 ≤ 881861 by omega, show slots703 + 142 ≤ 6455599 by omega⟩ rfl) (ra_P hP) (ra_D hD) hS hA (fun x738 u738 H locs hpost hP hD hS => ?_)
  obtain rfl := hpost
  have hP := rb_P (V := KW c5 a k703) (W := SW c5 bo bv703 zs703) (X := [(qn427, .inl (c5 3, nx0_703, .inl gx0_703))]) hP
  have hD := rb_D (V := KW c5 a k703) (W := SW c5 bo bv703 zs703) (X := [(qn427, .inl (c5 3, nx0_703, .inl gx0_703))]) hD
  refine lv_if_ne (tgt := 746) hx hb dL_law_741 (by decide) (fun q => ?_) (fun q => ?_)
  · have h := o_t' h q
    refine lv_iinc (v := (y4_703 + (1 : Int32))) (lv' := [(4, .int (y4_703 + (1 : Int32))), (23, .int v706), (22, .int y22_703), (21, .int y21_703), (14, .int y14_703), (13, .int y13_703), (20, .int y20_703), (19, .int y19_703), (18, .int y18_703), (17, .int y17_703), (16, .ref qn427), (15, .int y15_703), (12, .int y12_703), (11, .int y11_703), (10, .int y10_703), (9, .int y9_703), (8, .int y8_703), (6, .long y6_703), (5, .int y5_703), (3, .int y3_703), (1, .ref (aO a 0)), (2, .ref (bo 0)), (0, .ref b)]) hx hb dL_law_746 hl (k := 18) rfl rfl (by decide) rfl (fun ls hl => ?_)
    refine lv_goto (tgt := 29) hx hb dL_law_749 (by decide) ?_
    have hP := dr2_P (A1 := []) (B1 := [(qn427, .inl (c5 3, nx0_703, .inl gx0_703))]) hP
    have hD := dr2_D (A1 := []) (B1 := [(qn427, .inl (c5 3, nx0_703, .inl gx0_703))]) hD
    exact ih29 (cells703 + 20) (slots703 + 142) bv703 H locs k703 zs703 (y4_703 + (1 : Int32)) ls (lv_sub hl [0, 19, 20, 21, 22] rfl) hP hD hS (by omega) (by omega) h
  · have h := o_f' h q
    refine lv_iconst (v := (0 : Int32)) hx hb dL_law_744 (by decide) ?_
    cases h
set_option maxHeartbeats 8000000 in
set_option maxRecDepth 100000 in
theorem law_C618 {p : Program} {e : Env} {s : State} {m : MethodId} {below : List Frame} {meth : Method} {c : Code} (l : Launch) (hflags : l.flags = flags0) {D : va_G} {c5 : Nat → ClassId} {sx : Nat → Nat} {a : KAd} {bo : Nat → Nat} {b L : Nat} {xs : Nat → Int32} (hx : p.tables.exec = Jvm.exec) (hb : c.code = cL_law) (hr : meth.sig.returnType = ret) (hml : c.maxLocals = 24) (hown : s.vm.findClass RL = some m.cls) (hts : ∀ w ∈ LA, w.before #[Value.ref b] s = true) (hlocks : meth.locks = false) (hXs : va_X b L xs s s.heap) (hbl : b < s.heap.size) (hK : va_K D vwCl (tyG c5) s) (hOI : va_AOA .int s) (hOZ : va_AOA .boolean s) (hX : exL (lwA s) sx s) (r : Unit) (k618 : KSt) (zs618 : SSt) (y21_618 : Int32) (y20_618 : Int32) (y19_618 : Int32) (y18_618 : Int32) (y17_618 : Int32) (y15_618 : Int32) (y14_618 : Int32) (y13_618 : Int32) (y12_618 : Int32) (y11_618 : Int32) (y10_618 : Int32) (y9_618 : Int32) (y8_618 : Int32) (y6_618 : Int64) (y5_618 : Int32) (y4_618 : Int32) (y3_618 : Int32) (nx0_618 : Nat) (gx0_618 : Nat → Int32) (K : KSt → SSt → Int32 → Option Unit) (bv618 : BV) {qn427 : Nat} (n29 cells618 slots618 : Nat) (hc618 : cells618 + 49 + n29 * 160 ≤ 4000 + 2720) (hn618 : slots618 + 189 + n29 * 420 ≤ 40000 + 7140) (ih29 : ∀ (cells29 slots29 : Nat) (bv29 : BV) (H : Heap) (locs : List Loc) (k29 : KSt) (zs29 : SSt) (x4_29 : Int32) (ls : Array Slot), lv_has ls 24 [(4, .int x4_29), (3, .int y3_618), (1, .ref (aO a 0)), (2, .ref (bo 0)), (0, .ref b)] → va_P D vwCl (KW c5 a k29 ++ (SW c5 bo bv29 zs29 ++ ([] : va_W))) H → va_D (lwA s) (KW c5 a k29 ++ (SW c5 bo bv29 zs29 ++ ([] : va_W))) → va_S (lwA s) s.heap H locs → cells29 + n29 * 160 ≤ 4000 + 2720 → slots29 + n29 * 420 ≤ 40000 + 7140 → K k29 zs29 x4_29 = some r → W p l e room_1 s m #[Value.ref b] below meth c H locs (cells29) (slots29) (lw_Z below #[Value.ref b] s) (F0 m 29 ls [])) {H : Heap} {locs : List Loc} {ls : Array Slot} (hl : lv_has ls 24 [(21, .int y21_618), (20, .int y20_618), (19, .int y19_618), (18, .int y18_618), (17, .int y17_618), (16, .ref qn427), (15, .int y15_618), (14, .int y14_618), (13, .int y13_618), (12, .int y12_618), (11, .int y11_618), (10, .int y10_618), (9, .int y9_618), (8, .int y8_618), (6, .long y6_618), (5, .int y5_618), (4, .int y4_618), (3, .int y3_618), (1, .ref (aO a 0)), (2, .ref (bo 0)), (0, .ref b)]) (hP : va_P D vwCl (KW c5 a k618 ++ (SW c5 bo bv618 zs618 ++ ([(qn427, .inl (c5 3, nx0_618, .inl gx0_618))] : va_W))) H) (hD : va_D (lwA s) (KW c5 a k618 ++ (SW c5 bo bv618 zs618 ++ ([(qn427, .inl (c5 3, nx0_618, .inl gx0_618))] : va_W)))) (hS : va_S (lwA s) s.heap H locs) (h : R_L_law_C618 k618 zs618 y21_618 y20_618 y19_618 y18_618 y17_618 y15_618 y14_618 y13_618 y12_618 y11_618 y10_618 y9_618 y8_618 y6_618 y5_618 y4_618 y3_618 nx0_618 gx0_618 K = some r) : W p l e room_1 s m #[Value.ref b] below meth c H locs (cells618) (slots618) (lw_Z below #[Value.ref b] s) (F0 m 618 ls []) := by
  have hA : ∀ q : Nat, s.heap.size ≤ q → lwA s q := fun _ h => h
  have hbA : ¬ lwA s b := Nat.not_le.mpr hbl
  have hI : KI a := KI_of (fr_D (X := []) (Y := SW c5 bo bv618 zs618 ++ ([(qn427, .inl (c5 3, nx0_618, .inl gx0_618))] : va_W)) hD)
  unfold R_L_law_C618 at h
  refine lv_aload_n hx hb dL_law_618 rfl (lv_at hl 18 rfl) ?_
  refine lv_iconst (v := (3 : Int32)) hx hb dL_law_619 (by decide) ?_
  obtain ⟨v620, e620, h⟩ := yb_some h
  refine ro_calli (ro_runV (As := [.int (3 : Int32)]) (rest := []) ⟨hx, hb, hml, hown, hts⟩ (fr_P (X := []) (Y := SW c5 bo bv618 zs618 ++ ([(qn427, .inl (c5 3, nx0_618, .inl gx0_618))] : va_W)) hP) hK (c_X2_count l D c5 a k618 hI (3 : Int32) v620 e620) gG_RL_86 (va_recv hK hP (ci := 2) (q0 := 0) rfl (ap_l (KW_0 c5 a k618))) hd_X2_count ⟨Nat.le_of_ble_eq_true rfl, Nat.le_of_ble_eq_true rfl⟩ ⟨rfl, rfl⟩ hl.1 (Nat.le_of_ble_eq_true rfl) dL_law_620 ⟨show cells618 ≤ 881861 by omega, show slots618 ≤ 6455599 by omega⟩ rfl) ?_
  refine lv_istore (i := 13) (lv' := [(13, .int v620), (21, .int y21_618), (20, .int y20_618), (19, .int y19_618), (18, .int y18_618), (17, .int y17_618), (16, .ref qn427), (15, .int y15_618), (14, .int y14_618), (12, .int y12_618), (11, .int y11_618), (10, .int y10_618), (9, .int y9_618), (8, .int y8_618), (6, .long y6_618), (5, .int y5_618), (4, .int y4_618), (3, .int y3_618), (1, .ref (aO a 0)), (2, .ref (bo 0)), (0, .ref b)]) hx hb dL_law_623 hl (by decide) rfl (fun ls hl => ?_)
  refine lv_aload_n hx hb dL_law_625 rfl (lv_at hl 18 rfl) ?_
  refine lv_iconst (v := (2 : Int32)) hx hb dL_law_626 (by decide) ?_
  obtain ⟨v627, e627, h⟩ := yb_some h
  refine ro_calli (ro_runV (As := [.int (2 : Int32)]) (rest := []) ⟨hx, hb, hml, hown, hts⟩ (fr_P (X := []) (Y := SW c5 bo bv618 zs618 ++ ([(qn427, .inl (c5 3, nx0_618, .inl gx0_618))] : va_W)) hP) hK (c_X2_count l D c5 a k618 hI (2 : Int32) v627 e627) gG_RL_86 (va_recv hK hP (ci := 2) (q0 := 0) rfl (ap_l (KW_0 c5 a k618))) hd_X2_count ⟨Nat.le_of_ble_eq_true rfl, Nat.le_of_ble_eq_true rfl⟩ ⟨rfl, rfl⟩ hl.1 (Nat.le_of_ble_eq_true rfl) dL_law_627 ⟨show cells618 ≤ 881861 by omega, show slots618 ≤ 6455599 by omega⟩ rfl) ?_
  refine lv_istore (i := 14) (lv' := [(14, .int v627), (13, .int v620), (21, .int y21_618), (20, .int y20_618), (19, .int y19_618), (18, .int y18_618), (17, .int y17_618), (16, .ref qn427), (15, .int y15_618), (12, .int y12_618), (11, .int y11_618), (10, .int y10_618), (9, .int y9_618), (8, .int y8_618), (6, .long y6_618), (5, .int y5_618), (4, .int y4_618), (3, .int y3_618), (1, .ref (aO a 0)), (2, .ref (bo 0)), (0, .ref b)]) hx hb dL_law_630 hl (by decide) rfl (fun ls hl => ?_)
  refine lv_iload hx hb dL_law_632 (lv_at hl 15 rfl) ?_
  refine lv_iconst (v := (5 : Int32)) hx hb dL_law_634 (by decide) ?_
  refine lv_ishr hx hb dL_law_635 ?_
  refine lv_iconst (v := (3 : Int32)) hx hb dL_law_636 (by decide) ?_
  obtain ⟨g637, h⟩ := o_if h
  refine ro_calli (ro_runS (As := [.int (y5_618 >>> ((5 : Int32) &&& 31)), .int (3 : Int32)]) (rest := []) ⟨hx, hb, hml, hown, hts⟩ hP hK (c_L_below l D (tyG c5) (KW c5 a k618 ++ (SW c5 bo bv618 zs618 ++ ([(qn427, .inl (c5 3, nx0_618, .inl gx0_618))] : va_W))) (y5_618 >>> ((5 : Int32) &&& 31)) (3 : Int32) g637) gG_RL_15 hd_L_below ⟨Nat.le_of_ble_eq_true rfl, Nat.le_of_ble_eq_true rfl⟩ ⟨rfl, rfl⟩ hl.1 (Nat.le_of_ble_eq_true rfl) dL_law_637 ⟨show cells618 ≤ 881861 by omega, show slots618 ≤ 6455599 by omega⟩ rfl) ?_
  obtain ⟨v640, e640, h⟩ := o_bind h
  have tn640 : ∀ (ls : Array Slot), lv_has ls 24 [(14, .int v627), (13, .int v620), (21, .int y21_618), (20, .int y20_618), (19, .int y19_618), (18, .int y18_618), (17, .int y17_618), (16, .ref qn427), (15, .int y15_618), (12, .int y12_618), (11, .int y11_618), (10, .int y10_618), (9, .int y9_618), (8, .int y8_618), (6, .long y6_618), (5, .int y5_618), (4, .int y4_618), (3, .int y3_618), (1, .ref (aO a 0)), (2, .ref (bo 0)), (0, .ref b)] → W p l e room_1 s m #[Value.ref b] below meth c H locs (cells618) (slots618) (lw_Z below #[Value.ref b] s) (F0 m 657 ls [.int v640]) := by
    intro ls hl
    refine lv_istore (i := 21) (lv' := [(21, .int v640), (14, .int v627), (13, .int v620), (20, .int y20_618), (19, .int y19_618), (18, .int y18_618), (17, .int y17_618), (16, .ref qn427), (15, .int y15_618), (12, .int y12_618), (11, .int y11_618), (10, .int y10_618), (9, .int y9_618), (8, .int y8_618), (6, .long y6_618), (5, .int y5_618), (4, .int y4_618), (3, .int y3_618), (1, .ref (aO a 0)), (2, .ref (bo 0)), (0, .ref b)]) hx hb dL_law_657 hl (by decide) rfl (fun ls hl => ?_)
    refine lv_aload_n hx hb dL_law_659 rfl (lv_at hl 18 rfl) ?_
    refine lv_iload hx hb dL_law_660 (lv_at hl 0 rfl) ?_
    obtain ⟨v662, e662, h⟩ := yb_some h
    refine fr_calli (wc := KW c5 a k618) (X := []) (Y := SW c5 bo bv618 zs618 ++ ([(qn427, .inl (c5 3, nx0_618, .inl gx0_618))] : va_W)) (rw_runV (As := [.int v640]) (rest := []) ⟨hx, hb, hml, hown, hts⟩ (fr_P (X := []) (Y := SW c5 bo bv618 zs618 ++ ([(qn427, .inl (c5 3, nx0_618, .inl gx0_618))] : va_W)) hP) hK (fr_D (X := []) (Y := SW c5 bo bv618 zs618 ++ ([(qn427, .inl (c5 3, nx0_618, .inl gx0_618))] : va_W)) hD) (c_X2_reap l D c5 a k618 hI H.size v640 v662 e662) gG_RL_31 (va_recv hK hP (ci := 2) (q0 := 0) rfl (ap_l (KW_0 c5 a k618))) hd_X2_reap ⟨Nat.le_of_ble_eq_true rfl, Nat.le_of_ble_eq_true rfl⟩ ⟨rfl, rfl⟩ hl.1 (Nat.le_of_ble_eq_true rfl) dL_law_662 ⟨show cells618 ≤ 881861 by omega, show slots618 ≤ 6455599 by omega⟩ rfl) hP hD hS hA (fun x662 u662 H locs hpost hP hD hS => ?_)
    obtain ⟨ex662, eu662⟩ := hpost
    subst ex662
    subst eu662
    have hP : va_P D vwCl (KW c5 a v662.2 ++ (SW c5 bo bv618 zs618 ++ ([(qn427, .inl (c5 3, nx0_618, .inl gx0_618))] : va_W))) H := hP
    have hD : va_D (lwA s) (KW c5 a v662.2 ++ (SW c5 bo bv618 zs618 ++ ([(qn427, .inl (c5 3, nx0_618, .inl gx0_618))] : va_W))) := hD
    refine lv_istore (i := 22) (lv' := [(22, .int v662.1), (21, .int v640), (14, .int v627), (13, .int v620), (20, .int y20_618), (19, .int y19_618), (18, .int y18_618), (17, .int y17_618), (16, .ref qn427), (15, .int y15_618), (12, .int y12_618), (11, .int y11_618), (10, .int y10_618), (9, .int y9_618), (8, .int y8_618), (6, .long y6_618), (5, .int y5_618), (4, .int y4_618), (3, .int y3_618), (1, .ref (aO a 0)), (2, .ref (bo 0)), (0, .ref b)]) hx hb dL_law_665 hl (by decide) rfl (fun ls hl => ?_)
    refine lv_aload_n hx hb dL_law_667 rfl (lv_at hl 20 rfl) ?_
    refine lv_iload hx hb dL_law_668 (lv_at hl 1 rfl) ?_
    obtain ⟨v670, e670, h⟩ := o_bind h
    refine fr_calli (wc := SW c5 bo bv618 zs618) (X := KW c5 a v662.2) (Y := [(qn427, .inl (c5 3, nx0_618, .inl gx0_618))]) (sw_runV (As := [.int v640]) (rest := []) ⟨hx, hb, hml, hown, hts⟩ (fr_P (X := KW c5 a v662.2) (Y := [(qn427, .inl (c5 3, nx0_618, .inl gx0_618))]) hP) hK (fr_D (X := KW c5 a v662.2) (Y := [(qn427, .inl (c5 3, nx0_618, .inl gx0_618))]) hD) hOI hOZ (c_X3_reaps l D c5 bo bv618 zs618 H.size v640 v670 e670) gG_RL_34 (va_recv hK hP (ci := 3) (q0 := ((KW c5 a v662.2).length + 0)) rfl (ap_r (ap_l (SW_0 c5 bo bv618 zs618)))) hd_X3_reaps ⟨Nat.le_of_ble_eq_true rfl, Nat.le_of_ble_eq_true rfl⟩ ⟨rfl, rfl⟩ hl.1 (Nat.le_of_ble_eq_true rfl) dL_law_670 ⟨show cells618 + 0 + 26 ≤ 881861 by omega, show slots618 + 0 + 39 ≤ 6455599 by omega⟩ rfl) hP hD hS hA (fun x670 u670 H locs hpost hP hD hS => ?_)
    obtain ⟨bv670, z670⟩ := u670
    obtain ⟨rfl, rfl⟩ := hpost
    refine lv_iload hx hb dL_law_673 (lv_at hl 0 rfl) ?_
    refine lv_icmp_ne (tgt := 701) hx hb dL_law_675 (by decide) (fun q => ?_) (fun q => ?_)
    · have h := o_t' h q
      refine lv_iconst (v := (0 : Int32)) hx hb dL_law_701 (by decide) ?_
      cases h
    · have h := o_f' h q
      refine lv_aload_n hx hb dL_law_678 rfl (lv_at hl 19 rfl) ?_
      refine lv_iconst (v := (3 : Int32)) hx hb dL_law_679 (by decide) ?_
      obtain ⟨v680, e680, h⟩ := yb_some h
      refine ro_calli (ro_runV (As := [.int (3 : Int32)]) (rest := []) ⟨hx, hb, hml, hown, hts⟩ (fr_P (X := []) (Y := SW c5 bo bv670 v670.2 ++ ([(qn427, .inl (c5 3, nx0_618, .inl gx0_618))] : va_W)) hP) hK (c_X2_count l D c5 a v662.2 hI (3 : Int32) v680 e680) gG_RL_86 (va_recv hK hP (ci := 2) (q0 := 0) rfl (ap_l (KW_0 c5 a v662.2))) hd_X2_count ⟨Nat.le_of_ble_eq_true rfl, Nat.le_of_ble_eq_true rfl⟩ ⟨rfl, rfl⟩ hl.1 (Nat.le_of_ble_eq_true rfl) dL_law_680 ⟨show cells618 + 0 + 26 ≤ 881861 by omega, show slots618 + 0 + 39 ≤ 6455599 by omega⟩ rfl) ?_
      refine lv_iload hx hb dL_law_683 (lv_at hl 3 rfl) ?_
      refine lv_icmp_ne (tgt := 701) hx hb dL_law_685 (by decide) (fun q => ?_) (fun q => ?_)
      · have h := o_t' h q
        refine lv_iconst (v := (0 : Int32)) hx hb dL_law_701 (by decide) ?_
        cases h
      · have h := o_f' h q
        refine lv_aload_n hx hb dL_law_688 rfl (lv_at hl 19 rfl) ?_
        refine lv_iconst (v := (2 : Int32)) hx hb dL_law_689 (by decide) ?_
        obtain ⟨v690, e690, h⟩ := yb_some h
        refine ro_calli (ro_runV (As := [.int (2 : Int32)]) (rest := []) ⟨hx, hb, hml, hown, hts⟩ (fr_P (X := []) (Y := SW c5 bo bv670 v670.2 ++ ([(qn427, .inl (c5 3, nx0_618, .inl gx0_618))] : va_W)) hP) hK (c_X2_count l D c5 a v662.2 hI (2 : Int32) v690 e690) gG_RL_86 (va_recv hK hP (ci := 2) (q0 := 0) rfl (ap_l (KW_0 c5 a v662.2))) hd_X2_count ⟨Nat.le_of_ble_eq_true rfl, Nat.le_of_ble_eq_true rfl⟩ ⟨rfl, rfl⟩ hl.1 (Nat.le_of_ble_eq_true rfl) dL_law_690 ⟨show cells618 + 0 + 26 ≤ 881861 by omega, show slots618 + 0 + 39 ≤ 6455599 by omega⟩ rfl) ?_
        refine lv_iload hx hb dL_law_693 (lv_at hl 2 rfl) ?_
        refine lv_iload hx hb dL_law_695 (lv_at hl 0 rfl) ?_
        refine lv_iadd hx hb dL_law_697 ?_
        refine lv_icmp_eq (tgt := 703) hx hb dL_law_698 (by decide) (fun q => ?_) (fun q => ?_)
        · have h := o_t h q
          exact law_C703 l hflags hx hb hr hml hown hts hlocks hXs hbl hK hOI hOZ hX r v662.2 v670.2 v662.1 v640 v627 v620 y20_618 y19_618 y18_618 y17_618 y15_618 y12_618 y11_618 y10_618 y9_618 y8_618 y6_618 y5_618 y4_618 y3_618 nx0_618 gx0_618 _ bv670 n29 (cells618 + 0 + 26) (slots618 + 0 + 39) (by omega) (by omega) ih29 hl hP hD hS h
        · have h := o_f h q
          refine lv_iconst (v := (0 : Int32)) hx hb dL_law_701 (by decide) ?_
          cases h
  have h := e640
  refine lv_if_ne (tgt := 647) hx hb dL_law_640 (by decide) (fun q => ?_) (fun q => ?_)
  · have h := o_t' h q
    refine lv_iload hx hb dL_law_647 (lv_at hl 15 rfl) ?_
    refine lv_bipush (v := (7 : Int32)) hx hb dL_law_649 (by decide) ?_
    refine lv_ishr hx hb dL_law_651 ?_
    refine lv_bipush (v := (9 : Int32)) hx hb dL_law_652 (by decide) ?_
    obtain ⟨g654, h⟩ := o_if h
    refine ro_calli (ro_runS (As := [.int (y5_618 >>> ((7 : Int32) &&& 31)), .int (9 : Int32)]) (rest := []) ⟨hx, hb, hml, hown, hts⟩ hP hK (c_L_below l D (tyG c5) (KW c5 a k618 ++ (SW c5 bo bv618 zs618 ++ ([(qn427, .inl (c5 3, nx0_618, .inl gx0_618))] : va_W))) (y5_618 >>> ((7 : Int32) &&& 31)) (9 : Int32) g654) gG_RL_15 hd_L_below ⟨Nat.le_of_ble_eq_true rfl, Nat.le_of_ble_eq_true rfl⟩ ⟨rfl, rfl⟩ hl.1 (Nat.le_of_ble_eq_true rfl) dL_law_654 ⟨show cells618 ≤ 881861 by omega, show slots618 ≤ 6455599 by omega⟩ rfl) ?_
    obtain rfl := Option.some.inj h
    exact tn640 ls (lv_sub hl [0, 1, 2, 3, 4, 5, 6, 7, 8, 9, 10, 11, 12, 13, 14, 15, 16, 17, 18, 19, 20] rfl)
  · have h := o_f' h q
    refine lv_iconst (v := (0 : Int32)) hx hb dL_law_643 (by decide) ?_
    refine lv_goto (tgt := 657) hx hb dL_law_644 (by decide) ?_
    obtain rfl := Option.some.inj h
    exact tn640 ls (lv_sub hl [0, 1, 2, 3, 4, 5, 6, 7, 8, 9, 10, 11, 12, 13, 14, 15, 16, 17, 18, 19, 20] rfl)
set_option maxHeartbeats 8000000 in
set_option maxRecDepth 100000 in
theorem law_C585 {p : Program} {e : Env} {s : State} {m : MethodId} {below : List Frame} {meth : Method} {c : Code} (l : Launch) (hflags : l.flags = flags0) {D : va_G} {c5 : Nat → ClassId} {sx : Nat → Nat} {a : KAd} {bo : Nat → Nat} {b L : Nat} {xs : Nat → Int32} (hx : p.tables.exec = Jvm.exec) (hb : c.code = cL_law) (hr : meth.sig.returnType = ret) (hml : c.maxLocals = 24) (hown : s.vm.findClass RL = some m.cls) (hts : ∀ w ∈ LA, w.before #[Value.ref b] s = true) (hlocks : meth.locks = false) (hXs : va_X b L xs s s.heap) (hbl : b < s.heap.size) (hK : va_K D vwCl (tyG c5) s) (hOI : va_AOA .int s) (hOZ : va_AOA .boolean s) (hX : exL (lwA s) sx s) (r : Unit) (k585 : KSt) (zs585 : SSt) (y20_585 : Int32) (y19_585 : Int32) (y18_585 : Int32) (y17_585 : Int32) (y15_585 : Int32) (y14_585 : Int32) (y13_585 : Int32) (y12_585 : Int32) (y11_585 : Int32) (y10_585 : Int32) (y9_585 : Int32) (y8_585 : Int32) (y6_585 : Int64) (y5_585 : Int32) (y4_585 : Int32) (y3_585 : Int32) (nx0_585 : Nat) (gx0_585 : Nat → Int32) (K : KSt → SSt → Int32 → Option Unit) (bv585 : BV) {qn427 : Nat} (n29 cells585 slots585 : Nat) (hc585 : cells585 + 49 + n29 * 160 ≤ 4000 + 2720) (hn585 : slots585 + 189 + n29 * 420 ≤ 40000 + 7140) (ih29 : ∀ (cells29 slots29 : Nat) (bv29 : BV) (H : Heap) (locs : List Loc) (k29 : KSt) (zs29 : SSt) (x4_29 : Int32) (ls : Array Slot), lv_has ls 24 [(4, .int x4_29), (3, .int y3_585), (1, .ref (aO a 0)), (2, .ref (bo 0)), (0, .ref b)] → va_P D vwCl (KW c5 a k29 ++ (SW c5 bo bv29 zs29 ++ ([] : va_W))) H → va_D (lwA s) (KW c5 a k29 ++ (SW c5 bo bv29 zs29 ++ ([] : va_W))) → va_S (lwA s) s.heap H locs → cells29 + n29 * 160 ≤ 4000 + 2720 → slots29 + n29 * 420 ≤ 40000 + 7140 → K k29 zs29 x4_29 = some r → W p l e room_1 s m #[Value.ref b] below meth c H locs (cells29) (slots29) (lw_Z below #[Value.ref b] s) (F0 m 29 ls [])) {H : Heap} {locs : List Loc} {ls : Array Slot} (hl : lv_has ls 24 [(20, .int y20_585), (19, .int y19_585), (18, .int y18_585), (17, .int y17_585), (16, .ref qn427), (15, .int y15_585), (14, .int y14_585), (13, .int y13_585), (12, .int y12_585), (11, .int y11_585), (10, .int y10_585), (9, .int y9_585), (8, .int y8_585), (6, .long y6_585), (5, .int y5_585), (4, .int y4_585), (3, .int y3_585), (1, .ref (aO a 0)), (2, .ref (bo 0)), (0, .ref b)]) (hP : va_P D vwCl (KW c5 a k585 ++ (SW c5 bo bv585 zs585 ++ ([(qn427, .inl (c5 3, nx0_585, .inl gx0_585))] : va_W))) H) (hD : va_D (lwA s) (KW c5 a k585 ++ (SW c5 bo bv585 zs585 ++ ([(qn427, .inl (c5 3, nx0_585, .inl gx0_585))] : va_W)))) (hS : va_S (lwA s) s.heap H locs) (h : R_L_law_C585 k585 zs585 y20_585 y19_585 y18_585 y17_585 y15_585 y14_585 y13_585 y12_585 y11_585 y10_585 y9_585 y8_585 y6_585 y5_585 y4_585 y3_585 nx0_585 gx0_585 K = some r) : W p l e room_1 s m #[Value.ref b] below meth c H locs (cells585) (slots585) (lw_Z below #[Value.ref b] s) (F0 m 585 ls []) := by
  have hA : ∀ q : Nat, s.heap.size ≤ q → lwA s q := fun _ h => h
  have hbA : ¬ lwA s b := Nat.not_le.mpr hbl
  have hI : KI a := KI_of (fr_D (X := []) (Y := SW c5 bo bv585 zs585 ++ ([(qn427, .inl (c5 3, nx0_585, .inl gx0_585))] : va_W)) hD)
  unfold R_L_law_C585 at h
  refine lv_iconst (v := (0 : Int32)) hx hb dL_law_585 (by decide) ?_
  refine lv_istore (i := 21) (lv' := [(21, .int (0 : Int32)), (20, .int y20_585), (19, .int y19_585), (18, .int y18_585), (17, .int y17_585), (16, .ref qn427), (15, .int y15_585), (14, .int y14_585), (13, .int y13_585), (12, .int y12_585), (11, .int y11_585), (10, .int y10_585), (9, .int y9_585), (8, .int y8_585), (6, .long y6_585), (5, .int y5_585), (4, .int y4_585), (3, .int y3_585), (1, .ref (aO a 0)), (2, .ref (bo 0)), (0, .ref b)]) hx hb dL_law_586 hl (by decide) rfl (fun ls hl => ?_)
  obtain ⟨v588, e588, h⟩ := o_bind h
  have L588 : ∀ (n588 : Nat) (x21_588 : Int32) (v9 : Int32) (ls : Array Slot), lv_has ls 24 [(21, .int x21_588), (20, .int y20_585), (19, .int y19_585), (18, .int y18_585), (17, .int y17_585), (16, .ref qn427), (15, .int y15_585), (14, .int y14_585), (13, .int y13_585), (12, .int y12_585), (11, .int y11_585), (10, .int y10_585), (9, .int y9_585), (8, .int y8_585), (6, .long y6_585), (5, .int y5_585), (4, .int y4_585), (3, .int y3_585), (1, .ref (aO a 0)), (2, .ref (bo 0)), (0, .ref b)] → R_L_law_L588 k585 y3_585 nx0_585 gx0_585 n588 x21_588 = some v9 → (∀ (ls : Array Slot), lv_has ls 24 [(21, .int v9), (20, .int y20_585), (19, .int y19_585), (18, .int y18_585), (17, .int y17_585), (16, .ref qn427), (15, .int y15_585), (14, .int y14_585), (13, .int y13_585), (12, .int y12_585), (11, .int y11_585), (10, .int y10_585), (9, .int y9_585), (8, .int y8_585), (6, .long y6_585), (5, .int y5_585), (4, .int y4_585), (3, .int y3_585), (1, .ref (aO a 0)), (2, .ref (bo 0)), (0, .ref b)] → W p l e room_1 s m #[Value.ref b] below meth c H locs (cells585) (slots585) (lw_Z below #[Value.ref b] s) (F0 m 618 ls [])) → W p l e room_1 s m #[Value.ref b] below meth c H locs (cells585) (slots585) (lw_Z below #[Value.ref b] s) (F0 m 588 ls []) := by
    intro n588
    induction n588 with
    | zero =>
      intro x21_588 v9 ls hl h kx
      exact absurd h (by simp [R_L_law_L588])
    | succ n588 ih588 =>
      intro x21_588 v9 ls hl h kx
      rw [R_L_law_L588] at h
      refine lv_iload hx hb dL_law_588 (lv_at hl 0 rfl) ?_
      refine lv_iload_n hx hb dL_law_590 rfl (lv_at hl 17 rfl) ?_
      refine lv_icmp_ge (tgt := 618) hx hb dL_law_591 (by decide) (fun q => ?_) (fun q => ?_)
      · have h := o_t h q
        obtain rfl := Option.some.inj h
        exact kx ls (lv_sub hl [0, 1, 2, 3, 4, 5, 6, 7, 8, 9, 10, 11, 12, 13, 14, 15, 16, 17, 18, 19, 20] rfl)
      · have h := o_f h q
        refine lv_aload_n hx hb dL_law_594 rfl (lv_at hl 18 rfl) ?_
        refine lv_iload hx hb dL_law_595 (lv_at hl 0 rfl) ?_
        refine lv_bipush (v := (7 : Int32)) hx hb dL_law_597 (by decide) ?_
        obtain ⟨v599, e599, h⟩ := yb_some h
        refine ro_calli (ro_runV (As := [.int x21_588, .int (7 : Int32)]) (rest := []) ⟨hx, hb, hml, hown, hts⟩ (fr_P (X := []) (Y := SW c5 bo bv585 zs585 ++ ([(qn427, .inl (c5 3, nx0_585, .inl gx0_585))] : va_W)) hP) hK (c_X2_about l D c5 a k585 hI x21_588 (7 : Int32) v599 e599) gG_RL_106 (va_recv hK hP (ci := 2) (q0 := 0) rfl (ap_l (KW_0 c5 a k585))) hd_X2_about ⟨Nat.le_of_ble_eq_true rfl, Nat.le_of_ble_eq_true rfl⟩ ⟨rfl, rfl⟩ hl.1 (Nat.le_of_ble_eq_true rfl) dL_law_599 ⟨show cells585 ≤ 881861 by omega, show slots585 ≤ 6455599 by omega⟩ rfl) ?_
        refine lv_aload hx hb dL_law_602 (lv_at hl 5 rfl) ?_
        refine lv_iload hx hb dL_law_604 (lv_at hl 0 rfl) ?_
        obtain ⟨g606, h⟩ := o_if h
        refine va_iald hx hb hK hP ((KW c5 a k585).length + ((SW c5 bo bv585 zs585).length + 0)) 3 (ap_r (ap_r (Y := [(qn427, .inl (c5 3, nx0_585, .inl gx0_585))]) rfl)) rfl (inb_in g606) dL_law_606 ?_
        refine lv_icmp_eq (tgt := 612) hx hb dL_law_607 (by decide) (fun q => ?_) (fun q => ?_)
        · have h := o_t h q
          refine lv_iinc (v := (x21_588 + (1 : Int32))) (lv' := [(21, .int (x21_588 + (1 : Int32))), (20, .int y20_585), (19, .int y19_585), (18, .int y18_585), (17, .int y17_585), (16, .ref qn427), (15, .int y15_585), (14, .int y14_585), (13, .int y13_585), (12, .int y12_585), (11, .int y11_585), (10, .int y10_585), (9, .int y9_585), (8, .int y8_585), (6, .long y6_585), (5, .int y5_585), (4, .int y4_585), (3, .int y3_585), (1, .ref (aO a 0)), (2, .ref (bo 0)), (0, .ref b)]) hx hb dL_law_612 hl (k := 0) rfl rfl (by decide) rfl (fun ls hl => ?_)
          refine lv_goto (tgt := 588) hx hb dL_law_615 (by decide) ?_
          exact ih588 (x21_588 + (1 : Int32)) v9 ls (lv_sub hl [0, 1, 2, 3, 4, 5, 6, 7, 8, 9, 10, 11, 12, 13, 14, 15, 16, 17, 18, 19, 20] rfl) h kx
        · have h := o_f h q
          refine lv_iconst (v := (0 : Int32)) hx hb dL_law_610 (by decide) ?_
          cases h
  refine L588 FU (0 : Int32) v588 ls (lv_sub hl [0, 1, 2, 3, 4, 5, 6, 7, 8, 9, 10, 11, 12, 13, 14, 15, 16, 17, 18, 19, 20] rfl) e588 (fun ls hl => ?_)
  exact law_C618 l hflags hx hb hr hml hown hts hlocks hXs hbl hK hOI hOZ hX r k585 zs585 v588 y20_585 y19_585 y18_585 y17_585 y15_585 y14_585 y13_585 y12_585 y11_585 y10_585 y9_585 y8_585 y6_585 y5_585 y4_585 y3_585 nx0_585 gx0_585 _ bv585 n29 (cells585) (slots585) (by omega) (by omega) ih29 hl hP hD hS h
set_option maxHeartbeats 8000000 in
set_option maxRecDepth 100000 in
theorem law_C505 {p : Program} {e : Env} {s : State} {m : MethodId} {below : List Frame} {meth : Method} {c : Code} (l : Launch) (hflags : l.flags = flags0) {D : va_G} {c5 : Nat → ClassId} {sx : Nat → Nat} {a : KAd} {bo : Nat → Nat} {b L : Nat} {xs : Nat → Int32} (hx : p.tables.exec = Jvm.exec) (hb : c.code = cL_law) (hr : meth.sig.returnType = ret) (hml : c.maxLocals = 24) (hown : s.vm.findClass RL = some m.cls) (hts : ∀ w ∈ LA, w.before #[Value.ref b] s = true) (hlocks : meth.locks = false) (hXs : va_X b L xs s s.heap) (hbl : b < s.heap.size) (hK : va_K D vwCl (tyG c5) s) (hOI : va_AOA .int s) (hOZ : va_AOA .boolean s) (hX : exL (lwA s) sx s) (r : Unit) (k505 : KSt) (zs505 : SSt) (y19_505 : Int32) (y18_505 : Int32) (y17_505 : Int32) (y15_505 : Int32) (y14_505 : Int32) (y13_505 : Int32) (y12_505 : Int32) (y11_505 : Int32) (y10_505 : Int32) (y9_505 : Int32) (y8_505 : Int32) (y6_505 : Int64) (y5_505 : Int32) (y4_505 : Int32) (y3_505 : Int32) (nx0_505 : Nat) (gx0_505 : Nat → Int32) (K : KSt → SSt → Int32 → Option Unit) (bv505 : BV) {qn427 : Nat} (n29 cells505 slots505 : Nat) (hc505 : cells505 + 49 + n29 * 160 ≤ 4000 + 2720) (hn505 : slots505 + 189 + n29 * 420 ≤ 40000 + 7140) (ih29 : ∀ (cells29 slots29 : Nat) (bv29 : BV) (H : Heap) (locs : List Loc) (k29 : KSt) (zs29 : SSt) (x4_29 : Int32) (ls : Array Slot), lv_has ls 24 [(4, .int x4_29), (3, .int y3_505), (1, .ref (aO a 0)), (2, .ref (bo 0)), (0, .ref b)] → va_P D vwCl (KW c5 a k29 ++ (SW c5 bo bv29 zs29 ++ ([] : va_W))) H → va_D (lwA s) (KW c5 a k29 ++ (SW c5 bo bv29 zs29 ++ ([] : va_W))) → va_S (lwA s) s.heap H locs → cells29 + n29 * 160 ≤ 4000 + 2720 → slots29 + n29 * 420 ≤ 40000 + 7140 → K k29 zs29 x4_29 = some r → W p l e room_1 s m #[Value.ref b] below meth c H locs (cells29) (slots29) (lw_Z below #[Value.ref b] s) (F0 m 29 ls [])) {H : Heap} {locs : List Loc} {ls : Array Slot} (hl : lv_has ls 24 [(19, .int y19_505), (18, .int y18_505), (17, .int y17_505), (16, .ref qn427), (15, .int y15_505), (14, .int y14_505), (13, .int y13_505), (12, .int y12_505), (11, .int y11_505), (10, .int y10_505), (9, .int y9_505), (8, .int y8_505), (6, .long y6_505), (5, .int y5_505), (4, .int y4_505), (3, .int y3_505), (1, .ref (aO a 0)), (2, .ref (bo 0)), (0, .ref b)]) (hP : va_P D vwCl (KW c5 a k505 ++ (SW c5 bo bv505 zs505 ++ ([(qn427, .inl (c5 3, nx0_505, .inl gx0_505))] : va_W))) H) (hD : va_D (lwA s) (KW c5 a k505 ++ (SW c5 bo bv505 zs505 ++ ([(qn427, .inl (c5 3, nx0_505, .inl gx0_505))] : va_W)))) (hS : va_S (lwA s) s.heap H locs) (h : R_L_law_C505 k505 zs505 y19_505 y18_505 y17_505 y15_505 y14_505 y13_505 y12_505 y11_505 y10_505 y9_505 y8_505 y6_505 y5_505 y4_505 y3_505 nx0_505 gx0_505 K = some r) : W p l e room_1 s m #[Value.ref b] below meth c H locs (cells505) (slots505) (lw_Z below #[Value.ref b] s) (F0 m 505 ls []) := by
  have hA : ∀ q : Nat, s.heap.size ≤ q → lwA s q := fun _ h => h
  have hbA : ¬ lwA s b := Nat.not_le.mpr hbl
  have hI : KI a := KI_of (fr_D (X := []) (Y := SW c5 bo bv505 zs505 ++ ([(qn427, .inl (c5 3, nx0_505, .inl gx0_505))] : va_W)) hD)
  unfold R_L_law_C505 at h
  refine lv_aload_n hx hb dL_law_505 rfl (lv_at hl 16 rfl) ?_
  refine lv_iload hx hb dL_law_506 (lv_at hl 11 rfl) ?_
  obtain ⟨v508, e508, h⟩ := yb_some h
  refine fr_calli (wc := KW c5 a k505) (X := []) (Y := SW c5 bo bv505 zs505 ++ ([(qn427, .inl (c5 3, nx0_505, .inl gx0_505))] : va_W)) (rw_runV (As := [.int y8_505]) (rest := []) ⟨hx, hb, hml, hown, hts⟩ (fr_P (X := []) (Y := SW c5 bo bv505 zs505 ++ ([(qn427, .inl (c5 3, nx0_505, .inl gx0_505))] : va_W)) hP) hK (fr_D (X := []) (Y := SW c5 bo bv505 zs505 ++ ([(qn427, .inl (c5 3, nx0_505, .inl gx0_505))] : va_W)) hD) (c_X2_pack l D c5 a k505 hI H.size y8_505 v508 e508) gG_RL_37 (va_recv hK hP (ci := 2) (q0 := 0) rfl (ap_l (KW_0 c5 a k505))) hd_X2_pack ⟨Nat.le_of_ble_eq_true rfl, Nat.le_of_ble_eq_true rfl⟩ ⟨rfl, rfl⟩ hl.1 (Nat.le_of_ble_eq_true rfl) dL_law_508 ⟨show cells505 ≤ 881861 by omega, show slots505 ≤ 6455599 by omega⟩ rfl) hP hD hS hA (fun x508 u508 H locs hpost hP hD hS => ?_)
  obtain ⟨ex508, eu508⟩ := hpost
  subst ex508
  subst eu508
  have hP : va_P D vwCl (KW c5 a v508.2 ++ (SW c5 bo bv505 zs505 ++ ([(qn427, .inl (c5 3, nx0_505, .inl gx0_505))] : va_W))) H := hP
  have hD : va_D (lwA s) (KW c5 a v508.2 ++ (SW c5 bo bv505 zs505 ++ ([(qn427, .inl (c5 3, nx0_505, .inl gx0_505))] : va_W))) := hD
  refine lv_istore (i := 20) (lv' := [(20, .int v508.1), (19, .int y19_505), (18, .int y18_505), (17, .int y17_505), (16, .ref qn427), (15, .int y15_505), (14, .int y14_505), (13, .int y13_505), (12, .int y12_505), (11, .int y11_505), (10, .int y10_505), (9, .int y9_505), (8, .int y8_505), (6, .long y6_505), (5, .int y5_505), (4, .int y4_505), (3, .int y3_505), (1, .ref (aO a 0)), (2, .ref (bo 0)), (0, .ref b)]) hx hb dL_law_511 hl (by decide) rfl (fun ls hl => ?_)
  refine lv_aload_n hx hb dL_law_513 rfl (lv_at hl 18 rfl) ?_
  refine lv_iload hx hb dL_law_514 (lv_at hl 12 rfl) ?_
  obtain ⟨v516, e516, h⟩ := o_bind h
  refine fr_calli (wc := SW c5 bo bv505 zs505) (X := KW c5 a v508.2) (Y := [(qn427, .inl (c5 3, nx0_505, .inl gx0_505))]) (sw_runV (As := [.int y8_505]) (rest := []) ⟨hx, hb, hml, hown, hts⟩ (fr_P (X := KW c5 a v508.2) (Y := [(qn427, .inl (c5 3, nx0_505, .inl gx0_505))]) hP) hK (fr_D (X := KW c5 a v508.2) (Y := [(qn427, .inl (c5 3, nx0_505, .inl gx0_505))]) hD) hOI hOZ (c_X3_packs l D c5 bo bv505 zs505 H.size y8_505 v516 e516) gG_RL_40 (va_recv hK hP (ci := 3) (q0 := ((KW c5 a v508.2).length + 0)) rfl (ap_r (ap_l (SW_0 c5 bo bv505 zs505)))) hd_X3_packs ⟨Nat.le_of_ble_eq_true rfl, Nat.le_of_ble_eq_true rfl⟩ ⟨rfl, rfl⟩ hl.1 (Nat.le_of_ble_eq_true rfl) dL_law_516 ⟨show cells505 + 0 ≤ 881861 by omega, show slots505 + 0 ≤ 6455599 by omega⟩ rfl) hP hD hS hA (fun x516 u516 H locs hpost hP hD hS => ?_)
  obtain ⟨bv516, z516⟩ := u516
  obtain ⟨rfl, rfl⟩ := hpost
  refine lv_iload hx hb dL_law_519 (lv_at hl 0 rfl) ?_
  refine lv_icmp_ne (tgt := 583) hx hb dL_law_521 (by decide) (fun q => ?_) (fun q => ?_)
  · have h := o_t' h q
    refine lv_iconst (v := (0 : Int32)) hx hb dL_law_583 (by decide) ?_
    cases h
  · have h := o_f' h q
    refine lv_aload_n hx hb dL_law_524 rfl (lv_at hl 17 rfl) ?_
    refine lv_iload hx hb dL_law_525 (lv_at hl 12 rfl) ?_
    refine lv_bipush (v := (6 : Int32)) hx hb dL_law_527 (by decide) ?_
    obtain ⟨v529, e529, h⟩ := yb_some h
    refine ro_calli (ro_runV (As := [.int y8_505, .int (6 : Int32)]) (rest := []) ⟨hx, hb, hml, hown, hts⟩ (fr_P (X := []) (Y := SW c5 bo bv516 v516.2 ++ ([(qn427, .inl (c5 3, nx0_505, .inl gx0_505))] : va_W)) hP) hK (c_X2_about l D c5 a v508.2 hI y8_505 (6 : Int32) v529 e529) gG_RL_106 (va_recv hK hP (ci := 2) (q0 := 0) rfl (ap_l (KW_0 c5 a v508.2))) hd_X2_about ⟨Nat.le_of_ble_eq_true rfl, Nat.le_of_ble_eq_true rfl⟩ ⟨rfl, rfl⟩ hl.1 (Nat.le_of_ble_eq_true rfl) dL_law_529 ⟨show cells505 + 0 + 0 ≤ 881861 by omega, show slots505 + 0 + 0 ≤ 6455599 by omega⟩ rfl) ?_
    refine lv_iload hx hb dL_law_532 (lv_at hl 3 rfl) ?_
    refine lv_iload hx hb dL_law_534 (lv_at hl 2 rfl) ?_
    refine lv_iadd hx hb dL_law_536 ?_
    refine lv_icmp_ne (tgt := 583) hx hb dL_law_537 (by decide) (fun q => ?_) (fun q => ?_)
    · have h := o_t' h q
      refine lv_iconst (v := (0 : Int32)) hx hb dL_law_583 (by decide) ?_
      cases h
    · have h := o_f' h q
      refine lv_aload_n hx hb dL_law_540 rfl (lv_at hl 17 rfl) ?_
      refine lv_iload hx hb dL_law_541 (lv_at hl 12 rfl) ?_
      refine lv_iconst (v := (5 : Int32)) hx hb dL_law_543 (by decide) ?_
      obtain ⟨v544, e544, h⟩ := yb_some h
      refine ro_calli (ro_runV (As := [.int y8_505, .int (5 : Int32)]) (rest := []) ⟨hx, hb, hml, hown, hts⟩ (fr_P (X := []) (Y := SW c5 bo bv516 v516.2 ++ ([(qn427, .inl (c5 3, nx0_505, .inl gx0_505))] : va_W)) hP) hK (c_X2_about l D c5 a v508.2 hI y8_505 (5 : Int32) v544 e544) gG_RL_106 (va_recv hK hP (ci := 2) (q0 := 0) rfl (ap_l (KW_0 c5 a v508.2))) hd_X2_about ⟨Nat.le_of_ble_eq_true rfl, Nat.le_of_ble_eq_true rfl⟩ ⟨rfl, rfl⟩ hl.1 (Nat.le_of_ble_eq_true rfl) dL_law_544 ⟨show cells505 + 0 + 0 ≤ 881861 by omega, show slots505 + 0 + 0 ≤ 6455599 by omega⟩ rfl) ?_
      refine lv_iconst (v := (1 : Int32)) hx hb dL_law_547 (by decide) ?_
      refine lv_icmp_gt (tgt := 583) hx hb dL_law_548 (by decide) (fun q => ?_) (fun q => ?_)
      · have h := o_t h q
        refine lv_iconst (v := (0 : Int32)) hx hb dL_law_583 (by decide) ?_
        cases h
      · have h := o_f h q
        refine lv_aload_n hx hb dL_law_551 rfl (lv_at hl 17 rfl) ?_
        refine lv_bipush (v := (8 : Int32)) hx hb dL_law_552 (by decide) ?_
        obtain ⟨v554, e554, h⟩ := yb_some h
        refine ro_calli (ro_runV (As := [.int (8 : Int32)]) (rest := []) ⟨hx, hb, hml, hown, hts⟩ (fr_P (X := []) (Y := SW c5 bo bv516 v516.2 ++ ([(qn427, .inl (c5 3, nx0_505, .inl gx0_505))] : va_W)) hP) hK (c_X2_count l D c5 a v508.2 hI (8 : Int32) v554 e554) gG_RL_86 (va_recv hK hP (ci := 2) (q0 := 0) rfl (ap_l (KW_0 c5 a v508.2))) hd_X2_count ⟨Nat.le_of_ble_eq_true rfl, Nat.le_of_ble_eq_true rfl⟩ ⟨rfl, rfl⟩ hl.1 (Nat.le_of_ble_eq_true rfl) dL_law_554 ⟨show cells505 + 0 + 0 ≤ 881861 by omega, show slots505 + 0 + 0 ≤ 6455599 by omega⟩ rfl) ?_
        refine lv_iload hx hb dL_law_557 (lv_at hl 1 rfl) ?_
        refine lv_iload hx hb dL_law_559 (lv_at hl 0 rfl) ?_
        refine lv_iadd hx hb dL_law_561 ?_
        refine lv_icmp_ne (tgt := 583) hx hb dL_law_562 (by decide) (fun q => ?_) (fun q => ?_)
        · have h := o_t' h q
          refine lv_iconst (v := (0 : Int32)) hx hb dL_law_583 (by decide) ?_
          cases h
        · have h := o_f' h q
          refine lv_aload_n hx hb dL_law_565 rfl (lv_at hl 17 rfl) ?_
          refine lv_iload hx hb dL_law_566 (lv_at hl 12 rfl) ?_
          obtain ⟨v568, e568, h⟩ := yb_some h
          refine fr_calli (wc := KW c5 a v508.2) (X := []) (Y := SW c5 bo bv516 v516.2 ++ ([(qn427, .inl (c5 3, nx0_505, .inl gx0_505))] : va_W)) (rw_runV (As := [.int y8_505]) (rest := []) ⟨hx, hb, hml, hown, hts⟩ (fr_P (X := []) (Y := SW c5 bo bv516 v516.2 ++ ([(qn427, .inl (c5 3, nx0_505, .inl gx0_505))] : va_W)) hP) hK (fr_D (X := []) (Y := SW c5 bo bv516 v516.2 ++ ([(qn427, .inl (c5 3, nx0_505, .inl gx0_505))] : va_W)) hD) (c_X2_pack l D c5 a v508.2 hI H.size y8_505 v568 e568) gG_RL_37 (va_recv hK hP (ci := 2) (q0 := 0) rfl (ap_l (KW_0 c5 a v508.2))) hd_X2_pack ⟨Nat.le_of_ble_eq_true rfl, Nat.le_of_ble_eq_true rfl⟩ ⟨rfl, rfl⟩ hl.1 (Nat.le_of_ble_eq_true rfl) dL_law_568 ⟨show cells505 + 0 + 0 ≤ 881861 by omega, show slots505 + 0 + 0 ≤ 6455599 by omega⟩ rfl) hP hD hS hA (fun x568 u568 H locs hpost hP hD hS => ?_)
          obtain ⟨ex568, eu568⟩ := hpost
          subst ex568
          subst eu568
          have hP : va_P D vwCl (KW c5 a v568.2 ++ (SW c5 bo bv516 v516.2 ++ ([(qn427, .inl (c5 3, nx0_505, .inl gx0_505))] : va_W))) H := hP
          have hD : va_D (lwA s) (KW c5 a v568.2 ++ (SW c5 bo bv516 v516.2 ++ ([(qn427, .inl (c5 3, nx0_505, .inl gx0_505))] : va_W))) := hD
          refine lv_if_ne (tgt := 583) hx hb dL_law_571 (by decide) (fun q => ?_) (fun q => ?_)
          · have h := o_t' h q
            refine lv_iconst (v := (0 : Int32)) hx hb dL_law_583 (by decide) ?_
            cases h
          · have h := o_f' h q
            refine lv_aload_n hx hb dL_law_574 rfl (lv_at hl 17 rfl) ?_
            refine lv_iload hx hb dL_law_575 (lv_at hl 12 rfl) ?_
            obtain ⟨v577, e577, h⟩ := yb_some h
            refine ro_calli (ro_runV (As := [.int y8_505]) (rest := []) ⟨hx, hb, hml, hown, hts⟩ (fr_P (X := []) (Y := SW c5 bo bv516 v516.2 ++ ([(qn427, .inl (c5 3, nx0_505, .inl gx0_505))] : va_W)) hP) hK (c_X2_gains l D c5 a v568.2 hI y8_505 v577 e577) gG_RL_112 (va_recv hK hP (ci := 2) (q0 := 0) rfl (ap_l (KW_0 c5 a v568.2))) hd_X2_gains ⟨Nat.le_of_ble_eq_true rfl, Nat.le_of_ble_eq_true rfl⟩ ⟨rfl, rfl⟩ hl.1 (Nat.le_of_ble_eq_true rfl) dL_law_577 ⟨show cells505 + 0 + 0 + 0 ≤ 881861 by omega, show slots505 + 0 + 0 + 0 ≤ 6455599 by omega⟩ rfl) ?_
            refine lv_if_eq (tgt := 585) hx hb dL_law_580 (by decide) (fun q => ?_) (fun q => ?_)
            · have h := o_t h q
              exact law_C585 l hflags hx hb hr hml hown hts hlocks hXs hbl hK hOI hOZ hX r v568.2 v516.2 v508.1 y19_505 y18_505 y17_505 y15_505 y14_505 y13_505 y12_505 y11_505 y10_505 y9_505 y8_505 y6_505 y5_505 y4_505 y3_505 nx0_505 gx0_505 _ bv516 n29 (cells505 + 0 + 0 + 0) (slots505 + 0 + 0 + 0) (by omega) (by omega) ih29 hl hP hD hS h
            · have h := o_f h q
              refine lv_iconst (v := (0 : Int32)) hx hb dL_law_583 (by decide) ?_
              cases h
