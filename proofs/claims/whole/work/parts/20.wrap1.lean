set_option maxHeartbeats 4000000 in
set_option maxRecDepth 100000 in
theorem c_L_kind (l : Launch) (D : va_G) (c5 : Nat → ClassId) (a : KAd) (k : KSt) (o : Nat) (g : Nat → Int64) (sx : Nat → Nat) (hflags : l.flags = flags0) (sz : Nat) (p1 : Int32) (res : Except String (Int32 × KSt)) (h : R_X2_kind k p1 = some res) (hE : ∀ E, res = .error E → E ∈ [exIA, exIS]) : Met l yL_kind (wsw_ yL_kind cL_kind 4 (some .int) [(0, 9, 12, 13), (0, 9, 15, 15)]) { frames := 7, cells := 1, slots := 6, locals := 112 } (va_Pc [.ref (aO a 0), .int p1, .ref o] (lwB D c5 a k o g sx sz)) (va_Qi (lwQ cdIAIS a k res) (rwE D (tyG c5) (va_A (LW c5 a k o g) sz) (fun u => LW c5 u.1 u.2.1 o u.2.2)) (va_A (LW c5 a k o g) sz)) 1 6 (va_A (LW c5 a k o g) sz) := by
  refine Met.ofWH (cc := cL_kind) (maxL := 4) (ret := some .int) (hh := [(0, 9, 12, 13), (0, 9, 15, 15)]) (by decide) rfl ?_
  intro p e s m args below meth c s₁ B hml hv
  obtain ⟨rfl, hsz, hP, hK, hD0, hX, hN⟩ := hv
  have hx := B.exec
  have hb := B.bytes
  have hr := B.returns
  have hts : ∀ w ∈ LA, w.before _ s = true := fun w hw => atoms_spec (ws := wsw_ yL_kind cL_kind 4 (some .int) [(0, 9, 12, 13), (0, 9, 15, 15)]) B.pre w (List.mem_cons_of_mem _ hw)
  have htb : c.exceptionTable.toList = tableOf [(0, 9, 12, 13), (0, 9, 15, 15)] := vx_table (x := yL_kind) B (atoms_spec (ws := wsw_ yL_kind cL_kind 4 (some .int) [(0, 9, 12, 13), (0, 9, 15, 15)]) B.pre _ List.mem_cons_self)
  have hown : s.vm.findClass RL = some m.cls := findClass_of_methodNamed B.named
  have hlocks := B.notSynchronized
  subst hsz
  have hI : KI a := KI_of (fr_D (X := []) (Y := [(o, outE c5 g)]) hD0)
  have hD := hD0.self (sz := s.heap.size)
  generalize hAe : va_A (LW c5 a k o g) s.heap.size = A at hD ⊢
  have hA : ∀ q : Nat, s.heap.size ≤ q → A q := fun q h => by rw [← hAe]; exact Or.inr h
  have hS : va_S A s.heap s.heap [] := va_S.rf
  have hl := lv_entry ([.ref (aO a 0), .int p1, .ref o] : List Value) (n := 4) (Nat.le_of_ble_eq_true rfl)
  rw [lg_entry_eq]
  generalize (lg_sl ([.ref (aO a 0), .int p1, .ref o] : List Value) ++ List.replicate (4 - (lg_sl ([.ref (aO a 0), .int p1, .ref o] : List Value)).length) Slot.unset).toArray = ls at hl ⊢
  have hl : lv_has ls 4 [(0, .ref (aO a 0)), (1, .int p1), (2, .ref o)] := hl
  refine lv_aload_n hx hb dL_kind_0 rfl (lv_at hl 2 rfl) ?_
  refine lv_iconst (v := (0 : Int32)) hx hb dL_kind_1 (by decide) ?_
  refine lv_aload_n hx hb dL_kind_2 rfl (lv_at hl 0 rfl) ?_
  refine lv_iload_n hx hb dL_kind_3 rfl (lv_at hl 1 rfl) ?_
  cases res with
  | ok r =>
    refine fr_calli (wc := KW c5 a k) (X := []) (Y := [(o, outE c5 g)]) (rw_runV (As := [.int p1]) (rest := [.int (0 : Int32), .ref o]) ⟨hx, hb, hml, hown, hts⟩ (fr_P (X := []) (Y := [(o, outE c5 g)]) hP) hK (fr_D (X := []) (Y := [(o, outE c5 g)]) hD) (c_X2_kind l D c5 a k s.heap.size p1 r h) gG_RL_7 (va_recv hK hP (ci := 2) (q0 := 0) rfl rfl) hd_X2_kind ⟨Nat.le_of_ble_eq_true rfl, Nat.le_of_ble_eq_true rfl⟩ ⟨rfl, rfl⟩ hl.1 (Nat.le_of_ble_eq_true rfl) dL_kind_4 ⟨Nat.le_of_ble_eq_true rfl, Nat.le_of_ble_eq_true rfl⟩ rfl) hP hD hS hA (fun x u H locs hpost hP hD hS => ?_)
    obtain ⟨ua, uk⟩ := u
    obtain ⟨rfl, rfl, ha1⟩ := hpost
    have hP : va_P D vwCl (LW c5 ua r.2 o g) _ := hP
    have hD : va_D A (LW c5 ua r.2 o g) := hD
    refine lv_i2l (v := (r.1).toInt64) hx hb dL_kind_7 rfl ?_
    refine va_last hx hb hK hP hD hS (KW c5 ua r.2).length 4 (LW_o c5 ua r.2 o g) rfl (inb_in (i := 0) (n := 1) rfl) dL_kind_8 (fun H locs hP hD hS => ?_)
    have hP := wP (LW_set c5 ua r.2 o g _) hP
    have hD := wD (LW_set c5 ua r.2 o g _) hD
    refine lv_goto (tgt := 18) hx hb dL_kind_9 (by decide) ?_
    refine lv_iconst (v := (0 : Int32)) hx hb dL_kind_18 (by decide) ?_
    refine W.widen (k := 1) (n := 6) (Nat.le_of_ble_eq_true rfl) (Nat.le_of_ble_eq_true rfl) ?_
    exact W.iret hx hb hr (fun t ht hW => ⟨⟨_, (ua, r.2, vp_updL g 0 (r.1).toInt64), rfl, ⟨ha1, rfl, rfl, rfl⟩, by rw [ht]; exact hP, va_K.moved hW.alike hK, hD⟩, hS.F ht⟩) hS.2.2 dL_kind_19 hlocks
  | error E =>
    refine er_catch (er_runV (As := [.int p1]) (rest := [.int (0 : Int32), .ref o]) ⟨hx, hb, hml, hown, hts⟩ (fr_P (X := []) (Y := [(o, outE c5 g)]) hP) hK hX (x_X2_kind l D c5 a k sx hflags p1 E h) gG_RL_7 (va_recv hK hP (ci := 2) (q0 := 0) rfl rfl) hd_X2_kind ⟨Nat.le_of_ble_eq_true rfl, Nat.le_of_ble_eq_true rfl⟩ ⟨rfl, rfl⟩ hl.1 (Nat.le_of_ble_eq_true rfl) dL_kind_4 ⟨Nat.le_of_ble_eq_true rfl, Nat.le_of_ble_eq_true rfl⟩ rfl) (fun ce q9 H hz hkp hce hcv hcl => ?_)
    have hP : va_P D vwCl (LW c5 a k o g) H := fun i q hi => (hP i q hi).kept (hkp q.1 (hP i q hi).lt)
    have hS : va_S A s.heap H [] := ⟨hz, fun q hq _ => hkp q hq, no_locs⟩
    have hEE := hE E rfl
    rcases List.mem_cons.mp hEE with rfl | hEE
    · skip
      refine vx_catch (own := RL) (name := exIA) (E := exIA) hown [] ⟨0, 9, 12, 13⟩ [⟨0, 9, 15, 15⟩] (htb.trans rfl) (fun _ h9 => absurd h9 List.not_mem_nil) rfl (by decide) (hts _ wT2_45) (va_Nw.use rfl (hX.2.2.2.1 exIA (by decide +kernel))) hce hcv hcl ?_
      refine lv_astore_n (i := 3) (lv' := [(3, .ref q9), (0, .ref (aO a 0)), (1, .int p1), (2, .ref o)]) hx hb dL_kind_12 rfl hl (by decide) rfl (fun ls hl => ?_)
      refine lv_iconst (v := (1 : Int32)) hx hb dL_kind_13 (by decide) ?_
      exact W.iret hx hb hr (fun t ht hW => ⟨⟨_, (a, k, g), rfl, ⟨rfl, rfl, rfl⟩, by rw [ht]; exact hP, va_K.moved hW.alike hK, hD⟩, hS.F ht⟩) hS.2.2 dL_kind_14 hlocks
    · obtain rfl := List.mem_singleton.mp hEE
      refine vx_catch (own := RL) (name := exIS) (E := exIS) hown [⟨0, 9, 12, 13⟩] ⟨0, 9, 15, 15⟩ [] (htb.trans rfl) (fun z hz9 => by obtain rfl := List.mem_singleton.mp hz9; exact Or.inr ⟨by decide, exIA, hts _ wT2_45, hN (exIS, exIA) (by decide +kernel)⟩) rfl (by decide) (hts _ wT2_46) (va_Nw.use rfl (hX.2.2.2.1 exIS (by decide +kernel))) hce hcv hcl ?_
      refine lv_astore_n (i := 3) (lv' := [(3, .ref q9), (0, .ref (aO a 0)), (1, .int p1), (2, .ref o)]) hx hb dL_kind_15 rfl hl (by decide) rfl (fun ls hl => ?_)
      refine lv_iconst (v := (2 : Int32)) hx hb dL_kind_16 (by decide) ?_
      exact W.iret hx hb hr (fun t ht hW => ⟨⟨_, (a, k, g), rfl, ⟨rfl, rfl, rfl⟩, by rw [ht]; exact hP, va_K.moved hW.alike hK, hD⟩, hS.F ht⟩) hS.2.2 dL_kind_17 hlocks
set_option maxHeartbeats 4000000 in
set_option maxRecDepth 100000 in
theorem c_L_setWay (l : Launch) (D : va_G) (c5 : Nat → ClassId) (a : KAd) (k : KSt) (o : Nat) (g : Nat → Int64) (sx : Nat → Nat) (hflags : l.flags = flags0) (sz : Nat) (p1 : Int32) (res : Except String (Int32 × KSt)) (h : R_X2_setWay k p1 = some res) (hE : ∀ E, res = .error E → E ∈ [exIO]) : Met l yL_setWay (wsw_ yL_setWay cL_setWay 4 (some .int) [(0, 9, 12, 20)]) { frames := 7, cells := 1, slots := 6, locals := 112 } (va_Pc [.ref (aO a 0), .int p1, .ref o] (lwB D c5 a k o g sx sz)) (va_Qi (lwQ cdIO a k res) (rwE D (tyG c5) (va_A (LW c5 a k o g) sz) (fun u => LW c5 u.1 u.2.1 o u.2.2)) (va_A (LW c5 a k o g) sz)) 1 6 (va_A (LW c5 a k o g) sz) := by
  refine Met.ofWH (cc := cL_setWay) (maxL := 4) (ret := some .int) (hh := [(0, 9, 12, 20)]) (by decide) rfl ?_
  intro p e s m args below meth c s₁ B hml hv
  obtain ⟨rfl, hsz, hP, hK, hD0, hX, hN⟩ := hv
  have hx := B.exec
  have hb := B.bytes
  have hr := B.returns
  have hts : ∀ w ∈ LA, w.before _ s = true := fun w hw => atoms_spec (ws := wsw_ yL_setWay cL_setWay 4 (some .int) [(0, 9, 12, 20)]) B.pre w (List.mem_cons_of_mem _ hw)
  have htb : c.exceptionTable.toList = tableOf [(0, 9, 12, 20)] := vx_table (x := yL_setWay) B (atoms_spec (ws := wsw_ yL_setWay cL_setWay 4 (some .int) [(0, 9, 12, 20)]) B.pre _ List.mem_cons_self)
  have hown : s.vm.findClass RL = some m.cls := findClass_of_methodNamed B.named
  have hlocks := B.notSynchronized
  subst hsz
  have hI : KI a := KI_of (fr_D (X := []) (Y := [(o, outE c5 g)]) hD0)
  have hD := hD0.self (sz := s.heap.size)
  generalize hAe : va_A (LW c5 a k o g) s.heap.size = A at hD ⊢
  have hA : ∀ q : Nat, s.heap.size ≤ q → A q := fun q h => by rw [← hAe]; exact Or.inr h
  have hS : va_S A s.heap s.heap [] := va_S.rf
  have hl := lv_entry ([.ref (aO a 0), .int p1, .ref o] : List Value) (n := 4) (Nat.le_of_ble_eq_true rfl)
  rw [lg_entry_eq]
  generalize (lg_sl ([.ref (aO a 0), .int p1, .ref o] : List Value) ++ List.replicate (4 - (lg_sl ([.ref (aO a 0), .int p1, .ref o] : List Value)).length) Slot.unset).toArray = ls at hl ⊢
  have hl : lv_has ls 4 [(0, .ref (aO a 0)), (1, .int p1), (2, .ref o)] := hl
  refine lv_aload_n hx hb dL_setWay_0 rfl (lv_at hl 2 rfl) ?_
  refine lv_iconst (v := (0 : Int32)) hx hb dL_setWay_1 (by decide) ?_
  refine lv_aload_n hx hb dL_setWay_2 rfl (lv_at hl 0 rfl) ?_
  refine lv_iload_n hx hb dL_setWay_3 rfl (lv_at hl 1 rfl) ?_
  cases res with
  | ok r =>
    refine fr_calli (wc := KW c5 a k) (X := []) (Y := [(o, outE c5 g)]) (rw_runV (As := [.int p1]) (rest := [.int (0 : Int32), .ref o]) ⟨hx, hb, hml, hown, hts⟩ (fr_P (X := []) (Y := [(o, outE c5 g)]) hP) hK (fr_D (X := []) (Y := [(o, outE c5 g)]) hD) (c_X2_setWay l D c5 a k hI s.heap.size p1 r h) gG_RL_17 (va_recv hK hP (ci := 2) (q0 := 0) rfl rfl) hd_X2_setWay ⟨Nat.le_of_ble_eq_true rfl, Nat.le_of_ble_eq_true rfl⟩ ⟨rfl, rfl⟩ hl.1 (Nat.le_of_ble_eq_true rfl) dL_setWay_4 ⟨Nat.le_of_ble_eq_true rfl, Nat.le_of_ble_eq_true rfl⟩ rfl) hP hD hS hA (fun x u H locs hpost hP hD hS => ?_)
    obtain ⟨rfl, rfl⟩ := hpost
    have ha1 : a.1 = a.1 := rfl
    have hP : va_P D vwCl (LW c5 a r.2 o g) _ := hP
    have hD : va_D A (LW c5 a r.2 o g) := hD
    refine lv_i2l (v := (r.1).toInt64) hx hb dL_setWay_7 rfl ?_
    refine va_last hx hb hK hP hD hS (KW c5 a r.2).length 4 (LW_o c5 a r.2 o g) rfl (inb_in (i := 0) (n := 1) rfl) dL_setWay_8 (fun H locs hP hD hS => ?_)
    have hP := wP (LW_set c5 a r.2 o g _) hP
    have hD := wD (LW_set c5 a r.2 o g _) hD
    refine lv_goto (tgt := 15) hx hb dL_setWay_9 (by decide) ?_
    refine lv_iconst (v := (0 : Int32)) hx hb dL_setWay_15 (by decide) ?_
    refine W.widen (k := 1) (n := 6) (Nat.le_of_ble_eq_true rfl) (Nat.le_of_ble_eq_true rfl) ?_
    exact W.iret hx hb hr (fun t ht hW => ⟨⟨_, (a, r.2, vp_updL g 0 (r.1).toInt64), rfl, ⟨ha1, rfl, rfl, rfl⟩, by rw [ht]; exact hP, va_K.moved hW.alike hK, hD⟩, hS.F ht⟩) hS.2.2 dL_setWay_16 hlocks
  | error E =>
    refine er_catch (er_runV (As := [.int p1]) (rest := [.int (0 : Int32), .ref o]) ⟨hx, hb, hml, hown, hts⟩ (fr_P (X := []) (Y := [(o, outE c5 g)]) hP) hK hX (x_X2_setWay l D c5 a k hI sx hflags p1 E h) gG_RL_17 (va_recv hK hP (ci := 2) (q0 := 0) rfl rfl) hd_X2_setWay ⟨Nat.le_of_ble_eq_true rfl, Nat.le_of_ble_eq_true rfl⟩ ⟨rfl, rfl⟩ hl.1 (Nat.le_of_ble_eq_true rfl) dL_setWay_4 ⟨Nat.le_of_ble_eq_true rfl, Nat.le_of_ble_eq_true rfl⟩ rfl) (fun ce q9 H hz hkp hce hcv hcl => ?_)
    have hP : va_P D vwCl (LW c5 a k o g) H := fun i q hi => (hP i q hi).kept (hkp q.1 (hP i q hi).lt)
    have hS : va_S A s.heap H [] := ⟨hz, fun q hq _ => hkp q hq, no_locs⟩
    have hEE := hE E rfl
    obtain rfl := List.mem_singleton.mp hEE
    refine vx_catch (own := RL) (name := exIO) (E := exIO) hown [] ⟨0, 9, 12, 20⟩ [] (htb.trans rfl) (fun _ h9 => absurd h9 List.not_mem_nil) rfl (by decide) (hts _ wT2_120) (va_Nw.use rfl (hX.2.2.2.1 exIO (by decide +kernel))) hce hcv hcl ?_
    refine lv_astore_n (i := 3) (lv' := [(3, .ref q9), (0, .ref (aO a 0)), (1, .int p1), (2, .ref o)]) hx hb dL_setWay_12 rfl hl (by decide) rfl (fun ls hl => ?_)
    refine lv_iconst (v := (1 : Int32)) hx hb dL_setWay_13 (by decide) ?_
    exact W.iret hx hb hr (fun t ht hW => ⟨⟨_, (a, k, g), rfl, ⟨rfl, rfl, rfl⟩, by rw [ht]; exact hP, va_K.moved hW.alike hK, hD⟩, hS.F ht⟩) hS.2.2 dL_setWay_14 hlocks
set_option maxHeartbeats 4000000 in
set_option maxRecDepth 100000 in
theorem c_L_put (l : Launch) (D : va_G) (c5 : Nat → ClassId) (a : KAd) (k : KSt) (o : Nat) (g : Nat → Int64) (sx : Nat → Nat) (hflags : l.flags = flags0) (sz : Nat) (p1 : Int32) (res : Except String (Int32 × KSt)) (h : R_X2_put k p1 = some res) (hE : ∀ E, res = .error E → E ∈ [exIO, exIS]) : Met l yL_put (wsw_ yL_put cL_put 4 (some .int) [(0, 9, 12, 20), (0, 9, 15, 15)]) { frames := 8, cells := 1, slots := 6, locals := 135 } (va_Pc [.ref (aO a 0), .int p1, .ref o] (lwB D c5 a k o g sx sz)) (va_Qi (lwQ cdIOIS a k res) (rwE D (tyG c5) (va_A (LW c5 a k o g) sz) (fun u => LW c5 u.1 u.2.1 o u.2.2)) (va_A (LW c5 a k o g) sz)) 1 6 (va_A (LW c5 a k o g) sz) := by
  refine Met.ofWH (cc := cL_put) (maxL := 4) (ret := some .int) (hh := [(0, 9, 12, 20), (0, 9, 15, 15)]) (by decide) rfl ?_
  intro p e s m args below meth c s₁ B hml hv
  obtain ⟨rfl, hsz, hP, hK, hD0, hX, hN⟩ := hv
  have hx := B.exec
  have hb := B.bytes
  have hr := B.returns
  have hts : ∀ w ∈ LA, w.before _ s = true := fun w hw => atoms_spec (ws := wsw_ yL_put cL_put 4 (some .int) [(0, 9, 12, 20), (0, 9, 15, 15)]) B.pre w (List.mem_cons_of_mem _ hw)
  have htb : c.exceptionTable.toList = tableOf [(0, 9, 12, 20), (0, 9, 15, 15)] := vx_table (x := yL_put) B (atoms_spec (ws := wsw_ yL_put cL_put 4 (some .int) [(0, 9, 12, 20), (0, 9, 15, 15)]) B.pre _ List.mem_cons_self)
  have hown : s.vm.findClass RL = some m.cls := findClass_of_methodNamed B.named
  have hlocks := B.notSynchronized
  subst hsz
  have hI : KI a := KI_of (fr_D (X := []) (Y := [(o, outE c5 g)]) hD0)
  have hD := hD0.self (sz := s.heap.size)
  generalize hAe : va_A (LW c5 a k o g) s.heap.size = A at hD ⊢
  have hA : ∀ q : Nat, s.heap.size ≤ q → A q := fun q h => by rw [← hAe]; exact Or.inr h
  have hS : va_S A s.heap s.heap [] := va_S.rf
  have hl := lv_entry ([.ref (aO a 0), .int p1, .ref o] : List Value) (n := 4) (Nat.le_of_ble_eq_true rfl)
  rw [lg_entry_eq]
  generalize (lg_sl ([.ref (aO a 0), .int p1, .ref o] : List Value) ++ List.replicate (4 - (lg_sl ([.ref (aO a 0), .int p1, .ref o] : List Value)).length) Slot.unset).toArray = ls at hl ⊢
  have hl : lv_has ls 4 [(0, .ref (aO a 0)), (1, .int p1), (2, .ref o)] := hl
  refine lv_aload_n hx hb dL_put_0 rfl (lv_at hl 2 rfl) ?_
  refine lv_iconst (v := (0 : Int32)) hx hb dL_put_1 (by decide) ?_
  refine lv_aload_n hx hb dL_put_2 rfl (lv_at hl 0 rfl) ?_
  refine lv_iload_n hx hb dL_put_3 rfl (lv_at hl 1 rfl) ?_
  cases res with
  | ok r =>
    refine fr_calli (wc := KW c5 a k) (X := []) (Y := [(o, outE c5 g)]) (rw_runV (As := [.int p1]) (rest := [.int (0 : Int32), .ref o]) ⟨hx, hb, hml, hown, hts⟩ (fr_P (X := []) (Y := [(o, outE c5 g)]) hP) hK (fr_D (X := []) (Y := [(o, outE c5 g)]) hD) (c_X2_put l D c5 a k hI s.heap.size p1 r h) gG_RL_22 (va_recv hK hP (ci := 2) (q0 := 0) rfl rfl) hd_X2_put ⟨Nat.le_of_ble_eq_true rfl, Nat.le_of_ble_eq_true rfl⟩ ⟨rfl, rfl⟩ hl.1 (Nat.le_of_ble_eq_true rfl) dL_put_4 ⟨Nat.le_of_ble_eq_true rfl, Nat.le_of_ble_eq_true rfl⟩ rfl) hP hD hS hA (fun x u H locs hpost hP hD hS => ?_)
    obtain ⟨rfl, rfl⟩ := hpost
    have ha1 : a.1 = a.1 := rfl
    have hP : va_P D vwCl (LW c5 a r.2 o g) _ := hP
    have hD : va_D A (LW c5 a r.2 o g) := hD
    refine lv_i2l (v := (r.1).toInt64) hx hb dL_put_7 rfl ?_
    refine va_last hx hb hK hP hD hS (KW c5 a r.2).length 4 (LW_o c5 a r.2 o g) rfl (inb_in (i := 0) (n := 1) rfl) dL_put_8 (fun H locs hP hD hS => ?_)
    have hP := wP (LW_set c5 a r.2 o g _) hP
    have hD := wD (LW_set c5 a r.2 o g _) hD
    refine lv_goto (tgt := 18) hx hb dL_put_9 (by decide) ?_
    refine lv_iconst (v := (0 : Int32)) hx hb dL_put_18 (by decide) ?_
    refine W.widen (k := 1) (n := 6) (Nat.le_of_ble_eq_true rfl) (Nat.le_of_ble_eq_true rfl) ?_
    exact W.iret hx hb hr (fun t ht hW => ⟨⟨_, (a, r.2, vp_updL g 0 (r.1).toInt64), rfl, ⟨ha1, rfl, rfl, rfl⟩, by rw [ht]; exact hP, va_K.moved hW.alike hK, hD⟩, hS.F ht⟩) hS.2.2 dL_put_19 hlocks
  | error E =>
    refine er_catch (er_runV (As := [.int p1]) (rest := [.int (0 : Int32), .ref o]) ⟨hx, hb, hml, hown, hts⟩ (fr_P (X := []) (Y := [(o, outE c5 g)]) hP) hK hX (x_X2_put l D c5 a k hI sx hflags p1 E h) gG_RL_22 (va_recv hK hP (ci := 2) (q0 := 0) rfl rfl) hd_X2_put ⟨Nat.le_of_ble_eq_true rfl, Nat.le_of_ble_eq_true rfl⟩ ⟨rfl, rfl⟩ hl.1 (Nat.le_of_ble_eq_true rfl) dL_put_4 ⟨Nat.le_of_ble_eq_true rfl, Nat.le_of_ble_eq_true rfl⟩ rfl) (fun ce q9 H hz hkp hce hcv hcl => ?_)
    have hP : va_P D vwCl (LW c5 a k o g) H := fun i q hi => (hP i q hi).kept (hkp q.1 (hP i q hi).lt)
    have hS : va_S A s.heap H [] := ⟨hz, fun q hq _ => hkp q hq, no_locs⟩
    have hEE := hE E rfl
    rcases List.mem_cons.mp hEE with rfl | hEE
    · skip
      refine vx_catch (own := RL) (name := exIO) (E := exIO) hown [] ⟨0, 9, 12, 20⟩ [⟨0, 9, 15, 15⟩] (htb.trans rfl) (fun _ h9 => absurd h9 List.not_mem_nil) rfl (by decide) (hts _ wT2_120) (va_Nw.use rfl (hX.2.2.2.1 exIO (by decide +kernel))) hce hcv hcl ?_
      refine lv_astore_n (i := 3) (lv' := [(3, .ref q9), (0, .ref (aO a 0)), (1, .int p1), (2, .ref o)]) hx hb dL_put_12 rfl hl (by decide) rfl (fun ls hl => ?_)
      refine lv_iconst (v := (1 : Int32)) hx hb dL_put_13 (by decide) ?_
      exact W.iret hx hb hr (fun t ht hW => ⟨⟨_, (a, k, g), rfl, ⟨rfl, rfl, rfl⟩, by rw [ht]; exact hP, va_K.moved hW.alike hK, hD⟩, hS.F ht⟩) hS.2.2 dL_put_14 hlocks
    · obtain rfl := List.mem_singleton.mp hEE
      refine vx_catch (own := RL) (name := exIS) (E := exIS) hown [⟨0, 9, 12, 20⟩] ⟨0, 9, 15, 15⟩ [] (htb.trans rfl) (fun z hz9 => by obtain rfl := List.mem_singleton.mp hz9; exact Or.inr ⟨by decide, exIO, hts _ wT2_120, hN (exIS, exIO) (by decide +kernel)⟩) rfl (by decide) (hts _ wT2_46) (va_Nw.use rfl (hX.2.2.2.1 exIS (by decide +kernel))) hce hcv hcl ?_
      refine lv_astore_n (i := 3) (lv' := [(3, .ref q9), (0, .ref (aO a 0)), (1, .int p1), (2, .ref o)]) hx hb dL_put_15 rfl hl (by decide) rfl (fun ls hl => ?_)
      refine lv_iconst (v := (2 : Int32)) hx hb dL_put_16 (by decide) ?_
      exact W.iret hx hb hr (fun t ht hW => ⟨⟨_, (a, k, g), rfl, ⟨rfl, rfl, rfl⟩, by rw [ht]; exact hP, va_K.moved hW.alike hK, hD⟩, hS.F ht⟩) hS.2.2 dL_put_17 hlocks
set_option maxHeartbeats 4000000 in
set_option maxRecDepth 100000 in
theorem c_L_take (l : Launch) (D : va_G) (c5 : Nat → ClassId) (a : KAd) (k : KSt) (o : Nat) (g : Nat → Int64) (sx : Nat → Nat) (hflags : l.flags = flags0) (sz : Nat) (p1 : Int32) (res : Except String (Int32 × KSt)) (h : R_X2_take k p1 = some res) (hE : ∀ E, res = .error E → E ∈ [exIO, exIA]) : Met l yL_take (wsw_ yL_take cL_take 4 (some .int) [(0, 9, 12, 20), (0, 9, 15, 13)]) { frames := 8, cells := 1, slots := 6, locals := 134 } (va_Pc [.ref (aO a 0), .int p1, .ref o] (lwB D c5 a k o g sx sz)) (va_Qi (lwQ cdIOIA a k res) (rwE D (tyG c5) (va_A (LW c5 a k o g) sz) (fun u => LW c5 u.1 u.2.1 o u.2.2)) (va_A (LW c5 a k o g) sz)) 1 6 (va_A (LW c5 a k o g) sz) := by
  refine Met.ofWH (cc := cL_take) (maxL := 4) (ret := some .int) (hh := [(0, 9, 12, 20), (0, 9, 15, 13)]) (by decide) rfl ?_
  intro p e s m args below meth c s₁ B hml hv
  obtain ⟨rfl, hsz, hP, hK, hD0, hX, hN⟩ := hv
  have hx := B.exec
  have hb := B.bytes
  have hr := B.returns
  have hts : ∀ w ∈ LA, w.before _ s = true := fun w hw => atoms_spec (ws := wsw_ yL_take cL_take 4 (some .int) [(0, 9, 12, 20), (0, 9, 15, 13)]) B.pre w (List.mem_cons_of_mem _ hw)
  have htb : c.exceptionTable.toList = tableOf [(0, 9, 12, 20), (0, 9, 15, 13)] := vx_table (x := yL_take) B (atoms_spec (ws := wsw_ yL_take cL_take 4 (some .int) [(0, 9, 12, 20), (0, 9, 15, 13)]) B.pre _ List.mem_cons_self)
  have hown : s.vm.findClass RL = some m.cls := findClass_of_methodNamed B.named
  have hlocks := B.notSynchronized
  subst hsz
  have hI : KI a := KI_of (fr_D (X := []) (Y := [(o, outE c5 g)]) hD0)
  have hD := hD0.self (sz := s.heap.size)
  generalize hAe : va_A (LW c5 a k o g) s.heap.size = A at hD ⊢
  have hA : ∀ q : Nat, s.heap.size ≤ q → A q := fun q h => by rw [← hAe]; exact Or.inr h
  have hS : va_S A s.heap s.heap [] := va_S.rf
  have hl := lv_entry ([.ref (aO a 0), .int p1, .ref o] : List Value) (n := 4) (Nat.le_of_ble_eq_true rfl)
  rw [lg_entry_eq]
  generalize (lg_sl ([.ref (aO a 0), .int p1, .ref o] : List Value) ++ List.replicate (4 - (lg_sl ([.ref (aO a 0), .int p1, .ref o] : List Value)).length) Slot.unset).toArray = ls at hl ⊢
  have hl : lv_has ls 4 [(0, .ref (aO a 0)), (1, .int p1), (2, .ref o)] := hl
  refine lv_aload_n hx hb dL_take_0 rfl (lv_at hl 2 rfl) ?_
  refine lv_iconst (v := (0 : Int32)) hx hb dL_take_1 (by decide) ?_
  refine lv_aload_n hx hb dL_take_2 rfl (lv_at hl 0 rfl) ?_
  refine lv_iload_n hx hb dL_take_3 rfl (lv_at hl 1 rfl) ?_
  cases res with
  | ok r =>
    refine fr_calli (wc := KW c5 a k) (X := []) (Y := [(o, outE c5 g)]) (rw_runV (As := [.int p1]) (rest := [.int (0 : Int32), .ref o]) ⟨hx, hb, hml, hown, hts⟩ (fr_P (X := []) (Y := [(o, outE c5 g)]) hP) hK (fr_D (X := []) (Y := [(o, outE c5 g)]) hD) (c_X2_take l D c5 a k hI s.heap.size p1 r h) gG_RL_25 (va_recv hK hP (ci := 2) (q0 := 0) rfl rfl) hd_X2_take ⟨Nat.le_of_ble_eq_true rfl, Nat.le_of_ble_eq_true rfl⟩ ⟨rfl, rfl⟩ hl.1 (Nat.le_of_ble_eq_true rfl) dL_take_4 ⟨Nat.le_of_ble_eq_true rfl, Nat.le_of_ble_eq_true rfl⟩ rfl) hP hD hS hA (fun x u H locs hpost hP hD hS => ?_)
    obtain ⟨rfl, rfl⟩ := hpost
    have ha1 : a.1 = a.1 := rfl
    have hP : va_P D vwCl (LW c5 a r.2 o g) _ := hP
    have hD : va_D A (LW c5 a r.2 o g) := hD
    refine lv_i2l (v := (r.1).toInt64) hx hb dL_take_7 rfl ?_
    refine va_last hx hb hK hP hD hS (KW c5 a r.2).length 4 (LW_o c5 a r.2 o g) rfl (inb_in (i := 0) (n := 1) rfl) dL_take_8 (fun H locs hP hD hS => ?_)
    have hP := wP (LW_set c5 a r.2 o g _) hP
    have hD := wD (LW_set c5 a r.2 o g _) hD
    refine lv_goto (tgt := 18) hx hb dL_take_9 (by decide) ?_
    refine lv_iconst (v := (0 : Int32)) hx hb dL_take_18 (by decide) ?_
    refine W.widen (k := 1) (n := 6) (Nat.le_of_ble_eq_true rfl) (Nat.le_of_ble_eq_true rfl) ?_
    exact W.iret hx hb hr (fun t ht hW => ⟨⟨_, (a, r.2, vp_updL g 0 (r.1).toInt64), rfl, ⟨ha1, rfl, rfl, rfl⟩, by rw [ht]; exact hP, va_K.moved hW.alike hK, hD⟩, hS.F ht⟩) hS.2.2 dL_take_19 hlocks
  | error E =>
    refine er_catch (er_runV (As := [.int p1]) (rest := [.int (0 : Int32), .ref o]) ⟨hx, hb, hml, hown, hts⟩ (fr_P (X := []) (Y := [(o, outE c5 g)]) hP) hK hX (x_X2_take l D c5 a k hI sx hflags p1 E h) gG_RL_25 (va_recv hK hP (ci := 2) (q0 := 0) rfl rfl) hd_X2_take ⟨Nat.le_of_ble_eq_true rfl, Nat.le_of_ble_eq_true rfl⟩ ⟨rfl, rfl⟩ hl.1 (Nat.le_of_ble_eq_true rfl) dL_take_4 ⟨Nat.le_of_ble_eq_true rfl, Nat.le_of_ble_eq_true rfl⟩ rfl) (fun ce q9 H hz hkp hce hcv hcl => ?_)
    have hP : va_P D vwCl (LW c5 a k o g) H := fun i q hi => (hP i q hi).kept (hkp q.1 (hP i q hi).lt)
    have hS : va_S A s.heap H [] := ⟨hz, fun q hq _ => hkp q hq, no_locs⟩
    have hEE := hE E rfl
    rcases List.mem_cons.mp hEE with rfl | hEE
    · skip
      refine vx_catch (own := RL) (name := exIO) (E := exIO) hown [] ⟨0, 9, 12, 20⟩ [⟨0, 9, 15, 13⟩] (htb.trans rfl) (fun _ h9 => absurd h9 List.not_mem_nil) rfl (by decide) (hts _ wT2_120) (va_Nw.use rfl (hX.2.2.2.1 exIO (by decide +kernel))) hce hcv hcl ?_
      refine lv_astore_n (i := 3) (lv' := [(3, .ref q9), (0, .ref (aO a 0)), (1, .int p1), (2, .ref o)]) hx hb dL_take_12 rfl hl (by decide) rfl (fun ls hl => ?_)
      refine lv_iconst (v := (1 : Int32)) hx hb dL_take_13 (by decide) ?_
      exact W.iret hx hb hr (fun t ht hW => ⟨⟨_, (a, k, g), rfl, ⟨rfl, rfl, rfl⟩, by rw [ht]; exact hP, va_K.moved hW.alike hK, hD⟩, hS.F ht⟩) hS.2.2 dL_take_14 hlocks
    · obtain rfl := List.mem_singleton.mp hEE
      refine vx_catch (own := RL) (name := exIA) (E := exIA) hown [⟨0, 9, 12, 20⟩] ⟨0, 9, 15, 13⟩ [] (htb.trans rfl) (fun z hz9 => by obtain rfl := List.mem_singleton.mp hz9; exact Or.inr ⟨by decide, exIO, hts _ wT2_120, hN (exIA, exIO) (by decide +kernel)⟩) rfl (by decide) (hts _ wT2_45) (va_Nw.use rfl (hX.2.2.2.1 exIA (by decide +kernel))) hce hcv hcl ?_
      refine lv_astore_n (i := 3) (lv' := [(3, .ref q9), (0, .ref (aO a 0)), (1, .int p1), (2, .ref o)]) hx hb dL_take_15 rfl hl (by decide) rfl (fun ls hl => ?_)
      refine lv_iconst (v := (2 : Int32)) hx hb dL_take_16 (by decide) ?_
      exact W.iret hx hb hr (fun t ht hW => ⟨⟨_, (a, k, g), rfl, ⟨rfl, rfl, rfl⟩, by rw [ht]; exact hP, va_K.moved hW.alike hK, hD⟩, hS.F ht⟩) hS.2.2 dL_take_17 hlocks
set_option maxHeartbeats 4000000 in
set_option maxRecDepth 100000 in
theorem c_L_reap (l : Launch) (D : va_G) (c5 : Nat → ClassId) (a : KAd) (k : KSt) (o : Nat) (g : Nat → Int64) (sx : Nat → Nat) (hflags : l.flags = flags0) (sz : Nat) (p1 : Int32) (res : Except String (Int32 × KSt)) (h : R_X2_reap k p1 = some res) (hE : ∀ E, res = .error E → E ∈ [exIA]) : Met l yL_reap (wsw_ yL_reap cL_reap 4 (some .int) [(0, 9, 12, 13)]) { frames := 7, cells := 1, slots := 6, locals := 116 } (va_Pc [.ref (aO a 0), .int p1, .ref o] (lwB D c5 a k o g sx sz)) (va_Qi (lwQ cdIA a k res) (rwE D (tyG c5) (va_A (LW c5 a k o g) sz) (fun u => LW c5 u.1 u.2.1 o u.2.2)) (va_A (LW c5 a k o g) sz)) 1 6 (va_A (LW c5 a k o g) sz) := by
  refine Met.ofWH (cc := cL_reap) (maxL := 4) (ret := some .int) (hh := [(0, 9, 12, 13)]) (by decide) rfl ?_
  intro p e s m args below meth c s₁ B hml hv
  obtain ⟨rfl, hsz, hP, hK, hD0, hX, hN⟩ := hv
  have hx := B.exec
  have hb := B.bytes
  have hr := B.returns
  have hts : ∀ w ∈ LA, w.before _ s = true := fun w hw => atoms_spec (ws := wsw_ yL_reap cL_reap 4 (some .int) [(0, 9, 12, 13)]) B.pre w (List.mem_cons_of_mem _ hw)
  have htb : c.exceptionTable.toList = tableOf [(0, 9, 12, 13)] := vx_table (x := yL_reap) B (atoms_spec (ws := wsw_ yL_reap cL_reap 4 (some .int) [(0, 9, 12, 13)]) B.pre _ List.mem_cons_self)
  have hown : s.vm.findClass RL = some m.cls := findClass_of_methodNamed B.named
  have hlocks := B.notSynchronized
  subst hsz
  have hI : KI a := KI_of (fr_D (X := []) (Y := [(o, outE c5 g)]) hD0)
  have hD := hD0.self (sz := s.heap.size)
  generalize hAe : va_A (LW c5 a k o g) s.heap.size = A at hD ⊢
  have hA : ∀ q : Nat, s.heap.size ≤ q → A q := fun q h => by rw [← hAe]; exact Or.inr h
  have hS : va_S A s.heap s.heap [] := va_S.rf
  have hl := lv_entry ([.ref (aO a 0), .int p1, .ref o] : List Value) (n := 4) (Nat.le_of_ble_eq_true rfl)
  rw [lg_entry_eq]
  generalize (lg_sl ([.ref (aO a 0), .int p1, .ref o] : List Value) ++ List.replicate (4 - (lg_sl ([.ref (aO a 0), .int p1, .ref o] : List Value)).length) Slot.unset).toArray = ls at hl ⊢
  have hl : lv_has ls 4 [(0, .ref (aO a 0)), (1, .int p1), (2, .ref o)] := hl
  refine lv_aload_n hx hb dL_reap_0 rfl (lv_at hl 2 rfl) ?_
  refine lv_iconst (v := (0 : Int32)) hx hb dL_reap_1 (by decide) ?_
  refine lv_aload_n hx hb dL_reap_2 rfl (lv_at hl 0 rfl) ?_
  refine lv_iload_n hx hb dL_reap_3 rfl (lv_at hl 1 rfl) ?_
  cases res with
  | ok r =>
    refine fr_calli (wc := KW c5 a k) (X := []) (Y := [(o, outE c5 g)]) (rw_runV (As := [.int p1]) (rest := [.int (0 : Int32), .ref o]) ⟨hx, hb, hml, hown, hts⟩ (fr_P (X := []) (Y := [(o, outE c5 g)]) hP) hK (fr_D (X := []) (Y := [(o, outE c5 g)]) hD) (c_X2_reap l D c5 a k hI s.heap.size p1 r h) gG_RL_28 (va_recv hK hP (ci := 2) (q0 := 0) rfl rfl) hd_X2_reap ⟨Nat.le_of_ble_eq_true rfl, Nat.le_of_ble_eq_true rfl⟩ ⟨rfl, rfl⟩ hl.1 (Nat.le_of_ble_eq_true rfl) dL_reap_4 ⟨Nat.le_of_ble_eq_true rfl, Nat.le_of_ble_eq_true rfl⟩ rfl) hP hD hS hA (fun x u H locs hpost hP hD hS => ?_)
    obtain ⟨rfl, rfl⟩ := hpost
    have ha1 : a.1 = a.1 := rfl
    have hP : va_P D vwCl (LW c5 a r.2 o g) _ := hP
    have hD : va_D A (LW c5 a r.2 o g) := hD
    refine lv_i2l (v := (r.1).toInt64) hx hb dL_reap_7 rfl ?_
    refine va_last hx hb hK hP hD hS (KW c5 a r.2).length 4 (LW_o c5 a r.2 o g) rfl (inb_in (i := 0) (n := 1) rfl) dL_reap_8 (fun H locs hP hD hS => ?_)
    have hP := wP (LW_set c5 a r.2 o g _) hP
    have hD := wD (LW_set c5 a r.2 o g _) hD
    refine lv_goto (tgt := 15) hx hb dL_reap_9 (by decide) ?_
    refine lv_iconst (v := (0 : Int32)) hx hb dL_reap_15 (by decide) ?_
    refine W.widen (k := 1) (n := 6) (Nat.le_of_ble_eq_true rfl) (Nat.le_of_ble_eq_true rfl) ?_
    exact W.iret hx hb hr (fun t ht hW => ⟨⟨_, (a, r.2, vp_updL g 0 (r.1).toInt64), rfl, ⟨ha1, rfl, rfl, rfl⟩, by rw [ht]; exact hP, va_K.moved hW.alike hK, hD⟩, hS.F ht⟩) hS.2.2 dL_reap_16 hlocks
  | error E =>
    refine er_catch (er_runV (As := [.int p1]) (rest := [.int (0 : Int32), .ref o]) ⟨hx, hb, hml, hown, hts⟩ (fr_P (X := []) (Y := [(o, outE c5 g)]) hP) hK hX (x_X2_reap l D c5 a k hI sx hflags p1 E h) gG_RL_28 (va_recv hK hP (ci := 2) (q0 := 0) rfl rfl) hd_X2_reap ⟨Nat.le_of_ble_eq_true rfl, Nat.le_of_ble_eq_true rfl⟩ ⟨rfl, rfl⟩ hl.1 (Nat.le_of_ble_eq_true rfl) dL_reap_4 ⟨Nat.le_of_ble_eq_true rfl, Nat.le_of_ble_eq_true rfl⟩ rfl) (fun ce q9 H hz hkp hce hcv hcl => ?_)
    have hP : va_P D vwCl (LW c5 a k o g) H := fun i q hi => (hP i q hi).kept (hkp q.1 (hP i q hi).lt)
    have hS : va_S A s.heap H [] := ⟨hz, fun q hq _ => hkp q hq, no_locs⟩
    have hEE := hE E rfl
    obtain rfl := List.mem_singleton.mp hEE
    refine vx_catch (own := RL) (name := exIA) (E := exIA) hown [] ⟨0, 9, 12, 13⟩ [] (htb.trans rfl) (fun _ h9 => absurd h9 List.not_mem_nil) rfl (by decide) (hts _ wT2_45) (va_Nw.use rfl (hX.2.2.2.1 exIA (by decide +kernel))) hce hcv hcl ?_
    refine lv_astore_n (i := 3) (lv' := [(3, .ref q9), (0, .ref (aO a 0)), (1, .int p1), (2, .ref o)]) hx hb dL_reap_12 rfl hl (by decide) rfl (fun ls hl => ?_)
    refine lv_iconst (v := (1 : Int32)) hx hb dL_reap_13 (by decide) ?_
    exact W.iret hx hb hr (fun t ht hW => ⟨⟨_, (a, k, g), rfl, ⟨rfl, rfl, rfl⟩, by rw [ht]; exact hP, va_K.moved hW.alike hK, hD⟩, hS.F ht⟩) hS.2.2 dL_reap_14 hlocks
set_option maxHeartbeats 4000000 in
set_option maxRecDepth 100000 in
theorem c_L_pack (l : Launch) (D : va_G) (c5 : Nat → ClassId) (a : KAd) (k : KSt) (o : Nat) (g : Nat → Int64) (sx : Nat → Nat) (hflags : l.flags = flags0) (sz : Nat) (p1 : Int32) (res : Except String (Int32 × KSt)) (h : R_X2_pack k p1 = some res) (hE : ∀ E, res = .error E → E ∈ [exIO]) : Met l yL_pack (wsw_ yL_pack cL_pack 4 (some .int) [(0, 9, 12, 20)]) { frames := 8, cells := 1, slots := 6, locals := 134 } (va_Pc [.ref (aO a 0), .int p1, .ref o] (lwB D c5 a k o g sx sz)) (va_Qi (lwQ cdIO a k res) (rwE D (tyG c5) (va_A (LW c5 a k o g) sz) (fun u => LW c5 u.1 u.2.1 o u.2.2)) (va_A (LW c5 a k o g) sz)) 1 6 (va_A (LW c5 a k o g) sz) := by
  refine Met.ofWH (cc := cL_pack) (maxL := 4) (ret := some .int) (hh := [(0, 9, 12, 20)]) (by decide) rfl ?_
  intro p e s m args below meth c s₁ B hml hv
  obtain ⟨rfl, hsz, hP, hK, hD0, hX, hN⟩ := hv
  have hx := B.exec
  have hb := B.bytes
  have hr := B.returns
  have hts : ∀ w ∈ LA, w.before _ s = true := fun w hw => atoms_spec (ws := wsw_ yL_pack cL_pack 4 (some .int) [(0, 9, 12, 20)]) B.pre w (List.mem_cons_of_mem _ hw)
  have htb : c.exceptionTable.toList = tableOf [(0, 9, 12, 20)] := vx_table (x := yL_pack) B (atoms_spec (ws := wsw_ yL_pack cL_pack 4 (some .int) [(0, 9, 12, 20)]) B.pre _ List.mem_cons_self)
  have hown : s.vm.findClass RL = some m.cls := findClass_of_methodNamed B.named
  have hlocks := B.notSynchronized
  subst hsz
  have hI : KI a := KI_of (fr_D (X := []) (Y := [(o, outE c5 g)]) hD0)
  have hD := hD0.self (sz := s.heap.size)
  generalize hAe : va_A (LW c5 a k o g) s.heap.size = A at hD ⊢
  have hA : ∀ q : Nat, s.heap.size ≤ q → A q := fun q h => by rw [← hAe]; exact Or.inr h
  have hS : va_S A s.heap s.heap [] := va_S.rf
  have hl := lv_entry ([.ref (aO a 0), .int p1, .ref o] : List Value) (n := 4) (Nat.le_of_ble_eq_true rfl)
  rw [lg_entry_eq]
  generalize (lg_sl ([.ref (aO a 0), .int p1, .ref o] : List Value) ++ List.replicate (4 - (lg_sl ([.ref (aO a 0), .int p1, .ref o] : List Value)).length) Slot.unset).toArray = ls at hl ⊢
  have hl : lv_has ls 4 [(0, .ref (aO a 0)), (1, .int p1), (2, .ref o)] := hl
  refine lv_aload_n hx hb dL_pack_0 rfl (lv_at hl 2 rfl) ?_
  refine lv_iconst (v := (0 : Int32)) hx hb dL_pack_1 (by decide) ?_
  refine lv_aload_n hx hb dL_pack_2 rfl (lv_at hl 0 rfl) ?_
  refine lv_iload_n hx hb dL_pack_3 rfl (lv_at hl 1 rfl) ?_
  cases res with
  | ok r =>
    refine fr_calli (wc := KW c5 a k) (X := []) (Y := [(o, outE c5 g)]) (rw_runV (As := [.int p1]) (rest := [.int (0 : Int32), .ref o]) ⟨hx, hb, hml, hown, hts⟩ (fr_P (X := []) (Y := [(o, outE c5 g)]) hP) hK (fr_D (X := []) (Y := [(o, outE c5 g)]) hD) (c_X2_pack l D c5 a k hI s.heap.size p1 r h) gG_RL_31 (va_recv hK hP (ci := 2) (q0 := 0) rfl rfl) hd_X2_pack ⟨Nat.le_of_ble_eq_true rfl, Nat.le_of_ble_eq_true rfl⟩ ⟨rfl, rfl⟩ hl.1 (Nat.le_of_ble_eq_true rfl) dL_pack_4 ⟨Nat.le_of_ble_eq_true rfl, Nat.le_of_ble_eq_true rfl⟩ rfl) hP hD hS hA (fun x u H locs hpost hP hD hS => ?_)
    obtain ⟨rfl, rfl⟩ := hpost
    have ha1 : a.1 = a.1 := rfl
    have hP : va_P D vwCl (LW c5 a r.2 o g) _ := hP
    have hD : va_D A (LW c5 a r.2 o g) := hD
    refine lv_i2l (v := (r.1).toInt64) hx hb dL_pack_7 rfl ?_
    refine va_last hx hb hK hP hD hS (KW c5 a r.2).length 4 (LW_o c5 a r.2 o g) rfl (inb_in (i := 0) (n := 1) rfl) dL_pack_8 (fun H locs hP hD hS => ?_)
    have hP := wP (LW_set c5 a r.2 o g _) hP
    have hD := wD (LW_set c5 a r.2 o g _) hD
    refine lv_goto (tgt := 15) hx hb dL_pack_9 (by decide) ?_
    refine lv_iconst (v := (0 : Int32)) hx hb dL_pack_15 (by decide) ?_
    refine W.widen (k := 1) (n := 6) (Nat.le_of_ble_eq_true rfl) (Nat.le_of_ble_eq_true rfl) ?_
    exact W.iret hx hb hr (fun t ht hW => ⟨⟨_, (a, r.2, vp_updL g 0 (r.1).toInt64), rfl, ⟨ha1, rfl, rfl, rfl⟩, by rw [ht]; exact hP, va_K.moved hW.alike hK, hD⟩, hS.F ht⟩) hS.2.2 dL_pack_16 hlocks
  | error E =>
    refine er_catch (er_runV (As := [.int p1]) (rest := [.int (0 : Int32), .ref o]) ⟨hx, hb, hml, hown, hts⟩ (fr_P (X := []) (Y := [(o, outE c5 g)]) hP) hK hX (x_X2_pack l D c5 a k hI sx hflags p1 E h) gG_RL_31 (va_recv hK hP (ci := 2) (q0 := 0) rfl rfl) hd_X2_pack ⟨Nat.le_of_ble_eq_true rfl, Nat.le_of_ble_eq_true rfl⟩ ⟨rfl, rfl⟩ hl.1 (Nat.le_of_ble_eq_true rfl) dL_pack_4 ⟨Nat.le_of_ble_eq_true rfl, Nat.le_of_ble_eq_true rfl⟩ rfl) (fun ce q9 H hz hkp hce hcv hcl => ?_)
    have hP : va_P D vwCl (LW c5 a k o g) H := fun i q hi => (hP i q hi).kept (hkp q.1 (hP i q hi).lt)
    have hS : va_S A s.heap H [] := ⟨hz, fun q hq _ => hkp q hq, no_locs⟩
    have hEE := hE E rfl
    obtain rfl := List.mem_singleton.mp hEE
    refine vx_catch (own := RL) (name := exIO) (E := exIO) hown [] ⟨0, 9, 12, 20⟩ [] (htb.trans rfl) (fun _ h9 => absurd h9 List.not_mem_nil) rfl (by decide) (hts _ wT2_120) (va_Nw.use rfl (hX.2.2.2.1 exIO (by decide +kernel))) hce hcv hcl ?_
    refine lv_astore_n (i := 3) (lv' := [(3, .ref q9), (0, .ref (aO a 0)), (1, .int p1), (2, .ref o)]) hx hb dL_pack_12 rfl hl (by decide) rfl (fun ls hl => ?_)
    refine lv_iconst (v := (1 : Int32)) hx hb dL_pack_13 (by decide) ?_
    exact W.iret hx hb hr (fun t ht hW => ⟨⟨_, (a, k, g), rfl, ⟨rfl, rfl, rfl⟩, by rw [ht]; exact hP, va_K.moved hW.alike hK, hD⟩, hS.F ht⟩) hS.2.2 dL_pack_14 hlocks
set_option maxHeartbeats 4000000 in
set_option maxRecDepth 100000 in
theorem c_L_shelf (l : Launch) (D : va_G) (c5 : Nat → ClassId) (a : KAd) (k : KSt) (o : Nat) (g : Nat → Int64) (sx : Nat → Nat) (hflags : l.flags = flags0) (sz : Nat) (p1 p2 : Int32) (res : Except String (Int32)) (h : R_X2_shelf k p1 p2 = some res) (hE : ∀ E, res = .error E → E ∈ [exIO]) : Met l yL_shelf (wsw_ yL_shelf cL_shelf 5 (some .int) [(0, 10, 13, 20)]) { frames := 8, cells := 1, slots := 6, locals := 133 } (va_Pc [.ref (aO a 0), .int p1, .int p2, .ref o] (lwB D c5 a k o g sx sz)) (va_Qi (lwQ cdIO a k (roR k res)) (rwE D (tyG c5) (va_A (LW c5 a k o g) sz) (fun u => LW c5 u.1 u.2.1 o u.2.2)) (va_A (LW c5 a k o g) sz)) 1 6 (va_A (LW c5 a k o g) sz) := by
  refine Met.ofWH (cc := cL_shelf) (maxL := 5) (ret := some .int) (hh := [(0, 10, 13, 20)]) (by decide) rfl ?_
  intro p e s m args below meth c s₁ B hml hv
  obtain ⟨rfl, hsz, hP, hK, hD0, hX, hN⟩ := hv
  have hx := B.exec
  have hb := B.bytes
  have hr := B.returns
  have hts : ∀ w ∈ LA, w.before _ s = true := fun w hw => atoms_spec (ws := wsw_ yL_shelf cL_shelf 5 (some .int) [(0, 10, 13, 20)]) B.pre w (List.mem_cons_of_mem _ hw)
  have htb : c.exceptionTable.toList = tableOf [(0, 10, 13, 20)] := vx_table (x := yL_shelf) B (atoms_spec (ws := wsw_ yL_shelf cL_shelf 5 (some .int) [(0, 10, 13, 20)]) B.pre _ List.mem_cons_self)
  have hown : s.vm.findClass RL = some m.cls := findClass_of_methodNamed B.named
  have hlocks := B.notSynchronized
  subst hsz
  have hI : KI a := KI_of (fr_D (X := []) (Y := [(o, outE c5 g)]) hD0)
  have hD := hD0.self (sz := s.heap.size)
  generalize hAe : va_A (LW c5 a k o g) s.heap.size = A at hD ⊢
  have hA : ∀ q : Nat, s.heap.size ≤ q → A q := fun q h => by rw [← hAe]; exact Or.inr h
  have hS : va_S A s.heap s.heap [] := va_S.rf
  have hl := lv_entry ([.ref (aO a 0), .int p1, .int p2, .ref o] : List Value) (n := 5) (Nat.le_of_ble_eq_true rfl)
  rw [lg_entry_eq]
  generalize (lg_sl ([.ref (aO a 0), .int p1, .int p2, .ref o] : List Value) ++ List.replicate (5 - (lg_sl ([.ref (aO a 0), .int p1, .int p2, .ref o] : List Value)).length) Slot.unset).toArray = ls at hl ⊢
  have hl : lv_has ls 5 [(0, .ref (aO a 0)), (1, .int p1), (2, .int p2), (3, .ref o)] := hl
  refine lv_aload_n hx hb dL_shelf_0 rfl (lv_at hl 3 rfl) ?_
  refine lv_iconst (v := (0 : Int32)) hx hb dL_shelf_1 (by decide) ?_
  refine lv_aload_n hx hb dL_shelf_2 rfl (lv_at hl 0 rfl) ?_
  refine lv_iload_n hx hb dL_shelf_3 rfl (lv_at hl 1 rfl) ?_
  refine lv_iload_n hx hb dL_shelf_4 rfl (lv_at hl 2 rfl) ?_
  cases res with
  | ok r =>
    refine ro_calli (ro_runV (As := [.int p1, .int p2]) (rest := [.int (0 : Int32), .ref o]) ⟨hx, hb, hml, hown, hts⟩ (fr_P (X := []) (Y := [(o, outE c5 g)]) hP) hK (c_X2_shelf l D c5 a k hI p1 p2 r h) gG_RL_34 (va_recv hK hP (ci := 2) (q0 := 0) rfl rfl) hd_X2_shelf ⟨Nat.le_of_ble_eq_true rfl, Nat.le_of_ble_eq_true rfl⟩ ⟨rfl, rfl⟩ hl.1 (Nat.le_of_ble_eq_true rfl) dL_shelf_5 ⟨Nat.zero_le _, Nat.zero_le _⟩ rfl) ?_
    have ha1 : a.1 = a.1 := rfl
    have hP : va_P D vwCl (LW c5 a k o g) _ := hP
    have hD : va_D A (LW c5 a k o g) := hD
    refine lv_i2l (v := (r).toInt64) hx hb dL_shelf_8 rfl ?_
    refine va_last hx hb hK hP hD hS (KW c5 a k).length 4 (LW_o c5 a k o g) rfl (inb_in (i := 0) (n := 1) rfl) dL_shelf_9 (fun H locs hP hD hS => ?_)
    have hP := wP (LW_set c5 a k o g _) hP
    have hD := wD (LW_set c5 a k o g _) hD
    refine lv_goto (tgt := 17) hx hb dL_shelf_10 (by decide) ?_
    refine lv_iconst (v := (0 : Int32)) hx hb dL_shelf_17 (by decide) ?_
    refine W.widen (k := 1) (n := 6) (Nat.le_of_ble_eq_true rfl) (Nat.le_of_ble_eq_true rfl) ?_
    exact W.iret hx hb hr (fun t ht hW => ⟨⟨_, (a, k, vp_updL g 0 (r).toInt64), rfl, ⟨ha1, rfl, rfl, rfl⟩, by rw [ht]; exact hP, va_K.moved hW.alike hK, hD⟩, hS.F ht⟩) hS.2.2 dL_shelf_18 hlocks
  | error E =>
    refine er_catch (er_runV (As := [.int p1, .int p2]) (rest := [.int (0 : Int32), .ref o]) ⟨hx, hb, hml, hown, hts⟩ (fr_P (X := []) (Y := [(o, outE c5 g)]) hP) hK hX (x_X2_shelf l D c5 a k hI sx hflags p1 p2 E h) gG_RL_34 (va_recv hK hP (ci := 2) (q0 := 0) rfl rfl) hd_X2_shelf ⟨Nat.le_of_ble_eq_true rfl, Nat.le_of_ble_eq_true rfl⟩ ⟨rfl, rfl⟩ hl.1 (Nat.le_of_ble_eq_true rfl) dL_shelf_5 ⟨Nat.le_of_ble_eq_true rfl, Nat.le_of_ble_eq_true rfl⟩ rfl) (fun ce q9 H hz hkp hce hcv hcl => ?_)
    have hP : va_P D vwCl (LW c5 a k o g) H := fun i q hi => (hP i q hi).kept (hkp q.1 (hP i q hi).lt)
    have hS : va_S A s.heap H [] := ⟨hz, fun q hq _ => hkp q hq, no_locs⟩
    have hEE := hE E rfl
    obtain rfl := List.mem_singleton.mp hEE
    refine vx_catch (own := RL) (name := exIO) (E := exIO) hown [] ⟨0, 10, 13, 20⟩ [] (htb.trans rfl) (fun _ h9 => absurd h9 List.not_mem_nil) rfl (by decide) (hts _ wT2_120) (va_Nw.use rfl (hX.2.2.2.1 exIO (by decide +kernel))) hce hcv hcl ?_
    refine lv_astore (i := 4) (lv' := [(4, .ref q9), (0, .ref (aO a 0)), (1, .int p1), (2, .int p2), (3, .ref o)]) hx hb dL_shelf_13 hl (by decide) rfl (fun ls hl => ?_)
    refine lv_iconst (v := (1 : Int32)) hx hb dL_shelf_15 (by decide) ?_
    exact W.iret hx hb hr (fun t ht hW => ⟨⟨_, (a, k, g), rfl, ⟨rfl, rfl, rfl⟩, by rw [ht]; exact hP, va_K.moved hW.alike hK, hD⟩, hS.F ht⟩) hS.2.2 dL_shelf_16 hlocks
set_option maxHeartbeats 4000000 in
set_option maxRecDepth 100000 in
theorem c_L_about (l : Launch) (D : va_G) (c5 : Nat → ClassId) (a : KAd) (k : KSt) (o : Nat) (g : Nat → Int64) (sx : Nat → Nat) (hflags : l.flags = flags0) (sz : Nat) (p1 p2 : Int32) (res : Except String (Int32)) (h : R_X2_about k p1 p2 = some res) (hE : ∀ E, res = .error E → E ∈ [exIO]) : Met l yL_about (wsw_ yL_about cL_about 5 (some .int) [(0, 10, 13, 20)]) { frames := 8, cells := 1, slots := 6, locals := 134 } (va_Pc [.ref (aO a 0), .int p1, .int p2, .ref o] (lwB D c5 a k o g sx sz)) (va_Qi (lwQ cdIO a k (roR k res)) (rwE D (tyG c5) (va_A (LW c5 a k o g) sz) (fun u => LW c5 u.1 u.2.1 o u.2.2)) (va_A (LW c5 a k o g) sz)) 1 6 (va_A (LW c5 a k o g) sz) := by
  refine Met.ofWH (cc := cL_about) (maxL := 5) (ret := some .int) (hh := [(0, 10, 13, 20)]) (by decide) rfl ?_
  intro p e s m args below meth c s₁ B hml hv
  obtain ⟨rfl, hsz, hP, hK, hD0, hX, hN⟩ := hv
  have hx := B.exec
  have hb := B.bytes
  have hr := B.returns
  have hts : ∀ w ∈ LA, w.before _ s = true := fun w hw => atoms_spec (ws := wsw_ yL_about cL_about 5 (some .int) [(0, 10, 13, 20)]) B.pre w (List.mem_cons_of_mem _ hw)
  have htb : c.exceptionTable.toList = tableOf [(0, 10, 13, 20)] := vx_table (x := yL_about) B (atoms_spec (ws := wsw_ yL_about cL_about 5 (some .int) [(0, 10, 13, 20)]) B.pre _ List.mem_cons_self)
  have hown : s.vm.findClass RL = some m.cls := findClass_of_methodNamed B.named
  have hlocks := B.notSynchronized
  subst hsz
  have hI : KI a := KI_of (fr_D (X := []) (Y := [(o, outE c5 g)]) hD0)
  have hD := hD0.self (sz := s.heap.size)
  generalize hAe : va_A (LW c5 a k o g) s.heap.size = A at hD ⊢
  have hA : ∀ q : Nat, s.heap.size ≤ q → A q := fun q h => by rw [← hAe]; exact Or.inr h
  have hS : va_S A s.heap s.heap [] := va_S.rf
  have hl := lv_entry ([.ref (aO a 0), .int p1, .int p2, .ref o] : List Value) (n := 5) (Nat.le_of_ble_eq_true rfl)
  rw [lg_entry_eq]
  generalize (lg_sl ([.ref (aO a 0), .int p1, .int p2, .ref o] : List Value) ++ List.replicate (5 - (lg_sl ([.ref (aO a 0), .int p1, .int p2, .ref o] : List Value)).length) Slot.unset).toArray = ls at hl ⊢
  have hl : lv_has ls 5 [(0, .ref (aO a 0)), (1, .int p1), (2, .int p2), (3, .ref o)] := hl
  refine lv_aload_n hx hb dL_about_0 rfl (lv_at hl 3 rfl) ?_
  refine lv_iconst (v := (0 : Int32)) hx hb dL_about_1 (by decide) ?_
  refine lv_aload_n hx hb dL_about_2 rfl (lv_at hl 0 rfl) ?_
  refine lv_iload_n hx hb dL_about_3 rfl (lv_at hl 1 rfl) ?_
  refine lv_iload_n hx hb dL_about_4 rfl (lv_at hl 2 rfl) ?_
  cases res with
  | ok r =>
    refine ro_calli (ro_runV (As := [.int p1, .int p2]) (rest := [.int (0 : Int32), .ref o]) ⟨hx, hb, hml, hown, hts⟩ (fr_P (X := []) (Y := [(o, outE c5 g)]) hP) hK (c_X2_about l D c5 a k hI p1 p2 r h) gG_RL_38 (va_recv hK hP (ci := 2) (q0 := 0) rfl rfl) hd_X2_about ⟨Nat.le_of_ble_eq_true rfl, Nat.le_of_ble_eq_true rfl⟩ ⟨rfl, rfl⟩ hl.1 (Nat.le_of_ble_eq_true rfl) dL_about_5 ⟨Nat.zero_le _, Nat.zero_le _⟩ rfl) ?_
    have ha1 : a.1 = a.1 := rfl
    have hP : va_P D vwCl (LW c5 a k o g) _ := hP
    have hD : va_D A (LW c5 a k o g) := hD
    refine lv_i2l (v := (r).toInt64) hx hb dL_about_8 rfl ?_
    refine va_last hx hb hK hP hD hS (KW c5 a k).length 4 (LW_o c5 a k o g) rfl (inb_in (i := 0) (n := 1) rfl) dL_about_9 (fun H locs hP hD hS => ?_)
    have hP := wP (LW_set c5 a k o g _) hP
    have hD := wD (LW_set c5 a k o g _) hD
    refine lv_goto (tgt := 17) hx hb dL_about_10 (by decide) ?_
    refine lv_iconst (v := (0 : Int32)) hx hb dL_about_17 (by decide) ?_
    refine W.widen (k := 1) (n := 6) (Nat.le_of_ble_eq_true rfl) (Nat.le_of_ble_eq_true rfl) ?_
    exact W.iret hx hb hr (fun t ht hW => ⟨⟨_, (a, k, vp_updL g 0 (r).toInt64), rfl, ⟨ha1, rfl, rfl, rfl⟩, by rw [ht]; exact hP, va_K.moved hW.alike hK, hD⟩, hS.F ht⟩) hS.2.2 dL_about_18 hlocks
  | error E =>
    refine er_catch (er_runV (As := [.int p1, .int p2]) (rest := [.int (0 : Int32), .ref o]) ⟨hx, hb, hml, hown, hts⟩ (fr_P (X := []) (Y := [(o, outE c5 g)]) hP) hK hX (x_X2_about l D c5 a k hI sx hflags p1 p2 E h) gG_RL_38 (va_recv hK hP (ci := 2) (q0 := 0) rfl rfl) hd_X2_about ⟨Nat.le_of_ble_eq_true rfl, Nat.le_of_ble_eq_true rfl⟩ ⟨rfl, rfl⟩ hl.1 (Nat.le_of_ble_eq_true rfl) dL_about_5 ⟨Nat.le_of_ble_eq_true rfl, Nat.le_of_ble_eq_true rfl⟩ rfl) (fun ce q9 H hz hkp hce hcv hcl => ?_)
    have hP : va_P D vwCl (LW c5 a k o g) H := fun i q hi => (hP i q hi).kept (hkp q.1 (hP i q hi).lt)
    have hS : va_S A s.heap H [] := ⟨hz, fun q hq _ => hkp q hq, no_locs⟩
    have hEE := hE E rfl
    obtain rfl := List.mem_singleton.mp hEE
    refine vx_catch (own := RL) (name := exIO) (E := exIO) hown [] ⟨0, 10, 13, 20⟩ [] (htb.trans rfl) (fun _ h9 => absurd h9 List.not_mem_nil) rfl (by decide) (hts _ wT2_120) (va_Nw.use rfl (hX.2.2.2.1 exIO (by decide +kernel))) hce hcv hcl ?_
    refine lv_astore (i := 4) (lv' := [(4, .ref q9), (0, .ref (aO a 0)), (1, .int p1), (2, .int p2), (3, .ref o)]) hx hb dL_about_13 hl (by decide) rfl (fun ls hl => ?_)
    refine lv_iconst (v := (1 : Int32)) hx hb dL_about_15 (by decide) ?_
    exact W.iret hx hb hr (fun t ht hW => ⟨⟨_, (a, k, g), rfl, ⟨rfl, rfl, rfl⟩, by rw [ht]; exact hP, va_K.moved hW.alike hK, hD⟩, hS.F ht⟩) hS.2.2 dL_about_16 hlocks
set_option maxHeartbeats 4000000 in
set_option maxRecDepth 100000 in
theorem c_L_place (l : Launch) (D : va_G) (c5 : Nat → ClassId) (a : KAd) (k : KSt) (o : Nat) (g : Nat → Int64) (sx : Nat → Nat) (hflags : l.flags = flags0) (sz : Nat) (p1 p2 : Int32) (res : Except String (Int32)) (h : R_X2_place k p1 p2 = some res) (hE : ∀ E, res = .error E → E ∈ [exIO]) : Met l yL_place (wsw_ yL_place cL_place 5 (some .int) [(0, 10, 13, 20)]) { frames := 8, cells := 1, slots := 6, locals := 135 } (va_Pc [.ref (aO a 0), .int p1, .int p2, .ref o] (lwB D c5 a k o g sx sz)) (va_Qi (lwQ cdIO a k (roR k res)) (rwE D (tyG c5) (va_A (LW c5 a k o g) sz) (fun u => LW c5 u.1 u.2.1 o u.2.2)) (va_A (LW c5 a k o g) sz)) 1 6 (va_A (LW c5 a k o g) sz) := by
  refine Met.ofWH (cc := cL_place) (maxL := 5) (ret := some .int) (hh := [(0, 10, 13, 20)]) (by decide) rfl ?_
  intro p e s m args below meth c s₁ B hml hv
  obtain ⟨rfl, hsz, hP, hK, hD0, hX, hN⟩ := hv
  have hx := B.exec
  have hb := B.bytes
  have hr := B.returns
  have hts : ∀ w ∈ LA, w.before _ s = true := fun w hw => atoms_spec (ws := wsw_ yL_place cL_place 5 (some .int) [(0, 10, 13, 20)]) B.pre w (List.mem_cons_of_mem _ hw)
  have htb : c.exceptionTable.toList = tableOf [(0, 10, 13, 20)] := vx_table (x := yL_place) B (atoms_spec (ws := wsw_ yL_place cL_place 5 (some .int) [(0, 10, 13, 20)]) B.pre _ List.mem_cons_self)
  have hown : s.vm.findClass RL = some m.cls := findClass_of_methodNamed B.named
  have hlocks := B.notSynchronized
  subst hsz
  have hI : KI a := KI_of (fr_D (X := []) (Y := [(o, outE c5 g)]) hD0)
  have hD := hD0.self (sz := s.heap.size)
  generalize hAe : va_A (LW c5 a k o g) s.heap.size = A at hD ⊢
  have hA : ∀ q : Nat, s.heap.size ≤ q → A q := fun q h => by rw [← hAe]; exact Or.inr h
  have hS : va_S A s.heap s.heap [] := va_S.rf
  have hl := lv_entry ([.ref (aO a 0), .int p1, .int p2, .ref o] : List Value) (n := 5) (Nat.le_of_ble_eq_true rfl)
  rw [lg_entry_eq]
  generalize (lg_sl ([.ref (aO a 0), .int p1, .int p2, .ref o] : List Value) ++ List.replicate (5 - (lg_sl ([.ref (aO a 0), .int p1, .int p2, .ref o] : List Value)).length) Slot.unset).toArray = ls at hl ⊢
  have hl : lv_has ls 5 [(0, .ref (aO a 0)), (1, .int p1), (2, .int p2), (3, .ref o)] := hl
  refine lv_aload_n hx hb dL_place_0 rfl (lv_at hl 3 rfl) ?_
  refine lv_iconst (v := (0 : Int32)) hx hb dL_place_1 (by decide) ?_
  refine lv_aload_n hx hb dL_place_2 rfl (lv_at hl 0 rfl) ?_
  refine lv_iload_n hx hb dL_place_3 rfl (lv_at hl 1 rfl) ?_
  refine lv_iload_n hx hb dL_place_4 rfl (lv_at hl 2 rfl) ?_
  cases res with
  | ok r =>
    refine ro_calli (ro_runV (As := [.int p1, .int p2]) (rest := [.int (0 : Int32), .ref o]) ⟨hx, hb, hml, hown, hts⟩ (fr_P (X := []) (Y := [(o, outE c5 g)]) hP) hK (c_X2_place l D c5 a k hI p1 p2 r h) gG_RL_41 (va_recv hK hP (ci := 2) (q0 := 0) rfl rfl) hd_X2_place ⟨Nat.le_of_ble_eq_true rfl, Nat.le_of_ble_eq_true rfl⟩ ⟨rfl, rfl⟩ hl.1 (Nat.le_of_ble_eq_true rfl) dL_place_5 ⟨Nat.zero_le _, Nat.zero_le _⟩ rfl) ?_
    have ha1 : a.1 = a.1 := rfl
    have hP : va_P D vwCl (LW c5 a k o g) _ := hP
    have hD : va_D A (LW c5 a k o g) := hD
    refine lv_i2l (v := (r).toInt64) hx hb dL_place_8 rfl ?_
    refine va_last hx hb hK hP hD hS (KW c5 a k).length 4 (LW_o c5 a k o g) rfl (inb_in (i := 0) (n := 1) rfl) dL_place_9 (fun H locs hP hD hS => ?_)
    have hP := wP (LW_set c5 a k o g _) hP
    have hD := wD (LW_set c5 a k o g _) hD
    refine lv_goto (tgt := 17) hx hb dL_place_10 (by decide) ?_
    refine lv_iconst (v := (0 : Int32)) hx hb dL_place_17 (by decide) ?_
    refine W.widen (k := 1) (n := 6) (Nat.le_of_ble_eq_true rfl) (Nat.le_of_ble_eq_true rfl) ?_
    exact W.iret hx hb hr (fun t ht hW => ⟨⟨_, (a, k, vp_updL g 0 (r).toInt64), rfl, ⟨ha1, rfl, rfl, rfl⟩, by rw [ht]; exact hP, va_K.moved hW.alike hK, hD⟩, hS.F ht⟩) hS.2.2 dL_place_18 hlocks
  | error E =>
    refine er_catch (er_runV (As := [.int p1, .int p2]) (rest := [.int (0 : Int32), .ref o]) ⟨hx, hb, hml, hown, hts⟩ (fr_P (X := []) (Y := [(o, outE c5 g)]) hP) hK hX (x_X2_place l D c5 a k hI sx hflags p1 p2 E h) gG_RL_41 (va_recv hK hP (ci := 2) (q0 := 0) rfl rfl) hd_X2_place ⟨Nat.le_of_ble_eq_true rfl, Nat.le_of_ble_eq_true rfl⟩ ⟨rfl, rfl⟩ hl.1 (Nat.le_of_ble_eq_true rfl) dL_place_5 ⟨Nat.le_of_ble_eq_true rfl, Nat.le_of_ble_eq_true rfl⟩ rfl) (fun ce q9 H hz hkp hce hcv hcl => ?_)
    have hP : va_P D vwCl (LW c5 a k o g) H := fun i q hi => (hP i q hi).kept (hkp q.1 (hP i q hi).lt)
    have hS : va_S A s.heap H [] := ⟨hz, fun q hq _ => hkp q hq, no_locs⟩
    have hEE := hE E rfl
    obtain rfl := List.mem_singleton.mp hEE
    refine vx_catch (own := RL) (name := exIO) (E := exIO) hown [] ⟨0, 10, 13, 20⟩ [] (htb.trans rfl) (fun _ h9 => absurd h9 List.not_mem_nil) rfl (by decide) (hts _ wT2_120) (va_Nw.use rfl (hX.2.2.2.1 exIO (by decide +kernel))) hce hcv hcl ?_
    refine lv_astore (i := 4) (lv' := [(4, .ref q9), (0, .ref (aO a 0)), (1, .int p1), (2, .int p2), (3, .ref o)]) hx hb dL_place_13 hl (by decide) rfl (fun ls hl => ?_)
    refine lv_iconst (v := (1 : Int32)) hx hb dL_place_15 (by decide) ?_
    exact W.iret hx hb hr (fun t ht hW => ⟨⟨_, (a, k, g), rfl, ⟨rfl, rfl, rfl⟩, by rw [ht]; exact hP, va_K.moved hW.alike hK, hD⟩, hS.F ht⟩) hS.2.2 dL_place_16 hlocks
set_option maxHeartbeats 4000000 in
set_option maxRecDepth 100000 in
theorem c_L_count (l : Launch) (D : va_G) (c5 : Nat → ClassId) (a : KAd) (k : KSt) (o : Nat) (g : Nat → Int64) (sx : Nat → Nat) (hflags : l.flags = flags0) (sz : Nat) (p1 : Int32) (res : Except String (Int32)) (h : R_X2_count k p1 = some res) (hE : ∀ E, res = .error E → E ∈ [exIO]) : Met l yL_count (wsw_ yL_count cL_count 4 (some .int) [(0, 9, 12, 20)]) { frames := 8, cells := 1, slots := 6, locals := 132 } (va_Pc [.ref (aO a 0), .int p1, .ref o] (lwB D c5 a k o g sx sz)) (va_Qi (lwQ cdIO a k (roR k res)) (rwE D (tyG c5) (va_A (LW c5 a k o g) sz) (fun u => LW c5 u.1 u.2.1 o u.2.2)) (va_A (LW c5 a k o g) sz)) 1 6 (va_A (LW c5 a k o g) sz) := by
  refine Met.ofWH (cc := cL_count) (maxL := 4) (ret := some .int) (hh := [(0, 9, 12, 20)]) (by decide) rfl ?_
  intro p e s m args below meth c s₁ B hml hv
  obtain ⟨rfl, hsz, hP, hK, hD0, hX, hN⟩ := hv
  have hx := B.exec
  have hb := B.bytes
  have hr := B.returns
  have hts : ∀ w ∈ LA, w.before _ s = true := fun w hw => atoms_spec (ws := wsw_ yL_count cL_count 4 (some .int) [(0, 9, 12, 20)]) B.pre w (List.mem_cons_of_mem _ hw)
  have htb : c.exceptionTable.toList = tableOf [(0, 9, 12, 20)] := vx_table (x := yL_count) B (atoms_spec (ws := wsw_ yL_count cL_count 4 (some .int) [(0, 9, 12, 20)]) B.pre _ List.mem_cons_self)
  have hown : s.vm.findClass RL = some m.cls := findClass_of_methodNamed B.named
  have hlocks := B.notSynchronized
  subst hsz
  have hI : KI a := KI_of (fr_D (X := []) (Y := [(o, outE c5 g)]) hD0)
  have hD := hD0.self (sz := s.heap.size)
  generalize hAe : va_A (LW c5 a k o g) s.heap.size = A at hD ⊢
  have hA : ∀ q : Nat, s.heap.size ≤ q → A q := fun q h => by rw [← hAe]; exact Or.inr h
  have hS : va_S A s.heap s.heap [] := va_S.rf
  have hl := lv_entry ([.ref (aO a 0), .int p1, .ref o] : List Value) (n := 4) (Nat.le_of_ble_eq_true rfl)
  rw [lg_entry_eq]
  generalize (lg_sl ([.ref (aO a 0), .int p1, .ref o] : List Value) ++ List.replicate (4 - (lg_sl ([.ref (aO a 0), .int p1, .ref o] : List Value)).length) Slot.unset).toArray = ls at hl ⊢
  have hl : lv_has ls 4 [(0, .ref (aO a 0)), (1, .int p1), (2, .ref o)] := hl
  refine lv_aload_n hx hb dL_count_0 rfl (lv_at hl 2 rfl) ?_
  refine lv_iconst (v := (0 : Int32)) hx hb dL_count_1 (by decide) ?_
  refine lv_aload_n hx hb dL_count_2 rfl (lv_at hl 0 rfl) ?_
  refine lv_iload_n hx hb dL_count_3 rfl (lv_at hl 1 rfl) ?_
  cases res with
  | ok r =>
    refine ro_calli (ro_runV (As := [.int p1]) (rest := [.int (0 : Int32), .ref o]) ⟨hx, hb, hml, hown, hts⟩ (fr_P (X := []) (Y := [(o, outE c5 g)]) hP) hK (c_X2_count l D c5 a k hI p1 r h) gG_RL_44 (va_recv hK hP (ci := 2) (q0 := 0) rfl rfl) hd_X2_count ⟨Nat.le_of_ble_eq_true rfl, Nat.le_of_ble_eq_true rfl⟩ ⟨rfl, rfl⟩ hl.1 (Nat.le_of_ble_eq_true rfl) dL_count_4 ⟨Nat.zero_le _, Nat.zero_le _⟩ rfl) ?_
    have ha1 : a.1 = a.1 := rfl
    have hP : va_P D vwCl (LW c5 a k o g) _ := hP
    have hD : va_D A (LW c5 a k o g) := hD
    refine lv_i2l (v := (r).toInt64) hx hb dL_count_7 rfl ?_
    refine va_last hx hb hK hP hD hS (KW c5 a k).length 4 (LW_o c5 a k o g) rfl (inb_in (i := 0) (n := 1) rfl) dL_count_8 (fun H locs hP hD hS => ?_)
    have hP := wP (LW_set c5 a k o g _) hP
    have hD := wD (LW_set c5 a k o g _) hD
    refine lv_goto (tgt := 15) hx hb dL_count_9 (by decide) ?_
    refine lv_iconst (v := (0 : Int32)) hx hb dL_count_15 (by decide) ?_
    refine W.widen (k := 1) (n := 6) (Nat.le_of_ble_eq_true rfl) (Nat.le_of_ble_eq_true rfl) ?_
    exact W.iret hx hb hr (fun t ht hW => ⟨⟨_, (a, k, vp_updL g 0 (r).toInt64), rfl, ⟨ha1, rfl, rfl, rfl⟩, by rw [ht]; exact hP, va_K.moved hW.alike hK, hD⟩, hS.F ht⟩) hS.2.2 dL_count_16 hlocks
  | error E =>
    refine er_catch (er_runV (As := [.int p1]) (rest := [.int (0 : Int32), .ref o]) ⟨hx, hb, hml, hown, hts⟩ (fr_P (X := []) (Y := [(o, outE c5 g)]) hP) hK hX (x_X2_count l D c5 a k hI sx hflags p1 E h) gG_RL_44 (va_recv hK hP (ci := 2) (q0 := 0) rfl rfl) hd_X2_count ⟨Nat.le_of_ble_eq_true rfl, Nat.le_of_ble_eq_true rfl⟩ ⟨rfl, rfl⟩ hl.1 (Nat.le_of_ble_eq_true rfl) dL_count_4 ⟨Nat.le_of_ble_eq_true rfl, Nat.le_of_ble_eq_true rfl⟩ rfl) (fun ce q9 H hz hkp hce hcv hcl => ?_)
    have hP : va_P D vwCl (LW c5 a k o g) H := fun i q hi => (hP i q hi).kept (hkp q.1 (hP i q hi).lt)
    have hS : va_S A s.heap H [] := ⟨hz, fun q hq _ => hkp q hq, no_locs⟩
    have hEE := hE E rfl
    obtain rfl := List.mem_singleton.mp hEE
    refine vx_catch (own := RL) (name := exIO) (E := exIO) hown [] ⟨0, 9, 12, 20⟩ [] (htb.trans rfl) (fun _ h9 => absurd h9 List.not_mem_nil) rfl (by decide) (hts _ wT2_120) (va_Nw.use rfl (hX.2.2.2.1 exIO (by decide +kernel))) hce hcv hcl ?_
    refine lv_astore_n (i := 3) (lv' := [(3, .ref q9), (0, .ref (aO a 0)), (1, .int p1), (2, .ref o)]) hx hb dL_count_12 rfl hl (by decide) rfl (fun ls hl => ?_)
    refine lv_iconst (v := (1 : Int32)) hx hb dL_count_13 (by decide) ?_
    exact W.iret hx hb hr (fun t ht hW => ⟨⟨_, (a, k, g), rfl, ⟨rfl, rfl, rfl⟩, by rw [ht]; exact hP, va_K.moved hW.alike hK, hD⟩, hS.F ht⟩) hS.2.2 dL_count_14 hlocks
set_option maxHeartbeats 4000000 in
set_option maxRecDepth 100000 in
theorem c_L_next (l : Launch) (D : va_G) (c5 : Nat → ClassId) (a : KAd) (k : KSt) (o : Nat) (g : Nat → Int64) (sx : Nat → Nat) (hflags : l.flags = flags0) (sz : Nat) (p1 : Int32) (res : Except String (Int32)) (h : R_X2_next k p1 = some res) (hE : ∀ E, res = .error E → E ∈ [exIO]) : Met l yL_next (wsw_ yL_next cL_next 4 (some .int) [(0, 9, 12, 20)]) { frames := 8, cells := 1, slots := 6, locals := 134 } (va_Pc [.ref (aO a 0), .int p1, .ref o] (lwB D c5 a k o g sx sz)) (va_Qi (lwQ cdIO a k (roR k res)) (rwE D (tyG c5) (va_A (LW c5 a k o g) sz) (fun u => LW c5 u.1 u.2.1 o u.2.2)) (va_A (LW c5 a k o g) sz)) 1 6 (va_A (LW c5 a k o g) sz) := by
  refine Met.ofWH (cc := cL_next) (maxL := 4) (ret := some .int) (hh := [(0, 9, 12, 20)]) (by decide) rfl ?_
  intro p e s m args below meth c s₁ B hml hv
  obtain ⟨rfl, hsz, hP, hK, hD0, hX, hN⟩ := hv
  have hx := B.exec
  have hb := B.bytes
  have hr := B.returns
  have hts : ∀ w ∈ LA, w.before _ s = true := fun w hw => atoms_spec (ws := wsw_ yL_next cL_next 4 (some .int) [(0, 9, 12, 20)]) B.pre w (List.mem_cons_of_mem _ hw)
  have htb : c.exceptionTable.toList = tableOf [(0, 9, 12, 20)] := vx_table (x := yL_next) B (atoms_spec (ws := wsw_ yL_next cL_next 4 (some .int) [(0, 9, 12, 20)]) B.pre _ List.mem_cons_self)
  have hown : s.vm.findClass RL = some m.cls := findClass_of_methodNamed B.named
  have hlocks := B.notSynchronized
  subst hsz
  have hI : KI a := KI_of (fr_D (X := []) (Y := [(o, outE c5 g)]) hD0)
  have hD := hD0.self (sz := s.heap.size)
  generalize hAe : va_A (LW c5 a k o g) s.heap.size = A at hD ⊢
  have hA : ∀ q : Nat, s.heap.size ≤ q → A q := fun q h => by rw [← hAe]; exact Or.inr h
  have hS : va_S A s.heap s.heap [] := va_S.rf
  have hl := lv_entry ([.ref (aO a 0), .int p1, .ref o] : List Value) (n := 4) (Nat.le_of_ble_eq_true rfl)
  rw [lg_entry_eq]
  generalize (lg_sl ([.ref (aO a 0), .int p1, .ref o] : List Value) ++ List.replicate (4 - (lg_sl ([.ref (aO a 0), .int p1, .ref o] : List Value)).length) Slot.unset).toArray = ls at hl ⊢
  have hl : lv_has ls 4 [(0, .ref (aO a 0)), (1, .int p1), (2, .ref o)] := hl
  refine lv_aload_n hx hb dL_next_0 rfl (lv_at hl 2 rfl) ?_
  refine lv_iconst (v := (0 : Int32)) hx hb dL_next_1 (by decide) ?_
  refine lv_aload_n hx hb dL_next_2 rfl (lv_at hl 0 rfl) ?_
  refine lv_iload_n hx hb dL_next_3 rfl (lv_at hl 1 rfl) ?_
  cases res with
  | ok r =>
    refine ro_calli (ro_runV (As := [.int p1]) (rest := [.int (0 : Int32), .ref o]) ⟨hx, hb, hml, hown, hts⟩ (fr_P (X := []) (Y := [(o, outE c5 g)]) hP) hK (c_X2_next l D c5 a k hI p1 r h) gG_RL_47 (va_recv hK hP (ci := 2) (q0 := 0) rfl rfl) hd_X2_next ⟨Nat.le_of_ble_eq_true rfl, Nat.le_of_ble_eq_true rfl⟩ ⟨rfl, rfl⟩ hl.1 (Nat.le_of_ble_eq_true rfl) dL_next_4 ⟨Nat.zero_le _, Nat.zero_le _⟩ rfl) ?_
    have ha1 : a.1 = a.1 := rfl
    have hP : va_P D vwCl (LW c5 a k o g) _ := hP
    have hD : va_D A (LW c5 a k o g) := hD
    refine lv_i2l (v := (r).toInt64) hx hb dL_next_7 rfl ?_
    refine va_last hx hb hK hP hD hS (KW c5 a k).length 4 (LW_o c5 a k o g) rfl (inb_in (i := 0) (n := 1) rfl) dL_next_8 (fun H locs hP hD hS => ?_)
    have hP := wP (LW_set c5 a k o g _) hP
    have hD := wD (LW_set c5 a k o g _) hD
    refine lv_goto (tgt := 15) hx hb dL_next_9 (by decide) ?_
    refine lv_iconst (v := (0 : Int32)) hx hb dL_next_15 (by decide) ?_
    refine W.widen (k := 1) (n := 6) (Nat.le_of_ble_eq_true rfl) (Nat.le_of_ble_eq_true rfl) ?_
    exact W.iret hx hb hr (fun t ht hW => ⟨⟨_, (a, k, vp_updL g 0 (r).toInt64), rfl, ⟨ha1, rfl, rfl, rfl⟩, by rw [ht]; exact hP, va_K.moved hW.alike hK, hD⟩, hS.F ht⟩) hS.2.2 dL_next_16 hlocks
  | error E =>
    refine er_catch (er_runV (As := [.int p1]) (rest := [.int (0 : Int32), .ref o]) ⟨hx, hb, hml, hown, hts⟩ (fr_P (X := []) (Y := [(o, outE c5 g)]) hP) hK hX (x_X2_next l D c5 a k hI sx hflags p1 E h) gG_RL_47 (va_recv hK hP (ci := 2) (q0 := 0) rfl rfl) hd_X2_next ⟨Nat.le_of_ble_eq_true rfl, Nat.le_of_ble_eq_true rfl⟩ ⟨rfl, rfl⟩ hl.1 (Nat.le_of_ble_eq_true rfl) dL_next_4 ⟨Nat.le_of_ble_eq_true rfl, Nat.le_of_ble_eq_true rfl⟩ rfl) (fun ce q9 H hz hkp hce hcv hcl => ?_)
    have hP : va_P D vwCl (LW c5 a k o g) H := fun i q hi => (hP i q hi).kept (hkp q.1 (hP i q hi).lt)
    have hS : va_S A s.heap H [] := ⟨hz, fun q hq _ => hkp q hq, no_locs⟩
    have hEE := hE E rfl
    obtain rfl := List.mem_singleton.mp hEE
    refine vx_catch (own := RL) (name := exIO) (E := exIO) hown [] ⟨0, 9, 12, 20⟩ [] (htb.trans rfl) (fun _ h9 => absurd h9 List.not_mem_nil) rfl (by decide) (hts _ wT2_120) (va_Nw.use rfl (hX.2.2.2.1 exIO (by decide +kernel))) hce hcv hcl ?_
    refine lv_astore_n (i := 3) (lv' := [(3, .ref q9), (0, .ref (aO a 0)), (1, .int p1), (2, .ref o)]) hx hb dL_next_12 rfl hl (by decide) rfl (fun ls hl => ?_)
    refine lv_iconst (v := (1 : Int32)) hx hb dL_next_13 (by decide) ?_
    exact W.iret hx hb hr (fun t ht hW => ⟨⟨_, (a, k, g), rfl, ⟨rfl, rfl, rfl⟩, by rw [ht]; exact hP, va_K.moved hW.alike hK, hD⟩, hS.F ht⟩) hS.2.2 dL_next_14 hlocks
set_option maxHeartbeats 4000000 in
set_option maxRecDepth 100000 in
theorem c_L_fits (l : Launch) (D : va_G) (c5 : Nat → ClassId) (a : KAd) (k : KSt) (o : Nat) (g : Nat → Int64) (sx : Nat → Nat) (hflags : l.flags = flags0) (sz : Nat) (p1 : Int32) (res : Except String (Int32)) (h : R_X2_fits k p1 = some res) (hE : ∀ E, res = .error E → E ∈ [exIO]) : Met l yL_fits (wsw_ yL_fits cL_fits 4 (some .int) [(0, 9, 12, 20)]) { frames := 8, cells := 1, slots := 6, locals := 133 } (va_Pc [.ref (aO a 0), .int p1, .ref o] (lwB D c5 a k o g sx sz)) (va_Qi (lwQ cdIO a k (roR k res)) (rwE D (tyG c5) (va_A (LW c5 a k o g) sz) (fun u => LW c5 u.1 u.2.1 o u.2.2)) (va_A (LW c5 a k o g) sz)) 1 6 (va_A (LW c5 a k o g) sz) := by
  refine Met.ofWH (cc := cL_fits) (maxL := 4) (ret := some .int) (hh := [(0, 9, 12, 20)]) (by decide) rfl ?_
  intro p e s m args below meth c s₁ B hml hv
  obtain ⟨rfl, hsz, hP, hK, hD0, hX, hN⟩ := hv
  have hx := B.exec
  have hb := B.bytes
  have hr := B.returns
  have hts : ∀ w ∈ LA, w.before _ s = true := fun w hw => atoms_spec (ws := wsw_ yL_fits cL_fits 4 (some .int) [(0, 9, 12, 20)]) B.pre w (List.mem_cons_of_mem _ hw)
  have htb : c.exceptionTable.toList = tableOf [(0, 9, 12, 20)] := vx_table (x := yL_fits) B (atoms_spec (ws := wsw_ yL_fits cL_fits 4 (some .int) [(0, 9, 12, 20)]) B.pre _ List.mem_cons_self)
  have hown : s.vm.findClass RL = some m.cls := findClass_of_methodNamed B.named
  have hlocks := B.notSynchronized
  subst hsz
  have hI : KI a := KI_of (fr_D (X := []) (Y := [(o, outE c5 g)]) hD0)
  have hD := hD0.self (sz := s.heap.size)
  generalize hAe : va_A (LW c5 a k o g) s.heap.size = A at hD ⊢
  have hA : ∀ q : Nat, s.heap.size ≤ q → A q := fun q h => by rw [← hAe]; exact Or.inr h
  have hS : va_S A s.heap s.heap [] := va_S.rf
  have hl := lv_entry ([.ref (aO a 0), .int p1, .ref o] : List Value) (n := 4) (Nat.le_of_ble_eq_true rfl)
  rw [lg_entry_eq]
  generalize (lg_sl ([.ref (aO a 0), .int p1, .ref o] : List Value) ++ List.replicate (4 - (lg_sl ([.ref (aO a 0), .int p1, .ref o] : List Value)).length) Slot.unset).toArray = ls at hl ⊢
  have hl : lv_has ls 4 [(0, .ref (aO a 0)), (1, .int p1), (2, .ref o)] := hl
  refine lv_aload_n hx hb dL_fits_0 rfl (lv_at hl 2 rfl) ?_
  refine lv_iconst (v := (0 : Int32)) hx hb dL_fits_1 (by decide) ?_
  refine lv_aload_n hx hb dL_fits_2 rfl (lv_at hl 0 rfl) ?_
  refine lv_iload_n hx hb dL_fits_3 rfl (lv_at hl 1 rfl) ?_
  cases res with
  | ok r =>
    refine ro_calli (ro_runV (As := [.int p1]) (rest := [.int (0 : Int32), .ref o]) ⟨hx, hb, hml, hown, hts⟩ (fr_P (X := []) (Y := [(o, outE c5 g)]) hP) hK (c_X2_fits l D c5 a k hI p1 r h) gG_RL_50 (va_recv hK hP (ci := 2) (q0 := 0) rfl rfl) hd_X2_fits ⟨Nat.le_of_ble_eq_true rfl, Nat.le_of_ble_eq_true rfl⟩ ⟨rfl, rfl⟩ hl.1 (Nat.le_of_ble_eq_true rfl) dL_fits_4 ⟨Nat.zero_le _, Nat.zero_le _⟩ rfl) ?_
    have ha1 : a.1 = a.1 := rfl
    have hP : va_P D vwCl (LW c5 a k o g) _ := hP
    have hD : va_D A (LW c5 a k o g) := hD
    refine lv_i2l (v := (r).toInt64) hx hb dL_fits_7 rfl ?_
    refine va_last hx hb hK hP hD hS (KW c5 a k).length 4 (LW_o c5 a k o g) rfl (inb_in (i := 0) (n := 1) rfl) dL_fits_8 (fun H locs hP hD hS => ?_)
    have hP := wP (LW_set c5 a k o g _) hP
    have hD := wD (LW_set c5 a k o g _) hD
    refine lv_goto (tgt := 15) hx hb dL_fits_9 (by decide) ?_
    refine lv_iconst (v := (0 : Int32)) hx hb dL_fits_15 (by decide) ?_
    refine W.widen (k := 1) (n := 6) (Nat.le_of_ble_eq_true rfl) (Nat.le_of_ble_eq_true rfl) ?_
    exact W.iret hx hb hr (fun t ht hW => ⟨⟨_, (a, k, vp_updL g 0 (r).toInt64), rfl, ⟨ha1, rfl, rfl, rfl⟩, by rw [ht]; exact hP, va_K.moved hW.alike hK, hD⟩, hS.F ht⟩) hS.2.2 dL_fits_16 hlocks
  | error E =>
    refine er_catch (er_runV (As := [.int p1]) (rest := [.int (0 : Int32), .ref o]) ⟨hx, hb, hml, hown, hts⟩ (fr_P (X := []) (Y := [(o, outE c5 g)]) hP) hK hX (x_X2_fits l D c5 a k hI sx hflags p1 E h) gG_RL_50 (va_recv hK hP (ci := 2) (q0 := 0) rfl rfl) hd_X2_fits ⟨Nat.le_of_ble_eq_true rfl, Nat.le_of_ble_eq_true rfl⟩ ⟨rfl, rfl⟩ hl.1 (Nat.le_of_ble_eq_true rfl) dL_fits_4 ⟨Nat.le_of_ble_eq_true rfl, Nat.le_of_ble_eq_true rfl⟩ rfl) (fun ce q9 H hz hkp hce hcv hcl => ?_)
    have hP : va_P D vwCl (LW c5 a k o g) H := fun i q hi => (hP i q hi).kept (hkp q.1 (hP i q hi).lt)
    have hS : va_S A s.heap H [] := ⟨hz, fun q hq _ => hkp q hq, no_locs⟩
    have hEE := hE E rfl
    obtain rfl := List.mem_singleton.mp hEE
    refine vx_catch (own := RL) (name := exIO) (E := exIO) hown [] ⟨0, 9, 12, 20⟩ [] (htb.trans rfl) (fun _ h9 => absurd h9 List.not_mem_nil) rfl (by decide) (hts _ wT2_120) (va_Nw.use rfl (hX.2.2.2.1 exIO (by decide +kernel))) hce hcv hcl ?_
    refine lv_astore_n (i := 3) (lv' := [(3, .ref q9), (0, .ref (aO a 0)), (1, .int p1), (2, .ref o)]) hx hb dL_fits_12 rfl hl (by decide) rfl (fun ls hl => ?_)
    refine lv_iconst (v := (1 : Int32)) hx hb dL_fits_13 (by decide) ?_
    exact W.iret hx hb hr (fun t ht hW => ⟨⟨_, (a, k, g), rfl, ⟨rfl, rfl, rfl⟩, by rw [ht]; exact hP, va_K.moved hW.alike hK, hD⟩, hS.F ht⟩) hS.2.2 dL_fits_14 hlocks
set_option maxHeartbeats 4000000 in
set_option maxRecDepth 100000 in
theorem c_L_would (l : Launch) (D : va_G) (c5 : Nat → ClassId) (a : KAd) (k : KSt) (o : Nat) (g : Nat → Int64) (sx : Nat → Nat) (hflags : l.flags = flags0) (sz : Nat) (p1 p2 : Int32) (res : Except String (Int32)) (h : R_X2_would k p1 p2 = some res) (hE : ∀ E, res = .error E → E ∈ [exIO, exIA]) : Met l yL_would (wsw_ yL_would cL_would 5 (some .int) [(0, 10, 13, 20), (0, 10, 17, 13)]) { frames := 8, cells := 1, slots := 6, locals := 136 } (va_Pc [.ref (aO a 0), .int p1, .int p2, .ref o] (lwB D c5 a k o g sx sz)) (va_Qi (lwQ cdIOIA a k (roR k res)) (rwE D (tyG c5) (va_A (LW c5 a k o g) sz) (fun u => LW c5 u.1 u.2.1 o u.2.2)) (va_A (LW c5 a k o g) sz)) 1 6 (va_A (LW c5 a k o g) sz) := by
  refine Met.ofWH (cc := cL_would) (maxL := 5) (ret := some .int) (hh := [(0, 10, 13, 20), (0, 10, 17, 13)]) (by decide) rfl ?_
  intro p e s m args below meth c s₁ B hml hv
  obtain ⟨rfl, hsz, hP, hK, hD0, hX, hN⟩ := hv
  have hx := B.exec
  have hb := B.bytes
  have hr := B.returns
  have hts : ∀ w ∈ LA, w.before _ s = true := fun w hw => atoms_spec (ws := wsw_ yL_would cL_would 5 (some .int) [(0, 10, 13, 20), (0, 10, 17, 13)]) B.pre w (List.mem_cons_of_mem _ hw)
  have htb : c.exceptionTable.toList = tableOf [(0, 10, 13, 20), (0, 10, 17, 13)] := vx_table (x := yL_would) B (atoms_spec (ws := wsw_ yL_would cL_would 5 (some .int) [(0, 10, 13, 20), (0, 10, 17, 13)]) B.pre _ List.mem_cons_self)
  have hown : s.vm.findClass RL = some m.cls := findClass_of_methodNamed B.named
  have hlocks := B.notSynchronized
  subst hsz
  have hI : KI a := KI_of (fr_D (X := []) (Y := [(o, outE c5 g)]) hD0)
  have hD := hD0.self (sz := s.heap.size)
  generalize hAe : va_A (LW c5 a k o g) s.heap.size = A at hD ⊢
  have hA : ∀ q : Nat, s.heap.size ≤ q → A q := fun q h => by rw [← hAe]; exact Or.inr h
  have hS : va_S A s.heap s.heap [] := va_S.rf
  have hl := lv_entry ([.ref (aO a 0), .int p1, .int p2, .ref o] : List Value) (n := 5) (Nat.le_of_ble_eq_true rfl)
  rw [lg_entry_eq]
  generalize (lg_sl ([.ref (aO a 0), .int p1, .int p2, .ref o] : List Value) ++ List.replicate (5 - (lg_sl ([.ref (aO a 0), .int p1, .int p2, .ref o] : List Value)).length) Slot.unset).toArray = ls at hl ⊢
  have hl : lv_has ls 5 [(0, .ref (aO a 0)), (1, .int p1), (2, .int p2), (3, .ref o)] := hl
  refine lv_aload_n hx hb dL_would_0 rfl (lv_at hl 3 rfl) ?_
  refine lv_iconst (v := (0 : Int32)) hx hb dL_would_1 (by decide) ?_
  refine lv_aload_n hx hb dL_would_2 rfl (lv_at hl 0 rfl) ?_
  refine lv_iload_n hx hb dL_would_3 rfl (lv_at hl 1 rfl) ?_
  refine lv_iload_n hx hb dL_would_4 rfl (lv_at hl 2 rfl) ?_
  cases res with
  | ok r =>
    refine ro_calli (ro_runV (As := [.int p1, .int p2]) (rest := [.int (0 : Int32), .ref o]) ⟨hx, hb, hml, hown, hts⟩ (fr_P (X := []) (Y := [(o, outE c5 g)]) hP) hK (c_X2_would l D c5 a k hI p1 p2 r h) gG_RL_53 (va_recv hK hP (ci := 2) (q0 := 0) rfl rfl) hd_X2_would ⟨Nat.le_of_ble_eq_true rfl, Nat.le_of_ble_eq_true rfl⟩ ⟨rfl, rfl⟩ hl.1 (Nat.le_of_ble_eq_true rfl) dL_would_5 ⟨Nat.zero_le _, Nat.zero_le _⟩ rfl) ?_
    have ha1 : a.1 = a.1 := rfl
    have hP : va_P D vwCl (LW c5 a k o g) _ := hP
    have hD : va_D A (LW c5 a k o g) := hD
    refine lv_i2l (v := (r).toInt64) hx hb dL_would_8 rfl ?_
    refine va_last hx hb hK hP hD hS (KW c5 a k).length 4 (LW_o c5 a k o g) rfl (inb_in (i := 0) (n := 1) rfl) dL_would_9 (fun H locs hP hD hS => ?_)
    have hP := wP (LW_set c5 a k o g _) hP
    have hD := wD (LW_set c5 a k o g _) hD
    refine lv_goto (tgt := 21) hx hb dL_would_10 (by decide) ?_
    refine lv_iconst (v := (0 : Int32)) hx hb dL_would_21 (by decide) ?_
    refine W.widen (k := 1) (n := 6) (Nat.le_of_ble_eq_true rfl) (Nat.le_of_ble_eq_true rfl) ?_
    exact W.iret hx hb hr (fun t ht hW => ⟨⟨_, (a, k, vp_updL g 0 (r).toInt64), rfl, ⟨ha1, rfl, rfl, rfl⟩, by rw [ht]; exact hP, va_K.moved hW.alike hK, hD⟩, hS.F ht⟩) hS.2.2 dL_would_22 hlocks
  | error E =>
    refine er_catch (er_runV (As := [.int p1, .int p2]) (rest := [.int (0 : Int32), .ref o]) ⟨hx, hb, hml, hown, hts⟩ (fr_P (X := []) (Y := [(o, outE c5 g)]) hP) hK hX (x_X2_would l D c5 a k hI sx hflags p1 p2 E h) gG_RL_53 (va_recv hK hP (ci := 2) (q0 := 0) rfl rfl) hd_X2_would ⟨Nat.le_of_ble_eq_true rfl, Nat.le_of_ble_eq_true rfl⟩ ⟨rfl, rfl⟩ hl.1 (Nat.le_of_ble_eq_true rfl) dL_would_5 ⟨Nat.le_of_ble_eq_true rfl, Nat.le_of_ble_eq_true rfl⟩ rfl) (fun ce q9 H hz hkp hce hcv hcl => ?_)
    have hP : va_P D vwCl (LW c5 a k o g) H := fun i q hi => (hP i q hi).kept (hkp q.1 (hP i q hi).lt)
    have hS : va_S A s.heap H [] := ⟨hz, fun q hq _ => hkp q hq, no_locs⟩
    have hEE := hE E rfl
    rcases List.mem_cons.mp hEE with rfl | hEE
    · skip
      refine vx_catch (own := RL) (name := exIO) (E := exIO) hown [] ⟨0, 10, 13, 20⟩ [⟨0, 10, 17, 13⟩] (htb.trans rfl) (fun _ h9 => absurd h9 List.not_mem_nil) rfl (by decide) (hts _ wT2_120) (va_Nw.use rfl (hX.2.2.2.1 exIO (by decide +kernel))) hce hcv hcl ?_
      refine lv_astore (i := 4) (lv' := [(4, .ref q9), (0, .ref (aO a 0)), (1, .int p1), (2, .int p2), (3, .ref o)]) hx hb dL_would_13 hl (by decide) rfl (fun ls hl => ?_)
      refine lv_iconst (v := (1 : Int32)) hx hb dL_would_15 (by decide) ?_
      exact W.iret hx hb hr (fun t ht hW => ⟨⟨_, (a, k, g), rfl, ⟨rfl, rfl, rfl⟩, by rw [ht]; exact hP, va_K.moved hW.alike hK, hD⟩, hS.F ht⟩) hS.2.2 dL_would_16 hlocks
    · obtain rfl := List.mem_singleton.mp hEE
      refine vx_catch (own := RL) (name := exIA) (E := exIA) hown [⟨0, 10, 13, 20⟩] ⟨0, 10, 17, 13⟩ [] (htb.trans rfl) (fun z hz9 => by obtain rfl := List.mem_singleton.mp hz9; exact Or.inr ⟨by decide, exIO, hts _ wT2_120, hN (exIA, exIO) (by decide +kernel)⟩) rfl (by decide) (hts _ wT2_45) (va_Nw.use rfl (hX.2.2.2.1 exIA (by decide +kernel))) hce hcv hcl ?_
      refine lv_astore (i := 4) (lv' := [(4, .ref q9), (0, .ref (aO a 0)), (1, .int p1), (2, .int p2), (3, .ref o)]) hx hb dL_would_17 hl (by decide) rfl (fun ls hl => ?_)
      refine lv_iconst (v := (2 : Int32)) hx hb dL_would_19 (by decide) ?_
      exact W.iret hx hb hr (fun t ht hW => ⟨⟨_, (a, k, g), rfl, ⟨rfl, rfl, rfl⟩, by rw [ht]; exact hP, va_K.moved hW.alike hK, hD⟩, hS.F ht⟩) hS.2.2 dL_would_20 hlocks
set_option maxHeartbeats 4000000 in
set_option maxRecDepth 100000 in
theorem c_L_gains (l : Launch) (D : va_G) (c5 : Nat → ClassId) (a : KAd) (k : KSt) (o : Nat) (g : Nat → Int64) (sx : Nat → Nat) (hflags : l.flags = flags0) (sz : Nat) (p1 : Int32) (res : Except String (Int32)) (h : R_X2_gains k p1 = some res) (hE : ∀ E, res = .error E → E ∈ [exIO]) : Met l yL_gains (wsw_ yL_gains cL_gains 4 (some .int) [(0, 9, 12, 20)]) { frames := 8, cells := 1, slots := 6, locals := 132 } (va_Pc [.ref (aO a 0), .int p1, .ref o] (lwB D c5 a k o g sx sz)) (va_Qi (lwQ cdIO a k (roR k res)) (rwE D (tyG c5) (va_A (LW c5 a k o g) sz) (fun u => LW c5 u.1 u.2.1 o u.2.2)) (va_A (LW c5 a k o g) sz)) 1 6 (va_A (LW c5 a k o g) sz) := by
  refine Met.ofWH (cc := cL_gains) (maxL := 4) (ret := some .int) (hh := [(0, 9, 12, 20)]) (by decide) rfl ?_
  intro p e s m args below meth c s₁ B hml hv
  obtain ⟨rfl, hsz, hP, hK, hD0, hX, hN⟩ := hv
  have hx := B.exec
  have hb := B.bytes
  have hr := B.returns
  have hts : ∀ w ∈ LA, w.before _ s = true := fun w hw => atoms_spec (ws := wsw_ yL_gains cL_gains 4 (some .int) [(0, 9, 12, 20)]) B.pre w (List.mem_cons_of_mem _ hw)
  have htb : c.exceptionTable.toList = tableOf [(0, 9, 12, 20)] := vx_table (x := yL_gains) B (atoms_spec (ws := wsw_ yL_gains cL_gains 4 (some .int) [(0, 9, 12, 20)]) B.pre _ List.mem_cons_self)
  have hown : s.vm.findClass RL = some m.cls := findClass_of_methodNamed B.named
  have hlocks := B.notSynchronized
  subst hsz
  have hI : KI a := KI_of (fr_D (X := []) (Y := [(o, outE c5 g)]) hD0)
  have hD := hD0.self (sz := s.heap.size)
  generalize hAe : va_A (LW c5 a k o g) s.heap.size = A at hD ⊢
  have hA : ∀ q : Nat, s.heap.size ≤ q → A q := fun q h => by rw [← hAe]; exact Or.inr h
  have hS : va_S A s.heap s.heap [] := va_S.rf
  have hl := lv_entry ([.ref (aO a 0), .int p1, .ref o] : List Value) (n := 4) (Nat.le_of_ble_eq_true rfl)
  rw [lg_entry_eq]
  generalize (lg_sl ([.ref (aO a 0), .int p1, .ref o] : List Value) ++ List.replicate (4 - (lg_sl ([.ref (aO a 0), .int p1, .ref o] : List Value)).length) Slot.unset).toArray = ls at hl ⊢
  have hl : lv_has ls 4 [(0, .ref (aO a 0)), (1, .int p1), (2, .ref o)] := hl
  refine lv_aload_n hx hb dL_gains_0 rfl (lv_at hl 2 rfl) ?_
  refine lv_iconst (v := (0 : Int32)) hx hb dL_gains_1 (by decide) ?_
  refine lv_aload_n hx hb dL_gains_2 rfl (lv_at hl 0 rfl) ?_
  refine lv_iload_n hx hb dL_gains_3 rfl (lv_at hl 1 rfl) ?_
  cases res with
  | ok r =>
    refine ro_calli (ro_runV (As := [.int p1]) (rest := [.int (0 : Int32), .ref o]) ⟨hx, hb, hml, hown, hts⟩ (fr_P (X := []) (Y := [(o, outE c5 g)]) hP) hK (c_X2_gains l D c5 a k hI p1 r h) gG_RL_56 (va_recv hK hP (ci := 2) (q0 := 0) rfl rfl) hd_X2_gains ⟨Nat.le_of_ble_eq_true rfl, Nat.le_of_ble_eq_true rfl⟩ ⟨rfl, rfl⟩ hl.1 (Nat.le_of_ble_eq_true rfl) dL_gains_4 ⟨Nat.zero_le _, Nat.zero_le _⟩ rfl) ?_
    have ha1 : a.1 = a.1 := rfl
    have hP : va_P D vwCl (LW c5 a k o g) _ := hP
    have hD : va_D A (LW c5 a k o g) := hD
    refine lv_i2l (v := (r).toInt64) hx hb dL_gains_7 rfl ?_
    refine va_last hx hb hK hP hD hS (KW c5 a k).length 4 (LW_o c5 a k o g) rfl (inb_in (i := 0) (n := 1) rfl) dL_gains_8 (fun H locs hP hD hS => ?_)
    have hP := wP (LW_set c5 a k o g _) hP
    have hD := wD (LW_set c5 a k o g _) hD
    refine lv_goto (tgt := 15) hx hb dL_gains_9 (by decide) ?_
    refine lv_iconst (v := (0 : Int32)) hx hb dL_gains_15 (by decide) ?_
    refine W.widen (k := 1) (n := 6) (Nat.le_of_ble_eq_true rfl) (Nat.le_of_ble_eq_true rfl) ?_
    exact W.iret hx hb hr (fun t ht hW => ⟨⟨_, (a, k, vp_updL g 0 (r).toInt64), rfl, ⟨ha1, rfl, rfl, rfl⟩, by rw [ht]; exact hP, va_K.moved hW.alike hK, hD⟩, hS.F ht⟩) hS.2.2 dL_gains_16 hlocks
  | error E =>
    refine er_catch (er_runV (As := [.int p1]) (rest := [.int (0 : Int32), .ref o]) ⟨hx, hb, hml, hown, hts⟩ (fr_P (X := []) (Y := [(o, outE c5 g)]) hP) hK hX (x_X2_gains l D c5 a k hI sx hflags p1 E h) gG_RL_56 (va_recv hK hP (ci := 2) (q0 := 0) rfl rfl) hd_X2_gains ⟨Nat.le_of_ble_eq_true rfl, Nat.le_of_ble_eq_true rfl⟩ ⟨rfl, rfl⟩ hl.1 (Nat.le_of_ble_eq_true rfl) dL_gains_4 ⟨Nat.le_of_ble_eq_true rfl, Nat.le_of_ble_eq_true rfl⟩ rfl) (fun ce q9 H hz hkp hce hcv hcl => ?_)
    have hP : va_P D vwCl (LW c5 a k o g) H := fun i q hi => (hP i q hi).kept (hkp q.1 (hP i q hi).lt)
    have hS : va_S A s.heap H [] := ⟨hz, fun q hq _ => hkp q hq, no_locs⟩
    have hEE := hE E rfl
    obtain rfl := List.mem_singleton.mp hEE
    refine vx_catch (own := RL) (name := exIO) (E := exIO) hown [] ⟨0, 9, 12, 20⟩ [] (htb.trans rfl) (fun _ h9 => absurd h9 List.not_mem_nil) rfl (by decide) (hts _ wT2_120) (va_Nw.use rfl (hX.2.2.2.1 exIO (by decide +kernel))) hce hcv hcl ?_
    refine lv_astore_n (i := 3) (lv' := [(3, .ref q9), (0, .ref (aO a 0)), (1, .int p1), (2, .ref o)]) hx hb dL_gains_12 rfl hl (by decide) rfl (fun ls hl => ?_)
    refine lv_iconst (v := (1 : Int32)) hx hb dL_gains_13 (by decide) ?_
    exact W.iret hx hb hr (fun t ht hW => ⟨⟨_, (a, k, g), rfl, ⟨rfl, rfl, rfl⟩, by rw [ht]; exact hP, va_K.moved hW.alike hK, hD⟩, hS.F ht⟩) hS.2.2 dL_gains_14 hlocks
